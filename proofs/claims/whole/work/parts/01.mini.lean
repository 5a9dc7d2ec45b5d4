/-! A SMALL MACHINE over cells that are numbers: its own texts (mm_). A method's code is a table of decoded rows; a run of it is a value. Later parts show that the machine of the claim does what it does. -/
/-- a cell's kind: an object of a numbered layout, or an array: 0 ints, 1 longs, 2 booleans, 3 references; its length -/
abbrev mm_Kd : Type := Nat ⊕ (Nat × Nat)
abbrev mm_S : Type := List mm_Kd × (Nat → Nat → Int32) × (Nat → Nat → Int64) × (Nat → Nat → Option Nat)
abbrev mm_C : Type := Nat × List (Option Value) × List Value × mm_S
abbrev mm_R : Type := Option Value × mm_S
abbrev mm_O : Type := Option (mm_C ⊕ (mm_R ⊕ (Nat × List Value × mm_C)))
/-- a row of code: instruction, length, a value, a target, three numbers, a switch -/
abbrev mm_E : Type := Instr × Nat × Value × Nat × Nat × Nat × Nat × List (Int32 × Nat)
def mm_find : List (Nat × mm_E) → Nat → Option mm_E
  | [], _ => none
  | (p, e) :: r, pc => match Nat.beq p pc with
    | true => some e
    | false => mm_find r pc
def mm_nth : List (List (Nat × mm_E)) → Nat → List (Nat × mm_E)
  | [], _ => []
  | a :: _, 0 => a
  | _ :: r, n + 1 => mm_nth r n
def mm_look (L : List (List (Nat × mm_E))) (pc : Nat) : Option mm_E := mm_find (mm_nth L (pc / 16)) pc
def mm_long : Option Value → Bool
  | some (.long _) => true
  | some (.double _) => true
  | _ => false
def mm_get : List (Option Value) → Nat → Option Value
  | [], _ => none
  | a :: _, 0 => a
  | _ :: r, n + 1 => mm_get r n
def mm_cut (a : Option Value) : Nat → Option Value
  | 0 => match mm_long a with
    | true => none
    | false => a
  | _ + 1 => a
def mm_set1 : List (Option Value) → Nat → Value → List (Option Value)
  | [], _, _ => []
  | _ :: r, 0, v => some v :: r
  | a :: r, n + 1, v => mm_cut a n :: mm_set1 r n v
def mm_set2 : List (Option Value) → Nat → Value → List (Option Value)
  | [], _, _ => []
  | [_], 0, v => [some v]
  | _ :: _ :: r, 0, v => some v :: none :: r
  | a :: r, n + 1, v => mm_cut a n :: mm_set2 r n v
def mm_kd : List mm_Kd → Nat → Option mm_Kd
  | [], _ => none
  | a :: _, 0 => some a
  | _ :: r, n + 1 => mm_kd r n
def mm_inb (i : Int32) (n : Nat) : Bool := !(decide (i < 0)) && Nat.blt i.toNatClampNeg n
def mm_cat : Value → Nat
  | .long _ => 2
  | .double _ => 2
  | _ => 1
def mm_cats : List Value → Nat
  | [] => 0
  | v :: r => mm_cat v + mm_cats r
def mm_setI (σ : mm_S) (k j : Nat) (x : Int32) : mm_S := (σ.1, (fun a b => if a = k ∧ b = j then x else σ.2.1 a b), σ.2.2.1, σ.2.2.2)
def mm_setL (σ : mm_S) (k j : Nat) (x : Int64) : mm_S := (σ.1, σ.2.1, (fun a b => if a = k ∧ b = j then x else σ.2.2.1 a b), σ.2.2.2)
def mm_setR (σ : mm_S) (k j : Nat) (x : Option Nat) : mm_S := (σ.1, σ.2.1, σ.2.2.1, fun a b => if a = k ∧ b = j then x else σ.2.2.2 a b)
/-- a new cell, all of it 0 or nothing -/
def mm_new (σ : mm_S) (kd : mm_Kd) : mm_S := (σ.1 ++ [kd], (fun a b => if a = σ.1.length then 0 else σ.2.1 a b), (fun a b => if a = σ.1.length then 0 else σ.2.2.1 a b), fun a b => if a = σ.1.length then none else σ.2.2.2 a b)
def mm_tg (pc : Nat) (off : Int) : Nat := ((pc : Int) + off).toNat
def mm_rv : Option Nat → Value
  | some a => .ref a
  | none => .null
def mm_nx (pc : Nat) (ls : List (Option Value)) (st : List Value) (σ : mm_S) : mm_O := some (.inl (pc, ls, st, σ))
def mm_sw : List (Int32 × Nat) → Nat → Int32 → Nat
  | [], d, _ => d
  | (k, t) :: r, d, x => if x = k then t else mm_sw r d x
/-- arguments off the stack, the last on top -/
def mm_pops : Nat → List Value → List Value → Option (List Value × List Value)
  | 0, acc, st => some (acc, st)
  | n + 1, acc, v :: st => mm_pops n (v :: acc) st
  | _ + 1, _, [] => none
def mm_bit (x : Int32) : Bool := decide (x = 0) || decide (x = 1)
