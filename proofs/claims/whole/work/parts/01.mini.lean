/-! A SMALL MACHINE over cells that are numbers: its own texts (mm_). A method's code is a table of decoded rows; a run of it is a value. Later parts show that the machine of the claim does what it does. -/
/-- a cell's kind: an object of a numbered layout, or an array: 0 ints, 1 longs, 2 booleans, 3 references; its length -/
abbrev mm_Kd : Type := Nat ⊕ (Nat × Nat)
abbrev mm_S : Type := List mm_Kd × (Nat → Nat → Int32) × (Nat → Nat → Int64) × (Nat → Nat → Option Nat)
abbrev mm_C : Type := Nat × List (Option Value) × List Value × mm_S
abbrev mm_R : Type := Option Value × mm_S
abbrev mm_O : Type := Option (mm_C ⊕ (mm_R ⊕ (Nat × List Value × mm_C)))
/-- a row of code: instruction, length, a value, a target, three numbers, a switch -/
abbrev mm_E : Type := Instr × Nat × Value × Nat × Nat × Nat × Nat × List (Int32 × Nat)
def mm_find : List (Nat × mm_E) → Nat → Option mm_E
  | [], _ => none
  | (p, e) :: r, pc => match Nat.beq p pc with
    | true => some e
    | false => mm_find r pc
def mm_nth : List (List (Nat × mm_E)) → Nat → List (Nat × mm_E)
  | [], _ => []
  | a :: _, 0 => a
  | _ :: r, n + 1 => mm_nth r n
def mm_look (L : List (List (Nat × mm_E))) (pc : Nat) : Option mm_E := mm_find (mm_nth L (pc / 16)) pc
def mm_long : Option Value → Bool
  | some (.long _) => true
  | some (.double _) => true
  | _ => false
def mm_get : List (Option Value) → Nat → Option Value
  | [], _ => none
  | a :: _, 0 => a
  | _ :: r, n + 1 => mm_get r n
def mm_cut (a : Option Value) : Nat → Option Value
  | 0 => match mm_long a with
    | true => none
    | false => a
  | _ + 1 => a
def mm_set1 : List (Option Value) → Nat → Value → List (Option Value)
  | [], _, _ => []
  | _ :: r, 0, v => some v :: r
  | a :: r, n + 1, v => mm_cut a n :: mm_set1 r n v
def mm_set2 : List (Option Value) → Nat → Value → List (Option Value)
  | [], _, _ => []
  | [_], 0, v => [some v]
  | _ :: _ :: r, 0, v => some v :: none :: r
  | a :: r, n + 1, v => mm_cut a n :: mm_set2 r n v
def mm_kd : List mm_Kd → Nat → Option mm_Kd
  | [], _ => none
  | a :: _, 0 => some a
  | _ :: r, n + 1 => mm_kd r n
def mm_inb (i : Int32) (n : Nat) : Bool := !(decide (i < 0)) && Nat.blt i.toNatClampNeg n
def mm_cat : Value → Nat
  | .long _ => 2
  | .double _ => 2
  | _ => 1
def mm_cats : List Value → Nat
  | [] => 0
  | v :: r => mm_cat v + mm_cats r
def mm_setI (σ : mm_S) (k j : Nat) (x : Int32) : mm_S := (σ.1, (fun a b => if a = k ∧ b = j then x else σ.2.1 a b), σ.2.2.1, σ.2.2.2)
def mm_setL (σ : mm_S) (k j : Nat) (x : Int64) : mm_S := (σ.1, σ.2.1, (fun a b => if a = k ∧ b = j then x else σ.2.2.1 a b), σ.2.2.2)
def mm_setR (σ : mm_S) (k j : Nat) (x : Option Nat) : mm_S := (σ.1, σ.2.1, σ.2.2.1, fun a b => if a = k ∧ b = j then x else σ.2.2.2 a b)
/-- a new cell, all of it 0 or nothing -/
def mm_new (σ : mm_S) (kd : mm_Kd) : mm_S := (σ.1 ++ [kd], (fun a b => if a = σ.1.length then 0 else σ.2.1 a b), (fun a b => if a = σ.1.length then 0 else σ.2.2.1 a b), fun a b => if a = σ.1.length then none else σ.2.2.2 a b)
def mm_rv : Option Nat → Value
  | some a => .ref a
  | none => .null
def mm_nx (pc : Nat) (ls : List (Option Value)) (st : List Value) (σ : mm_S) : mm_O := some (.inl (pc, ls, st, σ))
def mm_sw : List (Int32 × Nat) → Nat → Int32 → Nat
  | [], d, _ => d
  | (k, t) :: r, d, x => if x = k then t else mm_sw r d x
/-- arguments off the stack, the last on top -/
def mm_pops : Nat → List Value → List Value → Option (List Value × List Value)
  | 0, acc, st => some (acc, st)
  | n + 1, acc, v :: st => mm_pops n (v :: acc) st
  | _ + 1, _, [] => none
def mm_bit (x : Int32) : Bool := decide (x = 0) || decide (x = 1)
/-- X: arrays that nobody writes, from 1000000 on; Y: texts, from 2000000 on -/
def mm_intr (Y : Nat → List Int32) (kind pc : Nat) (ls : List (Option Value)) (st : List Value) (σ : mm_S) : mm_O :=
  match kind, st with
  | 10, .int y :: .int x :: r => mm_nx pc ls (.int (if y < x then y else x) :: r) σ
  | 11, .int y :: .int x :: r => mm_nx pc ls (.int (if x < y then y else x) :: r) σ
  | 12, .long y :: .long x :: r => mm_nx pc ls (.long (if y < x then y else x) :: r) σ
  | 13, .long y :: .long x :: r => mm_nx pc ls (.long (if x < y then y else x) :: r) σ
  | 14, .ref a :: r => mm_nx pc ls (.int (Int32.ofNat (Y (a - 2000000)).length) :: r) σ
  | 15, .int i :: .ref a :: r => cond (mm_inb i (Y (a - 2000000)).length) (mm_nx pc ls (.int ((Y (a - 2000000)).getD i.toNatClampNeg 0) :: r) σ) none
  | _, _ => none
/-- the object that a method is called on: of the layout k (t is 0), or any (2, 6); 1, 5: none -/
def mm_head (t k : Nat) (K : List mm_Kd) (args : List Value) : Bool := match t with
  | 0 => match args with
    | .ref x :: _ => match mm_kd K x with
      | some (.inl ci) => Nat.beq ci k
      | _ => false
    | _ => false
  | 1 => true
  | 5 => true
  | _ => match args with
    | .ref _ :: _ => true
    | _ => false
def mm_call1 (Y : Nat → List Int32) (t a b k pc : Nat) (ls : List (Option Value)) (st : List Value) (σ : mm_S) : mm_O :=
  match Nat.ble 10 t with
  | true => match Nat.ble (mm_cats st) 10 with
    | true => mm_intr Y t pc ls st σ
    | false => none
  | false => match mm_pops b [] st with
    | some (args, rest) => match Nat.ble (mm_cats rest) 8, mm_head t k σ.1 args with
      | true, true => some (.inr (.inr (a, args, (pc, ls, rest, σ))))
      | _, _ => none
    | none => none
def mm_step (X : Nat → Nat × (Nat → Int32)) (Y : Nat → List Int32) (code : Nat → Option mm_E) : mm_C → mm_O
  | (pc, ls, st, σ) => match code pc with
    | none => none
    | some (ins, len, v, t, a, b, k, sw) => match ins, st with
      | .aload i, st => match mm_get ls i with
        | some (.ref x) => mm_nx (pc + len) ls (.ref x :: st) σ
        | _ => none
      | .aload_n i, st => match mm_get ls t with
        | some (.ref x) => mm_nx (pc + len) ls (.ref x :: st) σ
        | _ => none
      | .iload i, st => match mm_get ls i with
        | some (.int x) => mm_nx (pc + len) ls (.int x :: st) σ
        | _ => none
      | .iload_n i, st => match mm_get ls t with
        | some (.int x) => mm_nx (pc + len) ls (.int x :: st) σ
        | _ => none
      | .lload i, st => match mm_get ls i with
        | some (.long x) => mm_nx (pc + len) ls (.long x :: st) σ
        | _ => none
      | .lload_n i, st => match mm_get ls t with
        | some (.long x) => mm_nx (pc + len) ls (.long x :: st) σ
        | _ => none
      | .istore i, .int x :: r => mm_nx (pc + len) (mm_set1 ls i (.int x)) r σ
      | .istore_n i, .int x :: r => mm_nx (pc + len) (mm_set1 ls t (.int x)) r σ
      | .astore i, .ref x :: r => mm_nx (pc + len) (mm_set1 ls i (.ref x)) r σ
      | .astore_n i, .ref x :: r => mm_nx (pc + len) (mm_set1 ls t (.ref x)) r σ
      | .lstore i, .long x :: r => mm_nx (pc + len) (mm_set2 ls i (.long x)) r σ
      | .lstore_n i, .long x :: r => mm_nx (pc + len) (mm_set2 ls t (.long x)) r σ
      | .iinc i _, st => match mm_get ls i, v with
        | some (.int x), .int c => mm_nx (pc + len) (mm_set1 ls i (.int (x + c))) st σ
        | _, _ => none
      | .iconst _, st => mm_nx (pc + len) ls (v :: st) σ
      | .bipush _, st => mm_nx (pc + len) ls (v :: st) σ
      | .sipush _, st => mm_nx (pc + len) ls (v :: st) σ
      | .lconst _, st => mm_nx (pc + len) ls (v :: st) σ
      | .ldc _, st => mm_nx (pc + len) ls (v :: st) σ
      | .ldc_w _, st => mm_nx (pc + len) ls (v :: st) σ
      | .ldc2_w _, st => mm_nx (pc + len) ls (v :: st) σ
      | .getstatic _, st => mm_nx (pc + len) ls (v :: st) σ
      | .iadd, .int y :: .int x :: r => mm_nx (pc + len) ls (.int (x + y) :: r) σ
      | .isub, .int y :: .int x :: r => mm_nx (pc + len) ls (.int (x - y) :: r) σ
      | .imul, .int y :: .int x :: r => mm_nx (pc + len) ls (.int (x * y) :: r) σ
      | .iand, .int y :: .int x :: r => mm_nx (pc + len) ls (.int (x &&& y) :: r) σ
      | .ior, .int y :: .int x :: r => mm_nx (pc + len) ls (.int (x ||| y) :: r) σ
      | .idiv, .int y :: .int x :: r => if y = 0 then none else mm_nx (pc + len) ls (.int (x / y) :: r) σ
      | .irem, .int y :: .int x :: r => if y = 0 then none else mm_nx (pc + len) ls (.int (x - x / y * y) :: r) σ
      | .ishl, .int y :: .int x :: r => mm_nx (pc + len) ls (.int (x <<< (y &&& 31)) :: r) σ
      | .ishr, .int y :: .int x :: r => mm_nx (pc + len) ls (.int (x >>> (y &&& 31)) :: r) σ
      | .iushr, .int y :: .int x :: r => mm_nx (pc + len) ls (.int (x.toUInt32 >>> (y.toUInt32 &&& Int32.toUInt32 31)).toInt32 :: r) σ
      | .ladd, .long y :: .long x :: r => mm_nx (pc + len) ls (.long (x + y) :: r) σ
      | .lsub, .long y :: .long x :: r => mm_nx (pc + len) ls (.long (x - y) :: r) σ
      | .lmul, .long y :: .long x :: r => mm_nx (pc + len) ls (.long (x * y) :: r) σ
      | .ldiv, .long y :: .long x :: r => if y = 0 then none else mm_nx (pc + len) ls (.long (x / y) :: r) σ
      | .lrem, .long y :: .long x :: r => if y = 0 then none else mm_nx (pc + len) ls (.long (x - x / y * y) :: r) σ
      | .lcmp, .long y :: .long x :: r => mm_nx (pc + len) ls (.int (lg_cmp x y) :: r) σ
      | .i2l, .int x :: r => mm_nx (pc + len) ls (.long x.toInt64 :: r) σ
      | .l2i, .long x :: r => mm_nx (pc + len) ls (.int x.toInt32 :: r) σ
      | .dup, .int x :: r => mm_nx (pc + len) ls (.int x :: .int x :: r) σ
      | .dup, .ref x :: r => mm_nx (pc + len) ls (.ref x :: .ref x :: r) σ
      | .dup2, .int y :: .ref x :: r => mm_nx (pc + len) ls (.int y :: .ref x :: .int y :: .ref x :: r) σ
      | .dup_x1, .int y :: .ref x :: r => mm_nx (pc + len) ls (.int y :: .ref x :: .int y :: r) σ
      | .pop, .int _ :: r => mm_nx (pc + len) ls r σ
      | .goto _, st => mm_nx t ls st σ
      | .ifCond .eq _, .int x :: r => mm_nx (if x = 0 then t else pc + len) ls r σ
      | .ifCond .ne _, .int x :: r => mm_nx (if x = 0 then pc + len else t) ls r σ
      | .ifCond .lt _, .int x :: r => mm_nx (if x < 0 then t else pc + len) ls r σ
      | .ifCond .ge _, .int x :: r => mm_nx (if 0 ≤ x then t else pc + len) ls r σ
      | .ifCond .gt _, .int x :: r => mm_nx (if 0 < x then t else pc + len) ls r σ
      | .ifCond .le _, .int x :: r => mm_nx (if x ≤ 0 then t else pc + len) ls r σ
      | .if_icmp .eq _, .int y :: .int x :: r => mm_nx (if x = y then t else pc + len) ls r σ
      | .if_icmp .ne _, .int y :: .int x :: r => mm_nx (if x = y then pc + len else t) ls r σ
      | .if_icmp .lt _, .int y :: .int x :: r => mm_nx (if x < y then t else pc + len) ls r σ
      | .if_icmp .ge _, .int y :: .int x :: r => mm_nx (if y ≤ x then t else pc + len) ls r σ
      | .if_icmp .gt _, .int y :: .int x :: r => mm_nx (if y < x then t else pc + len) ls r σ
      | .if_icmp .le _, .int y :: .int x :: r => mm_nx (if x ≤ y then t else pc + len) ls r σ
      | .tableswitch _ _ _ _, .int x :: r => mm_nx (mm_sw sw t x) ls r σ
      | .lookupswitch _ _, .int x :: r => mm_nx (mm_sw sw t x) ls r σ
      | .getfield _, .ref x :: r => match mm_kd σ.1 x with
        | some (.inl ci) => match Nat.beq ci a with
          | true => match k with
            | 0 => mm_nx (pc + len) ls (.int (σ.2.1 x b) :: r) σ
            | 1 => mm_nx (pc + len) ls (.long (σ.2.2.1 x b) :: r) σ
            | _ => mm_nx (pc + len) ls (mm_rv (σ.2.2.2 x b) :: r) σ
          | false => none
        | _ => none
      | .putfield _, w :: .ref x :: r => match mm_kd σ.1 x with
        | some (.inl ci) => match Nat.beq ci a with
          | true => match k, w with
            | 0, .int y => mm_nx (pc + len) ls r (mm_setI σ x b y)
            | 1, .long y => mm_nx (pc + len) ls r (mm_setL σ x b y)
            | 2, .ref y => mm_nx (pc + len) ls r (mm_setR σ x b (some y))
            | 3, .int y => cond (mm_bit y) (mm_nx (pc + len) ls r (mm_setI σ x b y)) none
            | _, _ => none
          | false => none
        | _ => none
      | .iaload, .int i :: .ref x :: r => match Nat.blt x 1000000 with
        | true => match mm_kd σ.1 x with
          | some (.inr (0, n)) => cond (mm_inb i n) (mm_nx (pc + len) ls (.int (σ.2.1 x i.toNatClampNeg) :: r) σ) none
          | _ => none
        | false => cond (mm_inb i (X (x - 1000000)).1) (mm_nx (pc + len) ls (.int ((X (x - 1000000)).2 i.toNatClampNeg) :: r) σ) none
      | .baload, .int i :: .ref x :: r => match mm_kd σ.1 x with
        | some (.inr (2, n)) => cond (mm_inb i n) (mm_nx (pc + len) ls (.int (σ.2.1 x i.toNatClampNeg) :: r) σ) none
        | _ => none
      | .laload, .int i :: .ref x :: r => match mm_kd σ.1 x with
        | some (.inr (1, n)) => cond (mm_inb i n) (mm_nx (pc + len) ls (.long (σ.2.2.1 x i.toNatClampNeg) :: r) σ) none
        | _ => none
      | .aaload, .int i :: .ref x :: r => match mm_kd σ.1 x with
        | some (.inr (3, n)) => cond (mm_inb i n) (mm_nx (pc + len) ls (mm_rv (σ.2.2.2 x i.toNatClampNeg) :: r) σ) none
        | _ => none
      | .iastore, .int y :: .int i :: .ref x :: r => match mm_kd σ.1 x with
        | some (.inr (0, n)) => cond (mm_inb i n) (mm_nx (pc + len) ls r (mm_setI σ x i.toNatClampNeg y)) none
        | _ => none
      | .bastore, .int y :: .int i :: .ref x :: r => match mm_kd σ.1 x with
        | some (.inr (2, n)) => cond (mm_inb i n && mm_bit y) (mm_nx (pc + len) ls r (mm_setI σ x i.toNatClampNeg y)) none
        | _ => none
      | .lastore, .long y :: .int i :: .ref x :: r => match mm_kd σ.1 x with
        | some (.inr (1, n)) => cond (mm_inb i n) (mm_nx (pc + len) ls r (mm_setL σ x i.toNatClampNeg y)) none
        | _ => none
      | .aastore, .ref y :: .int i :: .ref x :: r => match mm_kd σ.1 x, mm_kd σ.1 y with
        | some (.inr (3, n)), some (.inl ci) => match Nat.beq ci a with
          | true => cond (mm_inb i n) (mm_nx (pc + len) ls r (mm_setR σ x i.toNatClampNeg (some y))) none
          | false => none
        | _, _ => none
      | .arraylength, .ref x :: r => match Nat.blt x 1000000 with
        | true => match mm_kd σ.1 x with
          | some (.inr (_, n)) => mm_nx (pc + len) ls (.int (Int32.ofNat n) :: r) σ
          | _ => none
        | false => mm_nx (pc + len) ls (.int (Int32.ofNat (X (x - 1000000)).1) :: r) σ
      | .new _, st => match Nat.blt σ.1.length 1000000 with
        | true => mm_nx (pc + len) ls (.ref σ.1.length :: st) (mm_new σ (.inl a))
        | false => none
      | .newarray _, .int n :: r => match decide (n < 0), Nat.blt n.toNatClampNeg 60000, Nat.blt σ.1.length 1000000 with
        | false, true, true => mm_nx (pc + len) ls (.ref σ.1.length :: r) (mm_new σ (.inr (k, n.toNatClampNeg)))
        | _, _, _ => none
      | .anewarray _, .int n :: r => match decide (n < 0), Nat.blt n.toNatClampNeg 60000, Nat.blt σ.1.length 1000000 with
        | false, true, true => mm_nx (pc + len) ls (.ref σ.1.length :: r) (mm_new σ (.inr (3, n.toNatClampNeg)))
        | _, _, _ => none
      | .invokevirtual _, st => mm_call1 Y t a b k (pc + len) ls st σ
      | .invokestatic _, st => mm_call1 Y t a b k (pc + len) ls st σ
      | .invokespecial _, st => match t, st with
        | 9, .ref _ :: r => mm_nx (pc + len) ls r σ
        | t, st => mm_call1 Y t a b k (pc + len) ls st σ
      | .ireturn, [.int x] => match k with
        | 0 => some (.inr (.inl (some (.int x), σ)))
        | _ => cond (mm_bit x) (some (.inr (.inl (some (.int x), σ)))) none
      | .lreturn, [.long x] => some (.inr (.inl (some (.long x), σ)))
      | .return_, [] => some (.inr (.inl (none, σ)))
      | _, _ => none
