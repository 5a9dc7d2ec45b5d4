/-! THE CELLS behind the two constructors, and states over them: ints, longs, and which Act stands where (0 .. 3 acts, 4 spare, 5 the parser's out). -/
def mm_K0 : List mm_Kd := [.inl 0, .inl 1, .inr (0, 42), .inl 2, .inr (0, 3), .inr (0, 3), .inr (0, 3), .inr (0, 3), .inr (0, 6), .inr (0, 6), .inr (0, 6), .inr (0, 6), .inl 3, .inr (0, 40), .inr (0, 40), .inr (0, 40), .inr (0, 40), .inr (2, 40), .inr (2, 40), .inr (0, 40), .inr (0, 40), .inr (0, 40), .inr (0, 40), .inr (0, 40), .inr (0, 40), .inl 4, .inr (0, 16), .inr (0, 16), .inr (0, 16), .inr (2, 16), .inr (0, 16), .inr (0, 16), .inr (0, 16), .inr (0, 16), .inr (2, 16), .inr (0, 16), .inl 5, .inr (0, 600), .inr (3, 4), .inr (0, 5), .inl 6, .inr (0, 24), .inr (0, 24), .inr (0, 24), .inr (0, 24), .inr (0, 600), .inr (0, 600), .inr (0, 64), .inl 6, .inr (0, 24), .inr (0, 24), .inr (0, 24), .inr (0, 24), .inr (0, 600), .inr (0, 600), .inr (0, 64), .inl 6, .inr (0, 24), .inr (0, 24), .inr (0, 24), .inr (0, 24), .inr (0, 600), .inr (0, 600), .inr (0, 64), .inl 6, .inr (0, 24), .inr (0, 24), .inr (0, 24), .inr (0, 24), .inr (0, 600), .inr (0, 600), .inr (0, 64), .inl 6, .inr (0, 24), .inr (0, 24), .inr (0, 24), .inr (0, 24), .inr (0, 600), .inr (0, 600), .inr (0, 64), .inl 7, .inr (0, 64), .inl 8, .inr (0, 200), .inr (0, 200), .inr (0, 200), .inr (0, 200), .inr (0, 200), .inr (2, 200), .inr (0, 200), .inr (1, 200), .inr (0, 100), .inr (0, 100), .inr (0, 100), .inl 9, .inr (0, 32), .inr (0, 32), .inr (0, 17), .inr (0, 8), .inr (0, 8), .inr (0, 8), .inr (0, 8), .inl 10, .inr (0, 16), .inr (2, 16), .inr (2, 16), .inr (0, 16), .inr (0, 16), .inr (0, 16), .inr (0, 16), .inr (0, 16), .inl 11, .inr (0, 8), .inr (0, 8), .inr (0, 8), .inr (0, 16), .inl 12, .inr (0, 17), .inr (0, 3), .inr (0, 3), .inr (0, 3), .inr (0, 3), .inr (0, 42), .inr (0, 6), .inr (0, 6), .inr (0, 6), .inr (0, 6), .inr (0, 16), .inr (0, 16), .inr (0, 16), .inr (2, 16), .inr (2, 16), .inr (0, 40), .inr (0, 40), .inr (0, 40), .inr (0, 40), .inr (0, 40), .inr (0, 40), .inr (0, 40), .inr (1, 40), .inr (2, 40), .inr (2, 40), .inr (0, 40), .inr (0, 40), .inr (0, 16), .inr (0, 16), .inr (0, 16), .inr (0, 16), .inr (0, 16), .inr (0, 16), .inr (0, 200), .inr (0, 200), .inr (0, 200), .inr (0, 100), .inr (0, 100), .inr (0, 100), .inr (2, 200), .inr (0, 4), .inr (0, 4), .inr (0, 96), .inr (0, 100), .inr (0, 96), .inr (0, 4880), .inr (0, 24), .inr (0, 25), .inr (0, 24), .inr (0, 1220), .inr (0, 600), .inr (0, 620), .inr (0, 6), .inr (0, 8), .inr (0, 8), .inr (0, 32), .inr (0, 32), .inr (0, 16), .inr (0, 16), .inr (0, 8), .inr (0, 8), .inr (0, 8)]
def mm_R0t : List (List (Option Nat)) := [[some 1, some 3, some 12, some 25, some 36, some 82, some 94, some 102, some 111], [some 2], [], [some 4, some 5, some 6, some 7, some 8, some 9, some 10, some 11], [], [], [], [], [], [], [], [], [some 13, some 14, some 15, some 16, some 17, some 18, some 19, some 20, some 21, some 22, some 23, some 24], [], [], [], [], [], [], [], [], [], [], [], [], [some 26, some 27, some 28, some 29, some 30, some 31, some 32, some 33, some 34, some 35], [], [], [], [], [], [], [], [], [], [], [some 37, some 38, some 39, none, some 80], [], [], [], [some 41, some 42, some 43, some 44, some 45, some 46, some 47], [], [], [], [], [], [], [], [some 49, some 50, some 51, some 52, some 53, some 54, some 55], [], [], [], [], [], [], [], [some 57, some 58, some 59, some 60, some 61, some 62, some 63], [], [], [], [], [], [], [], [some 65, some 66, some 67, some 68, some 69, some 70, some 71], [], [], [], [], [], [], [], [some 73, some 74, some 75, some 76, some 77, some 78, some 79], [], [], [], [], [], [], [], [some 37, none, none, none, none, none, none, none, none, some 81], [], [some 83, some 84, some 85, some 86, some 87, some 88, some 89, some 90, none, some 91, some 92, some 93], [], [], [], [], [], [], [], [], [], [], [], [some 95, some 96, some 97, some 98, some 99, some 100, some 101], [], [], [], [], [], [], [], [some 103, some 104, some 105, some 106, some 107, some 108, some 109, some 110], [], [], [], [], [], [], [], [], [some 112, some 113, some 114, some 115], [], [], [], [], [some 117, none, none, none, none, none, none, none, none, none, none, none, some 118, some 119, some 120, some 121, some 122, some 123, some 124, some 125, some 126, some 127, some 128, some 129, some 130, some 131, some 132, some 133, some 134, some 135, some 136, some 137, some 138, some 139, some 140, some 141, none, none, none, none, none, none, none, none, none, none, none, some 142, some 143, some 144, some 145, some 146, some 147, some 148, some 149, none, none, none, none, some 150, some 151, some 152, some 153, some 154, some 155, some 156, some 157, some 158, some 159, some 160, some 161, some 162, some 163, some 164, some 165, some 166, some 167, some 168, none, none, none, none, none, none, none, none, none, none, none, none, some 169, none, none, none, some 170, some 171, some 172, some 173, some 174, some 175, none, none, none, none, some 176, some 177, some 178], [], [], [], [], [], [], [], [], [], [], [], [], [], [], [], [], [], [], [], [], [], [], [], [], [], [], [], [], [], [], [], [], [], [], [], [], [], [], [], [], [], [], [], [], [], [], [], [], [], [], [], [], [], [], [], [], [], [], [], [], [], []]
def mm_nr : List (List (Option Nat)) → Nat → List (Option Nat)
  | [], _ => []
  | a :: _, 0 => a
  | _ :: r, n + 1 => mm_nr r n
def mm_no : List (Option Nat) → Nat → Option Nat
  | [], _ => none
  | a :: _, 0 => a
  | _ :: r, n + 1 => mm_no r n
def mm_R0 (P : Nat → Nat) (k j : Nat) : Option Nat := match Nat.beq k 38 with
  | true => match Nat.blt j 4 with
    | true => some (P j)
    | false => none
  | false => match Nat.beq k 36 && Nat.beq j 3 with
    | true => some (P 4)
    | false => match Nat.beq k 80 && Nat.beq j 6 with
      | true => some (P 5)
      | false => mm_no (mm_nr mm_R0t k) j
abbrev mS : Type := (Nat → Nat → Int32) × (Nat → Nat → Int64) × (Nat → Nat)
def mT (s : mS) : mm_S := (mm_K0, s.1, s.2.1, mm_R0 s.2.2)
def gI (s : mS) (c j : Nat) : Int32 := s.1 c j
def gL (s : mS) (c j : Nat) : Int64 := s.2.1 c j
def sI (s : mS) (c j : Nat) (x : Int32) : mS := (fun a b => if a = c ∧ b = j then x else s.1 a b, s.2.1, s.2.2)
def sL (s : mS) (c j : Nat) (x : Int64) : mS := (s.1, fun a b => if a = c ∧ b = j then x else s.2.1 a b, s.2.2)
def sP (s : mS) (k v : Nat) : mS := (s.1, s.2.1, fun j => if j = k then v else s.2.2 j)
abbrev ix (i : Int32) : Nat := i.toNatClampNeg
def mm_N : Nat := 100000
section WALK
variable {X : Nat → Nat × (Nat → Int32)} {Y : Nat → List Int32} {cf : Nat → List Value → mm_S → Option mm_R} {code : Nat → Option mm_E} {T : Option mm_R}
variable {A B : Prop} {α : Type} {c c2 : mm_C}
theorem w_go (K : α → Prop) {t : α} (n : Nat) {c c' : mm_C} (h : mm_go X Y code n c = some c') (k : A → K t → mm_fix X Y cf code c' = T) : A → K t → mm_fix X Y cf code c = T := fun a b => (mm_fix_go X Y cf code n h).trans (k a b)
theorem w_br (K : α → Prop) {p : Prop} [Decidable p] {t f : α} {a b : Nat} {ls : List (Option Value)} {st : List Value} {σ : mm_S} (h : mm_step X Y code c = some (.inl (if p then a else b, ls, st, σ))) (kt : p → A → K t → mm_fix X Y cf code (a, ls, st, σ) = T) (kf : ¬ p → B → K f → mm_fix X Y cf code (b, ls, st, σ) = T) : (if p then A else B) → K (if p then t else f) → mm_fix X Y cf code c = T := by
  intro h1 h2
  rw [mm_fix_next X Y cf code h]
  by_cases hp : p
  · rw [if_pos hp] at h1 h2 ⊢; exact kt hp h1 h2
  · rw [if_neg hp] at h1 h2 ⊢; exact kf hp h1 h2
theorem w_brT (K : α → Prop) {p : Prop} [Decidable p] {t f : α} {a b : Nat} {ls : List (Option Value)} {st : List Value} {σ : mm_S} (h : mm_step X Y code c = some (.inl (if p then a else b, ls, st, σ))) (kt : p → True → K t → mm_fix X Y cf code (a, ls, st, σ) = T) (kf : ¬ p → True → K f → mm_fix X Y cf code (b, ls, st, σ) = T) : True → K (if p then t else f) → mm_fix X Y cf code c = T := by
  intro h1 h2
  rw [mm_fix_next X Y cf code h]
  by_cases hp : p
  · rw [if_pos hp] at h2 ⊢; exact kt hp trivial h2
  · rw [if_neg hp] at h2 ⊢; exact kf hp trivial h2
theorem w_sw (K : α → Prop) {k : Int32} {a d : Nat} {r : List (Int32 × Nat)} {x : Int32} {t f : α} {ls : List (Option Value)} {st : List Value} {σ : mm_S} (kt : x = k → A → K t → mm_fix X Y cf code (a, ls, st, σ) = T) (kf : ¬ x = k → B → K f → mm_fix X Y cf code (mm_sw r d x, ls, st, σ) = T) : (if x = k then A else B) → K (if x = k then t else f) → mm_fix X Y cf code (mm_sw ((k, a) :: r) d x, ls, st, σ) = T := by
  intro h1 h2
  show mm_fix X Y cf code (if x = k then a else mm_sw r d x, ls, st, σ) = T
  by_cases hp : x = k
  · rw [if_pos hp] at h1 h2 ⊢; exact kt hp h1 h2
  · rw [if_neg hp] at h1 h2 ⊢; exact kf hp h1 h2
theorem w_swT (K : α → Prop) {k : Int32} {a d : Nat} {r : List (Int32 × Nat)} {x : Int32} {t f : α} {ls : List (Option Value)} {st : List Value} {σ : mm_S} (kt : x = k → True → K t → mm_fix X Y cf code (a, ls, st, σ) = T) (kf : ¬ x = k → True → K f → mm_fix X Y cf code (mm_sw r d x, ls, st, σ) = T) : True → K (if x = k then t else f) → mm_fix X Y cf code (mm_sw ((k, a) :: r) d x, ls, st, σ) = T := by
  intro h1 h2
  show mm_fix X Y cf code (if x = k then a else mm_sw r d x, ls, st, σ) = T
  by_cases hp : x = k
  · rw [if_pos hp] at h2 ⊢; exact kt hp trivial h2
  · rw [if_neg hp] at h2 ⊢; exact kf hp trivial h2
theorem w_ck (K : α → Prop) {b : Bool} {t : α} {c' : mm_C} (h : mm_step X Y code c = cond b (some (.inl c')) none) (k : A → K t → mm_fix X Y cf code c' = T) : (b = true ∧ A) → K t → mm_fix X Y cf code c = T := by
  intro h1 h2
  obtain ⟨hb, ha⟩ := h1
  subst hb
  rw [mm_fix_next X Y cf code h]
  exact k ha h2
theorem w_ret (K : α → Prop) {t : α} {r : mm_R} (h : mm_step X Y code c = some (.inr (.inl r))) (hr : K t → some r = T) : True → K t → mm_fix X Y cf code c = T := fun _ h2 => (mm_fix_ret X Y cf code h).trans (hr h2)
theorem w_retb (K : α → Prop) {t : α} {b : Bool} {r : mm_R} (h : mm_step X Y code c = cond b (some (.inr (.inl r))) none) (hr : K t → some r = T) : b = true → K t → mm_fix X Y cf code c = T := by
  intro h1 h2
  subst h1
  exact (mm_fix_ret X Y cf code h).trans (hr h2)
theorem w_call (K : α → Prop) {t : α} {id : Nat} {args : List Value} {pc : Nat} {ls : List (Option Value)} {st : List Value} {σ : mm_S} {v : Option Value} {τ : mm_S} (h : mm_step X Y code c = some (.inr (.inr (id, args, pc, ls, st, σ)))) (hc : B → cf id args σ = some (v, τ)) (k : A → K t → mm_fix X Y cf code (pc, ls, v.toList ++ st, τ) = T) : (B ∧ A) → K t → mm_fix X Y cf code c = T := by
  intro h1 h2
  rw [mm_fix_call X Y cf code h, hc h1.1]
  exact k h1.2 h2
theorem w_callT (K : α → Prop) {t : α} {id : Nat} {args : List Value} {pc : Nat} {ls : List (Option Value)} {st : List Value} {σ : mm_S} {v : Option Value} {τ : mm_S} (h : mm_step X Y code c = some (.inr (.inr (id, args, pc, ls, st, σ)))) (hc : True → cf id args σ = some (v, τ)) (k : A → K t → mm_fix X Y cf code (pc, ls, v.toList ++ st, τ) = T) : A → K t → mm_fix X Y cf code c = T := by
  intro h1 h2
  rw [mm_fix_call X Y cf code h, hc trivial]
  exact k h1 h2
/-- a loop, then what is behind it -/
theorem w_loop (K : α → Prop) {t : α} {D : Prop} (hl : B → D → mm_fix X Y cf code c = T) (k : A → K t → D) : (B ∧ A) → K t → mm_fix X Y cf code c = T := fun h1 h2 => hl h1.1 (k h1.2 h2)
def mq_el {β γ : Type} (o : Option β) (a : β → γ) (b : γ) : γ := match o with
  | some x => a x
  | none => b
def mq_elP {β : Type} (o : Option β) (A : Prop) : Prop := match o with
  | some _ => True
  | none => A
theorem w_loopR {β : Type} (K : α → Prop) {o : Option β} {u : β → α} {t : α} {D1 D2 : Prop} (hl : B → ((∀ v, o = some v → D1) ∧ (o = none → D2)) → mm_fix X Y cf code c = T) (k1 : ∀ v, o = some v → K (u v) → D1) (k2 : A → K t → D2) : (B ∧ mq_elP o A) → K (mq_el o u t) → mm_fix X Y cf code c = T := by
  intro h1 h2
  refine hl h1.1 ⟨fun v hv => ?_, fun hv => ?_⟩
  · rw [hv] at h2; exact k1 v hv h2
  · rw [hv] at h1 h2; exact k2 h1.2 h2
end WALK
theorem mm_x0 {len : Nat} {xs : Nat → Int32} {Y : Nat → List Int32} {code : Nat → Option mm_E} {pc : Nat} {ls : List (Option Value)} {i : Int32} {r : List Value} {σ : mm_S} {v : Value} {t a b k : Nat} {sw : List (Int32 × Nat)} (hc : code pc = some (.iaload, 1, v, t, a, b, k, sw)) : mm_step (mm_X len xs) Y code (pc, ls, .int i :: .ref 1000000 :: r, σ) = cond (mm_inb i 17) (some (.inl (pc + 1, ls, .int (mm_parts.getD (ix i) 0) :: r, σ))) none := by
  have e1 : Nat.blt 1000000 1000000 = false := by decide +kernel
  have e2 : Nat.blt 1000000 1000002 = true := by decide +kernel
  simp only [mm_step, hc, e1, e2, Nat.sub_self, Bool.true_and]
  rfl
