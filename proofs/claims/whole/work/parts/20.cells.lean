/-! THE CELLS behind the two constructors, and states over them: ints, longs, and which Act stands where (0 .. 3 acts, 4 the parser's out; 5: 48 if the parser's text is the tape). -/
def mm_K0 : List mm_Kd := [.inl 0, .inl 1, .inr (0, 42), .inl 2, .inr (0, 3), .inr (0, 3), .inr (0, 3), .inr (0, 3), .inr (0, 6), .inr (0, 6), .inr (0, 6), .inr (0, 6), .inl 3, .inr (0, 40), .inr (0, 40), .inr (0, 40), .inr (0, 40), .inr (2, 40), .inr (2, 40), .inr (0, 40), .inr (0, 40), .inr (0, 40), .inr (0, 40), .inr (0, 40), .inr (0, 40), .inl 4, .inr (0, 16), .inr (0, 16), .inr (0, 16), .inr (2, 16), .inr (0, 16), .inr (0, 16), .inr (0, 16), .inr (0, 16), .inr (2, 16), .inr (0, 16), .inl 5, .inr (0, 600), .inr (3, 4), .inr (0, 5), .inl 6, .inr (0, 24), .inr (0, 24), .inr (0, 24), .inr (0, 24), .inr (0, 600), .inr (0, 600), .inr (0, 64), .inl 6, .inr (0, 24), .inr (0, 24), .inr (0, 24), .inr (0, 24), .inr (0, 600), .inr (0, 600), .inr (0, 64), .inl 6, .inr (0, 24), .inr (0, 24), .inr (0, 24), .inr (0, 24), .inr (0, 600), .inr (0, 600), .inr (0, 64), .inl 6, .inr (0, 24), .inr (0, 24), .inr (0, 24), .inr (0, 24), .inr (0, 600), .inr (0, 600), .inr (0, 64), .inl 6, .inr (0, 24), .inr (0, 24), .inr (0, 24), .inr (0, 24), .inr (0, 600), .inr (0, 600), .inr (0, 64), .inl 7, .inr (0, 64), .inl 8, .inr (0, 200), .inr (0, 200), .inr (0, 200), .inr (0, 200), .inr (0, 200), .inr (2, 200), .inr (0, 200), .inr (1, 200), .inr (0, 100), .inr (0, 100), .inr (0, 100), .inl 9, .inr (0, 32), .inr (0, 32), .inr (0, 17), .inr (0, 8), .inr (0, 8), .inr (0, 8), .inr (0, 8), .inl 10, .inr (0, 16), .inr (2, 16), .inr (2, 16), .inr (0, 16), .inr (0, 16), .inr (0, 16), .inr (0, 16), .inr (0, 16), .inl 11, .inr (0, 8), .inr (0, 8), .inr (0, 8), .inr (0, 16), .inl 12, .inr (0, 17), .inr (0, 3), .inr (0, 3), .inr (0, 3), .inr (0, 3), .inr (0, 42), .inr (0, 6), .inr (0, 6), .inr (0, 6), .inr (0, 6), .inr (0, 16), .inr (0, 16), .inr (0, 16), .inr (2, 16), .inr (2, 16), .inr (0, 40), .inr (0, 40), .inr (0, 40), .inr (0, 40), .inr (0, 40), .inr (0, 40), .inr (0, 40), .inr (1, 40), .inr (2, 40), .inr (2, 40), .inr (0, 40), .inr (0, 40), .inr (0, 16), .inr (0, 16), .inr (0, 16), .inr (0, 16), .inr (0, 16), .inr (0, 16), .inr (0, 200), .inr (0, 200), .inr (0, 200), .inr (0, 100), .inr (0, 100), .inr (0, 100), .inr (2, 200), .inr (0, 4), .inr (0, 4), .inr (0, 96), .inr (0, 100), .inr (0, 96), .inr (0, 4880), .inr (0, 24), .inr (0, 25), .inr (0, 24), .inr (0, 1220), .inr (0, 600), .inr (0, 620), .inr (0, 6), .inr (0, 8), .inr (0, 8), .inr (0, 32), .inr (0, 32), .inr (0, 16), .inr (0, 16), .inr (0, 8), .inr (0, 8), .inr (0, 8), .inr (0, 0)]
def mm_R0t : List (List (Option Nat)) := [[some 1, some 3, some 12, some 25, some 36, some 82, some 94, some 102, some 111], [some 2], [], [some 4, some 5, some 6, some 7, some 8, some 9, some 10, some 11], [], [], [], [], [], [], [], [], [some 13, some 14, some 15, some 16, some 17, some 18, some 19, some 20, some 21, some 22, some 23, some 24], [], [], [], [], [], [], [], [], [], [], [], [], [some 26, some 27, some 28, some 29, some 30, some 31, some 32, some 33, some 34, some 35], [], [], [], [], [], [], [], [], [], [], [some 37, some 38, some 39, none, some 80], [], [], [], [some 41, some 42, some 43, some 44, some 45, some 46, some 47], [], [], [], [], [], [], [], [some 49, some 50, some 51, some 52, some 53, some 54, some 55], [], [], [], [], [], [], [], [some 57, some 58, some 59, some 60, some 61, some 62, some 63], [], [], [], [], [], [], [], [some 65, some 66, some 67, some 68, some 69, some 70, some 71], [], [], [], [], [], [], [], [some 73, some 74, some 75, some 76, some 77, some 78, some 79], [], [], [], [], [], [], [], [none, none, none, none, none, none, none, none, none, some 81], [], [some 83, some 84, some 85, some 86, some 87, some 88, some 89, some 90, none, some 91, some 92, some 93], [], [], [], [], [], [], [], [], [], [], [], [some 95, some 96, some 97, some 98, some 99, some 100, some 101], [], [], [], [], [], [], [], [some 103, some 104, some 105, some 106, some 107, some 108, some 109, some 110], [], [], [], [], [], [], [], [], [some 112, some 113, some 114, some 115], [], [], [], [], [some 117, none, none, none, none, none, none, none, none, none, none, none, some 118, some 119, some 120, some 121, some 122, some 123, some 124, some 125, some 126, some 127, some 128, some 129, some 130, some 131, some 132, some 133, some 134, some 135, some 136, some 137, some 138, some 139, some 140, some 141, none, none, none, none, none, none, none, none, none, none, none, some 142, some 143, some 144, some 145, some 146, some 147, some 148, some 149, none, none, none, none, some 150, some 151, some 152, some 153, some 154, some 155, some 156, some 157, some 158, some 159, some 160, some 161, some 162, some 163, some 164, some 165, some 166, some 167, some 168, none, none, none, none, none, none, none, none, none, none, none, none, some 169, none, none, none, some 170, some 171, some 172, some 173, some 174, some 175, none, none, none, none, some 176, some 177, some 178], [], [], [], [], [], [], [], [], [], [], [], [], [], [], [], [], [], [], [], [], [], [], [], [], [], [], [], [], [], [], [], [], [], [], [], [], [], [], [], [], [], [], [], [], [], [], [], [], [], [], [], [], [], [], [], [], [], [], [], [], [], [], []]
def mm_nr : List (List (Option Nat)) → Nat → List (Option Nat)
  | [], _ => []
  | a :: _, 0 => a
  | _ :: r, n + 1 => mm_nr r n
def mm_no : List (Option Nat) → Nat → Option Nat
  | [], _ => none
  | a :: _, 0 => a
  | _ :: r, n + 1 => mm_no r n
def mm_R0 (P : Nat → Nat) (k j : Nat) : Option Nat := match Nat.beq k 38 with
  | true => match Nat.blt j 4 with
    | true => some (P j)
    | false => none
  | false => match Nat.beq k 80 && Nat.beq j 6 with
    | true => some (P 4)
    | false => match Nat.beq k 80 && Nat.beq j 0 with
      | true => match Nat.beq (P 5) 48 with
        | true => some 37
        | false => some 179
      | false => mm_no (mm_nr mm_R0t k) j
abbrev mS : Type := (Nat → Nat → Int32) × (Nat → Nat → Int64) × (Nat → Nat)
def mT (s : mS) : mm_S := (mm_K0, s.1, s.2.1, mm_R0 s.2.2)
def gI (s : mS) (c j : Nat) : Int32 := s.1 c j
def gL (s : mS) (c j : Nat) : Int64 := s.2.1 c j
def sI (s : mS) (c j : Nat) (x : Int32) : mS := (fun a b => if a = c ∧ b = j then x else s.1 a b, s.2.1, s.2.2)
def sL (s : mS) (c j : Nat) (x : Int64) : mS := (s.1, fun a b => if a = c ∧ b = j then x else s.2.1 a b, s.2.2)
def sP (s : mS) (k v : Nat) : mS := (s.1, s.2.1, fun j => if j = k then v else s.2.2 j)
abbrev ix (i : Int32) : Nat := i.toNatClampNeg
def mm_N : Nat := 100000
section WALK
variable {X : Nat → Nat × (Nat → Int32)} {Y : Nat → List Int32} {cf : Nat → List Value → mm_S → Option mm_R} {code : Nat → Option mm_E} {T : Option mm_R}
variable {A B : Prop} {α : Type} {c c2 : mm_C}
theorem w_go (K : α → Prop) {t : α} (n : Nat) {c c' : mm_C} (h : mm_go X Y code n c = some c') (k : A → K t → mm_fix X Y cf code c' = T) : A → K t → mm_fix X Y cf code c = T := fun a b => (mm_fix_go X Y cf code n h).trans (k a b)
theorem w_br (K : α → Prop) {p : Prop} [Decidable p] {t f : α} {a b : Nat} {ls : List (Option Value)} {st : List Value} {σ : mm_S} (h : mm_step X Y code c = some (.inl (if p then a else b, ls, st, σ))) (kt : p → A → K t → mm_fix X Y cf code (a, ls, st, σ) = T) (kf : ¬ p → B → K f → mm_fix X Y cf code (b, ls, st, σ) = T) : (if p then A else B) → K (if p then t else f) → mm_fix X Y cf code c = T := by
  intro h1 h2
  rw [mm_fix_next X Y cf code h]
  by_cases hp : p
  · rw [if_pos hp] at h1 h2 ⊢; exact kt hp h1 h2
  · rw [if_neg hp] at h1 h2 ⊢; exact kf hp h1 h2
theorem w_brT (K : α → Prop) {p : Prop} [Decidable p] {t f : α} {a b : Nat} {ls : List (Option Value)} {st : List Value} {σ : mm_S} (h : mm_step X Y code c = some (.inl (if p then a else b, ls, st, σ))) (kt : p → True → K t → mm_fix X Y cf code (a, ls, st, σ) = T) (kf : ¬ p → True → K f → mm_fix X Y cf code (b, ls, st, σ) = T) : True → K (if p then t else f) → mm_fix X Y cf code c = T := by
  intro h1 h2
  rw [mm_fix_next X Y cf code h]
  by_cases hp : p
  · rw [if_pos hp] at h2 ⊢; exact kt hp trivial h2
  · rw [if_neg hp] at h2 ⊢; exact kf hp trivial h2
theorem w_ieq (K : α → Prop) {t f : α} {i} {len tg a b k pc : Nat} {v : Value} {sw : List (Int32 × Nat)} {x y : Int32} {ls : List (Option Value)} {st : List Value} {σ : mm_S} (hc : code pc = some (.if_icmp .eq i, len, v, tg, a, b, k, sw)) (kt : x = y → A → K t → mm_fix X Y cf code ((tg), ls, st, σ) = T) (kf : ¬ x = y → B → K f → mm_fix X Y cf code ((pc + len), ls, st, σ) = T) : (if x = y then A else B) → K (if x = y then t else f) → mm_fix X Y cf code (pc, ls, .int y :: .int x :: st, σ) = T := w_br K (by simp only [mm_step, hc]; rfl) kt kf
theorem w_ieqT (K : α → Prop) {t f : α} {i} {len tg a b k pc : Nat} {v : Value} {sw : List (Int32 × Nat)} {x y : Int32} {ls : List (Option Value)} {st : List Value} {σ : mm_S} (hc : code pc = some (.if_icmp .eq i, len, v, tg, a, b, k, sw)) (kt : x = y → True → K t → mm_fix X Y cf code ((tg), ls, st, σ) = T) (kf : ¬ x = y → True → K f → mm_fix X Y cf code ((pc + len), ls, st, σ) = T) : True → K (if x = y then t else f) → mm_fix X Y cf code (pc, ls, .int y :: .int x :: st, σ) = T := w_brT K (by simp only [mm_step, hc]; rfl) kt kf
theorem w_ine (K : α → Prop) {t f : α} {i} {len tg a b k pc : Nat} {v : Value} {sw : List (Int32 × Nat)} {x y : Int32} {ls : List (Option Value)} {st : List Value} {σ : mm_S} (hc : code pc = some (.if_icmp .ne i, len, v, tg, a, b, k, sw)) (kt : x = y → A → K t → mm_fix X Y cf code ((pc + len), ls, st, σ) = T) (kf : ¬ x = y → B → K f → mm_fix X Y cf code ((tg), ls, st, σ) = T) : (if x = y then A else B) → K (if x = y then t else f) → mm_fix X Y cf code (pc, ls, .int y :: .int x :: st, σ) = T := w_br K (by simp only [mm_step, hc]; rfl) kt kf
theorem w_ineT (K : α → Prop) {t f : α} {i} {len tg a b k pc : Nat} {v : Value} {sw : List (Int32 × Nat)} {x y : Int32} {ls : List (Option Value)} {st : List Value} {σ : mm_S} (hc : code pc = some (.if_icmp .ne i, len, v, tg, a, b, k, sw)) (kt : x = y → True → K t → mm_fix X Y cf code ((pc + len), ls, st, σ) = T) (kf : ¬ x = y → True → K f → mm_fix X Y cf code ((tg), ls, st, σ) = T) : True → K (if x = y then t else f) → mm_fix X Y cf code (pc, ls, .int y :: .int x :: st, σ) = T := w_brT K (by simp only [mm_step, hc]; rfl) kt kf
theorem w_ilt (K : α → Prop) {t f : α} {i} {len tg a b k pc : Nat} {v : Value} {sw : List (Int32 × Nat)} {x y : Int32} {ls : List (Option Value)} {st : List Value} {σ : mm_S} (hc : code pc = some (.if_icmp .lt i, len, v, tg, a, b, k, sw)) (kt : x < y → A → K t → mm_fix X Y cf code ((tg), ls, st, σ) = T) (kf : ¬ x < y → B → K f → mm_fix X Y cf code ((pc + len), ls, st, σ) = T) : (if x < y then A else B) → K (if x < y then t else f) → mm_fix X Y cf code (pc, ls, .int y :: .int x :: st, σ) = T := w_br K (by simp only [mm_step, hc]; rfl) kt kf
theorem w_iltT (K : α → Prop) {t f : α} {i} {len tg a b k pc : Nat} {v : Value} {sw : List (Int32 × Nat)} {x y : Int32} {ls : List (Option Value)} {st : List Value} {σ : mm_S} (hc : code pc = some (.if_icmp .lt i, len, v, tg, a, b, k, sw)) (kt : x < y → True → K t → mm_fix X Y cf code ((tg), ls, st, σ) = T) (kf : ¬ x < y → True → K f → mm_fix X Y cf code ((pc + len), ls, st, σ) = T) : True → K (if x < y then t else f) → mm_fix X Y cf code (pc, ls, .int y :: .int x :: st, σ) = T := w_brT K (by simp only [mm_step, hc]; rfl) kt kf
theorem w_ige (K : α → Prop) {t f : α} {i} {len tg a b k pc : Nat} {v : Value} {sw : List (Int32 × Nat)} {x y : Int32} {ls : List (Option Value)} {st : List Value} {σ : mm_S} (hc : code pc = some (.if_icmp .ge i, len, v, tg, a, b, k, sw)) (kt : y ≤ x → A → K t → mm_fix X Y cf code ((tg), ls, st, σ) = T) (kf : ¬ y ≤ x → B → K f → mm_fix X Y cf code ((pc + len), ls, st, σ) = T) : (if y ≤ x then A else B) → K (if y ≤ x then t else f) → mm_fix X Y cf code (pc, ls, .int y :: .int x :: st, σ) = T := w_br K (by simp only [mm_step, hc]; rfl) kt kf
theorem w_igeT (K : α → Prop) {t f : α} {i} {len tg a b k pc : Nat} {v : Value} {sw : List (Int32 × Nat)} {x y : Int32} {ls : List (Option Value)} {st : List Value} {σ : mm_S} (hc : code pc = some (.if_icmp .ge i, len, v, tg, a, b, k, sw)) (kt : y ≤ x → True → K t → mm_fix X Y cf code ((tg), ls, st, σ) = T) (kf : ¬ y ≤ x → True → K f → mm_fix X Y cf code ((pc + len), ls, st, σ) = T) : True → K (if y ≤ x then t else f) → mm_fix X Y cf code (pc, ls, .int y :: .int x :: st, σ) = T := w_brT K (by simp only [mm_step, hc]; rfl) kt kf
theorem w_igt (K : α → Prop) {t f : α} {i} {len tg a b k pc : Nat} {v : Value} {sw : List (Int32 × Nat)} {x y : Int32} {ls : List (Option Value)} {st : List Value} {σ : mm_S} (hc : code pc = some (.if_icmp .gt i, len, v, tg, a, b, k, sw)) (kt : y < x → A → K t → mm_fix X Y cf code ((tg), ls, st, σ) = T) (kf : ¬ y < x → B → K f → mm_fix X Y cf code ((pc + len), ls, st, σ) = T) : (if y < x then A else B) → K (if y < x then t else f) → mm_fix X Y cf code (pc, ls, .int y :: .int x :: st, σ) = T := w_br K (by simp only [mm_step, hc]; rfl) kt kf
theorem w_igtT (K : α → Prop) {t f : α} {i} {len tg a b k pc : Nat} {v : Value} {sw : List (Int32 × Nat)} {x y : Int32} {ls : List (Option Value)} {st : List Value} {σ : mm_S} (hc : code pc = some (.if_icmp .gt i, len, v, tg, a, b, k, sw)) (kt : y < x → True → K t → mm_fix X Y cf code ((tg), ls, st, σ) = T) (kf : ¬ y < x → True → K f → mm_fix X Y cf code ((pc + len), ls, st, σ) = T) : True → K (if y < x then t else f) → mm_fix X Y cf code (pc, ls, .int y :: .int x :: st, σ) = T := w_brT K (by simp only [mm_step, hc]; rfl) kt kf
theorem w_ile (K : α → Prop) {t f : α} {i} {len tg a b k pc : Nat} {v : Value} {sw : List (Int32 × Nat)} {x y : Int32} {ls : List (Option Value)} {st : List Value} {σ : mm_S} (hc : code pc = some (.if_icmp .le i, len, v, tg, a, b, k, sw)) (kt : x ≤ y → A → K t → mm_fix X Y cf code ((tg), ls, st, σ) = T) (kf : ¬ x ≤ y → B → K f → mm_fix X Y cf code ((pc + len), ls, st, σ) = T) : (if x ≤ y then A else B) → K (if x ≤ y then t else f) → mm_fix X Y cf code (pc, ls, .int y :: .int x :: st, σ) = T := w_br K (by simp only [mm_step, hc]; rfl) kt kf
theorem w_ileT (K : α → Prop) {t f : α} {i} {len tg a b k pc : Nat} {v : Value} {sw : List (Int32 × Nat)} {x y : Int32} {ls : List (Option Value)} {st : List Value} {σ : mm_S} (hc : code pc = some (.if_icmp .le i, len, v, tg, a, b, k, sw)) (kt : x ≤ y → True → K t → mm_fix X Y cf code ((tg), ls, st, σ) = T) (kf : ¬ x ≤ y → True → K f → mm_fix X Y cf code ((pc + len), ls, st, σ) = T) : True → K (if x ≤ y then t else f) → mm_fix X Y cf code (pc, ls, .int y :: .int x :: st, σ) = T := w_brT K (by simp only [mm_step, hc]; rfl) kt kf
theorem w_zeq (K : α → Prop) {t f : α} {i} {len tg a b k pc : Nat} {v : Value} {sw : List (Int32 × Nat)} {x : Int32} {ls : List (Option Value)} {st : List Value} {σ : mm_S} (hc : code pc = some (.ifCond .eq i, len, v, tg, a, b, k, sw)) (kt : x = 0 → A → K t → mm_fix X Y cf code ((tg), ls, st, σ) = T) (kf : ¬ x = 0 → B → K f → mm_fix X Y cf code ((pc + len), ls, st, σ) = T) : (if x = 0 then A else B) → K (if x = 0 then t else f) → mm_fix X Y cf code (pc, ls, .int x :: st, σ) = T := w_br K (by simp only [mm_step, hc]; rfl) kt kf
theorem w_zeqT (K : α → Prop) {t f : α} {i} {len tg a b k pc : Nat} {v : Value} {sw : List (Int32 × Nat)} {x : Int32} {ls : List (Option Value)} {st : List Value} {σ : mm_S} (hc : code pc = some (.ifCond .eq i, len, v, tg, a, b, k, sw)) (kt : x = 0 → True → K t → mm_fix X Y cf code ((tg), ls, st, σ) = T) (kf : ¬ x = 0 → True → K f → mm_fix X Y cf code ((pc + len), ls, st, σ) = T) : True → K (if x = 0 then t else f) → mm_fix X Y cf code (pc, ls, .int x :: st, σ) = T := w_brT K (by simp only [mm_step, hc]; rfl) kt kf
theorem w_zne (K : α → Prop) {t f : α} {i} {len tg a b k pc : Nat} {v : Value} {sw : List (Int32 × Nat)} {x : Int32} {ls : List (Option Value)} {st : List Value} {σ : mm_S} (hc : code pc = some (.ifCond .ne i, len, v, tg, a, b, k, sw)) (kt : x = 0 → A → K t → mm_fix X Y cf code ((pc + len), ls, st, σ) = T) (kf : ¬ x = 0 → B → K f → mm_fix X Y cf code ((tg), ls, st, σ) = T) : (if x = 0 then A else B) → K (if x = 0 then t else f) → mm_fix X Y cf code (pc, ls, .int x :: st, σ) = T := w_br K (by simp only [mm_step, hc]; rfl) kt kf
theorem w_zneT (K : α → Prop) {t f : α} {i} {len tg a b k pc : Nat} {v : Value} {sw : List (Int32 × Nat)} {x : Int32} {ls : List (Option Value)} {st : List Value} {σ : mm_S} (hc : code pc = some (.ifCond .ne i, len, v, tg, a, b, k, sw)) (kt : x = 0 → True → K t → mm_fix X Y cf code ((pc + len), ls, st, σ) = T) (kf : ¬ x = 0 → True → K f → mm_fix X Y cf code ((tg), ls, st, σ) = T) : True → K (if x = 0 then t else f) → mm_fix X Y cf code (pc, ls, .int x :: st, σ) = T := w_brT K (by simp only [mm_step, hc]; rfl) kt kf
theorem w_zlt (K : α → Prop) {t f : α} {i} {len tg a b k pc : Nat} {v : Value} {sw : List (Int32 × Nat)} {x : Int32} {ls : List (Option Value)} {st : List Value} {σ : mm_S} (hc : code pc = some (.ifCond .lt i, len, v, tg, a, b, k, sw)) (kt : x < 0 → A → K t → mm_fix X Y cf code ((tg), ls, st, σ) = T) (kf : ¬ x < 0 → B → K f → mm_fix X Y cf code ((pc + len), ls, st, σ) = T) : (if x < 0 then A else B) → K (if x < 0 then t else f) → mm_fix X Y cf code (pc, ls, .int x :: st, σ) = T := w_br K (by simp only [mm_step, hc]; rfl) kt kf
theorem w_zltT (K : α → Prop) {t f : α} {i} {len tg a b k pc : Nat} {v : Value} {sw : List (Int32 × Nat)} {x : Int32} {ls : List (Option Value)} {st : List Value} {σ : mm_S} (hc : code pc = some (.ifCond .lt i, len, v, tg, a, b, k, sw)) (kt : x < 0 → True → K t → mm_fix X Y cf code ((tg), ls, st, σ) = T) (kf : ¬ x < 0 → True → K f → mm_fix X Y cf code ((pc + len), ls, st, σ) = T) : True → K (if x < 0 then t else f) → mm_fix X Y cf code (pc, ls, .int x :: st, σ) = T := w_brT K (by simp only [mm_step, hc]; rfl) kt kf
theorem w_zge (K : α → Prop) {t f : α} {i} {len tg a b k pc : Nat} {v : Value} {sw : List (Int32 × Nat)} {x : Int32} {ls : List (Option Value)} {st : List Value} {σ : mm_S} (hc : code pc = some (.ifCond .ge i, len, v, tg, a, b, k, sw)) (kt : (0 : Int32) ≤ x → A → K t → mm_fix X Y cf code ((tg), ls, st, σ) = T) (kf : ¬ (0 : Int32) ≤ x → B → K f → mm_fix X Y cf code ((pc + len), ls, st, σ) = T) : (if (0 : Int32) ≤ x then A else B) → K (if (0 : Int32) ≤ x then t else f) → mm_fix X Y cf code (pc, ls, .int x :: st, σ) = T := w_br K (by simp only [mm_step, hc]; rfl) kt kf
theorem w_zgeT (K : α → Prop) {t f : α} {i} {len tg a b k pc : Nat} {v : Value} {sw : List (Int32 × Nat)} {x : Int32} {ls : List (Option Value)} {st : List Value} {σ : mm_S} (hc : code pc = some (.ifCond .ge i, len, v, tg, a, b, k, sw)) (kt : (0 : Int32) ≤ x → True → K t → mm_fix X Y cf code ((tg), ls, st, σ) = T) (kf : ¬ (0 : Int32) ≤ x → True → K f → mm_fix X Y cf code ((pc + len), ls, st, σ) = T) : True → K (if (0 : Int32) ≤ x then t else f) → mm_fix X Y cf code (pc, ls, .int x :: st, σ) = T := w_brT K (by simp only [mm_step, hc]; rfl) kt kf
theorem w_zgt (K : α → Prop) {t f : α} {i} {len tg a b k pc : Nat} {v : Value} {sw : List (Int32 × Nat)} {x : Int32} {ls : List (Option Value)} {st : List Value} {σ : mm_S} (hc : code pc = some (.ifCond .gt i, len, v, tg, a, b, k, sw)) (kt : (0 : Int32) < x → A → K t → mm_fix X Y cf code ((tg), ls, st, σ) = T) (kf : ¬ (0 : Int32) < x → B → K f → mm_fix X Y cf code ((pc + len), ls, st, σ) = T) : (if (0 : Int32) < x then A else B) → K (if (0 : Int32) < x then t else f) → mm_fix X Y cf code (pc, ls, .int x :: st, σ) = T := w_br K (by simp only [mm_step, hc]; rfl) kt kf
theorem w_zgtT (K : α → Prop) {t f : α} {i} {len tg a b k pc : Nat} {v : Value} {sw : List (Int32 × Nat)} {x : Int32} {ls : List (Option Value)} {st : List Value} {σ : mm_S} (hc : code pc = some (.ifCond .gt i, len, v, tg, a, b, k, sw)) (kt : (0 : Int32) < x → True → K t → mm_fix X Y cf code ((tg), ls, st, σ) = T) (kf : ¬ (0 : Int32) < x → True → K f → mm_fix X Y cf code ((pc + len), ls, st, σ) = T) : True → K (if (0 : Int32) < x then t else f) → mm_fix X Y cf code (pc, ls, .int x :: st, σ) = T := w_brT K (by simp only [mm_step, hc]; rfl) kt kf
theorem w_zle (K : α → Prop) {t f : α} {i} {len tg a b k pc : Nat} {v : Value} {sw : List (Int32 × Nat)} {x : Int32} {ls : List (Option Value)} {st : List Value} {σ : mm_S} (hc : code pc = some (.ifCond .le i, len, v, tg, a, b, k, sw)) (kt : x ≤ 0 → A → K t → mm_fix X Y cf code ((tg), ls, st, σ) = T) (kf : ¬ x ≤ 0 → B → K f → mm_fix X Y cf code ((pc + len), ls, st, σ) = T) : (if x ≤ 0 then A else B) → K (if x ≤ 0 then t else f) → mm_fix X Y cf code (pc, ls, .int x :: st, σ) = T := w_br K (by simp only [mm_step, hc]; rfl) kt kf
theorem w_zleT (K : α → Prop) {t f : α} {i} {len tg a b k pc : Nat} {v : Value} {sw : List (Int32 × Nat)} {x : Int32} {ls : List (Option Value)} {st : List Value} {σ : mm_S} (hc : code pc = some (.ifCond .le i, len, v, tg, a, b, k, sw)) (kt : x ≤ 0 → True → K t → mm_fix X Y cf code ((tg), ls, st, σ) = T) (kf : ¬ x ≤ 0 → True → K f → mm_fix X Y cf code ((pc + len), ls, st, σ) = T) : True → K (if x ≤ 0 then t else f) → mm_fix X Y cf code (pc, ls, .int x :: st, σ) = T := w_brT K (by simp only [mm_step, hc]; rfl) kt kf
theorem w_sw (K : α → Prop) {k : Int32} {a d : Nat} {r : List (Int32 × Nat)} {x : Int32} {t f : α} {ls : List (Option Value)} {st : List Value} {σ : mm_S} (kt : x = k → A → K t → mm_fix X Y cf code (a, ls, st, σ) = T) (kf : ¬ x = k → B → K f → mm_fix X Y cf code (mm_sw r d x, ls, st, σ) = T) : (if x = k then A else B) → K (if x = k then t else f) → mm_fix X Y cf code (mm_sw ((k, a) :: r) d x, ls, st, σ) = T := by
  intro h1 h2
  show mm_fix X Y cf code (if x = k then a else mm_sw r d x, ls, st, σ) = T
  by_cases hp : x = k
  · rw [if_pos hp] at h1 h2 ⊢; exact kt hp h1 h2
  · rw [if_neg hp] at h1 h2 ⊢; exact kf hp h1 h2
theorem w_swT (K : α → Prop) {k : Int32} {a d : Nat} {r : List (Int32 × Nat)} {x : Int32} {t f : α} {ls : List (Option Value)} {st : List Value} {σ : mm_S} (kt : x = k → True → K t → mm_fix X Y cf code (a, ls, st, σ) = T) (kf : ¬ x = k → True → K f → mm_fix X Y cf code (mm_sw r d x, ls, st, σ) = T) : True → K (if x = k then t else f) → mm_fix X Y cf code (mm_sw ((k, a) :: r) d x, ls, st, σ) = T := by
  intro h1 h2
  show mm_fix X Y cf code (if x = k then a else mm_sw r d x, ls, st, σ) = T
  by_cases hp : x = k
  · rw [if_pos hp] at h2 ⊢; exact kt hp trivial h2
  · rw [if_neg hp] at h2 ⊢; exact kf hp trivial h2
theorem w_ck (K : α → Prop) {b : Bool} {t : α} {c' : mm_C} (h : mm_step X Y code c = cond b (some (.inl c')) none) (k : A → K t → mm_fix X Y cf code c' = T) : (b = true ∧ A) → K t → mm_fix X Y cf code c = T := by
  intro h1 h2
  obtain ⟨hb, ha⟩ := h1
  subst hb
  rw [mm_fix_next X Y cf code h]
  exact k ha h2
theorem w_ret (K : α → Prop) {t : α} {r : mm_R} (h : mm_step X Y code c = some (.inr (.inl r))) (hr : K t → some r = T) : True → K t → mm_fix X Y cf code c = T := fun _ h2 => (mm_fix_ret X Y cf code h).trans (hr h2)
theorem w_retb (K : α → Prop) {t : α} {b : Bool} {r : mm_R} (h : mm_step X Y code c = cond b (some (.inr (.inl r))) none) (hr : K t → some r = T) : b = true → K t → mm_fix X Y cf code c = T := by
  intro h1 h2
  subst h1
  exact (mm_fix_ret X Y cf code h).trans (hr h2)
def mq_let {β γ : Type} (e : β) (k : β → γ) : γ := k e
def mq_letP {β : Type} (e : β) (k : β → Prop) : Prop := k e
theorem w_st (K : α → Prop) {t : α} {c c' : mm_C} (h : mm_step X Y code c = some (.inl c')) (k : A → K t → mm_fix X Y cf code c' = T) : A → K t → mm_fix X Y cf code c = T := fun a b => (mm_fix_next X Y cf code h).trans (k a b)
theorem w_bind (K : α → Prop) {γ : Type} {e : γ} {t : γ → α} {A : γ → Prop} {c : γ → mm_C} (k : ∀ x, A x → K (t x) → mm_fix X Y cf code (c x) = T) : mq_letP e A → K (mq_let e t) → mm_fix X Y cf code (c e) = T := k e
theorem w_callL (K : α → Prop) {γ : Type} {E : γ} {g : γ → mm_R} {t : γ → α} {A : γ → Prop} {id : Nat} {args : List Value} {pc : Nat} {ls : List (Option Value)} {st : List Value} {σ : mm_S} (h : mm_step X Y code c = some (.inr (.inr (id, args, pc, ls, st, σ)))) (hc : B → cf id args σ = some (g E)) (k : ∀ x, A x → K (t x) → mm_fix X Y cf code (pc, ls, (g x).1.toList ++ st, (g x).2) = T) : (B ∧ mq_letP E A) → K (mq_let E t) → mm_fix X Y cf code c = T := by
  intro h1 h2
  rw [mm_fix_call X Y cf code h, hc h1.1]
  exact k E h1.2 h2
theorem w_callLT (K : α → Prop) {γ : Type} {E : γ} {g : γ → mm_R} {t : γ → α} {id : Nat} {args : List Value} {pc : Nat} {ls : List (Option Value)} {st : List Value} {σ : mm_S} (h : mm_step X Y code c = some (.inr (.inr (id, args, pc, ls, st, σ)))) (hc : True → cf id args σ = some (g E)) (k : ∀ x, True → K (t x) → mm_fix X Y cf code (pc, ls, (g x).1.toList ++ st, (g x).2) = T) : True → K (mq_let E t) → mm_fix X Y cf code c = T := by
  intro h1 h2
  rw [mm_fix_call X Y cf code h, hc trivial]
  exact k E trivial h2
/-- ways that meet, or a loop, then what is behind -/
theorem w_join (K : α → Prop) {γ : Type} {E : γ} {t : γ → α} {A : γ → Prop} (D : γ → Prop) (arms : ∀ K' : γ → Prop, (∀ x, K' x → D x) → B → K' E → mm_fix X Y cf code c = T) (k : ∀ x, A x → K (t x) → D x) : (B ∧ mq_letP E A) → K (mq_let E t) → mm_fix X Y cf code c = T := fun h1 h2 => arms D (fun _ h => h) h1.1 (k E h1.2 h2)
theorem w_joinT (K : α → Prop) {γ : Type} {E : γ} {t : γ → α} (D : γ → Prop) (arms : ∀ K' : γ → Prop, (∀ x, K' x → D x) → True → K' E → mm_fix X Y cf code c = T) (k : ∀ x, True → K (t x) → D x) : True → K (mq_let E t) → mm_fix X Y cf code c = T := fun h1 h2 => arms D (fun _ h => h) h1 (k E h1 h2)
def mq_el {β γ : Type} (o : Option β) (a : β → γ) (b : γ) : γ := match o with
  | some x => a x
  | none => b
def mq_elP {β : Type} (o : Option β) (A : Prop) : Prop := match o with
  | some _ => True
  | none => A
theorem w_el {β : Type} (K : α → Prop) {o : Option β} {u : β → α} {t : α} {D1 : β → Prop} {D2 : Prop} (k1 : ∀ v, o = some v → K (u v) → D1 v) (k2 : A → K t → D2) : mq_elP o A → K (mq_el o u t) → (o = none → D2) ∧ (∀ v, o = some v → D1 v) := by
  intro h1 h2
  refine ⟨fun hv => ?_, fun v hv => ?_⟩
  · rw [hv] at h1 h2; exact k2 h1 h2
  · rw [hv] at h2; exact k1 v hv h2
/-- the cells of the Acts -/
def mq_A (r : Nat) : Prop := r = 40 ∨ r = 48 ∨ r = 56 ∨ r = 64 ∨ r = 72
def gP (s : mS) (k : Nat) : Nat := s.2.2 k
theorem w_gP (K : α → Prop) {g : Nat} {t : Nat → α} {A : Nat → Prop} {pc : Nat} {ls : List (Option Value)} {st : List Value} {σ : mm_S} (k : ∀ r, mq_A r → A r → K (t r) → mm_fix X Y cf code (pc, ls, .ref r :: st, σ) = T) : (mq_A g ∧ mq_letP g A) → K (mq_let g t) → mm_fix X Y cf code (pc, ls, .ref g :: st, σ) = T := fun h1 h2 => k g h1.1 h1.2 h2
theorem w_gP4 (K : α → Prop) {s : mS} {t : Nat → α} {A : Nat → Prop} {pc : Nat} {ls : List (Option Value)} {st : List Value} {g : Nat} (h : mm_step X Y code c = some (.inl (pc, ls, .ref g :: st, mT s))) (k : ∀ r, mq_A r → A r → K (t r) → mm_fix X Y cf code (pc, ls, .ref r :: st, mT s) = T) : (mq_A g ∧ mq_letP g A) → K (mq_let g t) → mm_fix X Y cf code c = T := fun h1 h2 => (mm_fix_next X Y cf code h).trans (k g h1.1 h1.2 h2)
theorem w_hyp (K : α → Prop) {P : Prop} {t : α} {c : mm_C} (k : P → A → K t → mm_fix X Y cf code c = T) : (P ∧ A) → K t → mm_fix X Y cf code c = T := fun h1 h2 => k h1.1 h1.2 h2
end WALK
theorem mm_x0 {len : Nat} {xs : Nat → Int32} {Y : Nat → List Int32} {code : Nat → Option mm_E} {pc : Nat} {ls : List (Option Value)} {i : Int32} {r : List Value} {σ : mm_S} {v : Value} {t a b k : Nat} {sw : List (Int32 × Nat)} (hc : code pc = some (.iaload, 1, v, t, a, b, k, sw)) : mm_step (mm_X len xs) Y code (pc, ls, .int i :: .ref 1000000 :: r, σ) = cond (mm_inb i 17) (some (.inl (pc + 1, ls, .int (mm_parts.getD (ix i) 0) :: r, σ))) none := by
  have e1 : Nat.blt 1000000 1000000 = false := by decide +kernel
  have e2 : Nat.blt 1000000 1000002 = true := by decide +kernel
  simp only [mm_step, hc, e1, e2, Nat.sub_self, Bool.true_and]
  rfl
theorem mm_x1 {len : Nat} {xs : Nat → Int32} {Y : Nat → List Int32} {code : Nat → Option mm_E} {pc : Nat} {ls : List (Option Value)} {i : Int32} {r : List Value} {σ : mm_S} {v : Value} {t a b k : Nat} {sw : List (Int32 × Nat)} (hc : code pc = some (.iaload, 1, v, t, a, b, k, sw)) : mm_step (mm_X len xs) Y code (pc, ls, .int i :: .ref 1000001 :: r, σ) = cond (mm_inb i len) (some (.inl (pc + 1, ls, .int (xs (ix i)) :: r, σ))) none := by
  have e1 : Nat.blt 1000001 1000000 = false := by decide +kernel
  have e2 : Nat.blt 1000001 1000002 = true := by decide +kernel
  have e3 : 1000001 - 1000000 = 1 := by decide +kernel
  simp only [mm_step, hc, e1, e2, e3, Bool.true_and]
  rfl
theorem mm_x1l {len : Nat} {xs : Nat → Int32} {Y : Nat → List Int32} {code : Nat → Option mm_E} {pc : Nat} {ls : List (Option Value)} {r : List Value} {σ : mm_S} {v : Value} {t a b k : Nat} {sw : List (Int32 × Nat)} (hc : code pc = some (.arraylength, 1, v, t, a, b, k, sw)) : mm_step (mm_X len xs) Y code (pc, ls, .ref 1000001 :: r, σ) = some (.inl (pc + 1, ls, .int (Int32.ofNat len) :: r, σ)) := by
  have e1 : Nat.blt 1000001 1000000 = false := by decide +kernel
  have e2 : Nat.blt 1000001 1000002 = true := by decide +kernel
  have e3 : 1000001 - 1000000 = 1 := by decide +kernel
  simp only [mm_step, hc, e1, e2, e3, cond]
  rfl
theorem mm_xc {X : Nat → Nat × (Nat → Int32)} {code : Nat → Option mm_E} {pc len a b k q w n : Nat} {v : Value} {sw : List (Int32 × Nat)} {ls : List (Option Value)} {i : Int32} {ins} {r : List Value} {σ : mm_S} (hc : code pc = some (.invokevirtual ins, len, v, 15, a, b, k, sw)) (h1 : Nat.ble (mm_cats (.int i :: .ref q :: r)) 9 = true) (h2 : Nat.ble 2000000 q = true) (h3 : Nat.blt q 2000013 = true) (h4 : q - 2000000 = w) (h5 : (mm_Y w).length = n) : mm_step X mm_Y code (pc, ls, .int i :: .ref q :: r, σ) = cond (mm_inb i n) (some (.inl (pc + len, ls, .int ((mm_Y w).getD (ix i) 0) :: r, σ))) none := by
  have e : Nat.ble 10 15 = true := rfl
  simp only [mm_step, hc, mm_call1, e, h1, mm_intr, h2, h3, h4, h5, Bool.true_and]
  rfl
theorem mq_a0 {r : Nat} (h : mq_A r) : mm_obj mm_K0 r 6 = true := by
  rcases h with rfl | rfl | rfl | rfl | rfl <;> rfl
theorem mq_a1 {r : Nat} (h : mq_A r) : mm_arr mm_K0 (r + 1) 0 = some 24 := by
  rcases h with rfl | rfl | rfl | rfl | rfl <;> rfl
theorem mq_a2 {r : Nat} (h : mq_A r) : mm_arr mm_K0 (r + 2) 0 = some 24 := by
  rcases h with rfl | rfl | rfl | rfl | rfl <;> rfl
theorem mq_a3 {r : Nat} (h : mq_A r) : mm_arr mm_K0 (r + 3) 0 = some 24 := by
  rcases h with rfl | rfl | rfl | rfl | rfl <;> rfl
theorem mq_a4 {r : Nat} (h : mq_A r) : mm_arr mm_K0 (r + 4) 0 = some 24 := by
  rcases h with rfl | rfl | rfl | rfl | rfl <;> rfl
theorem mq_a5 {r : Nat} (h : mq_A r) : mm_arr mm_K0 (r + 5) 0 = some 600 := by
  rcases h with rfl | rfl | rfl | rfl | rfl <;> rfl
theorem mq_a6 {r : Nat} (h : mq_A r) : mm_arr mm_K0 (r + 6) 0 = some 600 := by
  rcases h with rfl | rfl | rfl | rfl | rfl <;> rfl
theorem mq_a7 {r : Nat} (h : mq_A r) : mm_arr mm_K0 (r + 7) 0 = some 64 := by
  rcases h with rfl | rfl | rfl | rfl | rfl <;> rfl
theorem mq_aR (P : Nat → Nat) {r j : Nat} (h : mq_A r) (hj : j < 7) : mm_R0 P r j = some (r + (j + 1)) := by
  match j, hj with
  | 0, _ | 1, _ | 2, _ | 3, _ | 4, _ | 5, _ | 6, _ => rcases h with rfl | rfl | rfl | rfl | rfl <;> rfl
section ACTS
variable {X : Nat → Nat × (Nat → Int32)} {Y : Nat → List Int32} {code : Nat → Option mm_E} {pc len a b k t n q r : Nat} {v : Value} {sw : List (Int32 × Nat)} {ls : List (Option Value)} {st : List Value} {s : mS}
theorem mq_oK {x c : Nat} (h : mm_obj mm_K0 x c = true) : mm_obj (mT s).1 x c = true := h
theorem st_gI {i : Nat} (hc : code pc = some (.getfield i, len, v, t, 6, b, 0, sw)) (hr : mq_A r) : mm_step X Y code (pc, ls, .ref r :: st, mT s) = some (.inl (pc + len, ls, .int (gI s r b) :: st, mT s)) := by
  simp only [mm_step, hc, mq_oK (mq_a0 hr)]
  rfl
theorem st_gR {i : Nat} (hc : code pc = some (.getfield i, len, v, t, 6, b, 2, sw)) (hr : mq_A r) (hj : b < 7) : mm_step X Y code (pc, ls, .ref r :: st, mT s) = some (.inl (pc + len, ls, .ref (r + (b + 1)) :: st, mT s)) := by
  have e : (mT s).2.2.2 r b = some (r + (b + 1)) := mq_aR _ hr hj
  simp only [mm_step, hc, mq_oK (mq_a0 hr), e]
  rfl
theorem st_pI {i : Nat} {y : Int32} (hc : code pc = some (.putfield i, len, v, t, 6, b, 0, sw)) (hr : mq_A r) : mm_step X Y code (pc, ls, .int y :: .ref r :: st, mT s) = some (.inl (pc + len, ls, st, mT (sI s r b y))) := by
  simp only [mm_step, hc, mq_oK (mq_a0 hr)]
  rfl
theorem st_pZ {i : Nat} {y : Int32} (hc : code pc = some (.putfield i, len, v, t, 6, b, 3, sw)) (hr : mq_A r) : mm_step X Y code (pc, ls, .int y :: .ref r :: st, mT s) = cond (mm_bit y) (some (.inl (pc + len, ls, st, mT (sI s r b y)))) none := by
  simp only [mm_step, hc, mq_oK (mq_a0 hr)]
  rfl
theorem mq_ar {x ty : Nat} (h : mm_arr mm_K0 x ty = some n) : Nat.blt x 1000000 = true ∧ mm_kd mm_K0 x = some (.inr (ty, n)) := by
  unfold mm_arr at h
  cases hb : Nat.blt x 1000000 with
  | false => rw [hb] at h; cases h
  | true =>
    rw [hb] at h
    cases hk : mm_kd mm_K0 x with
    | none => rw [hk] at h; cases h
    | some o =>
      rw [hk] at h
      rcases o with o | ⟨t', n'⟩
      · cases h
      · cases ht : Nat.beq t' ty with
        | false => simp only [ht] at h; cases h
        | true =>
          simp only [ht] at h
          injection h with h
          have := Nat.eq_of_beq_eq_true ht
          subst this; subst h
          exact ⟨rfl, rfl⟩
theorem st_iL {i : Int32} (hc : code pc = some (.iaload, 1, v, t, a, b, k, sw)) (ha : mm_arr mm_K0 q 0 = some n) : mm_step X Y code (pc, ls, .int i :: .ref q :: st, mT s) = cond (mm_inb i n) (some (.inl (pc + 1, ls, .int (gI s q (ix i)) :: st, mT s))) none := by
  have e : mm_arr (mT s).1 q 0 = some n := ha
  simp only [mm_step, hc, (mq_ar ha).1, e]
  rfl
theorem st_iS {i y : Int32} (hc : code pc = some (.iastore, 1, v, t, a, b, k, sw)) (ha : mm_arr mm_K0 q 0 = some n) : mm_step X Y code (pc, ls, .int y :: .int i :: .ref q :: st, mT s) = cond (mm_inb i n) (some (.inl (pc + 1, ls, st, mT (sI s q (ix i) y)))) none := by
  have e : mm_arr (mT s).1 q 0 = some n := ha
  simp only [mm_step, hc, e]
  rfl
theorem st_aL (hc : code pc = some (.arraylength, 1, v, t, a, b, k, sw)) (ha : mm_arr mm_K0 q 0 = some n) : mm_step X Y code (pc, ls, .ref q :: st, mT s) = some (.inl (pc + 1, ls, .int (Int32.ofNat n) :: st, mT s)) := by
  have e : mm_kd (mT s).1 q = some (.inr (0, n)) := (mq_ar ha).2
  simp only [mm_step, hc, (mq_ar ha).1, e]
  rfl
theorem mq_i4 {i : Int32} {n : Nat} (h : mm_inb i n = true) : Nat.blt (ix i) n = true := by
  unfold mm_inb at h
  cases h1 : Nat.blt i.toNatClampNeg n with
  | true => rfl
  | false => rw [h1, Bool.and_false] at h; cases h
theorem mq_R38 (P : Nat → Nat) {j : Nat} (h : Nat.blt j 4 = true) : mm_R0 P 38 j = some (P j) := by
  show (match Nat.blt j 4 with | true => some (P j) | false => none) = _
  rw [h]
theorem st_aG {i : Int32} (hc : code pc = some (.aaload, 1, v, t, a, b, k, sw)) : mm_step X Y code (pc, ls, .int i :: .ref 38 :: st, mT s) = cond (mm_inb i 4) (some (.inl (pc + 1, ls, .ref (gP s (ix i)) :: st, mT s))) none := by
  have e : mm_arr (mT s).1 38 3 = some 4 := rfl
  simp only [mm_step, hc, e]
  cases hi : mm_inb i 4 with
  | false => rfl
  | true =>
    have e2 : (mT s).2.2.2 38 (ix i) = some (gP s (ix i)) := mq_R38 _ (mq_i4 hi)
    show mm_nx (pc + 1) ls (mm_rv ((mT s).2.2.2 38 (ix i)) :: st) (mT s) = _
    rw [e2]
    rfl
theorem mq_Rs (P : Nat → Nat) (m : Nat) (y j' b' : Nat) (hm : (j' = 38 ∧ b' = m ∧ m < 4) ∨ (j' = 80 ∧ b' = 6 ∧ m = 4)) : (fun x z => if x = j' ∧ z = b' then some y else mm_R0 P x z) = mm_R0 (fun j => if j = m then y else P j) := by
  funext x z
  unfold mm_R0
  rcases hm with ⟨h1, h2, h3⟩ | ⟨h1, h2, h3⟩ <;> subst h1 <;> subst h2
  · by_cases hx : x = 38
    · subst hx
      have e : Nat.beq 38 38 = true := rfl
      rw [e]
      by_cases hz : z = b'
      · subst hz
        rw [if_pos ⟨rfl, rfl⟩]
        have : Nat.blt z 4 = true := Nat.ble_eq.mpr h3
        simp [this]
      · rw [if_neg (fun h => hz h.2)]
        cases hb : Nat.blt z 4 <;> simp [hz]
    · rw [if_neg (fun h => hx h.1)]
      have e : Nat.beq x 38 = false := by
        cases hb : Nat.beq x 38 with
        | false => rfl
        | true => exact absurd (Nat.eq_of_beq_eq_true hb) hx
      have h4 : ¬ 4 = b' := by omega
      have h5 : ¬ 5 = b' := by omega
      simp only [e, h4, h5, if_false]
  · subst h3
    by_cases hx : x = 80 ∧ z = 6
    · obtain ⟨rfl, rfl⟩ := hx
      rfl
    · rw [if_neg hx]
      by_cases h38 : Nat.beq x 38 = true
      · rw [h38]
        cases hb : Nat.blt z 4 with
        | false => rfl
        | true =>
          have : ¬ z = 4 := by intro h; subst h; cases hb
          simp only [this, if_false]
      · rw [Bool.not_eq_true] at h38
        rw [h38]
        have e : (Nat.beq x 80 && Nat.beq z 6) = false := by
          cases h1 : Nat.beq x 80 <;> cases h2 : Nat.beq z 6 <;> simp
          exact hx ⟨Nat.eq_of_beq_eq_true h1, Nat.eq_of_beq_eq_true h2⟩
        simp only [e]
        cases (Nat.beq x 80 && Nat.beq z 0) <;> rfl
theorem mq_Rt (P : Nat → Nat) : (fun x z => if x = 80 ∧ z = 0 then some 37 else mm_R0 P x z) = mm_R0 (fun j => if j = 5 then 48 else P j) := by
  funext x z
  unfold mm_R0
  by_cases hx : x = 80 ∧ z = 0
  · obtain ⟨rfl, rfl⟩ := hx
    rfl
  · rw [if_neg hx]
    by_cases h38 : Nat.beq x 38 = true
    · rw [h38]
      cases hb : Nat.blt z 4 with
      | false => rfl
      | true =>
        have : ¬ z = 5 := by intro h; subst h; cases hb
        simp only [this, if_false]
    · rw [Bool.not_eq_true] at h38
      rw [h38]
      have e : (Nat.beq x 80 && Nat.beq z 0) = false := by
        cases h1 : Nat.beq x 80 <;> cases h2 : Nat.beq z 0 <;> simp
        exact hx ⟨Nat.eq_of_beq_eq_true h1, Nat.eq_of_beq_eq_true h2⟩
      simp only [e]
      cases (Nat.beq x 80 && Nat.beq z 6) <;> rfl
theorem st_aS {i : Int32} (hc : code pc = some (.aastore, 1, v, t, 6, b, k, sw)) (hr : mq_A r) : mm_step X Y code (pc, ls, .ref r :: .int i :: .ref 38 :: st, mT s) = cond (mm_inb i 4) (some (.inl (pc + 1, ls, st, mT (sP s (ix i) r)))) none := by
  have e : mm_arr (mT s).1 38 3 = some 4 := rfl
  simp only [mm_step, hc, mq_oK (mq_a0 hr), e]
  cases hi : mm_inb i 4 with
  | false => rfl
  | true =>
    have h4 : ix i < 4 := Nat.le_of_ble_eq_true (mq_i4 hi)
    have e2 := mq_Rs s.2.2 (ix i) r 38 (ix i) (Or.inl ⟨rfl, rfl, h4⟩)
    show some (Sum.inl (pc + 1, ls, st, ((mT s).1, (mT s).2.1, (mT s).2.2.1, fun x z => if x = 38 ∧ z = ix i then some r else mm_R0 s.2.2 x z))) = _
    rw [e2]
    rfl
theorem st_pR4 {i : Nat} (hc : code pc = some (.putfield i, len, v, t, 7, 6, 2, sw)) : mm_step X Y code (pc, ls, .ref r :: .ref 80 :: st, mT s) = some (.inl (pc + len, ls, st, mT (sP s 4 r))) := by
  have e : mm_obj (mT s).1 80 7 = true := rfl
  have e2 := mq_Rs s.2.2 4 r 80 6 (Or.inr ⟨rfl, rfl, rfl⟩)
  simp only [mm_step, hc, e]
  show some (Sum.inl (pc + len, ls, st, ((mT s).1, (mT s).2.1, (mT s).2.2.1, fun x z => if x = 80 ∧ z = 6 then some r else mm_R0 s.2.2 x z))) = _
  rw [e2]
  rfl
theorem st_pT {i : Nat} (hc : code pc = some (.putfield i, len, v, t, 7, 0, 2, sw)) : mm_step X Y code (pc, ls, .ref 37 :: .ref 80 :: st, mT s) = some (.inl (pc + len, ls, st, mT (sP s 5 48))) := by
  have e : mm_obj (mT s).1 80 7 = true := rfl
  have e2 := mq_Rt s.2.2
  simp only [mm_step, hc, e]
  show some (Sum.inl (pc + len, ls, st, ((mT s).1, (mT s).2.1, (mT s).2.2.1, fun x z => if x = 80 ∧ z = 0 then some 37 else mm_R0 s.2.2 x z))) = _
  rw [e2]
  rfl
theorem mq_gT {s : mS} (h : gP s 5 = 48) : (mT s).2.2.2 80 0 = some 37 := by
  show (match Nat.beq (gP s 5) 48 with
    | true => some 37
    | false => some 179) = some 37
  rw [h]
theorem st_gT {i : Nat} (hc : code pc = some (.getfield i, len, v, t, 7, 0, 2, sw)) (h : gP s 5 = 48) : mm_step X Y code (pc, ls, .ref 80 :: st, mT s) = some (.inl (pc + len, ls, .ref 37 :: st, mT s)) := by
  have e : mm_obj (mT s).1 80 7 = true := rfl
  simp only [mm_step, hc, e, mq_gT h]
  rfl
theorem st_c {id pc' : Nat} {args rest : List Value} {c : mm_C} (h1 : mm_step X Y code c = mm_call1 Y 0 id b 6 pc' ls st (mT s)) (h2 : mm_pops b [] st = some (.ref r :: args, rest)) (h3 : Nat.ble (mm_cats rest) 8 = true) (hr : mq_A r) : mm_step X Y code c = some (.inr (.inr (id, .ref r :: args, pc', ls, rest, mT s))) := by
  rw [h1]
  unfold mm_call1
  have e : Nat.ble 10 0 = false := rfl
  have e2 : mm_head 0 6 (mT s).1 (.ref r :: args) = true := by
    rcases hr with rfl | rfl | rfl | rfl | rfl <;> rfl
  simp only [e, h2, h3, e2]
  rfl
theorem st_bL {i : Int32} (hc : code pc = some (.baload, 1, v, t, a, b, k, sw)) (ha : mm_arr mm_K0 q 2 = some n) : mm_step X Y code (pc, ls, .int i :: .ref q :: st, mT s) = cond (mm_inb i n) (some (.inl (pc + 1, ls, .int (gI s q (ix i)) :: st, mT s))) none := by
  have e : mm_arr (mT s).1 q 2 = some n := ha
  simp only [mm_step, hc, e]
  rfl
theorem st_bS {i y : Int32} (hc : code pc = some (.bastore, 1, v, t, a, b, k, sw)) (ha : mm_arr mm_K0 q 2 = some n) : mm_step X Y code (pc, ls, .int y :: .int i :: .ref q :: st, mT s) = cond (mm_inb i n && mm_bit y) (some (.inl (pc + 1, ls, st, mT (sI s q (ix i) y)))) none := by
  have e : mm_arr (mT s).1 q 2 = some n := ha
  simp only [mm_step, hc, e]
  rfl
theorem st_lL {i : Int32} (hc : code pc = some (.laload, 1, v, t, a, b, k, sw)) (ha : mm_arr mm_K0 q 1 = some n) : mm_step X Y code (pc, ls, .int i :: .ref q :: st, mT s) = cond (mm_inb i n) (some (.inl (pc + 1, ls, .long (gL s q (ix i)) :: st, mT s))) none := by
  have e : mm_arr (mT s).1 q 1 = some n := ha
  simp only [mm_step, hc, e]
  rfl
theorem st_lS {i : Int32} {y : Int64} (hc : code pc = some (.lastore, 1, v, t, a, b, k, sw)) (ha : mm_arr mm_K0 q 1 = some n) : mm_step X Y code (pc, ls, .long y :: .int i :: .ref q :: st, mT s) = cond (mm_inb i n) (some (.inl (pc + 1, ls, st, mT (sL s q (ix i) y)))) none := by
  have e : mm_arr (mT s).1 q 1 = some n := ha
  simp only [mm_step, hc, e]
  rfl
end ACTS
