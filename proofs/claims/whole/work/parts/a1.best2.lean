/-! BEST: levels; plans tried to the end against plans given up early. -/
section BEST2
variable (inS : Int32 → Int32) (G W : Nat → Int32) (cap : Int32)
/-- the gas of a plan's own charges in a step -/
def bs_gp (x : Nat → Int32) (i : Nat) : Int32 := smI (fun q => x q * inS (Int32.ofNat i - 4 * Int32.ofNat q)) 8
def bs_one (x : Nat → Int32) (i : Nat) (lv : Int32) : Int32 := (if lv + G i + bs_gp inS x i ≤ cap then lv + G i + bs_gp inS x i else cap) - W i
def bs_lv (x : Nat → Int32) : Nat → Nat → Int32 → Int32
  | _, 0, lv => lv
  | i, r + 1, lv => if 0 ≤ bs_one inS G W cap x i lv then bs_lv x (i + 1) r (bs_one inS G W cap x i lv) else -1
theorem bs_lv_add (x : Nat → Int32) : ∀ a i b lv, 0 ≤ lv → bs_lv inS G W cap x i (a + b) lv = if bs_lv inS G W cap x i a lv < 0 then -1 else bs_lv inS G W cap x (i + a) b (bs_lv inS G W cap x i a lv)
  | 0, i, b, lv, h => by
    show bs_lv inS G W cap x i (0 + b) lv = if lv < 0 then -1 else bs_lv inS G W cap x i b lv
    rw [if_neg (Int32.not_lt.mpr h), Nat.zero_add]
  | a + 1, i, b, lv, h => by
    have e : a + 1 + b = (a + b) + 1 := by omega
    rw [e]
    show (if 0 ≤ bs_one inS G W cap x i lv then bs_lv inS G W cap x (i + 1) (a + b) (bs_one inS G W cap x i lv) else -1) = if (if 0 ≤ bs_one inS G W cap x i lv then bs_lv inS G W cap x (i + 1) a (bs_one inS G W cap x i lv) else -1) < 0 then -1 else bs_lv inS G W cap x (i + (a + 1)) b (if 0 ≤ bs_one inS G W cap x i lv then bs_lv inS G W cap x (i + 1) a (bs_one inS G W cap x i lv) else -1)
    by_cases c : 0 ≤ bs_one inS G W cap x i lv
    · simp only [if_pos c]
      rw [bs_lv_add x a (i + 1) b _ c, show i + 1 + a = i + (a + 1) by omega]
    · simp only [if_neg c]
      rw [if_pos (by decide)]
theorem bs_lv_rng (x : Nat → Int32) : ∀ r i lv, 0 ≤ lv → bs_lv inS G W cap x i r lv = -1 ∨ 0 ≤ bs_lv inS G W cap x i r lv
  | 0, _, _, h => Or.inr h
  | r + 1, i, lv, _ => by
    show (if 0 ≤ bs_one inS G W cap x i lv then bs_lv inS G W cap x (i + 1) r (bs_one inS G W cap x i lv) else -1) = -1 ∨ 0 ≤ (if 0 ≤ bs_one inS G W cap x i lv then bs_lv inS G W cap x (i + 1) r (bs_one inS G W cap x i lv) else -1)
    split
    · next c => exact bs_lv_rng x r (i + 1) _ c
    · exact Or.inl rfl
theorem bs_lv_c {x y : Nat → Int32} : ∀ r i lv, (∀ j, i ≤ j → j < i + r → bs_gp inS x j = bs_gp inS y j) → bs_lv inS G W cap x i r lv = bs_lv inS G W cap y i r lv
  | 0, _, _, _ => rfl
  | r + 1, i, lv, h => by
    have e : bs_one inS G W cap x i lv = bs_one inS G W cap y i lv := by
      unfold bs_one
      rw [h i (Nat.le_refl i) (by omega)]
    show (if 0 ≤ bs_one inS G W cap x i lv then bs_lv inS G W cap x (i + 1) r (bs_one inS G W cap x i lv) else -1) = _
    rw [e, bs_lv_c r (i + 1) _ (fun j h1 h2 => h j (by omega) (by omega))]
    rfl
theorem bs_gp_c (h0 : ∀ j, j < 0 → inS j = 0) {x y : Nat → Int32} {p i : Nat} (hi : i < 4 * p) (hp : p ≤ 8) (h : ∀ q, q < p → x q = y q) : bs_gp inS x i = bs_gp inS y i := by
  unfold bs_gp
  refine smI_c (fun q hq => ?_)
  by_cases c : q < p
  · rw [h q c]
  · have lt : ∀ i, i < 32 → ∀ q, q < 8 → i < 4 * q → Int32.ofNat i - 4 * Int32.ofNat q < 0 := by decide
    rw [h0 _ (lt i (by omega) q hq (by omega)), Int32.mul_zero, Int32.mul_zero]
variable (C : Nat → (Nat → Int32) → Nat) (lv0 : Int32)
/-- plans tried to the end -/
def bs_E : Nat → (Nat → Int32) → Nat → Option (Nat → Int32)
  | 0, x, left => if left = 0 then (if 0 ≤ bs_lv inS G W cap x 0 32 lv0 then some x else none) else none
  | k + 1, x, left => bs_F (fun n => bs_E k (up x (7 - k) (Int32.ofNat n)) (left - n)) (min left (C (7 - k) x) + 1)
theorem bs_ED (h0 : ∀ j, j < 0 → inS j = 0) (hl : 0 ≤ lv0) : ∀ k, k ≤ 8 → ∀ x left, (0 ≤ bs_lv inS G W cap x 0 (4 * (8 - k)) lv0 → bs_E inS G W cap C lv0 k x left = bs_D C (fun p x lv => bs_lv inS G W cap x (4 * p) 4 lv) k x (bs_lv inS G W cap x 0 (4 * (8 - k)) lv0) left) ∧ (bs_lv inS G W cap x 0 (4 * (8 - k)) lv0 < 0 → bs_E inS G W cap C lv0 k x left = none) := by
  intro k
  induction k with
  | zero =>
    intro _ x left
    constructor
    · intro h
      show (if left = 0 then (if 0 ≤ bs_lv inS G W cap x 0 32 lv0 then some x else none) else none) = if left = 0 then some x else none
      rw [if_pos (show 0 ≤ bs_lv inS G W cap x 0 32 lv0 from h)]
    · intro h
      show (if left = 0 then (if 0 ≤ bs_lv inS G W cap x 0 32 lv0 then some x else none) else none) = none
      rw [if_neg (Int32.not_le.mpr (show bs_lv inS G W cap x 0 32 lv0 < 0 from h)), ite_self]
  | succ k ih =>
    intro hk x left
    have e8 : 8 - (k + 1) = 7 - k := by omega
    rw [e8]
    have st : ∀ n, bs_lv inS G W cap (up x (7 - k) (Int32.ofNat n)) 0 (4 * (8 - k)) lv0 = if bs_lv inS G W cap x 0 (4 * (7 - k)) lv0 < 0 then -1 else bs_lv inS G W cap (up x (7 - k) (Int32.ofNat n)) (4 * (7 - k)) 4 (bs_lv inS G W cap x 0 (4 * (7 - k)) lv0) := fun n => by
      have e4 : 4 * (8 - k) = 4 * (7 - k) + 4 := by omega
      have ec : bs_lv inS G W cap (up x (7 - k) (Int32.ofNat n)) 0 (4 * (7 - k)) lv0 = bs_lv inS G W cap x 0 (4 * (7 - k)) lv0 := bs_lv_c inS G W cap _ _ _ (fun j _ h2 => bs_gp_c inS h0 (p := 7 - k) (by omega) (by omega) (fun q hq => up_ne (by omega)))
      rw [e4, bs_lv_add inS G W cap _ _ _ _ _ hl, ec, Nat.zero_add]
    constructor
    · intro h
      have nn : ¬ bs_lv inS G W cap x 0 (4 * (7 - k)) lv0 < 0 := Int32.not_lt.mpr h
      show bs_F _ _ = bs_F _ _
      refine bs_F_c (fun n _ => ?_)
      have i := ih (by omega) (up x (7 - k) (Int32.ofNat n)) (left - n)
      rw [st n, if_neg nn] at i
      by_cases c : bs_lv inS G W cap (up x (7 - k) (Int32.ofNat n)) (4 * (7 - k)) 4 (bs_lv inS G W cap x 0 (4 * (7 - k)) lv0) < 0
      · rw [if_pos c]
        exact i.2 c
      · rw [if_neg c]
        exact i.1 (Int32.not_lt.mp c)
    · intro h
      show bs_F _ _ = none
      refine bs_F_none (fun n _ => ?_)
      have i := ih (by omega) (up x (7 - k) (Int32.ofNat n)) (left - n)
      rw [st n, if_pos h] at i
      exact i.2 (by decide)
end BEST2
theorem bs_D_max {C : Nat → (Nat → Int32) → Nat} {L : Nat → (Nat → Int32) → Int32 → Int32} (hC : ∀ p x, C p x ≤ 6) : ∀ k x lv left, 6 * k < left → bs_D C L k x lv left = none
  | 0, x, lv, left, h => if_neg (by omega)
  | k + 1, x, lv, left, h => by
    show bs_F _ _ = none
    refine bs_F_none (fun n hn => ?_)
    have := hC (7 - k) x
    split
    · rfl
    · exact bs_D_max hC k _ _ _ (by omega)
