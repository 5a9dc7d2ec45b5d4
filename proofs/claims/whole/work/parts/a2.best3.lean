/-! BEST: the class's search. -/
def bs_still (p : Nat) (x : Nat → Int32) : Int32 := smI (fun q => if p ≤ q + 3 then x q else 0) p
def bs_c (most cold : Nat → Int32) (p : Nat) (x : Nat → Int32) : Int32 := if cold p - bs_still p x < most p then cold p - bs_still p x else most p
def bs_C (most cold : Nat → Int32) (p : Nat) (x : Nat → Int32) : Nat := ix (if 0 < bs_c most cold p x then bs_c most cold p x else 0)
theorem bs_lo : ∀ p, p < 8 → (if (0 : Int32) < ((Int32.ofNat p - 4) + 1) then ((Int32.ofNat p - 4) + 1) else (0 : Int32)) = Int32.ofNat (p - 3) := by decide
theorem G_still {s : mS} {p : Nat} {x : Nat → Int32} (hp : p < 8) (hx : ∀ i, i < p → gI s 100 i = x i) : f_Night_stillBurning (Int32.ofNat p) s = bs_still p x ∧ ok_Night_stillBurning (Int32.ofNat p) s := by
  have A := lp_it (L := fun n (v : Int32 × Int32) => lp_Night_stillBurning_12 (Int32.ofNat p) s n v.1 v.2) (OK := fun n v => okl_Night_stillBurning_12 (Int32.ofNat p) s n v.1 v.2)
    (fun k v => v = (smI (fun q => if p ≤ q + 3 then x q else 0) (p - 3 + k), Int32.ofNat (p - 3 + k))) (fun r => r.1 = bs_still p x) (p - (p - 3))
    (fun n k v hk hv => by
      subst hv
      have e0 : ¬ Int32.ofNat p ≤ Int32.ofNat (p - 3 + k) := fl_lit (a := p) rfl (by omega) (by omega) (by omega)
      have e1 : ¬ (8 : Int32) ≤ Int32.ofNat (p - 3 + k) := fl_lit (a := 8) rfl (by omega) (by omega) (by omega)
      have e2 : ix (Int32.ofNat (p - 3 + k)) = p - 3 + k := ix_ofNat (by omega)
      have e3 : Int32.ofNat (p - 3 + k) + 1 = Int32.ofNat (p - 3 + (k + 1)) := ofNat_succ (p - 3 + k)
      have b1 : mm_inb (Int32.ofNat (p - 3 + k)) 8 = true := inb_ofNat (by decide) (by omega)
      have w : smI (fun q => if p ≤ q + 3 then x q else 0) (p - 3 + (k + 1)) = smI (fun q => if p ≤ q + 3 then x q else 0) (p - 3 + k) + gI s 100 (p - 3 + k) := by
        show _ + (if p ≤ p - 3 + k + 3 then x (p - 3 + k) else 0) = _
        rw [if_pos (by omega), hx _ (by omega)]
        rfl
      refine ⟨_, ?_, ?_, rfl⟩
      · rw [w]
        simp only [lp_Night_stillBurning_12, e0, e1, e2, e3, if_false]
      · rw [w]
        intro q
        simp only [okl_Night_stillBurning_12, e0, e1, e2, e3, if_false, b1, true_and]
        exact q)
    (fun n v hv => by
      subst hv
      have e : p - 3 + (p - (p - 3)) = p := by omega
      rw [e]
      constructor
      · simp only [lp_Night_stillBurning_12, Int32.le_refl, if_true]
        rfl
      · simp only [okl_Night_stillBurning_12, Int32.le_refl, if_true])
    (p - (p - 3)) 0 mm_N (0, Int32.ofNat (p - 3)) (by omega) (by rw [mm_Ns]; omega) (by
      rw [Nat.add_zero]
      have z : smI (fun q => if p ≤ q + 3 then x q else 0) (p - 3) = 0 := smI_0 (Nat.zero_le _) (fun q _ h => if_neg (by omega))
      rw [z])
  constructor
  · unfold f_Night_stillBurning
    rw [bs_lo p hp, mq_let_e]
    exact A.1
  · unfold ok_Night_stillBurning
    rw [bs_lo p hp]
    exact ⟨A.2, trivial⟩
theorem bs_age : ∀ i, i < 32 → ∀ q, q < 8 → 4 * q ≤ i → Int32.ofNat i - Int32.ofNat q * 4 = Int32.ofNat (i - 4 * q) ∧ Int32.ofNat i - 4 * Int32.ofNat q = Int32.ofNat (i - 4 * q) := by decide
theorem bs_neg : ∀ i, i < 32 → ∀ q, q < 8 → i < 4 * q → Int32.ofNat i - 4 * Int32.ofNat q < 0 := by decide
theorem G_plan {s : mS} {p i : Nat} {x : Nat → Int32} {inS : Int32 → Int32} (hp : p < 8) (hi1 : 4 * p ≤ i) (hi2 : i < 4 * p + 4) (hx : ∀ q, q ≤ p → gI s 100 q = x q) (h97 : ∀ a, a < 16 → gI s 97 (a + 1) = inS (Int32.ofNat a)) (h0 : ∀ j, j < 0 → inS j = 0) (h16 : ∀ a, 16 ≤ a → a < 32 → inS (Int32.ofNat a) = 0) : f_Night_gasOfPlan (Int32.ofNat p) (Int32.ofNat i) s = bs_gp inS x i ∧ ok_Night_gasOfPlan (Int32.ofNat p) (Int32.ofNat i) s := by
  have big : bs_gp inS x i = smI (fun q => x q * inS (Int32.ofNat i - 4 * Int32.ofNat q)) (p + 1) := smI_0 (by omega) (fun q h1 h2 => by
    rw [h0 _ (bs_neg i (by omega) q h2 (by omega)), Int32.mul_zero])
  have low : smI (fun q => x q * inS (Int32.ofNat i - 4 * Int32.ofNat q)) (p - 3) = 0 := smI_0 (Nat.zero_le _) (fun q _ h => by
    show x q * inS (Int32.ofNat i - 4 * Int32.ofNat q) = 0
    rw [(bs_age i (by omega) q (by omega) (by omega)).2, h16 _ (by omega) (by omega), Int32.mul_zero])
  have A := lp_it (L := fun n (v : Int32 × Int32) => lp_Night_gasOfPlan_13 (Int32.ofNat p) (Int32.ofNat i) s n v.1 v.2) (OK := fun n v => okl_Night_gasOfPlan_13 (Int32.ofNat p) (Int32.ofNat i) s n v.1 v.2)
    (fun k v => v = (smI (fun q => x q * inS (Int32.ofNat i - 4 * Int32.ofNat q)) (p - 3 + k), Int32.ofNat (p - 3 + k))) (fun r => r.1 = bs_gp inS x i) (p + 1 - (p - 3))
    (fun n k v hk hv => by
      subst hv
      have e0 : ¬ Int32.ofNat p < Int32.ofNat (p - 3 + k) := by
        rw [ofNat_lt (by omega) (by omega)]
        omega
      have e1 : ¬ (8 : Int32) ≤ Int32.ofNat (p - 3 + k) := fl_lit (a := 8) rfl (by omega) (by omega) (by omega)
      have e2 : ix (Int32.ofNat (p - 3 + k)) = p - 3 + k := ix_ofNat (by omega)
      have e3 : Int32.ofNat (p - 3 + k) + 1 = Int32.ofNat (p - 3 + (k + 1)) := ofNat_succ (p - 3 + k)
      have b1 : mm_inb (Int32.ofNat (p - 3 + k)) 8 = true := inb_ofNat (by decide) (by omega)
      have ag := bs_age i (by omega) (p - 3 + k) (by omega) (by omega)
      have e4 : Int32.ofNat (i - 4 * (p - 3 + k)) + 1 = Int32.ofNat (i - 4 * (p - 3 + k) + 1) := ofNat_succ _
      have e5 : ¬ Int32.ofNat (i - 4 * (p - 3 + k) + 1) < 0 := Int32.not_lt.mpr ((ofNat_le (a := 0) (by omega) (by omega)).mpr (Nat.zero_le _))
      have e6 : ¬ (17 : Int32) ≤ Int32.ofNat (i - 4 * (p - 3 + k) + 1) := fl_lit (a := 17) rfl (by omega) (by omega) (by omega)
      have e7 : ix (Int32.ofNat (i - 4 * (p - 3 + k) + 1)) = i - 4 * (p - 3 + k) + 1 := ix_ofNat (by omega)
      have b2 : mm_inb (Int32.ofNat (i - 4 * (p - 3 + k) + 1)) 17 = true := inb_ofNat (by decide) (by omega)
      have w : smI (fun q => x q * inS (Int32.ofNat i - 4 * Int32.ofNat q)) (p - 3 + (k + 1)) = smI (fun q => x q * inS (Int32.ofNat i - 4 * Int32.ofNat q)) (p - 3 + k) + gI s 100 (p - 3 + k) * gI s 97 (i - 4 * (p - 3 + k) + 1) := by
        show _ + x (p - 3 + k) * inS (Int32.ofNat i - 4 * Int32.ofNat (p - 3 + k)) = _
        rw [ag.2, hx _ (by omega), h97 _ (by omega)]
        rfl
      refine ⟨_, ?_, ?_, rfl⟩
      · rw [w]
        simp only [lp_Night_gasOfPlan_13, e0, e1, e2, e3, ag.1, e4, e5, e6, e7, if_false]
      · rw [w]
        intro q
        simp only [okl_Night_gasOfPlan_13, e0, e1, e2, e3, ag.1, e4, e5, e6, e7, if_false, b1, b2, true_and]
        exact q)
    (fun n v hv => by
      subst hv
      have e : p - 3 + (p + 1 - (p - 3)) = p + 1 := by omega
      rw [e]
      have e0 : Int32.ofNat p < Int32.ofNat (p + 1) := (ofNat_lt (by omega) (by omega)).mpr (by omega)
      constructor
      · simp only [lp_Night_gasOfPlan_13, e0, if_true]
        exact big.symm
      · simp only [okl_Night_gasOfPlan_13, e0, if_true])
    (p + 1 - (p - 3)) 0 mm_N (0, Int32.ofNat (p - 3)) (by omega) (by rw [mm_Ns]; omega) (by rw [Nat.add_zero, low])
  constructor
  · unfold f_Night_gasOfPlan
    rw [bs_lo p hp, mq_let_e]
    exact A.1
  · unfold ok_Night_gasOfPlan
    rw [bs_lo p hp]
    exact ⟨A.2, trivial⟩
theorem min_lt (a b : Int32) : (if a < b then a else b) = if a ≤ b then a else b := by
  by_cases h : a < b
  · rw [if_pos h, if_pos (Int32.le_of_lt h)]
  · rw [if_neg h]
    by_cases q : a ≤ b
    · rw [if_pos q]
      exact Int32.le_antisymm (Int32.not_lt.mp h) q
    · rw [if_neg q]
theorem G_level {s : mS} {p : Nat} {x : Nat → Int32} {inS : Int32 → Int32} {G W : Nat → Int32} {cap : Int32} (hp : p < 8) (hx : ∀ q, q ≤ p → gI s 100 q = x q) (h97 : ∀ a, a < 16 → gI s 97 (a + 1) = inS (Int32.ofNat a)) (h0 : ∀ j, j < 0 → inS j = 0) (h16 : ∀ a, 16 ≤ a → a < 32 → inS (Int32.ofNat a) = 0) (h96 : ∀ i, i < 32 → gI s 96 i = G i) (h95 : ∀ i, i < 32 → gI s 95 i = W i) (h8 : gI s 94 8 = cap) (lv : Int32) : f_Night_levelBehind (Int32.ofNat p) lv s = bs_lv inS G W cap x (4 * p) 4 lv ∧ ok_Night_levelBehind (Int32.ofNat p) lv s := by
  have e4 : ∀ p, p < 8 → Int32.ofNat p * 4 = Int32.ofNat (4 * p) ∧ Int32.ofNat p * 4 + 4 = Int32.ofNat (4 * p + 4) := by decide
  have A : ∀ r i n lv, i + r = 4 * p + 4 → 4 * p ≤ i → r < n → mq_el (lp_Night_levelBehind_7 (Int32.ofNat p) (Int32.ofNat p * 4) s n lv (Int32.ofNat i)).1 (fun v => v) (lp_Night_levelBehind_7 (Int32.ofNat p) (Int32.ofNat p * 4) s n lv (Int32.ofNat i)).2.1 = bs_lv inS G W cap x i r lv ∧ okl_Night_levelBehind_7 (Int32.ofNat p) (Int32.ofNat p * 4) s n lv (Int32.ofNat i) := by
    intro r
    induction r with
    | zero =>
      intro i n lv h1 h2 h3
      obtain ⟨n', rfl⟩ : ∃ n', n = n' + 1 := ⟨n - 1, by omega⟩
      have ei : i = 4 * p + 4 := by omega
      subst ei
      have e0 : Int32.ofNat (4 * p + 4) ≤ Int32.ofNat (4 * p + 4) := Int32.le_refl _
      constructor
      · simp only [lp_Night_levelBehind_7, (e4 p hp).2, e0, if_true]
        rfl
      · simp only [okl_Night_levelBehind_7, (e4 p hp).2, e0, if_true]
    | succ r ih =>
      intro i n lv h1 h2 h3
      obtain ⟨n', rfl⟩ : ∃ n', n = n' + 1 := ⟨n - 1, by omega⟩
      have e0 : ¬ Int32.ofNat (4 * p + 4) ≤ Int32.ofNat i := fl_lit (a := 4 * p + 4) rfl (by omega) (by omega) (by omega)
      have e1 : ¬ (32 : Int32) ≤ Int32.ofNat i := fl_lit (a := 32) rfl (by omega) (by omega) (by omega)
      have e2 : ix (Int32.ofNat i) = i := ix_ofNat (by omega)
      have e3 : Int32.ofNat i + 1 = Int32.ofNat (i + 1) := ofNat_succ i
      have b1 : mm_inb (Int32.ofNat i) 32 = true := inb_ofNat (by decide) (by omega)
      have gp := G_plan (s := s) (p := p) (i := i) hp h2 (by omega) hx h97 h0 h16
      have on : (if lv + G i + bs_gp inS x i < cap then lv + G i + bs_gp inS x i else cap) - W i = bs_one inS G W cap x i lv := by
        unfold bs_one
        rw [min_lt]
      have g96 := h96 i (by omega)
      have g95 := h95 i (by omega)
      have i' := ih (i + 1) n' (bs_one inS G W cap x i lv) (by omega) (by omega) (by omega)
      by_cases c : 0 ≤ bs_one inS G W cap x i lv
      · have sp : bs_lv inS G W cap x i (r + 1) lv = bs_lv inS G W cap x (i + 1) r (bs_one inS G W cap x i lv) := if_pos c
        rw [sp]
        constructor
        · simp only [lp_Night_levelBehind_7, mq_let_e, (e4 p hp).2, e0, e1, if_false, e2, e3, gp.1, g96, g95, h8, on, c, if_true]
          exact i'.1
        · simp only [okl_Night_levelBehind_7, mq_letP_e, (e4 p hp).2, e0, e1, if_false, e2, e3, gp.1, gp.2, g96, g95, h8, on, c, if_true, b1, true_and]
          exact i'.2
      · have sp : bs_lv inS G W cap x i (r + 1) lv = -1 := if_neg c
        rw [sp]
        constructor
        · simp only [lp_Night_levelBehind_7, mq_let_e, (e4 p hp).2, e0, e1, if_false, e2, e3, gp.1, g96, g95, h8, on, c]
          rfl
        · simp only [okl_Night_levelBehind_7, mq_letP_e, (e4 p hp).2, e0, e1, if_false, e2, e3, gp.1, gp.2, g96, g95, h8, on, c, b1, true_and]
  have B := A 4 (4 * p) mm_N lv (by omega) (Nat.le_refl _) (by rw [mm_Ns]; omega)
  rw [← (e4 p hp).1] at B
  constructor
  · unfold f_Night_levelBehind
    rw [mq_let_e]
    exact B.1
  · unfold ok_Night_levelBehind
    refine ⟨B.2, ?_⟩
    rw [mq_letP_e]
    generalize (lp_Night_levelBehind_7 (Int32.ofNat p) (Int32.ofNat p * 4) s mm_N lv (Int32.ofNat p * 4)).1 = o
    cases o <;> trivial
