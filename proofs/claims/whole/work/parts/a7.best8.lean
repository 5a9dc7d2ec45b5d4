/-! BEST: the model's search. -/
theorem bs_F_pre {α : Type} {f : Nat → Option α} {y : α} {i : Nat} (h : bs_F f i = some y) : ∀ n, i ≤ n → bs_F f n = some y
  | 0, hn => by
    have : i = 0 := by omega
    rw [this] at h
    exact h
  | n + 1, hn => by
    by_cases e : i = n + 1
    · rw [← e]
      exact h
    · show or_o (bs_F f n) (f n) = some y
      rw [bs_F_pre h n (by omega)]
      rfl
def bmK (s0 : mS) (V : Int32) (inS : Int32 → Int32) (G W : Nat → Int32) (cap lv0 : Int32) (most cold : Nat → Int32) (B : Nat) : Prop := (∀ i, i < 32 → gI s0 172 i = G i) ∧ (∀ i, i < 32 → gI s0 173 i = W i) ∧ (∀ j, f_M_inStep V j s0 = inS j) ∧ (∀ j, 0 ≤ inS j ∧ inS j ≤ 1800) ∧ (∀ i, i < 32 → 0 ≤ G i ∧ G i ≤ 10800) ∧ (∀ i, i < 32 → 0 ≤ W i ∧ W i ≤ 100000) ∧ cap ≤ 99999 ∧ gI s0 116 5 = cap ∧ gI s0 116 6 = lv0 ∧ 0 ≤ lv0 ∧ lv0 ≤ cap ∧ B ≤ 6 ∧ gI s0 116 4 = Int32.ofNat B ∧ (∀ p, p < 8 → b_busy s0 B p + cold p = Int32.ofNat B) ∧ ∀ p, p < 8 → most p = gI s0 116 2 / 3 - (if p = 0 then gI s0 116 3 else 0)
def bm_R (s0 : mS) (x : Nat → Int32) : Option (Nat → Int32) → Int32 × mS
  | some y => (1, sA s0 170 y)
  | none => (0, sA s0 170 x)
theorem ofNat_subn {a b : Nat} (h : b ≤ a) : Int32.ofNat a - Int32.ofNat b = Int32.ofNat (a - b) := by
  have e2 : Int32.ofNat (a - b) + Int32.ofNat b = Int32.ofNat a := by
    rw [← Int32.ofNat_add]
    congr 1
    omega
  rw [← e2]
  grind
theorem up_up {α : Type} (f : Nat → α) (i : Nat) (x y : α) : up (up f i x) i y = up f i y := by
  funext j
  unfold up
  split <;> rfl
theorem up_id {α : Type} (f : Nat → α) (i : Nat) (x : α) (h : f i = x) : up f i x = f := by
  funext j
  unfold up
  split
  · next e => rw [e, h]
  · rfl
theorem inStep_sA (V j : Int32) (s : mS) (x : Nat → Int32) : f_M_inStep V j (sA s 170 x) = f_M_inStep V j s := by
  unfold f_M_inStep
  simp only [mq_let_e, z_isIn, fI_sA, Nat.reduceEqDiff, if_false]
theorem M_plans {s0 : mS} {V : Int32} {inS : Int32 → Int32} {G W : Nat → Int32} {cap lv0 : Int32} {most cold : Nat → Int32} {B : Nat} (hK : bmK s0 V inS G W cap lv0 most cold B) : ∀ k, k ≤ 8 → ∀ x left, left ≤ 48 → (∀ q, q < 8 → 0 ≤ x q ∧ x q ≤ 48) → (∀ q, 8 - k ≤ q → q < 8 → x q = 0) → OK_M_plans (k + 1) (Int32.ofNat (8 - k)) (Int32.ofNat left) V (sA s0 170 x) ∧ F_M_plans (k + 1) (Int32.ofNat (8 - k)) (Int32.ofNat left) V (sA s0 170 x) = bm_R s0 x (bs_E inS G W cap (bs_C most cold) lv0 k x left) := by
  obtain ⟨k1, k2, k3, k4, k5, k6, k7, k8, k9, k10, k11, k12, k13, k14, k15⟩ := hK
  have r4 : ∀ x : Nat → Int32, gI (sA s0 170 x) 116 4 = Int32.ofNat B := fun x => by rw [gI_sA, if_neg (by decide), k13]
  have r2 : ∀ x : Nat → Int32, gI (sA s0 170 x) 116 2 = gI s0 116 2 := fun x => by rw [gI_sA, if_neg (by decide)]
  have r3 : ∀ x : Nat → Int32, gI (sA s0 170 x) 116 3 = gI s0 116 3 := fun x => by rw [gI_sA, if_neg (by decide)]
  intro k
  induction k with
  | zero =>
    intro _ x left hl hx _
    have good := M_good (s := sA s0 170 x) (V := V) (x := x) (G := G) (W := W) (inS := inS) (cap := cap) (lv0 := lv0) (fun q _ => by rw [gI_sA, if_pos rfl]) (fun i hi => by rw [gI_sA, if_neg (by decide), k1 i hi]) (fun i hi => by rw [gI_sA, if_neg (by decide), k2 i hi]) (fun j => by rw [inStep_sA, k3 j]) k4 hx k5 k6 k7 (by rw [gI_sA, if_neg (by decide), k8]) (by rw [gI_sA, if_neg (by decide), k9]) k10 k11
    have a8 : Int32.ofNat 8 = (8 : Int32) := rfl
    have a0 : (Int32.ofNat left = 0) = (left = 0) := by
      apply propext
      exact ofNat_inj (b := 0) (by omega) (by omega)
    show ok_M_plans (F_M_plans 0) (OK_M_plans 0) (Int32.ofNat 8) (Int32.ofNat left) V (sA s0 170 x) ∧ f_M_plans (F_M_plans 0) (Int32.ofNat 8) (Int32.ofNat left) V (sA s0 170 x) = bm_R s0 x (if left = 0 then (if 0 ≤ bs_lv inS G W cap x 0 32 lv0 then some x else none) else none)
    by_cases c : left = 0
    · rw [if_pos c]
      constructor
      · simp only [ok_M_plans, mq_letP_e, a8, if_true, a0, if_pos c, good.2, and_true]
      · by_cases d : 0 ≤ bs_lv inS G W cap x 0 32 lv0
        · have g1 := good.1
          rw [if_pos d] at g1
          rw [if_pos d]
          have n1 : ¬ (1 : Int32) = 0 := by decide
          simp only [f_M_plans, mq_let_e, a8, if_true, a0, if_pos c, g1, if_neg n1]
          rfl
        · have g1 := good.1
          rw [if_neg d] at g1
          rw [if_neg d]
          simp only [f_M_plans, mq_let_e, a8, if_true, a0, if_pos c, g1]
          rfl
    · rw [if_neg c]
      constructor
      · simp only [ok_M_plans, mq_letP_e, a8, if_true, a0, if_neg c]
      · simp only [f_M_plans, mq_let_e, a8, if_true, a0, if_neg c]
        rfl
  | succ k ih =>
    intro hk x left hl hx hx0
    have e8 : 8 - (k + 1) = 7 - k := by omega
    rw [e8] at hx0 ⊢
    have hp : 7 - k < 8 := by omega
    have bu := M_busy (s := sA s0 170 x) (x := x) (r4 x) k12 hp (fun q _ => by rw [gI_sA, if_pos rfl])
    have bb : b_busy (sA s0 170 x) B (7 - k) = b_busy s0 B (7 - k) := by
      unfold b_busy
      simp only [gI_sA, Nat.reduceEqDiff, if_false]
    rw [bb] at bu
    have cc : Int32.ofNat B - (b_busy s0 B (7 - k) + bs_still (7 - k) x) = cold (7 - k) - bs_still (7 - k) x := by
      rw [← k14 _ hp]
      grind
    have p8 : ¬ Int32.ofNat (7 - k) = 8 := by
      intro q
      exact absurd ((ofNat_inj (b := 8) (by omega) (by omega)).mp q) (by omega)
    have p0 : (Int32.ofNat (7 - k) = 0) = (7 - k = 0) := by
      apply propext
      exact ofNat_inj (b := 0) (by omega) (by omega)
    have mm : (if most (7 - k) ≤ cold (7 - k) - bs_still (7 - k) x then most (7 - k) else cold (7 - k) - bs_still (7 - k) x) = bs_c most cold (7 - k) x := by
      unfold bs_c
      by_cases c : most (7 - k) ≤ cold (7 - k) - bs_still (7 - k) x
      · rw [if_pos c, if_neg (Int32.not_lt.mpr c)]
      · rw [if_neg c, if_pos (Int32.not_le.mp c)]
    have am : (if 0 ≤ (if bs_c most cold (7 - k) x ≤ Int32.ofNat left then bs_c most cold (7 - k) x else Int32.ofNat left) then (if bs_c most cold (7 - k) x ≤ Int32.ofNat left then bs_c most cold (7 - k) x else Int32.ofNat left) else 0) = Int32.ofNat (min left (bs_C most cold (7 - k) x)) := bs_atMost2 (by omega)
    have m15 := k15 _ hp
    generalize hm : min left (bs_C most cold (7 - k) x) = m at am
    have hml : m ≤ left := by omega
    have ip : ix (Int32.ofNat (7 - k)) = 7 - k := ix_ofNat (by omega)
    have bp : mm_inb (Int32.ofNat (7 - k)) 8 = true := inb_ofNat (by decide) hp
    have pn : Int32.ofNat (7 - k) + 1 = Int32.ofNat (8 - k) := by
      rw [ofNat_succ]
      congr 1
      omega
    have LP : ∀ r i n z, i + r = m + 1 → r < n → (∀ c, up z (7 - k) c = up x (7 - k) c) → bs_F (fun n => bs_E inS G W cap (bs_C most cold) lv0 k (up x (7 - k) (Int32.ofNat n)) (left - n)) i = none → okl_M_plans_88 (F_M_plans (k + 1)) (OK_M_plans (k + 1)) (Int32.ofNat (7 - k)) (Int32.ofNat left) V (Int32.ofNat m) n (Int32.ofNat i) (sA s0 170 z) ∧ mq_el (lp_M_plans_88 (F_M_plans (k + 1)) (Int32.ofNat (7 - k)) (Int32.ofNat left) V (Int32.ofNat m) n (Int32.ofNat i) (sA s0 170 z)).1 (fun v => (v, (lp_M_plans_88 (F_M_plans (k + 1)) (Int32.ofNat (7 - k)) (Int32.ofNat left) V (Int32.ofNat m) n (Int32.ofNat i) (sA s0 170 z)).2.2)) (0, sI (lp_M_plans_88 (F_M_plans (k + 1)) (Int32.ofNat (7 - k)) (Int32.ofNat left) V (Int32.ofNat m) n (Int32.ofNat i) (sA s0 170 z)).2.2 170 (7 - k) 0) = bm_R s0 x (bs_F (fun n => bs_E inS G W cap (bs_C most cold) lv0 k (up x (7 - k) (Int32.ofNat n)) (left - n)) (m + 1)) := by
      intro r
      induction r with
      | zero =>
        intro i n z h1 h2 h3 h4
        obtain ⟨n', rfl⟩ : ∃ n', n = n' + 1 := ⟨n - 1, by omega⟩
        have ei : i = m + 1 := by omega
        subst ei
        have e0 : Int32.ofNat m < Int32.ofNat (m + 1) := (ofNat_lt (by omega) (by omega)).mpr (by omega)
        rw [h4]
        constructor
        · simp only [okl_M_plans_88, e0, if_true]
        · simp only [lp_M_plans_88, e0, if_true]
          rw [mq_el_n, sI_sA, h3, up_id x _ _ (hx0 _ (Nat.le_refl _) hp)]
          rfl
      | succ r ihr =>
        intro i n z h1 h2 h3 h4
        obtain ⟨n', rfl⟩ : ∃ n', n = n' + 1 := ⟨n - 1, by omega⟩
        have e0 : ¬ Int32.ofNat m < Int32.ofNat i := by
          rw [ofNat_lt (by omega) (by omega)]
          omega
        have e3 : Int32.ofNat i + 1 = Int32.ofNat (i + 1) := ofNat_succ i
        have e4 : Int32.ofNat left - Int32.ofNat i = Int32.ofNat (left - i) := ofNat_subn (by omega)
        have e5 : sI (sA s0 170 z) 170 (7 - k) (Int32.ofNat i) = sA s0 170 (up x (7 - k) (Int32.ofNat i)) := by rw [sI_sA, h3]
        have I := ih (by omega) (up x (7 - k) (Int32.ofNat i)) (left - i) (by omega) (fun q hq => by
          by_cases e : q = 7 - k
          · rw [e, up_self]
            exact ⟨(ofNat_le (a := 0) (by omega) (by omega)).mpr (Nat.zero_le _), (ofNat_le (b := 48) (by omega) (by omega)).mpr (by omega)⟩
          · rw [up_ne e]
            exact hx q hq) (fun q h1 h2 => by
          rw [up_ne (by omega)]
          exact hx0 q (by omega) h2)
        obtain ⟨I1, I2⟩ := I
        cases hf : bs_E inS G W cap (bs_C most cold) lv0 k (up x (7 - k) (Int32.ofNat i)) (left - i) with
        | some y =>
          have F1 : bs_F (fun n => bs_E inS G W cap (bs_C most cold) lv0 k (up x (7 - k) (Int32.ofNat n)) (left - n)) (i + 1) = some y := by
            show or_o (bs_F _ i) _ = some y
            rw [h4]
            exact hf
          rw [bs_F_pre F1 (m + 1) (by omega)]
          rw [hf] at I2
          have I2 : F_M_plans (k + 1) (Int32.ofNat (8 - k)) (Int32.ofNat (left - i)) V (sA s0 170 (up x (7 - k) (Int32.ofNat i))) = (1, sA s0 170 y) := I2
          have n1 : ¬ (1 : Int32) = 0 := by decide
          constructor
          · simp only [okl_M_plans_88, mq_letP_e, e0, if_false, bp, ip, e5, e4, pn, I1, I2, n1, true_and, and_true]
          · simp only [lp_M_plans_88, mq_let_e, e0, if_false, ip, e5, e4, pn, I2, n1]
            rfl
        | none =>
          have F1 : bs_F (fun n => bs_E inS G W cap (bs_C most cold) lv0 k (up x (7 - k) (Int32.ofNat n)) (left - n)) (i + 1) = none := by
            show or_o (bs_F _ i) _ = none
            rw [h4]
            exact hf
          rw [hf] at I2
          have I2 : F_M_plans (k + 1) (Int32.ofNat (8 - k)) (Int32.ofNat (left - i)) V (sA s0 170 (up x (7 - k) (Int32.ofNat i))) = (0, sA s0 170 (up x (7 - k) (Int32.ofNat i))) := I2
          have N := ihr (i + 1) n' (up x (7 - k) (Int32.ofNat i)) (by omega) (by omega) (fun c => up_up _ _ _ _) F1
          constructor
          · simp only [okl_M_plans_88, mq_letP_e, e0, if_false, bp, ip, e5, e4, pn, I1, I2, e3, if_true, true_and]
            exact N.1
          · simp only [lp_M_plans_88, mq_let_e, e0, if_false, ip, e5, e4, pn, I2, e3, if_true]
            exact N.2
    have L := LP (m + 1) 0 mm_N x (by omega) (by rw [mm_Ns]; omega) (fun _ => rfl) rfl
    obtain ⟨L1, L2⟩ := L
    have L2 := L2
    have sp : bs_E inS G W cap (bs_C most cold) lv0 (k + 1) x left = bs_F (fun n => bs_E inS G W cap (bs_C most cold) lv0 k (up x (7 - k) (Int32.ofNat n)) (left - n)) (m + 1) := by
      show bs_F _ (min left (bs_C most cold (7 - k) x) + 1) = _
      rw [hm]
    rw [sp]
    have m15' : gI s0 116 2 / 3 - (if 7 - k = 0 then gI s0 116 3 else 0) = most (7 - k) := m15.symm
    constructor
    · show ok_M_plans (F_M_plans (k + 1)) (OK_M_plans (k + 1)) (Int32.ofNat (7 - k)) (Int32.ofNat left) V (sA s0 170 x)
      simp only [ok_M_plans, mq_letP_e, p8, if_false, true_and, p0, r2, r3, r4, bu.1, bu.2, m15', cc, mm, am]
      refine ⟨L1, ?_⟩
      generalize (lp_M_plans_88 (F_M_plans (k + 1)) (Int32.ofNat (7 - k)) (Int32.ofNat left) V (Int32.ofNat m) mm_N 0 (sA s0 170 x)).1 = o
      cases o with
      | none => exact ⟨bp, trivial⟩
      | some v => trivial
    · show f_M_plans (F_M_plans (k + 1)) (Int32.ofNat (7 - k)) (Int32.ofNat left) V (sA s0 170 x) = _
      simp only [f_M_plans, mq_let_e, p8, if_false, p0, r2, r3, r4, bu.1, m15', cc, mm, am, ip]
      exact L2
