/-! BEST: the model's search: its parts. -/
theorem lp_sumA {L : Nat → Int32 → Int32 → Int32 × Int32} {OK : Nat → Int32 → Int32 → Prop} (a0 : Int32) (b : Nat) (hb : b < 90000) (w : Nat → Int32)
    (hs : ∀ n i a, i < b → L (n + 1) a (Int32.ofNat i) = L n (a + w i) (Int32.ofNat (i + 1)) ∧ (OK n (a + w i) (Int32.ofNat (i + 1)) → OK (n + 1) a (Int32.ofNat i)))
    (he : ∀ n a, L (n + 1) a (Int32.ofNat b) = (a, Int32.ofNat b) ∧ OK (n + 1) a (Int32.ofNat b)) :
    L mm_N a0 0 = (a0 + smI w b, Int32.ofNat b) ∧ OK mm_N a0 0 := by
  have h := lp_upN (L := fun n v a => ((L n a v).2, (L n a v).1)) (OK := fun n v a => OK n a v) (fun i a => a = a0 + smI w i) b hb
    (fun n i a hi hp => by
      refine ⟨a + w i, ?_, (hs n i a hi).2, ?_⟩
      · rw [(hs n i a hi).1]
      · rw [hp, Int32.add_assoc]
        rfl)
    (fun n a hp => by
      refine ⟨?_, (he n a).2⟩
      rw [(he n a).1]) 0 a0 (Nat.zero_le b) (by
        show a0 = a0 + 0
        rw [Int32.add_zero])
  obtain ⟨s', h1, h2, h3⟩ := h
  subst h3
  refine ⟨?_, h2⟩
  have h4 := congrArg Prod.fst h1
  have h5 := congrArg Prod.snd h1
  exact Prod.ext h5 h4
/-- the benches that are charged at a place -/
def b_busy (s : mS) (B p : Nat) : Int32 := smI (fun b => if gI s 126 b = -1 then 0 else if 16 ≤ gI s 126 b + 4 * Int32.ofNat p then 0 else 1) B
theorem bs_ix : ∀ p, p < 8 → ∀ k, k < 3 → ¬ Int32.ofNat p ≤ Int32.ofNat p - 3 + Int32.ofNat k ∧ Int32.ofNat p - 3 + Int32.ofNat k + 1 = Int32.ofNat p - 3 + Int32.ofNat (k + 1) ∧ (p + k < 3 → Int32.ofNat p - 3 + Int32.ofNat k < 0) ∧ (3 ≤ p + k → ¬ Int32.ofNat p - 3 + Int32.ofNat k < 0 ∧ Int32.ofNat p - 3 + Int32.ofNat k = Int32.ofNat (p + k - 3)) := by decide
theorem bs_ix3 : ∀ p, p < 8 → Int32.ofNat p ≤ Int32.ofNat p - 3 + Int32.ofNat 3 ∧ Int32.ofNat p - 3 = Int32.ofNat p - 3 + Int32.ofNat 0 := by decide
theorem M_busy {s : mS} {B p : Nat} {x : Nat → Int32} (hB : gI s 116 4 = Int32.ofNat B) (hB6 : B ≤ 6) (hp : p < 8) (hx : ∀ q, q < p → gI s 170 q = x q) : f_M_busy (Int32.ofNat p) s = b_busy s B p + bs_still p x ∧ ok_M_busy (Int32.ofNat p) s := by
  have A := lp_sum (L := lp_M_busy_4 (Int32.ofNat p) s) (OK := okl_M_busy_4 (Int32.ofNat p) s) B (by omega) (fun b => if gI s 126 b = -1 then 0 else if 16 ≤ gI s 126 b + 4 * Int32.ofNat p then 0 else 1)
    (fun n i acc hi => by
      have e1 := fl_lit hB (by omega) (by omega) hi
      have e2 : ix (Int32.ofNat i) = i := ix_ofNat (by omega)
      have e3 : Int32.ofNat i + 1 = Int32.ofNat (i + 1) := ofNat_succ i
      have b1 : mm_inb (Int32.ofNat i) 6 = true := inb_ofNat (by decide) (by omega)
      by_cases c : gI s 126 i = -1
      · constructor
        · simp only [lp_M_busy_4, e1, e2, e3, if_false, if_pos c]
        · intro q
          simp only [if_pos c] at q
          simp only [okl_M_busy_4, e1, e2, e3, if_false, if_pos c, b1, true_and]
          exact q
      · by_cases d : 16 ≤ gI s 126 i + 4 * Int32.ofNat p
        · constructor
          · simp only [lp_M_busy_4, e1, e2, e3, if_false, if_neg c, if_pos d]
          · intro q
            simp only [if_neg c, if_pos d] at q
            simp only [okl_M_busy_4, e1, e2, e3, if_false, if_neg c, if_pos d, b1, true_and]
            exact q
        · constructor
          · simp only [lp_M_busy_4, e1, e2, e3, if_false, if_neg c, if_neg d]
          · intro q
            simp only [if_neg c, if_neg d] at q
            simp only [okl_M_busy_4, e1, e2, e3, if_false, if_neg c, if_neg d, b1, true_and]
            exact q)
    (fun n acc => by
      have e0 := fl_lit' hB
      constructor
      · simp only [lp_M_busy_4, e0, if_true]
      · simp only [okl_M_busy_4, e0, if_true])
  have C := lp_it (L := fun n (v : Int32 × Int32) => lp_M_busy_55 (Int32.ofNat p) s n v.1 v.2) (OK := fun n v => okl_M_busy_55 (Int32.ofNat p) s n v.1 v.2)
    (fun k v => v = (b_busy s B p + smI (fun q => if p ≤ q + 3 then x q else 0) (p + k - 3), Int32.ofNat p - 3 + Int32.ofNat k)) (fun r => r.1 = b_busy s B p + bs_still p x) 3
    (fun n k v hk hv => by
      subst hv
      obtain ⟨i1, i2, i3, i4⟩ := bs_ix p hp k hk
      by_cases c : p + k < 3
      · have i3 := i3 c
        refine ⟨(b_busy s B p + smI (fun q => if p ≤ q + 3 then x q else 0) (p + k - 3) + 0, Int32.ofNat p - 3 + Int32.ofNat (k + 1)), ?_, ?_, ?_⟩
        · simp only [lp_M_busy_55, i1, i2, i3, if_false, if_true]
        · intro q
          simp only [okl_M_busy_55, i1, i2, i3, if_false, if_true]
          exact q
        · rw [Int32.add_zero, show p + k - 3 = p + (k + 1) - 3 by omega]
      · obtain ⟨i4, i5⟩ := i4 (by omega)
        have e2 : ix (Int32.ofNat (p + k - 3)) = p + k - 3 := ix_ofNat (by omega)
        have b1 : mm_inb (Int32.ofNat (p + k - 3)) 8 = true := inb_ofNat (by decide) (by omega)
        have w : b_busy s B p + smI (fun q => if p ≤ q + 3 then x q else 0) (p + (k + 1) - 3) = b_busy s B p + smI (fun q => if p ≤ q + 3 then x q else 0) (p + k - 3) + gI s 170 (p + k - 3) := by
          rw [show p + (k + 1) - 3 = p + k - 3 + 1 by omega]
          show _ + (_ + (if p ≤ p + k - 3 + 3 then x (p + k - 3) else 0)) = _
          rw [if_pos (by omega), hx _ (by omega), Int32.add_assoc]
        refine ⟨(b_busy s B p + smI (fun q => if p ≤ q + 3 then x q else 0) (p + (k + 1) - 3), Int32.ofNat p - 3 + Int32.ofNat (k + 1)), ?_, ?_, rfl⟩
        · rw [w]
          rw [i5] at i1 i2 i4
          simp only [i5, lp_M_busy_55, i1, i2, i4, if_false, e2]
        · rw [w]
          rw [i5] at i1 i2 i4
          intro q
          simp only [i5, okl_M_busy_55, i1, i2, i4, if_false, e2, b1, true_and]
          exact q)
    (fun n v hv => by
      subst hv
      have i1 := (bs_ix3 p hp).1
      constructor
      · simp only [lp_M_busy_55, i1, if_true]
        rfl
      · simp only [okl_M_busy_55, i1, if_true])
    3 0 mm_N (b_busy s B p, Int32.ofNat p - 3) rfl (by rw [mm_Ns]; omega) (by
      have z : smI (fun q => if p ≤ q + 3 then x q else 0) (p + 0 - 3) = 0 := smI_0 (Nat.zero_le _) (fun q _ h => if_neg (by omega))
      rw [z, Int32.add_zero, ← (bs_ix3 p hp).2])
  have A1 : lp_M_busy_4 (Int32.ofNat p) s mm_N 0 0 = (b_busy s B p, Int32.ofNat B) := A.1
  constructor
  · unfold f_M_busy
    rw [mq_let_e, A1, mq_let_e]
    exact C.1
  · unfold ok_M_busy
    rw [mq_letP_e, A1]
    exact ⟨A.2, C.2, trivial⟩
theorem b_cbx : ∀ n, n < 16 → ∀ p, p < 8 → (Int32.ofNat (4 * p) < 16 - Int32.ofNat n ↔ ¬ 16 ≤ Int32.ofNat n + 4 * Int32.ofNat p) := by decide
theorem b_cb0 : ∀ p, p < 8 → ¬ Int32.ofNat (4 * p) < 0 := by decide
theorem b_cb {s : mS} {B p : Nat} (hb : J_bench s) (hB6 : B ≤ 6) (hp : p < 8) : b_busy s B p + b_cold (gI s 8) B p = Int32.ofNat B := by
  unfold J_bench at hb
  have A : ∀ n, n ≤ B → smI (fun b => if gI s 126 b = -1 then 0 else if 16 ≤ gI s 126 b + 4 * Int32.ofNat p then 0 else 1) n + smI (fun b => if Int32.ofNat (4 * p) < gI s 8 b then 0 else 1) n = Int32.ofNat n := by
    intro n
    induction n with
    | zero => exact fun _ => rfl
    | succ n ih =>
      intro hn
      have i := ih (by omega)
      have one : (if gI s 126 n = -1 then (0 : Int32) else if 16 ≤ gI s 126 n + 4 * Int32.ofNat p then 0 else 1) + (if Int32.ofNat (4 * p) < gI s 8 n then 0 else 1) = 1 := by
        rw [hb.2.2.2.1 n (by omega)]
        by_cases c : gI s 126 n = -1
        · rw [if_pos c, if_pos c, if_neg (b_cb0 p hp)]
          rfl
        · rw [if_neg c, if_neg c]
          have r := hb.2.2.2.2.1 n (by omega)
          generalize gI s 126 n = a at c r
          have a0 : 0 ≤ a := by
            have := r.1
            grind
          have l : ix a < 16 := ix_lt (by omega) a0 (Int32.lt_of_le_of_lt r.2 (by decide))
          have k := b_cbx (ix a) l p hp
          rw [ofNat_ix a0] at k
          by_cases d : 16 ≤ a + 4 * Int32.ofNat p
          · rw [if_pos d, if_neg (fun q => k.mp q d)]
            rfl
          · rw [if_neg d, if_pos (k.mpr d)]
            rfl
      show (smI (fun b => if gI s 126 b = -1 then 0 else if 16 ≤ gI s 126 b + 4 * Int32.ofNat p then 0 else 1) n + (if gI s 126 n = -1 then (0 : Int32) else if 16 ≤ gI s 126 n + 4 * Int32.ofNat p then 0 else 1)) + (smI (fun b => if Int32.ofNat (4 * p) < gI s 8 b then 0 else 1) n + (if Int32.ofNat (4 * p) < gI s 8 n then 0 else 1)) = _
      rw [← ofNat_succ, ← i]
      generalize (if gI s 126 n = -1 then (0 : Int32) else if 16 ≤ gI s 126 n + 4 * Int32.ofNat p then 0 else 1) = u at one ⊢
      generalize (if Int32.ofNat (4 * p) < gI s 8 n then (0 : Int32) else 1) = v at one ⊢
      rw [← one]
      ac_rfl
  exact A B (Nat.le_refl B)
theorem bs_atMost2 {y : Int32} {d : Nat} (hd : d ≤ 9999) : (if 0 ≤ (if y ≤ Int32.ofNat d then y else Int32.ofNat d) then (if y ≤ Int32.ofNat d then y else Int32.ofNat d) else 0) = Int32.ofNat (min d (ix (if 0 < y then y else 0))) := by
  have d0 : 0 ≤ Int32.ofNat d := (ofNat_le (a := 0) (by omega) (by omega)).mpr (Nat.zero_le d)
  have z0 : Int32.ofNat (min d (ix (0 : Int32))) = 0 := by
    rw [show ix (0 : Int32) = 0 from rfl, Nat.min_eq_right (Nat.zero_le d)]
    rfl
  by_cases c : y ≤ Int32.ofNat d
  · rw [if_pos c]
    by_cases q : 0 < y
    · rw [if_pos q, if_pos (Int32.le_of_lt q)]
      have l : ix y < d + 1 := ix_lt (by omega) (Int32.le_of_lt q) (Int32.lt_of_le_of_lt c ((ofNat_lt (by omega) (by omega)).mpr (by omega)))
      rw [Nat.min_eq_right (by omega), ofNat_ix (Int32.le_of_lt q)]
    · rw [if_neg q, z0]
      by_cases r : 0 ≤ y
      · rw [if_pos r]
        exact Int32.le_antisymm (Int32.not_lt.mp q) r
      · rw [if_neg r]
  · rw [if_neg c, if_pos d0]
    have c := Int32.not_le.mp c
    have y0 : 0 < y := Int32.lt_of_le_of_lt d0 c
    rw [if_pos y0]
    have l : d ≤ ix y := by
      apply Nat.le_of_not_lt
      intro hl
      have k : y < Int32.ofNat d := lt_of_ix (by omega) (Int32.le_of_lt y0) hl
      exact absurd k (Int32.not_lt.mpr (Int32.le_of_lt c))
    rw [Nat.min_eq_left l]
theorem M_good {s : mS} {V cap lv0 : Int32} {x G W : Nat → Int32} {inS : Int32 → Int32} (h170 : ∀ q, q < 8 → gI s 170 q = x q) (h172 : ∀ i, i < 32 → gI s 172 i = G i) (h173 : ∀ i, i < 32 → gI s 173 i = W i) (hin : ∀ j, f_M_inStep V j s = inS j) (hinr : ∀ j, 0 ≤ inS j ∧ inS j ≤ 1800) (hx : ∀ q, q < 8 → 0 ≤ x q ∧ x q ≤ 48) (hG : ∀ i, i < 32 → 0 ≤ G i ∧ G i ≤ 10800) (hW : ∀ i, i < 32 → 0 ≤ W i ∧ W i ≤ 100000) (hc : cap ≤ 99999) (e5 : gI s 116 5 = cap) (e6 : gI s 116 6 = lv0) (hl : 0 ≤ lv0) (hl2 : lv0 ≤ cap) : f_M_isGood V s = (if 0 ≤ bs_lv inS G W cap x 0 32 lv0 then 1 else 0) ∧ ok_M_isGood V s := by
  have z0 := toInt_0
  have t48 : (48 : Int32).toInt = 48 := by decide
  have t1800 : (1800 : Int32).toInt = 1800 := by decide
  have t10800 : (10800 : Int32).toInt = 10800 := by decide
  have t100000 : (100000 : Int32).toInt = 100000 := by decide
  have t99999 : (99999 : Int32).toInt = 99999 := by decide
  have gpr : ∀ i, 0 ≤ (bs_gp inS x i).toInt ∧ (bs_gp inS x i).toInt ≤ 691200 := fun i => by
    have k := smI_rng (w := fun q => x q * inS (Int32.ofNat i - 4 * Int32.ofNat q)) (b := 8) (M := 86400) (fun q hq => by
      have a := hx q hq
      have b := hinr (Int32.ofNat i - 4 * Int32.ofNat q)
      rw [le_toInt, le_toInt] at a b
      rw [z0] at a b
      rw [t48] at a
      rw [t1800] at b
      have lo : 0 ≤ (x q).toInt * (inS (Int32.ofNat i - 4 * Int32.ofNat q)).toInt := Int.mul_nonneg a.1 b.1
      have hi : (x q).toInt * (inS (Int32.ofNat i - 4 * Int32.ofNat q)).toInt ≤ 48 * 1800 := Int.mul_le_mul a.2 b.2 b.1 (by decide)
      have m := mul_nn (a := x q) (b := inS (Int32.ofNat i - 4 * Int32.ofNat q)) (by omega) (by omega)
      rw [le_toInt, le_toInt, m, toInt_ofNat (by omega), z0]
      omega) (by omega) (by omega)
    rw [le_toInt, le_toInt, toInt_ofNat (by omega), z0] at k
    exact k
  have LP : ∀ r i n lv, i + r = 32 → r < n → 0 ≤ lv → lv ≤ cap → (lp_M_isGood_7 V s n lv (Int32.ofNat i)).1 = (if 0 ≤ bs_lv inS G W cap x i r lv then none else some 0) ∧ okl_M_isGood_7 V s n lv (Int32.ofNat i) := by
    intro r
    induction r with
    | zero =>
      intro i n lv h1 h2 h3 h4
      obtain ⟨n', rfl⟩ : ∃ n', n = n' + 1 := ⟨n - 1, by omega⟩
      have ei : i = 32 := by omega
      subst ei
      have e1 : (32 : Int32) ≤ Int32.ofNat 32 := by decide
      have e2 : 0 ≤ bs_lv inS G W cap x 32 0 lv := h3
      rw [if_pos e2]
      constructor
      · simp only [lp_M_isGood_7, e1, if_true]
      · simp only [okl_M_isGood_7, e1, if_true]
    | succ r ih =>
      intro i n lv h1 h2 h3 h4
      obtain ⟨n', rfl⟩ : ∃ n', n = n' + 1 := ⟨n - 1, by omega⟩
      have e1 : ¬ (32 : Int32) ≤ Int32.ofNat i := fl_lit (a := 32) rfl (by omega) (by omega) (by omega)
      have e2 : ix (Int32.ofNat i) = i := ix_ofNat (by omega)
      have e3 : Int32.ofNat i + 1 = Int32.ofNat (i + 1) := ofNat_succ i
      have b1 : mm_inb (Int32.ofNat i) 32 = true := inb_ofNat (by decide) (by omega)
      have A := lp_sumA (L := lp_M_isGood_25 V (Int32.ofNat i) s) (OK := okl_M_isGood_25 V (Int32.ofNat i) s) (lv + G i) 8 (by omega) (fun q => x q * inS (Int32.ofNat i - 4 * Int32.ofNat q))
        (fun n q acc hq => by
          have f1 : ¬ (8 : Int32) ≤ Int32.ofNat q := fl_lit (a := 8) rfl (by omega) (by omega) hq
          have f2 : ix (Int32.ofNat q) = q := ix_ofNat (by omega)
          have f3 : Int32.ofNat q + 1 = Int32.ofNat (q + 1) := ofNat_succ q
          have f4 : mm_inb (Int32.ofNat q) 8 = true := inb_ofNat (by decide) (by omega)
          have f5 := h170 q hq
          constructor
          · simp only [lp_M_isGood_25, mq_let_e, f1, f2, f3, f5, if_false, hin]
          · intro k
            simp only [okl_M_isGood_25, mq_letP_e, f1, f2, f3, f4, f5, if_false, hin, inStep_ok, true_and]
            exact k)
        (fun n acc => by
          have f1 : (8 : Int32) ≤ Int32.ofNat 8 := by decide
          constructor
          · simp only [lp_M_isGood_25, f1, if_true]
          · simp only [okl_M_isGood_25, f1, if_true])
      have A1 : lp_M_isGood_25 V (Int32.ofNat i) s mm_N (lv + G i) 0 = (lv + G i + bs_gp inS x i, Int32.ofNat 8) := A.1
      have g := gpr i
      have gG := hG i (by omega)
      have gW := hW i (by omega)
      have one : (if lv + G i + bs_gp inS x i ≤ cap then lv + G i + bs_gp inS x i else cap) - W i = bs_one inS G W cap x i lv := rfl
      have lo : 0 ≤ (if lv + G i + bs_gp inS x i ≤ cap then lv + G i + bs_gp inS x i else cap) ∧ (if lv + G i + bs_gp inS x i ≤ cap then lv + G i + bs_gp inS x i else cap) ≤ cap := by
        rw [le_toInt, le_toInt] at gG
        rw [z0, t10800] at gG
        rw [le_toInt] at h3 h4 hc
        rw [z0] at h3
        rw [t99999] at hc
        have q1 := add_nn (a := lv) (b := G i) (by omega) (by omega)
        have q2 := add_nn (a := lv + G i) (b := bs_gp inS x i) (by omega) (by omega)
        split
        · next k =>
          refine ⟨?_, k⟩
          rw [le_toInt, q2, q1, z0]
          omega
        · next k =>
          refine ⟨?_, Int32.le_refl cap⟩
          rw [le_toInt, z0]
          omega
      have cond : (W i ≤ (if lv + G i + bs_gp inS x i ≤ cap then lv + G i + bs_gp inS x i else cap)) = (0 ≤ bs_one inS G W cap x i lv) := by
        rw [← one]
        generalize (if lv + G i + bs_gp inS x i ≤ cap then lv + G i + bs_gp inS x i else cap) = y at lo
        apply propext
        rw [le_toInt, le_toInt] at gW lo
        rw [z0] at gW lo
        rw [t100000] at gW
        rw [le_toInt] at hc
        rw [t99999] at hc
        rw [le_toInt, le_toInt, sub_nn (by omega) (by omega), z0]
        omega
      have top : bs_one inS G W cap x i lv ≤ cap := by
        rw [← one]
        generalize (if lv + G i + bs_gp inS x i ≤ cap then lv + G i + bs_gp inS x i else cap) = y at lo
        rw [le_toInt, le_toInt] at gW lo
        rw [z0] at gW lo
        rw [t100000] at gW
        rw [le_toInt] at hc
        rw [t99999] at hc
        rw [le_toInt, sub_nn (by omega) (by omega)]
        omega
      have g172 := h172 i (by omega)
      have g173 := h173 i (by omega)
      by_cases c : 0 ≤ bs_one inS G W cap x i lv
      · have sp : bs_lv inS G W cap x i (r + 1) lv = bs_lv inS G W cap x (i + 1) r (bs_one inS G W cap x i lv) := if_pos c
        have I := ih (i + 1) n' (bs_one inS G W cap x i lv) (by omega) (by omega) c top
        rw [sp]
        constructor
        · simp only [lp_M_isGood_7, mq_let_e, e1, if_false, e2, e3, g172, g173, A1, e5, cond, c, if_true, one]
          exact I.1
        · simp only [okl_M_isGood_7, mq_letP_e, e1, if_false, e2, e3, g172, g173, A1, e5, cond, c, if_true, one, b1, true_and]
          exact ⟨A.2, I.2⟩
      · have sp : bs_lv inS G W cap x i (r + 1) lv = -1 := if_neg c
        rw [sp, if_neg (by decide)]
        constructor
        · simp only [lp_M_isGood_7, mq_let_e, e1, if_false, e2, e3, g172, g173, A1, e5, cond, c]
        · simp only [okl_M_isGood_7, mq_letP_e, e1, if_false, e2, e3, g172, g173, A1, e5, cond, c, b1, true_and, and_true]
          exact A.2
  have B := LP 32 0 mm_N lv0 rfl (by rw [mm_Ns]; omega) hl hl2
  have B1 : (lp_M_isGood_7 V s mm_N lv0 0).1 = _ := B.1
  constructor
  · unfold f_M_isGood
    rw [mq_let_e, e6, B1]
    by_cases c : 0 ≤ bs_lv inS G W cap x 0 32 lv0
    · rw [if_pos c, if_pos c]
      rfl
    · rw [if_neg c, if_neg c]
      rfl
  · unfold ok_M_isGood
    rw [mq_letP_e, e6]
    refine ⟨B.2, ?_⟩
    generalize (lp_M_isGood_7 V s mm_N lv0 0).1 = o
    cases o <;> trivial
