/-! BEST: what is foreseen; the class's plan. -/
def bG (s : mS) (B : Nat) (i : Nat) : Int32 := smI (wk_g s (Int32.ofNat i)) B
def bW (s : mS) (T : Nat) (i : Nat) : Int32 := smI (fun t => f_M_wants (Int32.ofNat t) (gI s 116 1 + Int32.ofNat i) s) T
theorem hour_in {h : Int32} (h0 : 0 ≤ h) (h1 : h ≤ 3999) {i : Nat} (hi : i < 200) : 0 ≤ h + Int32.ofNat i ∧ h + Int32.ofNat i ≤ 10000 := by
  have z := toInt_0
  have e9 : (3999 : Int32).toInt = 3999 := by decide
  have e1 : (10000 : Int32).toInt = 10000 := by decide
  rw [le_toInt] at h0 h1
  have a : (h + Int32.ofNat i).toInt = h.toInt + i := by rw [add_nn, toInt_ofNat (by omega)] <;> rw [toInt_ofNat (by omega)] <;> omega
  rw [le_toInt, le_toInt, a]
  omega
theorem G_foresee {s : mS} {B T : Nat} (h_sky : J_sky s) (h_things : J_things s) (h_gen : J_gen s) (h_bench : J_bench s) (h_share : J_share s) (hB : gI s 116 4 = Int32.ofNat B) (hB6 : B ≤ 6) (hT : gI s 116 8 = Int32.ofNat T) (hT2 : T ≤ 40) : ok_Night_foresee (gI s 0 9) s ∧ fp [95, 96] [] false s (f_Night_foresee (gI s 0 9) s) ∧ (∀ i, i < 32 → gI (f_Night_foresee (gI s 0 9) s) 96 i = bG s B i) ∧ ∀ i, i < 32 → gI (f_Night_foresee (gI s 0 9) s) 95 i = bW s T i := by
  have kg := h_gen
  unfold J_gen at kg
  have e09 : gI s 0 9 = gI s 116 1 := kg.1
  rw [e09]
  have A := lp_up0 (L := lp_Night_foresee_3 (gI s 116 1)) (OK := okl_Night_foresee_3 (gI s 116 1)) (fun i w => fp [95, 96] [] false s w ∧ (∀ j, j < i → gI w 96 j = bG s B j) ∧ ∀ j, j < i → gI w 95 j = bW s T j) 32 (by omega) s ⟨fp_r, fun j hj => absurd hj (by omega), fun j hj => absurd hj (by omega)⟩
    (fun n i w hi hp => by
      obtain ⟨hf, h96, h95⟩ := hp
      have e1 : ¬ (32 : Int32) ≤ Int32.ofNat i := fl_lit (a := 32) rfl (by omega) (by omega) hi
      have e2 : ix (Int32.ofNat i) = i := ix_ofNat (by omega)
      have e3 : Int32.ofNat i + 1 = Int32.ofNat (i + 1) := ofNat_succ i
      have b1 : mm_inb (Int32.ofNat i) 32 = true := inb_ofNat (by decide) (by omega)
      have hr := hour_in kg.2.1 kg.2.2.1 (i := i) (by omega)
      have aw := allWants_eq (s := w) (N := 0) (T := T) (jf_sky hf (by decide) h_sky) (jf_things hf (by decide) h_things) (by rw [(fpF hf (by decide)).1, hT]) hT2 hr.1 hr.2
      have ew : smI (fun t => f_M_wants (Int32.ofNat t) (gI s 116 1 + Int32.ofNat i) w) T = bW s T i := smI_c (fun t _ => M_wants_c ⟨(fpA hf (by decide)).1, (fpA hf (by decide)).1, (fpA hf (by decide)).1, (fpA hf (by decide)).1, (fpA hf (by decide)).1, (fpA hf (by decide)).1, (fpF hf (by decide)).1, (fpF hf (by decide)).1⟩ _ _)
      rw [ew] at aw
      have hb := jf_bench hf (by decide) h_bench
      have gl := gasLater_eq (s := w) (jf_share hf (by decide) h_share) hb (l := Int32.ofNat i) ((ofNat_le (a := 0) (by omega) (by omega)).mpr (Nat.zero_le _)) ((ofNat_le (b := 1000) (by omega) (by omega)).mpr (by omega))
      have eg : smI (wk_g w (Int32.ofNat i)) 6 = bG s B i := by
        rw [wk_sum hb (by rw [(fpF hf (by decide)).1, hB]) hB6, wk_g_c (s := s) (fpA hf (by decide)).1 (fpA hf (by decide)).1 (fpA hf (by decide)).1]
        rfl
      rw [eg] at gl
      have gc := gasLater_c (s := w) (w := sI w 95 i (bW s T i)) (by rw [fI_sI, if_neg (by decide)]) (by rw [fI_sI, if_neg (by decide)]) (Int32.ofNat i)
      refine ⟨sI (sI w 95 i (bW s T i)) 96 i (bG s B i), ?_, ?_, fp_IA (fp_IA hf (by decide)) (by decide), fun j hj => ?_, fun j hj => ?_⟩
      · simp only [lp_Night_foresee_3, mq_let_e, e1, if_false, e2, e3, aw.1, gc.1, gl.1]
      · intro q
        simp only [okl_Night_foresee_3, mq_letP_e, e1, if_false, e2, e3, aw.1, gc.1, gl.1, b1, true_and]
        exact ⟨aw.2, gc.2 gl.2, q⟩
      · rw [gI_sI]
        by_cases e : j = i
        · rw [if_pos ⟨rfl, e⟩, e]
        · rw [if_neg (fun q => e q.2), gI_sI, if_neg (fun q => absurd q.1 (by decide))]
          exact h96 j (by omega)
      · rw [gI_sI, if_neg (fun q => absurd q.1 (by decide)), gI_sI]
        by_cases e : j = i
        · rw [if_pos ⟨rfl, e⟩, e]
        · rw [if_neg (fun q => e q.2)]
          exact h95 j (by omega))
    (fun n w hp => by
      have e1 : (32 : Int32) ≤ Int32.ofNat 32 := by decide
      constructor
      · simp only [lp_Night_foresee_3, e1, if_true]
      · simp only [okl_Night_foresee_3, e1, if_true])
  obtain ⟨w, A1, A2, A3, A4, A5⟩ := A
  have e : f_Night_foresee (gI s 116 1) s = w := by
    unfold f_Night_foresee
    rw [mq_let_e, A1]
  rw [e]
  exact ⟨⟨A2, trivial⟩, A3, A4, A5⟩
/-- the cold benches at a place -/
def b_cold (x8 : Nat → Int32) (B p : Nat) : Int32 := smI (fun b => if Int32.ofNat (4 * p) < x8 b then 0 else 1) B
theorem G_cold {s : mS} {B p : Nat} (hB : gI s 3 8 = Int32.ofNat B) (hB6 : B ≤ 6) (hp : p < 8) : f_Works_coldLater (Int32.ofNat p * 4) s = b_cold (gI s 8) B p ∧ ok_Works_coldLater (Int32.ofNat p * 4) s := by
  have e4 : ∀ p, p < 8 → Int32.ofNat p * 4 = Int32.ofNat (4 * p) := by decide
  rw [e4 p hp]
  have A := lp_sum (L := lp_Works_coldLater_4 (Int32.ofNat (4 * p)) s) (OK := okl_Works_coldLater_4 (Int32.ofNat (4 * p)) s) B (by omega) (fun b => if Int32.ofNat (4 * p) < gI s 8 b then 0 else 1)
    (fun n i acc hi => by
      have e0 := fl_lit hB (by omega) (by omega) hi
      have e1 : ¬ (6 : Int32) ≤ Int32.ofNat i := fl_lit (a := 6) rfl (by omega) (by omega) (by omega)
      have e2 : ix (Int32.ofNat i) = i := ix_ofNat (by omega)
      have e3 : Int32.ofNat i + 1 = Int32.ofNat (i + 1) := ofNat_succ i
      have b1 : mm_inb (Int32.ofNat i) 6 = true := inb_ofNat (by decide) (by omega)
      by_cases c : Int32.ofNat (4 * p) < gI s 8 i
      · constructor
        · simp only [lp_Works_coldLater_4, e0, e1, e2, e3, if_false, c, if_true, Int32.add_zero]
        · intro q
          simp only [c, if_true, Int32.add_zero] at q
          simp only [okl_Works_coldLater_4, e0, e1, e2, e3, if_false, c, if_true, b1, true_and]
          exact q
      · constructor
        · simp only [lp_Works_coldLater_4, e0, e1, e2, e3, if_false, c]
        · intro q
          simp only [c, if_false] at q
          simp only [okl_Works_coldLater_4, e0, e1, e2, e3, if_false, c, b1, true_and]
          exact q)
    (fun n acc => by
      have e0 := fl_lit' hB
      constructor
      · simp only [lp_Works_coldLater_4, e0, if_true]
      · simp only [okl_Works_coldLater_4, e0, if_true])
  constructor
  · unfold f_Works_coldLater
    simp only [mq_let_e, A.1, b_cold]
  · unfold ok_Works_coldLater
    exact ⟨A.2, trivial⟩
theorem coldLater_c {s w : mS} (h8 : gI w 8 = gI s 8) (h38 : gI w 3 8 = gI s 3 8) (l : Int32) : f_Works_coldLater l w = f_Works_coldLater l s ∧ (ok_Works_coldLater l s → ok_Works_coldLater l w) := by
  have L : ∀ n a v, lp_Works_coldLater_4 l w n a v = lp_Works_coldLater_4 l s n a v ∧ (okl_Works_coldLater_4 l s n a v → okl_Works_coldLater_4 l w n a v) := by
    intro n
    induction n with
    | zero => exact fun a v => ⟨rfl, fun h => h⟩
    | succ n ih =>
      intro a v
      constructor
      · simp only [lp_Works_coldLater_4, h8, h38, ih]
      · intro q
        simp only [okl_Works_coldLater_4, h8, h38] at q ⊢
        split
        · trivial
        · next c1 =>
          rw [if_neg c1] at q
          split
          · trivial
          · next c2 =>
            rw [if_neg c2] at q
            refine ⟨q.1, ?_⟩
            have q := q.2
            split
            · next c3 =>
              rw [if_pos c3] at q
              exact (ih _ _).2 q
            · next c3 =>
              rw [if_neg c3] at q
              exact (ih _ _).2 q
  constructor
  · unfold f_Works_coldLater
    rw [(L _ _ _).1]
  · intro q
    exact ⟨(L _ _ _).2 q.1, trivial⟩
theorem G_ones {s : mS} {a2 a3 V : Int32} (hk : mm_inb a2 3 = true) (hV : a3 * gI s 4 (ix a2) = V) (h_share : J_share s) : ∃ w, lp_Night_plan_18 a2 a3 mm_N 0 s = (Int32.ofNat 17, w) ∧ okl_Night_plan_18 a2 a3 mm_N 0 s ∧ fp [97] [] false s w ∧ ∀ a, a < 16 → gI w 97 (a + 1) = f_M_inStep V (Int32.ofNat a) s := by
  have A := lp_up0 (L := lp_Night_plan_18 a2 a3) (OK := okl_Night_plan_18 a2 a3) (fun i w => fp [97] [] false s w ∧ ∀ a, a + 1 < i → gI w 97 (a + 1) = f_M_inStep V (Int32.ofNat a) s) 17 (by omega) s ⟨fp_r, fun a ha => absurd ha (by omega)⟩
    (fun n i w hi hp => by
      obtain ⟨hf, h97⟩ := hp
      have e1 : ¬ (16 : Int32) < Int32.ofNat i := by
        rw [show (16 : Int32) = Int32.ofNat 16 from rfl, ofNat_lt (by omega) (by omega)]
        omega
      have e2 : ix (Int32.ofNat i) = i := ix_ofNat (by omega)
      have e3 : Int32.ofNat i + 1 = Int32.ofNat (i + 1) := ofNat_succ i
      have b1 : mm_inb (Int32.ofNat i) 17 = true := inb_ofNat (by decide) (by omega)
      have w4 : gI w 4 = gI s 4 := (fpA hf (by decide)).1
      refine ⟨sI w 97 i (f_Works_gasOf V (Int32.ofNat i) w), ?_, ?_, fp_IA hf (by decide), fun a ha => ?_⟩
      · simp only [lp_Night_plan_18, mq_let_e, e1, if_false, e2, e3, w4, hV]
      · intro q
        simp only [okl_Night_plan_18, mq_letP_e, e1, if_false, e2, e3, w4, hV, hk, b1, true_and]
        exact ⟨gasOf_ok _ _ _, q⟩
      · rw [gI_sI]
        by_cases e : a + 1 = i
        · rw [if_pos ⟨rfl, e⟩, ← e, ← ofNat_succ]
          have g := gasOf_eq h_share V (Int32.ofNat a) (Int32.le_trans (by decide : (-100 : Int32) ≤ 0) ((ofNat_le (a := 0) (by omega) (by omega)).mpr (Nat.zero_le _))) ((ofNat_le (b := 10000) (by omega) (by omega)).mpr (by omega))
          exact g
        · rw [if_neg (fun q => e q.2)]
          exact h97 a (by omega))
    (fun n w hp => by
      have e1 : (16 : Int32) < Int32.ofNat 17 := by decide
      constructor
      · simp only [lp_Night_plan_18, e1, if_true]
      · simp only [okl_Night_plan_18, e1, if_true])
  obtain ⟨w, A1, A2, A3, A4⟩ := A
  exact ⟨w, A1, A2, A3, fun a ha => A4 a (by omega)⟩
theorem G_most {s : mS} {a2 a3 a4 : Int32} {B : Nat} (hB : gI s 3 8 = Int32.ofNat B) (hB6 : B ≤ 6) : ∃ w, lp_Night_plan_62 a2 a3 a4 mm_N 0 s = (Int32.ofNat 8, w) ∧ okl_Night_plan_62 a2 a3 a4 mm_N 0 s ∧ fp [98, 99] [] false s w ∧ (∀ p, p < 8 → gI w 98 p = if p = 0 then a4 - gI s 3 10 else a4) ∧ ∀ p, p < 8 → gI w 99 p = b_cold (gI s 8) B p := by
  have A := lp_up0 (L := lp_Night_plan_62 a2 a3 a4) (OK := okl_Night_plan_62 a2 a3 a4) (fun i w => fp [98, 99] [] false s w ∧ (∀ p, p < i → gI w 98 p = if p = 0 then a4 - gI s 3 10 else a4) ∧ ∀ p, p < i → gI w 99 p = b_cold (gI s 8) B p) 8 (by omega) s ⟨fp_r, fun a ha => absurd ha (by omega), fun a ha => absurd ha (by omega)⟩
    (fun n i w hi hp => by
      obtain ⟨hf, h98, h99⟩ := hp
      have e1 : ¬ (8 : Int32) ≤ Int32.ofNat i := fl_lit (a := 8) rfl (by omega) (by omega) hi
      have e2 : ix (Int32.ofNat i) = i := ix_ofNat (by omega)
      have e3 : Int32.ofNat i + 1 = Int32.ofNat (i + 1) := ofNat_succ i
      have b1 : mm_inb (Int32.ofNat i) 8 = true := inb_ofNat (by decide) (by omega)
      have w10 : gI w 3 10 = gI s 3 10 := (fpF hf (by decide)).1
      have i0 : (Int32.ofNat i = 0) = (i = 0) := by
        apply propext
        constructor
        · intro q
          have : ix (Int32.ofNat i) = ix (0 : Int32) := by rw [q]
          rw [e2] at this
          exact this
        · intro q
          rw [q]
          rfl
      have gc := G_cold (s := s) hB hB6 hi
      have cc := coldLater_c (s := s) (w := sI w 98 i (if i = 0 then a4 - gI s 3 10 else a4)) (by rw [fI_sI, if_neg (by decide), (fpA hf (by decide)).1]) (by rw [gI_sI, if_neg (fun q => absurd q.1 (by decide)), (fpF hf (by decide)).1]) (Int32.ofNat i * 4)
      refine ⟨sI (sI w 98 i (if i = 0 then a4 - gI s 3 10 else a4)) 99 i (b_cold (gI s 8) B i), ?_, ?_, fp_IA (fp_IA hf (by decide)) (by decide), fun p hp' => ?_, fun p hp' => ?_⟩
      · simp only [lp_Night_plan_62, mq_let_e, e1, if_false, e2, e3, w10, i0, cc.1, gc.1]
      · intro q
        simp only [okl_Night_plan_62, mq_letP_e, e1, if_false, e2, e3, w10, i0, cc.1, gc.1, b1, true_and]
        exact ⟨cc.2 gc.2, q⟩
      · rw [gI_sI, if_neg (fun q => absurd q.1 (by decide)), gI_sI]
        by_cases e : p = i
        · rw [if_pos ⟨rfl, e⟩, e]
        · rw [if_neg (fun q => e q.2)]
          exact h98 p (by omega)
      · rw [gI_sI]
        by_cases e : p = i
        · rw [if_pos ⟨rfl, e⟩, e]
        · rw [if_neg (fun q => e q.2), gI_sI, if_neg (fun q => absurd q.1 (by decide))]
          exact h99 p (by omega))
    (fun n w hp => by
      have e1 : (8 : Int32) ≤ Int32.ofNat 8 := by decide
      constructor
      · simp only [lp_Night_plan_62, e1, if_true]
      · simp only [okl_Night_plan_62, e1, if_true])
  exact A
