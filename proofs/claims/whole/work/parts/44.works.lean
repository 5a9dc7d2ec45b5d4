/-! THE WORKS: what benches make, alike. -/
def wk_g (s : mS) (later : Int32) (b : Nat) : Int32 := if gI s 126 b = -1 then 0 else f_M_inStep (gI s 123 b) (gI s 126 b + later) s
theorem share_17 {s : mS} (h : J_share s) (i : Nat) : gI s 117 i = mm_parts.getD i 0 := h i
theorem inStep_ok (v i : Int32) (s : mS) : ok_M_inStep v i s := by
  unfold ok_M_inStep
  refine ⟨trivial, ?_⟩
  simp only [mq_letP_e, z_isIn, ite_not, and_true]
  split
  · exact ⟨inb_17 (by grind) (by grind), inb_17 (by grind) (by grind)⟩
  · trivial
theorem gasOf_ok (v i : Int32) (s : mS) : ok_Works_gasOf v i s := by
  unfold ok_Works_gasOf
  split
  · trivial
  · split
    · exact ⟨inb_17 (by grind) (by grind), inb_17 (by grind) (by grind), trivial⟩
    · trivial
theorem gasOf_eq {s : mS} (h : J_share s) (v i : Int32) (h0 : -100 ≤ i) (h1 : i ≤ 10000) : f_Works_gasOf v (i + 1) s = f_M_inStep v i s := by
  have h := share_17 h
  unfold f_Works_gasOf f_M_inStep
  simp only [mq_let_e, z_isIn, ite_not]
  by_cases c : 0 ≤ i ∧ i ≤ 15
  · rw [if_neg (by grind), if_pos (by grind), if_pos c, h, h]
    have : i + 1 - 1 = i := by grind
    rw [this]
  · rw [if_neg c]
    split
    · rfl
    · rw [if_neg (by grind)]
theorem gas_eq {s : mS} (h : J_share s) (hb : J_bench s) {b : Nat} (hb6 : b < 6) {l : Int32} (h0 : 0 ≤ l) (hl : l ≤ 1000) : (if (gI s 8 b) ≤ l then 0 else f_Works_gasOf (gI s 9 b) ((17 - (gI s 8 b)) + l) s) = wk_g s l b := by
  unfold J_bench at hb
  have e1 := hb.2.2.2.1 b hb6
  have e2 := hb.2.2.2.2.1 b hb6
  unfold wk_g
  rw [hb.1]
  by_cases c : gI s 126 b = -1
  · rw [if_pos c] at e1 ⊢
    rw [if_pos (by grind)]
  · rw [if_neg c] at e1 ⊢
    rw [e1]
    split
    · unfold f_M_inStep
      simp only [mq_let_e, z_isIn, ite_not]
      rw [if_neg (by grind)]
    · have : 17 - (16 - gI s 126 b) + l = (gI s 126 b + l) + 1 := by grind
      rw [this, gasOf_eq h _ _ (by grind) (by grind)]
theorem gasLater_eq {s : mS} (h : J_share s) (hb : J_bench s) {l : Int32} (h0 : 0 ≤ l) (hl : l ≤ 1000) : f_Works_gasLater l s = smI (wk_g s l) 6 ∧ ok_Works_gasLater l s := by
  have A := lp_sum (L := lp_Works_gasLater_4 l s) (OK := okl_Works_gasLater_4 l s) 6 (by omega) (wk_g s l)
    (fun n i acc hi => by
      have e1 : ¬ (6 : Int32) ≤ Int32.ofNat i := fl_lit (a := 6) rfl (by omega) (by omega) hi
      have e2 : ix (Int32.ofNat i) = i := ix_ofNat (by omega)
      have e3 : Int32.ofNat i + 1 = Int32.ofNat (i + 1) := ofNat_succ i
      have e4 : mm_inb (Int32.ofNat i) 6 = true := inb_ofNat (by decide) hi
      have e5 := gas_eq h hb hi h0 hl
      constructor
      · simp only [lp_Works_gasLater_4, mq_let_e, e1, if_false, e2, e3]
        split
        · rename_i c
          rw [if_pos c] at e5
          rw [← e5, Int32.add_zero]
        · rename_i c
          rw [if_neg c] at e5
          rw [e5]
      · intro q
        simp only [okl_Works_gasLater_4, mq_letP_e, e1, if_false, e2, e3, e4, gasOf_ok, true_and]
        split
        · rename_i c
          rw [if_pos c] at e5
          rw [← e5, Int32.add_zero] at q
          exact q
        · rename_i c
          rw [if_neg c] at e5
          rw [e5]
          exact q)
    (fun n acc => by
      have e1 : (6 : Int32) ≤ Int32.ofNat 6 := by decide
      constructor
      · simp only [lp_Works_gasLater_4, e1, if_true]
      · simp only [okl_Works_gasLater_4, e1, if_true])
  constructor
  · unfold f_Works_gasLater
    simp only [mq_let_e, A.1]
  · unfold ok_Works_gasLater
    simp only [mq_letP_e, A.2, and_true]
theorem bench_B {s : mS} (hb : J_bench s) : ∃ B, gI s 116 4 = Int32.ofNat B ∧ B ≤ 6 := by
  unfold J_bench at hb
  have h1 := hb.2.2.2.2.2.2.2.2.2.1
  have h2 := hb.2.2.2.2.2.2.2.2.2.2.1
  refine ⟨ix (gI s 116 4), (ofNat_ix h1).symm, ?_⟩
  have h3 : ix (gI s 116 4) < 7 := ix_lt (by decide) h1 (by
    have : Int32.ofNat 7 = 7 := rfl
    grind)
  omega
theorem bench_6 {s : mS} (hb : J_bench s) {B : Nat} (hB : gI s 116 4 = Int32.ofNat B) (hB6 : B ≤ 6) {j : Nat} (h1 : B ≤ j) (h2 : j < 6) : gI s 126 j = -1 := by
  unfold J_bench at hb
  refine hb.2.2.2.2.2.2.2.2.2.2.2.1 j h2 ?_
  rw [hB, ofNat_le (by omega) (by omega)]
  exact h1
theorem wk_sum {s : mS} (hb : J_bench s) {B : Nat} (hB : gI s 116 4 = Int32.ofNat B) (hB6 : B ≤ 6) (l : Int32) : smI (wk_g s l) 6 = smI (wk_g s l) B := smI_0 hB6 (fun j h1 h2 => by
  unfold wk_g
  rw [if_pos (bench_6 hb hB hB6 h1 h2)])
theorem stillMakes_eq {s : mS} {B : Nat} (hB : gI s 116 4 = Int32.ofNat B) (hB6 : B ≤ 6) (l : Int32) : f_M_stillMakes l s = smI (wk_g s l) B ∧ ok_M_stillMakes l s := by
  have A := lp_sum (L := lp_M_stillMakes_4 l s) (OK := okl_M_stillMakes_4 l s) B (by omega) (wk_g s l)
    (fun n i acc hi => by
      have e1 := fl_lit hB (by omega) (by omega) hi
      have e2 : ix (Int32.ofNat i) = i := ix_ofNat (by omega)
      have e3 : Int32.ofNat i + 1 = Int32.ofNat (i + 1) := ofNat_succ i
      have e4 : mm_inb (Int32.ofNat i) 6 = true := inb_ofNat (by decide) (by omega)
      by_cases c : gI s 126 i = -1
      · have e5 : wk_g s l i = 0 := if_pos c
        constructor
        · simp only [lp_M_stillMakes_4, mq_let_e, e1, if_false, e2, e3, c, if_true, e5]
        · intro q
          simp only [okl_M_stillMakes_4, mq_letP_e, e1, if_false, e2, e3, e4, c, if_true, true_and]
          rw [e5] at q
          exact q
      · have e5 : wk_g s l i = f_M_inStep (gI s 123 i) (gI s 126 i + l) s := if_neg c
        constructor
        · simp only [lp_M_stillMakes_4, mq_let_e, e1, if_false, e2, e3, c, e5]
        · intro q
          simp only [okl_M_stillMakes_4, mq_letP_e, e1, if_false, e2, e3, e4, c, true_and, inStep_ok]
          rw [e5] at q
          exact q)
    (fun n acc => by
      have e1 := fl_lit' hB
      constructor
      · simp only [lp_M_stillMakes_4, e1, if_true]
      · simp only [okl_M_stillMakes_4, e1, if_true])
  constructor
  · unfold f_M_stillMakes
    simp only [mq_let_e, A.1]
  · unfold ok_M_stillMakes
    simp only [mq_letP_e, A.2, and_true]
theorem burns_lp {s : mS} {B : Nat} (hB : gI s 116 4 = Int32.ofNat B) (hB6 : B ≤ 6) : lp_M_burns_4 s mm_N 0 0 = (smI (wk_g s 0) B, Int32.ofNat B) ∧ okl_M_burns_4 s mm_N 0 0 :=
  lp_sum (L := lp_M_burns_4 s) (OK := okl_M_burns_4 s) B (by omega) (wk_g s 0)
    (fun n i acc hi => by
      have e1 := fl_lit hB (by omega) (by omega) hi
      have e2 : ix (Int32.ofNat i) = i := ix_ofNat (by omega)
      have e3 : Int32.ofNat i + 1 = Int32.ofNat (i + 1) := ofNat_succ i
      have e4 : mm_inb (Int32.ofNat i) 6 = true := inb_ofNat (by decide) (by omega)
      by_cases c : gI s 126 i = -1
      · have e5 : wk_g s 0 i = 0 := if_pos c
        constructor
        · simp only [lp_M_burns_4, mq_let_e, e1, if_false, e2, e3, c, if_true, e5]
        · intro q
          simp only [okl_M_burns_4, mq_letP_e, e1, if_false, e2, e3, e4, c, if_true, true_and]
          rw [e5] at q
          exact q
      · have e5 : wk_g s 0 i = f_M_inStep (gI s 123 i) (gI s 126 i) s := by
          unfold wk_g
          rw [if_neg c, Int32.add_zero]
        constructor
        · simp only [lp_M_burns_4, mq_let_e, e1, if_false, e2, e3, c, e5]
        · intro q
          simp only [okl_M_burns_4, mq_letP_e, e1, if_false, e2, e3, e4, c, true_and, inStep_ok]
          rw [e5] at q
          exact q)
    (fun n acc => by
      have e1 := fl_lit' hB
      constructor
      · simp only [lp_M_burns_4, e1, if_true]
      · simp only [okl_M_burns_4, e1, if_true])
/-- a charge's gas in a step: bounds -/
theorem parts_rng (i : Nat) : 0 ≤ mm_parts.getD i 0 ∧ mm_parts.getD i 0 ≤ 72 := by
  by_cases h : i < 17
  · have : ∀ i, i < 17 → 0 ≤ mm_parts.getD i 0 ∧ mm_parts.getD i 0 ≤ 72 := by decide
    exact this i h
  · rw [List.getD_eq_getElem?_getD, List.getElem?_eq_none (by
      have : mm_parts.length = 17 := rfl
      omega)]
    decide
theorem parts_mono (i : Nat) (h : i < 16) : mm_parts.getD i 0 ≤ mm_parts.getD (i + 1) 0 := by
  have : ∀ i, i < 16 → mm_parts.getD i 0 ≤ mm_parts.getD (i + 1) 0 := by decide
  exact this i h
theorem part_q {v p : Int32} (h0 : 0 ≤ v) (h1 : v ≤ 1800) (p0 : 0 ≤ p) (p1 : p ≤ 72) : ((v * p) / 72).toInt = (v.toInt * p.toInt) / 72 ∧ 0 ≤ v.toInt * p.toInt ∧ v.toInt * p.toInt ≤ v.toInt * 72 := by
  have z0 := toInt_0
  have z1 : (1800 : Int32).toInt = 1800 := rfl
  have z2 : (72 : Int32).toInt = 72 := rfl
  rw [le_toInt] at h0 h1 p0 p1
  have b0 : 0 ≤ v.toInt * p.toInt := Int.mul_nonneg (by omega) (by omega)
  have b1 : v.toInt * p.toInt ≤ v.toInt * 72 := Int.mul_le_mul_of_nonneg_left (by omega) (by omega)
  have d : (v * p).toInt = v.toInt * p.toInt := by rw [mul_nn] <;> omega
  refine ⟨?_, b0, b1⟩
  rw [div_nn _ (by decide), d, z2]
  rw [le_toInt, d, z0]
  exact b0
theorem inStep_rng {s : mS} (h : J_share s) {v : Int32} (h0 : 0 ≤ v) (h1 : v ≤ 1800) (i : Int32) : 0 ≤ f_M_inStep v i s ∧ f_M_inStep v i s ≤ 1800 := by
  unfold f_M_inStep
  simp only [mq_let_e, z_isIn, ite_not]
  split
  · rename_i c
    rw [share_17 h, share_17 h]
    have hi : ix i < 16 := ixl_16 c.1 (by grind)
    have e : ix (i + 1) = ix i + 1 := ix_succ c.1 (by grind)
    rw [e]
    have p1 := parts_rng (ix i)
    have p2 := parts_rng (ix i + 1)
    have p3 := parts_mono (ix i) hi
    have q1 := part_q h0 h1 p1.1 p1.2
    have q2 := part_q h0 h1 p2.1 p2.2
    have z0 := toInt_0
    have z1 : (1800 : Int32).toInt = 1800 := rfl
    rw [le_toInt] at h0 h1 p3
    have m : v.toInt * (mm_parts.getD (ix i) 0).toInt ≤ v.toInt * (mm_parts.getD (ix i + 1) 0).toInt := Int.mul_le_mul_of_nonneg_left p3 (by omega)
    have m2 : v.toInt * (mm_parts.getD (ix i) 0).toInt / 72 ≤ v.toInt * (mm_parts.getD (ix i + 1) 0).toInt / 72 := Int.ediv_le_ediv (by decide) m
    have d : ((v * mm_parts.getD (ix i + 1) 0) / 72 - (v * mm_parts.getD (ix i) 0) / 72).toInt = v.toInt * (mm_parts.getD (ix i + 1) 0).toInt / 72 - v.toInt * (mm_parts.getD (ix i) 0).toInt / 72 := by
      rw [sub_nn] <;> rw [q1.1, q2.1] <;> omega
    rw [le_toInt, le_toInt, d]
    omega
  · decide
theorem wk_rng {s : mS} (h : J_share s) (hb : J_bench s) (l : Int32) (b : Nat) : 0 ≤ wk_g s l b ∧ wk_g s l b ≤ 1800 := by
  unfold wk_g
  split
  · decide
  · unfold J_bench at hb
    have := hb.2.2.2.2.2.1 b
    exact inStep_rng h this.1 this.2 _
theorem wk_tot {s : mS} (h : J_share s) (hb : J_bench s) (l : Int32) : 0 ≤ smI (wk_g s l) 6 ∧ smI (wk_g s l) 6 ≤ 10800 := smI_rng (M := 1800) (fun j _ => wk_rng h hb l j) (by omega) (by omega)
/-! last -/
theorem op_last (s : mS) (h_sky : J_sky s) (h_things : J_things s) (h_bench : J_bench s) (h_level : J_level s) (h_gen : J_gen s) (h_share : J_share s) (hc : ∀ t, 0 ≤ gI s 136 t) : ok_G_last s ∧ ok_M_last s ∧ f_G_last s = f_M_last s := by
  obtain ⟨B, hB, hB6⟩ := bench_B h_bench
  have ht := h_things
  unfold J_things at ht
  have hT0 : ∃ T, gI s 116 8 = Int32.ofNat T ∧ T ≤ 40 := by
    have h1 := ht.2.2.2.2.2.2.2.2.2.2.2.1
    have h2 := ht.2.2.2.2.2.2.2.2.2.2.2.2.1
    refine ⟨ix (gI s 116 8), (ofNat_ix h1).symm, ?_⟩
    have h3 : ix (gI s 116 8) < 41 := ix_lt (by decide) h1 (by
      have : Int32.ofNat 41 = 41 := rfl
      grind)
    omega
  obtain ⟨T, hT, hT2⟩ := hT0
  have hl := h_level
  unfold J_level at hl
  have hg := h_gen
  unfold J_gen at hg
  have key : ∀ r i n (l : Int32), i + r = 192 → r < n → 0 ≤ l → l ≤ 99999 →
      (lp_Night_firstShort_9 (gI s 0 9) s n l (Int32.ofNat i)).1 = (lp_M_last_7 s n l (Int32.ofNat i)).1 ∧ okl_Night_firstShort_9 (gI s 0 9) s n l (Int32.ofNat i) ∧ okl_M_last_7 s n l (Int32.ofNat i) := by
    intro r
    induction r with
    | zero =>
      intro i n l hi hn _ _
      have : i = 192 := by omega
      subst this
      match n, hn with
      | n + 1, _ =>
        have e1 : (192 : Int32) ≤ Int32.ofNat 192 := by decide
        refine ⟨?_, ?_, ?_⟩
        · simp only [lp_Night_firstShort_9, lp_M_last_7, e1, if_true]
        · simp only [okl_Night_firstShort_9, e1, if_true]
        · simp only [okl_M_last_7, e1, if_true]
    | succ r ih =>
      intro i n l hi hn hl0 hl1
      match n, hn with
      | n + 1, hn =>
        have e1 : ¬ (192 : Int32) ≤ Int32.ofNat i := fl_lit (a := 192) rfl (by omega) (by omega) (by omega)
        have e3 : Int32.ofNat i + 1 = Int32.ofNat (i + 1) := ofNat_succ i
        have ei : 0 ≤ Int32.ofNat i ∧ Int32.ofNat i ≤ 192 := toInt_rng (a := 0) (b := 192) (by rw [toInt_ofNat (by omega)]; omega) (by rw [toInt_ofNat (by omega)]; omega) (by omega) (by omega)
        have ea : 0 ≤ gI s 116 1 + Int32.ofNat i ∧ gI s 116 1 + Int32.ofNat i ≤ 10000 := by grind
        have G := gasLater_eq h_share h_bench ei.1 (by grind : Int32.ofNat i ≤ 1000)
        have M := stillMakes_eq hB hB6 (Int32.ofNat i)
        have GW := allWants_eq (N := 0) h_sky h_things hT hT2 ea.1 ea.2
        have MW := wantsIn_eq hT hT2 ea.1 ea.2
        have gr := wk_tot h_share h_bench (Int32.ofNat i)
        have wr := smI_rng (w := fun t => f_M_wants (Int32.ofNat t) (gI s 116 1 + Int32.ofNat i) s) (b := T) (M := 495) (fun j _ => want_rng h_sky h_things hc _ _) (by omega) (by omega)
        have wr2 : smI (fun t => f_M_wants (Int32.ofNat t) (gI s 116 1 + Int32.ofNat i) s) T ≤ 19800 := by
          refine Int32.le_trans wr.2 ?_
          rw [show (19800 : Int32) = Int32.ofNat 19800 from rfl, ofNat_le (by omega) (by omega)]
          omega
        rw [wk_sum h_bench hB hB6] at G gr
        generalize smI (fun t => f_M_wants (Int32.ofNat t) (gI s 116 1 + Int32.ofNat i) s) T = w at *
        generalize smI (wk_g s (Int32.ofNat i)) B = g at *
        have hcap : 0 ≤ gI s 116 5 ∧ gI s 116 5 ≤ 99999 := ⟨Int32.le_trans hl.2.2.1 hl.2.2.2.1, hl.2.2.2.2.1⟩
        have em : (if l + g < gI s 116 5 then l + g else gI s 116 5) = (if l + g ≤ gI s 116 5 then l + g else gI s 116 5) := by
          by_cases q : l + g < gI s 116 5
          · rw [if_pos q, if_pos (Int32.le_of_lt q)]
          · rw [if_neg q]
            by_cases q2 : l + g ≤ gI s 116 5
            · rw [if_pos q2]
              exact (Int32.le_antisymm q2 (Int32.not_lt.mp q)).symm
            · rw [if_neg q2]
        have z0 := toInt_0
        have z1 : (99999 : Int32).toInt = 99999 := rfl
        have z2 : (10800 : Int32).toInt = 10800 := rfl
        have z3 : (19800 : Int32).toInt = 19800 := rfl
        have wr0 := wr.1
        simp only [le_toInt, z0, z1, z2, z3] at hl0 hl1 gr wr0 wr2 hcap
        have dl : (l + g).toInt = l.toInt + g.toInt := by rw [add_nn] <;> omega
        have hm : 0 ≤ (if l + g ≤ gI s 116 5 then l + g else gI s 116 5).toInt ∧ (if l + g ≤ gI s 116 5 then l + g else gI s 116 5).toInt ≤ 99999 := by
          split
          · rename_i q
            rw [le_toInt, dl] at q
            rw [dl]
            omega
          · omega
        generalize hmm : (if l + g ≤ gI s 116 5 then l + g else gI s 116 5) = m at *
        have dm : (m - w).toInt = m.toInt - w.toInt := by rw [sub_nn] <;> omega
        have ec : (0 : Int32) ≤ m - w ↔ w ≤ m := by
          rw [le_toInt, le_toInt, dm, z0]
          omega
        by_cases c : w ≤ m
        · have I := ih (i + 1) n (m - w) (by omega) (by omega) (ec.mpr c) (by
            rw [le_toInt, dm, z1]
            omega)
          refine ⟨?_, ?_, ?_⟩
          · simp only [lp_Night_firstShort_9, lp_M_last_7, mq_let_e, e1, if_false, hg.1, hl.1, G.1, M.1, GW.1, MW.1, em, hmm, ec, c, if_true, e3]
            rw [hg.1] at I
            exact I.1
          · simp only [okl_Night_firstShort_9, mq_letP_e, e1, if_false, hg.1, hl.1, G.1, G.2, GW.1, GW.2, em, hmm, ec, c, if_true, e3, true_and]
            rw [hg.1] at I
            exact I.2.1
          · simp only [okl_M_last_7, mq_letP_e, e1, if_false, M.1, M.2, MW.1, MW.2, hmm, c, if_true, e3, true_and]
            exact I.2.2
        · refine ⟨?_, ?_, ?_⟩
          · simp only [lp_Night_firstShort_9, lp_M_last_7, mq_let_e, e1, if_false, hg.1, hl.1, G.1, M.1, GW.1, MW.1, em, hmm, ec, c]
          · simp only [okl_Night_firstShort_9, mq_letP_e, e1, if_false, hg.1, hl.1, G.1, G.2, GW.1, GW.2, em, hmm, ec, c, true_and]
          · simp only [okl_M_last_7, mq_letP_e, e1, if_false, M.1, M.2, MW.1, MW.2, hmm, c, true_and]
  have K := key 192 0 mm_N (gI s 116 6) rfl (by rw [mm_Ns]; omega) hl.2.2.1 (Int32.le_trans hl.2.2.2.1 hl.2.2.2.2.1)
  have K1 : (lp_Night_firstShort_9 (gI s 0 9) s mm_N (gI s 116 6) 0).1 = (lp_M_last_7 s mm_N (gI s 116 6) 0).1 := K.1
  refine ⟨?_, ?_, ?_⟩
  · unfold ok_G_last ok_Night_firstShort
    simp only [mq_letP_e, and_true, hl.2.1]
    refine ⟨K.2.1, ?_⟩
    unfold mq_elP
    split <;> trivial
  · unfold ok_M_last
    simp only [mq_letP_e]
    refine ⟨K.2.2, ?_⟩
    unfold mq_elP
    split <;> trivial
  · unfold f_G_last f_Night_firstShort f_M_last
    simp only [mq_let_e, hl.2.1, K1]
