/-! A STEP, the model's pieces. -/
theorem M_burnsA {u : mS} {B : Nat} (hB : gI u 116 4 = Int32.ofNat B) (hB6 : B ≤ 6) : ok_M_burns u ∧ fp aw_M_burns fw_M_burns false u (f_M_burns u) ∧ gI (f_M_burns u) 116 6 = fl_lev (gI u 116 6) (gI u 116 5) (smI (wk_g u 0) B) ∧ gL (f_M_burns u) 116 36 = gL u 116 36 + (smI (wk_g u 0) B).toInt64 ∧ gL (f_M_burns u) 116 37 = fl_off (gL u 116 37) (gI u 116 6) (gI u 116 5) (smI (wk_g u 0) B) := by
  have A := burns_lp hB hB6
  have fr := fr_M_burns u
  have e : f_M_burns u = f_M_fills (smI (wk_g u 0) B) (sL u 116 36 (gL u 116 36 + Int32.toInt64 (smI (wk_g u 0) B))) := by
    unfold f_M_burns
    simp only [mq_let_e, A.1]
  refine ⟨⟨A.2, trivial⟩, fr, ?_⟩
  rw [e]
  unfold f_M_fills fl_lev fl_off
  simp only [gI_sL, gL_sL, Nat.reduceEqDiff, and_false, if_false]
  by_cases c : gI u 116 6 + smI (wk_g u 0) B ≤ gI u 116 5
  · have c' : ¬ gI u 116 5 < gI u 116 6 + smI (wk_g u 0) B := Int32.not_lt.mpr c
    simp only [c, c', if_true, if_false]
    refine ⟨?_, ?_, ?_⟩
    · simp only [gI_sI, and_self, if_true]
    · simp only [gL_sI, gL_sL, and_self, if_true]
    · simp only [gL_sI, gL_sL, Nat.reduceEqDiff, and_false, if_false]
  · have c' : gI u 116 5 < gI u 116 6 + smI (wk_g u 0) B := Int32.not_le.mp c
    simp only [c, c', if_true, if_false]
    refine ⟨?_, ?_, ?_⟩
    · simp only [gI_sI, and_self, if_true]
    · simp only [gL_sI, gL_sL, Nat.reduceEqDiff, and_false, if_false, and_self, if_true]
    · simp only [gL_sI, gL_sL, and_self, if_true, Nat.reduceEqDiff, and_false, if_false]
theorem M_rs {u : mS} {N : Nat} (hN : gI u 116 7 = Int32.ofNat N) (hN2 : N ≤ 16) : lp_M_step_6 mm_N 0 u = (Int32.ofNat N, sA u 147 (fillA N (gI u 128) (gI u 147))) ∧ okl_M_step_6 mm_N 0 u :=
  lp_map (L := lp_M_step_6) (OK := okl_M_step_6) 147 N (by omega) u (gI u 128)
    (fun n i g hi => by
      have e1 := fl_lit hN (by omega) (by omega) hi
      have e2 : ix (Int32.ofNat i) = i := ix_ofNat (by omega)
      have e3 : Int32.ofNat i + 1 = Int32.ofNat (i + 1) := ofNat_succ i
      have b1 : mm_inb (Int32.ofNat i) 16 = true := inb_ofNat (by decide) (by omega)
      constructor
      · simp only [lp_M_step_6, gI_sA, Nat.reduceEqDiff, if_false, e1, e2, e3, sI_sA]
      · intro q
        simp only [okl_M_step_6, gI_sA, Nat.reduceEqDiff, if_false, e1, e2, e3, sI_sA, b1, true_and]
        exact q)
    (fun n g => by
      have e1 := fl_lit' hN
      constructor
      · simp only [lp_M_step_6, gI_sA, Nat.reduceEqDiff, if_false, e1, if_true]
      · simp only [okl_M_step_6, gI_sA, Nat.reduceEqDiff, if_false, e1, if_true])
theorem M_used {u : mS} {T : Nat} (hT : gI u 116 8 = Int32.ofNat T) (hT2 : T ≤ 40) : lp_M_step_57 u mm_N 0 0 = (smI (gI u 143) T, Int32.ofNat T) ∧ okl_M_step_57 u mm_N 0 0 :=
  lp_sum (L := lp_M_step_57 u) (OK := okl_M_step_57 u) T (by omega) (gI u 143)
    (fun n i acc hi => by
      have e1 := fl_lit hT (by omega) (by omega) hi
      have e2 : ix (Int32.ofNat i) = i := ix_ofNat (by omega)
      have e3 : Int32.ofNat i + 1 = Int32.ofNat (i + 1) := ofNat_succ i
      have b1 : mm_inb (Int32.ofNat i) 40 = true := inb_ofNat (by decide) (by omega)
      constructor
      · simp only [lp_M_step_57, e1, e2, e3, if_false]
      · intro q
        simp only [okl_M_step_57, e1, e2, e3, if_false, b1, true_and]
        exact q)
    (fun n acc => by
      have e1 := fl_lit' hT
      constructor
      · simp only [lp_M_step_57, e1, if_true]
      · simp only [okl_M_step_57, e1, if_true])
/-- what the model keeps of a thing -/
theorem M_keepA {u : mS} {T : Nat} {sh a1 : Int32} {tk : Nat → Int32} (hT : gI u 116 8 = Int32.ofNat T) (hT2 : T ≤ 40) (hs : gI u 116 56 = sh) (htk : ∀ t, t < T → gI u 143 t = tk t) : ∃ w, lp_M_step_120 a1 mm_N 0 u = (Int32.ofNat T, w) ∧ okl_M_step_120 a1 mm_N 0 u ∧ fp [136, 137, 138, 139, 143] [] false u w ∧ (∀ t, t < T → gI w 143 t = if sh = 0 then tk t else 0) ∧ (∀ t, gI w 138 t = if t < T then (if sh = 0 then tk t else 0) else gI u 138 t) ∧ (∀ t, gL w 139 t = if t < T then gL u 139 t + (if sh = 0 then tk t else 0).toInt64 else gL u 139 t) ∧ (∀ t, gI w 137 t = if t < T ∧ gI u 133 t = 0 ∧ gI u 141 t = 0 then gI u 137 t + (if sh = 0 then tk t else 0) else gI u 137 t) ∧ (∀ t, gI w 136 t = if t < T ∧ gI u 133 t = 2 then gI u 136 t - (if sh = 0 then tk t else 0) else gI u 136 t) := by
  have A := lp_up0 (L := lp_M_step_120 a1) (OK := okl_M_step_120 a1) (fun i w => fp [136, 137, 138, 139, 143] [] false u w ∧ (∀ t, t < T → gI w 143 t = if t < i then (if sh = 0 then tk t else 0) else tk t) ∧ (∀ t, gI w 138 t = if t < i then (if sh = 0 then tk t else 0) else gI u 138 t) ∧ (∀ t, gL w 139 t = if t < i then gL u 139 t + (if sh = 0 then tk t else 0).toInt64 else gL u 139 t) ∧ (∀ t, gI w 137 t = if t < i ∧ gI u 133 t = 0 ∧ gI u 141 t = 0 then gI u 137 t + (if sh = 0 then tk t else 0) else gI u 137 t) ∧ (∀ t, gI w 136 t = if t < i ∧ gI u 133 t = 2 then gI u 136 t - (if sh = 0 then tk t else 0) else gI u 136 t)) T (by omega) u
    ⟨fp_r, fun t ht => by rw [if_neg (by omega)]; exact htk t ht, fun t => rfl, fun t => rfl, fun t => by rw [if_neg (by omega)], fun t => by rw [if_neg (by omega)]⟩
    (fun n i w hi hp => by
      obtain ⟨hf, h143, h138, h139, h137, h136⟩ := hp
      have w8 : gI w 116 8 = Int32.ofNat T := by rw [(fpF hf (by decide)).1, hT]
      have w56 : gI w 116 56 = sh := by rw [(fpF hf (by decide)).1, hs]
      have w133 : gI w 133 = gI u 133 := (fpA hf (by decide)).1
      have w141 : gI w 141 = gI u 141 := (fpA hf (by decide)).1
      have e0 := fl_lit w8 (by omega) (by omega) hi
      have e2 : ix (Int32.ofNat i) = i := ix_ofNat (by omega)
      have e3 : Int32.ofNat i + 1 = Int32.ofNat (i + 1) := ofNat_succ i
      have b1 : mm_inb (Int32.ofNat i) 40 = true := inb_ofNat (by decide) (by omega)
      have v143 : gI w 143 i = tk i := by rw [h143 i hi, if_neg (by omega)]
      have v139 : gL w 139 i = gL u 139 i := by rw [h139 i, if_neg (by omega)]
      have v137 : gI w 137 i = gI u 137 i := by rw [h137 i, if_neg (by omega)]
      have v136 : gI w 136 i = gI u 136 i := by rw [h136 i, if_neg (by omega)]
      generalize hx : (if sh = 0 then w else sI w 143 i 0) = x
      have X : fp [143] [] false w x ∧ gI x 143 i = (if sh = 0 then tk i else 0) ∧ ∀ t, t ≠ i → gI x 143 t = gI w 143 t := by
        rw [← hx]
        by_cases c : sh = 0
        · rw [if_pos c, if_pos c]
          exact ⟨fp_r, v143, fun t _ => rfl⟩
        · rw [if_neg c, if_neg c]
          exact ⟨fp_IA fp_r (by decide), by rw [gI_sI, if_pos ⟨rfl, rfl⟩], fun t h => by rw [gI_sI, if_neg (fun q => h q.2)]⟩
      obtain ⟨x1, x2, x3⟩ := X
      have x133 : gI x 133 = gI u 133 := by rw [(fpA x1 (by decide)).1, w133]
      have x141 : gI x 141 = gI u 141 := by rw [(fpA x1 (by decide)).1, w141]
      have x139 : gL x 139 = gL w 139 := (fpA x1 (by decide)).2
      have x137 : gI x 137 = gI w 137 := (fpA x1 (by decide)).1
      have x136 : gI x 136 = gI w 136 := (fpA x1 (by decide)).1
      have x138 : gI x 138 = gI w 138 := (fpA x1 (by decide)).1
      have k : ∀ t : Nat, ¬ t = i → ((t < i + 1) = (t < i)) := fun t h => propext ⟨fun q => by omega, fun q => by omega⟩
      refine ⟨sI (sI (sL (sI x 138 i (if sh = 0 then tk i else 0)) 139 i (gL u 139 i + Int32.toInt64 (if sh = 0 then tk i else 0))) 137 i (gI u 137 i + (if gI u 133 i = 0 then (if gI u 141 i = 0 then (if sh = 0 then tk i else 0) else 0) else 0))) 136 i (gI u 136 i - (if gI u 133 i = 2 then (if sh = 0 then tk i else 0) else 0)), ?_, ?_, fp_IA (fp_IA (fp_LA (fp_IA (fp_t hf (fp_m x1 (by decide) (by decide) (fun h => h))) (by decide)) (by decide)) (by decide)) (by decide), fun t ht => ?_, fun t => ?_, fun t => ?_, fun t => ?_, fun t => ?_⟩
      · simp only [lp_M_step_120, mq_let_e, e0, if_false, w56, e2, e3, hx, x133, x141, x2, x139, x137, x136, v139, v137, v136]
      · intro q
        simp only [okl_M_step_120, mq_letP_e, e0, if_false, w56, e2, e3, hx, x133, x141, x2, x139, x137, x136, v139, v137, v136, b1, true_and, and_true, ite_self]
        exact q
      · simp only [gI_sI, gI_sL, Nat.reduceEqDiff, false_and, if_false]
        by_cases e : t = i
        · subst e
          rw [if_pos (by omega), x2]
        · simp only [k t e]
          rw [x3 t e, h143 t ht]
      · simp only [gI_sI, gI_sL, Nat.reduceEqDiff, false_and, true_and, if_false]
        by_cases e : t = i
        · subst e
          rw [if_pos rfl, if_pos (show t < t + 1 by omega)]
        · simp only [k t e]
          rw [if_neg e, x138, h138 t]
      · simp only [gL_sI, gL_sL, true_and]
        by_cases e : t = i
        · subst e
          rw [if_pos rfl, if_pos (show t < t + 1 by omega)]
        · simp only [k t e]
          rw [if_neg e, x139, h139 t]
      · simp only [gI_sI, gI_sL, Nat.reduceEqDiff, false_and, true_and, if_false]
        by_cases e : t = i
        · subst e
          rw [if_pos rfl]
          by_cases c1 : gI u 133 t = 0
          · rw [if_pos c1]
            by_cases c2 : gI u 141 t = 0
            · rw [if_pos c2, if_pos (show t < t + 1 ∧ gI u 133 t = 0 ∧ gI u 141 t = 0 from ⟨by omega, c1, c2⟩)]
            · rw [if_neg c2, if_neg (fun q => c2 q.2.2), Int32.add_zero]
          · rw [if_neg c1, if_neg (fun q => c1 q.2.1), Int32.add_zero]
        · simp only [k t e]
          rw [if_neg e, x137, h137 t]
      · simp only [gI_sI, gI_sL, true_and]
        by_cases e : t = i
        · subst e
          rw [if_pos rfl]
          by_cases c1 : gI u 133 t = 2
          · rw [if_pos c1, if_pos (show t < t + 1 ∧ gI u 133 t = 2 from ⟨by omega, c1⟩)]
          · rw [if_neg c1, if_neg (fun q => c1 q.2), Int32.sub_zero]
        · simp only [k t e]
          rw [if_neg e, if_neg (fun q => absurd q.1 (by decide)), if_neg (fun q => absurd q.1 (by decide)), x136, h136 t])
    (fun n w hp => by
      have e0 := fl_lit' (((fpF hp.1 (by decide : fpd [136, 137, 138, 139, 143] [] false (116, 8) = true)).1).trans hT)
      constructor
      · simp only [lp_M_step_120, e0, if_true]
      · simp only [okl_M_step_120, e0, if_true])
  obtain ⟨w, A1, A2, A3, A4, A5, A6, A7, A8⟩ := A
  exact ⟨w, A1, A2, A3, fun t ht => by rw [A4 t ht, if_pos ht], A5, A6, A7, A8⟩
theorem M_netkeep {u : mS} {N T : Nat} {sh : Int32} (h : NM u N T) (hb : ∀ j, gI u 130 j = 0 ∨ gI u 130 j = 1) (hs : gI u 116 56 = sh) : ok_M_keeps u ∧ fp aw_M_keeps fw_M_keeps false u (f_M_keeps u) ∧ (∀ j, gI (f_M_keeps u) 149 j = if j < N then (if sh = 0 then gI u 145 j else 0) else gI u 149 j) ∧ (∀ j, gI (f_M_keeps u) 148 j = if j < N then nt_flow N T (gI u 127) (gI u 132) (gI u 143) j else gI u 148 j) ∧ (∀ j, gI (f_M_keeps u) 131 j = if j < N then gI u 130 j else gI u 131 j) ∧ gI (f_M_keeps u) 116 55 = gI u 116 7 := by
  have fr := fr_M_keeps u
  obtain ⟨g, F1, F2, F3⟩ := M_flows h
  obtain ⟨hN, hN1, hN2, hT, hT2, hnd, hpa⟩ := h
  have A := lp_up0 (L := lp_M_keeps_14) (OK := okl_M_keeps_14) (fun i w => fp [131, 148, 149] [] false (sI (sA u 144 g) 116 55 (gI u 116 7)) w ∧ (∀ j, gI w 149 j = if j < i then (if sh = 0 then gI u 145 j else 0) else gI u 149 j) ∧ (∀ j, gI w 148 j = if j < i then g j else gI u 148 j) ∧ (∀ j, gI w 131 j = if j < i then gI u 130 j else gI u 131 j)) N (by omega) (sI (sA u 144 g) 116 55 (gI u 116 7))
    ⟨fp_r, fun j => rfl, fun j => rfl, fun j => rfl⟩
    (fun n i w hi hp => by
      obtain ⟨hf, h149, h148, h131⟩ := hp
      have w7 : gI w 116 7 = Int32.ofNat N := by
        rw [(fpF hf (by decide)).1]
        exact hN
      have w56 : gI w 116 56 = sh := by
        rw [(fpF hf (by decide)).1]
        exact hs
      have w145 : gI w 145 = gI u 145 := by
        rw [(fpA hf (by decide)).1, fI_sI, if_neg (by decide), fI_sA, if_neg (by decide)]
      have w144 : gI w 144 = g := by
        rw [(fpA hf (by decide)).1, fI_sI, if_neg (by decide), fI_sA, if_pos rfl]
      have w130 : gI w 130 = gI u 130 := by
        rw [(fpA hf (by decide)).1, fI_sI, if_neg (by decide), fI_sA, if_neg (by decide)]
      have e0 := fl_lit w7 (by omega) (by omega) hi
      have e2 : ix (Int32.ofNat i) = i := ix_ofNat (by omega)
      have e3 : Int32.ofNat i + 1 = Int32.ofNat (i + 1) := ofNat_succ i
      have b1 : mm_inb (Int32.ofNat i) 16 = true := inb_ofNat (by decide) (by omega)
      have b2 : mm_bit (gI u 130 i) = true := bit_of (hb i)
      refine ⟨sI (sI (sI w 148 i (g i)) 149 i (if sh = 0 then gI u 145 i else 0)) 131 i (gI u 130 i), ?_, ?_, fp_IA (fp_IA (fp_IA hf (by decide)) (by decide)) (by decide), fun j => ?_, fun j => ?_, fun j => ?_⟩
      · simp only [lp_M_keeps_14, mq_let_e, e0, e2, e3, if_false, w56, w145, w144, w130]
      · intro q
        simp only [okl_M_keeps_14, mq_letP_e, e0, e2, e3, if_false, w56, w145, w144, w130, b1, b2, true_and, and_true, ite_self, Bool.and_true, Bool.true_and]
        exact q
      · simp only [gI_sI, Nat.reduceEqDiff, false_and, true_and, if_false]
        by_cases e : j = i
        · rw [if_pos e, if_pos (show j < i + 1 by omega), e]
        · rw [if_neg e, h149 j]
          by_cases l : j < i
          · rw [if_pos l, if_pos (show j < i + 1 by omega)]
          · rw [if_neg l, if_neg (show ¬ j < i + 1 by omega)]
      · simp only [gI_sI, Nat.reduceEqDiff, false_and, true_and, if_false]
        by_cases e : j = i
        · rw [if_pos e, if_pos (show j < i + 1 by omega), e]
        · rw [if_neg e, h148 j]
          by_cases l : j < i
          · rw [if_pos l, if_pos (show j < i + 1 by omega)]
          · rw [if_neg l, if_neg (show ¬ j < i + 1 by omega)]
      · simp only [gI_sI, Nat.reduceEqDiff, false_and, true_and, if_false]
        by_cases e : j = i
        · rw [if_pos e, if_pos (show j < i + 1 by omega), e]
        · rw [if_neg e, h131 j]
          by_cases l : j < i
          · rw [if_pos l, if_pos (show j < i + 1 by omega)]
          · rw [if_neg l, if_neg (show ¬ j < i + 1 by omega)])
    (fun n w hp => by
      have e0 := fl_lit' (((fpF hp.1 (by decide : fpd [131, 148, 149] [] false (116, 7) = true)).1).trans hN)
      constructor
      · simp only [lp_M_keeps_14, e0, if_true]
      · simp only [okl_M_keeps_14, e0, if_true])
  obtain ⟨w, A1, A2, A3, A4, A5, A6⟩ := A
  have g7 : gI (sA u 144 g) 116 7 = gI u 116 7 := rfl
  have e : f_M_keeps u = w := by
    unfold f_M_keeps
    simp only [mq_let_e, F1, g7, A1]
  refine ⟨?_, fr, ?_⟩
  · unfold ok_M_keeps
    simp only [mq_letP_e, F1, g7]
    exact ⟨F2, A2, trivial⟩
  · rw [e]
    refine ⟨A4, fun j => ?_, A6, ?_⟩
    · rw [A5 j]
      by_cases l : j < N
      · rw [if_pos l, if_pos l, F3 j l]
      · rw [if_neg l, if_neg l]
    · rw [(fpF A3 (by decide)).1, gI_sI, if_pos ⟨rfl, rfl⟩]
theorem M_any {u : mS} {T : Nat} (hT : gI u 116 8 = Int32.ofNat T) (hT2 : T ≤ 40) (a2 v : Int32) : (lp_M_step_316 a2 v u mm_N 0 0).1 = (if aw_at (gI u 132) (gI u 133) (gI u 142) v T = true then 1 else 0) ∧ okl_M_step_316 a2 v u mm_N 0 0 := by
  have A := lp_it (L := fun n (x : Int32 × Int32) => lp_M_step_316 a2 v u n x.1 x.2) (OK := fun n x => okl_M_step_316 a2 v u n x.1 x.2) (fun i x => x = (if aw_at (gI u 132) (gI u 133) (gI u 142) v i = true then 1 else 0, Int32.ofNat i)) (fun r => r.1 = if aw_at (gI u 132) (gI u 133) (gI u 142) v T = true then 1 else 0) T
    (fun n i x hi hx => by
      subst hx
      have e0 := fl_lit hT (by omega) (by omega) hi
      have e2 : ix (Int32.ofNat i) = i := ix_ofNat (by omega)
      have e3 : Int32.ofNat i + 1 = Int32.ofNat (i + 1) := ofNat_succ i
      have b1 : mm_inb (Int32.ofNat i) 40 = true := inb_ofNat (by decide) (by omega)
      have n1 : ¬ (1 : Int32) = 0 := by decide
      have s1 : aw_at (gI u 132) (gI u 133) (gI u 142) v (i + 1) = (aw_at (gI u 132) (gI u 133) (gI u 142) v i || (decide (gI u 132 i = v) && (!decide (gI u 133 i = 3) && !decide (gI u 142 i ≤ 0)))) := rfl
      by_cases c0 : aw_at (gI u 132) (gI u 133) (gI u 142) v i = true
      · have s2 : aw_at (gI u 132) (gI u 133) (gI u 142) v (i + 1) = true := by
          rw [s1, c0]
          rfl
        refine ⟨(1, Int32.ofNat (i + 1)), ?_, ?_, by rw [s2]; rfl⟩
        · simp only [lp_M_step_316, e0, e2, e3, if_false, c0, if_true, n1]
        · intro q
          simp only [okl_M_step_316, e0, e2, e3, if_false, c0, if_true, n1]
          exact q
      · have c0' : aw_at (gI u 132) (gI u 133) (gI u 142) v i = false := by simpa using c0
        rw [c0', Bool.false_or] at s1
        have f0 : (if false = true then (1 : Int32) else 0) = 0 := rfl
        by_cases c1 : gI u 132 i = v
        · by_cases c2 : gI u 133 i = 3
          · have s2 : aw_at (gI u 132) (gI u 133) (gI u 142) v (i + 1) = false := by
              rw [s1]
              simp [c2]
            refine ⟨(0, Int32.ofNat (i + 1)), ?_, ?_, by rw [s2]; rfl⟩
            · simp only [lp_M_step_316, e0, e2, e3, if_false, c0', f0, if_true, c1, c2]
            · intro q
              simp only [okl_M_step_316, e0, e2, e3, if_false, c0', f0, if_true, c1, c2, b1, true_and]
              exact q
          · by_cases c3 : gI u 142 i ≤ 0
            · have s2 : aw_at (gI u 132) (gI u 133) (gI u 142) v (i + 1) = false := by
                rw [s1]
                simp [c3]
              refine ⟨(0, Int32.ofNat (i + 1)), ?_, ?_, by rw [s2]; rfl⟩
              · simp only [lp_M_step_316, e0, e2, e3, if_false, c0', f0, if_true, c1, c2, c3]
              · intro q
                simp only [okl_M_step_316, e0, e2, e3, if_false, c0', f0, if_true, c1, c2, c3, b1, true_and]
                exact q
            · have s2 : aw_at (gI u 132) (gI u 133) (gI u 142) v (i + 1) = true := by
                rw [s1]
                simp [c1, c2, c3]
              refine ⟨(1, Int32.ofNat (i + 1)), ?_, ?_, by rw [s2]; rfl⟩
              · simp only [lp_M_step_316, e0, e2, e3, if_false, c0', f0, if_true, c1, c2, c3]
              · intro q
                simp only [okl_M_step_316, e0, e2, e3, if_false, c0', f0, if_true, c1, c2, c3, b1, true_and]
                exact q
        · have s2 : aw_at (gI u 132) (gI u 133) (gI u 142) v (i + 1) = false := by
            rw [s1]
            simp [c1]
          refine ⟨(0, Int32.ofNat (i + 1)), ?_, ?_, by rw [s2]; rfl⟩
          · simp only [lp_M_step_316, e0, e2, e3, if_false, c0', f0, if_true, c1]
          · intro q
            simp only [okl_M_step_316, e0, e2, e3, if_false, c0', f0, if_true, c1, b1, true_and]
            exact q)
    (fun n x hx => by
      subst hx
      have e0 := fl_lit' hT
      constructor
      · simp only [lp_M_step_316, e0, if_true]
      · simp only [okl_M_step_316, e0, if_true])
    T 0 mm_N (0, 0) (by omega) (by rw [mm_Ns]; omega) rfl
  exact A
