/-! A STEP, the class's pieces. -/
def fl_lev (lv rm gas : Int32) : Int32 := if lv + gas ≤ rm then lv + gas else rm
def fl_off (o : Int64) (lv rm gas : Int32) : Int64 := if lv + gas ≤ rm then o else o + Int32.toInt64 (lv + gas - rm)
theorem one_less {x : Int32} (h : ¬ x ≤ 0) : (x - 1 = 0) = (x = 1) := by
  apply propext
  constructor <;> intro q <;> grind
theorem G_bake33 (s : mS) : ∃ s', lp_Works_bake_33 mm_N 0 s = (Int32.ofNat 6, s') ∧ okl_Works_bake_33 mm_N 0 s ∧ fp [8] [(3, 15), (3, 16)] false s s' ∧ (∀ b, b < 6 → gI s' 8 b = if gI s 8 b ≤ 0 then gI s 8 b else gI s 8 b - 1) ∧ gI s' 3 15 = gI s 3 15 + smI (fun b => if gI s 8 b = 1 then gI s 10 b else 0) 6 ∧ gI s' 3 16 = gI s 3 16 + smI (fun b => if gI s 8 b = 1 then gI s 11 b else 0) 6 := by
  have A := lp_up0 (L := lp_Works_bake_33) (OK := okl_Works_bake_33) (fun i s' => fp [8] [(3, 15), (3, 16)] false s s' ∧ (∀ b, b < 6 → gI s' 8 b = if b < i then (if gI s 8 b ≤ 0 then gI s 8 b else gI s 8 b - 1) else gI s 8 b) ∧ gI s' 3 15 = gI s 3 15 + smI (fun b => if gI s 8 b = 1 then gI s 10 b else 0) i ∧ gI s' 3 16 = gI s 3 16 + smI (fun b => if gI s 8 b = 1 then gI s 11 b else 0) i) 6 (by omega) s
    ⟨fp_r, fun b _ => rfl, (Int32.add_zero _).symm, (Int32.add_zero _).symm⟩
    (fun n i w hi hp => by
      obtain ⟨hf, h8, h15, h16⟩ := hp
      have e1 : ¬ (6 : Int32) ≤ Int32.ofNat i := fl_lit (a := 6) rfl (by omega) (by omega) hi
      have e2 : ix (Int32.ofNat i) = i := ix_ofNat (by omega)
      have e3 : Int32.ofNat i + 1 = Int32.ofNat (i + 1) := ofNat_succ i
      have b1 : mm_inb (Int32.ofNat i) 6 = true := inb_ofNat (by decide) (by omega)
      have w8 : gI w 8 i = gI s 8 i := by rw [h8 i hi, if_neg (by omega)]
      have w10 : gI w 10 = gI s 10 := (fpA hf (by decide)).1
      have w11 : gI w 11 = gI s 11 := (fpA hf (by decide)).1
      have x15 : smI (fun b => if gI s 8 b = 1 then gI s 10 b else 0) (i + 1) = smI (fun b => if gI s 8 b = 1 then gI s 10 b else 0) i + (if gI s 8 i = 1 then gI s 10 i else 0) := rfl
      have x16 : smI (fun b => if gI s 8 b = 1 then gI s 11 b else 0) (i + 1) = smI (fun b => if gI s 8 b = 1 then gI s 11 b else 0) i + (if gI s 8 i = 1 then gI s 11 i else 0) := rfl
      by_cases c1 : gI s 8 i ≤ 0
      · have c2 : ¬ gI s 8 i = 1 := by grind
        rw [if_neg c2, Int32.add_zero] at x15 x16
        refine ⟨w, ?_, ?_, hf, fun b hb => ?_, by rw [x15, h15], by rw [x16, h16]⟩
        · simp only [lp_Works_bake_33, e1, e2, e3, w8, c1, if_false, if_true]
        · intro q
          simp only [okl_Works_bake_33, e1, e2, e3, w8, c1, if_false, if_true, b1, true_and]
          exact q
        · rw [h8 b hb]
          by_cases e : b = i
          · subst e
            rw [if_neg (by omega), if_pos (by omega), if_pos c1]
          · by_cases l : b < i
            · rw [if_pos l, if_pos (show b < i + 1 by omega)]
            · rw [if_neg l, if_neg (show ¬ b < i + 1 by omega)]
      · have g8 : ∀ w' : mS, gI w' 8 = gI (sI w 8 i (gI s 8 i - 1)) 8 → ∀ b, b < 6 → gI w' 8 b = if b < i + 1 then (if gI s 8 b ≤ 0 then gI s 8 b else gI s 8 b - 1) else gI s 8 b := fun w' hw' b hb => by
          rw [hw', gI_sI]
          by_cases e : b = i
          · subst e
            rw [if_pos ⟨rfl, rfl⟩, if_pos (by omega), if_neg c1]
          · rw [if_neg (fun q => e q.2), h8 b hb]
            by_cases l : b < i
            · rw [if_pos l, if_pos (show b < i + 1 by omega)]
            · rw [if_neg l, if_neg (show ¬ b < i + 1 by omega)]
        by_cases c2 : gI s 8 i = 1
        · rw [if_pos c2] at x15 x16
          have c3 : gI s 8 i - 1 = 0 := by rw [one_less c1]; exact c2
          refine ⟨sI (sI (sI w 8 i (gI s 8 i - 1)) 3 15 (gI w 3 15 + gI s 10 i)) 3 16 (gI w 3 16 + gI s 11 i), ?_, ?_, fp_IF (fp_IF (fp_IA hf (by decide)) (by decide)) (by decide), g8 _ ?_, ?_, ?_⟩
          · simp only [lp_Works_bake_33, e1, e2, e3, w8, w10, w11, c1, if_false, gI_sI, and_self, if_true, c3, Nat.reduceEqDiff, false_and, true_and]
          · intro q
            simp only [okl_Works_bake_33, e1, e2, e3, w8, w10, w11, c1, if_false, gI_sI, and_self, if_true, c3, Nat.reduceEqDiff, false_and, true_and, b1]
            simp only [c3] at q
            exact q
          · simp only [fI_sI, Nat.reduceEqDiff, if_false]
          · simp only [gI_sI, and_self, if_true, Nat.reduceEqDiff, and_false, if_false]
            rw [h15, x15, Int32.add_assoc]
          · simp only [gI_sI, and_self, if_true]
            rw [h16, x16, Int32.add_assoc]
        · rw [if_neg c2, Int32.add_zero] at x15 x16
          have c3 : ¬ gI s 8 i - 1 = 0 := by rw [one_less c1]; exact c2
          refine ⟨sI w 8 i (gI s 8 i - 1), ?_, ?_, fp_IA hf (by decide), g8 _ rfl, ?_, ?_⟩
          · simp only [lp_Works_bake_33, e1, e2, e3, w8, c1, if_false, gI_sI, and_self, if_true, c3]
          · intro q
            simp only [okl_Works_bake_33, e1, e2, e3, w8, c1, if_false, gI_sI, and_self, if_true, c3, true_and, b1]
            exact q
          · simp only [gI_sI, Nat.reduceEqDiff, false_and, if_false]
            rw [h15, x15]
          · simp only [gI_sI, Nat.reduceEqDiff, false_and, if_false]
            rw [h16, x16])
    (fun n w hp => by
      have e1 : (6 : Int32) ≤ Int32.ofNat 6 := by decide
      constructor
      · simp only [lp_Works_bake_33, e1, if_true]
      · simp only [okl_Works_bake_33, e1, if_true])
  obtain ⟨s', A1, A2, A3, A4, A5, A6⟩ := A
  exact ⟨s', A1, A2, A3, fun b hb => by rw [A4 b hb, if_pos hb], A5, A6⟩
theorem G_bake {s : mS} {gas : Int32} (hg : f_Works_gasLater 0 s = gas) (ho : ok_Works_gasLater 0 s) : ok_Works_bake s ∧ fp aw_Works_bake fw_Works_bake false s (f_Works_bake s) ∧ gI (f_Works_bake s) 3 12 = fl_lev (gI s 3 12) (gI s 3 11) gas ∧ gL (f_Works_bake s) 3 13 = gL s 3 13 + gas.toInt64 ∧ gL (f_Works_bake s) 3 14 = fl_off (gL s 3 14) (gI s 3 12) (gI s 3 11) gas ∧ gI (f_Works_bake s) 3 10 = 0 ∧ (∀ b, b < 6 → gI (f_Works_bake s) 8 b = if gI s 8 b ≤ 0 then gI s 8 b else gI s 8 b - 1) ∧ gI (f_Works_bake s) 3 15 = gI s 3 15 + smI (fun b => if gI s 8 b = 1 then gI s 10 b else 0) 6 ∧ gI (f_Works_bake s) 3 16 = gI s 3 16 + smI (fun b => if gI s 8 b = 1 then gI s 11 b else 0) 6 := by
  have fr := fr_Works_bake s
  have fl := fr_Works_letOff (sI (sL s 3 13 (gL s 3 13 + Int32.toInt64 gas)) 3 12 (gI s 3 12 + gas))
  have lv : gI (f_Works_letOff (sI (sL s 3 13 (gL s 3 13 + Int32.toInt64 gas)) 3 12 (gI s 3 12 + gas))) 3 12 = fl_lev (gI s 3 12) (gI s 3 11) gas ∧ gL (f_Works_letOff (sI (sL s 3 13 (gL s 3 13 + Int32.toInt64 gas)) 3 12 (gI s 3 12 + gas))) 3 14 = fl_off (gL s 3 14) (gI s 3 12) (gI s 3 11) gas := by
    unfold f_Works_letOff fl_lev fl_off
    simp only [gI_sI, gI_sL, and_self, if_true, Nat.reduceEqDiff, and_false, if_false]
    by_cases c : gI s 3 12 + gas ≤ gI s 3 11
    · simp only [c, if_true]
      constructor
      · simp only [gI_sI, and_self, if_true]
      · simp only [gL_sI, gL_sL, Nat.reduceEqDiff, and_false, if_false]
    · simp only [c, if_false]
      constructor
      · simp only [gI_sI, and_self, if_true]
      · simp only [gL_sI, gL_sL, and_self, if_true, Nat.reduceEqDiff, and_false, if_false]
  obtain ⟨w, B1, B2, B3, B4, B5, B6⟩ := G_bake33 (f_Works_letOff (sI (sL s 3 13 (gL s 3 13 + Int32.toInt64 gas)) 3 12 (gI s 3 12 + gas)))
  have e : f_Works_bake s = sI w 3 10 0 := by
    unfold f_Works_bake
    simp only [mq_let_e, hg, B1]
  have o : ok_Works_bake s := by
    unfold ok_Works_bake
    simp only [mq_letP_e, hg]
    exact ⟨ho, trivial, B2, trivial⟩
  have l8 : gI (f_Works_letOff (sI (sL s 3 13 (gL s 3 13 + Int32.toInt64 gas)) 3 12 (gI s 3 12 + gas))) 8 = gI s 8 := (fpA fl (by decide)).1
  have l10 : gI (f_Works_letOff (sI (sL s 3 13 (gL s 3 13 + Int32.toInt64 gas)) 3 12 (gI s 3 12 + gas))) 10 = gI s 10 := (fpA fl (by decide)).1
  have l11 : gI (f_Works_letOff (sI (sL s 3 13 (gL s 3 13 + Int32.toInt64 gas)) 3 12 (gI s 3 12 + gas))) 11 = gI s 11 := (fpA fl (by decide)).1
  have l15 : gI (f_Works_letOff (sI (sL s 3 13 (gL s 3 13 + Int32.toInt64 gas)) 3 12 (gI s 3 12 + gas))) 3 15 = gI s 3 15 := by
    rw [(fpF fl (by decide)).1]
    simp only [gI_sI, gI_sL, Nat.reduceEqDiff, and_false, if_false]
  have l16 : gI (f_Works_letOff (sI (sL s 3 13 (gL s 3 13 + Int32.toInt64 gas)) 3 12 (gI s 3 12 + gas))) 3 16 = gI s 3 16 := by
    rw [(fpF fl (by decide)).1]
    simp only [gI_sI, gI_sL, Nat.reduceEqDiff, and_false, if_false]
  have l13 : gL (f_Works_letOff (sI (sL s 3 13 (gL s 3 13 + Int32.toInt64 gas)) 3 12 (gI s 3 12 + gas))) 3 13 = gL s 3 13 + gas.toInt64 := by
    rw [(fpF fl (by decide)).2]
    simp only [gL_sI, gL_sL, and_self, if_true]
  rw [l8] at B4
  rw [l8, l10, l15] at B5
  rw [l8, l11, l16] at B6
  refine ⟨o, fr, ?_⟩
  rw [e]
  simp only [gI_sI, gL_sI, and_self, if_true, Nat.reduceEqDiff, and_false, false_and, if_false, B5, B6]
  refine ⟨?_, ?_, ?_, trivial, B4, trivial⟩
  · rw [(fpF B3 (by decide)).1]
    exact lv.1
  · rw [(fpF B3 (by decide)).2, l13]
  · rw [(fpF B3 (by decide)).2]
    exact lv.2
theorem G_used {s : mS} {T : Nat} (hT : T ≤ 40) (h0 : ∀ t, T ≤ t → t < 40 → gI s 24 t = 0) : f_Things_usedInAll s = smI (gI s 24) T ∧ ok_Things_usedInAll s := by
  have A := lp_sum (L := lp_Things_usedInAll_4 s) (OK := okl_Things_usedInAll_4 s) 40 (by omega) (gI s 24)
    (fun n i acc hi => by
      have e1 : ¬ (40 : Int32) ≤ Int32.ofNat i := fl_lit (a := 40) rfl (by omega) (by omega) hi
      have e2 : ix (Int32.ofNat i) = i := ix_ofNat (by omega)
      have e3 : Int32.ofNat i + 1 = Int32.ofNat (i + 1) := ofNat_succ i
      have b1 : mm_inb (Int32.ofNat i) 40 = true := inb_ofNat (by decide) (by omega)
      constructor
      · simp only [lp_Things_usedInAll_4, e1, e2, e3, if_false]
      · intro q
        simp only [okl_Things_usedInAll_4, e1, e2, e3, if_false, b1, true_and]
        exact q)
    (fun n acc => by
      have e1 : (40 : Int32) ≤ Int32.ofNat 40 := by decide
      constructor
      · simp only [lp_Things_usedInAll_4, e1, if_true]
      · simp only [okl_Things_usedInAll_4, e1, if_true])
  constructor
  · unfold f_Things_usedInAll
    simp only [mq_let_e, A.1]
    exact smI_0 hT h0
  · unfold ok_Things_usedInAll
    exact ⟨A.2, trivial⟩
theorem G_nothing (s : mS) : f_Things_takeNothing s = sA s 24 (fillA 40 (fun _ => 0) (gI s 24)) ∧ ok_Things_takeNothing s := by
  have A := lp_map (L := lp_Things_takeNothing_2) (OK := okl_Things_takeNothing_2) 24 40 (by omega) s (fun _ => 0)
    (fun n i g hi => by
      have e1 : ¬ (40 : Int32) ≤ Int32.ofNat i := fl_lit (a := 40) rfl (by omega) (by omega) hi
      have e2 : ix (Int32.ofNat i) = i := ix_ofNat (by omega)
      have e3 : Int32.ofNat i + 1 = Int32.ofNat (i + 1) := ofNat_succ i
      have b1 : mm_inb (Int32.ofNat i) 40 = true := inb_ofNat (by decide) (by omega)
      constructor
      · simp only [lp_Things_takeNothing_2, e1, e2, e3, if_false, sI_sA]
      · intro q
        simp only [okl_Things_takeNothing_2, e1, e2, e3, if_false, sI_sA, b1, true_and]
        exact q)
    (fun n g => by
      have e1 : (40 : Int32) ≤ Int32.ofNat 40 := by decide
      constructor
      · simp only [lp_Things_takeNothing_2, e1, if_true]
      · simp only [okl_Things_takeNothing_2, e1, if_true])
  constructor
  · unfold f_Things_takeNothing
    simp only [mq_let_e, A.1]
  · unfold ok_Things_takeNothing
    exact ⟨A.2, trivial⟩
/-- what is kept of a thing -/
theorem G_keeps {s : mS} {T : Nat} (hT : gI s 12 12 = Int32.ofNat T) (hT2 : T ≤ 40) : ok_Things_keep s ∧ fp aw_Things_keep fw_Things_keep false s (f_Things_keep s) ∧ (∀ t, gI (f_Things_keep s) 21 t = if t < T then gI s 24 t else gI s 21 t) ∧ (∀ t, gI (f_Things_keep s) 22 t = if t < T then gI s 22 t + gI s 24 t else gI s 22 t) ∧ (∀ t, gI (f_Things_keep s) 20 t = if t < T ∧ gI s 14 t = 0 ∧ gI s 18 t = 0 then gI s 20 t + gI s 24 t else gI s 20 t) ∧ (∀ t, gI (f_Things_keep s) 19 t = if t < T ∧ gI s 14 t = 2 then gI s 19 t - gI s 24 t else gI s 19 t) := by
  have fr := fr_Things_keep s
  have A := lp_up0 (L := lp_Things_keep_2) (OK := okl_Things_keep_2) (fun i w => fp [19, 20, 21, 22] [] false s w ∧ (∀ t, gI w 21 t = if t < i then gI s 24 t else gI s 21 t) ∧ (∀ t, gI w 22 t = if t < i then gI s 22 t + gI s 24 t else gI s 22 t) ∧ (∀ t, gI w 20 t = if t < i ∧ gI s 14 t = 0 ∧ gI s 18 t = 0 then gI s 20 t + gI s 24 t else gI s 20 t) ∧ (∀ t, gI w 19 t = if t < i ∧ gI s 14 t = 2 then gI s 19 t - gI s 24 t else gI s 19 t)) T (by omega) s
    ⟨fp_r, fun t => rfl, fun t => rfl, fun t => by rw [if_neg (by omega)], fun t => by rw [if_neg (by omega)]⟩
    (fun n i w hi hp => by
      obtain ⟨hf, h21, h22, h20, h19⟩ := hp
      have w12 : gI w 12 12 = Int32.ofNat T := by rw [(fpF hf (by decide)).1, hT]
      have w14 : gI w 14 = gI s 14 := (fpA hf (by decide)).1
      have w18 : gI w 18 = gI s 18 := (fpA hf (by decide)).1
      have w24 : gI w 24 = gI s 24 := (fpA hf (by decide)).1
      have e0 := fl_lit w12 (by omega) (by omega) hi
      have e1 : ¬ (40 : Int32) ≤ Int32.ofNat i := fl_lit (a := 40) rfl (by omega) (by omega) (by omega)
      have e2 : ix (Int32.ofNat i) = i := ix_ofNat (by omega)
      have e3 : Int32.ofNat i + 1 = Int32.ofNat (i + 1) := ofNat_succ i
      have b1 : mm_inb (Int32.ofNat i) 40 = true := inb_ofNat (by decide) (by omega)
      have v22 : gI w 22 i = gI s 22 i := by rw [h22 i, if_neg (by omega)]
      have v20 : gI w 20 i = gI s 20 i := by rw [h20 i, if_neg (by omega)]
      have v19 : gI w 19 i = gI s 19 i := by rw [h19 i, if_neg (by omega)]
      generalize hy : (if gI s 14 i = 0 then (if gI s 18 i = 0 then sI (sI (sI w 21 i (gI s 24 i)) 22 i (gI s 22 i + gI s 24 i)) 20 i (gI s 20 i + gI s 24 i) else sI (sI w 21 i (gI s 24 i)) 22 i (gI s 22 i + gI s 24 i)) else sI (sI w 21 i (gI s 24 i)) 22 i (gI s 22 i + gI s 24 i)) = y
      have base : ∀ y : mS, y = sI (sI w 21 i (gI s 24 i)) 22 i (gI s 22 i + gI s 24 i) → fp [19, 20, 21, 22] [] false s y ∧ (∀ t, gI y 21 t = if t < i + 1 then gI s 24 t else gI s 21 t) ∧ (∀ t, gI y 22 t = if t < i + 1 then gI s 22 t + gI s 24 t else gI s 22 t) ∧ gI y 20 = gI w 20 ∧ gI y 19 = gI w 19 := fun y hy => by
        subst hy
        refine ⟨fp_IA (fp_IA hf (by decide)) (by decide), fun t => ?_, fun t => ?_, rfl, rfl⟩
        · simp only [gI_sI, Nat.reduceEqDiff, false_and, if_false, true_and]
          by_cases e : t = i
          · rw [if_pos e, if_pos (by omega), e]
          · rw [if_neg e, h21 t]
            by_cases l : t < i
            · rw [if_pos l, if_pos (by omega)]
            · rw [if_neg l, if_neg (by omega)]
        · simp only [gI_sI, true_and]
          by_cases e : t = i
          · rw [if_pos e, if_pos (by omega), e]
          · rw [if_neg e, if_neg (fun q => absurd q.1 (by decide)), h22 t]
            by_cases l : t < i
            · rw [if_pos l, if_pos (by omega)]
            · rw [if_neg l, if_neg (by omega)]
      have Y : fp [19, 20, 21, 22] [] false s y ∧ (∀ t, gI y 21 t = if t < i + 1 then gI s 24 t else gI s 21 t) ∧ (∀ t, gI y 22 t = if t < i + 1 then gI s 22 t + gI s 24 t else gI s 22 t) ∧ (∀ t, gI y 20 t = if t < i + 1 ∧ gI s 14 t = 0 ∧ gI s 18 t = 0 then gI s 20 t + gI s 24 t else gI s 20 t) ∧ gI y 19 = gI w 19 := by
        obtain ⟨k1, k2, k3, k4, k5⟩ := base _ rfl
        have old : ¬ (gI s 14 i = 0 ∧ gI s 18 i = 0) → ∀ t, gI w 20 t = if t < i + 1 ∧ gI s 14 t = 0 ∧ gI s 18 t = 0 then gI s 20 t + gI s 24 t else gI s 20 t := fun no t => by
          rw [h20 t]
          by_cases e : t = i
          · subst e
            rw [if_neg (fun q => no q.2), if_neg (fun q => no q.2)]
          · by_cases l : t < i ∧ gI s 14 t = 0 ∧ gI s 18 t = 0
            · rw [if_pos l, if_pos ⟨by omega, l.2⟩]
            · rw [if_neg l, if_neg (fun q => l ⟨by omega, q.2⟩)]
        rw [← hy]
        by_cases c1 : gI s 14 i = 0
        · rw [if_pos c1]
          by_cases c2 : gI s 18 i = 0
          · rw [if_pos c2]
            refine ⟨fp_IA k1 (by decide), fun t => by rw [← k2 t]; rfl, fun t => by rw [← k3 t]; rfl, fun t => ?_, by rw [← k5]; rfl⟩
            rw [gI_sI]
            by_cases e : t = i
            · subst e
              rw [if_pos ⟨rfl, rfl⟩, if_pos ⟨by omega, c1, c2⟩]
            · rw [if_neg (fun q => e q.2), k4, h20 t]
              by_cases l : t < i ∧ gI s 14 t = 0 ∧ gI s 18 t = 0
              · rw [if_pos l, if_pos ⟨by omega, l.2⟩]
              · rw [if_neg l, if_neg (fun q => l ⟨by omega, q.2⟩)]
          · rw [if_neg c2]
            exact ⟨k1, k2, k3, fun t => by rw [k4]; exact old (fun q => c2 q.2) t, k5⟩
        · rw [if_neg c1]
          exact ⟨k1, k2, k3, fun t => by rw [k4]; exact old (fun q => c1 q.1) t, k5⟩
      obtain ⟨y1, y2, y3, y4, y5⟩ := Y
      have y14 : gI y 14 = gI s 14 := (fpA y1 (by decide)).1
      have y24 : gI y 24 = gI s 24 := (fpA y1 (by decide)).1
      have yi : gI y 19 i = gI s 19 i := by rw [y5, v19]
      by_cases c : gI s 14 i = 2
      · refine ⟨sI y 19 i (gI s 19 i - gI s 24 i), ?_, ?_, fp_IA y1 (by decide), fun t => by rw [← y2 t]; rfl, fun t => by rw [← y3 t]; rfl, fun t => by rw [← y4 t]; rfl, fun t => ?_⟩
        · simp only [lp_Things_keep_2, mq_let_e, e0, e1, e2, e3, if_false, w14, w18, w24, v22, v20, gI_sI, Nat.reduceEqDiff, false_and, hy, y14, yi, y24]
          rw [if_pos c]
        · intro q
          simp only [okl_Things_keep_2, mq_letP_e, e0, e1, e2, e3, if_false, w14, w18, w24, v22, v20, gI_sI, Nat.reduceEqDiff, false_and, hy, y14, yi, y24, b1, true_and, and_true, ite_self]
          rw [if_pos c]
          exact q
        · rw [gI_sI]
          by_cases e : t = i
          · subst e
            rw [if_pos ⟨rfl, rfl⟩, if_pos ⟨by omega, c⟩]
          · rw [if_neg (fun q => e q.2), y5, h19 t]
            by_cases l : t < i ∧ gI s 14 t = 2
            · rw [if_pos l, if_pos ⟨by omega, l.2⟩]
            · rw [if_neg l, if_neg (fun q => l ⟨by omega, q.2⟩)]
      · refine ⟨y, ?_, ?_, y1, y2, y3, y4, fun t => ?_⟩
        · simp only [lp_Things_keep_2, mq_let_e, e0, e1, e2, e3, if_false, w14, w18, w24, v22, v20, gI_sI, Nat.reduceEqDiff, false_and, hy, y14]
          rw [if_neg c]
        · intro q
          simp only [okl_Things_keep_2, mq_letP_e, e0, e1, e2, e3, if_false, w14, w18, w24, v22, v20, gI_sI, Nat.reduceEqDiff, false_and, hy, y14, b1, true_and, and_true, ite_self]
          rw [if_neg c]
          exact q
        · rw [y5, h19 t]
          by_cases e : t = i
          · subst e
            rw [if_neg (fun q => c q.2), if_neg (fun q => c q.2)]
          · by_cases l : t < i ∧ gI s 14 t = 2
            · rw [if_pos l, if_pos ⟨by omega, l.2⟩]
            · rw [if_neg l, if_neg (fun q => l ⟨by omega, q.2⟩)])
    (fun n w hp => by
      have e0 := fl_lit' (((fpF hp.1 (by decide : fpd [19, 20, 21, 22] [] false (12, 12) = true)).1).trans hT)
      constructor
      · simp only [lp_Things_keep_2, e0, if_true]
      · simp only [okl_Things_keep_2, e0, if_true])
  obtain ⟨w, A1, A2, A3, A4, A5, A6, A7⟩ := A
  have e : f_Things_keep s = w := by
    unfold f_Things_keep
    simp only [mq_let_e, A1]
  refine ⟨?_, fr, ?_⟩
  · unfold ok_Things_keep
    exact ⟨A2, trivial⟩
  · rw [e]
    exact ⟨A4, A5, A6, A7⟩
