/-! A STEP, the model: fails, ends, all of it. -/
theorem M_fails {u : mS} {N T : Nat} {a2 : Int32} {F : Nat → Int32} (hN : gI u 116 7 = Int32.ofNat N) (hN1 : 1 ≤ N) (hN2 : N ≤ 16) (hT : gI u 116 8 = Int32.ofNat T) (hT2 : T ≤ 40) (hF0 : F 0 = 0) (hF : ∀ i, 1 ≤ i → F i = if aw_at (gI u 132) (gI u 133) (gI u 142) (Int32.ofNat i) T = true then (if gI u 116 91 = 0 then 0 else if a2 ≤ gI u 149 i then 0 else 1) else 0) : lp_M_step_302 a2 mm_N 1 u = (Int32.ofNat N, sI u 116 46 (gI u 116 46 + smI F N)) ∧ okl_M_step_302 a2 mm_N 1 u := by
  have h0 : smI F 1 = 0 := by
    show 0 + F 0 = 0
    rw [hF0, Int32.add_zero]
  have A := lp_upN (L := lp_M_step_302 a2) (OK := okl_M_step_302 a2) (fun i w => w = sI u 116 46 (gI u 116 46 + smI F i) ∧ 1 ≤ i) N (by omega)
    (fun n i w hi hp => by
      obtain ⟨rfl, h1⟩ := hp
      have e0 := fl_lit hN (by omega) (by omega) hi
      have e2 : ix (Int32.ofNat i) = i := ix_ofNat (by omega)
      have e3 : Int32.ofNat i + 1 = Int32.ofNat (i + 1) := ofNat_succ i
      have b1 : mm_inb (Int32.ofNat i) 16 = true := inb_ofNat (by decide) (by omega)
      have an := M_any (u := sI u 116 46 (gI u 116 46 + smI F i)) (T := T) (by rw [gI_sI, if_neg (by decide), hT]) hT2 a2 (Int32.ofNat i)
      simp only [fI_sI, Nat.reduceEqDiff, if_false] at an
      have st : smI F (i + 1) = smI F i + F i := rfl
      have fv := hF i h1
      have n1 : ¬ (1 : Int32) = 0 := by decide
      refine ⟨sI u 116 46 (gI u 116 46 + smI F (i + 1)), ?_, ?_, rfl, by omega⟩
      · rw [st, ← Int32.add_assoc, fv]
        simp only [lp_M_step_302, mq_let_e, gI_sI, Nat.reduceEqDiff, and_false, false_and, and_self, if_false, if_true, e0, e2, e3, an.1, sI_sI]
        by_cases c : aw_at (gI u 132) (gI u 133) (gI u 142) (Int32.ofNat i) T = true
        · simp only [c, if_true, n1, if_false]
        · simp only [c, if_false, if_true]
          rfl
      · intro q
        rw [st, ← Int32.add_assoc, fv] at q
        simp only [okl_M_step_302, mq_letP_e, gI_sI, Nat.reduceEqDiff, and_false, false_and, and_self, if_false, if_true, e0, e2, e3, an.1, an.2, sI_sI, b1, true_and, and_true, ite_self]
        by_cases c : aw_at (gI u 132) (gI u 133) (gI u 142) (Int32.ofNat i) T = true
        · simp only [c, if_true, n1, if_false] at q ⊢
          exact q
        · simp only [c, if_false, if_true] at q ⊢
          exact q)
    (fun n w hp => by
      obtain ⟨rfl, h1⟩ := hp
      have e0 := fl_lit' hN
      constructor
      · simp only [lp_M_step_302, gI_sI, Nat.reduceEqDiff, and_false, if_false, e0, if_true]
      · simp only [okl_M_step_302, gI_sI, Nat.reduceEqDiff, and_false, if_false, e0, if_true])
    1 u hN1 ⟨by rw [h0, Int32.add_zero, sI_id], by omega⟩
  obtain ⟨w, A1, A2, A3, _⟩ := A
  subst A3
  exact ⟨A1, A2⟩
theorem M_endsA {u : mS} {B : Nat} (hB : gI u 116 4 = Int32.ofNat B) (hB6 : B ≤ 6) : ok_M_ends u ∧ fp aw_M_ends fw_M_ends false u (f_M_ends u) ∧ (∀ b, gI (f_M_ends u) 126 b = if b < B ∧ ¬ gI u 126 b = -1 then (if 16 ≤ gI u 126 b + 1 then -1 else gI u 126 b + 1) else gI u 126 b) ∧ gL (f_M_ends u) 116 42 = gL u 116 42 + smL (fun b => if ¬ gI u 126 b = -1 ∧ 16 ≤ gI u 126 b + 1 then (gI u 124 b).toInt64 else 0) B ∧ gL (f_M_ends u) 116 43 = gL u 116 43 + smL (fun b => if ¬ gI u 126 b = -1 ∧ 16 ≤ gI u 126 b + 1 then (gI u 125 b).toInt64 else 0) B := by
  have fr := fr_M_ends u
  have A := lp_up0 (L := lp_M_ends_2) (OK := okl_M_ends_2) (fun i w => fp [126] [(116, 42), (116, 43)] false u w ∧ (∀ b, gI w 126 b = if b < i ∧ ¬ gI u 126 b = -1 then (if 16 ≤ gI u 126 b + 1 then -1 else gI u 126 b + 1) else gI u 126 b) ∧ gL w 116 42 = gL u 116 42 + smL (fun b => if ¬ gI u 126 b = -1 ∧ 16 ≤ gI u 126 b + 1 then (gI u 124 b).toInt64 else 0) i ∧ gL w 116 43 = gL u 116 43 + smL (fun b => if ¬ gI u 126 b = -1 ∧ 16 ≤ gI u 126 b + 1 then (gI u 125 b).toInt64 else 0) i) B (by omega) u
    ⟨fp_r, fun b => by rw [if_neg (by omega)], (Int64.add_zero _).symm, (Int64.add_zero _).symm⟩
    (fun n i w hi hp => by
      obtain ⟨hf, h126, h42, h43⟩ := hp
      have w4 : gI w 116 4 = Int32.ofNat B := by rw [(fpF hf (by decide)).1, hB]
      have w124 : gI w 124 = gI u 124 := (fpA hf (by decide)).1
      have w125 : gI w 125 = gI u 125 := (fpA hf (by decide)).1
      have e0 := fl_lit w4 (by omega) (by omega) hi
      have e2 : ix (Int32.ofNat i) = i := ix_ofNat (by omega)
      have e3 : Int32.ofNat i + 1 = Int32.ofNat (i + 1) := ofNat_succ i
      have b1 : mm_inb (Int32.ofNat i) 6 = true := inb_ofNat (by decide) (by omega)
      have v : gI w 126 i = gI u 126 i := by rw [h126 i, if_neg (by omega)]
      have k : ∀ t : Nat, ¬ t = i → ((t < i + 1) = (t < i)) := fun t h => propext ⟨fun q => by omega, fun q => by omega⟩
      have x42 : smL (fun b => if ¬ gI u 126 b = -1 ∧ 16 ≤ gI u 126 b + 1 then (gI u 124 b).toInt64 else 0) (i + 1) = smL (fun b => if ¬ gI u 126 b = -1 ∧ 16 ≤ gI u 126 b + 1 then (gI u 124 b).toInt64 else 0) i + (if ¬ gI u 126 i = -1 ∧ 16 ≤ gI u 126 i + 1 then (gI u 124 i).toInt64 else 0) := rfl
      have x43 : smL (fun b => if ¬ gI u 126 b = -1 ∧ 16 ≤ gI u 126 b + 1 then (gI u 125 b).toInt64 else 0) (i + 1) = smL (fun b => if ¬ gI u 126 b = -1 ∧ 16 ≤ gI u 126 b + 1 then (gI u 125 b).toInt64 else 0) i + (if ¬ gI u 126 i = -1 ∧ 16 ≤ gI u 126 i + 1 then (gI u 125 i).toInt64 else 0) := rfl
      by_cases c1 : gI u 126 i = -1
      · rw [if_neg (fun q => q.1 c1), Int64.add_zero] at x42 x43
        refine ⟨w, ?_, ?_, hf, fun b => ?_, by rw [x42, h42], by rw [x43, h43]⟩
        · simp only [lp_M_ends_2, e0, e2, e3, v, c1, if_false, if_true]
        · intro q
          simp only [okl_M_ends_2, e0, e2, e3, v, c1, if_false, if_true, b1, true_and]
          exact q
        · rw [h126 b]
          by_cases e : b = i
          · subst e
            rw [if_neg (fun q => q.2 c1), if_neg (fun q => q.2 c1)]
          · simp only [k b e]
      · by_cases c2 : 16 ≤ gI u 126 i + 1
        · rw [if_pos ⟨c1, c2⟩] at x42 x43
          refine ⟨sL (sL (sI w 126 i (-1)) 116 42 (gL w 116 42 + Int32.toInt64 (gI u 124 i))) 116 43 (gL w 116 43 + Int32.toInt64 (gI u 125 i)), ?_, ?_, fp_LF (fp_LF (fp_IA hf (by decide)) (by decide)) (by decide), fun b => ?_, ?_, ?_⟩
          · simp only [lp_M_ends_2, e0, e2, e3, v, c1, c2, gI_sI, and_self, if_false, if_true, sI_sI, gL_sI, gL_sL, gI_sL, Nat.reduceEqDiff, and_false, false_and, w124, w125]
          · intro q
            simp only [okl_M_ends_2, e0, e2, e3, v, c1, c2, gI_sI, and_self, if_false, if_true, sI_sI, gL_sI, gL_sL, gI_sL, Nat.reduceEqDiff, and_false, false_and, w124, w125, b1, true_and]
            exact q
          · simp only [gI_sI, gI_sL, true_and]
            by_cases e : b = i
            · subst e
              rw [if_pos rfl, if_pos (show b < b + 1 ∧ ¬ gI u 126 b = -1 from ⟨by omega, c1⟩), if_pos c2]
            · simp only [k b e]
              rw [if_neg e, h126 b]
          · simp only [gL_sI, gL_sL, Nat.reduceEqDiff, and_false, and_self, if_false, if_true]
            rw [h42, x42, Int64.add_assoc]
          · simp only [gL_sI, gL_sL, Nat.reduceEqDiff, and_false, and_self, if_false, if_true]
            rw [h43, x43, Int64.add_assoc]
        · rw [if_neg (fun q => c2 q.2), Int64.add_zero] at x42 x43
          refine ⟨sI w 126 i (gI u 126 i + 1), ?_, ?_, fp_IA hf (by decide), fun b => ?_, by rw [x42]; exact h42, by rw [x43]; exact h43⟩
          · simp only [lp_M_ends_2, e0, e2, e3, v, c1, c2, gI_sI, and_self, if_false, if_true]
          · intro q
            simp only [okl_M_ends_2, e0, e2, e3, v, c1, c2, gI_sI, and_self, if_false, if_true, b1, true_and]
            exact q
          · simp only [gI_sI, true_and]
            by_cases e : b = i
            · subst e
              rw [if_pos rfl, if_pos (show b < b + 1 ∧ ¬ gI u 126 b = -1 from ⟨by omega, c1⟩), if_neg c2]
            · simp only [k b e]
              rw [if_neg e, h126 b])
    (fun n w hp => by
      have e0 := fl_lit' (((fpF hp.1 (by decide : fpd [126] [(116, 42), (116, 43)] false (116, 4) = true)).1).trans hB)
      constructor
      · simp only [lp_M_ends_2, e0, if_true]
      · simp only [okl_M_ends_2, e0, if_true])
  obtain ⟨w, A1, A2, A3, A4, A5, A6⟩ := A
  have e : f_M_ends u = w := by
    unfold f_M_ends
    simp only [mq_let_e, A1]
  refine ⟨⟨A2, trivial⟩, fr, ?_⟩
  rw [e]
  exact ⟨A4, A5, A6⟩
