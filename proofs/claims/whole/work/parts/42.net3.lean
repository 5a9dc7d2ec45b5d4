/-! THE NET: the class's flows, sweeps and settling, by program for both rows of resistances. -/
def NG (s : mS) (N T : Nat) : Prop := gI s 25 10 = Int32.ofNat N ∧ 1 ≤ N ∧ N ≤ 16 ∧ gI s 12 12 = Int32.ofNat T ∧ T ≤ 40 ∧ nt_ndOK N T (gI s 13) ∧ nt_paOK N (gI s 26)
theorem NG_sA {s : mS} {N T c : Nat} {f : Nat → Int32} (hc : c ≠ 25 ∧ c ≠ 12 ∧ c ≠ 13 ∧ c ≠ 26) (h : NG s N T) : NG (sA s c f) N T := by
  unfold NG at h ⊢
  simp only [gI_sA, fI_sA, if_neg (Ne.symm hc.1), if_neg (Ne.symm hc.2.1), if_neg (Ne.symm hc.2.2.1), if_neg (Ne.symm hc.2.2.2)]
  exact h
theorem lit_le {a i : Nat} {x : Int32} (h : x = Int32.ofNat a) (ha : a < 90000) (hi : i < 90000) (hlt : i < a) : ¬ x ≤ Int32.ofNat i := fl_lit h ha hi hlt
theorem has_gen {a : Int32} {s : mS} {N i : Nat} (hN : gI s 25 10 = Int32.ofNat N) (h16 : N ≤ 16) (ha : a = Int32.ofNat i) (h : ¬ i < N) (hi : i < 90000) : f_Net_has a s = 0 := by
  rw [z_has, hN]
  rintro ⟨h0, h1, h2⟩
  rw [ha, ofNat_lt (by omega) (by omega)] at h1
  omega
theorem has_sA (a : Int32) (s : mS) (c : Nat) (f : Nat → Int32) (hc : c ≠ 25) : f_Net_has a (sA s c f) = f_Net_has a s := by
  unfold f_Net_has
  simp only [gI_sA, if_neg (Ne.symm hc)]
theorem pipe_ne {a : Int32} {s : mS} {N : Nat} (hN : gI s 25 10 = Int32.ofNat N) (h16 : N ≤ 16) (h0 : 0 < a) (h : ix a < N) : ¬ f_Net_hasPipe a s = 0 := by
  have h1 : 0 ≤ a := Int32.le_of_lt h0
  rw [z_pipe, hN]
  intro h2
  exact h2 ⟨h0, lt_of_ix (by omega) h1 h, lt_of_ix (n := 16) (by omega) h1 (by omega)⟩
theorem G_flows {s : mS} {N T : Nat} (h : NG s N T) : ∃ g, f_Net_gatherFlow s = sA s 31 g ∧ ok_Net_gatherFlow s ∧ ∀ j, j < N → g j = nt_flow N T (gI s 26) (gI s 13) (gI s 24) j := by
  have h' := h
  obtain ⟨hN, hN1, hN2, hT, hT2, hnd, hpa⟩ := h
  have A := lp_map (L := lp_Net_gatherFlow_2) (OK := okl_Net_gatherFlow_2) 31 16 (by omega) s (fun _ => 0)
    (fun n i g hi => by
      have e1 : ¬ (16 : Int32) ≤ Int32.ofNat i := fl_lit (a := 16) rfl (by omega) (by omega) hi
      have e2 : ix (Int32.ofNat i) = i := ix_ofNat (by omega)
      have e3 : Int32.ofNat i + 1 = Int32.ofNat (i + 1) := ofNat_succ i
      have e4 : mm_inb (Int32.ofNat i) 16 = true := inb_ofNat (by decide) (by omega)
      constructor
      · simp only [lp_Net_gatherFlow_2, e1, if_false, e2, e3, sI_sA]
      · intro h
        simp only [okl_Net_gatherFlow_2, e1, if_false, e2, e3, e4, sI_sA, true_and]
        exact h)
    (fun n g => by
      have e1 : (16 : Int32) ≤ Int32.ofNat 16 := by decide
      constructor
      · simp only [lp_Net_gatherFlow_2, e1, if_true]
      · simp only [okl_Net_gatherFlow_2, e1, if_true])
  have B := lp_up0 (L := lp_Net_gatherFlow_23) (OK := okl_Net_gatherFlow_23) (fun i s' => s' = sA s 31 (nt_in (gI s 13) (gI s 24) (fillA 16 (fun _ => 0) (gI s 31)) i)) T (by omega) (sA s 31 (fillA 16 (fun _ => 0) (gI s 31))) rfl
    (fun n i s' hi hp => by
      subst hp
      have e1 := fl_lit hT (by omega) (by omega) hi
      have e1' : ¬ (40 : Int32) ≤ Int32.ofNat i := fl_lit (a := 40) rfl (by omega) (by omega) (by omega)
      have e2 : ix (Int32.ofNat i) = i := ix_ofNat (by omega)
      have e3 : Int32.ofNat i + 1 = Int32.ofNat (i + 1) := ofNat_succ i
      have e4 : mm_inb (Int32.ofNat i) 40 = true := inb_ofNat (by decide) (by omega)
      have e5 : mm_inb (gI s 13 i) 16 = true := inb_ix (hnd i hi).1 (by have := (hnd i hi).2; omega)
      have e6 : ∀ f, (f_Net_has (gI s 13 i) (sA s 31 f) = 0) = False := fun f => eq_false (by
        rw [has_sA _ _ _ _ (by decide)]
        exact has_ne hN hN2 (hnd i hi).1 (hnd i hi).2)
      refine ⟨sA s 31 (nt_in (gI s 13) (gI s 24) (fillA 16 (fun _ => 0) (gI s 31)) (i + 1)), ?_, ?_, rfl⟩
      · simp only [lp_Net_gatherFlow_23, mq_let_e, gI_sA, Nat.reduceEqDiff, reduceIte, e1, e1', e2, e3, e6, sI_sA, nt_in]
      · intro h
        simp only [okl_Net_gatherFlow_23, mq_letP_e, gI_sA, Nat.reduceEqDiff, reduceIte, e1, e1', e2, e3, e4, e5, e6, sI_sA, true_and]
        simp only [nt_in] at h
        exact h)
    (fun n s' hp => by
      subst hp
      have e1 := fl_lit' hT
      constructor
      · simp only [lp_Net_gatherFlow_23, gI_sA, Nat.reduceEqDiff, reduceIte, e1]
      · simp only [okl_Net_gatherFlow_23, gI_sA, Nat.reduceEqDiff, reduceIte, e1])
  obtain ⟨s1, B1, B2, B3⟩ := B
  have C := lp_dn (L := lp_Net_gatherFlow_76) (OK := okl_Net_gatherFlow_76) (fun k s' => ∃ f, s' = sA s 31 f ∧ k < 16 ∧ nt_up (gI s 26) (N - 1) (nt_in (gI s 13) (gI s 24) (fillA 16 (fun _ => 0) (gI s 31)) T) = nt_up (gI s 26) (min k (N - 1)) f)
    (fun n i s' hp hi => by
      obtain ⟨f, rfl, hk, hf⟩ := hp
      have e1 := ofNat_pos hi
      have e2 : ix (Int32.ofNat (i + 1)) = i + 1 := ix_ofNat (by omega)
      have e3 := ofNat_pred i hi
      have e4 : mm_inb (Int32.ofNat (i + 1)) 16 = true := inb_ofNat (by decide) (by omega)
      by_cases hc : i + 1 < N
      · have hq := hpa (i + 1) (by omega) hc
        have e5 : mm_inb (gI s 26 (i + 1)) 16 = true := inb_ix hq.1 (by omega)
        have e6 : ∀ f, (f_Net_has (Int32.ofNat (i + 1)) (sA s 31 f) = 0) = False := fun f => eq_false (by
          rw [has_sA _ _ _ _ (by decide)]
          exact has_ne hN hN2 (by rw [show (0 : Int32) = Int32.ofNat 0 from rfl, ofNat_le (by omega) (by omega)]; omega) (by rw [e2]; exact hc))
        have e7 : ∀ f, (f_Net_has (gI s 26 (i + 1)) (sA s 31 f) = 0) = False := fun f => eq_false (by
          rw [has_sA _ _ _ _ (by decide)]
          exact has_ne hN hN2 hq.1 (by omega))
        refine ⟨sA s 31 (up f (ix (gI s 26 (i + 1))) (f (ix (gI s 26 (i + 1))) + f (i + 1))), ?_, ?_, _, rfl, by omega, ?_⟩
        · simp only [lp_Net_gatherFlow_76, mq_let_e, gI_sA, Nat.reduceEqDiff, reduceIte, e1, e2, e3, e6, e7, sI_sA]
        · intro h
          simp only [okl_Net_gatherFlow_76, mq_letP_e, gI_sA, Nat.reduceEqDiff, reduceIte, e1, e2, e3, e4, e5, e6, e7, sI_sA, true_and]
          exact h
        · rw [show min (i + 1) (N - 1) = i + 1 by omega] at hf
          rw [show min i (N - 1) = i by omega]
          exact hf
      · have e6 : ∀ f, (f_Net_has (Int32.ofNat (i + 1)) (sA s 31 f) = 0) = True := fun f => eq_true (by
          rw [has_sA _ _ _ _ (by decide)]
          exact has_gen hN hN2 rfl hc (by omega))
        refine ⟨sA s 31 f, ?_, ?_, _, rfl, by omega, ?_⟩
        · simp only [lp_Net_gatherFlow_76, mq_let_e, if_true, if_false, e1, e3, e6]
        · intro h
          simp only [okl_Net_gatherFlow_76, mq_letP_e, if_true, if_false, e1, e3, e4, e6, true_and]
          exact h
        · rw [show min (i + 1) (N - 1) = N - 1 by omega] at hf
          rw [show min i (N - 1) = N - 1 by omega]
          exact hf)
    (fun n s' hp => by
      have e1 : (0 : Int32) ≤ 0 := by decide
      constructor
      · simp only [lp_Net_gatherFlow_76, e1, if_true]
      · simp only [okl_Net_gatherFlow_76, e1, if_true])
    15 mm_N s1 (by rw [mm_Ns]; omega) (by omega) ⟨_, B3, by omega, by rw [show min 15 (N - 1) = N - 1 by omega]⟩
  obtain ⟨s2, C1, C2, f, C3, -, C4⟩ := C
  have C1 : lp_Net_gatherFlow_76 mm_N 15 s1 = _ := C1
  have C2 : okl_Net_gatherFlow_76 mm_N 15 s1 := C2
  refine ⟨f, ?_, ?_, ?_⟩
  · unfold f_Net_gatherFlow
    simp only [mq_let_e, A.1, B1, C1, C3]
  · unfold ok_Net_gatherFlow
    simp only [mq_letP_e, A.1, A.2, B1, B2, C2, true_and, and_true]
  · intro j hj
    have := nt_flow_c (f := fillA 16 (fun _ => 0) (gI s 31)) (take := gI s 24) (take' := gI s 24) hN1 (fun j hj => fillA_lt (by omega)) hnd hpa (fun _ _ => rfl) j hj
    rw [← this, C4]
    rw [show min 0 (N - 1) = 0 by omega]
    rfl
/-- the class's state in its sweeps: takings, pressures, flows -/
def ng3 (s : mS) (a b c : Nat → Int32) : mS := sA (sA (sA s 24 a) 30 b) 31 c
theorem ng3_24 (s : mS) (a b c g : Nat → Int32) : sA (ng3 s a b c) 24 g = ng3 s g b c := by
  unfold ng3
  rw [sA_comm _ 31 24 _ _ (by decide), sA_comm _ 30 24 _ _ (by decide), sA_sA]
theorem ng3_30 (s : mS) (a b c g : Nat → Int32) : sA (ng3 s a b c) 30 g = ng3 s a g c := by
  unfold ng3
  rw [sA_comm _ 31 30 _ _ (by decide), sA_sA]
theorem ng3_31 (s : mS) (a b c g : Nat → Int32) : sA (ng3 s a b c) 31 g = ng3 s a b g := by
  unfold ng3
  rw [sA_sA]
theorem ng3_g (s : mS) (a b c : Nat → Int32) (k : Nat) : gI (ng3 s a b c) k = if k = 31 then c else if k = 30 then b else if k = 24 then a else gI s k := by
  unfold ng3
  simp only [fI_sA]
theorem NG_ng3 {s : mS} {N T : Nat} {a b c : Nat → Int32} (h : NG s N T) : NG (ng3 s a b c) N T := NG_sA (by decide) (NG_sA (by decide) (NG_sA (by decide) h))
theorem ng3_id (s : mS) : ng3 s (gI s 24) (gI s 30) (gI s 31) = s := by
  unfold ng3
  rw [sA_id]
  rw [sA_id, sA_id]
theorem pb_eq {s : mS} {N : Nat} {fl rs PR : Nat → Int32} {i : Nat} {x : Int32} (hN : gI s 25 10 = Int32.ofNat N) (hN2 : N ≤ 16) (h1 : 1 ≤ i) (hi : i < N) (hp : 0 ≤ gI s 26 i ∧ ix (gI s 26 i) < i) (hx : x = (rs i * fl i) / 100) (hb : gI s 30 (ix (gI s 26 i)) = PR (ix (gI s 26 i))) :
    f_Net_pressureBehind (Int32.ofNat i) x s = nt_pv (gI s 26) (gI s 29) (gI s 28) rs fl PR i ∧ ok_Net_pressureBehind (Int32.ofNat i) x s := by
  have e2 : ix (Int32.ofNat i) = i := ix_ofNat (by omega)
  have e4 : mm_inb (Int32.ofNat i) 16 = true := inb_ofNat (by decide) (by omega)
  have e5 : mm_inb (gI s 26 i) 16 = true := inb_ix hp.1 (by omega)
  have e6 : ¬ f_Net_hasPipe (Int32.ofNat i) s = 0 := pipe_ne hN hN2 (by rw [show (0 : Int32) = Int32.ofNat 0 from rfl, ofNat_lt (by omega) (by omega)]; omega) (by rw [e2]; exact hi)
  have e7 : ¬ f_Net_has (gI s 26 i) s = 0 := has_ne hN hN2 hp.1 (by omega)
  constructor
  · unfold f_Net_pressureBehind nt_pv
    simp only [mq_let_e, e6, if_false, e2, e7, hb, hx]
    split
    · split
      · rfl
      · split
        · rw [if_pos (by grind)]
        · split
          · grind
          · rfl
    · rfl
  · unfold ok_Net_pressureBehind
    simp only [mq_letP_e, e6, if_false, e2, e4, e5, e7, true_and, and_true, ite_self]
theorem G_takes_pr {s : mS} {N T : Nat} (h : NG s N T) : lp_Things_takeBy_30_2 mm_N 0 s = (Int32.ofNat T, sA s 24 (fillA T (nt_tk (gI s 13) (gI s 14) (gI s 23) (gI s 30)) (gI s 24))) ∧ okl_Things_takeBy_30_2 mm_N 0 s := by
  obtain ⟨hN, hN1, hN2, hT, hT2, hnd, hpa⟩ := h
  exact lp_map (L := lp_Things_takeBy_30_2) (OK := okl_Things_takeBy_30_2) 24 T (by omega) s (nt_tk (gI s 13) (gI s 14) (gI s 23) (gI s 30))
    (fun n i g hi => by
      have e1 := fl_lit hT (by omega) (by omega) hi
      have e1' : ¬ (40 : Int32) ≤ Int32.ofNat i := fl_lit (a := 40) rfl (by omega) (by omega) (by omega)
      have e2 : ix (Int32.ofNat i) = i := ix_ofNat (by omega)
      have e3 : Int32.ofNat i + 1 = Int32.ofNat (i + 1) := ofNat_succ i
      have e4 : mm_inb (Int32.ofNat i) 40 = true := inb_ofNat (by decide) (by omega)
      have hq := hnd i hi
      have e5 : mm_inb (gI s 13 i) 16 = true := inb_ix hq.1 (by omega)
      have e6 : ¬ gI s 13 i < 0 := by
        have := hq.1
        grind
      have e7 : ¬ (16 : Int32) ≤ gI s 13 i := by
        have := lt_of_ix (n := 16) (by omega) hq.1 (by omega)
        have : gI s 13 i < 16 := this
        grind
      have e8 : (if (if gI s 14 i = 3 then (0 : Int32) else if gI s 30 (ix (gI s 13 i)) < 20 then 0 else 1) = 0 then (gI s 23 i * gI s 30 (ix (gI s 13 i))) / 20 else gI s 23 i) = nt_tk (gI s 13) (gI s 14) (gI s 23) (gI s 30) i := by
        unfold nt_tk
        by_cases c1 : gI s 14 i = 3
        · simp only [if_pos c1, if_true]
        · by_cases c2 : gI s 30 (ix (gI s 13 i)) < 20
          · have c3 : ¬ (20 : Int32) ≤ gI s 30 (ix (gI s 13 i)) := by grind
            simp only [if_neg c1, if_pos c2, if_true, if_neg c3]
          · have c3 : (20 : Int32) ≤ gI s 30 (ix (gI s 13 i)) := by grind
            simp only [if_neg c1, if_neg c2, if_pos c3, show ¬ (1 : Int32) = 0 by decide, if_false]
      constructor
      · simp only [lp_Things_takeBy_30_2, mq_let_e, gI_sA, Nat.reduceEqDiff, reduceIte, e1, e1', e2, e3, e6, e7, e8, sI_sA]
      · intro h
        simp only [okl_Things_takeBy_30_2, mq_letP_e, gI_sA, Nat.reduceEqDiff, reduceIte, e1, e1', e2, e3, e4, e5, e6, e7, e8, sI_sA, true_and, and_true, ite_self]
        exact h)
    (fun n g => by
      have e1 := fl_lit' hT
      constructor
      · simp only [lp_Things_takeBy_30_2, gI_sA, Nat.reduceEqDiff, reduceIte, e1]
      · simp only [okl_Things_takeBy_30_2, gI_sA, Nat.reduceEqDiff, reduceIte, e1])
theorem G_takeWants (s : mS) : lp_Things_takeWants_2 mm_N 0 s = (Int32.ofNat 40, sA s 24 (fillA 40 (gI s 23) (gI s 24))) ∧ okl_Things_takeWants_2 mm_N 0 s :=
  lp_map (L := lp_Things_takeWants_2) (OK := okl_Things_takeWants_2) 24 40 (by omega) s (gI s 23)
    (fun n i g hi => by
      have e1' : ¬ (40 : Int32) ≤ Int32.ofNat i := fl_lit (a := 40) rfl (by omega) (by omega) (by omega)
      have e2 : ix (Int32.ofNat i) = i := ix_ofNat (by omega)
      have e3 : Int32.ofNat i + 1 = Int32.ofNat (i + 1) := ofNat_succ i
      have e4 : mm_inb (Int32.ofNat i) 40 = true := inb_ofNat (by decide) (by omega)
      constructor
      · simp only [lp_Things_takeWants_2, gI_sA, Nat.reduceEqDiff, reduceIte, e1', e2, e3, sI_sA]
      · intro h
        simp only [okl_Things_takeWants_2, gI_sA, Nat.reduceEqDiff, reduceIte, e1', e2, e3, e4, sI_sA, true_and]
        exact h)
    (fun n g => by
      have e1 : (40 : Int32) ≤ Int32.ofNat 40 := by decide
      constructor
      · simp only [lp_Things_takeWants_2, e1, if_true]
      · simp only [okl_Things_takeWants_2, e1, if_true])
theorem b01 {p : Prop} [Decidable p] : ((if p then 1 else 0 : Int32) = 0) = ¬ p := by
  by_cases h : p <;> simp [h]
theorem b01' {p : Prop} [Decidable p] : mm_bit (if p then 1 else 0 : Int32) = true := by
  by_cases h : p <;> simp [h, bit0, bit1]
theorem G_press_27 {s : mS} {N T : Nat} (h : NG s N T) : f_Net_press_27 s = (if ∀ j, j < N → gI s 30 j = nt_PR (gI s 26) (gI s 29) (gI s 28) (gI s 27) (gI s 31) (gI s 25 11) j then 1 else 0, sA s 30 (fillA N (nt_PR (gI s 26) (gI s 29) (gI s 28) (gI s 27) (gI s 31) (gI s 25 11)) (gI s 30))) ∧ ok_Net_press_27 s := by
  obtain ⟨hN, hN1, hN2, hT, hT2, hnd, hpa⟩ := h
  have A := lp_upN (L := fun n v (p : Int32 × mS) => ((lp_Net_press_27_31 n p.1 v p.2).2.1, ((lp_Net_press_27_31 n p.1 v p.2).1, (lp_Net_press_27_31 n p.1 v p.2).2.2))) (OK := fun n v p => okl_Net_press_27_31 n p.1 v p.2) (fun i p => 1 ≤ i ∧ p = ((if ∀ j, j < i → gI s 30 j = nt_PR (gI s 26) (gI s 29) (gI s 28) (gI s 27) (gI s 31) (gI s 25 11) j then 1 else 0 : Int32), sA s 30 (fillA i (nt_PR (gI s 26) (gI s 29) (gI s 28) (gI s 27) (gI s 31) (gI s 25 11)) (gI s 30)))) N (by omega)
    (fun n i p hi hp => by
      obtain ⟨h1, rfl⟩ := hp
      have e1 := fl_lit hN (by omega) (by omega) hi
      have e1' : ¬ (16 : Int32) ≤ Int32.ofNat i := fl_lit (a := 16) rfl (by omega) (by omega) (by omega)
      have e2 : ix (Int32.ofNat i) = i := ix_ofNat (by omega)
      have e3 : Int32.ofNat i + 1 = Int32.ofNat (i + 1) := ofNat_succ i
      have e4 : mm_inb (Int32.ofNat i) 16 = true := inb_ofNat (by decide) (by omega)
      have hq := hpa i h1 hi
      have e5 := pb_eq (s := sA s 30 (fillA i (nt_PR (gI s 26) (gI s 29) (gI s 28) (gI s 27) (gI s 31) (gI s 25 11)) (gI s 30))) (fl := gI s 31) (rs := gI s 27) (PR := nt_PR (gI s 26) (gI s 29) (gI s 28) (gI s 27) (gI s 31) (gI s 25 11)) hN hN2 h1 hi hq rfl (by
        simp only [fI_sA, gI_sA, Nat.reduceEqDiff, reduceIte]
        exact fillA_lt hq.2)
      simp only [fI_sA, gI_sA, Nat.reduceEqDiff, reduceIte] at e5
      rw [← nt_PR_s h1 hq.2] at e5
      have e6 : fillA i (nt_PR (gI s 26) (gI s 29) (gI s 28) (gI s 27) (gI s 31) (gI s 25 11)) (gI s 30) i = gI s 30 i := fillA_ge (Nat.le_refl _)
      have e7 := up_fill i (nt_PR (gI s 26) (gI s 29) (gI s 28) (gI s 27) (gI s 31) (gI s 25 11)) (gI s 30)
      have e8 : (if (if ∀ j, j < i → gI s 30 j = nt_PR (gI s 26) (gI s 29) (gI s 28) (gI s 27) (gI s 31) (gI s 25 11) j then 1 else 0 : Int32) = 0 then (0 : Int32) else (if gI s 30 i = nt_PR (gI s 26) (gI s 29) (gI s 28) (gI s 27) (gI s 31) (gI s 25 11) i then 1 else 0)) = if ∀ j, j < i + 1 → gI s 30 j = nt_PR (gI s 26) (gI s 29) (gI s 28) (gI s 27) (gI s 31) (gI s 25 11) j then 1 else 0 := by
        by_cases h1 : ∀ j, j < i → gI s 30 j = nt_PR (gI s 26) (gI s 29) (gI s 28) (gI s 27) (gI s 31) (gI s 25 11) j
        · rw [if_pos h1, if_neg (by decide)]
          by_cases h2 : gI s 30 i = nt_PR (gI s 26) (gI s 29) (gI s 28) (gI s 27) (gI s 31) (gI s 25 11) i
          · rw [if_pos h2, if_pos fun j hj => by
              by_cases h3 : j = i
              · rw [h3]; exact h2
              · exact h1 j (by omega)]
          · rw [if_neg h2, if_neg (fun h4 => h2 (h4 i (by omega)))]
        · rw [if_neg h1, if_pos rfl, if_neg (fun h4 => h1 fun j hj => h4 j (by omega))]
      refine ⟨(_, sA s 30 (fillA (i + 1) (nt_PR (gI s 26) (gI s 29) (gI s 28) (gI s 27) (gI s 31) (gI s 25 11)) (gI s 30))), ?_, ?_, by omega, rfl⟩
      · simp only [lp_Net_press_27_31, mq_let_e, gI_sA, Nat.reduceEqDiff, reduceIte, e1, e1', e2, e3, e5.1, e6, e7, e8, sI_sA]
      · intro h
        simp only [okl_Net_press_27_31, mq_letP_e, gI_sA, Nat.reduceEqDiff, reduceIte, e1, e1', e2, e3, e4, e5.1, e5.2, e6, e7, e8, sI_sA, true_and, and_true, ite_self]
        exact h)
    (fun n p hp => by
      obtain ⟨h1, rfl⟩ := hp
      have e1 := fl_lit' hN
      constructor
      · simp only [lp_Net_press_27_31, gI_sA, Nat.reduceEqDiff, reduceIte, e1]
      · simp only [okl_Net_press_27_31, gI_sA, Nat.reduceEqDiff, reduceIte, e1]) 1 ((if gI s 30 0 = gI s 25 11 then (1 : Int32) else (0 : Int32)), sI s 30 0 (gI s 25 11)) hN1 ⟨Nat.le_refl _, by
        apply Prod.ext
        · have : (gI s 30 0 = gI s 25 11) ↔ (∀ j, j < 1 → gI s 30 j = nt_PR (gI s 26) (gI s 29) (gI s 28) (gI s 27) (gI s 31) (gI s 25 11) j) := by
            constructor
            · intro h j hj
              have : j = 0 := by omega
              subst this
              exact h
            · intro h
              exact h 0 (by omega)
          simp only [this]
        · show sI s 30 0 (gI s 25 11) = _
          rw [sI_up]
          congr 1
          funext j
          unfold up fillA
          by_cases hj : j = 0
          · subst hj
            rfl
          · rw [if_neg hj, if_neg (by omega)]⟩
  obtain ⟨p, A1, A2, -, A3⟩ := A
  subst A3
  have h4 := congrArg Prod.fst A1
  have h5 := congrArg Prod.snd A1
  have h6 := congrArg Prod.fst h5
  have h7 := congrArg Prod.snd h5
  have A0 : lp_Net_press_27_31 mm_N (if gI s 30 0 = gI s 25 11 then (1 : Int32) else (0 : Int32)) 1 (sI s 30 0 (gI s 25 11)) = (_, _, _) := Prod.ext h6 (Prod.ext h4 h7)
  have A2 : okl_Net_press_27_31 mm_N (if gI s 30 0 = gI s 25 11 then (1 : Int32) else (0 : Int32)) 1 (sI s 30 0 (gI s 25 11)) := A2
  constructor
  · unfold f_Net_press_27
    simp only [mq_let_e, A0]
  · unfold ok_Net_press_27
    simp only [mq_letP_e, A0, A2, b01', true_and]
theorem G_settle_lp_27 {s : mS} {N T : Nat} (h : NG s N T) : ∀ r k n (a b c tk pr : Nat → Int32), k + r = 12 → r + 1 < n → (∀ t, t < T → a t = tk t) → (0 < k → ∀ j, j < N → b j = pr j) →
    ∃ v a' b' c', lp_Net_settle_27_9 n 0 (Int32.ofNat k) (ng3 s a b c) = (if (nt_swp N T (gI s 26) (gI s 29) (gI s 28) (gI s 27) (gI s 13) (gI s 14) (gI s 23) (gI s 25 11) r k tk pr).1 = true then 1 else 0, v, ng3 s a' b' c') ∧ okl_Net_settle_27_9 n 0 (Int32.ofNat k) (ng3 s a b c) ∧ (∀ t, t < T → a' t = (nt_swp N T (gI s 26) (gI s 29) (gI s 28) (gI s 27) (gI s 13) (gI s 14) (gI s 23) (gI s 25 11) r k tk pr).2.1 t) ∧ (∀ t, T ≤ t → a' t = a t) ∧ (∀ j, j < N → b' j = (nt_swp N T (gI s 26) (gI s 29) (gI s 28) (gI s 27) (gI s 13) (gI s 14) (gI s 23) (gI s 25 11) r k tk pr).2.2 j) := by
  intro r
  induction r with
  | zero =>
    intro k n a b c tk pr hk hn ht hp
    have : k = 12 := by omega
    subst this
    match n, hn with
    | n + 1, _ =>
      have e : (12 : Int32) ≤ Int32.ofNat 12 := by decide
      refine ⟨Int32.ofNat 12, a, b, c, ?_, ?_, ht, fun _ _ => rfl, fun j hj => hp (by omega) j hj⟩
      · simp only [lp_Net_settle_27_9, e, if_true, nt_swp, Bool.false_eq_true, if_false]
      · simp only [okl_Net_settle_27_9, e, if_true]
  | succ r ih =>
    intro k n a b c tk pr hk hn ht hp
    match n, hn with
    | n + 2, hn =>
      have e1 : ¬ (12 : Int32) ≤ Int32.ofNat k := fl_lit (a := 12) rfl (by omega) (by omega) (by omega)
      have e2 : (Int32.ofNat k ≤ 0) ↔ ¬ 0 < k := by
        rw [show (0 : Int32) = Int32.ofNat 0 from rfl, ofNat_le (by omega) (by omega)]
        omega
      obtain ⟨g, A1, A2, A3⟩ := G_flows (NG_ng3 (a := a) (b := b) (c := c) h)
      rw [ng3_31] at A1
      simp only [ng3_g, Nat.reduceEqDiff, reduceIte] at A3
      have B := G_press_27 (NG_ng3 (a := a) (b := b) (c := g) h)
      rw [ng3_30] at B
      simp only [ng3_g, Nat.reduceEqDiff, reduceIte] at B
      have F : ∀ j, j < N → nt_PR (gI s 26) (gI s 29) (gI s 28) (gI s 27) g (gI s 25 11) j = nt_PR (gI s 26) (gI s 29) (gI s 28) (gI s 27) (nt_flow N T (gI s 26) (gI s 13) tk) (gI s 25 11) j := nt_PR_c h.2.2.2.2.2.2 (fun j hj => by
        rw [A3 j hj]
        exact nt_flow_t h.2.1 h.2.2.2.2.2.1 h.2.2.2.2.2.2 ht j hj)
      have C := G_takes_pr (NG_ng3 (a := a) (b := fillA N (nt_PR (gI s 26) (gI s 29) (gI s 28) (gI s 27) g (gI s 25 11)) b) (c := g) h)
      rw [ng3_24] at C
      simp only [ng3_g, Nat.reduceEqDiff, reduceIte] at C
      have C3 : f_Things_takeBy_30 (ng3 s a (fillA N (nt_PR (gI s 26) (gI s 29) (gI s 28) (gI s 27) g (gI s 25 11)) b) g) = ng3 s (fillA T (nt_tk (gI s 13) (gI s 14) (gI s 23) (fillA N (nt_PR (gI s 26) (gI s 29) (gI s 28) (gI s 27) g (gI s 25 11)) b)) a) (fillA N (nt_PR (gI s 26) (gI s 29) (gI s 28) (gI s 27) g (gI s 25 11)) b) g := by
        unfold f_Things_takeBy_30
        simp only [mq_let_e, C.1]
      have C4 : ok_Things_takeBy_30 (ng3 s a (fillA N (nt_PR (gI s 26) (gI s 29) (gI s 28) (gI s 27) g (gI s 25 11)) b) g) := by
        unfold ok_Things_takeBy_30
        exact ⟨C.2, trivial⟩
      have hcond : (0 < k ∧ ∀ j, j < N → b j = nt_PR (gI s 26) (gI s 29) (gI s 28) (gI s 27) g (gI s 25 11) j) ↔ (0 < k ∧ ∀ j, j < N → nt_PR (gI s 26) (gI s 29) (gI s 28) (gI s 27) (nt_flow N T (gI s 26) (gI s 13) tk) (gI s 25 11) j = pr j) :=
        ⟨fun q => ⟨q.1, fun j hj => by rw [← F j hj, ← q.2 j hj, hp q.1 j hj]⟩, fun q => ⟨q.1, fun j hj => by rw [F j hj, q.2 j hj, hp q.1 j hj]⟩⟩
      have hflag : (if Int32.ofNat k ≤ 0 then (0 : Int32) else (if (if ∀ j, j < N → b j = nt_PR (gI s 26) (gI s 29) (gI s 28) (gI s 27) g (gI s 25 11) j then (1 : Int32) else 0) = 0 then (0 : Int32) else (1 : Int32))) = if (0 < k ∧ ∀ j, j < N → nt_PR (gI s 26) (gI s 29) (gI s 28) (gI s 27) (nt_flow N T (gI s 26) (gI s 13) tk) (gI s 25 11) j = pr j) then 1 else 0 := by
        by_cases q0 : 0 < k
        · rw [if_neg (fun h => (e2.mp h) q0)]
          by_cases q1 : ∀ j, j < N → b j = nt_PR (gI s 26) (gI s 29) (gI s 28) (gI s 27) g (gI s 25 11) j
          · rw [if_pos q1, if_neg (by decide), if_pos (hcond.mp ⟨q0, q1⟩)]
          · rw [if_neg q1, if_pos rfl, if_neg (fun h => q1 (hcond.mpr h).2)]
        · rw [if_pos (e2.mpr q0), if_neg (fun h => q0 h.1)]
      have Gt : ∀ t, t < T → fillA T (nt_tk (gI s 13) (gI s 14) (gI s 23) (fillA N (nt_PR (gI s 26) (gI s 29) (gI s 28) (gI s 27) g (gI s 25 11)) b)) a t = nt_tk (gI s 13) (gI s 14) (gI s 23) (nt_PR (gI s 26) (gI s 29) (gI s 28) (gI s 27) (nt_flow N T (gI s 26) (gI s 13) tk) (gI s 25 11)) t := fun t ht' => by
        rw [fillA_lt ht']
        exact nt_tk_c h.2.2.2.2.2.1 (fun j hj => by rw [fillA_lt hj, F j hj]) t ht'
      have Gp : ∀ j, j < N → fillA N (nt_PR (gI s 26) (gI s 29) (gI s 28) (gI s 27) g (gI s 25 11)) b j = nt_PR (gI s 26) (gI s 29) (gI s 28) (gI s 27) (nt_flow N T (gI s 26) (gI s 13) tk) (gI s 25 11) j := fun j hj => by rw [fillA_lt hj, F j hj]
      by_cases hc : 0 < k ∧ ∀ j, j < N → nt_PR (gI s 26) (gI s 29) (gI s 28) (gI s 27) (nt_flow N T (gI s 26) (gI s 13) tk) (gI s 25 11) j = pr j
      · rw [if_pos hc] at hflag
        have e5 : ¬ (1 : Int32) = 0 := by decide
        refine ⟨Int32.ofNat (k + 1), fillA T (nt_tk (gI s 13) (gI s 14) (gI s 23) (fillA N (nt_PR (gI s 26) (gI s 29) (gI s 28) (gI s 27) g (gI s 25 11)) b)) a, fillA N (nt_PR (gI s 26) (gI s 29) (gI s 28) (gI s 27) g (gI s 25 11)) b, g, ?_, ?_, ?_, ?_, ?_⟩
        · simp only [lp_Net_settle_27_9, mq_let_e, e1, if_false, if_true, A1, B.1, hflag, C3, nt_swp, if_pos hc, e5, ite_self, ofNat_succ]
        · simp only [okl_Net_settle_27_9, mq_letP_e, e1, if_false, if_true, A1, A2, B.1, B.2, hflag, C3, C4, true_and, e5, ite_self]
        · simp only [nt_swp, if_pos hc]
          exact Gt
        · exact fun t ht' => fillA_ge ht'
        · simp only [nt_swp, if_pos hc]
          exact Gp
      · rw [if_neg hc] at hflag
        obtain ⟨v, a2, b2, c2, I1, I2, I3, I4, I5⟩ := ih (k + 1) (n + 1) (fillA T (nt_tk (gI s 13) (gI s 14) (gI s 23) (fillA N (nt_PR (gI s 26) (gI s 29) (gI s 28) (gI s 27) g (gI s 25 11)) b)) a) (fillA N (nt_PR (gI s 26) (gI s 29) (gI s 28) (gI s 27) g (gI s 25 11)) b) g (nt_tk (gI s 13) (gI s 14) (gI s 23) (nt_PR (gI s 26) (gI s 29) (gI s 28) (gI s 27) (nt_flow N T (gI s 26) (gI s 13) tk) (gI s 25 11))) (nt_PR (gI s 26) (gI s 29) (gI s 28) (gI s 27) (nt_flow N T (gI s 26) (gI s 13) tk) (gI s 25 11)) (by omega) (by omega) Gt (fun _ => Gp)
        refine ⟨v, a2, b2, c2, ?_, ?_, ?_, ?_, ?_⟩
        · rw [lp_Net_settle_27_9]
          simp only [mq_let_e, e1, if_false, if_true, A1, B.1, hflag, C3, nt_swp, if_neg hc, ofNat_succ]
          exact I1
        · rw [okl_Net_settle_27_9]
          simp only [mq_letP_e, e1, if_false, if_true, A1, A2, B.1, B.2, hflag, C3, C4, true_and, ofNat_succ]
          exact I2
        · simp only [nt_swp, if_neg hc]
          exact I3
        · exact fun t ht' => (I4 t ht').trans (fillA_ge ht')
        · simp only [nt_swp, if_neg hc]
          exact I5
theorem G_settle_27 {s : mS} {N T : Nat} (h : NG s N T) : ∃ a b c, f_Net_settle_27 s = (if (nt_settle N T (gI s 26) (gI s 29) (gI s 28) (gI s 27) (gI s 13) (gI s 14) (gI s 23) (gI s 25 11)).1 = true then 1 else 0, ng3 s a b c) ∧ ok_Net_settle_27 s ∧ (∀ t, t < T → a t = (nt_settle N T (gI s 26) (gI s 29) (gI s 28) (gI s 27) (gI s 13) (gI s 14) (gI s 23) (gI s 25 11)).2.1 t) ∧ (∀ t, T ≤ t → t < 40 → a t = gI s 23 t) ∧ (∀ j, j < N → b j = (nt_settle N T (gI s 26) (gI s 29) (gI s 28) (gI s 27) (gI s 13) (gI s 14) (gI s 23) (gI s 25 11)).2.2 j) := by
  have A := G_takeWants s
  have E : sA s 24 (fillA 40 (gI s 23) (gI s 24)) = ng3 s (fillA 40 (gI s 23) (gI s 24)) (gI s 30) (gI s 31) := by
    have := congrArg (fun q => sA q 24 (fillA 40 (gI s 23) (gI s 24))) (ng3_id s)
    simp only [ng3_24] at this
    exact this.symm
  obtain ⟨v, a, b, c, B1, B2, B3, B4, B5⟩ := G_settle_lp_27 h 12 0 mm_N (fillA 40 (gI s 23) (gI s 24)) (gI s 30) (gI s 31) (gI s 23) (fun _ => 0) rfl (by rw [mm_Ns]; omega) (fun t ht => fillA_lt (by have := h.2.2.2.2.1; omega)) (fun h => absurd h (by decide))
  have B1 : lp_Net_settle_27_9 mm_N 0 0 _ = _ := B1
  have B2 : okl_Net_settle_27_9 mm_N 0 0 _ := B2
  refine ⟨a, b, c, ?_, ?_, B3, ?_, B5⟩
  · unfold f_Net_settle_27 f_Things_takeWants
    simp only [mq_let_e, A.1, E, B1]
    rfl
  · unfold ok_Net_settle_27 ok_Things_takeWants f_Things_takeWants
    simp only [mq_let_e, mq_letP_e, A.1, A.2, E, B1, B2, b01', true_and, and_true]
  · intro t h1 h2
    rw [B4 t h1, fillA_lt h2]
theorem G_press_115 {s : mS} {N T : Nat} (h : NG s N T) : f_Net_press_115 s = (if ∀ j, j < N → gI s 30 j = nt_PR (gI s 26) (gI s 29) (gI s 28) (gI s 115) (gI s 31) (gI s 25 11) j then 1 else 0, sA s 30 (fillA N (nt_PR (gI s 26) (gI s 29) (gI s 28) (gI s 115) (gI s 31) (gI s 25 11)) (gI s 30))) ∧ ok_Net_press_115 s := by
  obtain ⟨hN, hN1, hN2, hT, hT2, hnd, hpa⟩ := h
  have A := lp_upN (L := fun n v (p : Int32 × mS) => ((lp_Net_press_115_31 n p.1 v p.2).2.1, ((lp_Net_press_115_31 n p.1 v p.2).1, (lp_Net_press_115_31 n p.1 v p.2).2.2))) (OK := fun n v p => okl_Net_press_115_31 n p.1 v p.2) (fun i p => 1 ≤ i ∧ p = ((if ∀ j, j < i → gI s 30 j = nt_PR (gI s 26) (gI s 29) (gI s 28) (gI s 115) (gI s 31) (gI s 25 11) j then 1 else 0 : Int32), sA s 30 (fillA i (nt_PR (gI s 26) (gI s 29) (gI s 28) (gI s 115) (gI s 31) (gI s 25 11)) (gI s 30)))) N (by omega)
    (fun n i p hi hp => by
      obtain ⟨h1, rfl⟩ := hp
      have e1 := fl_lit hN (by omega) (by omega) hi
      have e1' : ¬ (16 : Int32) ≤ Int32.ofNat i := fl_lit (a := 16) rfl (by omega) (by omega) (by omega)
      have e2 : ix (Int32.ofNat i) = i := ix_ofNat (by omega)
      have e3 : Int32.ofNat i + 1 = Int32.ofNat (i + 1) := ofNat_succ i
      have e4 : mm_inb (Int32.ofNat i) 16 = true := inb_ofNat (by decide) (by omega)
      have hq := hpa i h1 hi
      have e5 := pb_eq (s := sA s 30 (fillA i (nt_PR (gI s 26) (gI s 29) (gI s 28) (gI s 115) (gI s 31) (gI s 25 11)) (gI s 30))) (fl := gI s 31) (rs := gI s 115) (PR := nt_PR (gI s 26) (gI s 29) (gI s 28) (gI s 115) (gI s 31) (gI s 25 11)) hN hN2 h1 hi hq rfl (by
        simp only [fI_sA, gI_sA, Nat.reduceEqDiff, reduceIte]
        exact fillA_lt hq.2)
      simp only [fI_sA, gI_sA, Nat.reduceEqDiff, reduceIte] at e5
      rw [← nt_PR_s h1 hq.2] at e5
      have e6 : fillA i (nt_PR (gI s 26) (gI s 29) (gI s 28) (gI s 115) (gI s 31) (gI s 25 11)) (gI s 30) i = gI s 30 i := fillA_ge (Nat.le_refl _)
      have e7 := up_fill i (nt_PR (gI s 26) (gI s 29) (gI s 28) (gI s 115) (gI s 31) (gI s 25 11)) (gI s 30)
      have e8 : (if (if ∀ j, j < i → gI s 30 j = nt_PR (gI s 26) (gI s 29) (gI s 28) (gI s 115) (gI s 31) (gI s 25 11) j then 1 else 0 : Int32) = 0 then (0 : Int32) else (if gI s 30 i = nt_PR (gI s 26) (gI s 29) (gI s 28) (gI s 115) (gI s 31) (gI s 25 11) i then 1 else 0)) = if ∀ j, j < i + 1 → gI s 30 j = nt_PR (gI s 26) (gI s 29) (gI s 28) (gI s 115) (gI s 31) (gI s 25 11) j then 1 else 0 := by
        by_cases h1 : ∀ j, j < i → gI s 30 j = nt_PR (gI s 26) (gI s 29) (gI s 28) (gI s 115) (gI s 31) (gI s 25 11) j
        · rw [if_pos h1, if_neg (by decide)]
          by_cases h2 : gI s 30 i = nt_PR (gI s 26) (gI s 29) (gI s 28) (gI s 115) (gI s 31) (gI s 25 11) i
          · rw [if_pos h2, if_pos fun j hj => by
              by_cases h3 : j = i
              · rw [h3]; exact h2
              · exact h1 j (by omega)]
          · rw [if_neg h2, if_neg (fun h4 => h2 (h4 i (by omega)))]
        · rw [if_neg h1, if_pos rfl, if_neg (fun h4 => h1 fun j hj => h4 j (by omega))]
      refine ⟨(_, sA s 30 (fillA (i + 1) (nt_PR (gI s 26) (gI s 29) (gI s 28) (gI s 115) (gI s 31) (gI s 25 11)) (gI s 30))), ?_, ?_, by omega, rfl⟩
      · simp only [lp_Net_press_115_31, mq_let_e, gI_sA, Nat.reduceEqDiff, reduceIte, e1, e1', e2, e3, e5.1, e6, e7, e8, sI_sA]
      · intro h
        simp only [okl_Net_press_115_31, mq_letP_e, gI_sA, Nat.reduceEqDiff, reduceIte, e1, e1', e2, e3, e4, e5.1, e5.2, e6, e7, e8, sI_sA, true_and, and_true, ite_self]
        exact h)
    (fun n p hp => by
      obtain ⟨h1, rfl⟩ := hp
      have e1 := fl_lit' hN
      constructor
      · simp only [lp_Net_press_115_31, gI_sA, Nat.reduceEqDiff, reduceIte, e1]
      · simp only [okl_Net_press_115_31, gI_sA, Nat.reduceEqDiff, reduceIte, e1]) 1 ((if gI s 30 0 = gI s 25 11 then (1 : Int32) else (0 : Int32)), sI s 30 0 (gI s 25 11)) hN1 ⟨Nat.le_refl _, by
        apply Prod.ext
        · have : (gI s 30 0 = gI s 25 11) ↔ (∀ j, j < 1 → gI s 30 j = nt_PR (gI s 26) (gI s 29) (gI s 28) (gI s 115) (gI s 31) (gI s 25 11) j) := by
            constructor
            · intro h j hj
              have : j = 0 := by omega
              subst this
              exact h
            · intro h
              exact h 0 (by omega)
          simp only [this]
        · show sI s 30 0 (gI s 25 11) = _
          rw [sI_up]
          congr 1
          funext j
          unfold up fillA
          by_cases hj : j = 0
          · subst hj
            rfl
          · rw [if_neg hj, if_neg (by omega)]⟩
  obtain ⟨p, A1, A2, -, A3⟩ := A
  subst A3
  have h4 := congrArg Prod.fst A1
  have h5 := congrArg Prod.snd A1
  have h6 := congrArg Prod.fst h5
  have h7 := congrArg Prod.snd h5
  have A0 : lp_Net_press_115_31 mm_N (if gI s 30 0 = gI s 25 11 then (1 : Int32) else (0 : Int32)) 1 (sI s 30 0 (gI s 25 11)) = (_, _, _) := Prod.ext h6 (Prod.ext h4 h7)
  have A2 : okl_Net_press_115_31 mm_N (if gI s 30 0 = gI s 25 11 then (1 : Int32) else (0 : Int32)) 1 (sI s 30 0 (gI s 25 11)) := A2
  constructor
  · unfold f_Net_press_115
    simp only [mq_let_e, A0]
  · unfold ok_Net_press_115
    simp only [mq_letP_e, A0, A2, b01', true_and]
theorem G_settle_lp_115 {s : mS} {N T : Nat} (h : NG s N T) : ∀ r k n (a b c tk pr : Nat → Int32), k + r = 12 → r + 1 < n → (∀ t, t < T → a t = tk t) → (0 < k → ∀ j, j < N → b j = pr j) →
    ∃ v a' b' c', lp_Net_settle_115_9 n 0 (Int32.ofNat k) (ng3 s a b c) = (if (nt_swp N T (gI s 26) (gI s 29) (gI s 28) (gI s 115) (gI s 13) (gI s 14) (gI s 23) (gI s 25 11) r k tk pr).1 = true then 1 else 0, v, ng3 s a' b' c') ∧ okl_Net_settle_115_9 n 0 (Int32.ofNat k) (ng3 s a b c) ∧ (∀ t, t < T → a' t = (nt_swp N T (gI s 26) (gI s 29) (gI s 28) (gI s 115) (gI s 13) (gI s 14) (gI s 23) (gI s 25 11) r k tk pr).2.1 t) ∧ (∀ t, T ≤ t → a' t = a t) ∧ (∀ j, j < N → b' j = (nt_swp N T (gI s 26) (gI s 29) (gI s 28) (gI s 115) (gI s 13) (gI s 14) (gI s 23) (gI s 25 11) r k tk pr).2.2 j) := by
  intro r
  induction r with
  | zero =>
    intro k n a b c tk pr hk hn ht hp
    have : k = 12 := by omega
    subst this
    match n, hn with
    | n + 1, _ =>
      have e : (12 : Int32) ≤ Int32.ofNat 12 := by decide
      refine ⟨Int32.ofNat 12, a, b, c, ?_, ?_, ht, fun _ _ => rfl, fun j hj => hp (by omega) j hj⟩
      · simp only [lp_Net_settle_115_9, e, if_true, nt_swp, Bool.false_eq_true, if_false]
      · simp only [okl_Net_settle_115_9, e, if_true]
  | succ r ih =>
    intro k n a b c tk pr hk hn ht hp
    match n, hn with
    | n + 2, hn =>
      have e1 : ¬ (12 : Int32) ≤ Int32.ofNat k := fl_lit (a := 12) rfl (by omega) (by omega) (by omega)
      have e2 : (Int32.ofNat k ≤ 0) ↔ ¬ 0 < k := by
        rw [show (0 : Int32) = Int32.ofNat 0 from rfl, ofNat_le (by omega) (by omega)]
        omega
      obtain ⟨g, A1, A2, A3⟩ := G_flows (NG_ng3 (a := a) (b := b) (c := c) h)
      rw [ng3_31] at A1
      simp only [ng3_g, Nat.reduceEqDiff, reduceIte] at A3
      have B := G_press_115 (NG_ng3 (a := a) (b := b) (c := g) h)
      rw [ng3_30] at B
      simp only [ng3_g, Nat.reduceEqDiff, reduceIte] at B
      have F : ∀ j, j < N → nt_PR (gI s 26) (gI s 29) (gI s 28) (gI s 115) g (gI s 25 11) j = nt_PR (gI s 26) (gI s 29) (gI s 28) (gI s 115) (nt_flow N T (gI s 26) (gI s 13) tk) (gI s 25 11) j := nt_PR_c h.2.2.2.2.2.2 (fun j hj => by
        rw [A3 j hj]
        exact nt_flow_t h.2.1 h.2.2.2.2.2.1 h.2.2.2.2.2.2 ht j hj)
      have C := G_takes_pr (NG_ng3 (a := a) (b := fillA N (nt_PR (gI s 26) (gI s 29) (gI s 28) (gI s 115) g (gI s 25 11)) b) (c := g) h)
      rw [ng3_24] at C
      simp only [ng3_g, Nat.reduceEqDiff, reduceIte] at C
      have C3 : f_Things_takeBy_30 (ng3 s a (fillA N (nt_PR (gI s 26) (gI s 29) (gI s 28) (gI s 115) g (gI s 25 11)) b) g) = ng3 s (fillA T (nt_tk (gI s 13) (gI s 14) (gI s 23) (fillA N (nt_PR (gI s 26) (gI s 29) (gI s 28) (gI s 115) g (gI s 25 11)) b)) a) (fillA N (nt_PR (gI s 26) (gI s 29) (gI s 28) (gI s 115) g (gI s 25 11)) b) g := by
        unfold f_Things_takeBy_30
        simp only [mq_let_e, C.1]
      have C4 : ok_Things_takeBy_30 (ng3 s a (fillA N (nt_PR (gI s 26) (gI s 29) (gI s 28) (gI s 115) g (gI s 25 11)) b) g) := by
        unfold ok_Things_takeBy_30
        exact ⟨C.2, trivial⟩
      have hcond : (0 < k ∧ ∀ j, j < N → b j = nt_PR (gI s 26) (gI s 29) (gI s 28) (gI s 115) g (gI s 25 11) j) ↔ (0 < k ∧ ∀ j, j < N → nt_PR (gI s 26) (gI s 29) (gI s 28) (gI s 115) (nt_flow N T (gI s 26) (gI s 13) tk) (gI s 25 11) j = pr j) :=
        ⟨fun q => ⟨q.1, fun j hj => by rw [← F j hj, ← q.2 j hj, hp q.1 j hj]⟩, fun q => ⟨q.1, fun j hj => by rw [F j hj, q.2 j hj, hp q.1 j hj]⟩⟩
      have hflag : (if Int32.ofNat k ≤ 0 then (0 : Int32) else (if (if ∀ j, j < N → b j = nt_PR (gI s 26) (gI s 29) (gI s 28) (gI s 115) g (gI s 25 11) j then (1 : Int32) else 0) = 0 then (0 : Int32) else (1 : Int32))) = if (0 < k ∧ ∀ j, j < N → nt_PR (gI s 26) (gI s 29) (gI s 28) (gI s 115) (nt_flow N T (gI s 26) (gI s 13) tk) (gI s 25 11) j = pr j) then 1 else 0 := by
        by_cases q0 : 0 < k
        · rw [if_neg (fun h => (e2.mp h) q0)]
          by_cases q1 : ∀ j, j < N → b j = nt_PR (gI s 26) (gI s 29) (gI s 28) (gI s 115) g (gI s 25 11) j
          · rw [if_pos q1, if_neg (by decide), if_pos (hcond.mp ⟨q0, q1⟩)]
          · rw [if_neg q1, if_pos rfl, if_neg (fun h => q1 (hcond.mpr h).2)]
        · rw [if_pos (e2.mpr q0), if_neg (fun h => q0 h.1)]
      have Gt : ∀ t, t < T → fillA T (nt_tk (gI s 13) (gI s 14) (gI s 23) (fillA N (nt_PR (gI s 26) (gI s 29) (gI s 28) (gI s 115) g (gI s 25 11)) b)) a t = nt_tk (gI s 13) (gI s 14) (gI s 23) (nt_PR (gI s 26) (gI s 29) (gI s 28) (gI s 115) (nt_flow N T (gI s 26) (gI s 13) tk) (gI s 25 11)) t := fun t ht' => by
        rw [fillA_lt ht']
        exact nt_tk_c h.2.2.2.2.2.1 (fun j hj => by rw [fillA_lt hj, F j hj]) t ht'
      have Gp : ∀ j, j < N → fillA N (nt_PR (gI s 26) (gI s 29) (gI s 28) (gI s 115) g (gI s 25 11)) b j = nt_PR (gI s 26) (gI s 29) (gI s 28) (gI s 115) (nt_flow N T (gI s 26) (gI s 13) tk) (gI s 25 11) j := fun j hj => by rw [fillA_lt hj, F j hj]
      by_cases hc : 0 < k ∧ ∀ j, j < N → nt_PR (gI s 26) (gI s 29) (gI s 28) (gI s 115) (nt_flow N T (gI s 26) (gI s 13) tk) (gI s 25 11) j = pr j
      · rw [if_pos hc] at hflag
        have e5 : ¬ (1 : Int32) = 0 := by decide
        refine ⟨Int32.ofNat (k + 1), fillA T (nt_tk (gI s 13) (gI s 14) (gI s 23) (fillA N (nt_PR (gI s 26) (gI s 29) (gI s 28) (gI s 115) g (gI s 25 11)) b)) a, fillA N (nt_PR (gI s 26) (gI s 29) (gI s 28) (gI s 115) g (gI s 25 11)) b, g, ?_, ?_, ?_, ?_, ?_⟩
        · simp only [lp_Net_settle_115_9, mq_let_e, e1, if_false, if_true, A1, B.1, hflag, C3, nt_swp, if_pos hc, e5, ite_self, ofNat_succ]
        · simp only [okl_Net_settle_115_9, mq_letP_e, e1, if_false, if_true, A1, A2, B.1, B.2, hflag, C3, C4, true_and, e5, ite_self]
        · simp only [nt_swp, if_pos hc]
          exact Gt
        · exact fun t ht' => fillA_ge ht'
        · simp only [nt_swp, if_pos hc]
          exact Gp
      · rw [if_neg hc] at hflag
        obtain ⟨v, a2, b2, c2, I1, I2, I3, I4, I5⟩ := ih (k + 1) (n + 1) (fillA T (nt_tk (gI s 13) (gI s 14) (gI s 23) (fillA N (nt_PR (gI s 26) (gI s 29) (gI s 28) (gI s 115) g (gI s 25 11)) b)) a) (fillA N (nt_PR (gI s 26) (gI s 29) (gI s 28) (gI s 115) g (gI s 25 11)) b) g (nt_tk (gI s 13) (gI s 14) (gI s 23) (nt_PR (gI s 26) (gI s 29) (gI s 28) (gI s 115) (nt_flow N T (gI s 26) (gI s 13) tk) (gI s 25 11))) (nt_PR (gI s 26) (gI s 29) (gI s 28) (gI s 115) (nt_flow N T (gI s 26) (gI s 13) tk) (gI s 25 11)) (by omega) (by omega) Gt (fun _ => Gp)
        refine ⟨v, a2, b2, c2, ?_, ?_, ?_, ?_, ?_⟩
        · rw [lp_Net_settle_115_9]
          simp only [mq_let_e, e1, if_false, if_true, A1, B.1, hflag, C3, nt_swp, if_neg hc, ofNat_succ]
          exact I1
        · rw [okl_Net_settle_115_9]
          simp only [mq_letP_e, e1, if_false, if_true, A1, A2, B.1, B.2, hflag, C3, C4, true_and, ofNat_succ]
          exact I2
        · simp only [nt_swp, if_neg hc]
          exact I3
        · exact fun t ht' => (I4 t ht').trans (fillA_ge ht')
        · simp only [nt_swp, if_neg hc]
          exact I5
theorem G_settle_115 {s : mS} {N T : Nat} (h : NG s N T) : ∃ a b c, f_Net_settle_115 s = (if (nt_settle N T (gI s 26) (gI s 29) (gI s 28) (gI s 115) (gI s 13) (gI s 14) (gI s 23) (gI s 25 11)).1 = true then 1 else 0, ng3 s a b c) ∧ ok_Net_settle_115 s ∧ (∀ t, t < T → a t = (nt_settle N T (gI s 26) (gI s 29) (gI s 28) (gI s 115) (gI s 13) (gI s 14) (gI s 23) (gI s 25 11)).2.1 t) ∧ (∀ t, T ≤ t → t < 40 → a t = gI s 23 t) ∧ (∀ j, j < N → b j = (nt_settle N T (gI s 26) (gI s 29) (gI s 28) (gI s 115) (gI s 13) (gI s 14) (gI s 23) (gI s 25 11)).2.2 j) := by
  have A := G_takeWants s
  have E : sA s 24 (fillA 40 (gI s 23) (gI s 24)) = ng3 s (fillA 40 (gI s 23) (gI s 24)) (gI s 30) (gI s 31) := by
    have := congrArg (fun q => sA q 24 (fillA 40 (gI s 23) (gI s 24))) (ng3_id s)
    simp only [ng3_24] at this
    exact this.symm
  obtain ⟨v, a, b, c, B1, B2, B3, B4, B5⟩ := G_settle_lp_115 h 12 0 mm_N (fillA 40 (gI s 23) (gI s 24)) (gI s 30) (gI s 31) (gI s 23) (fun _ => 0) rfl (by rw [mm_Ns]; omega) (fun t ht => fillA_lt (by have := h.2.2.2.2.1; omega)) (fun h => absurd h (by decide))
  have B1 : lp_Net_settle_115_9 mm_N 0 0 _ = _ := B1
  have B2 : okl_Net_settle_115_9 mm_N 0 0 _ := B2
  refine ⟨a, b, c, ?_, ?_, B3, ?_, B5⟩
  · unfold f_Net_settle_115 f_Things_takeWants
    simp only [mq_let_e, A.1, E, B1]
    rfl
  · unfold ok_Net_settle_115 ok_Things_takeWants f_Things_takeWants
    simp only [mq_let_e, mq_letP_e, A.1, A.2, E, B1, B2, b01', true_and, and_true]
  · intro t h1 h2
    rw [B4 t h1, fillA_lt h2]
