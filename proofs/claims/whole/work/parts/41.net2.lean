/-! THE NET: the model's flows, sweeps and settling. -/
def NM (s : mS) (N T : Nat) : Prop := gI s 116 7 = Int32.ofNat N ∧ 1 ≤ N ∧ N ≤ 16 ∧ gI s 116 8 = Int32.ofNat T ∧ T ≤ 40 ∧ nt_ndOK N T (gI s 132) ∧ nt_paOK N (gI s 127)
theorem NM_sA {s : mS} {N T c : Nat} {f : Nat → Int32} (hc : c ≠ 116 ∧ c ≠ 132 ∧ c ≠ 127) (h : NM s N T) : NM (sA s c f) N T := by
  unfold NM at h ⊢
  simp only [gI_sA, fI_sA, if_neg (Ne.symm hc.1), if_neg (Ne.symm hc.2.1), if_neg (Ne.symm hc.2.2)]
  exact h
theorem fl_lit {a i : Nat} {x : Int32} (h : x = Int32.ofNat a) (ha : a < 90000) (hi : i < 90000) (hlt : i < a) : ¬ x ≤ Int32.ofNat i := by
  rw [h, ofNat_le (by omega) (by omega)]
  omega
theorem fl_lit' {a : Nat} {x : Int32} (h : x = Int32.ofNat a) : x ≤ Int32.ofNat a := by
  rw [h]
  exact Int32.le_refl _
theorem M_flows {s : mS} {N T : Nat} (h : NM s N T) : ∃ g, f_M_flows s = sA s 144 g ∧ ok_M_flows s ∧ ∀ j, j < N → g j = nt_flow N T (gI s 127) (gI s 132) (gI s 143) j := by
  obtain ⟨hN, hN1, hN2, hT, hT2, hnd, hpa⟩ := h
  have A := lp_map (L := lp_M_flows_2) (OK := okl_M_flows_2) 144 N (by omega) s (fun _ => 0)
    (fun n i g hi => by
      have e1 := fl_lit hN (by omega) (by omega) hi
      have e2 : ix (Int32.ofNat i) = i := ix_ofNat (by omega)
      have e3 : Int32.ofNat i + 1 = Int32.ofNat (i + 1) := ofNat_succ i
      have e4 : mm_inb (Int32.ofNat i) 16 = true := inb_ofNat (by decide) (by omega)
      constructor
      · simp only [lp_M_flows_2, gI_sA, Nat.reduceEqDiff, reduceIte, e1, e2, e3, sI_sA]
      · intro h
        simp only [okl_M_flows_2, gI_sA, Nat.reduceEqDiff, reduceIte, e1, e2, e3, e4, sI_sA, true_and]
        exact h)
    (fun n g => by
      have e1 := fl_lit' hN
      constructor
      · simp only [lp_M_flows_2, gI_sA, Nat.reduceEqDiff, reduceIte, e1]
      · simp only [okl_M_flows_2, gI_sA, Nat.reduceEqDiff, reduceIte, e1])
  have B := lp_up0 (L := lp_M_flows_25) (OK := okl_M_flows_25) (fun i s' => s' = sA s 144 (nt_in (gI s 132) (gI s 143) (fillA N (fun _ => 0) (gI s 144)) i)) T (by omega) (sA s 144 (fillA N (fun _ => 0) (gI s 144))) rfl
    (fun n i s' hi hp => by
      subst hp
      have e1 := fl_lit hT (by omega) (by omega) hi
      have e2 : ix (Int32.ofNat i) = i := ix_ofNat (by omega)
      have e3 : Int32.ofNat i + 1 = Int32.ofNat (i + 1) := ofNat_succ i
      have e4 : mm_inb (Int32.ofNat i) 40 = true := inb_ofNat (by decide) (by omega)
      have e5 : mm_inb (gI s 132 i) 16 = true := inb_ix (hnd i hi).1 (by have := (hnd i hi).2; omega)
      refine ⟨sA s 144 (nt_in (gI s 132) (gI s 143) (fillA N (fun _ => 0) (gI s 144)) (i + 1)), ?_, ?_, rfl⟩
      · simp only [lp_M_flows_25, gI_sA, Nat.reduceEqDiff, reduceIte, e1, e2, e3, sI_sA, nt_in]
      · intro h
        simp only [okl_M_flows_25, gI_sA, Nat.reduceEqDiff, reduceIte, e1, e2, e3, e4, e5, sI_sA, true_and]
        simp only [nt_in] at h
        exact h)
    (fun n s' hp => by
      subst hp
      have e1 := fl_lit' hT
      constructor
      · simp only [lp_M_flows_25, gI_sA, Nat.reduceEqDiff, reduceIte, e1]
      · simp only [okl_M_flows_25, gI_sA, Nat.reduceEqDiff, reduceIte, e1])
  obtain ⟨s1, B1, B2, B3⟩ := B
  have C := lp_dn (L := lp_M_flows_66) (OK := okl_M_flows_66) (fun k s' => ∃ f, s' = sA s 144 f ∧ k < N ∧ nt_up (gI s 127) (N - 1) (nt_in (gI s 132) (gI s 143) (fillA N (fun _ => 0) (gI s 144)) T) = nt_up (gI s 127) k f)
    (fun n i s' hp hi => by
      obtain ⟨f, rfl, hk, hf⟩ := hp
      have e1 := ofNat_pos hi
      have e2 : ix (Int32.ofNat (i + 1)) = i + 1 := ix_ofNat (by omega)
      have e3 := ofNat_pred i hi
      have e4 : mm_inb (Int32.ofNat (i + 1)) 16 = true := inb_ofNat (by decide) (by omega)
      have hq := hpa (i + 1) (by omega) hk
      have e5 : mm_inb (gI s 127 (i + 1)) 16 = true := inb_ix hq.1 (by omega)
      refine ⟨sA s 144 (up f (ix (gI s 127 (i + 1))) (f (ix (gI s 127 (i + 1))) + f (i + 1))), ?_, ?_, _, rfl, by omega, hf⟩
      · simp only [lp_M_flows_66, gI_sA, Nat.reduceEqDiff, reduceIte, e1, e2, e3, sI_sA]
      · intro h
        simp only [okl_M_flows_66, gI_sA, Nat.reduceEqDiff, reduceIte, e1, e2, e3, e4, e5, sI_sA, true_and]
        exact h)
    (fun n s' hp => by
      have e1 : (0 : Int32) ≤ 0 := by decide
      constructor
      · simp only [lp_M_flows_66, e1, if_true]
      · simp only [okl_M_flows_66, e1, if_true])
    (N - 1) mm_N s1 (by rw [mm_Ns]; omega) (by omega) ⟨_, B3, by omega, rfl⟩
  obtain ⟨s2, C1, C2, f, C3, -, C4⟩ := C
  have e6 : gI s1 116 7 - 1 = Int32.ofNat (N - 1) := by
    rw [B3]
    simp only [gI_sA, Nat.reduceEqDiff, reduceIte, hN]
    have : N = (N - 1) + 1 := by omega
    rw [this, ← ofNat_succ]
    simp
  refine ⟨f, ?_, ?_, ?_⟩
  · unfold f_M_flows
    simp only [mq_let_e, A.1, B1, e6, C1, C3]
  · unfold ok_M_flows
    simp only [mq_letP_e, A.1, A.2, B1, B2, e6, C2, true_and, and_true]
  · intro j hj
    have := nt_flow_c (f := fillA N (fun _ => 0) (gI s 144)) (take := gI s 143) (take' := gI s 143) hN1 (fun j hj => fillA_lt hj) hnd hpa (fun _ _ => rfl) j hj
    rw [← this, C4]
    rfl
theorem fl_one {N : Nat} {x : Int32} (h : x = Int32.ofNat N) (hN : N < 90000) {i : Nat} (hi : i < N) : x ≤ Int32.ofNat i ↔ False := iff_false_intro (fl_lit h hN (by omega) hi)
/-- arrays of pressures: up to i new, behind as they were -/
def nt_mix (i : Nat) (PR old : Nat → Int32) : Nat → Int32 := fillA i PR old
theorem M_sweep_pr {s : mS} {N T : Nat} (h : NM s N T) : lp_M_sweep_16 mm_N 1 (sI s 145 0 (gI s 116 11)) = (Int32.ofNat N, sA s 145 (fillA N (nt_PR (gI s 127) (gI s 130) (gI s 129) (gI s 147) (gI s 144) (gI s 116 11)) (gI s 145))) ∧ okl_M_sweep_16 mm_N 1 (sI s 145 0 (gI s 116 11)) := by
  obtain ⟨hN, hN1, hN2, hT, hT2, hnd, hpa⟩ := h
  have A := lp_upN (L := lp_M_sweep_16) (OK := okl_M_sweep_16) (fun i s' => 1 ≤ i ∧ s' = sA s 145 (fillA i (nt_PR (gI s 127) (gI s 130) (gI s 129) (gI s 147) (gI s 144) (gI s 116 11)) (gI s 145))) N (by omega)
    (fun n i s' hi hp => by
      obtain ⟨h1, rfl⟩ := hp
      have e1 := fl_lit hN (by omega) (by omega) hi
      have e2 : ix (Int32.ofNat i) = i := ix_ofNat (by omega)
      have e3 : Int32.ofNat i + 1 = Int32.ofNat (i + 1) := ofNat_succ i
      have e4 : mm_inb (Int32.ofNat i) 16 = true := inb_ofNat (by decide) (by omega)
      have hq := hpa i h1 hi
      have e5 : mm_inb (gI s 127 i) 16 = true := inb_ix hq.1 (by omega)
      have e6 : fillA i (nt_PR (gI s 127) (gI s 130) (gI s 129) (gI s 147) (gI s 144) (gI s 116 11)) (gI s 145) (ix (gI s 127 i)) = nt_PR (gI s 127) (gI s 130) (gI s 129) (gI s 147) (gI s 144) (gI s 116 11) (ix (gI s 127 i)) := fillA_lt hq.2
      have e7 := nt_PR_s (par := gI s 127) (wat := gI s 130) (hgt := gI s 129) (rs := gI s 147) (fl := gI s 144) (gate := gI s 116 11) h1 hq.2
      have e8 := up_fill i (nt_PR (gI s 127) (gI s 130) (gI s 129) (gI s 147) (gI s 144) (gI s 116 11)) (gI s 145)
      rw [e7] at e8
      unfold nt_pv at e8
      refine ⟨_, ?_, ?_, by omega, rfl⟩
      · simp only [lp_M_sweep_16, mq_let_e, gI_sA, Nat.reduceEqDiff, reduceIte, e1, e2, e3, sI_sA, e6, e8]
      · intro h
        simp only [okl_M_sweep_16, mq_let_e, mq_letP_e, gI_sA, Nat.reduceEqDiff, reduceIte, e1, e2, e3, e4, e5, e6, e8, sI_sA, true_and]
        exact h)
    (fun n s' hp => by
      obtain ⟨h1, rfl⟩ := hp
      have e1 := fl_lit' hN
      constructor
      · simp only [lp_M_sweep_16, gI_sA, Nat.reduceEqDiff, reduceIte, e1]
      · simp only [okl_M_sweep_16, gI_sA, Nat.reduceEqDiff, reduceIte, e1]) 1 (sI s 145 0 (gI s 116 11)) hN1 ⟨Nat.le_refl _, by
        rw [sI_up]
        congr 1
        funext j
        unfold up fillA
        by_cases hj : j = 0
        · subst hj
          rfl
        · rw [if_neg hj, if_neg (by omega)]⟩
  obtain ⟨s', A1, A2, -, A3⟩ := A
  subst A3
  exact ⟨A1, A2⟩
theorem M_sweep_tk {s : mS} {N T : Nat} (h : NM s N T) : lp_M_sweep_110 mm_N 0 s = (Int32.ofNat T, sA s 143 (fillA T (nt_tk (gI s 132) (gI s 133) (gI s 142) (gI s 145)) (gI s 143))) ∧ okl_M_sweep_110 mm_N 0 s := by
  obtain ⟨hN, hN1, hN2, hT, hT2, hnd, hpa⟩ := h
  exact lp_map (L := lp_M_sweep_110) (OK := okl_M_sweep_110) 143 T (by omega) s (nt_tk (gI s 132) (gI s 133) (gI s 142) (gI s 145))
    (fun n i g hi => by
      have e1 := fl_lit hT (by omega) (by omega) hi
      have e2 : ix (Int32.ofNat i) = i := ix_ofNat (by omega)
      have e3 : Int32.ofNat i + 1 = Int32.ofNat (i + 1) := ofNat_succ i
      have e4 : mm_inb (Int32.ofNat i) 40 = true := inb_ofNat (by decide) (by omega)
      have e5 : mm_inb (gI s 132 i) 16 = true := inb_ix (hnd i hi).1 (by have := (hnd i hi).2; omega)
      constructor
      · simp only [lp_M_sweep_110, mq_let_e, gI_sA, Nat.reduceEqDiff, reduceIte, e1, e2, e3, sI_sA, nt_tk]
      · intro h
        simp only [nt_tk] at h
        simp only [okl_M_sweep_110, mq_let_e, mq_letP_e, gI_sA, Nat.reduceEqDiff, reduceIte, e1, e2, e3, e4, e5, sI_sA, true_and, and_true, ite_self]
        exact h)
    (fun n g => by
      have e1 := fl_lit' hT
      constructor
      · simp only [lp_M_sweep_110, gI_sA, Nat.reduceEqDiff, reduceIte, e1]
      · simp only [okl_M_sweep_110, gI_sA, Nat.reduceEqDiff, reduceIte, e1])
/-- the model's state in its sweeps: takings, flows, pressures, pressures ahead -/
def nm4 (s : mS) (a b c d : Nat → Int32) : mS := sA (sA (sA (sA s 143 a) 144 b) 145 c) 146 d
theorem sA_comm (s : mS) (c c' : Nat) (f g : Nat → Int32) (h : c' ≠ c) : sA (sA s c f) c' g = sA (sA s c' g) c f := by
  unfold sA
  congr 1
  funext a b
  by_cases h1 : a = c'
  · have h2 : ¬ a = c := fun e => h (by omega)
    simp only [h1, if_true, if_neg h]
  · simp only [h1, if_false]
theorem nm4_144 (s : mS) (a b c d g : Nat → Int32) : sA (nm4 s a b c d) 144 g = nm4 s a g c d := by
  unfold nm4
  rw [sA_comm _ 146 144 _ _ (by decide), sA_comm _ 145 144 _ _ (by decide), sA_sA]
theorem nm4_145 (s : mS) (a b c d g : Nat → Int32) : sA (nm4 s a b c d) 145 g = nm4 s a b g d := by
  unfold nm4
  rw [sA_comm _ 146 145 _ _ (by decide), sA_sA]
theorem nm4_146 (s : mS) (a b c d g : Nat → Int32) : sA (nm4 s a b c d) 146 g = nm4 s a b c g := by
  unfold nm4
  rw [sA_sA]
theorem nm4_143 (s : mS) (a b c d g : Nat → Int32) : sA (nm4 s a b c d) 143 g = nm4 s g b c d := by
  unfold nm4
  rw [sA_comm _ 146 143 _ _ (by decide), sA_comm _ 145 143 _ _ (by decide), sA_comm _ 144 143 _ _ (by decide), sA_sA]
theorem nm4_g (s : mS) (a b c d : Nat → Int32) (k : Nat) : gI (nm4 s a b c d) k = if k = 146 then d else if k = 145 then c else if k = 144 then b else if k = 143 then a else gI s k := by
  unfold nm4
  simp only [fI_sA]
theorem NM_nm4 {s : mS} {N T : Nat} {a b c d : Nat → Int32} (h : NM s N T) : NM (nm4 s a b c d) N T := NM_sA (by decide) (NM_sA (by decide) (NM_sA (by decide) (NM_sA (by decide) h)))
theorem M_sweep {s : mS} {N T : Nat} {a b c d : Nat → Int32} (h : NM s N T) : ∃ a' b' c', f_M_sweep (nm4 s a b c d) = nm4 s a' b' c' d ∧ ok_M_sweep (nm4 s a b c d) ∧ (∀ j, j < N → c' j = nt_PR (gI s 127) (gI s 130) (gI s 129) (gI s 147) (nt_flow N T (gI s 127) (gI s 132) a) (gI s 116 11) j) ∧ (∀ t, t < T → a' t = nt_tk (gI s 132) (gI s 133) (gI s 142) (nt_PR (gI s 127) (gI s 130) (gI s 129) (gI s 147) (nt_flow N T (gI s 127) (gI s 132) a) (gI s 116 11)) t) := by
  obtain ⟨g, A1, A2, A3⟩ := M_flows (NM_nm4 (a := a) (b := b) (c := c) (d := d) h)
  rw [nm4_144] at A1
  simp only [nm4_g, Nat.reduceEqDiff, reduceIte] at A3
  have B := M_sweep_pr (NM_nm4 (a := a) (b := g) (c := c) (d := d) h)
  rw [nm4_145] at B
  simp only [nm4_g, Nat.reduceEqDiff, reduceIte] at B
  have C := M_sweep_tk (NM_nm4 (a := a) (b := g) (c := fillA N (nt_PR (gI s 127) (gI s 130) (gI s 129) (gI s 147) g (gI s 116 11)) c) (d := d) h)
  rw [nm4_143] at C
  simp only [nm4_g, Nat.reduceEqDiff, reduceIte] at C
  refine ⟨fillA T (nt_tk (gI s 132) (gI s 133) (gI s 142) (fillA N (nt_PR (gI s 127) (gI s 130) (gI s 129) (gI s 147) g (gI s 116 11)) c)) a, g, fillA N (nt_PR (gI s 127) (gI s 130) (gI s 129) (gI s 147) g (gI s 116 11)) c, ?_, ?_, ?_, ?_⟩
  · unfold f_M_sweep
    simp only [mq_let_e, A1, nm4_g, Nat.reduceEqDiff, reduceIte, B.1, C.1]
  · unfold ok_M_sweep
    simp only [mq_letP_e, A1, A2, nm4_g, Nat.reduceEqDiff, reduceIte, B.1, B.2, C.2, true_and, and_true]
  · intro j hj
    rw [fillA_lt hj]
    exact nt_PR_c h.2.2.2.2.2.2 A3 j hj
  · intro t ht
    rw [fillA_lt ht]
    refine nt_tk_c h.2.2.2.2.2.1 ?_ t ht
    intro j hj
    rw [fillA_lt hj]
    exact nt_PR_c h.2.2.2.2.2.2 A3 j hj
theorem M_fogIn_sA (a : Int32) (s : mS) (c : Nat) (f : Nat → Int32) (hc : c ≠ 122) : f_M_fogIn a (sA s c f) = f_M_fogIn a s := by
  unfold f_M_fogIn
  simp only [gI_sA, if_neg (Ne.symm hc)]
theorem M_byHour_sA (a b : Int32) (s : mS) (c : Nat) (f : Nat → Int32) (hc : c ≠ 122) : f_M_byHour a b (sA s c f) = f_M_byHour a b s := by
  unfold f_M_byHour
  simp only [mq_let_e, M_fogIn_sA _ _ _ _ hc]
theorem M_wants_sA (a b : Int32) (s : mS) (c : Nat) (f : Nat → Int32) (hc : c ≠ 122 ∧ c ≠ 116 ∧ c ≠ 133 ∧ c ≠ 134 ∧ c ≠ 135 ∧ c ≠ 136 ∧ c ≠ 140) : f_M_wants a b (sA s c f) = f_M_wants a b s := by
  obtain ⟨h1, h2, h3, h4, h5, h6, h7⟩ := hc
  unfold f_M_wants
  simp only [mq_let_e, M_fogIn_sA _ _ _ _ h1, M_byHour_sA _ _ _ _ _ h1, gI_sA, if_neg (Ne.symm h2), if_neg (Ne.symm h3), if_neg (Ne.symm h4), if_neg (Ne.symm h5), if_neg (Ne.symm h6), if_neg (Ne.symm h7)]
theorem M_fogIn_ok {a : Int32} {s : mS} (h0 : 0 ≤ a) (h : a ≤ 10000) : ok_M_fogIn a s := by
  unfold ok_M_fogIn
  split
  · trivial
  · rename_i hx
    have := day_rng h0 h
    refine ⟨inb_gen (by decide) this.1 ?_, trivial⟩
    show a / 96 < 42
    grind
theorem M_wants_ok {a b : Int32} {s : mS} (ha : mm_inb a 40 = true) (h0 : 0 ≤ b) (h : b ≤ 10000) : ok_M_wants a b s := by
  have h1 : ok_M_fogIn b s := M_fogIn_ok h0 h
  have h2 : ∀ x, ok_M_byHour x b s := by
    intro x
    unfold ok_M_byHour
    simp only [mq_letP_e, h1, true_and, and_true]
  unfold ok_M_wants
  simp only [mq_letP_e, ha, h1, h2, true_and, and_true, ite_self]
theorem M_settles_2 {s : mS} {N T : Nat} (h : NM s N T) (a : Int32) (h0 : 0 ≤ a) (ha : a ≤ 10000) : lp_M_settles_2 a mm_N 0 s = (Int32.ofNat T, sA (sA s 142 (fillA T (fun t => f_M_wants (Int32.ofNat t) a s) (gI s 142))) 143 (fillA T (fun t => f_M_wants (Int32.ofNat t) a s) (gI s 143))) ∧ okl_M_settles_2 a mm_N 0 s := by
  obtain ⟨hN, hN1, hN2, hT, hT2, hnd, hpa⟩ := h
  have A := lp_up0 (L := lp_M_settles_2 a) (OK := okl_M_settles_2 a) (fun i s' => s' = sA (sA s 142 (fillA i (fun t => f_M_wants (Int32.ofNat t) a s) (gI s 142))) 143 (fillA i (fun t => f_M_wants (Int32.ofNat t) a s) (gI s 143))) T (by omega) s (by
      simp only [fillA_0, sA_id]
      )
    (fun n i s' hi hp => by
      subst hp
      have e1 := fl_lit hT (by omega) (by omega) hi
      have e2 : ix (Int32.ofNat i) = i := ix_ofNat (by omega)
      have e3 : Int32.ofNat i + 1 = Int32.ofNat (i + 1) := ofNat_succ i
      have e4 : mm_inb (Int32.ofNat i) 40 = true := inb_ofNat (by decide) (by omega)
      have e5 : ∀ f g, f_M_wants (Int32.ofNat i) a (sA (sA s 142 f) 143 g) = f_M_wants (Int32.ofNat i) a s := fun f g => by
        rw [M_wants_sA _ _ _ _ _ (by decide), M_wants_sA _ _ _ _ _ (by decide)]
      have e6 : ∀ s'', ok_M_wants (Int32.ofNat i) a s'' := fun s'' => M_wants_ok e4 h0 ha
      have e7 := up_fill i (fun t => f_M_wants (Int32.ofNat t) a s) (gI s 142)
      have e8 := up_fill i (fun t => f_M_wants (Int32.ofNat t) a s) (gI s 143)
      have e9 : fillA (i + 1) (fun t => f_M_wants (Int32.ofNat t) a s) (gI s 142) i = f_M_wants (Int32.ofNat i) a s := fillA_lt (Nat.lt_succ_self i)
      refine ⟨_, ?_, ?_, rfl⟩
      · simp only [lp_M_settles_2, mq_let_e, gI_sA, gI_sI, and_self, Nat.reduceEqDiff, reduceIte, e1, e2, e3, e5, sI_sA, sI_sA_ne _ 143 142 _ _ _ (by decide : 142 ≠ 143), e7, e9, e8]
      · intro h
        simp only [okl_M_settles_2, mq_let_e, mq_letP_e, gI_sA, gI_sI, and_self, Nat.reduceEqDiff, reduceIte, e1, e2, e3, e4, e5, e6, sI_sA, sI_sA_ne _ 143 142 _ _ _ (by decide : 142 ≠ 143), e7, e9, e8, true_and]
        exact h)
    (fun n s' hp => by
      subst hp
      have e1 := fl_lit' hT
      constructor
      · simp only [lp_M_settles_2, gI_sA, Nat.reduceEqDiff, reduceIte, e1]
      · simp only [okl_M_settles_2, gI_sA, Nat.reduceEqDiff, reduceIte, e1])
  obtain ⟨s', A1, A2, A3⟩ := A
  subst A3
  exact ⟨A1, A2⟩
theorem M_settles_66 {s : mS} {N T : Nat} (h : NM s N T) (a2 x : Int32) (hx : x = 0 ∨ x = 1) {a b c d : Nat → Int32} : lp_M_settles_66 a2 mm_N x 0 (nm4 s a b c d) = (if x = 1 ∧ ∀ j, j < N → c j = d j then 1 else 0, Int32.ofNat N, nm4 s a b c (fillA N c d)) ∧ okl_M_settles_66 a2 mm_N x 0 (nm4 s a b c d) := by
  obtain ⟨hN, hN1, hN2, hT, hT2, hnd, hpa⟩ := h
  have A := lp_up0 (L := fun n v (p : Int32 × mS) => ((lp_M_settles_66 a2 n p.1 v p.2).2.1, ((lp_M_settles_66 a2 n p.1 v p.2).1, (lp_M_settles_66 a2 n p.1 v p.2).2.2))) (OK := fun n v p => okl_M_settles_66 a2 n p.1 v p.2) (fun i p => p = ((if x = 1 ∧ ∀ j, j < i → c j = d j then 1 else 0 : Int32), nm4 s a b c (fillA i c d))) N (by omega) (x, nm4 s a b c d) (by
      rw [fillA_0]
      rcases hx with rfl | rfl <;> simp)
    (fun n i p hi hp => by
      subst hp
      have e1 := fl_lit hN (by omega) (by omega) hi
      have e2 : ix (Int32.ofNat i) = i := ix_ofNat (by omega)
      have e3 : Int32.ofNat i + 1 = Int32.ofNat (i + 1) := ofNat_succ i
      have e4 : mm_inb (Int32.ofNat i) 16 = true := inb_ofNat (by decide) (by omega)
      have e5 : (if (if x = 1 ∧ ∀ j, j < i → c j = d j then 1 else 0 : Int32) = 0 then (0 : Int32) else (if c i = d i then 1 else 0)) = if x = 1 ∧ ∀ j, j < i + 1 → c j = d j then 1 else 0 := by
        by_cases h1 : x = 1 ∧ ∀ j, j < i → c j = d j
        · rw [if_pos h1, if_neg (by decide)]
          by_cases h2 : c i = d i
          · rw [if_pos h2, if_pos ⟨h1.1, fun j hj => by
              by_cases h3 : j = i
              · rw [h3]; exact h2
              · exact h1.2 j (by omega)⟩]
          · rw [if_neg h2, if_neg (fun h4 => h2 (h4.2 i (by omega)))]
        · rw [if_neg h1, if_pos rfl, if_neg (fun h4 => h1 ⟨h4.1, fun j hj => h4.2 j (by omega)⟩)]
      have e6 : fillA i c d i = d i := fillA_ge (Nat.le_refl _)
      have e7 := up_fill i c d
      refine ⟨(_, nm4 s a b c (fillA (i + 1) c d)), ?_, ?_, rfl⟩
      · simp only [lp_M_settles_66, mq_let_e, nm4_g, Nat.reduceEqDiff, reduceIte, hN, e1, e2, e3, e5, e6, sI_up, e7, nm4_146]
        rw [if_neg (by rw [← hN]; exact e1)]
      · intro h
        simp only [okl_M_settles_66, mq_let_e, mq_letP_e, nm4_g, Nat.reduceEqDiff, reduceIte, e1, e2, e3, e4, e5, e6, sI_up, e7, nm4_146, true_and, and_true, ite_self]
        exact h)
    (fun n p hp => by
      subst hp
      have e1 := fl_lit' hN
      constructor
      · simp only [lp_M_settles_66, nm4_g, Nat.reduceEqDiff, reduceIte, e1]
      · simp only [okl_M_settles_66, nm4_g, Nat.reduceEqDiff, reduceIte, e1])
  obtain ⟨p, A1, A2, A3⟩ := A
  subst A3
  refine ⟨?_, A2⟩
  have h4 := congrArg Prod.fst A1
  have h5 := congrArg Prod.snd A1
  have h6 := congrArg Prod.fst h5
  have h7 := congrArg Prod.snd h5
  exact Prod.ext h6 (Prod.ext h4 h7)
theorem M_settle_lp {s : mS} {N T : Nat} (h : NM s N T) : ∀ r k n (a b c d tk pr : Nat → Int32), k + r = 12 → r < n → (∀ t, t < T → a t = tk t) → (0 < k → ∀ j, j < N → c j = pr j ∧ d j = pr j) →
    ∃ v a' b' c' d', lp_M_settles_42 n (Int32.ofNat (k + 1)) (nm4 s a b c d) = (if (nt_swp N T (gI s 127) (gI s 130) (gI s 129) (gI s 147) (gI s 132) (gI s 133) (gI s 142) (gI s 116 11) r k tk pr).1 = true then some 1 else none, v, nm4 s a' b' c' d') ∧ okl_M_settles_42 n (Int32.ofNat (k + 1)) (nm4 s a b c d) ∧ (∀ t, t < T → a' t = (nt_swp N T (gI s 127) (gI s 130) (gI s 129) (gI s 147) (gI s 132) (gI s 133) (gI s 142) (gI s 116 11) r k tk pr).2.1 t) ∧ (∀ j, j < N → c' j = (nt_swp N T (gI s 127) (gI s 130) (gI s 129) (gI s 147) (gI s 132) (gI s 133) (gI s 142) (gI s 116 11) r k tk pr).2.2 j) := by
  intro r
  induction r with
  | zero =>
    intro k n a b c d tk pr hk hn ht hp
    have : k = 12 := by omega
    subst this
    match n, hn with
    | n + 1, _ =>
      have e : (12 : Int32) < Int32.ofNat (12 + 1) := by decide
      refine ⟨Int32.ofNat (12 + 1), a, b, c, d, ?_, ?_, ht, fun j hj => (hp (by omega) j hj).1⟩
      · simp only [lp_M_settles_42, e, if_true, nt_swp, Bool.false_eq_true, if_false]
      · simp only [okl_M_settles_42, e, if_true]
  | succ r ih =>
    intro k n a b c d tk pr hk hn ht hp
    match n, hn with
    | n + 1, hn =>
      have e1 : ¬ (12 : Int32) < Int32.ofNat (k + 1) := by
        rw [show (12 : Int32) = Int32.ofNat 12 from rfl, ofNat_lt (by omega) (by omega)]
        omega
      have e2 : (Int32.ofNat (k + 1) ≤ 1) ↔ ¬ 0 < k := by
        rw [show (1 : Int32) = Int32.ofNat 1 from rfl, ofNat_le (by omega) (by omega)]
        omega
      obtain ⟨a', b', c', A1, A2, A3, A4⟩ := M_sweep (a := a) (b := b) (c := c) (d := d) h
      have F : ∀ j, j < N → nt_PR (gI s 127) (gI s 130) (gI s 129) (gI s 147) (nt_flow N T (gI s 127) (gI s 132) a) (gI s 116 11) j = nt_PR (gI s 127) (gI s 130) (gI s 129) (gI s 147) (nt_flow N T (gI s 127) (gI s 132) tk) (gI s 116 11) j := nt_PR_c h.2.2.2.2.2.2 (nt_flow_t h.2.1 h.2.2.2.2.2.1 h.2.2.2.2.2.2 ht)
      have A3' : ∀ j, j < N → c' j = nt_PR (gI s 127) (gI s 130) (gI s 129) (gI s 147) (nt_flow N T (gI s 127) (gI s 132) tk) (gI s 116 11) j := fun j hj => by rw [A3 j hj, F j hj]
      have A4' : ∀ t, t < T → a' t = nt_tk (gI s 132) (gI s 133) (gI s 142) (nt_PR (gI s 127) (gI s 130) (gI s 129) (gI s 147) (nt_flow N T (gI s 127) (gI s 132) tk) (gI s 116 11)) t := fun t ht' => by rw [A4 t ht', nt_tk_c h.2.2.2.2.2.1 F t ht']
      have B := M_settles_66 h (Int32.ofNat (k + 1)) (if Int32.ofNat (k + 1) ≤ 1 then (0 : Int32) else (1 : Int32)) (by split <;> simp) (a := a') (b := b') (c := c') (d := d)
      have hcond : ((if Int32.ofNat (k + 1) ≤ 1 then (0 : Int32) else (1 : Int32)) = 1 ∧ ∀ j, j < N → c' j = d j) ↔ (0 < k ∧ ∀ j, j < N → nt_PR (gI s 127) (gI s 130) (gI s 129) (gI s 147) (nt_flow N T (gI s 127) (gI s 132) tk) (gI s 116 11) j = pr j) := by
        constructor
        · rintro ⟨h1, h2⟩
          have hk0 : 0 < k := by
            apply Classical.byContradiction
            intro h3
            rw [if_pos (e2.mpr h3)] at h1
            exact absurd h1 (by decide)
          exact ⟨hk0, fun j hj => by rw [← A3' j hj, h2 j hj, (hp hk0 j hj).2]⟩
        · rintro ⟨h1, h2⟩
          refine ⟨if_neg (fun h3 => (e2.mp h3) h1), fun j hj => ?_⟩
          rw [A3' j hj, h2 j hj, (hp h1 j hj).2]
      by_cases hc : 0 < k ∧ ∀ j, j < N → nt_PR (gI s 127) (gI s 130) (gI s 129) (gI s 147) (nt_flow N T (gI s 127) (gI s 132) tk) (gI s 116 11) j = pr j
      · rw [if_pos (hcond.mpr hc)] at B
        refine ⟨Int32.ofNat (k + 1), a', b', c', fillA N c' d, ?_, ?_, ?_, ?_⟩
        · simp only [lp_M_settles_42, mq_let_e, e1, if_false, A1, B.1, nt_swp, if_pos hc, if_true, show ¬ (1 : Int32) = 0 by decide]
        · simp only [okl_M_settles_42, mq_letP_e, e1, if_false, A1, A2, B.1, B.2, true_and, show ¬ (1 : Int32) = 0 by decide]
        · simp only [nt_swp, if_pos hc]
          exact A4'
        · simp only [nt_swp, if_pos hc]
          exact A3'
      · rw [if_neg (fun h' => hc (hcond.mp h'))] at B
        obtain ⟨v, a2, b2, c2, d2, I1, I2, I3, I4⟩ := ih (k + 1) n a' b' c' (fillA N c' d) (nt_tk (gI s 132) (gI s 133) (gI s 142) (nt_PR (gI s 127) (gI s 130) (gI s 129) (gI s 147) (nt_flow N T (gI s 127) (gI s 132) tk) (gI s 116 11))) (nt_PR (gI s 127) (gI s 130) (gI s 129) (gI s 147) (nt_flow N T (gI s 127) (gI s 132) tk) (gI s 116 11)) (by omega) (by omega) A4' (fun _ j hj => ⟨A3' j hj, by rw [fillA_lt hj, A3' j hj]⟩)
        refine ⟨v, a2, b2, c2, d2, ?_, ?_, ?_, ?_⟩
        · simp only [lp_M_settles_42, mq_let_e, e1, if_false, A1, B.1, nt_swp, if_neg hc, if_true, ofNat_succ]
          exact I1
        · simp only [okl_M_settles_42, mq_letP_e, e1, if_false, A1, A2, B.1, B.2, true_and, if_true, ofNat_succ]
          exact I2
        · simp only [nt_swp, if_neg hc]
          exact I3
        · simp only [nt_swp, if_neg hc]
          exact I4
theorem nt_swp_c {N T : Nat} {par wat hgt rs node kind want want' : Nat → Int32} {gate : Int32} (hN : 1 ≤ N) (hn : nt_ndOK N T node) (hp : nt_paOK N par) (hw : ∀ t, t < T → want t = want' t) : ∀ r k (tk tk' pr pr' : Nat → Int32), (∀ t, t < T → tk t = tk' t) → (∀ j, j < N → pr j = pr' j) →
    (nt_swp N T par wat hgt rs node kind want gate r k tk pr).1 = (nt_swp N T par wat hgt rs node kind want' gate r k tk' pr').1 ∧ (∀ t, t < T → (nt_swp N T par wat hgt rs node kind want gate r k tk pr).2.1 t = (nt_swp N T par wat hgt rs node kind want' gate r k tk' pr').2.1 t) ∧ (∀ j, j < N → (nt_swp N T par wat hgt rs node kind want gate r k tk pr).2.2 j = (nt_swp N T par wat hgt rs node kind want' gate r k tk' pr').2.2 j) := by
  intro r
  induction r with
  | zero =>
    intro k tk tk' pr pr' h1 h2
    exact ⟨rfl, h1, h2⟩
  | succ r ih =>
    intro k tk tk' pr pr' h1 h2
    have F : ∀ j, j < N → nt_PR par wat hgt rs (nt_flow N T par node tk) gate j = nt_PR par wat hgt rs (nt_flow N T par node tk') gate j := nt_PR_c hp (nt_flow_t hN hn hp h1)
    have G : ∀ t, t < T → nt_tk node kind want (nt_PR par wat hgt rs (nt_flow N T par node tk) gate) t = nt_tk node kind want' (nt_PR par wat hgt rs (nt_flow N T par node tk') gate) t := fun t ht => by
      rw [nt_tk_c hn F t ht]
      unfold nt_tk
      rw [hw t ht]
    have hc : (0 < k ∧ ∀ j, j < N → nt_PR par wat hgt rs (nt_flow N T par node tk) gate j = pr j) ↔ (0 < k ∧ ∀ j, j < N → nt_PR par wat hgt rs (nt_flow N T par node tk') gate j = pr' j) :=
      ⟨fun h => ⟨h.1, fun j hj => by rw [← F j hj, h.2 j hj, h2 j hj]⟩, fun h => ⟨h.1, fun j hj => by rw [F j hj, h.2 j hj, h2 j hj]⟩⟩
    by_cases h : 0 < k ∧ ∀ j, j < N → nt_PR par wat hgt rs (nt_flow N T par node tk) gate j = pr j
    · simp only [nt_swp, if_pos h, if_pos (hc.mp h)]
      exact ⟨trivial, G, F⟩
    · simp only [nt_swp, if_neg h, if_neg (fun q => h (hc.mpr q))]
      exact ih (k + 1) _ _ _ _ G F
theorem mq_el_b (q : Bool) (X : mS) : mq_el (if q = true then some (1 : Int32) else none) (fun v => (v, X)) (0, X) = ((if q = true then 1 else 0 : Int32), X) := by
  cases q <;> rfl
theorem M_settles {s : mS} {N T : Nat} (h : NM s N T) (x : Int32) (h0 : 0 ≤ x) (hx : x ≤ 10000) : ∃ w a b c d, f_M_settles x s = (if (nt_settle N T (gI s 127) (gI s 130) (gI s 129) (gI s 147) (gI s 132) (gI s 133) (fun t => f_M_wants (Int32.ofNat t) x s) (gI s 116 11)).1 = true then 1 else 0, nm4 (sA s 142 w) a b c d) ∧ ok_M_settles x s ∧ (∀ t, t < T → w t = f_M_wants (Int32.ofNat t) x s) ∧ (∀ t, t < T → a t = (nt_settle N T (gI s 127) (gI s 130) (gI s 129) (gI s 147) (gI s 132) (gI s 133) (fun t => f_M_wants (Int32.ofNat t) x s) (gI s 116 11)).2.1 t) ∧ (∀ j, j < N → c j = (nt_settle N T (gI s 127) (gI s 130) (gI s 129) (gI s 147) (gI s 132) (gI s 133) (fun t => f_M_wants (Int32.ofNat t) x s) (gI s 116 11)).2.2 j) := by
  have A := M_settles_2 h x h0 hx
  have h1 : NM (sA s 142 (fillA T (fun t => f_M_wants (Int32.ofNat t) x s) (gI s 142))) N T := NM_sA (by decide) h
  have E : sA (sA s 142 (fillA T (fun t => f_M_wants (Int32.ofNat t) x s) (gI s 142))) 143 (fillA T (fun t => f_M_wants (Int32.ofNat t) x s) (gI s 143)) = nm4 (sA s 142 (fillA T (fun t => f_M_wants (Int32.ofNat t) x s) (gI s 142))) (fillA T (fun t => f_M_wants (Int32.ofNat t) x s) (gI s 143)) (gI s 144) (gI s 145) (gI s 146) := by
    unfold nm4
    rw [show gI s 144 = gI (sA (sA s 142 (fillA T (fun t => f_M_wants (Int32.ofNat t) x s) (gI s 142))) 143 (fillA T (fun t => f_M_wants (Int32.ofNat t) x s) (gI s 143))) 144 from rfl, sA_id]
    rw [show gI s 145 = gI (sA (sA s 142 (fillA T (fun t => f_M_wants (Int32.ofNat t) x s) (gI s 142))) 143 (fillA T (fun t => f_M_wants (Int32.ofNat t) x s) (gI s 143))) 145 from rfl, sA_id]
    rw [show gI s 146 = gI (sA (sA s 142 (fillA T (fun t => f_M_wants (Int32.ofNat t) x s) (gI s 142))) 143 (fillA T (fun t => f_M_wants (Int32.ofNat t) x s) (gI s 143))) 146 from rfl, sA_id]
  rw [E] at A
  obtain ⟨v, a, b, c, d, B1, B2, B3, B4⟩ := M_settle_lp h1 12 0 mm_N (fillA T (fun t => f_M_wants (Int32.ofNat t) x s) (gI s 143)) (gI s 144) (gI s 145) (gI s 146) (fun t => f_M_wants (Int32.ofNat t) x s) (fun _ => 0) rfl (by rw [mm_Ns]; omega) (fun t ht => fillA_lt ht) (fun h => absurd h (by decide))
  simp only [fI_sA, gI_sA, Nat.reduceEqDiff, reduceIte] at B1 B3 B4
  have C := nt_swp_c (wat := gI s 130) (hgt := gI s 129) (rs := gI s 147) (kind := gI s 133) (gate := gI s 116 11) h.2.1 h.2.2.2.2.2.1 h.2.2.2.2.2.2 (fun t ht => fillA_lt (w := fun t => f_M_wants (Int32.ofNat t) x s) (g := gI s 142) ht) 12 0 (fun t => f_M_wants (Int32.ofNat t) x s) (fun t => f_M_wants (Int32.ofNat t) x s) (fun _ => 0) (fun _ => 0) (fun _ _ => rfl) (fun _ _ => rfl)
  have B1 : lp_M_settles_42 mm_N 1 _ = _ := B1
  have B2 : okl_M_settles_42 mm_N 1 _ := B2
  refine ⟨fillA T (fun t => f_M_wants (Int32.ofNat t) x s) (gI s 142), a, b, c, d, ?_, ?_, ?_, ?_, ?_⟩
  · unfold f_M_settles
    simp only [mq_let_e, A.1, B1, nt_settle, C.1]
    exact mq_el_b _ _
  · unfold ok_M_settles
    simp only [mq_letP_e, A.1, A.2, B1, B2, true_and]
    split <;> trivial
  · exact fun t ht => fillA_lt ht
  · intro t ht
    rw [B3 t ht, C.2.1 t ht]
    rfl
  · intro j hj
    rw [B4 j hj, C.2.2 j hj]
    rfl
