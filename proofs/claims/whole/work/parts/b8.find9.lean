/-! FIND: the call. -/
theorem op_find (a1 : Int32) (s : mS) (h_net : J_net s) (h_things : J_things s) (h_eyes : J_eyes s) (h_found : J_found s) : ok_G_find a1 s ∧ ok_M_find a1 (f_G_find a1 s).2 ∧ (f_G_find a1 s).1 = (f_M_find a1 (f_G_find a1 s).2).1 ∧ J_found (f_M_find a1 (f_G_find a1 s).2).2 := by
  have kn := h_net
  unfold J_net at kn
  have ke := h_eyes
  unfold J_eyes at ke
  obtain ⟨N, T, hN, hN1, hN2, _, _, _, hpa⟩ := J_sz h_net h_things
  have iN : ix (gI s 116 7) = N := by rw [hN, ix_ofNat (by omega)]
  have h25 : gI s 25 10 = gI s 116 7 := kn.2.2.2.2.1
  obtain ⟨g1, g2⟩ := G_eyes hN hN1 hN2 hpa kn.1 h25 ke.1
  have hf := fr_G_find a1 s
  generalize hu : (f_G_find a1 s).2 = u at hf
  have uN : gI u 116 7 = Int32.ofNat N := by rw [(fpF hf (by decide)).1, hN]
  have uF : J_found u := jf_found hf (by decide) h_found
  obtain ⟨m1, m2, m3⟩ := M_searches uN hN1 hN2 (by rw [(fpA hf (by decide)).1]; exact hpa) uF
  have su := ey_same (s := s) (t := u) (fpA hf (by decide)).1 (fpA hf (by decide)).1 (fpF hf (by decide)).1
  have hp := ey_pn_lt hN hN2 hpa
  have eF : ∀ k, ey_S (ey_F u N k) (2 ^ (N - 1)) = ey_BB s N k 0 := fun k => by
    have al := ey_all (ey_pn s) k hp (ey_z s) (ey_bu s) N hN1 rfl
    unfold ey_BB
    rw [← al]
    refine ey_S_c (fun m _ => ?_)
    unfold ey_F
    rw [su.1, su.2.1, su.2.2]
  have m3' : ∀ k, k < 16 → ey_st (ey_BB s N k 0) (gI (f_M_searches u) 116 100) (gI (f_M_searches u) 116 101) (gI (f_M_searches u) 175 k) := fun k hk => by
    rw [← eF k]
    exact m3 k hk
  have fnd : J_found (f_M_searches u) := by
    refine Or.inr (fun k hk => ?_)
    have s2 := ey_same (s := u) (t := f_M_searches u) (fpA m2 (by decide)).1 (fpA m2 (by decide)).1 (fpF m2 (by decide)).1
    have e : ey_F (f_M_searches u) (ix (gI (f_M_searches u) 116 7)) k = ey_F u N k := by
      funext m
      unfold ey_F
      rw [s2.1, s2.2.1, s2.2.2, (fpF m2 (by decide)).1, uN, ix_ofNat (by omega)]
    have e2 : ix (gI (f_M_searches u) 116 7) = N := by rw [(fpF m2 (by decide)).1, uN, ix_ofNat (by omega)]
    rw [e, e2]
    exact m3 k hk
  have c1 : (¬ (0 ≤ a1 ∧ a1 ≤ 1)) → ((f_Net_hasPipe (if 10 ≤ a1 then a1 - 10 else -1) s = 0) = ¬ (11 ≤ a1 ∧ a1 ≤ 9 + gI u 116 7)) := fun q => by
    rw [z_pipe, h25, hN, uN]
    apply propext
    refine not_congr ?_
    have zN : (9 + Int32.ofNat N).toInt = 9 + N := by
      rw [add_nn, toInt_ofNat (by omega)]
      · rfl
      · rw [toInt_ofNat (by omega)]
        have : (9 : Int32).toInt = 9 := by decide
        omega
      · rw [toInt_ofNat (by omega)]
        have : (9 : Int32).toInt = 9 := by decide
        omega
    have t11 : (11 : Int32).toInt = 11 := by decide
    have t10 : (10 : Int32).toInt = 10 := by decide
    have t16 : (16 : Int32).toInt = 16 := by decide
    have z0 := toInt_0
    by_cases r : 10 ≤ a1
    · rw [if_pos r]
      rw [le_toInt, t10] at r
      have d : (a1 - 10).toInt = a1.toInt - 10 := by
        have := Int32.toInt_lt a1
        rw [sub_nn, t10] <;> rw [t10] <;> omega
      rw [lt_toInt, lt_toInt, lt_toInt, le_toInt, le_toInt, d, zN, toInt_ofNat (by omega), z0, t16, t11]
      omega
    · rw [if_neg r]
      constructor
      · intro w
        exact absurd w.1 (by decide)
      · intro w
        exact absurd (Int32.le_trans (by decide : (10 : Int32) ≤ 11) w.1) r
  generalize hE : f_Eyes_explain s = E at g2
  generalize hM : f_M_searches u = M at m2 m3' fnd
  -- what is answered when it is asked rightly
  have key : ((0 ≤ a1 ∧ a1 ≤ 1) ∨ (11 ≤ a1 ∧ a1 ≤ 9 + gI u 116 7)) → (∃ r, (if E.1 = 0 then ((-1 : Int32), E.2) else if a1 = 0 then (f_Eyes_fewest E.2, E.2) else if a1 = 1 then (f_Eyes_howManySets E.2, E.2) else (f_Eyes_sharePipe (a1 - 10) E.2, E.2)) = (r, E.2) ∧ (if E.1 = 0 then True else if a1 = 0 then True else if a1 = 1 then True else ok_Eyes_sharePipe (a1 - 10) E.2 ∧ True) ∧ (if gI M 116 100 = -1 then ((-1 : Int32), M) else if a1 = 0 then (gI M 116 100, M) else if a1 = 1 then (gI M 116 101, M) else if gI M 175 (ix (a1 - 10)) = gI M 116 101 then (2, M) else if gI M 175 (ix (a1 - 10)) ≤ 0 then (0, M) else (1, M)) = (r, M) ∧ (if gI M 116 100 = -1 then True else if a1 = 0 then True else if a1 = 1 then True else mm_inb (a1 - 10) 16 = true ∧ if gI M 175 (ix (a1 - 10)) = gI M 116 101 then True else mm_inb (a1 - 10) 16 = true ∧ True)) := fun hv => by
    rcases g2 with ⟨e0, en⟩ | ⟨e1, c, W, W1, W2, c16, g106, g107, gk, gs⟩
    · have k0 := m3' 0 (by omega)
      rw [en 0] at k0
      have k0 : gI M 116 100 = -1 := k0
      refine ⟨-1, ?_, ?_, ?_, ?_⟩
      · rw [if_pos e0]
      · rw [if_pos e0]
        trivial
      · rw [if_pos k0]
      · rw [if_pos k0]
        trivial
    · have n10 : ¬ E.1 = 0 := by
        rw [e1]
        decide
      obtain ⟨v0, v0l, eb0⟩ := gk 0
      have k0 := m3' 0 (by omega)
      rw [eb0] at k0
      have k100 : gI M 116 100 = Int32.ofNat c := k0.1
      have k101 : gI M 116 101 = Int32.ofNat W := k0.2.1
      have kn1 : ¬ gI M 116 100 = -1 := by
        rw [k100]
        exact ofNat_ne1 (by omega)
      rw [if_neg n10, if_neg n10, if_neg kn1, if_neg kn1]
      by_cases q0 : a1 = 0
      · refine ⟨Int32.ofNat c, ?_, ?_, ?_, ?_⟩
        · rw [if_pos q0]
          show (gI _ 106 0, _) = _
          rw [g106]
        · rw [if_pos q0]
          trivial
        · rw [if_pos q0, k100]
        · rw [if_pos q0]
          trivial
      · rw [if_neg q0, if_neg q0, if_neg q0, if_neg q0]
        by_cases q1 : a1 = 1
        · refine ⟨Int32.ofNat W, ?_, ?_, ?_, ?_⟩
          · rw [if_pos q1]
            show (gI _ 107 0, _) = _
            rw [g107]
          · rw [if_pos q1]
            trivial
          · rw [if_pos q1, k101]
          · rw [if_pos q1]
            trivial
        · rw [if_neg q1, if_neg q1, if_neg q1, if_neg q1]
          have hv : 11 ≤ a1 ∧ a1 ≤ 9 + gI u 116 7 := hv.resolve_left (fun w => by
            have w1 := w.1
            have w2 := w.2
            grind)
          have zN : (9 + Int32.ofNat N).toInt = 9 + N := by
            rw [add_nn, toInt_ofNat (by omega)]
            · rfl
            · rw [toInt_ofNat (by omega)]
              have : (9 : Int32).toInt = 9 := by decide
              omega
            · rw [toInt_ofNat (by omega)]
              have : (9 : Int32).toInt = 9 := by decide
              omega
          have t11 : (11 : Int32).toInt = 11 := by decide
          have t10 : (10 : Int32).toInt = 10 := by decide
          rw [uN, le_toInt, le_toInt, zN, t11] at hv
          have d : (a1 - 10).toInt = a1.toInt - 10 := by
            have := Int32.toInt_lt a1
            rw [sub_nn, t10] <;> rw [t10] <;> omega
          obtain ⟨n, hn⟩ : ∃ n, ix (a1 - 10) = n := ⟨_, rfl⟩
          have hn' : (a1 - 10).toInt.toNat = n := hn
          have n1 : 1 ≤ n := by omega
          have n2 : n < N := by omega
          have a0 : a1 - 10 = Int32.ofNat n := by
            rw [← hn]
            refine (ofNat_ix ?_).symm
            rw [le_toInt, d, toInt_0]
            omega
          obtain ⟨v, vl, ebn⟩ := gk n
          have kn' := m3' n (by omega)
          rw [ebn] at kn'
          have k175 : gI M 175 n = Int32.ofNat v := kn'.2.2.1
          have sh := gs n n1 n2
          rw [ebn] at sh
          have sh1 : f_Eyes_sharePipe (Int32.ofNat n) E.2 = ey_sh v W := sh.1
          have bb : mm_inb (Int32.ofNat n) 16 = true := inb_ofNat (by decide) (by omega)
          have en2 : ix (Int32.ofNat n) = n := ix_ofNat (by omega)
          rw [a0, en2, k175, k101]
          have q2 : (Int32.ofNat v = Int32.ofNat W) = (v = W) := propext (ofNat_inj (by omega) (by omega))
          have q3 : (Int32.ofNat v ≤ 0) = (v = 0) := by
            rw [show (0 : Int32) = Int32.ofNat 0 from rfl, ofNat_le (by omega) (by omega)]
            apply propext
            omega
          refine ⟨ey_sh v W, ?_, ⟨sh.2, trivial⟩, ?_, ?_⟩
          · rw [sh1]
          · simp only [q2, q3]
            unfold ey_sh
            by_cases x1 : v = W
            · rw [if_pos x1, if_pos x1]
            · rw [if_neg x1, if_neg x1]
              by_cases x2 : v = 0
              · rw [if_pos x2, if_pos x2]
              · rw [if_neg x2, if_neg x2]
          · simp only [bb, true_and, ite_self]
  by_cases c0 : 0 ≤ a1 ∧ a1 ≤ 1
  · obtain ⟨r, r1, r2, r3, r4⟩ := key (Or.inl c0)
    have w0 : ¬ f_G_within a1 0 1 s = 0 := by
      rw [z_within]
      exact fun q => q c0
    have i0 : ¬ f_M_isIn a1 0 1 u = 0 := by
      rw [z_isIn]
      exact fun q => q c0
    have fg : f_G_find a1 s = (r, E.2) := by
      unfold f_G_find
      simp only [hE, hM, mq_let_e, w0, if_false]
      exact r1
    have fm : f_M_find a1 u = (r, M) := by
      unfold f_M_find
      simp only [hE, hM, mq_let_e, i0, if_false]
      exact r3
    refine ⟨?_, ?_, by rw [fg, fm], by rw [fm]; exact fnd⟩
    · unfold ok_G_find
      simp only [hE, hM, mq_letP_e, w0, if_false, true_and, and_true]
      refine ⟨g1, ?_⟩
      revert r2
      simp only [and_true]
      exact fun r2 => r2
    · unfold ok_M_find
      simp only [hE, hM, mq_letP_e, i0, if_false, true_and, and_true]
      refine ⟨m1, ?_⟩
      revert r4
      simp only [and_true]
      exact fun r4 => r4
  · have w0 : f_G_within a1 0 1 s = 0 := by
      rw [z_within]
      exact c0
    have i0 : f_M_isIn a1 0 1 u = 0 := by
      rw [z_isIn]
      exact c0
    have cc := c1 c0
    by_cases c2 : 11 ≤ a1 ∧ a1 ≤ 9 + gI u 116 7
    · obtain ⟨r, r1, r2, r3, r4⟩ := key (Or.inr c2)
      have p0 : ¬ f_Net_hasPipe (if 10 ≤ a1 then a1 - 10 else -1) s = 0 := by
        rw [cc]
        exact fun q => q c2
      have i1 : ¬ f_M_isIn a1 11 (9 + gI u 116 7) u = 0 := by
        rw [z_isIn]
        exact fun q => q c2
      have fg : f_G_find a1 s = (r, E.2) := by
        unfold f_G_find
        simp only [hE, hM, mq_let_e, w0, if_true, p0, if_false]
        exact r1
      have fm : f_M_find a1 u = (r, M) := by
        unfold f_M_find
        simp only [hE, hM, mq_let_e, i0, if_true, i1, if_false]
        exact r3
      refine ⟨?_, ?_, by rw [fg, fm], by rw [fm]; exact fnd⟩
      · unfold ok_G_find
        simp only [hE, hM, mq_letP_e, w0, if_true, p0, if_false, true_and, and_true]
        refine ⟨g1, ?_⟩
        revert r2
        simp only [and_true]
        exact fun r2 => r2
      · unfold ok_M_find
        simp only [hE, hM, mq_letP_e, i0, if_true, i1, if_false, true_and, and_true]
        refine ⟨m1, ?_⟩
        revert r4
        simp only [and_true]
        exact fun r4 => r4
    · have p0 : f_Net_hasPipe (if 10 ≤ a1 then a1 - 10 else -1) s = 0 := by
        rw [cc]
        exact c2
      have i1 : f_M_isIn a1 11 (9 + gI u 116 7) u = 0 := by
        rw [z_isIn]
        exact c2
      have fg : f_G_find a1 s = (-1, s) := by
        unfold f_G_find
        simp only [hE, hM, mq_let_e, w0, if_true, p0]
      have fm : f_M_find a1 u = (-1, u) := by
        unfold f_M_find
        simp only [hE, hM, mq_let_e, i0, if_true, i1]
      refine ⟨?_, ?_, by rw [fg, fm], by rw [fm]; exact uF⟩
      · unfold ok_G_find
        simp only [hE, hM, mq_letP_e, w0, if_true, p0, true_and]
      · unfold ok_M_find
        simp only [hE, hM, mq_letP_e, i0, if_true, i1, true_and]
