/-! ACT: both alike. -/
theorem M_act_E {u : mS} {A : aC} {L : Nat} (hW : aW A) (hA : aM u A) (hL : L ≤ 600) (h80 : gI u 116 80 = Int32.ofNat L) (a1 a2 : Int32) : (¬ (0 ≤ a1 ∧ a1 ≤ 3) ∨ ¬ (0 ≤ a2 ∧ a2 ≤ 41) → ok_M_act a1 a2 u ∧ f_M_act a1 a2 u = (-1, sI (sI (sI u 116 87 0) 116 89 (-1)) 116 80 0)) ∧ ((0 ≤ a1 ∧ a1 ≤ 3) → (0 ≤ a2 ∧ a2 ≤ 41) → (∀ Ls, rp_act (tz (gI u 167) L) mm_N mm_N 0 0 (rp_v (tz (gI u 167) L) (gI u 116 84) 0) = .inr Ls → Ls.length ≤ 24) → ok_M_act a1 a2 u ∧ gI (f_M_act a1 a2 u).2 116 80 = 0 ∧ (match rp_act (tz (gI u 167) L) mm_N mm_N 0 0 (rp_v (tz (gI u 167) L) (gI u 116 84) 0) with
    | .inl e => (f_M_act a1 a2 u).1 = -1 ∧ aM (f_M_act a1 a2 u).2 A ∧ gI (f_M_act a1 a2 u).2 116 87 = Int32.ofNat e.1 ∧ gI (f_M_act a1 a2 u).2 116 89 = Int32.ofNat e.2
    | .inr Ls => (f_M_act a1 a2 u).1 = Int32.ofNat Ls.length ∧ aM (f_M_act a1 a2 u).2 (up A (ix a1) (some (a2, Ls.map cl_of))) ∧ gI (f_M_act a1 a2 u).2 116 87 = 0 ∧ gI (f_M_act a1 a2 u).2 116 89 = -1)) := by
  constructor
  · intro h
    by_cases r1 : 0 ≤ a1 ∧ a1 ≤ 3
    · have r2 := h.resolve_left (fun q => q r1)
      constructor
      · simp only [ok_M_act, mq_letP_e, z_isIn, ite_not, if_pos r1, if_neg r2, true_and]
      · simp only [f_M_act, mq_let_e, z_isIn, ite_not, if_pos r1, if_neg r2]
    · constructor
      · simp only [ok_M_act, mq_letP_e, z_isIn, ite_not, if_neg r1, true_and]
      · simp only [f_M_act, mq_let_e, z_isIn, ite_not, if_neg r1]
  · intro r1 r2 h24
    obtain ⟨n, hn⟩ : ∃ n, ix a1 = n := ⟨_, rfl⟩
    have n4 : n < 4 := by
      rw [← hn]
      exact ix_lt (by decide) r1.1 (Int32.lt_of_le_of_lt r1.2 (by decide))
    have ea : a1 = Int32.ofNat n := by
      rw [← hn]
      exact (ofNat_ix r1.1).symm
    have bA : mm_inb (Int32.ofNat n) 4 = true := inb_ofNat (by decide) n4
    -- the beginning
    obtain ⟨s6, hs6⟩ : ∃ s6, sI (sI (sI (sI (sI (sI u 116 87 0) 116 89 (-1)) 116 85 0) 116 81 0) 116 78 0) 116 79 0 = s6 := ⟨_, rfl⟩
    have g6 : ∀ j, j ≠ 87 → j ≠ 89 → j ≠ 85 → j ≠ 81 → j ≠ 78 → j ≠ 79 → gI s6 116 j = gI u 116 j := fun j a b c d e f => by
      rw [← hs6, gI_sI, if_neg (fun q => f q.2), gI_sI, if_neg (fun q => e q.2), gI_sI, if_neg (fun q => d q.2), gI_sI, if_neg (fun q => c q.2), gI_sI, if_neg (fun q => b q.2), gI_sI, if_neg (fun q => a q.2)]
    have gc : ∀ c, c ≠ 116 → gI s6 c = gI u c := fun c hc => by
      rw [← hs6, fI_sI, if_neg hc, fI_sI, if_neg hc, fI_sI, if_neg hc, fI_sI, if_neg hc, fI_sI, if_neg hc, fI_sI, if_neg hc]
    have y79 : gI s6 116 79 = Int32.ofNat 0 := by
      rw [← hs6, gI_sI, if_pos ⟨rfl, rfl⟩]
      rfl
    have y78 : gI s6 116 78 = Int32.ofNat 0 := by
      rw [← hs6, gI_sI, if_neg (fun q => absurd q.2 (by decide)), gI_sI, if_pos ⟨rfl, rfl⟩]
      rfl
    have y81 : gI s6 116 81 = Int32.ofNat 0 := by
      rw [← hs6, gI_sI, if_neg (fun q => absurd q.2 (by decide)), gI_sI, if_neg (fun q => absurd q.2 (by decide)), gI_sI, if_pos ⟨rfl, rfl⟩]
      rfl
    have y85 : gI s6 116 85 = 0 := by
      rw [← hs6, gI_sI, if_neg (fun q => absurd q.2 (by decide)), gI_sI, if_neg (fun q => absurd q.2 (by decide)), gI_sI, if_neg (fun q => absurd q.2 (by decide)), gI_sI, if_pos ⟨rfl, rfl⟩]
    have y80 : gI s6 116 80 = Int32.ofNat L := by rw [g6 80 (by decide) (by decide) (by decide) (by decide) (by decide) (by decide), h80]
    have y84 : gI s6 116 84 = gI u 116 84 := g6 84 (by decide) (by decide) (by decide) (by decide) (by decide) (by decide)
    have y167 := gc 167 (by decide)
    obtain ⟨a1', a2', a3'⟩ := M_next y80 hL (Nat.zero_le L) y81
    rw [y167, y84] at a3'
    generalize hz : f_M_next0 s6 = z at a2' a3'
    have K0 : mK0 (gI u 167) L z 0 0 (rp_v (tz (gI u 167) L) (gI u 116 84) 0) := ⟨by rw [(fpF a2' (by decide)).1, y80], by rw [(fpA a2' (by decide)).1, y167], by rw [(fpF a2' (by decide)).1, y79], a3', Nat.zero_le L, by rw [(fpF a2' (by decide)).1, y85]⟩
    obtain ⟨LP1, LP2⟩ := M_actlp hL a1 a2 mm_N 0 0 _ 0 z K0 (Nat.le_refl 0) (by rw [(fpF a2' (by decide)).1, y78]) (Nat.zero_le 24)
    have LP2 := LP2 (by rw [mm_Ns]; omega)
    generalize hw : lp_M_act_62 a1 a2 mm_N 1 z = w at LP1
    have wc : ∀ c, c ≠ 116 → c ≠ 163 → c ≠ 164 → c ≠ 165 → c ≠ 166 → gI w.2 c = gI u c := fun c a b d e f => by
      rw [← gc c a]
      funext j
      exact ((LP1.1.1 c (by simp [b, d, e, f]) (by simp) j (by simp [mLR, a])).1).trans ((a2'.1 c (by simp) (by simp) j (by simp [a])).1)
    cases hres : rp_act (tz (gI u 167) L) mm_N mm_N 0 0 (rp_v (tz (gI u 167) L) (gI u 116 84) 0) with
    | inl e =>
      rw [hres] at LP1
      obtain ⟨F, b1, b2, b3⟩ := LP1
      have ef : f_M_act a1 a2 u = (-1, sI (sI (sI w.2 116 80 0) 116 87 (gI w.2 116 85)) 116 89 (gI w.2 116 86)) := by
        simp only [f_M_act, mq_let_e, z_isIn, ite_not, if_pos r1, if_pos r2, hs6, hz, hw, if_pos b1]
      have eo : ok_M_act a1 a2 u := by
        simp only [ok_M_act, mq_letP_e, z_isIn, ite_not, if_pos r1, if_pos r2, hs6, hz, hw, if_pos b1, a1', LP2, true_and]
      rw [ef]
      have gz : ∀ c, c ≠ 116 → gI (sI (sI (sI w.2 116 80 0) 116 87 (gI w.2 116 85)) 116 89 (gI w.2 116 86)) c = gI w.2 c := fun c hc => by
        rw [fI_sI, if_neg hc, fI_sI, if_neg hc, fI_sI, if_neg hc]
      refine ⟨eo, ?_, rfl, aM_fr ⟨?_, ?_, ?_, ?_, ?_, ?_⟩ hA, ?_, ?_⟩
      · rw [gI_sI, if_neg (fun q => absurd q.2 (by decide)), gI_sI, if_neg (fun q => absurd q.2 (by decide)), gI_sI, if_pos ⟨rfl, rfl⟩]
      · exact (gz 157 (by decide)).trans (wc 157 (by decide) (by decide) (by decide) (by decide) (by decide))
      · exact (gz 158 (by decide)).trans (wc 158 (by decide) (by decide) (by decide) (by decide) (by decide))
      · exact (gz 159 (by decide)).trans (wc 159 (by decide) (by decide) (by decide) (by decide) (by decide))
      · exact (gz 160 (by decide)).trans (wc 160 (by decide) (by decide) (by decide) (by decide) (by decide))
      · exact (gz 161 (by decide)).trans (wc 161 (by decide) (by decide) (by decide) (by decide) (by decide))
      · exact (gz 162 (by decide)).trans (wc 162 (by decide) (by decide) (by decide) (by decide) (by decide))
      · rw [gI_sI, if_neg (fun q => absurd q.2 (by decide)), gI_sI, if_pos ⟨rfl, rfl⟩, b2]
      · rw [gI_sI, if_pos ⟨rfl, rfl⟩, b3]
    | inr Ls =>
      have l24 := h24 Ls hres
      rw [hres] at LP1
      obtain ⟨F, b1, b2, b3, b4, b5, b6, b7, _, _⟩ := LP1
      have b2 : gI w.2 116 78 = Int32.ofNat Ls.length := by
        rw [b2]
        congr 1
        omega
      have b3 : gI w.2 116 79 = Int32.ofNat (mcode Ls).length := by
        rw [b3]
        congr 1
        omega
      have n0 : ¬ w.1 = 0 := by
        rw [b1]
        decide
      obtain ⟨s3, hs3⟩ : ∃ s3, sI (sI (sI (sI (sI w.2 116 80 0) 116 87 (gI w.2 116 85)) 116 89 (-1)) 157 n a2) 158 n (gI w.2 116 78) = s3 := ⟨_, rfl⟩
      have p116 : ∀ j, j ≠ 80 → j ≠ 87 → j ≠ 89 → gI s3 116 j = gI w.2 116 j := fun j a b c => by
        rw [← hs3, gI_sI, if_neg (fun q => absurd q.1 (by decide)), gI_sI, if_neg (fun q => absurd q.1 (by decide)), gI_sI, if_neg (fun q => c q.2), gI_sI, if_neg (fun q => b q.2), gI_sI, if_neg (fun q => a q.2)]
      have pc : ∀ c, c ≠ 116 → c ≠ 157 → c ≠ 158 → gI s3 c = gI w.2 c := fun c a b d => by
        rw [← hs3, fI_sI, if_neg d, fI_sI, if_neg b, fI_sI, if_neg a, fI_sI, if_neg a, fI_sI, if_neg a]
      obtain ⟨x, c1, c2, c3, c4, c5, c6⟩ := M_cp1 (s := s3) (a := n) n4 l24 (by rw [p116 78 (by decide) (by decide) (by decide), b2])
      have x78 : gI x 116 78 = Int32.ofNat Ls.length := by rw [(fpF c3 (by decide)).1, p116 78 (by decide) (by decide) (by decide), b2]
      have x79 : gI x 116 79 = Int32.ofNat (mcode Ls).length := by rw [(fpF c3 (by decide)).1, p116 79 (by decide) (by decide) (by decide), b3]
      obtain ⟨s4, hs4⟩ : ∃ s4, sI x 160 (25 * n + Ls.length) (Int32.ofNat (mcode Ls).length) = s4 := ⟨_, rfl⟩
      have mlen : (mcode Ls).length ≤ 600 := by omega
      obtain ⟨y, d1, d2, d3, d4⟩ := M_cp2 (s := s4) (a := n) n4 mlen (by rw [← hs4, gI_sI, if_neg (fun q => absurd q.1 (by decide)), x79])
      have m25' := m25 n Ls.length
      have e5 : ix (Int32.ofNat (25 * n + Ls.length)) = 25 * n + Ls.length := ix_ofNat (by omega)
      have bb : mm_inb (Int32.ofNat (25 * n + Ls.length)) 100 = true := inb_ofNat (by decide) (by omega)
      have y78 : gI y 116 78 = Int32.ofNat Ls.length := by rw [(fpF d3 (by decide)).1, ← hs4, gI_sI, if_neg (fun q => absurd q.1 (by decide)), x78]
      have ef : f_M_act a1 a2 u = (Int32.ofNat Ls.length, y) := by
        simp only [f_M_act, mq_let_e, z_isIn, ite_not, if_pos r1, if_pos r2, hs6, hz, hw, if_neg n0, hn, hs3]
        simp only [ea, c1, x78, x79, m25', e5, hs4, d1, y78]
      have eo : ok_M_act a1 a2 u := by
        simp only [ok_M_act, mq_letP_e, z_isIn, ite_not, if_pos r1, if_pos r2, hs6, hz, hw, if_neg n0, hn, hs3, a1', LP2, true_and]
        simp only [ea, bA, c1, c2, x78, x79, m25', e5, bb, hs4, d1, d2, true_and, and_self]
      rw [ef]
      have q116 : ∀ j, gI y 116 j = gI s3 116 j := fun j => by
        rw [(fpF d3 (by simp [fpd])).1, ← hs4, gI_sI, if_neg (fun q => absurd q.1 (by decide)), (fpF c3 (by simp [fpd])).1]
      have y157 : gI y 157 = up (gI u 157) n a2 := by
        rw [(fpA d3 (by decide)).1, ← hs4, fI_sI, if_neg (by decide), (fpA c3 (by decide)).1, ← hs3, fI_sI, if_neg (by decide), fI_sI, if_pos rfl, fI_sI, if_neg (by decide), fI_sI, if_neg (by decide), fI_sI, if_neg (by decide), wc 157 (by decide) (by decide) (by decide) (by decide) (by decide)]
      have y158 : gI y 158 = up (gI u 158) n (Int32.ofNat Ls.length) := by
        rw [(fpA d3 (by decide)).1, ← hs4, fI_sI, if_neg (by decide), (fpA c3 (by decide)).1, ← hs3, fI_sI, if_pos rfl, fI_sI, if_neg (by decide), fI_sI, if_neg (by decide), fI_sI, if_neg (by decide), fI_sI, if_neg (by decide), wc 158 (by decide) (by decide) (by decide) (by decide) (by decide), b2]
      have y159 : ∀ j, gI y 159 j = if 24 * n ≤ j ∧ j < 24 * n + Ls.length then gI w.2 163 (j - 24 * n) else gI u 159 j := fun j => by
        rw [(fpA d3 (by decide)).1, ← hs4, gI_sI, if_neg (fun q => absurd q.1 (by decide)), c4 j, pc 163 (by decide) (by decide) (by decide), pc 159 (by decide) (by decide) (by decide), wc 159 (by decide) (by decide) (by decide) (by decide) (by decide)]
      have y161 : ∀ j, gI y 161 j = if 24 * n ≤ j ∧ j < 24 * n + Ls.length then gI w.2 165 (j - 24 * n) else gI u 161 j := fun j => by
        rw [(fpA d3 (by decide)).1, ← hs4, gI_sI, if_neg (fun q => absurd q.1 (by decide)), c6 j, pc 165 (by decide) (by decide) (by decide), pc 161 (by decide) (by decide) (by decide), wc 161 (by decide) (by decide) (by decide) (by decide) (by decide)]
      have y160 : ∀ j, gI y 160 j = if j = 25 * n + Ls.length then Int32.ofNat (mcode Ls).length else if 25 * n ≤ j ∧ j < 25 * n + Ls.length then gI w.2 164 (j - 25 * n) else gI u 160 j := fun j => by
        rw [(fpA d3 (by decide)).1, ← hs4, gI_sI]
        by_cases e : j = 25 * n + Ls.length
        · rw [if_pos ⟨rfl, e⟩, if_pos e]
        · rw [if_neg (fun q => e q.2), if_neg e, c5 j, pc 164 (by decide) (by decide) (by decide), pc 160 (by decide) (by decide) (by decide), wc 160 (by decide) (by decide) (by decide) (by decide) (by decide)]
      have s4_166 : gI s4 166 = gI w.2 166 := by
        rw [← hs4, fI_sI, if_neg (by decide), (fpA c3 (by decide)).1, pc 166 (by decide) (by decide) (by decide)]
      have s4_162 : gI s4 162 = gI u 162 := by
        rw [← hs4, fI_sI, if_neg (by decide), (fpA c3 (by decide)).1, pc 162 (by decide) (by decide) (by decide), wc 162 (by decide) (by decide) (by decide) (by decide) (by decide)]
      have y162 : ∀ j, gI y 162 j = if 1220 * n ≤ j ∧ j < 1220 * n + 2 * (mcode Ls).length then gI w.2 166 (j - 1220 * n) else gI u 162 j := fun j => by
        rw [d4 j, s4_166, s4_162]
      refine ⟨eo, ?_, rfl, ⟨fun k hk hnone => ?_, fun k hk d Ls' hsome => ?_⟩, ?_, ?_⟩
      · rw [q116 80, ← hs3, gI_sI, if_neg (fun q => absurd q.1 (by decide)), gI_sI, if_neg (fun q => absurd q.1 (by decide)), gI_sI, if_neg (fun q => absurd q.2 (by decide)), gI_sI, if_neg (fun q => absurd q.2 (by decide)), gI_sI, if_pos ⟨rfl, rfl⟩]
      · have kn : k ≠ n := fun q => by
          rw [q, hn, up_self] at hnone
          cases hnone
        rw [hn, up_ne kn] at hnone
        show gI y 157 k = -1
        rw [y157, up_ne kn]
        exact hA.1 k hk hnone
      · rw [hn] at hsome
        show gI y 157 k = d ∧ gI y 158 k = Int32.ofNat Ls'.length ∧ cl_Ms y k 0 Ls'
        by_cases kn : k = n
        · rw [kn, up_self] at hsome
          have hsome := Option.some.inj hsome
          have e1 : a2 = d := congrArg Prod.fst hsome
          have e2 : Ls.map cl_of = Ls' := congrArg Prod.snd hsome
          rw [kn, ← e1, ← e2, y157, y158, up_self, up_self, List.length_map]
          refine ⟨rfl, rfl, cl_Ms_w (e0 := (mcode Ls).length) (by omega) (gI w.2 163) (gI w.2 164) (gI w.2 165) Ls 0 0 (fun i _ hi => ?_) ?_ (Nat.zero_add _) ?_ (fun t e1 e2 e3 => ?_)⟩
          · have hi : i < Ls.length := by omega
            refine ⟨?_, ?_, ?_⟩
            · rw [y159, if_pos (by omega), show 24 * n + i - 24 * n = i by omega]
            · rw [y160, if_neg (by omega), if_pos (by omega), show 25 * n + i - 25 * n = i by omega]
            · rw [y161, if_pos (by omega), show 24 * n + i - 24 * n = i by omega]
          · rw [y160, if_pos (by omega)]
          · refine c_sgm_b (a := gI w.2 166) (b := 0) (fun j _ hj => ?_) b7
            rw [y162, if_pos (by omega), Nat.zero_add, show 1220 * n + j - 1220 * n = j by omega]
          · have tr : ∀ (Ls : List rlL) (l m : Nat), mtab w.2 l m Ls → mtab t l m Ls := by
              intro Ls
              induction Ls with
              | nil => exact fun _ _ _ => trivial
              | cons y Ls ih =>
                intro l m ⟨t1, t2, t3, t4⟩
                exact ⟨by rw [e1]; exact t1, by rw [e2]; exact t2, by rw [e3]; exact t3, ih _ _ t4⟩
            exact tr Ls 0 0 b6
        · rw [up_ne kn] at hsome
          obtain ⟨q1, q2, q3⟩ := hA.2 k hk d Ls' hsome
          have hl := (hW k hk d Ls' hsome).2.2.1
          rw [y157, y158, up_ne kn, up_ne kn]
          refine ⟨q1, q2, cl_Ms_keep (fun j h1 h2 => ⟨?_, ?_⟩) (fun j h1 h2 => ?_) (fun j hj => ?_) (by omega) q3⟩
          · rw [y159, if_neg (by omega)]
          · rw [y161, if_neg (by omega)]
          · rw [y160, if_neg (by omega), if_neg (by omega)]
          · rw [y162, if_neg (by omega)]
      · rw [q116 87, ← hs3, gI_sI, if_neg (fun q => absurd q.1 (by decide)), gI_sI, if_neg (fun q => absurd q.1 (by decide)), gI_sI, if_neg (fun q => absurd q.2 (by decide)), gI_sI, if_pos ⟨rfl, rfl⟩, b5]
      · rw [q116 89, ← hs3, gI_sI, if_neg (fun q => absurd q.1 (by decide)), gI_sI, if_neg (fun q => absurd q.1 (by decide)), gI_sI, if_pos ⟨rfl, rfl⟩]
theorem op_act (a1 a2 : Int32) (s : mS) (h_tape : J_tape s) (h_acts : J_acts s) : ok_G_act a1 a2 s ∧ ok_M_act a1 a2 (f_G_act a1 a2 s).2 ∧ (f_G_act a1 a2 s).1 = (f_M_act a1 a2 (f_G_act a1 a2 s).2).1 ∧ J_tape (f_M_act a1 a2 (f_G_act a1 a2 s).2).2 ∧ J_acts (f_M_act a1 a2 (f_G_act a1 a2 s).2).2 ∧ actF s (f_G_act a1 a2 s).2 := by
  obtain ⟨A, hW, hG, hM⟩ := h_acts
  have kt := h_tape
  unfold J_tape at kt
  obtain ⟨L, hL⟩ : ∃ L, gI s 116 80 = Int32.ofNat L ∧ ix (gI s 116 80) = L := ⟨ix (gI s 116 80), (ofNat_ix kt.2.2.1).symm, rfl⟩
  have hL6 : L ≤ 600 := by
    have q : ix (gI s 116 80) < 601 := ix_lt (by decide) kt.2.2.1 (Int32.lt_of_le_of_lt kt.2.2.2.1 (by decide))
    omega
  have h5 : gI s 36 5 = Int32.ofNat L := by rw [kt.2.1, hL.1]
  have mfr := fr_M_act a1 a2 (f_G_act a1 a2 s).2
  by_cases good : (0 ≤ a1 ∧ a1 ≤ 3) ∧ (0 ≤ a2 ∧ a2 ≤ 41)
  · obtain ⟨r1, r2⟩ := good
    have G0 := fun v0 => (G_act_E (A := A) hG hL6 h5 a1 a2 v0).2 r1 r2
    have aF := (G0 0).2.1
    generalize hu : f_G_act a1 a2 s = u at G0 aF mfr
    have u167 : gI u.2 167 = gI s 37 := by
      rw [kt.1]
      exact funext fun j => aF.1 167 j (by omega) (Or.inl (by decide))
    have u80 : gI u.2 116 80 = Int32.ofNat L := by rw [aF.1 116 80 (by omega) (Or.inl (by decide)), hL.1]
    have uM : aM u.2 A := aM_fr ⟨funext fun j => aF.1 157 j (by omega) (Or.inl (by decide)), funext fun j => aF.1 158 j (by omega) (Or.inl (by decide)), funext fun j => aF.1 159 j (by omega) (Or.inl (by decide)), funext fun j => aF.1 160 j (by omega) (Or.inl (by decide)), funext fun j => aF.1 161 j (by omega) (Or.inl (by decide)), funext fun j => aF.1 162 j (by omega) (Or.inl (by decide))⟩ hM
    have G := G0 (rp_v (tz (gI u.2 167) L) (gI u.2 116 84) 0)
    rw [← u167] at G
    have E := (M_act_E (u := u.2) hW uM hL6 u80 a1 a2).2 r1 r2 (fun Ls hLs => by
      have := G.2.2.2
      rw [hLs] at this
      exact this.2.1)
    obtain ⟨g1, g2, g3, g4⟩ := G
    obtain ⟨e1, e2, e3⟩ := E
    generalize f_M_act a1 a2 u.2 = w at e2 e3 mfr
    have w37 : gI w.2 37 = gI w.2 167 := by
      rw [(fpA mfr (by decide)).1, (fpA mfr (by decide)).1, u167]
      exact funext fun j => aF.1 37 j (by omega) (Or.inl (by decide))
    have w5 : gI w.2 36 5 = gI w.2 116 80 := by rw [(fpF mfr (by decide)).1, g3, e2]
    have z80 : 0 ≤ gI w.2 116 80 ∧ gI w.2 116 80 ≤ 600 := by
      rw [e2]
      decide
    cases hres : rp_act (tz (gI u.2 167) L) mm_N mm_N 0 0 (rp_v (tz (gI u.2 167) L) (gI u.2 116 84) 0) with
    | inl e =>
      rw [hres] at g4 e3
      refine ⟨g1, e1, by rw [g4.1, e3.1], ⟨w37, w5, z80.1, z80.2, ?_, ?_⟩, ⟨A, hW, aG_fp mfr (by decide) g4.2.1, e3.2.1⟩, aF⟩
      · rw [(fpF mfr (by decide)).1, g4.2.2.1, e3.2.2.1]
      · rw [(fpF mfr (by decide)).1, g4.2.2.2, e3.2.2.2]
    | inr Ls =>
      have wW : aW (up A (ix a1) (some (a2, Ls.map cl_of))) := fun k hk d Ls' hs => by
        by_cases kn : k = ix a1
        · rw [kn, up_self] at hs
          have hs := Option.some.inj hs
          have e1 : a2 = d := congrArg Prod.fst hs
          have e2 : Ls.map cl_of = Ls' := congrArg Prod.snd hs
          rw [hres] at g4
          rw [← e1, ← e2, List.length_map]
          refine ⟨r2.1, r2.2, g4.2.1, fun l hl => ?_⟩
          obtain ⟨y, y1, y2⟩ := List.mem_map.mp hl
          have g := gR_act_W _ _ _ _ _ hres y y1
          rw [← y2]
          exact ⟨g.1, g.2.1⟩
        · rw [up_ne kn] at hs
          exact hW k hk d Ls' hs
      rw [hres] at g4 e3
      refine ⟨g1, e1, by rw [g4.1, e3.1], ⟨w37, w5, z80.1, z80.2, ?_, ?_⟩, ⟨_, wW, aG_fp mfr (by decide) g4.2.2.1, e3.2.1⟩, aF⟩
      · rw [(fpF mfr (by decide)).1, g4.2.2.2.1, e3.2.2.1]
      · rw [(fpF mfr (by decide)).1, g4.2.2.2.2, e3.2.2.2]
  · have bad : ¬ (0 ≤ a1 ∧ a1 ≤ 3) ∨ ¬ (0 ≤ a2 ∧ a2 ≤ 41) := by
      by_cases q : 0 ≤ a1 ∧ a1 ≤ 3
      · exact Or.inr (fun r => good ⟨q, r⟩)
      · exact Or.inl q
    obtain ⟨g1, g2⟩ := (G_act_E (A := A) hG hL6 h5 a1 a2 0).1 bad
    rw [g2] at mfr ⊢
    have fs : fp [] [(36, 5), (36, 6), (36, 7)] false s (sI (sI (sI s 36 5 0) 36 6 0) 36 7 (-1)) := fp_IF (fp_IF (fp_IF fp_r (by decide)) (by decide)) (by decide)
    have u80 : gI (sI (sI (sI s 36 5 0) 36 6 0) 36 7 (-1)) 116 80 = Int32.ofNat L := by rw [(fpF fs (by decide)).1, hL.1]
    obtain ⟨e1, e2⟩ := (M_act_E (u := sI (sI (sI s 36 5 0) 36 6 0) 36 7 (-1)) hW (aM_fp fs (by decide) hM) hL6 u80 a1 a2).1 bad
    have x5 : gI (sI (sI (sI s 36 5 0) 36 6 0) 36 7 (-1)) 36 5 = 0 := by
      rw [gI_sI, if_neg (fun q => absurd q.2 (by decide)), gI_sI, if_neg (fun q => absurd q.2 (by decide)), gI_sI, if_pos ⟨rfl, rfl⟩]
    have x6 : gI (sI (sI (sI s 36 5 0) 36 6 0) 36 7 (-1)) 36 6 = 0 := by
      rw [gI_sI, if_neg (fun q => absurd q.2 (by decide)), gI_sI, if_pos ⟨rfl, rfl⟩]
    have x7 : gI (sI (sI (sI s 36 5 0) 36 6 0) 36 7 (-1)) 36 7 = -1 := by
      rw [gI_sI, if_pos ⟨rfl, rfl⟩]
    rw [e2]
    have fs2 : fp [] [(116, 80), (116, 87), (116, 89)] false (sI (sI (sI s 36 5 0) 36 6 0) 36 7 (-1)) (sI (sI (sI (sI (sI (sI s 36 5 0) 36 6 0) 36 7 (-1)) 116 87 0) 116 89 (-1)) 116 80 0) := fp_IF (fp_IF (fp_IF fp_r (by decide)) (by decide)) (by decide)
    have z80 : gI (sI (sI (sI (sI (sI (sI s 36 5 0) 36 6 0) 36 7 (-1)) 116 87 0) 116 89 (-1)) 116 80 0) 116 80 = 0 := by
      rw [gI_sI, if_pos ⟨rfl, rfl⟩]
    have z87 : gI (sI (sI (sI (sI (sI (sI s 36 5 0) 36 6 0) 36 7 (-1)) 116 87 0) 116 89 (-1)) 116 80 0) 116 87 = 0 := by
      rw [gI_sI, if_neg (fun q => absurd q.2 (by decide)), gI_sI, if_neg (fun q => absurd q.2 (by decide)), gI_sI, if_pos ⟨rfl, rfl⟩]
    have z89 : gI (sI (sI (sI (sI (sI (sI s 36 5 0) 36 6 0) 36 7 (-1)) 116 87 0) 116 89 (-1)) 116 80 0) 116 89 = -1 := by
      rw [gI_sI, if_neg (fun q => absurd q.2 (by decide)), gI_sI, if_pos ⟨rfl, rfl⟩]
    refine ⟨g1, e1, rfl, ⟨?_, ?_, ?_, ?_, ?_, ?_⟩, ⟨A, hW, aG_fp fs2 (by decide) (aG_fp fs (by decide) hG), aM_fp fs2 (by decide) (aM_fp fs (by decide) hM)⟩, ⟨fun c j _ q => ?_, fun _ _ _ => rfl⟩⟩
    · rw [(fpA fs2 (by decide)).1, (fpA fs2 (by decide)).1, (fpA fs (by decide)).1, (fpA fs (by decide)).1]
      exact kt.1
    · rw [z80, (fpF fs2 (by decide)).1, x5]
    · rw [z80]
      decide
    · rw [z80]
      decide
    · rw [z87, (fpF fs2 (by decide)).1, x6]
    · rw [z89, (fpF fs2 (by decide)).1, x7]
    · show gI (sI (sI (sI s 36 5 0) 36 6 0) 36 7 (-1)) c j = gI s c j
      rw [gI_sI, if_neg (fun z => by omega), gI_sI, if_neg (fun z => by omega), gI_sI, if_neg (fun z => by omega)]
