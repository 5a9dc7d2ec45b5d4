/-! ASKING: the acts' group, due and tries. -/
def J_acts (s : mS) : Prop := ∃ A, aW A ∧ aG s A ∧ aM s A
theorem aM_fp {A0 : List Nat} {F0 : List (Nat × Nat)} {a0 : Bool} {s t : mS} {A : aC} (h : fp A0 F0 a0 s t) (hq : fpq A0 F0 a0 [157, 158, 159, 160, 161, 162] [] = true) (hA : aM s A) : aM t A := aM_fr ⟨(fqA h hq (by decide)).1, (fqA h hq (by decide)).1, (fqA h hq (by decide)).1, (fqA h hq (by decide)).1, (fqA h hq (by decide)).1, (fqA h hq (by decide)).1⟩ hA
def a_cells : List Nat := [40, 41, 42, 43, 44, 45, 46, 47, 48, 49, 50, 51, 52, 53, 54, 55, 56, 57, 58, 59, 60, 61, 62, 63, 64, 65, 66, 67, 68, 69, 70, 71, 72, 73, 74, 75, 76, 77, 78, 79]
theorem a_in {c : Nat} (h1 : 40 ≤ c) (h2 : c < 80) : c ∈ a_cells := by
  have : ∀ c, c < 80 → 40 ≤ c → c ∈ a_cells := by decide
  exact this c h2 h1
theorem aG_fp {A0 : List Nat} {F0 : List (Nat × Nat)} {s t : mS} {A : aC} (h : fp A0 F0 false s t) (hq : fpq A0 F0 false a_cells [] = true) (hA : aG s A) : aG t A := by
  have e : ∀ c, 40 ≤ c → c < 80 → gI t c = gI s c := fun c h1 h2 => (fqA h hq (a_in h1 h2)).1
  have eP : gP t = gP s := h.2
  obtain ⟨h1, h2, h3, h4⟩ := hA
  unfold aG
  rw [eP]
  refine ⟨h1, h2, fun k hk ha => ?_, fun k hk d Ls ha => ?_⟩
  · have := mq_mod (h1 k)
    rw [e _ (by omega) (by omega)]
    exact h3 k hk ha
  · have := mq_mod (h1 k)
    obtain ⟨q1, q2, q3, q4⟩ := h4 k hk d Ls ha
    rw [e _ (by omega) (by omega)]
    refine ⟨q1, q2, q3, ?_⟩
    have key : ∀ (R : List cL) (i : Nat), cl_Gs s (gP s k) i R → cl_Gs t (gP s k) i R := by
      intro R
      induction R with
      | nil => intro i _; trivial
      | cons l R ih =>
        intro i hl
        refine ⟨?_, ih _ hl.2⟩
        have hl := hl.1
        unfold cl_G at hl ⊢
        rw [e _ (by omega) (by omega), e (gP s k + 2) (by omega) (by omega), e (gP s k + 3) (by omega) (by omega), e (gP s k + 4) (by omega) (by omega), e (gP s k + 5) (by omega) (by omega), e (gP s k + 6) (by omega) (by omega)]
        exact hl
    exact key _ _ q4
theorem ja_fp {A0 : List Nat} {F0 : List (Nat × Nat)} {s t : mS} (h : fp A0 F0 false s t) (hq : fpq A0 F0 false a_cells [] = true) (hq2 : fpq A0 F0 false [157, 158, 159, 160, 161, 162] [] = true) (hA : J_acts s) : J_acts t := by
  obtain ⟨A, h1, h2, h3⟩ := hA
  exact ⟨A, h1, aG_fp h hq h2, aM_fp h hq2 h3⟩
theorem ofNat_ne1 {n : Nat} (h : n < 90000) : ¬ Int32.ofNat n = -1 := by
  intro q
  have := (ofNat_le (a := 0) (b := n) (by omega) (by omega)).mpr (by omega)
  rw [q] at this
  exact absurd this (by decide)
theorem wg_0 {F : Nat → Int32} {sub day : Int32} {A : aC} {k : Nat} (hk : k < 90000) (h : (wg_st F sub day A k).2.1 = -1) : (wg_st F sub day A k).2.2.1 = 0 := by
  induction k with
  | zero => rfl
  | succ k ih =>
    have ih := ih (by omega)
    unfold wg_st at h ⊢
    cases hA : A k with
    | none =>
      rw [hA] at h
      exact ih h
    | some dl =>
      obtain ⟨d, Ls⟩ := dl
      rw [hA] at h
      simp only at h ⊢
      by_cases c : day < d ∨ d < (wg_st F sub day A k).1
      · rw [if_pos c] at h ⊢
        exact ih h
      · rw [if_neg c] at h ⊢
        cases hD : cl_D F sub Ls with
        | none =>
          rw [hD] at h
          exact ih h
        | some vq =>
          rw [hD] at h
          exact absurd h (ofNat_ne1 (by omega))
theorem wg_q {F : Nat → Int32} {sub day : Int32} {A : aC} {k : Nat} : (wg_st F sub day A k).2.2.2 = 0 ∨ (wg_st F sub day A k).2.2.2 = 1 := by
  induction k with
  | zero => exact Or.inl rfl
  | succ k ih =>
    unfold wg_st
    cases hA : A k with
    | none => exact ih
    | some dl =>
      obtain ⟨d, Ls⟩ := dl
      simp only
      by_cases c : day < d ∨ d < (wg_st F sub day A k).1
      · rw [if_pos c]
        exact ih
      · rw [if_neg c]
        cases hD : cl_D F sub Ls with
        | none => exact ih
        | some vq => exact cl_D_01 hD
theorem sky_fog {s t : mS} (h : gI t 122 = gI s 122) (a : Int32) : f_M_fogIn a t = f_M_fogIn a s := by
  unfold f_M_fogIn
  rw [h]
theorem op_due (a1 a2 a3 a4 : Int32) (s : mS) (h_sky : J_sky s) (h_acts : J_acts s) : ok_G_due a1 a2 a3 a4 s ∧ ok_M_due a1 a2 a3 a4 (f_G_due a1 a2 a3 a4 s).2 ∧ (f_G_due a1 a2 a3 a4 s).1 = (f_M_due a1 a2 a3 a4 (f_G_due a1 a2 a3 a4 s).2).1 ∧ J_acts (f_M_due a1 a2 a3 a4 (f_G_due a1 a2 a3 a4 s).2).2 := by
  by_cases c0 : 0 ≤ a1 ∧ a1 ≤ 4
  rotate_left
  · refine ⟨?_, ?_, ?_, ?_⟩ <;> simp only [f_G_due, f_M_due, ok_G_due, ok_M_due, mq_let_e, mq_letP_e, z_within, z_isIn, ite_not, c0, if_false, true_and]
    exact h_acts
  by_cases c1 : 0 ≤ a2 ∧ a2 ≤ 3999
  rotate_left
  · refine ⟨?_, ?_, ?_, ?_⟩ <;> simp only [f_G_due, f_M_due, ok_G_due, ok_M_due, mq_let_e, mq_letP_e, z_within, z_isIn, ite_not, c0, c1, and_self, if_true, if_false, true_and]
    exact h_acts
  obtain ⟨A, hW, hG, hM⟩ := h_acts
  have ha : a2 ≤ 10000 := by grind
  obtain ⟨g1, g2, g3, g4, g5⟩ := G_judge hW hG h_sky c1.1 ha a1 a3
  have fG := fr_Laws_judge a1 a2 a3 s hG.1
  have q2 : (f_G_due a1 a2 a3 a4 s).2 = f_Laws_judge a1 a2 a3 s := by
    simp only [f_G_due, mq_let_e, z_within, ite_not, c0, c1, and_self, if_true]
    split
    · rfl
    · split
      · rfl
      · split
        · split <;> rfl
        · rfl
  have q1 : (f_G_due a1 a2 a3 a4 s).1 = if a4 = 0 then gI (f_Laws_judge a1 a2 a3 s) 36 8 else if a4 = 1 then gI (f_Laws_judge a1 a2 a3 s) 36 9 else if a4 = 2 then (if gI (f_Laws_judge a1 a2 a3 s) 36 3 = 0 then 0 else 1) else -1 := by
    simp only [f_G_due, mq_let_e, z_within, ite_not, c0, c1, and_self, if_true]
    split
    · rfl
    · split
      · rfl
      · split
        · split <;> rfl
        · rfl
  rw [q2, q1]
  have q3 : ok_G_due a1 a2 a3 a4 s := by
    simp only [ok_G_due, mq_letP_e, z_within, ite_not, c0, c1, and_self, if_true, g1]
  refine ⟨q3, ?_⟩
  generalize f_Laws_judge a1 a2 a3 s = t at *
  have hMt : aM t A := aM_fp fG (by decide) hM
  obtain ⟨m1, m2, m3, m4, m5⟩ := M_due hW hMt c1.1 ha a1 a3
  rw [sky_fog (fpA fG (by decide)).1] at m2 m3 m4 m5
  have fM := fr_M_dueOf a1 a2 a3 t
  by_cases c2 : 0 ≤ a4 ∧ a4 ≤ 2
  · have k3 : (f_M_due a1 a2 a3 a4 t).2 = (f_M_dueOf a1 a2 a3 t).2 := by
      simp only [f_M_due, mq_let_e, z_isIn, ite_not, c0, c1, c2, and_self, if_true]
      split
      · rfl
      · split
        · rfl
        · split <;> rfl
    refine ⟨?_, ?_, ?_⟩
    · simp only [ok_M_due, mq_letP_e, z_isIn, ite_not, c0, c1, c2, and_self, if_true, m1]
    · simp only [f_M_due, mq_let_e, z_isIn, ite_not, c0, c1, c2, and_self, if_true]
      rw [g3, g4, g5]
      by_cases d0 : a4 = 0
      · simp only [d0, if_true, m2]
      · by_cases d1 : a4 = 1
        · simp only [d0, d1, if_true, if_false, m5]
          rfl
        · have d2 : a4 = 2 := by grind
          have n20 : ¬ (2 : Int32) = 0 := by decide
          have n21 : ¬ (2 : Int32) = 1 := by decide
          simp only [d2, n20, n21, if_true, if_false, m4]
          split <;> rfl
    · rw [k3]
      exact ⟨A, hW, aG_fp fM (by decide) g2, aM_fp fM (by decide) hMt⟩
  · have d0 : ¬ a4 = 0 := by grind
    have d1 : ¬ a4 = 1 := by grind
    have d2 : ¬ a4 = 2 := by grind
    refine ⟨?_, ?_, ?_⟩ <;> simp only [f_M_due, ok_M_due, mq_let_e, mq_letP_e, z_isIn, ite_not, c0, c1, c2, and_self, if_true, if_false, d0, d1, d2]
    exact ⟨A, hW, g2, hMt⟩
theorem clamp_eq {C n : Int32} (hC : 0 < C) : (if (if (0 : Int32) < n then n else 0) < C then (if (0 : Int32) < n then n else 0) else C) = if (0 : Int32) ≤ n then (if n ≤ C then n else C) else 0 := by
  by_cases h : (0 : Int32) < n
  · rw [if_pos h, if_pos (Int32.le_of_lt h)]
    by_cases h2 : n < C
    · rw [if_pos h2, if_pos (Int32.le_of_lt h2)]
    · rw [if_neg h2]
      by_cases h3 : n ≤ C
      · rw [if_pos h3]
        exact Int32.le_antisymm (Int32.not_lt.mp h2) h3
      · rw [if_neg h3]
  · rw [if_neg h, if_pos hC]
    by_cases h2 : (0 : Int32) ≤ n
    · have : n = 0 := Int32.le_antisymm (Int32.not_lt.mp h) h2
      subst this
      rw [if_pos h2, if_pos (Int32.le_of_lt hC)]
    · rw [if_neg h2]
theorem op_tries (a1 : Int32) (s : mS) (h_sky : J_sky s) (h_gen : J_gen s) (h_money : J_money s) (h_acts : J_acts s) : ok_G_tries a1 s ∧ ok_M_tries a1 (f_G_tries a1 s).2 ∧ (f_G_tries a1 s).1 = (f_M_tries a1 (f_G_tries a1 s).2).1 ∧ J_acts (f_M_tries a1 (f_G_tries a1 s).2).2 ∧ J_money (f_M_tries a1 (f_G_tries a1 s).2).2 := by
  by_cases c0 : 0 ≤ a1 ∧ a1 ≤ 99
  rotate_left
  · refine ⟨?_, ?_, ?_, ?_, ?_⟩ <;> simp only [f_G_tries, f_M_tries, ok_G_tries, ok_M_tries, mq_let_e, mq_letP_e, z_within, z_isIn, ite_not, c0, if_false, true_and]
    · exact h_acts
    · exact h_money
  obtain ⟨A, hW, hG, hM⟩ := h_acts
  have kg := h_gen
  unfold J_gen at kg
  have km := h_money
  unfold J_money at km
  have ha : gI s 116 1 ≤ 10000 := by have := kg.2.2.1; grind
  obtain ⟨g1, g2, g3, g4, g5⟩ := G_judge hW hG h_sky kg.2.1 ha 1 0
  have fG := fr_Laws_judge 1 (gI s 116 1) 0 s hG.1
  have e09 : gI (f_Laws_judge 1 (gI s 116 1) 0 s) 0 9 = gI s 116 1 := by rw [(fpF fG (by decide)).1, kg.1]
  generalize ht : f_Laws_judge 1 (gI s 116 1) 0 s = t at *
  have hMt : aM t A := aM_fp fG (by decide) hM
  have hskyt : J_sky t := jf_sky fG (by decide) h_sky
  have e1161 : gI t 116 1 = gI s 116 1 := (fpF fG (by decide)).1
  have ef : f_M_fogIn (gI s 116 1) t = f_M_fogIn (gI s 116 1) s := sky_fog (fpA fG (by decide)).1 _
  by_cases c1 : a1 < gI t 36 8
  · obtain ⟨j1, j2, j3, j4, j5⟩ := G_judge hW g2 hskyt kg.2.1 ha 3 (gI t 36 8 - a1)
    have fG2 := fr_Laws_judge 3 (gI s 116 1) (gI t 36 8 - a1) t g2.1
    have eG : f_G_tries a1 s = ((if (if (0 : Int32) < gI (f_Laws_judge 3 (gI s 116 1) (gI t 36 8 - a1) t) 36 8 then gI (f_Laws_judge 3 (gI s 116 1) (gI t 36 8 - a1) t) 36 8 else 0) < 99999 then (if (0 : Int32) < gI (f_Laws_judge 3 (gI s 116 1) (gI t 36 8 - a1) t) 36 8 then gI (f_Laws_judge 3 (gI s 116 1) (gI t 36 8 - a1) t) 36 8 else 0) else 99999), sL (f_Laws_judge 3 (gI s 116 1) (gI t 36 8 - a1) t) 82 15 (gL (f_Laws_judge 3 (gI s 116 1) (gI t 36 8 - a1) t) 82 15 + Int32.toInt64 (if (if (0 : Int32) < gI (f_Laws_judge 3 (gI s 116 1) (gI t 36 8 - a1) t) 36 8 then gI (f_Laws_judge 3 (gI s 116 1) (gI t 36 8 - a1) t) 36 8 else 0) < 99999 then (if (0 : Int32) < gI (f_Laws_judge 3 (gI s 116 1) (gI t 36 8 - a1) t) 36 8 then gI (f_Laws_judge 3 (gI s 116 1) (gI t 36 8 - a1) t) 36 8 else 0) else 99999))) := by
      simp only [f_G_tries, mq_let_e, z_within, ite_not, c0, and_self, if_true, kg.1, ht, c1, e09]
    have okG : ok_G_tries a1 s := by
      simp only [ok_G_tries, mq_letP_e, z_within, ite_not, c0, and_self, if_true, kg.1, ht, c1, e09, g1, j1]
    rw [eG]
    generalize ht2 : f_Laws_judge 3 (gI s 116 1) (gI t 36 8 - a1) t = t2 at *
    rw [clamp_eq (by decide : (0 : Int32) < 99999)]
    generalize hfx : (if (0 : Int32) ≤ gI t2 36 8 then (if gI t2 36 8 ≤ 99999 then gI t2 36 8 else 99999) else 0) = fine
    refine ⟨okG, ?_⟩
    show ok_M_tries a1 (sL t2 82 15 (gL t2 82 15 + Int32.toInt64 fine)) ∧ fine = (f_M_tries a1 (sL t2 82 15 (gL t2 82 15 + Int32.toInt64 fine))).1 ∧ J_acts (f_M_tries a1 (sL t2 82 15 (gL t2 82 15 + Int32.toInt64 fine))).2 ∧ J_money (f_M_tries a1 (sL t2 82 15 (gL t2 82 15 + Int32.toInt64 fine))).2
    have f82 : fp [] [(82, 15)] false t2 (sL t2 82 15 (gL t2 82 15 + Int32.toInt64 fine)) := fp_LF fp_r (by decide)
    have h82 : gL (sL t2 82 15 (gL t2 82 15 + Int32.toInt64 fine)) 82 15 = gL s 82 15 + Int32.toInt64 fine := by
      rw [gL_sL, if_pos ⟨rfl, rfl⟩, (fpF fG2 (by decide)).2, (fpF fG (by decide)).2]
    generalize sL t2 82 15 (gL t2 82 15 + Int32.toInt64 fine) = t3 at *
    have hM3 : aM t3 A := aM_fp f82 (by decide) (aM_fp fG2 (by decide) hMt)
    have e3 : gI t3 116 1 = gI s 116 1 := by rw [(fpF f82 (by decide)).1, (fpF fG2 (by decide)).1, e1161]
    obtain ⟨m1, m2, m3, m4, m5⟩ := M_due hW hM3 kg.2.1 ha 1 0
    have ef3 : f_M_fogIn (gI s 116 1) t3 = f_M_fogIn (gI s 116 1) s := by
      rw [sky_fog (fpA f82 (by decide)).1, sky_fog (fpA fG2 (by decide)).1, ef]
    rw [ef3] at m2 m3 m4 m5
    have fM1 := fr_M_dueOf 1 (gI s 116 1) 0 t3
    have htold : ¬ (due_w A (hr_of (gI s 116 1)) (gI s 116 1 / 96) (f_M_fogIn (gI s 116 1) s) 1 0).2.1 = -1 := by
      intro h
      have := wg_0 (by omega : 4 < 90000) h
      rw [g4] at c1
      have e : (due_w A (hr_of (gI s 116 1)) (gI s 116 1 / 96) (f_M_fogIn (gI s 116 1) s) 1 0).2.2.1 = 0 := this
      rw [e] at c1
      grind
    rw [if_neg htold] at m3
    have n1 : ¬ (1 : Int32) = 0 := by decide
    have c1' : a1 < (f_M_dueOf 1 (gI s 116 1) 0 t3).1 := by rw [m2, ← g4]; exact c1
    generalize hd1 : f_M_dueOf 1 (gI s 116 1) 0 t3 = d1 at *
    have hM4 : aM d1.2 A := aM_fp fM1 (by decide) hM3
    have e4 : gI d1.2 116 1 = gI s 116 1 := by rw [(fpF fM1 (by decide)).1, e3]
    obtain ⟨k1, k2, k3, k4, k5⟩ := M_due hW hM4 kg.2.1 ha 3 (d1.1 - a1)
    rw [sky_fog (fpA fM1 (by decide)).1, ef3, m2, ← g4] at k2
    rw [m2, ← g4] at k1
    have fM2 := fr_M_dueOf 3 (gI s 116 1) (gI t 36 8 - a1) d1.2
    have hx : d1.1 = gI t 36 8 := by rw [m2, g4]
    have kk : (f_M_dueOf 3 (gI s 116 1) (gI t 36 8 - a1) d1.2).1 = gI t2 36 8 := by rw [k2, j4, ef]
    have eM : f_M_tries a1 t3 = (fine, sL (f_M_dueOf 3 (gI s 116 1) (gI t 36 8 - a1) d1.2).2 116 41 (gL (f_M_dueOf 3 (gI s 116 1) (gI t 36 8 - a1) d1.2).2 116 41 + Int32.toInt64 fine)) := by
      simp only [f_M_tries, mq_let_e, z_isIn, ite_not, c0, and_self, if_true, e3, hd1, m3, n1, if_false, c1', e4, hx, kk, hfx, c1]
    rw [eM]
    refine ⟨?_, rfl, ?_, ?_⟩
    · simp only [ok_M_tries, mq_letP_e, z_isIn, ite_not, c0, and_self, if_true, e3, hd1, m1, m3, n1, if_false, c1', e4, hx, k1, c1]
    · have f41 : fp [] [(116, 41)] false (f_M_dueOf 3 (gI s 116 1) (gI t 36 8 - a1) d1.2).2 (sL (f_M_dueOf 3 (gI s 116 1) (gI t 36 8 - a1) d1.2).2 116 41 (gL (f_M_dueOf 3 (gI s 116 1) (gI t 36 8 - a1) d1.2).2 116 41 + Int32.toInt64 fine)) := fp_LF fp_r (by decide)
      exact ⟨A, hW, aG_fp f41 (by decide) (aG_fp fM2 (by decide) (aG_fp fM1 (by decide) (aG_fp f82 (by decide) j2))), aM_fp f41 (by decide) (aM_fp fM2 (by decide) hM4)⟩
    · unfold J_money
      simp only [gL_sL, Nat.reduceEqDiff, false_and, and_false, and_self, if_true, if_false]
      rw [(fpF (j := 13) (c := 82) fM2 (by decide)).2, (fpF (j := 14) (c := 82) fM2 (by decide)).2, (fpF (j := 15) (c := 82) fM2 (by decide)).2, (fpF (j := 39) (c := 116) fM2 (by decide)).2, (fpF (j := 40) (c := 116) fM2 (by decide)).2, (fpF (j := 41) (c := 116) fM2 (by decide)).2]
      rw [(fpF (j := 13) (c := 82) fM1 (by decide)).2, (fpF (j := 14) (c := 82) fM1 (by decide)).2, (fpF (j := 15) (c := 82) fM1 (by decide)).2, (fpF (j := 39) (c := 116) fM1 (by decide)).2, (fpF (j := 40) (c := 116) fM1 (by decide)).2, (fpF (j := 41) (c := 116) fM1 (by decide)).2]
      rw [h82, (fpF (j := 13) (c := 82) f82 (by decide)).2, (fpF (j := 14) (c := 82) f82 (by decide)).2, (fpF (j := 39) (c := 116) f82 (by decide)).2, (fpF (j := 40) (c := 116) f82 (by decide)).2, (fpF (j := 41) (c := 116) f82 (by decide)).2]
      rw [(fpF (j := 13) (c := 82) fG2 (by decide)).2, (fpF (j := 14) (c := 82) fG2 (by decide)).2, (fpF (j := 39) (c := 116) fG2 (by decide)).2, (fpF (j := 40) (c := 116) fG2 (by decide)).2, (fpF (j := 41) (c := 116) fG2 (by decide)).2]
      rw [(fpF (j := 13) (c := 82) fG (by decide)).2, (fpF (j := 14) (c := 82) fG (by decide)).2, (fpF (j := 39) (c := 116) fG (by decide)).2, (fpF (j := 40) (c := 116) fG (by decide)).2, (fpF (j := 41) (c := 116) fG (by decide)).2]
      exact ⟨km.1, km.2.1, by rw [km.2.2]⟩
  · have eG : f_G_tries a1 s = (0, t) := by
      simp only [f_G_tries, mq_let_e, z_within, ite_not, c0, and_self, if_true, kg.1, ht, c1, if_false]
    have okG : ok_G_tries a1 s := by
      simp only [ok_G_tries, mq_letP_e, z_within, ite_not, c0, and_self, if_true, kg.1, ht, c1, if_false, g1]
    rw [eG]
    refine ⟨okG, ?_⟩
    show ok_M_tries a1 t ∧ 0 = (f_M_tries a1 t).1 ∧ J_acts (f_M_tries a1 t).2 ∧ J_money (f_M_tries a1 t).2
    obtain ⟨m1, m2, m3, m4, m5⟩ := M_due hW hMt kg.2.1 ha 1 0
    rw [ef] at m2 m3 m4 m5
    have fM1 := fr_M_dueOf 1 (gI s 116 1) 0 t
    have c1' : ¬ a1 < (f_M_dueOf 1 (gI s 116 1) 0 t).1 := by rw [m2, ← g4]; exact c1
    have eM : f_M_tries a1 t = (0, (f_M_dueOf 1 (gI s 116 1) 0 t).2) := by
      simp only [f_M_tries, mq_let_e, z_isIn, ite_not, c0, and_self, if_true, e1161, c1', if_false, ite_self]
    rw [eM]
    refine ⟨?_, rfl, ?_, ?_⟩
    · simp only [ok_M_tries, mq_letP_e, z_isIn, ite_not, c0, and_self, if_true, e1161, m1, c1', if_false, ite_self]
    · exact ⟨A, hW, aG_fp fM1 (by decide) g2, aM_fp fM1 (by decide) hMt⟩
    · exact jf_money fM1 (by decide) (jf_money fG (by decide) h_money)
