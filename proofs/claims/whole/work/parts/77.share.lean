/-! SHARE. -/
theorem lg_ge (x y : Int64) : ((0 : Int32) ≤ lg_cmp x y) ↔ y ≤ x := by
  unfold lg_cmp
  rw [Int64.le_iff_toInt_le]
  by_cases h : x > y
  · rw [if_pos h]
    have h' := Int64.lt_iff_toInt_lt.mp h
    constructor
    · intro _; omega
    · intro _; decide
  · rw [if_neg h]
    have h' : ¬ y.toInt < x.toInt := fun q => h (Int64.lt_iff_toInt_lt.mpr q)
    by_cases h2 : x = y
    · rw [if_pos h2, h2]
      constructor
      · intro _; omega
      · intro _; decide
    · rw [if_neg h2]
      have h3 : x.toInt ≠ y.toInt := fun q => h2 (Int64.toInt_inj.mp q)
      constructor
      · intro q; exact absurd q (by decide)
      · intro q; omega
theorem lg_eq (x y : Int64) : (lg_cmp x y = 0) ↔ x = y := by
  unfold lg_cmp
  by_cases h : x > y
  · rw [if_pos h]
    have h' := Int64.lt_iff_toInt_lt.mp h
    constructor
    · intro q; exact absurd q (by decide)
    · intro q; rw [q] at h'; omega
  · rw [if_neg h]
    by_cases h2 : x = y
    · rw [if_pos h2]
      exact ⟨fun _ => h2, fun _ => rfl⟩
    · rw [if_neg h2]
      constructor
      · intro q; exact absurd q (by decide)
      · intro q; exact absurd q h2
/-- a hundredth, downwards, never below 0 -/
theorem can_eq (g : Int64) (s : mS) : (if (0 : Int32) ≤ lg_cmp (f_M_down g 100 s) 0 then f_M_down g 100 s else 0) = (if g < 0 then (0 : Int64) else g) / 100 := by
  have z0 : (0 : Int64).toInt = 0 := rfl
  have z100 : (100 : Int64).toInt = 100 := rfl
  have d1 : (g / 100).toInt = g.toInt.tdiv 100 := by
    rw [Int64.toInt_div_of_ne_right _ _ (by decide), z100]
  have hlt := Int64.toInt_lt g
  have hge := Int64.le_toInt g
  have hq : (0 ≤ g.toInt → g.toInt.tdiv 100 = g.toInt / 100) ∧ (g.toInt < 0 → g.toInt.tdiv 100 = -((-g.toInt) / 100)) := by
    constructor
    · intro h
      exact Int.tdiv_eq_ediv_of_nonneg h
    · intro h
      have e : g.toInt.tdiv 100 = (-(-g.toInt)).tdiv 100 := by rw [Int.neg_neg]
      rw [e, Int.neg_tdiv, Int.tdiv_eq_ediv_of_nonneg (by omega)]
  generalize g.toInt.tdiv 100 = q at *
  obtain ⟨hq1, hq2⟩ := hq
  have hb : -9223372036854775808 ≤ q * 100 ∧ q * 100 < 9223372036854775808 ∧ -9223372036854775808 ≤ g.toInt - q * 100 ∧ g.toInt - q * 100 < 9223372036854775808 := by
    by_cases h : 0 ≤ g.toInt
    · have := hq1 h
      omega
    · have := hq2 (by omega)
      omega
  have d2 : (g / 100 * 100).toInt = q * 100 := by
    rw [Int64.toInt_mul, d1, z100, Int.bmod_eq_of_le] <;> omega
  have d3 : (g - g / 100 * 100).toInt = g.toInt - q * 100 := by
    rw [Int64.toInt_sub, d2, Int.bmod_eq_of_le] <;> omega
  unfold f_M_down
  have p100 : (0 : Int64) ≤ 100 := by decide
  simp only [mq_let_e, lg_eq, lg_ge, p100, if_true]
  have z10 : ¬ (1 : Int32) = 0 := by decide
  by_cases h0 : g < 0
  · have h0' := Int64.lt_iff_toInt_lt.mp h0
    rw [z0] at h0'
    have hq2 := hq2 h0'
    rw [if_pos h0]
    have e0 : (0 : Int64) / 100 = 0 := by decide
    rw [e0]
    have n0 : ¬ (0 : Int64) ≤ g := by
      rw [Int64.le_iff_toInt_le, z0]
      omega
    by_cases hr : g - g / 100 * 100 = 0
    · have hr' := congrArg Int64.toInt hr
      rw [d3, z0] at hr'
      rw [if_pos hr, if_neg]
      rw [Int64.le_iff_toInt_le, z0, d1]
      omega
    · rw [if_neg hr, if_neg n0, if_neg z10]
      have d4 : (g / 100 - 1).toInt = q - 1 := by
        rw [Int64.toInt_sub, d1, show (1 : Int64).toInt = 1 from rfl, Int.bmod_eq_of_le] <;> omega
      rw [if_neg]
      rw [Int64.le_iff_toInt_le, z0, d4]
      omega
  · have h0' : ¬ g.toInt < 0 := fun h => h0 (Int64.lt_iff_toInt_lt.mpr (by rw [z0]; exact h))
    have hq1 := hq1 (by omega)
    rw [if_neg h0]
    have p0 : (0 : Int64) ≤ g := by
      rw [Int64.le_iff_toInt_le, z0]
      omega
    have p1 : (0 : Int64) ≤ g / 100 := by
      rw [Int64.le_iff_toInt_le, z0, d1]
      omega
    rw [if_pos p0, if_pos rfl, ite_self, if_pos p1]
theorem can_eq' (g : Int64) (s : mS) : (if (0 : Int64) ≤ f_M_down g 100 s then f_M_down g 100 s else 0) = (if g < 0 then (0 : Int64) else g) / 100 := by
  rw [← can_eq g s]
  simp only [lg_ge]
theorem may_eq (d : Int32) : Int32.toInt64 (if (0 : Int32) < d then d else 0) = if (0 : Int32) ≤ d then Int32.toInt64 d else 0 := by
  by_cases h : (0 : Int32) < d
  · rw [if_pos h, if_pos (Int32.le_of_lt h)]
  · rw [if_neg h]
    by_cases h2 : (0 : Int32) ≤ d
    · rw [if_pos h2, Int32.le_antisymm (Int32.not_lt.mp h) h2]
    · rw [if_neg h2]
      rfl
theorem op_share (a1 : Int32) (s : mS) (h_sky : J_sky s) (h_things : J_things s) (h_books : J_books s) (h_gen : J_gen s) (h_money : J_money s) (h_acts : J_acts s) : ok_G_share a1 s ∧ ok_M_share a1 (f_G_share a1 s).2 ∧ (f_G_share a1 s).1 = (f_M_share a1 (f_G_share a1 s).2).1 ∧ J_acts (f_M_share a1 (f_G_share a1 s).2).2 := by
  obtain ⟨n, hn, hn2, hix⟩ := books_n h_books
  obtain ⟨m, hm, hm2, hmx⟩ := books_m h_books
  obtain ⟨A, hW, hG, hM⟩ := h_acts
  have kg := h_gen
  unfold J_gen at kg
  have km := h_money
  unfold J_money at km
  have ha : gI s 116 1 ≤ 10000 := by have := kg.2.2.1; grind
  have fS : fp [39, 89, 90] [(36, 3), (36, 8), (36, 9)] true s (f_G_share a1 s).2 := fr_G_share a1 s hG.1
  have fM : fp [168, 169] [(116, 91), (116, 92), (116, 93)] false (f_G_share a1 s).2 (f_M_share a1 (f_G_share a1 s).2).2 := fr_M_share a1 (f_G_share a1 s).2
  -- the class's gain, at any state that agrees with s
  have GG : ∀ w, fp [39] [(36, 3), (36, 8), (36, 9)] true s w → aG w A → (f_G_gain w).1 = ((gL s 116 40 - gL s 116 39) - gL s 116 41) + smL (bl_b A s (gI s 116 1) m) n ∧ ok_G_gain w ∧ aG (f_G_gain w).2 A := by
    intro w hf hw
    have := G_gain hW hw (jf_sky hf (by decide) h_sky) (jf_books hf (by decide) h_books) (jf_gen hf (by decide) h_gen) (n := n) (m := m) (by rw [(fpF hf (by decide)).1]; exact hn) hn2 (by rw [(fpF hf (by decide)).1]; exact hm) hm2
    rw [(fpF (c := 82) (j := 13) hf (by decide)).2, (fpF (c := 82) (j := 14) hf (by decide)).2, (fpF (c := 82) (j := 15) hf (by decide)).2, (fpF (c := 116) (j := 1) hf (by decide)).1, km.1, km.2.1, km.2.2] at this
    have hb : bl_b A w (gI s 116 1) m = bl_b A s (gI s 116 1) m := by
      funext r
      unfold bl_b bk_P bl_price
      rw [bk_un_c (s := s) (t := w) ⟨(fpA hf (by decide)).1, (fpA hf (by decide)).1, (fpA hf (by decide)).1⟩, (fpA (c := 151) hf (by decide)).1, (fpA (c := 150) hf (by decide)).1, funext fun k => bk_sh_c (s := s) (t := w) ⟨(fpA hf (by decide)).1, (fpA hf (by decide)).1, (fpA hf (by decide)).1, (fpA hf (by decide)).1⟩ (gI s 116 1) k m, sky_fog (s := s) (fpA hf (by decide)).1]
    rw [hb] at this
    exact this
  have GJ := G_judge hW hG h_sky kg.2.1 ha 4 0
  have fJ := fr_Laws_judge 4 (gI s 116 1) 0 s hG.1
  have G0 := GG s fp_r hG
  have G1 := GG _ fJ GJ.2.1
  generalize hgn : ((gL s 116 40 - gL s 116 39) - gL s 116 41) + smL (bl_b A s (gI s 116 1) m) n = gn at *
  generalize hdu : (due_w A (hr_of (gI s 116 1)) (gI s 116 1 / 96) (f_M_fogIn (gI s 116 1) s) 4 0) = du at *
  -- the class's answer
  have hv : (f_G_share a1 s).1 = (if a1 = 0 then gn else if a1 = 1 then (if (0 : Int32) ≤ du.2.2.1 then Int32.toInt64 du.2.2.1 else 0) else if a1 = 2 then (if gn < 0 then 0 else gn) / 100 else if a1 = 3 then (if (if gn < 0 then 0 else gn) / 100 < (if (0 : Int32) ≤ du.2.2.1 then Int32.toInt64 du.2.2.1 else 0) then (if gn < 0 then 0 else gn) / 100 else (if (0 : Int32) ≤ du.2.2.1 then Int32.toInt64 du.2.2.1 else 0)) else -1) := by
    unfold f_G_share f_G_mayBePaid
    simp only [mq_let_e, kg.1, GJ.2.2.2.1, may_eq, G0.1, G1.1]
    split
    · rfl
    · split
      · rfl
      · split
        · rfl
        · split <;> rfl
  have hok : ok_G_share a1 s := by
    unfold ok_G_share ok_G_mayBePaid f_G_mayBePaid
    simp only [mq_let_e, mq_letP_e, kg.1, GJ.1, G0.2.1, G1.2.1, and_self, ite_self]
  have hGt : aG (f_G_share a1 s).2 A := by
    have e : (f_G_share a1 s).2 = if a1 = 0 then (f_G_gain s).2 else if a1 = 1 then f_Laws_judge 4 (gI s 116 1) 0 s else if a1 = 2 then (f_G_gain s).2 else if a1 = 3 then (f_G_gain (f_Laws_judge 4 (gI s 116 1) 0 s)).2 else s := by
      unfold f_G_share f_G_mayBePaid
      simp only [mq_let_e, kg.1]
      by_cases d0 : a1 = 0
      · simp only [if_pos d0]
      · by_cases d1 : a1 = 1
        · simp only [if_neg d0, if_pos d1]
        · by_cases d2 : a1 = 2
          · simp only [if_neg d0, if_neg d1, if_pos d2]
          · by_cases d3 : a1 = 3
            · simp only [if_neg d0, if_neg d1, if_neg d2, if_pos d3]
            · simp only [if_neg d0, if_neg d1, if_neg d2, if_neg d3]
    rw [e]
    by_cases d0 : a1 = 0
    · rw [if_pos d0]; exact G0.2.2
    · rw [if_neg d0]
      by_cases d1 : a1 = 1
      · rw [if_pos d1]; exact GJ.2.1
      · rw [if_neg d1]
        by_cases d2 : a1 = 2
        · rw [if_pos d2]; exact G0.2.2
        · rw [if_neg d2]
          by_cases d3 : a1 = 3
          · rw [if_pos d3]; exact G1.2.2
          · rw [if_neg d3]; exact hG
  refine ⟨hok, ?_⟩
  rw [hv]
  generalize (f_G_share a1 s).2 = t at *
  have hMt : aM t A := aM_fp fS (by decide) hM
  have fin : J_acts (f_M_share a1 t).2 := ⟨A, hW, aG_fp fM (by decide) hGt, aM_fp fM (by decide) hMt⟩
  by_cases c : 0 ≤ a1 ∧ a1 ≤ 3
  rotate_left
  · have d0 : ¬ a1 = 0 := by grind
    have d1 : ¬ a1 = 1 := by grind
    have d2 : ¬ a1 = 2 := by grind
    have d3 : ¬ a1 = 3 := by grind
    refine ⟨?_, ?_, fin⟩
    · simp only [ok_M_share, mq_letP_e, z_isIn, ite_not, c, if_false, true_and]
    · simp only [f_M_share, mq_let_e, z_isIn, ite_not, c, if_false, d0, d1, d2, d3]
  · have MG := M_gain (s := t) (A := A) (n := n) (m := m) hW (jf_things fS (by decide) h_things) (jf_books fS (by decide) h_books) (jf_gen fS (by decide) h_gen) hMt (by rw [(fpF fS (by decide)).1]; exact hn) hn2 (by rw [(fpF fS (by decide)).1]; exact hm) hm2
    have hb : bl_b A t (gI s 116 1) m = bl_b A s (gI s 116 1) m := by
      funext r
      unfold bl_b bk_P bl_price
      rw [bk_un_c (s := s) (t := t) ⟨(fpA fS (by decide)).1, (fpA fS (by decide)).1, (fpA fS (by decide)).1⟩, (fpA (c := 151) fS (by decide)).1, (fpA (c := 150) fS (by decide)).1, funext fun k => bk_sh_c (s := s) (t := t) ⟨(fpA fS (by decide)).1, (fpA fS (by decide)).1, (fpA fS (by decide)).1, (fpA fS (by decide)).1⟩ (gI s 116 1) k m, sky_fog (s := s) (fpA fS (by decide)).1]
    rw [(fpF (c := 116) (j := 40) fS (by decide)).2, (fpF (c := 116) (j := 39) fS (by decide)).2, (fpF (c := 116) (j := 41) fS (by decide)).2, (fpF (c := 116) (j := 1) fS (by decide)).1, hb, hgn] at MG
    have fg := MG.2.2
    have MD := M_due (u := (f_M_gain t).2) hW (aM_fp fg (by decide) hMt) kg.2.1 ha 4 0
    rw [sky_fog (s := s) (by rw [(fpA fg (by decide)).1, (fpA fS (by decide)).1]), hdu] at MD
    have e1 : gI (f_M_gain t).2 116 1 = gI s 116 1 := by rw [(fpF fg (by decide)).1, (fpF fS (by decide)).1]
    have od : ∀ w, ok_M_down gn 100 w := fun w => by
      unfold ok_M_down
      decide
    refine ⟨?_, ?_, fin⟩
    · simp only [ok_M_share, mq_let_e, mq_letP_e, z_isIn, ite_not, c, and_self, if_true, MG.1, MG.2.1, e1, MD.1, od, true_and, ite_self]
    · simp only [f_M_share, mq_let_e, z_isIn, ite_not, c, and_self, if_true, MG.1, e1, MD.2.1, can_eq', lg_ge]
      by_cases d0 : a1 = 0
      · simp only [d0, if_true]
      · by_cases d1 : a1 = 1
        · simp only [if_neg d0, if_pos d1]
        · by_cases d2 : a1 = 2
          · simp only [if_neg d0, if_neg d1, if_pos d2]
          · have d3 : a1 = 3 := by grind
            simp only [if_neg d0, if_neg d1, if_neg d2, if_pos d3]
            generalize (if gn < 0 then (0 : Int64) else gn) / 100 = x
            generalize (if (0 : Int32) ≤ du.2.2.1 then Int32.toInt64 du.2.2.1 else 0) = y
            by_cases q : x ≤ y
            · simp only [if_pos q]
              by_cases q2 : x < y
              · rw [if_pos q2]
              · rw [if_neg q2]
                exact Int64.le_antisymm (Int64.not_lt.mp q2) q
            · simp only [if_neg q, if_neg (fun h => q (Int64.le_of_lt h) : ¬ x < y)]
