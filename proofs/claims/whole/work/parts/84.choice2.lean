/-! CHOICE: the sets tried. -/
theorem has_hi {s : mS} {T t : Nat} (hT : gI s 12 12 = Int32.ofNat T) (hT2 : T ≤ 40) (h : T ≤ t) (ht : t < 90000) : f_Things_has (Int32.ofNat t) s = 0 := by
  rw [z_tha, hT]
  rintro ⟨h0, h1, h2⟩
  rw [ofNat_lt (by omega) (by omega)] at h1
  omega
theorem wantOf_23 (v a : Int32) (s : mS) (f : Nat → Int32) : f_Things_wantOf v a (sA s 23 f) = f_Things_wantOf v a s ∧ (ok_Things_wantOf v a (sA s 23 f) ↔ ok_Things_wantOf v a s) := by
  constructor
  · unfold f_Things_wantOf f_Things_has f_Sky_houseWant f_Sky_lampBurns f_Sky_fogIn f_Sky_dayOf f_Sky_hourOf f_Sky_hourlyWant
    simp only [mq_let_e, f_Sky_dayOf, gI_sA, Nat.reduceEqDiff, if_false]
  · exact Iff.rfl
theorem G_ask {s : mS} (h_sky : J_sky s) (h_things : J_things s) {T : Nat} (hT : gI s 116 8 = Int32.ofNat T) (hT2 : T ≤ 40) {a : Int32} (h0 : 0 ≤ a) (ha : a ≤ 10000) : ∃ g, f_Things_askAll a s = sA s 23 g ∧ ok_Things_askAll a s ∧ (∀ t, t < T → g t = f_M_wants (Int32.ofNat t) a s) ∧ ∀ t, T ≤ t → t < 40 → g t = 0 := by
  have hG : gI s 12 12 = Int32.ofNat T := by
    have ht := h_things
    unfold J_things at ht
    rw [ht.2.2.2.2.2.2.2.2.2.2.1, hT]
  have hw : ∀ t, t < 40 → f_Things_wantOf (Int32.ofNat t) a s = (if t < T then f_M_wants (Int32.ofNat t) a s else 0) ∧ ok_Things_wantOf (Int32.ofNat t) a s := by
    intro t ht
    by_cases q : t < T
    · rw [if_pos q]
      exact want_eq h_sky h_things (by rw [hT, ofNat_lt (by omega) (by omega)]; exact q) ht h0 ha
    · have e := has_hi hG hT2 (t := t) (by omega) (by omega)
      rw [if_neg q]
      constructor
      · unfold f_Things_wantOf
        simp only [mq_let_e, e, if_true]
      · unfold ok_Things_wantOf
        simp only [mq_letP_e, e, if_true, and_self]
  have A := lp_map (L := lp_Things_askAll_2 a) (OK := okl_Things_askAll_2 a) 23 40 (by omega) s (fun t => if t < T then f_M_wants (Int32.ofNat t) a s else 0)
    (fun n i g hi => by
      have e1 : ¬ (40 : Int32) ≤ Int32.ofNat i := fl_lit (a := 40) rfl (by omega) (by omega) hi
      have e2 : ix (Int32.ofNat i) = i := ix_ofNat (by omega)
      have e3 : Int32.ofNat i + 1 = Int32.ofNat (i + 1) := ofNat_succ i
      have e4 : mm_inb (Int32.ofNat i) 40 = true := inb_ofNat (by decide) (by omega)
      have e5 := hw i hi
      constructor
      · simp only [lp_Things_askAll_2, mq_let_e, e1, if_false, e2, e3, (wantOf_23 _ _ _ _).1, e5.1, sI_sA]
      · intro h
        simp only [okl_Things_askAll_2, mq_letP_e, e1, if_false, e2, e3, e4, (wantOf_23 _ _ _ _).1, (wantOf_23 _ _ _ _).2, e5.1, e5.2, sI_sA, true_and]
        exact h)
    (fun n g => by
      have e1 : (40 : Int32) ≤ Int32.ofNat 40 := by decide
      constructor
      · simp only [lp_Things_askAll_2, e1, if_true]
      · simp only [okl_Things_askAll_2, e1, if_true])
  refine ⟨fillA 40 (fun t => if t < T then f_M_wants (Int32.ofNat t) a s else 0) (gI s 23), ?_, ?_, fun t ht => ?_, fun t h1 h2 => ?_⟩
  · unfold f_Things_askAll
    simp only [mq_let_e, A.1]
  · unfold ok_Things_askAll
    exact ⟨A.2, trivial⟩
  · rw [fillA_lt (by omega)]
    exact if_pos ht
  · rw [fillA_lt h2]
    exact if_neg (by omega)
theorem G_burnF {s : mS} {N T : Nat} (h : NG s N T) : f_Things_burnFully_30 s = smI (ch_t (gI s 14) (gI s 23) (gI s 13) (gI s 30)) T ∧ ok_Things_burnFully_30 s := by
  obtain ⟨hN, hN1, hN2, hT, hT2, hnd, hpa⟩ := h
  have A := lp_sum (L := lp_Things_burnFully_30_4 s) (OK := okl_Things_burnFully_30_4 s) T (by omega) (ch_t (gI s 14) (gI s 23) (gI s 13) (gI s 30))
    (fun n i acc hi => by
      have e1 := fl_lit hT (by omega) (by omega) hi
      have e1' : ¬ (40 : Int32) ≤ Int32.ofNat i := fl_lit (a := 40) rfl (by omega) (by omega) (by omega)
      have e2 : ix (Int32.ofNat i) = i := ix_ofNat (by omega)
      have e3 : Int32.ofNat i + 1 = Int32.ofNat (i + 1) := ofNat_succ i
      have b1 : mm_inb (Int32.ofNat i) 40 = true := inb_ofNat (by decide) (by omega)
      have hq := hnd i hi
      have e5 : mm_inb (gI s 13 i) 16 = true := inb_ix hq.1 (by omega)
      have e6 : ¬ gI s 13 i < 0 := Int32.not_lt.mpr hq.1
      have e7 : ¬ (16 : Int32) ≤ gI s 13 i := Int32.not_le.mpr (lt_of_ix (n := 16) (by omega) hq.1 (by omega))
      by_cases c1 : gI s 14 i = 3
      · have e : ch_t (gI s 14) (gI s 23) (gI s 13) (gI s 30) i = 0 := if_pos c1
        rw [e, Int32.add_zero]
        constructor
        · simp only [lp_Things_burnFully_30_4, mq_let_e, e1, e1', if_false, e2, e3, e6, e7, c1, if_true]
        · intro q
          simp only [okl_Things_burnFully_30_4, mq_letP_e, e1, e1', if_false, e2, e3, e5, e6, e7, c1, if_true, b1, true_and]
          exact q
      · by_cases c2 : gI s 23 i ≤ 0
        · have e : ch_t (gI s 14) (gI s 23) (gI s 13) (gI s 30) i = 0 := by
            unfold ch_t
            rw [if_neg c1, if_pos c2]
          rw [e, Int32.add_zero]
          constructor
          · simp only [lp_Things_burnFully_30_4, mq_let_e, e1, e1', if_false, e2, e3, e6, e7, c1, c2, if_true]
          · intro q
            simp only [okl_Things_burnFully_30_4, mq_letP_e, e1, e1', if_false, e2, e3, e5, e6, e7, c1, c2, if_true, b1, true_and]
            exact q
        · by_cases c3 : gI s 30 (ix (gI s 13 i)) < 20
          · have e : ch_t (gI s 14) (gI s 23) (gI s 13) (gI s 30) i = 0 := by
              unfold ch_t
              rw [if_neg c1, if_neg c2, if_pos c3]
            rw [e, Int32.add_zero]
            constructor
            · simp only [lp_Things_burnFully_30_4, mq_let_e, e1, e1', if_false, e2, e3, e6, e7, c1, c2, c3, if_true]
            · intro q
              simp only [okl_Things_burnFully_30_4, mq_letP_e, e1, e1', if_false, e2, e3, e5, e6, e7, c1, c2, c3, if_true, b1, true_and]
              exact q
          · have e : ch_t (gI s 14) (gI s 23) (gI s 13) (gI s 30) i = 1 := by
              unfold ch_t
              rw [if_neg c1, if_neg c2, if_neg c3]
            rw [e]
            constructor
            · simp only [lp_Things_burnFully_30_4, mq_let_e, e1, e1', if_false, e2, e3, e6, e7, c1, c2, c3]
            · intro q
              simp only [okl_Things_burnFully_30_4, mq_letP_e, e1, e1', if_false, e2, e3, e5, e6, e7, c1, c2, c3, b1, true_and]
              exact q)
    (fun n acc => by
      have e1 := fl_lit' hT
      constructor
      · simp only [lp_Things_burnFully_30_4, e1, if_true]
      · simp only [okl_Things_burnFully_30_4, e1, if_true])
  constructor
  · unfold f_Things_burnFully_30
    simp only [mq_let_e, A.1]
  · unfold ok_Things_burnFully_30
    exact ⟨A.2, trivial⟩
theorem M_burnF {s : mS} {N T : Nat} (h : NM s N T) : lp_M_burning_81 s mm_N 0 0 = (smI (ch_t (gI s 133) (gI s 142) (gI s 132) (gI s 145)) T, Int32.ofNat T) ∧ okl_M_burning_81 s mm_N 0 0 := by
  obtain ⟨hN, hN1, hN2, hT, hT2, hnd, hpa⟩ := h
  exact lp_sum (L := lp_M_burning_81 s) (OK := okl_M_burning_81 s) T (by omega) (ch_t (gI s 133) (gI s 142) (gI s 132) (gI s 145))
    (fun n i acc hi => by
      have e1 := fl_lit hT (by omega) (by omega) hi
      have e2 : ix (Int32.ofNat i) = i := ix_ofNat (by omega)
      have e3 : Int32.ofNat i + 1 = Int32.ofNat (i + 1) := ofNat_succ i
      have b1 : mm_inb (Int32.ofNat i) 40 = true := inb_ofNat (by decide) (by omega)
      have hq := hnd i hi
      have e5 : mm_inb (gI s 132 i) 16 = true := inb_ix hq.1 (by omega)
      by_cases c1 : gI s 133 i = 3
      · have e : ch_t (gI s 133) (gI s 142) (gI s 132) (gI s 145) i = 0 := if_pos c1
        rw [e]
        constructor
        · simp only [lp_M_burning_81, e1, if_false, e2, e3, c1, if_true]
        · intro q
          simp only [okl_M_burning_81, e1, if_false, e2, e3, c1, if_true, b1, true_and]
          exact q
      · by_cases c2 : gI s 142 i ≤ 0
        · have e : ch_t (gI s 133) (gI s 142) (gI s 132) (gI s 145) i = 0 := by
            unfold ch_t
            rw [if_neg c1, if_pos c2]
          rw [e]
          constructor
          · simp only [lp_M_burning_81, e1, if_false, e2, e3, c1, c2, if_true]
          · intro q
            simp only [okl_M_burning_81, e1, if_false, e2, e3, c1, c2, if_true, b1, true_and]
            exact q
        · by_cases c3 : gI s 145 (ix (gI s 132 i)) < 20
          · have e : ch_t (gI s 133) (gI s 142) (gI s 132) (gI s 145) i = 0 := by
              unfold ch_t
              rw [if_neg c1, if_neg c2, if_pos c3]
            rw [e]
            constructor
            · simp only [lp_M_burning_81, e1, if_false, e2, e3, c1, c2, c3, if_true]
            · intro q
              simp only [okl_M_burning_81, e1, if_false, e2, e3, c1, c2, c3, if_true, b1, e5, true_and]
              exact q
          · have e : ch_t (gI s 133) (gI s 142) (gI s 132) (gI s 145) i = 1 := by
              unfold ch_t
              rw [if_neg c1, if_neg c2, if_neg c3]
            rw [e]
            constructor
            · simp only [lp_M_burning_81, e1, if_false, e2, e3, c1, c2, c3]
            · intro q
              simp only [okl_M_burning_81, e1, if_false, e2, e3, c1, c2, c3, b1, e5, true_and]
              exact q)
    (fun n acc => by
      have e1 := fl_lit' hT
      constructor
      · simp only [lp_M_burning_81, e1, if_true]
      · simp only [okl_M_burning_81, e1, if_true])
theorem M_wants_c {s u : mS} (h : gI u 140 = gI s 140 ∧ gI u 133 = gI s 133 ∧ gI u 134 = gI s 134 ∧ gI u 135 = gI s 135 ∧ gI u 136 = gI s 136 ∧ gI u 122 = gI s 122 ∧ gI u 116 9 = gI s 116 9 ∧ gI u 116 10 = gI s 116 10) (v a : Int32) : f_M_wants v a u = f_M_wants v a s := by
  obtain ⟨h1, h2, h3, h4, h5, h6, h7, h8⟩ := h
  have e1 : f_M_fogIn a u = f_M_fogIn a s := sky_fog h6 a
  have e2 : ∀ w, f_M_byHour w a u = f_M_byHour w a s := fun w => by
    unfold f_M_byHour
    simp only [mq_let_e, e1]
  unfold f_M_wants
  simp only [mq_let_e, e1, e2, h1, h2, h3, h4, h5, h7, h8]
theorem ch_r_c {s u : mS} (h : gI u 128 = gI s 128 ∧ gI u 176 = gI s 176 ∧ gI u 177 = gI s 177) (set : Int32) : ∀ i, ch_r u set i = ch_r s set i
  | 0 => h.1
  | i + 1 => by
    show (if _ then up _ _ _ else _) = if _ then up _ _ _ else _
    rw [ch_r_c h set i, h.2.1, h.2.2]
theorem ch_P_c {s u : mS} (h : gI u 178 = gI s 178) (c : Nat) (set : Int32) : ch_P u c set = ch_P s c set := by
  unfold ch_P ch_w
  rw [h]
/-- one set, the class -/
theorem G_set {s w : mS} {N T c : Nat} {x : Int32} (h_net : J_net s) (h_things : J_things s) (h_impr : J_impr s) (hN : gI s 116 7 = Int32.ofNat N) (hN1 : 1 ≤ N) (hN2 : N ≤ 16) (hT : gI s 116 8 = Int32.ofNat T) (hT2 : T ≤ 40) (hnd : nt_ndOK N T (gI s 132)) (hpa : nt_paOK N (gI s 127)) (hc : gI s 116 103 = Int32.ofNat c) (hc8 : c ≤ 8) (hf : fp [23, 24, 30, 31, 115] [(111, 5), (111, 6), (111, 7)] false s w) (hw : ∀ t, t < T → gI w 23 t = f_M_wants (Int32.ofNat t) x s) (set : Int32) :
    ok_Improvements_putIn set w ∧ ok_Net_settle_115 (f_Improvements_putIn set w) ∧ ok_Things_burnFully_30 (f_Net_settle_115 (f_Improvements_putIn set w)).2 ∧ f_Things_burnFully_30 (f_Net_settle_115 (f_Improvements_putIn set w)).2 = ch_B s N T c x set ∧ fp [24, 30, 31, 115] [] false w (f_Net_settle_115 (f_Improvements_putIn set w)).2 := by
  have kn := h_net
  unfold J_net at kn
  have kt := h_things
  unfold J_things at kt
  have ki := h_impr
  unfold J_impr at ki
  have w13 : gI w 13 = gI s 132 := by rw [(fpA hf (by decide)).1, kt.1]
  have w14 : gI w 14 = gI s 133 := by rw [(fpA hf (by decide)).1, kt.2.1]
  have w26 : gI w 26 = gI s 127 := by rw [(fpA hf (by decide)).1, kn.1]
  have w27 : gI w 27 = gI s 128 := by rw [(fpA hf (by decide)).1, kn.2.1]
  have w28 : gI w 28 = gI s 129 := by rw [(fpA hf (by decide)).1, kn.2.2.1]
  have w29 : gI w 29 = gI s 130 := by rw [(fpA hf (by decide)).1, kn.2.2.2.1]
  have w25 : gI w 25 11 = gI s 116 11 := by rw [(fpF hf (by decide)).1, kn.2.2.2.2.2.2.2.1]
  have wN : gI w 25 10 = Int32.ofNat N := by rw [(fpF hf (by decide)).1, kn.2.2.2.2.1, hN]
  have wT : gI w 12 12 = Int32.ofNat T := by rw [(fpF hf (by decide)).1, kt.2.2.2.2.2.2.2.2.2.2.1, hT]
  have hNG : NG w N T := ⟨wN, hN1, hN2, wT, hT2, by rw [w13]; exact hnd, by rw [w26]; exact hpa⟩
  have hcx : ix (gI s 116 103) = c := by rw [hc, ix_ofNat (by omega)]
  obtain ⟨g, p1, p2, p3⟩ := G_putIn (s := w) (c := c) (by rw [(fpF hf (by decide)).1, ki.2.2.2.1, hc]) hc8 (by rw [w27, (fpA (c := 128) hf (by decide)).1]) (by rw [(fpA (c := 112) hf (by decide)).1, (fpA (c := 176) hf (by decide)).1, ki.1]) (by rw [(fpA (c := 113) hf (by decide)).1, (fpA (c := 177) hf (by decide)).1, ki.2.1]) (fun i hi => by
    rw [(fpA (c := 176) hf (by decide)).1]
    have := ki.2.2.2.2.2.2.1 i (by omega)
    have := kn.2.2.2.2.2.2.1
    grind) set
  have fi := fr_Improvements_putIn set w
  rw [ch_r_c ⟨(fpA hf (by decide)).1, (fpA hf (by decide)).1, (fpA hf (by decide)).1⟩] at p3
  have hNG2 : NG (sA w 115 g) N T := NG_sA (by decide) hNG
  obtain ⟨a, b, c', q1, q2, q3, q4, q5⟩ := G_settle_115 hNG2
  have fs := fr_Net_settle_115 (sA w 115 g)
  rw [p1] at fi
  simp only [fI_sA, gI_sA, Nat.reduceEqDiff, reduceIte, w13, w14, w26, w28, w29, w25] at q5
  rw [p1]
  have hNG3 : NG (ng3 (sA w 115 g) a b c') N T := NG_ng3 hNG2
  have F := G_burnF hNG3
  simp only [ng3_g, fI_sA, Nat.reduceEqDiff, reduceIte, w13, w14] at F
  refine ⟨p2, q2, ?_, ?_, ?_⟩
  · rw [q1]
    exact F.2
  · rw [q1]
    show f_Things_burnFully_30 (ng3 (sA w 115 g) a b c') = _
    rw [F.1]
    unfold ch_B
    refine smI_c (fun t ht => ?_)
    unfold ch_t
    rw [hw t ht, q5 _ (hnd t ht).2, nt_settle_rs hN1 hnd hpa (fun j hj => p3 j (by omega)) (fun t ht => hw t ht) _ (hnd t ht).2]
  · exact fp_t (fp_m fi (by decide) (by decide) (fun h => h)) (fp_m fs (by decide) (by decide) (fun h => h))
/-- one set, the model -/
theorem M_set {s u : mS} {N T c : Nat} {x : Int32} (h_net : J_net s) (h_impr : J_impr s) (h0 : 0 ≤ x) (hx : x ≤ 10000) (hN : gI s 116 7 = Int32.ofNat N) (hN1 : 1 ≤ N) (hN2 : N ≤ 16) (hT : gI s 116 8 = Int32.ofNat T) (hT2 : T ≤ 40) (hnd : nt_ndOK N T (gI s 132)) (hpa : nt_paOK N (gI s 127)) (hc : gI s 116 103 = Int32.ofNat c) (hc8 : c ≤ 8) (hf : fp [142, 143, 144, 145, 146, 147] [] false s u) (set : Int32) :
    (f_M_burning set x u).1 = ch_B s N T c x set ∧ ok_M_burning set x u ∧ fp [142, 143, 144, 145, 146, 147] [] false u (f_M_burning set x u).2 := by
  have kn := h_net
  unfold J_net at kn
  have ki := h_impr
  unfold J_impr at ki
  have hcx : ix (gI s 116 103) = c := by rw [hc, ix_ofNat (by omega)]
  have u132 : gI u 132 = gI s 132 := (fpA hf (by decide)).1
  have u133 : gI u 133 = gI s 133 := (fpA hf (by decide)).1
  have u127 : gI u 127 = gI s 127 := (fpA hf (by decide)).1
  have u130 : gI u 130 = gI s 130 := (fpA hf (by decide)).1
  have u129 : gI u 129 = gI s 129 := (fpA hf (by decide)).1
  have u11 : gI u 116 11 = gI s 116 11 := (fpF hf (by decide)).1
  have uN : gI u 116 7 = Int32.ofNat N := by rw [(fpF hf (by decide)).1, hN]
  have uT : gI u 116 8 = Int32.ofNat T := by rw [(fpF hf (by decide)).1, hT]
  have hNM : NM u N T := ⟨uN, hN1, hN2, uT, hT2, by rw [u132]; exact hnd, by rw [u127]; exact hpa⟩
  obtain ⟨s1, g, p1, p2, p3, p4, p5⟩ := M_putIn (s := u) (N := N) (c := c) uN hN2 (by rw [(fpF hf (by decide)).1, hc]) hc8 (fun i hi => by
    rw [(fpA (c := 176) hf (by decide)).1]
    have := ki.2.2.2.2.2.2.1 i (by omega)
    have := kn.2.2.2.2.2.2.1
    grind) set x
  rw [ch_r_c (s := s) (u := u) ⟨(fpA hf (by decide)).1, (fpA hf (by decide)).1, (fpA hf (by decide)).1⟩] at p5
  have hW : ∀ t, f_M_wants (Int32.ofNat t) x u = f_M_wants (Int32.ofNat t) x s := fun t => M_wants_c ⟨(fpA hf (by decide)).1, (fpA hf (by decide)).1, (fpA hf (by decide)).1, (fpA hf (by decide)).1, (fpA hf (by decide)).1, (fpA hf (by decide)).1, (fpF hf (by decide)).1, (fpF hf (by decide)).1⟩ _ _
  have hNM2 : NM (sA u 147 g) N T := NM_sA (by decide) hNM
  obtain ⟨w, a, b, c', d, q1, q2, q3, q4, q5⟩ := M_settles hNM2 x h0 hx
  have hW2 : ∀ t, f_M_wants (Int32.ofNat t) x (sA u 147 g) = f_M_wants (Int32.ofNat t) x s := fun t => (M_wants_sA _ _ _ _ _ (by decide)).trans (hW t)
  simp only [fI_sA, gI_sA, Nat.reduceEqDiff, reduceIte, u132, u133, u127, u129, u130, u11, hW2] at q5
  simp only [hW2] at q3
  have hNM3 : NM (nm4 (sA (sA u 147 g) 142 w) a b c' d) N T := NM_nm4 (NM_sA (by decide) hNM2)
  have F := M_burnF hNM3
  simp only [nm4_g, fI_sA, Nat.reduceEqDiff, reduceIte, u132, u133] at F
  have fb := fr_M_burning set x u
  have e : f_M_burning set x u = (smI (ch_t (gI s 133) w (gI s 132) c') T, nm4 (sA (sA u 147 g) 142 w) a b c' d) := by
    unfold f_M_burning
    simp only [mq_let_e, p1, p3, q1, F.1]
  refine ⟨?_, ?_, fb⟩
  · rw [e]
    unfold ch_B
    refine smI_c (fun t ht => ?_)
    unfold ch_t
    rw [q3 t ht, q5 _ (hnd t ht).2, nt_settle_rs hN1 hnd hpa p5 (fun t ht => rfl) _ (hnd t ht).2]
  · unfold ok_M_burning
    simp only [mq_letP_e, p1, p2, p3, p4, q1, q2, F.2, true_and]
