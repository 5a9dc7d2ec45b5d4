/-! STEPS: one of each. -/
theorem en_one : ∀ n, n < 16 → ((16 : Int32) - Int32.ofNat n = 1 ↔ (¬ Int32.ofNat n = -1 ∧ 16 ≤ Int32.ofNat n + 1)) := by decide
theorem en_8 : ∀ n, n < 16 → (if (16 : Int32) - Int32.ofNat n ≤ 0 then (16 : Int32) - Int32.ofNat n else 16 - Int32.ofNat n - 1) = (if (if (16 : Int32) ≤ Int32.ofNat n + 1 then (-1 : Int32) else Int32.ofNat n + 1) = -1 then 0 else 16 - (if (16 : Int32) ≤ Int32.ofNat n + 1 then (-1 : Int32) else Int32.ofNat n + 1)) := by decide
theorem en_r : ∀ n, n < 16 → -1 ≤ (if (16 : Int32) ≤ Int32.ofNat n + 1 then (-1 : Int32) else Int32.ofNat n + 1) ∧ (if (16 : Int32) ≤ Int32.ofNat n + 1 then (-1 : Int32) else Int32.ofNat n + 1) ≤ 15 := by decide
theorem x16 {x : Int32} (h0 : -1 ≤ x) (h1 : x ≤ 15) (h : ¬ x = -1) : ∃ n, n < 16 ∧ x = Int32.ofNat n := by
  have p0 : 0 ≤ x := by grind
  exact ⟨ix x, ix_lt (by decide) p0 (show x < 16 by grind), (ofNat_ix p0).symm⟩
/-- what the ended benches leave -/
theorem st_ends {x8 x126 p : Nat → Int32} {B M : Nat} (hB : B ≤ 6) (h8 : ∀ b, b < 6 → x8 b = if x126 b = -1 then 0 else 16 - x126 b) (h1 : ∀ b, b < 6 → -1 ≤ x126 b ∧ x126 b ≤ 15) (h2 : ∀ b, b < 6 → B ≤ b → x126 b = -1) (hp : ∀ b, 0 ≤ p b ∧ p b ≤ Int32.ofNat M) (hM : M < 90000) : smL (fun b => if ¬ x126 b = -1 ∧ 16 ≤ x126 b + 1 then (p b).toInt64 else 0) B = (smI (fun b => if x8 b = 1 then p b else 0) 6).toInt64 ∧ 0 ≤ smI (fun b => if x8 b = 1 then p b else 0) 6 ∧ smI (fun b => if x8 b = 1 then p b else 0) 6 ≤ Int32.ofNat (6 * M) := by
  have w : ∀ b, 0 ≤ (if x8 b = 1 then p b else 0) ∧ (if x8 b = 1 then p b else 0) ≤ Int32.ofNat M := fun b => by
    split
    · exact hp b
    · exact ⟨Int32.le_refl _, (ofNat_le (a := 0) (by omega) (by omega)).mpr (Nat.zero_le _)⟩
  have r := smI_rng (w := fun b => if x8 b = 1 then p b else 0) (b := 6) (M := M) (fun b _ => w b) (by omega) (by omega)
  refine ⟨?_, r⟩
  have e0 : smI (fun b => if x8 b = 1 then p b else 0) 6 = smI (fun b => if x8 b = 1 then p b else 0) B := smI_0 hB (fun b q1 q2 => by
    have e : x8 b = 0 := by rw [h8 b q2, if_pos (h2 b q2 q1)]
    rw [e, if_neg (by decide)])
  have bm : B * M ≤ 6 * M := Nat.mul_le_mul_right _ hB
  rw [e0, ← smL_of (M := M) (fun b _ => w b) hM (by omega)]
  refine smL_c (fun b hb => ?_)
  have e := h8 b (by omega)
  by_cases c : x126 b = -1
  · rw [if_pos c] at e
    rw [if_neg (fun q => q.1 c), e, if_neg (by decide)]
    rfl
  · rw [if_neg c] at e
    have := h1 b (by omega)
    obtain ⟨n, hn, hx⟩ := x16 this.1 this.2 c
    have k := en_one n hn
    rw [← hx] at k
    rw [e]
    by_cases q : 16 - x126 b = 1
    · rw [if_pos q, if_pos (k.mp q)]
    · rw [if_neg q, if_neg (fun z => q (k.mpr z))]
      rfl
theorem yd_rng {y h x : Int32} {k : Nat} (y0 : 0 ≤ y) (y1 : y ≤ Int32.ofNat k * h) (h0 : 0 ≤ h) (h1 : h ≤ 3998) (x0 : 0 ≤ x) (x1 : x ≤ Int32.ofNat k) (hk : k ≤ 5000) : (y.toInt64 + x.toInt64 = (y + x).toInt64) ∧ 0 ≤ y + x ∧ y + x ≤ Int32.ofNat k * (h + 1) := by
  have z := toInt_0
  have e9 : (3998 : Int32).toInt = 3998 := by decide
  have e1 : (1 : Int32).toInt = 1 := by decide
  rw [le_toInt] at y0 y1 h0 h1 x0 x1
  rw [toInt_ofNat (by omega)] at x1
  have m0 : 0 ≤ (k : Int) * h.toInt := Int.mul_nonneg (by omega) (by omega)
  have m1 : (k : Int) * h.toInt ≤ 5000 * 3998 := Int.mul_le_mul (by omega) (by omega) (by omega) (by decide)
  have m : (Int32.ofNat k * h).toInt = k * h.toInt := by
    rw [mul_nn, toInt_ofNat (by omega)] <;> rw [toInt_ofNat (by omega)] <;> omega
  have a : (h + 1).toInt = h.toInt + 1 := by rw [add_nn, e1] <;> omega
  have d : (k : Int) * (h.toInt + 1) = k * h.toInt + k := by rw [Int.mul_add, Int.mul_one]
  have m' : (Int32.ofNat k * (h + 1)).toInt = k * h.toInt + k := by
    rw [mul_nn, toInt_ofNat (by omega), a, d] <;> rw [toInt_ofNat (by omega), a, d] <;> omega
  rw [m] at y1
  have s : (y + x).toInt = y.toInt + x.toInt := by rw [add_nn] <;> omega
  refine ⟨toInt64_add (by omega) (by omega), ?_, ?_⟩
  · rw [le_toInt, s]
    omega
  · rw [le_toInt, s, m']
    omega
theorem st_step {A : aC} {s u : mS} (hWA : aW A) (h : stR A s u) (hh : gI u 116 1 ≤ 3998) : ok_G_goOneStep s ∧ ok_M_step u ∧ stR A (f_G_goOneStep s) (f_M_step u) ∧ gI (f_M_step u) 116 1 = gI u 116 1 + 1 ∧ ∀ t, gI (f_M_step u) 136 t ≤ gI u 136 t := by
  obtain ⟨B, hB, hB6, gas1, gas2, gas3, gas4⟩ := st_gas h
  obtain ⟨h_bench, h_level, h_yard, h_gen, h_things, h_net, h_was, h_sky, h_share, sky_s, e122, hG, hM, hc⟩ := h
  obtain ⟨N, T, hN, hN1, hN2, hT, hT2, hnd, hpa⟩ := J_sz h_net h_things
  have kb := h_bench
  unfold J_bench at kb
  simp only [gI_mix, gL_mix, Nat.reduceLT, reduceIte] at kb
  have kl := h_level
  unfold J_level at kl
  simp only [gI_mix, gL_mix, Nat.reduceLT, reduceIte] at kl
  have ky := h_yard
  unfold J_yard at ky
  simp only [gI_mix, gL_mix, Nat.reduceLT, reduceIte] at ky
  have kg := h_gen
  unfold J_gen at kg
  simp only [gI_mix, gL_mix, Nat.reduceLT, reduceIte] at kg
  have kt := h_things
  unfold J_things at kt
  simp only [gI_mix, gL_mix, Nat.reduceLT, reduceIte] at kt
  have kn := h_net
  unfold J_net at kn
  simp only [gI_mix, gL_mix, Nat.reduceLT, reduceIte] at kn
  have kw := h_was
  unfold J_was at kw
  simp only [gI_mix, gL_mix, Nat.reduceLT, reduceIte] at kw
  have ks := h_sky
  unfold J_sky at ks
  simp only [gI_mix, gL_mix, Nat.reduceLT, reduceIte] at ks
  simp only [gI_mix, Nat.reduceLT, reduceIte] at hN hT hnd hpa
  obtain ⟨kb1, kb2, kb3, kb4, kb5, kb6, kb7, kb8, kb9, kb10, kb11, kb12, kb13, kb14, kb15, kb16, kb17, kb18⟩ := kb
  obtain ⟨kl1, kl2, kl3, kl4, kl5, kl6, kl7⟩ := kl
  obtain ⟨ky1, ky2, ky3, ky4, ky5, ky6⟩ := ky
  obtain ⟨kg1, kg2, kg3, kg4, kg5, kg6, kg7, kg8, kg9⟩ := kg
  obtain ⟨kt1, kt2, kt3, kt4, kt5, kt6, kt7, kt8, kt9, kt10, kt11, kt12, kt13, kt14, kt15, kt16, kt17⟩ := kt
  obtain ⟨kn1, kn2, kn3, kn4, kn5, kn6, kn7, kn8, kn9, kn10, kn11, kn12, kn13, kn14, kn15⟩ := kn
  obtain ⟨kw1, kw2, kw3, kw4, kw5, kw6, kw7⟩ := kw
  obtain ⟨ks1, ks2, ks3, ks4⟩ := ks
  have ha : gI u 116 1 ≤ 10000 := Int32.le_trans kg3 (by decide)
  have NGs : NG s N T := ⟨by rw [kn5, hN], hN1, hN2, by rw [kt11, hT], hT2, by rw [kt1]; exact hnd, by rw [kn1]; exact hpa⟩
  have NMu : NM u N T := ⟨hN, hN1, hN2, hT, hT2, hnd, hpa⟩
  -- the wants
  have wE : ∀ t, f_M_wants (Int32.ofNat t) (gI u 116 1) (mix s u) = f_M_wants (Int32.ofNat t) (gI u 116 1) u := fun t => M_wants_c ⟨rfl, rfl, rfl, rfl, rfl, rfl, rfl, rfl⟩ _ _
  have wR : ∀ t, 0 ≤ f_M_wants (Int32.ofNat t) (gI u 116 1) u ∧ f_M_wants (Int32.ofNat t) (gI u 116 1) u ≤ 495 := fun t => by
    have := want_rng h_sky h_things hc (Int32.ofNat t) (gI u 116 1)
    rw [wE] at this
    exact this
  have wG : ∀ t, t < T → f_Things_wantOf (Int32.ofNat t) (gI s 0 9) s = f_M_wants (Int32.ofNat t) (gI u 116 1) u ∧ ok_Things_wantOf (Int32.ofNat t) (gI s 0 9) s := fun t ht => by
    have q : Int32.ofNat t < gI (mix s u) 116 8 := by
      show Int32.ofNat t < gI u 116 8
      rw [hT]
      exact (ofNat_lt (by omega) (by omega)).mpr ht
    have W := want_eq h_sky h_things q (by omega) kg2 ha
    have C := wantOf_c (s := mix s u) (w := s) ⟨rfl, rfl, rfl, rfl, rfl, rfl, rfl, rfl, rfl⟩ (Int32.ofNat t) (gI u 116 1)
    rw [kg1]
    exact ⟨by rw [C.1, W.1, wE], C.2 W.2⟩
  obtain ⟨W, hWdef⟩ : ∃ W : Nat → Int32, ∀ t, W t = f_M_wants (Int32.ofNat t) (gI u 116 1) u := ⟨_, fun _ => rfl⟩
  obtain ⟨R, hR⟩ : ∃ R, R = nt_settle N T (gI u 127) (gI u 130) (gI u 129) (gI u 128) (gI u 132) (gI u 133) W (gI u 116 11) := ⟨_, rfl⟩
  obtain ⟨gas, hgas⟩ : ∃ gas, gas = smI (wk_g u 0) B := ⟨_, rfl⟩
  rw [← hgas] at gas1 gas3 gas4
  obtain ⟨sh, hsh⟩ : ∃ sh : Int32, sh = if smI R.2.1 T ≤ fl_lev (gI u 116 6) (gI u 116 5) gas then 0 else 1 := ⟨_, rfl⟩
  have sh01 : sh = 0 ∨ sh = 1 := by
    rw [hsh]
    split
    · exact Or.inl rfl
    · exact Or.inr rfl
  have rng := settle_rng (wat := gI u 130) (rs := gI u 128) (kind := gI u 133) (want := W) hN1 hT2 hnd hpa ⟨kn9, kn10⟩ kn14 kn13 (fun t _ => by rw [hWdef t]; exact wR t)
  rw [← hR] at rng
  obtain ⟨tkR, prR⟩ := rng
  -- both steps
  have SG := G_step (s := s) (N := N) (T := T) (W := W) (gas := gas) (A := A) (R := R) (sh := sh) NGs gas1 gas2 (fun t ht => by rw [hWdef t]; exact wG t ht) (fun j => by rw [kn4]; exact kn15 j) hWA hG sky_s (by rw [kg1]; exact kg2) (by rw [kg1]; exact ha) (by rw [kn1, kn2, kn3, kn4, kt1, kt2, kn8]; exact hR) (by rw [kl1, kl2]; exact hsh)
  have SM := M_step (u := u) (N := N) (T := T) (B := B) (W := W) (A := A) (R := R) (sh := sh) (gas := gas) NMu hB hB6 hgas (fun t ht => (hWdef t).symm) kn15 hWA hM kg2 ha hR hsh
  obtain ⟨g1, g2, g3, g4⟩ := SG
  obtain ⟨m1, m2, m3⟩ := SM
  have fog : f_M_fogIn (gI s 0 9) s = f_M_fogIn (gI u 116 1) u := by
    rw [kg1]
    exact sky_fog (s := u) (t := s) e122 _
  rw [fog, kg1] at g4
  generalize due_w A (hr_of (gI u 116 1)) (gI u 116 1 / 96) (f_M_fogIn (gI u 116 1) u) 0 0 = D at g4 m3
  generalize hs' : f_G_goOneStep s = s' at g2 g3 g4
  generalize hu' : f_M_step u = u' at m2 m3
  unfold gs_post at g4
  unfold ms_post at m3
  obtain ⟨G1, G2, G3, G4, G5, G6, G7, G8, G9, G10, G11, G12, G13, G14, G15, G16, G17, G18, G19, G20⟩ := g4
  obtain ⟨M1, M2, M3, M4, M5, M6, M7, M8, M9, M10, M11, M12, M13, M14, M15, M16, M17, M18, M19, M20, M21⟩ := m3
  have lr := lev_rng kl3 kl4 kl5 gas3 gas4
  have us := smI_rng (w := R.2.1) (b := T) (M := 2895) (fun t ht => ⟨(tkR t ht).1, (tkR t ht).2.1⟩) (by have : T * 2895 ≤ 40 * 2895 := Nat.mul_le_mul_right _ hT2; omega) (by omega)
  have usd : 0 ≤ (if sh = 0 then smI R.2.1 T else 0) ∧ (if sh = 0 then smI R.2.1 T else 0) ≤ fl_lev (gI u 116 6) (gI u 116 5) gas := by
    by_cases q : smI R.2.1 T ≤ fl_lev (gI u 116 6) (gI u 116 5) gas
    · have e : sh = 0 := by rw [hsh, if_pos q]
      rw [if_pos e]
      exact ⟨us.1, q⟩
    · have e : ¬ sh = 0 := by rw [hsh, if_neg q]; decide
      rw [if_neg e]
      exact ⟨Int32.le_refl _, lr.1⟩
  have tk0 : ∀ t, t < T → 0 ≤ (if sh = 0 then R.2.1 t else 0) ∧ (if sh = 0 then R.2.1 t else 0) ≤ 2895 ∧ (gI u 133 t ≠ 3 → (if sh = 0 then R.2.1 t else 0) ≤ W t) := fun t ht => by
    by_cases q : sh = 0
    · rw [if_pos q]
      exact tkR t ht
    · rw [if_neg q]
      exact ⟨Int32.le_refl _, by decide, fun _ => by rw [hWdef t]; exact (wR t).1⟩
  -- credits
  have cred : ∀ t, 0 ≤ gI u' 136 t ∧ gI u' 136 t ≤ gI u 136 t := fun t => by
    rw [M16 t]
    by_cases q : t < T ∧ gI u 133 t = 2
    · rw [if_pos q]
      have a := tk0 t q.1
      have b : W t ≤ gI u 136 t := by
        rw [hWdef t]
        exact want_slot (by omega) q.2 (hc t)
      exact less_rng a.1 (Int32.le_trans (a.2.2 (by rw [q.2]; decide)) b) (Int32.le_refl _)
    · rw [if_neg q]
      exact ⟨hc t, Int32.le_refl _⟩
  refine ⟨g1, m1, ⟨?_, ?_, ?_, ?_, ?_, ?_, ?_, ?_, ?_, ?_, ?_, g2, ?_, fun t => (cred t).1⟩, M8, fun t => (cred t).2⟩
  · -- benches
    unfold J_bench
    simp only [gI_mix, gL_mix, Nat.reduceLT, reduceIte]
    have s3 : ∀ j, (3, j) ∉ fw_G_goOneStep → gI s' 3 j = gI s 3 j := fun j hj => (g3.1 3 (by decide) (fun _ => Or.inl (by decide)) j hj).1
    have sB : gI u' 116 4 = gI u 116 4 := (fpF m2 (by decide)).1
    have e126 : ∀ b, b < 6 → (gI u 126 b = -1 ∧ gI u' 126 b = -1) ∨ ∃ n, n < 16 ∧ gI u 126 b = Int32.ofNat n ∧ ¬ gI u 126 b = -1 ∧ gI u' 126 b = if (16 : Int32) ≤ Int32.ofNat n + 1 then (-1 : Int32) else Int32.ofNat n + 1 := fun b hb => by
      by_cases c : gI u 126 b = -1
      · left
        refine ⟨c, ?_⟩
        rw [M1 b, if_neg (fun q => q.2 c), c]
      · right
        have := kb5 b hb
        obtain ⟨n, hn, hx⟩ := x16 this.1 this.2 c
        have lt : b < B := by
          apply Nat.lt_of_not_le
          intro hle
          exact c (kb12 b hb (by rw [hB]; exact (ofNat_le (by omega) (by omega)).mpr hle))
        refine ⟨n, hn, hx, c, ?_⟩
        rw [M1 b, if_pos ⟨lt, c⟩, hx]
    refine ⟨?_, ?_, ?_, fun b hb => ?_, fun b hb => ?_, ?_, ?_, ?_, ?_, ?_, ?_, fun b hb hle => ?_, ?_, ?_, ?_, ?_, ?_, ?_⟩
    · rw [(fpA g3 (by decide)).1, (fpA m2 (by decide)).1]; exact kb1
    · rw [(fpA g3 (by decide)).1, (fpA m2 (by decide)).1]; exact kb2
    · rw [(fpA g3 (by decide)).1, (fpA m2 (by decide)).1]; exact kb3
    · rw [G1 b hb, kb4 b hb]
      rcases e126 b hb with ⟨c1, c2⟩ | ⟨n, hn, c1, c2, c3⟩
      · rw [if_pos c1, if_pos c2]
        rfl
      · rw [if_neg c2, c1, c3]
        exact en_8 n hn
    · rcases e126 b hb with ⟨c1, c2⟩ | ⟨n, hn, c1, c2, c3⟩
      · rw [c2]
        decide
      · rw [c3]
        exact en_r n hn
    · rw [(fpA m2 (by decide)).1]; exact kb6
    · rw [(fpA m2 (by decide)).1]; exact kb7
    · rw [(fpA m2 (by decide)).1]; exact kb8
    · rw [s3 8 (by decide), sB]; exact kb9
    · rw [sB]; exact kb10
    · rw [sB]; exact kb11
    · rw [sB] at hle
      have c := kb12 b hb hle
      rw [M1 b, if_neg (fun q => q.2 c), c]
    · rw [s3 9 (by decide), (fpF m2 (by decide)).1]; exact kb13
    · rw [(fpF m2 (by decide)).1]; exact kb14
    · rw [(fpF m2 (by decide)).1]; exact kb15
    · rw [G2, M2]
    · rw [M2]; decide
    · rw [M2]; decide
  · -- the level
    unfold J_level
    simp only [gI_mix, gL_mix, Nat.reduceLT, reduceIte]
    have e5 : gI u' 116 5 = gI u 116 5 := (fpF m2 (by decide)).1
    have l := less_rng usd.1 usd.2 lr.2
    rw [e5, M3, G3, M4, G4, M5, G5, kl1, kl2, kl6, kl7]
    exact ⟨by rw [(fpF g3 (by decide)).1]; exact kl1, rfl, l.1, l.2, kl5, rfl, rfl⟩
  · -- the yard
    unfold J_yard
    simp only [gI_mix, gL_mix, Nat.reduceLT, reduceIte]
    have nB : ∀ b, b < 6 → B ≤ b → gI u 126 b = -1 := fun b hb hle => kb12 b hb (by rw [hB]; exact (ofNat_le (by omega) (by omega)).mpr hle)
    have a := st_ends (p := gI u 124) (M := 720) hB6 kb4 kb5 nB kb7 (by decide)
    have b := st_ends (p := gI u 125) (M := 180) hB6 kb4 kb5 nB kb8 (by decide)
    have ya := yd_rng (k := 4320) ky3 ky5 kg2 hh a.2.1 a.2.2 (by decide)
    have yb := yd_rng (k := 1080) ky4 ky6 kg2 hh b.2.1 b.2.2 (by decide)
    rw [M6, M7, G6, G7, M8, ky1, ky2, a.1, b.1, kb2, kb3]
    exact ⟨ya.1, yb.1, ya.2.1, yb.2.1, ya.2.2, yb.2.2⟩
  · -- the counts
    unfold J_gen
    simp only [gI_mix, gL_mix, Nat.reduceLT, reduceIte]
    rw [G8, M8, G9, M9, G10, M10, G20, M21, G11, M11, G12, M12, kg1, kg4, kg5, kg6, kg9, kt1, kt2]
    refine ⟨rfl, by grind, by grind, rfl, rfl, rfl, rfl, sh01, rfl⟩
  · -- the things
    unfold J_things
    simp only [gI_mix, gL_mix, Nat.reduceLT, reduceIte]
    refine ⟨?_, ?_, ?_, ?_, ?_, ?_, ?_, ?_, ?_, fun t => ?_, ?_, ?_, ?_, ?_, ?_, ?_, ?_⟩
    · rw [(fpA g3 (by decide)).1, (fpA m2 (by decide)).1]; exact kt1
    · rw [(fpA g3 (by decide)).1, (fpA m2 (by decide)).1]; exact kt2
    · rw [(fpA g3 (by decide)).1, (fpA m2 (by decide)).1]; exact kt3
    · rw [(fpA g3 (by decide)).1, (fpA m2 (by decide)).1]; exact kt4
    · rw [(fpA g3 (by decide)).1, (fpA m2 (by decide)).1]; exact kt5
    · rw [(fpA g3 (by decide)).1, (fpA m2 (by decide)).1]; exact kt6
    · funext t
      rw [G16 t, M16 t, kt2, kt7]
    · funext t
      rw [G15 t, M15 t, kt2, kt6, kt8]
    · funext t
      rw [G13 t, M13 t, kt9]
    · rw [G14 t, M14 t]
      by_cases q : t < T
      · rw [if_pos q, if_pos q, kt10 t, Int64.toInt32_add, Int32.toInt32_toInt64]
      · rw [if_neg q, if_neg q, kt10 t]
    · rw [(fpF g3 (by decide)).1, (fpF m2 (by decide)).1]; exact kt11
    · rw [(fpF m2 (by decide)).1]; exact kt12
    · rw [(fpF m2 (by decide)).1]; exact kt13
    · rw [(fpA m2 (by decide)).1]; exact kt14
    · rw [(fpA m2 (by decide)).1]; exact kt15
    · rw [(fpA m2 (by decide)).1, (fpF m2 (by decide)).1]; exact kt16
    · rw [(fpA m2 (by decide)).1]; exact kt17
  · -- the net
    unfold J_net
    simp only [gI_mix, gL_mix, Nat.reduceLT, reduceIte]
    simp only [(fpA (c := 26) g3 (by decide)).1, (fpA (c := 27) g3 (by decide)).1, (fpA (c := 28) g3 (by decide)).1, (fpA (c := 29) g3 (by decide)).1, (fpF (c := 25) (j := 10) g3 (by decide)).1, (fpF (c := 25) (j := 11) g3 (by decide)).1, (fpA (c := 127) m2 (by decide)).1, (fpA (c := 128) m2 (by decide)).1, (fpA (c := 129) m2 (by decide)).1, (fpA (c := 130) m2 (by decide)).1, (fpF (c := 116) (j := 7) m2 (by decide)).1, (fpF (c := 116) (j := 11) m2 (by decide)).1]
    exact ⟨kn1, kn2, kn3, kn4, kn5, kn6, kn7, kn8, kn9, kn10, kn11, kn12, kn13, kn14, kn15⟩
  · -- what was
    unfold J_was
    simp only [gI_mix, gL_mix, Nat.reduceLT, reduceIte]
    have e7 : gI u' 116 7 = gI u 116 7 := (fpF m2 (by decide)).1
    refine ⟨?_, ?_, ?_, ?_, ?_, fun n h1 h2 => ?_, fun n => ?_⟩
    · funext j
      rw [G17 j, M17 j, kw1]
    · funext j
      rw [G18 j, M18 j, kw2, kn1, kt1]
    · funext j
      rw [G19 j, M19 j, kw3, kn4]
    · rw [M20, hN]
      exact (ofNat_le (a := 0) (by omega) (by omega)).mpr (Nat.zero_le _)
    · rw [M20, e7]
      exact Int32.le_refl _
    · rw [M20, hN] at h1
      have le : N ≤ n := (ofNat_le (by omega) (by omega)).mp h1
      rw [M17 n, M18 n, if_neg (by omega), if_neg (by omega)]
      exact kw6 n (Int32.le_trans kw5 (by rw [hN]; exact h1)) h2
    · rw [M18 n]
      by_cases q : n < N
      · rw [if_pos q]
        have f := flow_rng (M := 2895) hN1 hnd hpa (fun t ht => ⟨(tk0 t ht).1, (tk0 t ht).2.1⟩) (by decide) (by have : T * 2895 ≤ 40 * 2895 := Nat.mul_le_mul_right _ hT2; omega) n q
        refine ⟨f.1, Int32.le_trans f.2 ?_⟩
        have : T * 2895 ≤ 40 * 2895 := Nat.mul_le_mul_right _ hT2
        show Int32.ofNat (T * 2895) ≤ Int32.ofNat 1000000
        exact (ofNat_le (by omega) (by omega)).mpr (by omega)
      · rw [if_neg q]
        exact kw7 n
  · -- the sky
    unfold J_sky
    simp only [gI_mix, gL_mix, Nat.reduceLT, reduceIte]
    simp only [(fpA (c := 2) g3 (by decide)).1, (fpF (c := 1) (j := 1) g3 (by decide)).1, (fpF (c := 1) (j := 2) g3 (by decide)).1, (fpA (c := 122) m2 (by decide)).1, (fpF (c := 116) (j := 9) m2 (by decide)).1, (fpF (c := 116) (j := 10) m2 (by decide)).1]
    exact ⟨ks1, ks2, ks3, ks4⟩
  · exact jf_share m2 (by decide) h_share
  · exact jf_sky g3 (by decide) sky_s
  · rw [(fpA g3 (by decide)).1, (fpA m2 (by decide)).1]
    exact e122
  · exact aM_fp m2 (by decide) hM
