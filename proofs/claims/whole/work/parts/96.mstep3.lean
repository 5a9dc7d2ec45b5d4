/-! A STEP, the model: all of it. -/
theorem aM_fp2 {A0 : List Nat} {F0 : List (Nat × Nat)} {s t : mS} {A : aC} (h : fp A0 F0 false s t) (hq : fpq A0 F0 false [157, 158, 159, 160, 161, 162] [] = true) (hA : aM s A) : aM t A := aM_fp h hq hA
/-- what the model's step leaves -/
def ms_post (u u' : mS) (N T B : Nat) (gas : Int32) (R : Bool × (Nat → Int32) × (Nat → Int32)) (W : Nat → Int32) (sh due app : Int32) : Prop :=
  (∀ b, gI u' 126 b = if b < B ∧ ¬ gI u 126 b = -1 then (if 16 ≤ gI u 126 b + 1 then -1 else gI u 126 b + 1) else gI u 126 b) ∧
  gI u' 116 3 = 0 ∧ gI u' 116 6 = fl_lev (gI u 116 6) (gI u 116 5) gas - (if sh = 0 then smI R.2.1 T else 0) ∧ gL u' 116 36 = gL u 116 36 + gas.toInt64 ∧ gL u' 116 37 = fl_off (gL u 116 37) (gI u 116 6) (gI u 116 5) gas ∧
  gL u' 116 42 = gL u 116 42 + smL (fun b => if ¬ gI u 126 b = -1 ∧ 16 ≤ gI u 126 b + 1 then (gI u 124 b).toInt64 else 0) B ∧ gL u' 116 43 = gL u 116 43 + smL (fun b => if ¬ gI u 126 b = -1 ∧ 16 ≤ gI u 126 b + 1 then (gI u 125 b).toInt64 else 0) B ∧
  gI u' 116 1 = gI u 116 1 + 1 ∧ gI u' 116 44 = (if sh = 0 then gI u 116 44 else gI u 116 44 + 1) ∧ gI u' 116 45 = (if R.1 = true then gI u 116 45 else gI u 116 45 + 1) ∧ gI u' 116 56 = sh ∧ gL u' 116 38 = gL u 116 38 + (if sh = 0 then smI R.2.1 T else 0).toInt64 ∧
  (∀ t, gI u' 138 t = if t < T then (if sh = 0 then R.2.1 t else 0) else gI u 138 t) ∧
  (∀ t, gL u' 139 t = if t < T then gL u 139 t + (if sh = 0 then R.2.1 t else 0).toInt64 else gL u 139 t) ∧
  (∀ t, gI u' 137 t = if t < T ∧ gI u 133 t = 0 ∧ gI u 141 t = 0 then gI u 137 t + (if sh = 0 then R.2.1 t else 0) else gI u 137 t) ∧
  (∀ t, gI u' 136 t = if t < T ∧ gI u 133 t = 2 then gI u 136 t - (if sh = 0 then R.2.1 t else 0) else gI u 136 t) ∧
  (∀ j, gI u' 149 j = if j < N then (if sh = 0 then R.2.2 j else 0) else gI u 149 j) ∧
  (∀ j, gI u' 148 j = if j < N then nt_flow N T (gI u 127) (gI u 132) (fun t => if sh = 0 then R.2.1 t else 0) j else gI u 148 j) ∧
  (∀ j, gI u' 131 j = if j < N then gI u 130 j else gI u 131 j) ∧
  gI u' 116 55 = gI u 116 7 ∧
  gI u' 116 46 = if app = -1 then gI u 116 46 else gI u 116 46 + smI (fa_at N T (gI u 132) (gI u 133) W (fun j => if sh = 0 then R.2.2 j else 0) due) N
theorem M_step {u : mS} {N T B : Nat} {W : Nat → Int32} {A : aC} {R : Bool × (Nat → Int32) × (Nat → Int32)} {sh gas : Int32}
    (hNM : NM u N T) (hB : gI u 116 4 = Int32.ofNat B) (hB6 : B ≤ 6) (hg : gas = smI (wk_g u 0) B)
    (hW : ∀ t, t < T → f_M_wants (Int32.ofNat t) (gI u 116 1) u = W t)
    (hb : ∀ j, gI u 130 j = 0 ∨ gI u 130 j = 1) (hWA : aW A) (hA : aM u A) (h0 : 0 ≤ gI u 116 1) (ha : gI u 116 1 ≤ 10000)
    (hR : R = nt_settle N T (gI u 127) (gI u 130) (gI u 129) (gI u 128) (gI u 132) (gI u 133) W (gI u 116 11))
    (hsh : sh = if smI R.2.1 T ≤ fl_lev (gI u 116 6) (gI u 116 5) gas then 0 else 1) :
    ok_M_step u ∧ fp aw_M_step fw_M_step false u (f_M_step u) ∧ ms_post u (f_M_step u) N T B gas R W sh (due_w A (hr_of (gI u 116 1)) (gI u 116 1 / 96) (f_M_fogIn (gI u 116 1) u) 0 0).2.2.1 (due_w A (hr_of (gI u 116 1)) (gI u 116 1 / 96) (f_M_fogIn (gI u 116 1) u) 0 0).2.1 := by
  have fr := fr_M_step u
  have hN := hNM.1
  have hN1 := hNM.2.1
  have hN2 := hNM.2.2.1
  have hT := hNM.2.2.2.1
  have hT2 := hNM.2.2.2.2.1
  have hnd := hNM.2.2.2.2.2.1
  have hpa := hNM.2.2.2.2.2.2
  obtain ⟨b1, b2, b3, b4, b5⟩ := M_burnsA hB hB6
  rw [← hg] at b3 b4 b5
  generalize hu1 : f_M_burns u = u1 at b2 b3 b4 b5
  have rs := M_rs (u := u1) (N := N) (by rw [(fpF b2 (by decide)).1, hN]) hN2
  have u1_128 : gI u1 128 = gI u 128 := (fpA b2 (by decide)).1
  rw [u1_128] at rs
  generalize hrr : fillA N (gI u 128) (gI u1 147) = rr at rs
  have hrr2 : ∀ j, j < N → rr j = gI u 128 j := fun j hj => by rw [← hrr, fillA_lt hj]
  have f2 : fp [147] [(116, 6), (116, 36), (116, 37)] false u (sA u1 147 rr) := fp_AA (fp_m b2 (by decide) (by decide) (fun h => h)) (by decide)
  have hNM2 : NM (sA u1 147 rr) N T := ⟨by rw [(fpF f2 (by decide)).1, hN], hN1, hN2, by rw [(fpF f2 (by decide)).1, hT], hT2, by rw [(fpA f2 (by decide)).1]; exact hnd, by rw [(fpA f2 (by decide)).1]; exact hpa⟩
  have u2_1 : gI (sA u1 147 rr) 116 1 = gI u 116 1 := (fpF f2 (by decide)).1
  obtain ⟨w, a, b, c, d, q1, q2, q3, q4, q5⟩ := M_settles hNM2 (gI u 116 1) h0 ha
  have hW2 : ∀ t, f_M_wants (Int32.ofNat t) (gI u 116 1) (sA u1 147 rr) = f_M_wants (Int32.ofNat t) (gI u 116 1) u := fun t => M_wants_c ⟨(fpA f2 (by decide)).1, (fpA f2 (by decide)).1, (fpA f2 (by decide)).1, (fpA f2 (by decide)).1, (fpA f2 (by decide)).1, (fpA f2 (by decide)).1, (fpF f2 (by decide)).1, (fpF f2 (by decide)).1⟩ _ _
  have wW : ∀ t, t < T → w t = W t := fun t ht => by rw [q3 t ht, hW2, hW t ht]
  have u2_147 : gI (sA u1 147 rr) 147 = rr := by rw [fI_sA, if_pos rfl]
  have u2_11 : gI (sA u1 147 rr) 116 11 = gI u 116 11 := (fpF f2 (by decide)).1
  simp only [hW2, u2_147, u2_11, (fpA (c := 127) f2 (by decide)).1, (fpA (c := 130) f2 (by decide)).1, (fpA (c := 129) f2 (by decide)).1, (fpA (c := 132) f2 (by decide)).1, (fpA (c := 133) f2 (by decide)).1] at q1 q4 q5
  -- the settling of W with the true resistances
  have cS := nt_swp_c (wat := gI u 130) (hgt := gI u 129) (rs := rr) (kind := gI u 133) (gate := gI u 116 11) hN1 hnd hpa (want := fun t => f_M_wants (Int32.ofNat t) (gI u 116 1) u) (want' := W) hW 12 0 _ W (fun _ => 0) (fun _ => 0) hW (fun _ _ => rfl)
  have cR := nt_swp_rs (wat := gI u 130) (hgt := gI u 129) (kind := gI u 133) (want := W) (gate := gI u 116 11) hN1 hnd hpa hrr2 12 0 W W (fun _ => 0) (fun _ => 0) (fun _ _ => rfl) (fun _ _ => rfl)
  have eS1 : (nt_settle N T (gI u 127) (gI u 130) (gI u 129) rr (gI u 132) (gI u 133) (fun t => f_M_wants (Int32.ofNat t) (gI u 116 1) u) (gI u 116 11)).1 = R.1 := by
    rw [hR]
    exact cS.1.trans cR.1
  have eS2 : ∀ t, t < T → a t = R.2.1 t := fun t ht => by
    rw [q4 t ht, hR]
    exact (cS.2.1 t ht).trans (cR.2.1 t ht)
  have eS3 : ∀ j, j < N → c j = R.2.2 j := fun j hj => by
    rw [q5 j hj, hR]
    exact (cS.2.2 j hj).trans (cR.2.2 j hj)
  rw [eS1] at q1
  have s4 : ∃ u4, (if (if R.1 = true then (1 : Int32) else 0) = 0 then sI (nm4 (sA (sA u1 147 rr) 142 w) a b c d) 116 45 (gI (nm4 (sA (sA u1 147 rr) 142 w) a b c d) 116 45 + 1) else nm4 (sA (sA u1 147 rr) 142 w) a b c d) = u4 ∧ fp [142, 143, 144, 145, 146, 147] [(116, 6), (116, 36), (116, 37), (116, 45)] false u u4 ∧ fp [142, 143, 144, 145, 146, 147] [(116, 45)] false u1 u4 ∧ gI u4 142 = w ∧ gI u4 143 = a ∧ gI u4 145 = c ∧ gI u4 116 45 = if R.1 = true then gI u 116 45 else gI u 116 45 + 1 := by
    have f3 : fp [142, 143, 144, 145, 146, 147] [(116, 45)] false u1 (nm4 (sA (sA u1 147 rr) 142 w) a b c d) := fp_AA (fp_AA (fp_AA (fp_AA (fp_AA (fp_AA fp_r (by decide)) (by decide)) (by decide)) (by decide)) (by decide)) (by decide)
    have fu : fp [142, 143, 144, 145, 146, 147] [(116, 6), (116, 36), (116, 37), (116, 45)] false u u1 := fp_m b2 (by decide) (by decide) (fun h => h)
    have n45 : gI (nm4 (sA (sA u1 147 rr) 142 w) a b c d) 116 45 = gI u 116 45 := by
      rw [nm4_g]
      simp only [Nat.reduceEqDiff, if_false, gI_sA]
      exact (fpF b2 (by decide)).1
    cases hb : R.1
    · refine ⟨sI (nm4 (sA (sA u1 147 rr) 142 w) a b c d) 116 45 (gI u 116 45 + 1), ?_, fp_t fu (fp_m (fp_IF f3 (by decide)) (by decide) (by decide) (fun h => h)), fp_IF f3 (by decide), ?_, ?_, ?_, ?_⟩
      · rw [n45]
        rfl
      · rw [fI_sI, if_neg (by decide), nm4_g]
        simp only [Nat.reduceEqDiff, if_false, fI_sA, if_true]
      · rw [fI_sI, if_neg (by decide), nm4_g]
        simp only [Nat.reduceEqDiff, if_false, if_true]
      · rw [fI_sI, if_neg (by decide), nm4_g]
        simp only [Nat.reduceEqDiff, if_false, if_true]
      · rw [gI_sI, if_pos ⟨rfl, rfl⟩]
        rfl
    · refine ⟨nm4 (sA (sA u1 147 rr) 142 w) a b c d, rfl, fp_t fu (fp_m f3 (by decide) (by decide) (fun h => h)), f3, ?_, ?_, ?_, n45⟩
      · rw [nm4_g]
        simp only [Nat.reduceEqDiff, if_false, fI_sA, if_true]
      · rw [nm4_g]
        simp only [Nat.reduceEqDiff, if_false, if_true]
      · rw [nm4_g]
        simp only [Nat.reduceEqDiff, if_false, if_true]
  obtain ⟨u4, c1, c2, c2', c3, c4, c5, c6⟩ := s4
  have u4T : gI u4 116 8 = Int32.ofNat T := by rw [(fpF c2 (by decide)).1, hT]
  have U := M_used u4T hT2
  rw [c4, smI_c eS2] at U
  have u4l : gI u4 116 6 = fl_lev (gI u 116 6) (gI u 116 5) gas := by rw [(fpF c2' (by decide)).1, b3]
  have u4_44 : gI u4 116 44 = gI u 116 44 := (fpF c2 (by decide)).1
  have x44 : gI u 116 44 + (if sh = 0 then (0 : Int32) else 1) = if sh = 0 then gI u 116 44 else gI u 116 44 + 1 := by
    by_cases q : sh = 0
    · rw [if_pos q, if_pos q, Int32.add_zero]
    · rw [if_neg q, if_neg q]
  have f5 : fp [] [(116, 44), (116, 56)] false u4 (sI (sI u4 116 56 sh) 116 44 (gI u 116 44 + (if sh = 0 then (0 : Int32) else 1))) := fp_IF (fp_IF fp_r (by decide)) (by decide)
  have i44 : gI (sI (sI u4 116 56 sh) 116 44 (gI u 116 44 + (if sh = 0 then (0 : Int32) else 1))) 116 44 = if sh = 0 then gI u 116 44 else gI u 116 44 + 1 := by
    rw [gI_sI, if_pos ⟨rfl, rfl⟩, x44]
  have i56 : gI (sI (sI u4 116 56 sh) 116 44 (gI u 116 44 + (if sh = 0 then (0 : Int32) else 1))) 116 56 = sh := by
    rw [gI_sI, if_neg (by decide), gI_sI, if_pos ⟨rfl, rfl⟩]
  generalize hu5 : sI (sI u4 116 56 sh) 116 44 (gI u 116 44 + (if sh = 0 then (0 : Int32) else 1)) = u5 at f5 i44 i56
  obtain ⟨u6, k1, k2, k3, k4, k5, k6, k7, k8⟩ := M_keepA (u := u5) (T := T) (sh := sh) (a1 := smI R.2.1 T) (tk := R.2.1) (by rw [(fpF f5 (by decide)).1, u4T]) hT2 i56 (fun t ht => by
    rw [(fpA f5 (by decide)).1, c4]
    exact eS2 t ht)
  have u6_56 : gI u6 116 56 = sh := by rw [(fpF k3 (by decide)).1, i56]
  have u6_6 : gI u6 116 6 = fl_lev (gI u 116 6) (gI u 116 5) gas := by rw [(fpF k3 (by decide)).1, (fpF f5 (by decide)).1, u4l]
  have u6_38 : gL u6 116 38 = gL u 116 38 := by rw [(fpF k3 (by decide)).2, (fpF f5 (by decide)).2, (fpF c2 (by decide)).2]
  have x64 : (if sh = 0 then Int32.toInt64 (smI R.2.1 T) else (0 : Int64)) = Int32.toInt64 (if sh = 0 then smI R.2.1 T else 0) := by
    by_cases q : sh = 0
    · rw [if_pos q, if_pos q]
    · rw [if_neg q, if_neg q]
      rfl
  have f7 : fp [] [(116, 6), (116, 38)] false u6 (sL (sI u6 116 6 (fl_lev (gI u 116 6) (gI u 116 5) gas - (if sh = 0 then smI R.2.1 T else 0))) 116 38 (gL u 116 38 + (if sh = 0 then Int32.toInt64 (smI R.2.1 T) else (0 : Int64)))) := fp_LF (fp_IF fp_r (by decide)) (by decide)
  have i6 : gI (sL (sI u6 116 6 (fl_lev (gI u 116 6) (gI u 116 5) gas - (if sh = 0 then smI R.2.1 T else 0))) 116 38 (gL u 116 38 + (if sh = 0 then Int32.toInt64 (smI R.2.1 T) else (0 : Int64)))) 116 6 = fl_lev (gI u 116 6) (gI u 116 5) gas - (if sh = 0 then smI R.2.1 T else 0) := by
    rw [gI_sL, gI_sI, if_pos ⟨rfl, rfl⟩]
  have i38 : gL (sL (sI u6 116 6 (fl_lev (gI u 116 6) (gI u 116 5) gas - (if sh = 0 then smI R.2.1 T else 0))) 116 38 (gL u 116 38 + (if sh = 0 then Int32.toInt64 (smI R.2.1 T) else (0 : Int64)))) 116 38 = gL u 116 38 + Int32.toInt64 (if sh = 0 then smI R.2.1 T else 0) := by
    rw [gL_sL, if_pos ⟨rfl, rfl⟩, x64]
  generalize hu7 : sL (sI u6 116 6 (fl_lev (gI u 116 6) (gI u 116 5) gas - (if sh = 0 then smI R.2.1 T else 0))) 116 38 (gL u 116 38 + (if sh = 0 then Int32.toInt64 (smI R.2.1 T) else (0 : Int64))) = u7 at f7 i6 i38
  have s7 : fp [136, 137, 138, 139, 142, 143, 144, 145, 146, 147] [(116, 6), (116, 36), (116, 37), (116, 38), (116, 44), (116, 45), (116, 56)] false u u7 := fp_t (fp_t (fp_t (fp_m c2 (by decide) (by decide) (fun h => h)) (fp_m f5 (by decide) (by decide) (fun h => h))) (fp_m k3 (by decide) (by decide) (fun h => h))) (fp_m f7 (by decide) (by decide) (fun h => h))
  have hNM7 : NM u7 N T := ⟨by rw [(fpF s7 (by decide)).1, hN], hN1, hN2, by rw [(fpF s7 (by decide)).1, hT], hT2, by rw [(fpA s7 (by decide)).1]; exact hnd, by rw [(fpA s7 (by decide)).1]; exact hpa⟩
  obtain ⟨n1, n2, n3, n4, n5, n6⟩ := M_netkeep (u := u7) (sh := sh) hNM7 (fun j => by
    rw [(fpA s7 (by decide)).1]
    exact hb j) (by rw [(fpF f7 (by decide)).1, u6_56])
  generalize hu8 : f_M_keeps u7 = u8 at n2 n3 n4 n5 n6
  have s8 : fp [131, 136, 137, 138, 139, 142, 143, 144, 145, 146, 147, 148, 149] [(116, 6), (116, 36), (116, 37), (116, 38), (116, 44), (116, 45), (116, 55), (116, 56)] false u u8 := fp_t (fp_m s7 (by decide) (by decide) (fun h => h)) (fp_m n2 (by decide) (by decide) (fun h => h))
  have u8_1 : gI u8 116 1 = gI u 116 1 := (fpF s8 (by decide)).1
  have u8_fog : f_M_fogIn (gI u 116 1) u8 = f_M_fogIn (gI u 116 1) u := sky_fog ((fpA s8 (by decide)).1) _
  obtain ⟨j1, j2, j3, j4, j5⟩ := M_due hWA (aM_fp s8 (by decide) hA) h0 ha 0 0
  rw [u8_fog] at j2 j3
  have j6 := fr_M_dueOf 0 (gI u 116 1) 0 u8
  generalize due_w A (hr_of (gI u 116 1)) (gI u 116 1 / 96) (f_M_fogIn (gI u 116 1) u) 0 0 = D at j2 j3 ⊢
  generalize hu9 : (f_M_dueOf 0 (gI u 116 1) 0 u8).2 = u9 at j3 j6
  have u9_132 : gI u9 132 = gI u 132 := by rw [(fpA j6 (by decide)).1, (fpA s8 (by decide)).1]
  have u9_133 : gI u9 133 = gI u 133 := by rw [(fpA j6 (by decide)).1, (fpA s8 (by decide)).1]
  have u9_142 : gI u9 142 = w := by rw [(fpA j6 (by decide)).1, (fpA n2 (by decide)).1, (fpA f7 (by decide)).1, (fpA k3 (by decide)).1, (fpA f5 (by decide)).1, c3]
  have u9_149 : ∀ j, j < N → gI u9 149 j = if sh = 0 then R.2.2 j else 0 := fun j hj => by
    rw [(fpA j6 (by decide)).1, n3 j, if_pos hj]
    by_cases q : sh = 0
    · rw [if_pos q, if_pos q, (fpA f7 (by decide)).1, (fpA k3 (by decide)).1, (fpA f5 (by decide)).1, c5, eS3 j hj]
    · rw [if_neg q, if_neg q]
  have u9_46 : gI u9 116 46 = gI u 116 46 := by rw [(fpF j6 (by decide)).1, (fpF s8 (by decide)).1]
  have F := M_fails (u := u9) (N := N) (T := T) (a2 := D.2.2.1) (F := fun j => if D.2.1 = -1 then 0 else fa_at N T (gI u 132) (gI u 133) w (gI u9 149) D.2.2.1 j) (by rw [(fpF j6 (by decide)).1, (fpF s8 (by decide)).1, hN]) hN1 hN2 (by rw [(fpF j6 (by decide)).1, (fpF s8 (by decide)).1, hT]) hT2 (by
    show (if D.2.1 = -1 then (0 : Int32) else fa_at N T (gI u 132) (gI u 133) w (gI u9 149) D.2.2.1 0) = 0
    split
    · rfl
    · rfl) (fun i hi => by
    show (if D.2.1 = -1 then (0 : Int32) else fa_at N T (gI u 132) (gI u 133) w (gI u9 149) D.2.2.1 i) = _
    rw [j3, u9_132, u9_133, u9_142]
    by_cases e : D.2.1 = -1
    · simp only [e, if_true, ite_self]
    · rw [if_neg e, if_neg e, fa_at_v hi, if_neg (by decide : ¬ (1 : Int32) = 0)]
      by_cases c7 : aw_at (gI u 132) (gI u 133) w (Int32.ofNat i) T = true
      · rw [if_pos c7, if_pos c7]
      · rw [if_neg c7, if_neg c7, ite_self])
  have eF : smI (fun j => if D.2.1 = -1 then 0 else fa_at N T (gI u 132) (gI u 133) w (gI u9 149) D.2.2.1 j) N = if D.2.1 = -1 then 0 else smI (fa_at N T (gI u 132) (gI u 133) W (fun j => if sh = 0 then R.2.2 j else 0) D.2.2.1) N := by
    by_cases e : D.2.1 = -1
    · rw [if_pos e]
      exact smI_0 (Nat.zero_le N) (fun j _ _ => if_pos e)
    · rw [if_neg e]
      refine smI_c (fun j hj => ?_)
      rw [if_neg e]
      exact fa_at_c wW u9_149 hj
  rw [eF, u9_46] at F
  have f10 : fp [] [(116, 46)] false u9 (sI u9 116 46 (gI u 116 46 + (if D.2.1 = -1 then 0 else smI (fa_at N T (gI u 132) (gI u 133) W (fun j => if sh = 0 then R.2.2 j else 0) D.2.2.1) N))) := fp_IF fp_r (by decide)
  have i46 : gI (sI u9 116 46 (gI u 116 46 + (if D.2.1 = -1 then 0 else smI (fa_at N T (gI u 132) (gI u 133) W (fun j => if sh = 0 then R.2.2 j else 0) D.2.2.1) N))) 116 46 = if D.2.1 = -1 then gI u 116 46 else gI u 116 46 + smI (fa_at N T (gI u 132) (gI u 133) W (fun j => if sh = 0 then R.2.2 j else 0) D.2.2.1) N := by
    rw [gI_sI, if_pos ⟨rfl, rfl⟩]
    by_cases e : D.2.1 = -1
    · rw [if_pos e, if_pos e, Int32.add_zero]
    · rw [if_neg e, if_neg e]
  generalize hu10 : sI u9 116 46 (gI u 116 46 + (if D.2.1 = -1 then 0 else smI (fa_at N T (gI u 132) (gI u 133) W (fun j => if sh = 0 then R.2.2 j else 0) D.2.2.1) N)) = u10 at F f10 i46
  have s10 : fp [131, 136, 137, 138, 139, 142, 143, 144, 145, 146, 147, 148, 149, 168, 169] [(116, 6), (116, 36), (116, 37), (116, 38), (116, 44), (116, 45), (116, 46), (116, 55), (116, 56), (116, 91), (116, 92), (116, 93)] false u u10 := fp_t (fp_t (fp_m s8 (by decide) (by decide) (fun h => h)) (fp_m j6 (by decide) (by decide) (fun h => h))) (fp_m f10 (by decide) (by decide) (fun h => h))
  obtain ⟨e1, e2, e3, e4, e5⟩ := M_endsA (u := u10) (B := B) (by rw [(fpF s10 (by decide)).1, hB]) hB6
  simp only [(fpA (c := 126) s10 (by decide)).1, (fpA (c := 124) s10 (by decide)).1, (fpA (c := 125) s10 (by decide)).1, (fpF (c := 116) (j := 42) s10 (by decide)).2, (fpF (c := 116) (j := 43) s10 (by decide)).2] at e3 e4 e5
  generalize hu11 : f_M_ends u10 = u11 at e2 e3 e4 e5
  have E : f_M_step u = sI (sI u11 116 3 0) 116 1 (gI u11 116 1 + 1) := by
    unfold f_M_step
    simp only [mq_let_e, hu1, rs.1, u2_1, q1, c1, U.1, u4l, ← hsh, u4_44, hu5, k1, u6_56, u6_6, u6_38, hu7, hu8, u8_1, j2, hu9, F.1, hu11]
  have O : ok_M_step u := by
    unfold ok_M_step
    simp only [mq_letP_e, mq_let_e, hu1, rs.1, u2_1, q1, c1, U.1, u4l, ← hsh, u4_44, hu5, k1, u6_56, u6_6, u6_38, hu7, hu8, u8_1, j2, hu9, F.1, hu11, true_and, and_true]
    exact ⟨b1, rs.2, q2, U.2, bit_of (by rw [hsh]; split <;> simp), k2, n1, j1, F.2, e1⟩
  refine ⟨O, fr, ?_⟩
  have fA : fp [126, 168, 169] [(116, 42), (116, 43), (116, 46), (116, 91), (116, 92), (116, 93)] false u8 u11 := fp_t (fp_t (fp_m j6 (by decide) (by decide) (fun h => h)) (fp_m f10 (by decide) (by decide) (fun h => h))) (fp_m e2 (by decide) (by decide) (fun h => h))
  have f7B : fp [126, 131, 144, 148, 149, 168, 169] [(116, 42), (116, 43), (116, 46), (116, 55), (116, 91), (116, 92), (116, 93)] false u7 u11 := fp_t (fp_m n2 (by decide) (by decide) (fun h => h)) (fp_m fA (by decide) (by decide) (fun h => h))
  have f6B : fp [126, 131, 144, 148, 149, 168, 169] [(116, 6), (116, 38), (116, 42), (116, 43), (116, 46), (116, 55), (116, 91), (116, 92), (116, 93)] false u6 u11 := fp_t (fp_m f7 (by decide) (by decide) (fun h => h)) (fp_m f7B (by decide) (by decide) (fun h => h))
  have f5B : fp [126, 131, 136, 137, 138, 139, 143, 144, 148, 149, 168, 169] [(116, 6), (116, 38), (116, 42), (116, 43), (116, 46), (116, 55), (116, 91), (116, 92), (116, 93)] false u5 u11 := fp_t (fp_m k3 (by decide) (by decide) (fun h => h)) (fp_m f6B (by decide) (by decide) (fun h => h))
  have f4B : fp [126, 131, 136, 137, 138, 139, 143, 144, 148, 149, 168, 169] [(116, 6), (116, 38), (116, 42), (116, 43), (116, 44), (116, 46), (116, 55), (116, 56), (116, 91), (116, 92), (116, 93)] false u4 u11 := fp_t (fp_m f5 (by decide) (by decide) (fun h => h)) (fp_m f5B (by decide) (by decide) (fun h => h))
  have f1B : fp [126, 131, 136, 137, 138, 139, 142, 143, 144, 145, 146, 147, 148, 149, 168, 169] [(116, 6), (116, 38), (116, 42), (116, 43), (116, 44), (116, 45), (116, 46), (116, 55), (116, 56), (116, 91), (116, 92), (116, 93)] false u1 u11 := fp_t (fp_m c2' (by decide) (by decide) (fun h => h)) (fp_m f4B (by decide) (by decide) (fun h => h))
  have s5 : fp [142, 143, 144, 145, 146, 147] [(116, 6), (116, 36), (116, 37), (116, 44), (116, 45), (116, 56)] false u u5 := fp_t (fp_m c2 (by decide) (by decide) (fun h => h)) (fp_m f5 (by decide) (by decide) (fun h => h))
  have gE : ∀ c j, ¬ (c = 116 ∧ j = 1) → ¬ (c = 116 ∧ j = 3) → gI (sI (sI u11 116 3 0) 116 1 (gI u11 116 1 + 1)) c j = gI u11 c j := fun c j h1 h2 => by rw [gI_sI, if_neg h1, gI_sI, if_neg h2]
  have lE : ∀ c j, gL (sI (sI u11 116 3 0) 116 1 (gI u11 116 1 + 1)) c j = gL u11 c j := fun c j => rfl
  have aE : ∀ c, ¬ c = 116 → ∀ j, gI (sI (sI u11 116 3 0) 116 1 (gI u11 116 1 + 1)) c j = gI u11 c j := fun c h j => gE c j (fun q => h q.1) (fun q => h q.1)
  have u11_1 : gI u11 116 1 = gI u 116 1 := by rw [(fpF fA (by decide)).1, u8_1]
  rw [E]
  unfold ms_post
  refine ⟨fun b => ?_, ?_, ?_, ?_, ?_, ?_, ?_, ?_, ?_, ?_, ?_, ?_, fun t => ?_, fun t => ?_, fun t => ?_, fun t => ?_, fun j => ?_, fun j => ?_, fun j => ?_, ?_, ?_⟩
  · rw [aE 126 (by decide), e3 b]
  · rw [gI_sI, if_neg (by decide), gI_sI, if_pos ⟨rfl, rfl⟩]
  · rw [gE 116 6 (by decide) (by decide), (fpF f7B (by decide)).1, i6]
  · rw [lE, (fpF f1B (by decide)).2, b4]
  · rw [lE, (fpF f1B (by decide)).2, b5]
  · rw [lE, e4]
  · rw [lE, e5]
  · rw [gI_sI, if_pos ⟨rfl, rfl⟩, u11_1]
  · rw [gE 116 44 (by decide) (by decide), (fpF f5B (by decide)).1, i44]
  · rw [gE 116 45 (by decide) (by decide), (fpF f4B (by decide)).1, c6]
  · rw [gE 116 56 (by decide) (by decide), (fpF f5B (by decide)).1, i56]
  · rw [lE, (fpF f7B (by decide)).2, i38]
  · rw [aE 138 (by decide), (fpA f6B (by decide)).1, k5 t, (fpA s5 (by decide)).1]
  · rw [lE, (fpA f6B (by decide)).2, k6 t, (fpA s5 (by decide)).2]
  · rw [aE 137 (by decide), (fpA f6B (by decide)).1, k7 t, (fpA (c := 133) s5 (by decide)).1, (fpA (c := 141) s5 (by decide)).1, (fpA (c := 137) s5 (by decide)).1]
  · rw [aE 136 (by decide), (fpA f6B (by decide)).1, k8 t, (fpA (c := 133) s5 (by decide)).1, (fpA (c := 136) s5 (by decide)).1]
  · rw [aE 149 (by decide), (fpA fA (by decide)).1, n3 j, (fpA (c := 149) s7 (by decide)).1]
    by_cases l : j < N
    · rw [if_pos l, if_pos l, (fpA f7 (by decide)).1, (fpA k3 (by decide)).1, (fpA f5 (by decide)).1, c5, eS3 j l]
    · rw [if_neg l, if_neg l]
  · rw [aE 148 (by decide), (fpA fA (by decide)).1, n4 j, (fpA (c := 127) s7 (by decide)).1, (fpA (c := 132) s7 (by decide)).1, (fpA (c := 148) s7 (by decide)).1]
    by_cases l : j < N
    · rw [if_pos l, if_pos l]
      refine nt_flow_t hN1 hnd hpa (fun t ht => ?_) j l
      rw [(fpA f7 (by decide)).1]
      exact k4 t ht
    · rw [if_neg l, if_neg l]
  · rw [aE 131 (by decide), (fpA fA (by decide)).1, n5 j, (fpA (c := 130) s7 (by decide)).1, (fpA (c := 131) s7 (by decide)).1]
  · rw [gE 116 55 (by decide) (by decide), (fpF fA (by decide)).1, n6, (fpF s7 (by decide)).1]
  · rw [gE 116 46 (by decide) (by decide), (fpF e2 (by decide)).1, i46]
