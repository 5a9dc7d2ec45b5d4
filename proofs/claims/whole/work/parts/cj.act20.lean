/-! ACT: the model's lines. -/
def mLR : List (Nat × Nat) := [(116, 78), (116, 79), (116, 81), (116, 82), (116, 83), (116, 84), (116, 85), (116, 86), (116, 88)]
def mK0 (T : Nat → Int32) (L : Nat) (s : mS) (p n : Nat) (v : Int32) : Prop := gI s 116 80 = Int32.ofNat L ∧ gI s 167 = T ∧ gI s 116 79 = Int32.ofNat n ∧ md_R (tz T L) p v s ∧ p ≤ L ∧ gI s 116 85 = 0
section
variable {T : Nat → Int32} {L : Nat}
theorem mK_0 {s : mS} {p n d : Nat} {v : Int32} (h : mK T L s p n v d) : mK0 T L s p n v := ⟨h.1, h.2.1, h.2.2.1, h.2.2.2.1, h.2.2.2.2.2⟩
theorem mK0_c {s t : mS} {p n : Nat} {v : Int32} (h : ∀ j, j ≠ 78 → j ≠ 88 → gI t 116 j = gI s 116 j) (h2 : gI t 167 = gI s 167) (hK : mK0 T L s p n v) : mK0 T L t p n v := by
  obtain ⟨k1, k2, k3, k4, k5, k6⟩ := hK
  exact ⟨by rw [h 80 (by decide) (by decide), k1], by rw [h2, k2], by rw [h 79 (by decide) (by decide), k3], ⟨by rw [h 81 (by decide) (by decide)]; exact k4.1, by rw [h 83 (by decide) (by decide)]; exact k4.2.1, by rw [h 82 (by decide) (by decide)]; exact k4.2.2.1, fun q => by rw [h 84 (by decide) (by decide)]; exact k4.2.2.2 q⟩, k5, by rw [h 85 (by decide) (by decide), k6]⟩
theorem mK_of {s : mS} {p n d : Nat} {v : Int32} (h : mK0 T L s p n v) (h8 : gI s 116 88 = Int32.ofNat d) : mK T L s p n v d := ⟨h.1, h.2.1, h.2.2.1, h.2.2.2.1, h8, h.2.2.2.2⟩
/-- a line, read by the model -/
def mLO (T : Nat → Int32) (L : Nat) (s : mS) (p n l : Nat) (r : (Nat × Nat) ⊕ (Nat × Int32 × rlL)) (w : Int32 × mS) : Prop := fp [163, 164, 165, 166] mLR false s w.2 ∧ match r with
  | .inl e => w.1 = 0 ∧ gI w.2 116 85 = Int32.ofNat e.1 ∧ gI w.2 116 86 = Int32.ofNat e.2
  | .inr x => w.1 = 1 ∧ mK0 T L w.2 x.1 (n + x.2.2.2.1.length + x.2.2.2.2.length) x.2.1 ∧ gI w.2 116 78 = Int32.ofNat (l + 1) ∧ gI w.2 163 l = Int32.ofNat x.2.2.1 ∧ gI w.2 164 l = Int32.ofNat n ∧ gI w.2 165 l = Int32.ofNat (n + x.2.2.2.1.length) ∧ (∀ i, i < l → gI w.2 163 i = gI s 163 i ∧ gI w.2 164 i = gI s 164 i ∧ gI w.2 165 i = gI s 165 i) ∧ c_sgm (gI w.2 166) 0 n (x.2.2.2.1 ++ x.2.2.2.2) ∧ (∀ j, j < 2 * n → gI w.2 166 j = gI s 166 j) ∧ n + x.2.2.2.1.length + x.2.2.2.2.length ≤ x.1 ∧ p < x.1
theorem mk_sub : ∀ k, k ≤ 25 → (301 ≤ tz_mk k ∧ tz_mk k ≤ 305 ↔ 3 ≤ k ∧ k ≤ 7) ∧ (3 ≤ k ∧ k ≤ 7 → tz_mk k - 301 = Int32.ofNat (k - 3)) := by decide +kernel
theorem M_lineE (hL : L ≤ 600) {s : mS} {p n l : Nat} {v : Int32} (hK : mK0 T L s p n v) (hb : n ≤ p) (h78 : gI s 116 78 = Int32.ofNat l) (hl : l ≤ 24) : mLO T L s p n l (rp_line (tz T L) mm_N l p v) (f_M_aLine s) ∧ ok_M_aLine s := by
  obtain ⟨hE, hN, hA⟩ := tz_E T L
  have t82 := hK.2.2.2.1.2.2.1
  obtain ⟨ms1, ms2⟩ := mk_sub _ (tz_K25 T L p)
  have c24 : (gI s 116 78 = 24) = (l = 24) := by
    rw [h78]
    exact propext (ofNat_inj (b := 24) (by omega) (by omega))
  have zi : (f_M_isIn (gI s 116 82) 301 305 s = 0) = ¬ (3 ≤ tK (tz T L) p ∧ tK (tz T L) p ≤ 7) := by
    rw [z_isIn, t82]
    exact propext (not_congr ms1)
  have badO : ∀ k : Nat, mLO T L s p n l (.inl (k, tA (tz T L) p)) (f_M_bad (Int32.ofNat k) s) := fun k => by
    refine ⟨fp_IF (fp_IF fp_r (by decide)) (by decide), rfl, ?_, ?_⟩
    · show gI (sI (sI s 116 85 (Int32.ofNat k)) 116 86 (gI s 116 83)) 116 85 = _
      rw [gI_sI, if_neg (fun q => absurd q.2 (by decide)), gI_sI, if_pos ⟨rfl, rfl⟩]
    · show gI (sI (sI s 116 85 (Int32.ofNat k)) 116 86 (gI s 116 83)) 116 86 = _
      rw [gI_sI, if_pos ⟨rfl, rfl⟩]
      exact hK.2.2.2.1.2.1
  unfold rp_line
  by_cases c : 3 ≤ tK (tz T L) p ∧ tK (tz T L) p ≤ 7
  · rw [if_pos c]
    have nz : ¬ f_M_isIn (gI s 116 82) 301 305 s = 0 := by
      rw [zi]
      exact fun q => q c
    by_cases d : l = 24
    · rw [if_pos d]
      have ef : f_M_aLine s = f_M_bad 3 s := by
        unfold f_M_aLine
        simp only [mq_let_e, if_neg nz, c24, if_pos d]
      have eo : ok_M_aLine s := by
        unfold ok_M_aLine
        simp only [mq_letP_e, if_neg nz, c24, if_pos d, true_and]
        exact bit0
      rw [ef]
      exact ⟨badO 3, eo⟩
    · rw [if_neg d]
      obtain ⟨np, pl⟩ := hE.1 p (by omega)
      have e2 : ix (gI s 116 78) = l := by rw [h78, ix_ofNat (by omega)]
      have b24 : mm_inb (gI s 116 78) 24 = true := by
        rw [h78]
        exact inb_ofNat (by decide) (by omega)
      have b25 : mm_inb (gI s 116 78) 25 = true := by
        rw [h78]
        exact inb_ofNat (by decide) (by omega)
      have es : gI s 116 82 - 301 = Int32.ofNat (tK (tz T L) p - 3) := by rw [t82, ms2 c]
      have e79 := hK.2.2.1
      obtain ⟨s1, hs1⟩ : ∃ s1, sI (sI (sI s 163 l (Int32.ofNat (tK (tz T L) p - 3))) 164 l (Int32.ofNat n)) 116 88 0 = s1 := ⟨_, rfl⟩
      have f1 : fp [163, 164, 165, 166] mLR false s s1 := by
        rw [← hs1]
        exact fp_IF (fp_IA (fp_IA fp_r (by decide)) (by decide)) (by decide)
      have g1 : ∀ j, j ≠ 88 → gI s1 116 j = gI s 116 j := fun j hj => by
        rw [← hs1, gI_sI, if_neg (fun q => hj q.2), gI_sI, if_neg (fun q => absurd q.1 (by decide)), gI_sI, if_neg (fun q => absurd q.1 (by decide))]
      have x163 : gI s1 163 = up (gI s 163) l (Int32.ofNat (tK (tz T L) p - 3)) := by
        rw [← hs1, fI_sI, if_neg (by decide), fI_sI, if_neg (by decide), fI_sI, if_pos rfl]
      have x164 : gI s1 164 = up (gI s 164) l (Int32.ofNat n) := by
        rw [← hs1, fI_sI, if_neg (by decide), fI_sI, if_pos rfl, fI_sI, if_neg (by decide)]
      have x165 : gI s1 165 = gI s 165 := by
        rw [← hs1, fI_sI, if_neg (by decide), fI_sI, if_neg (by decide), fI_sI, if_neg (by decide)]
      have x166 : gI s1 166 = gI s 166 := by
        rw [← hs1, fI_sI, if_neg (by decide), fI_sI, if_neg (by decide), fI_sI, if_neg (by decide)]
      have K1 : mK T L s1 p n v 0 := mK_of (mK0_c (fun j _ h => g1 j h) (by rw [← hs1, fI_sI, if_neg (by decide), fI_sI, if_neg (by decide), fI_sI, if_neg (by decide)]) hK) (by rw [← hs1, gI_sI, if_pos ⟨rfl, rfl⟩]; rfl)
      obtain ⟨a1, a2, a3, a4⟩ := M_nx hL K1 (by omega)
      generalize hz : f_M_next0 s1 = z at a2 a3 a4
      obtain ⟨U1, U2⟩ := M_sumE (b := 0) hL a2 (by omega)
      generalize hu : f_M_sumUp z = u at U1
      have fz : fp [163, 164, 165, 166] mLR false s z := fp_t f1 (fp_m a3 (by decide) (by decide) (fun h => h))
      have fu : fp [163, 164, 165, 166] mLR false s u.2 := fp_t fz (fp_m U1.1 (by decide) (by decide) (fun h => h))
      have k3 : gI u.2 163 = up (gI s 163) l (Int32.ofNat (tK (tz T L) p - 3)) ∧ gI u.2 164 = up (gI s 164) l (Int32.ofNat n) ∧ gI u.2 165 = gI s 165 := by
        refine ⟨?_, ?_, ?_⟩
        · rw [(fpA U1.1 (by decide)).1, (fpA a3 (by decide)).1, x163]
        · rw [(fpA U1.1 (by decide)).1, (fpA a3 (by decide)).1, x164]
        · rw [(fpA U1.1 (by decide)).1, (fpA a3 (by decide)).1, x165]
      cases hr : rp_sum (tz T L) mm_N (tN (tz T L) p) (rp_v (tz T L) v (tN (tz T L) p)) with
      | inl e =>
        rw [hr] at U1
        obtain ⟨_, u1, u2, u3⟩ := U1
        have ef : f_M_aLine s = (0, u.2) := by
          unfold f_M_aLine
          simp only [mq_let_e, if_neg nz, c24, if_neg d, e2, es, e79, hs1, hz, hu, if_pos u1]
        have eo : ok_M_aLine s := by
          unfold ok_M_aLine
          simp only [mq_letP_e, if_neg nz, c24, if_neg d, e2, es, e79, hs1, hz, hu, if_pos u1, b24, b25, a1, U2, true_and, and_self]
        rw [ef]
        exact ⟨⟨fu, rfl, u2, u3⟩, eo⟩
      | inr x =>
        rw [hr] at U1
        obtain ⟨q, v1, c1⟩ := x
        obtain ⟨_, u1, u2, u3, u4, u5, u6⟩ := U1
        have u2 : mK T L u.2 q (n + c1.length) v1 0 := u2
        have u3 : c_sgm (gI u.2 166) 0 n c1 := u3
        have u5 : n + c1.length + 0 ≤ q := u5
        have u6 : tN (tz T L) p + 1 ≤ q := u6
        have u4 : ∀ j, j < 2 * n → gI u.2 166 j = gI s 166 j := fun j hj => by rw [u4 j hj, a4, x166]
        have n0 : ¬ u.1 = 0 := by
          rw [u1]
          decide
        have u79 : gI u.2 116 79 = Int32.ofNat (n + c1.length) := u2.2.2.1
        have u78 : gI u.2 116 78 = Int32.ofNat l := by
          rw [(fpF (show fp [166] mFR false z u.2 from by assumption) (by decide)).1, (fpF a3 (by decide)).1, g1 78 (by decide), h78]
        have t12 : (gI u.2 116 82 = 3) = (tK (tz T L) q = 12) := tokE (j := 12) u2 (by omega)
        have e78 : gI u.2 116 78 + 1 = Int32.ofNat (l + 1) := by rw [u78, ofNat_succ]
        show mLO T L s p n l (rl_when (tz T L) mm_N (tK (tz T L) p - 3) c1 q v1) (f_M_aLine s) ∧ ok_M_aLine s
        unfold rl_when
        -- the end of a line
        have fin : ∀ (c2 : List cI) (q2 : Nat) (v2 : Int32) (t : mS), fp [163, 164, 165, 166] mLR false s t → mK0 T L t q2 (n + c1.length + c2.length) v2 → gI t 116 78 = Int32.ofNat (l + 1) → gI t 163 = up (gI s 163) l (Int32.ofNat (tK (tz T L) p - 3)) → gI t 164 = up (gI s 164) l (Int32.ofNat n) → gI t 165 = up (gI s 165) l (Int32.ofNat (n + c1.length)) → c_sgm (gI t 166) 0 n (c1 ++ c2) → (∀ j, j < 2 * n → gI t 166 j = gI s 166 j) → n + c1.length + c2.length ≤ q2 → p < q2 → (∃ d, gI t 116 88 = Int32.ofNat d) → mLO T L s p n l (rl_end (tz T L) (tK (tz T L) p - 3) c1 c2 q2 v2) (f_M_need 59 t) ∧ ok_M_need 59 t := fun c2 q2 v2 t h1 h2 h3 h4 h5 h6 h7 h8 h9 h10 ⟨dd, h11⟩ => by
          obtain ⟨N1, N2⟩ := M_needE (k := 16) (b := 0) hL (mK_of h2 h11) (by omega) (by omega) (by omega)
          refine ⟨?_, N2⟩
          have N1 : mO T L t (q2 + 1) (n + c1.length + c2.length) 0 dd (rp_need (tz T L) 16 q2 v2) (f_M_need 59 t) := N1
          generalize f_M_need 59 t = w at N1
          unfold rl_end
          cases hn : rp_need (tz T L) 16 q2 v2 with
          | inl e =>
            rw [hn] at N1
            obtain ⟨m1, m2, m3, m4⟩ := N1
            exact ⟨fp_t h1 (fp_m m1 (by decide) (by decide) (fun h => h)), m2, m3, m4⟩
          | inr y =>
            rw [hn] at N1
            obtain ⟨q3, v3, c3⟩ := y
            have c30 : c3 = [] := by
              unfold rp_need at hn
              split at hn
              · have := Sum.inr.inj hn
                exact (congrArg (fun z => z.2.2) this).symm
              · cases hn
            subst c30
            obtain ⟨m1, m2, m3, m4, m5, m6, m7⟩ := N1
            have m3 : mK T L w.2 q3 (n + c1.length + c2.length + 0) v3 dd := m3
            have m6 : n + c1.length + c2.length + 0 + 0 ≤ q3 := m6
            have m7 : q2 + 1 ≤ q3 := m7
            have w166 : ∀ j, j < 2 * (n + (c1 ++ c2).length) → gI w.2 166 j = gI t 166 j := fun j hj => m5 j (by
              rw [List.length_append] at hj
              omega)
            refine ⟨fp_t h1 (fp_m m1 (by decide) (by decide) (fun h => h)), m2, mK_0 m3, ?_, ?_, ?_, ?_, fun i hi => ?_, ?_, fun j hj => ?_, ?_, ?_⟩
            · rw [(fpF m1 (by decide)).1, h3]
            · show gI w.2 163 l = _
              rw [(fpA m1 (by decide)).1, h4, up_self]
            · rw [(fpA m1 (by decide)).1, h5, up_self]
            · show gI w.2 165 l = Int32.ofNat (n + c1.length)
              rw [(fpA m1 (by decide)).1, h6, up_self]
            · rw [(fpA m1 (by decide)).1, (fpA m1 (by decide)).1, (fpA m1 (by decide)).1, h4, h5, h6, up_ne (by omega), up_ne (by omega), up_ne (by omega)]
              exact ⟨rfl, rfl, rfl⟩
            · exact c_sgm_c w166 h7
            · rw [m5 j (by omega)]
              exact h8 j hj
            · show n + c1.length + c2.length ≤ q3
              omega
            · show p < q3
              omega
        have g165 : ∀ (t : mS), gI (sI t 165 l (Int32.ofNat (n + c1.length))) 165 = up (gI t 165) l (Int32.ofNat (n + c1.length)) := fun t => by rw [fI_sI, if_pos rfl]
        by_cases k12 : tK (tz T L) q = 12
        · rw [if_pos k12]
          obtain ⟨nq, ql⟩ := hE.1 q (by omega)
          have K2 : mK T L (sI u.2 165 l (Int32.ofNat (n + c1.length))) q (n + c1.length) v1 0 := by
            obtain ⟨k1, k2, k3, k4, k5, k6⟩ := u2
            have g : ∀ j, gI (sI u.2 165 l (Int32.ofNat (n + c1.length))) 116 j = gI u.2 116 j := fun j => by rw [gI_sI, if_neg (fun q => absurd q.1 (by decide))]
            exact ⟨by rw [g, k1], by rw [fI_sI, if_neg (by decide), k2], by rw [g, k3], ⟨by rw [g]; exact k4.1, by rw [g]; exact k4.2.1, by rw [g]; exact k4.2.2.1, fun q => by rw [g]; exact k4.2.2.2 q⟩, by rw [g, k5], k6.1, by rw [g, k6.2]⟩
          obtain ⟨y1, y2, y3, y4⟩ := M_nx hL K2 (by omega)
          generalize hy : f_M_next0 (sI u.2 165 l (Int32.ofNat (n + c1.length))) = y at y2 y3 y4
          have y166 : gI y 166 = gI u.2 166 := by rw [y4, fI_sI, if_neg (by decide)]
          obtain ⟨V1, V2⟩ := M_anyE hL (M_oneE hL 9 (by omega) 0 rfl) _ _ (n + c1.length) 0 y y2 (by omega)
          have V2 : ok_M_anyT y := V2
          have V1 : mO T L y (tN (tz T L) q + 1) (n + c1.length) 0 0 (rp_any (tz T L) mm_N (rp_one (tz T L) mm_N 9) (tN (tz T L) q) (rp_v (tz T L) v1 (tN (tz T L) q))) (f_M_anyT y) := V1
          generalize hv : f_M_anyT y = w at V1
          have fy : fp [163, 164, 165, 166] mLR false s y := fp_t (fp_IA fu (by decide)) (fp_m y3 (by decide) (by decide) (fun h => h))
          have fw := fp_t fy (fp_m V1.1 (by decide) (by decide) (fun h => h) : fp [163, 164, 165, 166] mLR false y w.2)
          cases hr2 : rp_any (tz T L) mm_N (rp_one (tz T L) mm_N 9) (tN (tz T L) q) (rp_v (tz T L) v1 (tN (tz T L) q)) with
          | inl e =>
            rw [hr2] at V1
            obtain ⟨_, v1', v2', v3'⟩ := V1
            have ef : f_M_aLine s = (0, w.2) := by
              unfold f_M_aLine
              simp only [mq_let_e, if_neg nz, c24, if_neg d, e2, es, e79, hs1, hz, hu, if_neg n0, t12, if_pos k12, u79, hy, hv, if_pos v1']
            have eo : ok_M_aLine s := by
              unfold ok_M_aLine
              simp only [mq_letP_e, if_neg nz, c24, if_neg d, e2, es, e79, hs1, hz, hu, if_neg n0, t12, if_pos k12, u79, hy, hv, if_pos v1', b24, b25, a1, U2, y1, V2, true_and, and_self]
            rw [ef]
            exact ⟨⟨fw, rfl, v2', v3'⟩, eo⟩
          | inr x2 =>
            rw [hr2] at V1
            obtain ⟨q2, v2, c2⟩ := x2
            obtain ⟨V0, w1, w2, w3, w4, w5, w6⟩ := V1
            have w2 : mK T L w.2 q2 (n + c1.length + c2.length) v2 0 := w2
            have w3 : c_sgm (gI w.2 166) 0 (n + c1.length) c2 := w3
            have w5 : n + c1.length + c2.length + 0 ≤ q2 := w5
            have w6 : tN (tz T L) q + 1 ≤ q2 := w6
            have m0 : ¬ w.1 = 0 := by
              rw [w1]
              decide
            have w78 : gI w.2 116 78 = Int32.ofNat l := by
              rw [(fpF V0 (by decide)).1, (fpF y3 (by decide)).1, gI_sI, if_neg (fun q => absurd q.1 (by decide)), u78]
            have e78' : gI w.2 116 78 + 1 = Int32.ofNat (l + 1) := by rw [w78, ofNat_succ]
            have gw : ∀ j, j ≠ 78 → gI (sI w.2 116 78 (Int32.ofNat (l + 1))) 116 j = gI w.2 116 j := fun j hj => by rw [gI_sI, if_neg (fun q => hj q.2)]
            have gA : ∀ c, c ≠ 116 → gI (sI w.2 116 78 (Int32.ofNat (l + 1))) c = gI w.2 c := fun c hc => by rw [fI_sI, if_neg hc]
            obtain ⟨F1, F2⟩ := fin c2 q2 v2 (sI w.2 116 78 (Int32.ofNat (l + 1))) (fp_IF fw (by decide)) (mK0_c (fun j h _ => gw j h) (gA 167 (by decide)) (mK_0 w2)) (by rw [gI_sI, if_pos ⟨rfl, rfl⟩]) (by rw [gA 163 (by decide), (fpA V0 (by decide)).1, (fpA y3 (by decide)).1, fI_sI, if_neg (by decide), k3.1]) (by rw [gA 164 (by decide), (fpA V0 (by decide)).1, (fpA y3 (by decide)).1, fI_sI, if_neg (by decide), k3.2.1]) (by rw [gA 165 (by decide), (fpA V0 (by decide)).1, (fpA y3 (by decide)).1, g165, k3.2.2]) (by
              rw [gA 166 (by decide), c_sgm_app]
              refine ⟨c_sgm_c (fun j hj => ?_) u3, w3⟩
              rw [w4 j hj, y166]) (fun j hj => by
              rw [gA 166 (by decide), w4 j (by omega), y166]
              exact u4 j hj) (by omega) (by omega) ⟨0, by
              rw [gw 88 (by decide)]
              exact w2.2.2.2.2.1⟩
            have ef : f_M_aLine s = f_M_need 59 (sI w.2 116 78 (Int32.ofNat (l + 1))) := by
              unfold f_M_aLine
              simp only [mq_let_e, if_neg nz, c24, if_neg d, e2, es, e79, hs1, hz, hu, if_neg n0, t12, if_pos k12, u79, hy, hv, if_neg m0, e78']
            have eb : mm_bit (f_M_need 59 (sI w.2 116 78 (Int32.ofNat (l + 1)))).1 = true := by
              have := F1.2
              cases he : rl_end (tz T L) (tK (tz T L) p - 3) c1 c2 q2 v2 with
              | inl e =>
                rw [he] at this
                rw [this.1]
                rfl
              | inr e =>
                rw [he] at this
                rw [this.1]
                rfl
            have eo : ok_M_aLine s := by
              unfold ok_M_aLine
              simp only [mq_letP_e, if_neg nz, c24, if_neg d, e2, es, e79, hs1, hz, hu, if_neg n0, t12, if_pos k12, u79, hy, hv, if_neg m0, e78', b24, b25, a1, U2, y1, V2, F2, eb, true_and, and_self]
            rw [ef]
            exact ⟨F1, eo⟩
        · rw [if_neg k12]
          have gt : ∀ j, j ≠ 78 → gI (sI (sI u.2 165 l (Int32.ofNat (n + c1.length))) 116 78 (Int32.ofNat (l + 1))) 116 j = gI u.2 116 j := fun j hj => by rw [gI_sI, if_neg (fun q => hj q.2), gI_sI, if_neg (fun q => absurd q.1 (by decide))]
          have gA : ∀ c, c ≠ 116 → c ≠ 165 → gI (sI (sI u.2 165 l (Int32.ofNat (n + c1.length))) 116 78 (Int32.ofNat (l + 1))) c = gI u.2 c := fun c hc h2 => by rw [fI_sI, if_neg hc, fI_sI, if_neg h2]
          obtain ⟨F1, F2⟩ := fin [] q v1 (sI (sI u.2 165 l (Int32.ofNat (n + c1.length))) 116 78 (Int32.ofNat (l + 1))) (fp_IF (fp_IA fu (by decide)) (by decide)) (mK0_c (fun j h _ => gt j h) (gA 167 (by decide) (by decide)) (mK_0 u2)) (by rw [gI_sI, if_pos ⟨rfl, rfl⟩]) (by rw [gA 163 (by decide) (by decide), k3.1]) (by rw [gA 164 (by decide) (by decide), k3.2.1]) (by rw [fI_sI, if_neg (by decide), g165, k3.2.2]) (by
            rw [gA 166 (by decide) (by decide), List.append_nil]
            exact u3) (fun j hj => by
            rw [gA 166 (by decide) (by decide)]
            exact u4 j hj) (by
            show n + c1.length + 0 ≤ q
            omega) (by omega) ⟨0, by
            rw [gt 88 (by decide)]
            exact u2.2.2.2.2.1⟩
          have e78s : gI (sI u.2 165 l (Int32.ofNat (n + c1.length))) 116 78 + 1 = Int32.ofNat (l + 1) := by rw [gI_sI, if_neg (fun q => absurd q.1 (by decide)), e78]
          have ef : f_M_aLine s = f_M_need 59 (sI (sI u.2 165 l (Int32.ofNat (n + c1.length))) 116 78 (Int32.ofNat (l + 1))) := by
            unfold f_M_aLine
            simp only [mq_let_e, if_neg nz, c24, if_neg d, e2, es, e79, hs1, hz, hu, if_neg n0, t12, if_neg k12, u79, e78]
          have eb : mm_bit (f_M_need 59 (sI (sI u.2 165 l (Int32.ofNat (n + c1.length))) 116 78 (Int32.ofNat (l + 1)))).1 = true := by
            have := F1.2
            cases he : rl_end (tz T L) (tK (tz T L) p - 3) c1 [] q v1 with
            | inl e =>
              rw [he] at this
              rw [this.1]
              rfl
            | inr e =>
              rw [he] at this
              rw [this.1]
              rfl
          have eo : ok_M_aLine s := by
            unfold ok_M_aLine
            simp only [mq_letP_e, if_neg nz, c24, if_neg d, e2, es, e79, hs1, hz, hu, if_neg n0, t12, if_neg k12, u79, e78, b24, b25, a1, U2, F2, eb, true_and, and_self]
          rw [ef]
          exact ⟨F1, eo⟩
  · rw [if_neg c]
    have z0 : f_M_isIn (gI s 116 82) 301 305 s = 0 := by
      rw [zi]
      exact c
    have ef : f_M_aLine s = f_M_bad 1 s := by
      unfold f_M_aLine
      simp only [mq_let_e, if_pos z0]
    have eo : ok_M_aLine s := by
      unfold ok_M_aLine
      simp only [mq_letP_e, if_pos z0, true_and]
      exact bit0
    rw [ef]
    exact ⟨badO 1, eo⟩
end
