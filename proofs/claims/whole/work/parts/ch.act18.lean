/-! ACT: the model's sums. -/
section
variable {T : Nat → Int32} {L : Nat}
theorem mO_mv {s s' : mS} {p0 p1 n b d : Nat} {r : rpR} {w : Int32 × mS} (hp : p0 ≤ p1) (hf : fp [166] mFR false s s') (h166 : gI s' 166 = gI s 166) (h : mO T L s' p1 n b d r w) : mO T L s p0 n b d r w := mO_pre hf (fun j _ => by rw [h166]) (mO_wk (Nat.le_refl b) hp h)
noncomputable def fdv (s : mS) : Int32 × mS := if gI s 116 82 = 2 then (if gI s 116 84 = 0 then f_M_bad 2 s else (1, f_M_next0 (f_M_lay 9 (gI s 116 84) s))) else f_M_bad 1 s
theorem M_divE (hL : L ≤ 600) {s : mS} {n b d p : Nat} {v : Int32} (hK : mK T L s p n v d) (hb : n + b ≤ p) : mO T L s (p + 1) n b d (rp_div (tz T L) p v) (fdv s) ∧ (gI s 116 82 = 2 → ¬ gI s 116 84 = 0 → ok_M_lay 9 (gI s 116 84) s ∧ ok_M_next0 (f_M_lay 9 (gI s 116 84) s)) := by
  obtain ⟨hE, hN, hA⟩ := tz_E T L
  have t2 : (gI s 116 82 = 2) = (tK (tz T L) p = 2) := tokE (j := 2) hK (by omega)
  have pl := hK.2.2.2.2.2.1
  unfold rp_div fdv
  simp only [t2]
  by_cases c : tK (tz T L) p = 2
  · have v84 := hK.2.2.2.1.2.2.2 (by omega)
    rw [if_pos c, if_pos c, v84]
    by_cases z : v = 0
    · rw [if_pos z, if_pos z]
      exact ⟨mO_bad hK 2, fun _ q => absurd z q⟩
    · rw [if_neg z, if_neg z]
      obtain ⟨np, pL⟩ := hE.1 p (by omega)
      obtain ⟨a1, a2, a3, a4⟩ := M_ly hK (by omega) 9 v
      obtain ⟨b1, b2, b3, b4⟩ := M_nx hL a2 (by omega)
      have b3 := fp_t a3 b3
      have g0 : gI (f_M_next0 (f_M_lay 9 v s)) 166 = up (up (gI s 166) (2 * n) 9) (2 * n + 1) v := by rw [b4, a4]
      refine ⟨?_, fun _ _ => ⟨a1, b1⟩⟩
      generalize f_M_next0 (f_M_lay 9 v s) = z at b2 b3 g0
      refine ⟨b3, rfl, b2, ⟨?_, fun _ => ?_, trivial⟩, fun j hj => ?_, ?_, np⟩
      · show gI z 166 (0 + 2 * n) = _
        rw [g0, Nat.zero_add, up_ne (by omega), up_self]
      · show gI z 166 (0 + 2 * n + 1) = _
        rw [g0, Nat.zero_add, up_self]
      · show gI z 166 j = _
        rw [g0, up_ne (by omega), up_ne (by omega)]
      · show n + 1 + b ≤ tN (tz T L) p
        omega
  · rw [if_neg c, if_neg c]
    exact ⟨mO_bad hK 1, fun q => absurd q c⟩
theorem wl_if {P : Prop} [Decidable P] {x : mS} {y : Option Int32 × mS} : wl (if P then (some 0, x) else y) = if P then (0, x) else wl y := by
  by_cases h : P
  · rw [if_pos h, if_pos h]
    rfl
  · rw [if_neg h, if_neg h]
theorem bad_0 (k : Int32) (s : mS) : (f_M_bad k s).1 = 0 := rfl
theorem M_plE (hL : L ≤ 600) {d : Nat} : ∀ m p v n b s, mK T L s p n v d → n + b ≤ p → mO T L s p n b d (rp_pl (tz T L) m p v) (wl (lp_M_product_9 m s)) ∧ (L < m + p → okl_M_product_9 m s) := by
  obtain ⟨hE, hN, hA⟩ := tz_E T L
  intro m
  induction m with
  | zero =>
    intro p v n b s hK hb
    refine ⟨mO_id hK hb, fun q => ?_⟩
    have := hK.2.2.2.2.2.1
    omega
  | succ m ih =>
    intro p v n b s hK hb
    have t19 : (gI s 116 82 = 42) = (tK (tz T L) p = 19) := tokE (j := 19) hK (by omega)
    have t20 : (gI s 116 82 = 47) = (tK (tz T L) p = 20) := tokE (j := 20) hK (by omega)
    unfold rp_pl
    by_cases c : tK (tz T L) p = 19
    · rw [if_pos c]
      obtain ⟨a1, a2, a3, a4⟩ := M_nx hL hK (by omega)
      obtain ⟨np, pl⟩ := hE.1 p (by omega)
      have c20 : ¬ tK (tz T L) p = 20 := by omega
      generalize hz : f_M_next0 s = z at a2 a3 a4
      have U := M_unitE (b := b + 1) hL a2 (by omega)
      obtain ⟨U1, U2⟩ := U
      generalize hu : f_M_unit z = u at U1
      have I := mO_if (f := fun q w => rp_b (rp_lay (8, 0) q w) (rp_pl (tz T L) m)) (g := fun t => wl (lp_M_product_9 m (f_M_lay 8 0 t))) (OKg := fun t => ok_M_lay 8 0 t ∧ (L < m + 1 + p → okl_M_product_9 m (f_M_lay 8 0 t))) (mO_wk (Nat.le_succ b) (Nat.le_refl _) U1) (fun q w c h1 h2 h4 h3 => by
        have h2' : n + c.length + (b + 1) ≤ q := by
          have := U1.2
          rw [h3] at this
          exact this.2.2.2.2.1
        obtain ⟨Y1, Y2⟩ := mO_lay (b := b) h1 hL (by omega) 8 0
        have Z := ih q w (n + c.length + 1) b (f_M_lay 8 0 u.2) Y1.2.2.1 (by omega)
        exact ⟨mO_then Y1 Z.1, Y2, fun hx => Z.2 (by omega)⟩)
      obtain ⟨I1, I2⟩ := I
      have ef : wl (lp_M_product_9 (m + 1) s) = (if u.1 = 0 then (0, u.2) else wl (lp_M_product_9 m (f_M_lay 8 0 u.2))) := by
        rw [← wl_if]
        simp only [lp_M_product_9, mq_let_e, t19, if_pos c, t20, if_neg c20, if_true, hz, hu]
      have eo : L < m + 1 + p → okl_M_product_9 (m + 1) s := fun hx => by
        simp only [okl_M_product_9, mq_letP_e, t19, if_pos c, t20, if_neg c20, if_true, hz, hu, a1, U2, true_and]
        split
        · trivial
        · next q =>
          rw [if_neg q] at I2
          exact ⟨I2.1, I2.2 hx⟩
      rw [ef, rp_b_assoc]
      exact ⟨mO_mv (by omega) a3 a4 I1, eo⟩
    · rw [if_neg c]
      by_cases c2 : tK (tz T L) p = 20
      · rw [if_pos c2]
        obtain ⟨a1, a2, a3, a4⟩ := M_nx hL hK (by omega)
        obtain ⟨np, pl⟩ := hE.1 p (by omega)
        generalize hz : f_M_next0 s = z at a2 a3 a4
        have D := M_divE (b := b) hL a2 (by omega)
        obtain ⟨D1, D2⟩ := D
        have I := mO_if (f := fun q w => rp_pl (tz T L) m q w) (g := fun t => wl (lp_M_product_9 m t)) (OKg := fun t => L < m + 1 + p → okl_M_product_9 m t) D1 (fun q w c h1 h2 h4 h3 => by
          have Z := ih q w (n + c.length) b (fdv z).2 h1 h2
          exact ⟨Z.1, fun hx => Z.2 (by omega)⟩)
        obtain ⟨I1, I2⟩ := I
        have n10 : ¬ (1 : Int32) = 0 := by decide
        have ef : wl (lp_M_product_9 (m + 1) s) = (if (fdv z).1 = 0 then (0, (fdv z).2) else wl (lp_M_product_9 m (fdv z).2)) := by
          simp only [lp_M_product_9, mq_let_e, t19, if_neg c, t20, if_pos c2, if_neg n10, hz]
          unfold fdv
          by_cases e1 : gI z 116 82 = 2
          · rw [if_pos e1, if_pos e1]
            by_cases e2 : gI z 116 84 = 0
            · rw [if_pos e2, if_pos e2, if_pos (bad_0 2 z)]
              rfl
            · rw [if_neg e2, if_neg e2, if_neg n10]
          · rw [if_neg e1, if_neg e1, if_pos (bad_0 1 z)]
            rfl
        have eo : L < m + 1 + p → okl_M_product_9 (m + 1) s := fun hx => by
          simp only [okl_M_product_9, mq_letP_e, t19, if_neg c, t20, if_pos c2, if_neg n10, hz, a1, true_and]
          unfold fdv at I2
          by_cases e1 : gI z 116 82 = 2
          · rw [if_pos e1] at I2 ⊢
            by_cases e2 : gI z 116 84 = 0
            · rw [if_pos e2]
              exact bit0
            · rw [if_neg e2] at I2 ⊢
              rw [if_neg n10] at I2
              exact ⟨(D2 e1 e2).1, (D2 e1 e2).2, I2 hx⟩
          · rw [if_neg e1]
            exact bit0
        rw [ef]
        exact ⟨mO_mv (by omega) a3 a4 I1, eo⟩
      · rw [if_neg c2]
        have ef : wl (lp_M_product_9 (m + 1) s) = (1, s) := by
          simp only [lp_M_product_9, mq_let_e, t19, if_neg c, t20, if_neg c2]
          rfl
        rw [ef]
        refine ⟨mO_id hK hb, fun _ => ?_⟩
        simp only [okl_M_product_9, mq_letP_e, t19, if_neg c, t20, if_neg c2]
theorem elP_t {o : Option Int32} : mq_elP o True := by
  cases o <;> trivial
theorem M_prodE (hL : L ≤ 600) {d p n b : Nat} {v : Int32} {s : mS} (hK : mK T L s p n v d) (hb : n + b ≤ p) : mO T L s (p + 1) n b d (rp_prod (tz T L) mm_N p v) (f_M_product s) ∧ ok_M_product s := by
  obtain ⟨U1, U2⟩ := M_unitE (b := b) hL hK hb
  have ef : f_M_product s = (if (f_M_unit s).1 = 0 then (0, (f_M_unit s).2) else wl (lp_M_product_9 mm_N (f_M_unit s).2)) := rfl
  have I := mO_if (f := rp_pl (tz T L) mm_N) (g := fun t => wl (lp_M_product_9 mm_N t)) (OKg := fun t => okl_M_product_9 mm_N t) U1 (fun q w c h1 h2 h4 h3 => by
    have Z := M_plE hL mm_N q w (n + c.length) b (f_M_unit s).2 h1 h2
    exact ⟨Z.1, Z.2 (by rw [mm_Ns]; omega)⟩)
  rw [ef]
  refine ⟨I.1, ?_⟩
  unfold ok_M_product
  simp only [mq_letP_e]
  refine ⟨U2, ?_⟩
  have I2 := I.2
  split
  · trivial
  · next q =>
    rw [if_neg q] at I2
    exact ⟨I2, elP_t⟩
theorem M_slE (hL : L ≤ 600) {d : Nat} : ∀ m p v n b s, mK T L s p n v d → n + b ≤ p → mO T L s p n b d (rp_sl (tz T L) mm_N m p v) (wl (lp_M_sumUp_9 m s)) ∧ (L < m + p → okl_M_sumUp_9 m s) := by
  obtain ⟨hE, hN, hA⟩ := tz_E T L
  intro m
  induction m with
  | zero =>
    intro p v n b s hK hb
    refine ⟨mO_id hK hb, fun q => ?_⟩
    have := hK.2.2.2.2.2.1
    omega
  | succ m ih =>
    intro p v n b s hK hb
    have t17 : (gI s 116 82 = 43) = (tK (tz T L) p = 17) := tokE (j := 17) hK (by omega)
    have t18 : (gI s 116 82 = 45) = (tK (tz T L) p = 18) := tokE (j := 18) hK (by omega)
    unfold rp_sl
    by_cases c : tK (tz T L) p = 17 ∨ tK (tz T L) p = 18
    · rw [if_pos c]
      obtain ⟨a1, a2, a3, a4⟩ := M_nx hL hK (by omega)
      obtain ⟨np, pl⟩ := hE.1 p (by omega)
      generalize hz : f_M_next0 s = z at a2 a3 a4
      obtain ⟨U1, U2⟩ := M_prodE (b := b + 1) hL a2 (by omega)
      generalize hu : f_M_product z = u at U1
      have I := mO_if (f := fun q w => rp_b (rp_lay (if tK (tz T L) p = 17 then 6 else 7, 0) q w) (rp_sl (tz T L) mm_N m)) (g := fun t => wl (lp_M_sumUp_9 m (f_M_lay (if tK (tz T L) p = 17 then 6 else 7) 0 t))) (OKg := fun t => ok_M_lay (if tK (tz T L) p = 17 then 6 else 7) 0 t ∧ (L < m + 1 + p → okl_M_sumUp_9 m (f_M_lay (if tK (tz T L) p = 17 then 6 else 7) 0 t))) (mO_wk (Nat.le_succ b) (Nat.le_refl _) U1) (fun q w c h1 h2 h4 h3 => by
        have h2' : n + c.length + (b + 1) ≤ q := by
          have := U1.2
          rw [h3] at this
          exact this.2.2.2.2.1
        obtain ⟨Y1, Y2⟩ := mO_lay (b := b) h1 hL (by omega) (if tK (tz T L) p = 17 then 6 else 7) 0
        have Z := ih q w (n + c.length + 1) b (f_M_lay (if tK (tz T L) p = 17 then 6 else 7) 0 u.2) Y1.2.2.1 (by omega)
        exact ⟨mO_then Y1 Z.1, Y2, fun hx => Z.2 (by omega)⟩)
      obtain ⟨I1, I2⟩ := I
      have ef : wl (lp_M_sumUp_9 (m + 1) s) = (if u.1 = 0 then (0, u.2) else wl (lp_M_sumUp_9 m (f_M_lay (if tK (tz T L) p = 17 then 6 else 7) 0 u.2))) := by
        rw [← wl_if]
        by_cases e : tK (tz T L) p = 17
        · simp only [lp_M_sumUp_9, mq_let_e, t17, if_pos e, hz, hu]
        · simp only [lp_M_sumUp_9, mq_let_e, t17, if_neg e, t18, if_pos (c.resolve_left e), hz, hu]
      have eo : L < m + 1 + p → okl_M_sumUp_9 (m + 1) s := fun hx => by
        have fin : (if u.1 = 0 then True else ok_M_lay (if tK (tz T L) p = 17 then 6 else 7) 0 u.2 ∧ okl_M_sumUp_9 m (f_M_lay (if tK (tz T L) p = 17 then 6 else 7) 0 u.2)) := by
          split
          · trivial
          · next q =>
            rw [if_neg q] at I2
            exact ⟨I2.1, I2.2 hx⟩
        by_cases e : tK (tz T L) p = 17
        · rw [if_pos e] at fin
          simp only [okl_M_sumUp_9, mq_letP_e, t17, if_pos e, hz, hu, a1, U2, true_and]
          exact fin
        · rw [if_neg e] at fin
          simp only [okl_M_sumUp_9, mq_letP_e, t17, if_neg e, t18, if_pos (c.resolve_left e), hz, hu, a1, U2, true_and]
          exact fin
      rw [ef, rp_b_assoc]
      exact ⟨mO_mv (by omega) a3 a4 I1, eo⟩
    · rw [if_neg c]
      have e1 : ¬ tK (tz T L) p = 17 := fun q => c (Or.inl q)
      have e2 : ¬ tK (tz T L) p = 18 := fun q => c (Or.inr q)
      have ef : wl (lp_M_sumUp_9 (m + 1) s) = (1, s) := by
        simp only [lp_M_sumUp_9, mq_let_e, t17, if_neg e1, t18, if_neg e2]
        rfl
      rw [ef]
      refine ⟨mO_id hK hb, fun _ => ?_⟩
      simp only [okl_M_sumUp_9, mq_letP_e, t17, if_neg e1, t18, if_neg e2]
theorem M_sumE (hL : L ≤ 600) {d p n b : Nat} {v : Int32} {s : mS} (hK : mK T L s p n v d) (hb : n + b ≤ p) : mO T L s (p + 1) n b d (rp_sum (tz T L) mm_N p v) (f_M_sumUp s) ∧ ok_M_sumUp s := by
  obtain ⟨U1, U2⟩ := M_prodE (b := b) hL hK hb
  have ef : f_M_sumUp s = (if (f_M_product s).1 = 0 then (0, (f_M_product s).2) else wl (lp_M_sumUp_9 mm_N (f_M_product s).2)) := rfl
  have I := mO_if (f := rp_sl (tz T L) mm_N mm_N) (g := fun t => wl (lp_M_sumUp_9 mm_N t)) (OKg := fun t => okl_M_sumUp_9 mm_N t) U1 (fun q w c h1 h2 h4 h3 => by
    have Z := M_slE hL mm_N q w (n + c.length) b (f_M_product s).2 h1 h2
    exact ⟨Z.1, Z.2 (by rw [mm_Ns]; omega)⟩)
  rw [ef]
  refine ⟨I.1, ?_⟩
  unfold ok_M_sumUp
  simp only [mq_letP_e]
  refine ⟨U2, ?_⟩
  have I2 := I.2
  split
  · trivial
  · next q =>
    rw [if_neg q] at I2
    exact ⟨I2, elP_t⟩
end
