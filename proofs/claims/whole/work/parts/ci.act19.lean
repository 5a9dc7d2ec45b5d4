/-! ACT: the model's conditions. -/
section
variable {T : Nat → Int32} {L : Nat}
def rfH (T : Nat → Int32) (L d : Nat) (rfp : Nat → Int32 → rpR) (rf : mS → Int32 × mS) (rok : mS → Prop) : Prop := ∀ p v n b s, mK T L s p n v d → n + b ≤ p → mO T L s (p + 1) n b d (rfp p v) (rf s) ∧ rok s
theorem M_elE (hL : L ≤ 600) {d : Nat} {rfp : Nat → Int32 → rpR} {rf : mS → Int32 × mS} {rok : mS → Prop} (H : rfH T L d rfp rf rok) : ∀ m p v n b s, mK T L s p n v d → n + b ≤ p → mO T L s p n b d (rp_el (tz T L) rfp m p v) (wl (lp_M_every_9 rf m s)) ∧ (L < m + p → okl_M_every_9 rf rok m s) := by
  obtain ⟨hE, hN, hA⟩ := tz_E T L
  intro m
  induction m with
  | zero =>
    intro p v n b s hK hb
    refine ⟨mO_id hK hb, fun q => ?_⟩
    have := hK.2.2.2.2.2.1
    omega
  | succ m ih =>
    intro p v n b s hK hb
    have t14 : (gI s 116 82 = 5) = (tK (tz T L) p = 14) := tokE (j := 14) hK (by omega)
    unfold rp_el
    by_cases c : tK (tz T L) p = 14
    · rw [if_pos c]
      obtain ⟨a1, a2, a3, a4⟩ := M_nx hL hK (by omega)
      obtain ⟨np, pl⟩ := hE.1 p (by omega)
      generalize hz : f_M_next0 s = z at a2 a3 a4
      obtain ⟨U1, U2⟩ := H _ _ n (b + 1) z a2 (by omega)
      generalize hu : rf z = u at U1
      have I := mO_if (f := fun q w => rp_b (rp_lay (14, 0) q w) (rp_el (tz T L) rfp m)) (g := fun t => wl (lp_M_every_9 rf m (f_M_lay 14 0 t))) (OKg := fun t => ok_M_lay 14 0 t ∧ (L < m + 1 + p → okl_M_every_9 rf rok m (f_M_lay 14 0 t))) (mO_wk (Nat.le_succ b) (Nat.le_refl _) U1) (fun q w c h1 h2 h4 h3 => by
        have h2' : n + c.length + (b + 1) ≤ q := by
          have := U1.2
          rw [h3] at this
          exact this.2.2.2.2.1
        obtain ⟨Y1, Y2⟩ := mO_lay (b := b) h1 hL (by omega) 14 0
        have Z := ih q w (n + c.length + 1) b (f_M_lay 14 0 u.2) Y1.2.2.1 (by omega)
        exact ⟨mO_then Y1 Z.1, Y2, fun hx => Z.2 (by omega)⟩)
      obtain ⟨I1, I2⟩ := I
      have ef : wl (lp_M_every_9 rf (m + 1) s) = (if u.1 = 0 then (0, u.2) else wl (lp_M_every_9 rf m (f_M_lay 14 0 u.2))) := by
        rw [← wl_if]
        simp only [lp_M_every_9, mq_let_e, t14, if_pos c, hz, hu]
      have eo : L < m + 1 + p → okl_M_every_9 rf rok (m + 1) s := fun hx => by
        simp only [okl_M_every_9, mq_letP_e, t14, if_pos c, hz, hu, a1, U2, true_and]
        split
        · trivial
        · next q =>
          rw [if_neg q] at I2
          exact ⟨I2.1, I2.2 hx⟩
      rw [ef, rp_b_assoc]
      exact ⟨mO_mv (by omega) a3 a4 I1, eo⟩
    · rw [if_neg c]
      have ef : wl (lp_M_every_9 rf (m + 1) s) = (1, s) := by
        simp only [lp_M_every_9, mq_let_e, t14, if_neg c]
        rfl
      rw [ef]
      refine ⟨mO_id hK hb, fun _ => ?_⟩
      simp only [okl_M_every_9, mq_letP_e, t14, if_neg c]
theorem M_everyE (hL : L ≤ 600) {d : Nat} {rfp : Nat → Int32 → rpR} {rf : mS → Int32 × mS} {rok : mS → Prop} (H : rfH T L d rfp rf rok) : rfH T L d (rp_every (tz T L) mm_N rfp) (f_M_every rf) (ok_M_every rf rok) := by
  intro p v n b s hK hb
  obtain ⟨U1, U2⟩ := H p v n b s hK hb
  generalize hu : rf s = u at U1
  have ef : f_M_every rf s = (if u.1 = 0 then (0, u.2) else wl (lp_M_every_9 rf mm_N u.2)) := by
    unfold f_M_every
    simp only [mq_let_e, hu]
    rfl
  have I := mO_if (f := rp_el (tz T L) rfp mm_N) (g := fun t => wl (lp_M_every_9 rf mm_N t)) (OKg := fun t => okl_M_every_9 rf rok mm_N t) U1 (fun q w c h1 h2 h4 h3 => by
    have Z := M_elE hL H mm_N q w (n + c.length) b u.2 h1 h2
    exact ⟨Z.1, Z.2 (by rw [mm_Ns]; omega)⟩)
  rw [ef]
  refine ⟨I.1, ?_⟩
  unfold ok_M_every
  simp only [mq_letP_e, hu]
  refine ⟨U2, ?_⟩
  have I2 := I.2
  split
  · trivial
  · next q =>
    rw [if_neg q] at I2
    exact ⟨I2, elP_t⟩
theorem M_alE (hL : L ≤ 600) {d : Nat} {rfp : Nat → Int32 → rpR} {rf : mS → Int32 × mS} {rok : mS → Prop} (H : rfH T L d rfp rf rok) : ∀ m p v n b s, mK T L s p n v d → n + b ≤ p → mO T L s p n b d (rp_al (tz T L) mm_N rfp m p v) (wl (lp_M_any_9 rf m s)) ∧ (L < m + p → okl_M_any_9 rf rok m s) := by
  obtain ⟨hE, hN, hA⟩ := tz_E T L
  intro m
  induction m with
  | zero =>
    intro p v n b s hK hb
    refine ⟨mO_id hK hb, fun q => ?_⟩
    have := hK.2.2.2.2.2.1
    omega
  | succ m ih =>
    intro p v n b s hK hb
    have t13 : (gI s 116 82 = 4) = (tK (tz T L) p = 13) := tokE (j := 13) hK (by omega)
    unfold rp_al
    by_cases c : tK (tz T L) p = 13
    · rw [if_pos c]
      obtain ⟨a1, a2, a3, a4⟩ := M_nx hL hK (by omega)
      obtain ⟨np, pl⟩ := hE.1 p (by omega)
      generalize hz : f_M_next0 s = z at a2 a3 a4
      obtain ⟨U1, U2⟩ := M_everyE hL H _ _ n (b + 1) z a2 (by omega)
      generalize hu : f_M_every rf z = u at U1
      have I := mO_if (f := fun q w => rp_b (rp_lay (15, 0) q w) (rp_al (tz T L) mm_N rfp m)) (g := fun t => wl (lp_M_any_9 rf m (f_M_lay 15 0 t))) (OKg := fun t => ok_M_lay 15 0 t ∧ (L < m + 1 + p → okl_M_any_9 rf rok m (f_M_lay 15 0 t))) (mO_wk (Nat.le_succ b) (Nat.le_refl _) U1) (fun q w c h1 h2 h4 h3 => by
        have h2' : n + c.length + (b + 1) ≤ q := by
          have := U1.2
          rw [h3] at this
          exact this.2.2.2.2.1
        obtain ⟨Y1, Y2⟩ := mO_lay (b := b) h1 hL (by omega) 15 0
        have Z := ih q w (n + c.length + 1) b (f_M_lay 15 0 u.2) Y1.2.2.1 (by omega)
        exact ⟨mO_then Y1 Z.1, Y2, fun hx => Z.2 (by omega)⟩)
      obtain ⟨I1, I2⟩ := I
      have ef : wl (lp_M_any_9 rf (m + 1) s) = (if u.1 = 0 then (0, u.2) else wl (lp_M_any_9 rf m (f_M_lay 15 0 u.2))) := by
        rw [← wl_if]
        simp only [lp_M_any_9, mq_let_e, t13, if_pos c, hz, hu]
      have eo : L < m + 1 + p → okl_M_any_9 rf rok (m + 1) s := fun hx => by
        simp only [okl_M_any_9, mq_letP_e, t13, if_pos c, hz, hu, a1, U2, true_and]
        split
        · trivial
        · next q =>
          rw [if_neg q] at I2
          exact ⟨I2.1, I2.2 hx⟩
      rw [ef, rp_b_assoc]
      exact ⟨mO_mv (by omega) a3 a4 I1, eo⟩
    · rw [if_neg c]
      have ef : wl (lp_M_any_9 rf (m + 1) s) = (1, s) := by
        simp only [lp_M_any_9, mq_let_e, t13, if_neg c]
        rfl
      rw [ef]
      refine ⟨mO_id hK hb, fun _ => ?_⟩
      simp only [okl_M_any_9, mq_letP_e, t13, if_neg c]
theorem M_anyE (hL : L ≤ 600) {d : Nat} {rfp : Nat → Int32 → rpR} {rf : mS → Int32 × mS} {rok : mS → Prop} (H : rfH T L d rfp rf rok) : rfH T L d (rp_any (tz T L) mm_N rfp) (f_M_any rf) (ok_M_any rf rok) := by
  intro p v n b s hK hb
  obtain ⟨U1, U2⟩ := M_everyE hL H p v n b s hK hb
  generalize hu : f_M_every rf s = u at U1
  have ef : f_M_any rf s = (if u.1 = 0 then (0, u.2) else wl (lp_M_any_9 rf mm_N u.2)) := by
    unfold f_M_any
    simp only [mq_let_e, hu]
    rfl
  have I := mO_if (f := rp_al (tz T L) mm_N rfp mm_N) (g := fun t => wl (lp_M_any_9 rf mm_N t)) (OKg := fun t => okl_M_any_9 rf rok mm_N t) U1 (fun q w c h1 h2 h4 h3 => by
    have Z := M_alE hL H mm_N q w (n + c.length) b u.2 h1 h2
    exact ⟨Z.1, Z.2 (by rw [mm_Ns]; omega)⟩)
  rw [ef]
  refine ⟨I.1, ?_⟩
  unfold ok_M_any
  simp only [mq_letP_e, hu]
  refine ⟨U2, ?_⟩
  have I2 := I.2
  split
  · trivial
  · next q =>
    rw [if_neg q] at I2
    exact ⟨I2, elP_t⟩
theorem M_needE (hL : L ≤ 600) {d p n b k : Nat} {v : Int32} {s : mS} (hK : mK T L s p n v d) (hb : n + b ≤ p) (hk : k ≤ 25) (hk1 : 2 ≤ k) : mO T L s (p + 1) n b d (rp_need (tz T L) k p v) (f_M_need (tz_mk k) s) ∧ ok_M_need (tz_mk k) s := by
  obtain ⟨hE, hN, hA⟩ := tz_E T L
  have tk : (gI s 116 82 = tz_mk k) = (tK (tz T L) p = k) := tokE (j := k) hK hk
  unfold rp_need f_M_need ok_M_need
  simp only [tk]
  by_cases c : tK (tz T L) p = k
  · rw [if_pos c, if_pos c, if_pos c]
    obtain ⟨np, pl⟩ := hE.1 p (by omega)
    obtain ⟨a1, a2, a3, a4⟩ := M_nx hL hK (by omega)
    simp only [mq_let_e, mq_letP_e]
    refine ⟨?_, a1, trivial⟩
    generalize f_M_next0 s = z at a2 a3 a4
    exact ⟨a3, rfl, a2, trivial, fun j _ => by rw [a4], by
      show n + 0 + b ≤ tN (tz T L) p
      omega, np⟩
  · rw [if_neg c, if_neg c, if_neg c]
    simp only [mq_let_e, mq_letP_e]
    exact ⟨mO_bad hK 1, trivial, bit0⟩
theorem M_openE (hL : L ≤ 600) {d p n b : Nat} {v : Int32} {s : mS} (hK : mK T L s p n v d) (hd : d ≤ 8) (h0 : tK (tz T L) p ≠ 1) : (d = 8 → f_M_opens s = f_M_bad 3 s ∧ ok_M_opens s) ∧ (d ≠ 8 → ∃ z, f_M_opens s = (1, z) ∧ ok_M_opens s ∧ mK T L z (tN (tz T L) p) n (rp_v (tz T L) v (tN (tz T L) p)) (d + 1) ∧ fp [166] mFR false s z ∧ gI z 166 = gI s 166) := by
  have c8 : (gI s 116 88 = 8) = (d = 8) := by
    rw [hK.2.2.2.2.1]
    exact propext (ofNat_inj (b := 8) (by omega) (by omega))
  constructor
  · intro e
    constructor
    · unfold f_M_opens
      simp only [mq_let_e, c8, if_pos e]
    · unfold ok_M_opens
      simp only [mq_letP_e, c8, if_pos e, true_and]
      exact bit0
  · intro e
    have e1 : gI s 116 88 + 1 = Int32.ofNat (d + 1) := by rw [hK.2.2.2.2.1, ofNat_succ]
    have g : ∀ j, j ≠ 88 → gI (sI s 116 88 (Int32.ofNat (d + 1))) 116 j = gI s 116 j := fun j hj => by rw [gI_sI, if_neg (fun q => hj q.2)]
    have K2 : mK T L (sI s 116 88 (Int32.ofNat (d + 1))) p n v (d + 1) := by
      obtain ⟨k1, k2, k3, k4, k5, k6⟩ := hK
      exact ⟨by rw [g 80 (by decide), k1], by rw [fI_sI, if_neg (by decide), k2], by rw [g 79 (by decide), k3], ⟨by rw [g 81 (by decide)]; exact k4.1, by rw [g 83 (by decide)]; exact k4.2.1, by rw [g 82 (by decide)]; exact k4.2.2.1, fun q => by rw [g 84 (by decide)]; exact k4.2.2.2 q⟩, by rw [gI_sI, if_pos ⟨rfl, rfl⟩], k6.1, by rw [g 85 (by decide), k6.2]⟩
    obtain ⟨a1, a2, a3, a4⟩ := M_nx hL K2 h0
    refine ⟨f_M_next0 (sI s 116 88 (Int32.ofNat (d + 1))), ?_, ?_, a2, fp_t (fp_IF fp_r (by decide)) a3, by rw [a4, fI_sI, if_neg (by decide)]⟩
    · unfold f_M_opens
      simp only [mq_let_e, c8, if_neg e, e1]
    · unfold ok_M_opens
      simp only [mq_letP_e, c8, if_neg e, e1, a1, and_self]
theorem mK_88 {s : mS} {p n d d' : Nat} {v : Int32} (hK : mK T L s p n v d) : mK T L (sI s 116 88 (Int32.ofNat d')) p n v d' := by
  have g : ∀ j, j ≠ 88 → gI (sI s 116 88 (Int32.ofNat d')) 116 j = gI s 116 j := fun j hj => by rw [gI_sI, if_neg (fun q => hj q.2)]
  obtain ⟨k1, k2, k3, k4, k5, k6⟩ := hK
  exact ⟨by rw [g 80 (by decide), k1], by rw [fI_sI, if_neg (by decide), k2], by rw [g 79 (by decide), k3], ⟨by rw [g 81 (by decide)]; exact k4.1, by rw [g 83 (by decide)]; exact k4.2.1, by rw [g 82 (by decide)]; exact k4.2.2.1, fun q => by rw [g 84 (by decide)]; exact k4.2.2.2 q⟩, by rw [gI_sI, if_pos ⟨rfl, rfl⟩], k6.1, by rw [g 85 (by decide), k6.2]⟩
/-- one level up -/
theorem mO_up {s : mS} {p0 n b d : Nat} {r : rpR} {w : Int32 × mS} (h : mO T L s p0 n b (d + 1) r w) : mO T L s p0 n b d r (if w.1 = 0 then (0, w.2) else (1, sI w.2 116 88 (gI w.2 116 88 - 1))) := by
  cases r with
  | inl e =>
    obtain ⟨a1, a2, a3, a4⟩ := h
    rw [if_pos a2]
    exact ⟨a1, rfl, a3, a4⟩
  | inr x =>
    obtain ⟨a1, a2, a3, a4, a5, a6, a7⟩ := h
    have n0 : ¬ w.1 = 0 := by
      rw [a2]
      decide
    have e1 : gI w.2 116 88 - 1 = Int32.ofNat d := by
      rw [a3.2.2.2.2.1, ← ofNat_succ]
      grind
    rw [if_neg n0, e1]
    refine ⟨fp_IF a1 (by decide), rfl, mK_88 a3, ?_, fun j hj => ?_, a6, a7⟩
    · show c_sgm (gI (sI w.2 116 88 (Int32.ofNat d)) 166) 0 n x.2.2
      rw [fI_sI, if_neg (by decide)]
      exact a4
    · show gI (sI w.2 116 88 (Int32.ofNat d)) 166 j = _
      rw [gI_sI, if_neg (fun q => absurd q.1 (by decide))]
      exact a5 j hj
noncomputable def cmv (s : mS) : Int32 := if gI s 116 82 = 60 then 10 else if gI s 116 82 = 61 then 11 else if gI s 116 82 = 62 then 12 else -1
theorem M_cmpE (hL : L ≤ 600) {d p n b : Nat} {v : Int32} {s : mS} (hK : mK T L s p n v d) (hb : n + b ≤ p) : mO T L s (p + 1) n b d (rp_cmp (tz T L) mm_N p v) (if cmv s = -1 then f_M_bad 1 s else if (f_M_sumUp (f_M_next0 s)).1 = 0 then (0, (f_M_sumUp (f_M_next0 s)).2) else (1, f_M_lay (cmv s) 0 (f_M_sumUp (f_M_next0 s)).2)) ∧ (¬ cmv s = -1 → ok_M_next0 s ∧ ok_M_sumUp (f_M_next0 s) ∧ (if (f_M_sumUp (f_M_next0 s)).1 = 0 then True else ok_M_lay (cmv s) 0 (f_M_sumUp (f_M_next0 s)).2)) := by
  obtain ⟨hE, hN, hA⟩ := tz_E T L
  have t23 : (gI s 116 82 = 60) = (tK (tz T L) p = 23) := tokE (j := 23) hK (by omega)
  have t24 : (gI s 116 82 = 61) = (tK (tz T L) p = 24) := tokE (j := 24) hK (by omega)
  have t25 : (gI s 116 82 = 62) = (tK (tz T L) p = 25) := tokE (j := 25) hK (by omega)
  have ec : cmv s = if tK (tz T L) p = 23 then 10 else if tK (tz T L) p = 24 then 11 else if tK (tz T L) p = 25 then 12 else -1 := by
    unfold cmv
    simp only [t23, t24, t25]
  unfold rp_cmp
  by_cases c : tK (tz T L) p = 23 ∨ tK (tz T L) p = 24 ∨ tK (tz T L) p = 25
  · rw [if_pos c]
    have e2 : cmv s = if tK (tz T L) p = 23 then 10 else if tK (tz T L) p = 24 then 11 else 12 := by
      rw [ec]
      rcases c with q | q | q <;> rw [q] <;> rfl
    have n1 : ¬ cmv s = -1 := by
      rw [e2]
      rcases c with q | q | q <;> rw [q] <;> decide
    rw [if_neg n1]
    obtain ⟨np, pl⟩ := hE.1 p (by omega)
    obtain ⟨a1, a2, a3, a4⟩ := M_nx hL hK (by omega)
    generalize f_M_next0 s = z at a2 a3 a4
    obtain ⟨U1, U2⟩ := M_sumE (b := b + 1) hL a2 (by omega)
    generalize f_M_sumUp z = u at U1
    have I := mO_if (f := rp_lay (if tK (tz T L) p = 23 then 10 else if tK (tz T L) p = 24 then 11 else 12, 0)) (g := fun t => (1, f_M_lay (cmv s) 0 t)) (OKg := fun t => ok_M_lay (cmv s) 0 t) (mO_wk (Nat.le_succ b) (Nat.le_refl _) U1) (fun q w c h1 h2 h4 h3 => by
      have h2' : n + c.length + (b + 1) ≤ q := by
        have := U1.2
        rw [h3] at this
        exact this.2.2.2.2.1
      rw [e2]
      exact mO_lay (b := b) h1 hL (by omega) _ 0)
    exact ⟨mO_mv (by omega) a3 a4 I.1, fun _ => ⟨a1, U2, I.2⟩⟩
  · rw [if_neg c]
    have e2 : cmv s = -1 := by
      rw [ec, if_neg (fun q => c (Or.inl q)), if_neg (fun q => c (Or.inr (Or.inl q))), if_neg (fun q => c (Or.inr (Or.inr q)))]
    rw [if_pos e2]
    exact ⟨mO_bad hK 1, fun q => absurd e2 q⟩
theorem M_oneE (hL : L ≤ 600) : ∀ k, 1 ≤ k → ∀ d, d + k = 9 → rfH T L d (rp_one (tz T L) mm_N k) (F_M_one k) (OK_M_one k) := by
  obtain ⟨hE, hN, hA⟩ := tz_E T L
  intro k
  induction k with
  | zero => exact fun h => absurd h (by omega)
  | succ k ih =>
    intro _ d hd p v n b s hK hb
    have t15 : (gI s 116 82 = 6) = (tK (tz T L) p = 15) := tokE (j := 15) hK (by omega)
    have t21 : (gI s 116 82 = 40) = (tK (tz T L) p = 21) := tokE (j := 21) hK (by omega)
    have n10 : ¬ (1 : Int32) = 0 := by decide
    show mO T L s (p + 1) n b d (rp_one (tz T L) mm_N (k + 1) p v) (f_M_one (F_M_one k) s) ∧ ok_M_one (F_M_one k) (OK_M_one k) s
    unfold rp_one
    by_cases c15 : tK (tz T L) p = 15
    · rw [if_pos c15]
      obtain ⟨np, pl⟩ := hE.1 p (by omega)
      obtain ⟨O1, O2⟩ := M_openE (b := b) hL hK (by omega) (by omega)
      by_cases k0 : k = 0
      · rw [if_pos k0]
        obtain ⟨o1, o2⟩ := O1 (by omega)
        have ef : f_M_one (F_M_one k) s = f_M_bad 3 s := by
          unfold f_M_one
          simp only [mq_let_e, t15, if_pos c15, o1, if_pos (bad_0 3 s)]
          rfl
        have eo : ok_M_one (F_M_one k) (OK_M_one k) s := by
          unfold ok_M_one
          simp only [mq_letP_e, t15, if_pos c15, o1, o2, if_pos (bad_0 3 s), and_self]
        rw [ef]
        exact ⟨mO_bad hK 3, eo⟩
      · rw [if_neg k0]
        obtain ⟨z, o1, o2, o3, o4, o5⟩ := O2 (by omega)
        obtain ⟨U1, U2⟩ := ih (by omega) (d + 1) (by omega) _ _ n (b + 1) z o3 (by omega)
        generalize hu : F_M_one k z = u at U1
        have V := mO_up U1
        have ef : f_M_one (F_M_one k) s = (if u.1 = 0 then (0, u.2) else (1, f_M_lay 13 0 (sI u.2 116 88 (gI u.2 116 88 - 1)))) := by
          unfold f_M_one
          simp only [mq_let_e, t15, if_pos c15, o1, if_neg n10, hu]
        have I := mO_if (f := rp_lay (13, 0)) (g := fun t => (1, f_M_lay 13 0 t)) (OKg := fun t => ok_M_lay 13 0 t) (mO_wk (Nat.le_succ b) (Nat.le_refl _) V) (fun q w c h1 h2 h4 h3 => by
          have h2' : n + c.length + (b + 1) ≤ q := by
            have := V.2
            rw [h3] at this
            exact this.2.2.2.2.1
          exact mO_lay (b := b) h1 hL (by omega) _ 0)
        obtain ⟨I1, I2⟩ := I
        by_cases u0 : u.1 = 0
        · rw [if_pos u0, if_pos (show ((0 : Int32), u.2).1 = 0 from rfl)] at I1
          rw [ef, if_pos u0]
          refine ⟨mO_mv (by omega) o4 o5 I1, ?_⟩
          unfold ok_M_one
          simp only [mq_letP_e, t15, if_pos c15, o1, o2, if_neg n10, hu, U2, if_pos u0, and_self]
        · rw [if_neg u0, if_neg (show ¬ ((1 : Int32), sI u.2 116 88 (gI u.2 116 88 - 1)).1 = 0 from n10)] at I1 I2
          have I2 : ok_M_lay 13 0 (sI u.2 116 88 (gI u.2 116 88 - 1)) := I2
          rw [ef, if_neg u0]
          refine ⟨mO_mv (by omega) o4 o5 I1, ?_⟩
          unfold ok_M_one
          simp only [mq_letP_e, t15, if_pos c15, o1, o2, if_neg n10, hu, U2, if_neg u0, I2, and_self]
    · rw [if_neg c15]
      by_cases c21 : tK (tz T L) p = 21
      · rw [if_pos c21]
        obtain ⟨np, pl⟩ := hE.1 p (by omega)
        obtain ⟨O1, O2⟩ := M_openE (b := b) hL hK (by omega) (by omega)
        by_cases k0 : k = 0
        · rw [if_pos k0]
          obtain ⟨o1, o2⟩ := O1 (by omega)
          have ef : f_M_one (F_M_one k) s = f_M_bad 3 s := by
            unfold f_M_one
            simp only [mq_let_e, t15, if_neg c15, t21, if_pos c21, o1, if_pos (bad_0 3 s)]
            rfl
          have eo : ok_M_one (F_M_one k) (OK_M_one k) s := by
            unfold ok_M_one
            simp only [mq_letP_e, t15, if_neg c15, t21, if_pos c21, o1, o2, if_pos (bad_0 3 s), and_self]
          rw [ef]
          exact ⟨mO_bad hK 3, eo⟩
        · rw [if_neg k0]
          obtain ⟨z, o1, o2, o3, o4, o5⟩ := O2 (by omega)
          obtain ⟨U1, U2⟩ := M_anyE hL (ih (by omega) (d + 1) (by omega)) _ _ n b z o3 (by omega)
          generalize hu : f_M_any (F_M_one k) z = u at U1
          have I := mO_if (f := rp_need (tz T L) 22) (g := fun t => f_M_need 41 t) (OKg := fun t => ok_M_need 41 t) U1 (fun q w c h1 h2 h4 h3 => by
            have N := M_needE (k := 22) hL h1 h2 (by omega) (by omega)
            exact ⟨mO_wk (Nat.le_refl b) (by omega) N.1, N.2⟩)
          obtain ⟨I1, I2⟩ := I
          have V := mO_up I1
          have ef : f_M_one (F_M_one k) s = (if u.1 = 0 then (0, u.2) else if (f_M_need 41 u.2).1 = 0 then (0, (f_M_need 41 u.2).2) else (1, sI (f_M_need 41 u.2).2 116 88 (gI (f_M_need 41 u.2).2 116 88 - 1))) := by
            unfold f_M_one
            simp only [mq_let_e, t15, if_neg c15, t21, if_pos c21, o1, if_neg n10, hu]
          rw [ef]
          by_cases u0 : u.1 = 0
          · rw [if_pos u0, if_pos (show ((0 : Int32), u.2).1 = 0 from rfl)] at V
            rw [if_pos u0]
            refine ⟨mO_mv (by omega) o4 o5 V, ?_⟩
            unfold ok_M_one
            simp only [mq_letP_e, t15, if_neg c15, t21, if_pos c21, o1, o2, if_neg n10, hu, U2, if_pos u0, and_self]
          · rw [if_neg u0] at V I2 ⊢
            refine ⟨mO_mv (by omega) o4 o5 V, ?_⟩
            unfold ok_M_one
            simp only [mq_letP_e, t15, if_neg c15, t21, if_pos c21, o1, o2, if_neg n10, hu, U2, if_neg u0, I2, and_self]
      · rw [if_neg c21]
        obtain ⟨U1, U2⟩ := M_sumE (b := b) hL hK hb
        generalize hu : f_M_sumUp s = u at U1
        have I := mO_if (f := rp_cmp (tz T L) mm_N) (g := fun t => if cmv t = -1 then f_M_bad 1 t else if (f_M_sumUp (f_M_next0 t)).1 = 0 then (0, (f_M_sumUp (f_M_next0 t)).2) else (1, f_M_lay (cmv t) 0 (f_M_sumUp (f_M_next0 t)).2)) (OKg := fun t => ¬ cmv t = -1 → ok_M_next0 t ∧ ok_M_sumUp (f_M_next0 t) ∧ (if (f_M_sumUp (f_M_next0 t)).1 = 0 then True else ok_M_lay (cmv t) 0 (f_M_sumUp (f_M_next0 t)).2)) U1 (fun q w c h1 h2 h4 h3 => by
          have C := M_cmpE hL h1 h2
          exact ⟨mO_wk (Nat.le_refl b) (by omega) C.1, C.2⟩)
        obtain ⟨I1, I2⟩ := I
        have ef : f_M_one (F_M_one k) s = (if u.1 = 0 then (0, u.2) else if cmv u.2 = -1 then f_M_bad 1 u.2 else if (f_M_sumUp (f_M_next0 u.2)).1 = 0 then (0, (f_M_sumUp (f_M_next0 u.2)).2) else (1, f_M_lay (cmv u.2) 0 (f_M_sumUp (f_M_next0 u.2)).2)) := by
          unfold f_M_one cmv
          simp only [mq_let_e, t15, if_neg c15, t21, if_neg c21, hu]
        rw [ef]
        refine ⟨I1, ?_⟩
        unfold ok_M_one
        simp only [mq_letP_e, t15, if_neg c15, t21, if_neg c21, hu, U2, true_and]
        by_cases u0 : u.1 = 0
        · rw [if_pos u0]
          trivial
        · rw [if_neg u0] at I2 ⊢
          unfold cmv at I2
          generalize f_M_next0 u.2 = y at I2 ⊢
          generalize f_M_sumUp y = t at I2 ⊢
          generalize (if gI u.2 116 82 = 60 then (10 : Int32) else if gI u.2 116 82 = 61 then 11 else if gI u.2 116 82 = 62 then 12 else -1) = X at I2 ⊢
          by_cases c1 : X = -1
          · rw [if_pos c1]
            exact bit0
          · rw [if_neg c1]
            obtain ⟨i1, i2, i3⟩ := I2 c1
            refine ⟨i1, i2, ?_⟩
            by_cases q : t.1 = 0
            · rw [if_pos q]
              trivial
            · rw [if_neg q] at i3 ⊢
              exact ⟨i3, trivial⟩
end
