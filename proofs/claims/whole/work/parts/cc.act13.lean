/-! ACT: the class reads a text, to its end. -/
theorem tz_K25 (T : Nat → Int32) (L p : Nat) : tK (tz T L) p ≤ 25 := by
  unfold tK tz tz_at
  by_cases c : tz_sg T L (tz_q tz_bl T L p) = -1
  · rw [if_pos c]
    exact Nat.zero_le 25
  · rw [if_neg c]
    by_cases c1 : tz_le (tz_sg T L (tz_q tz_bl T L p)) = true
    · rw [if_pos c1]
      exact Nat.le_trans (tz_word_r T _ _ 13 (Nat.le_refl 13)).2.2 (by omega)
    · rw [if_neg c1]
      by_cases c2 : tz_di (tz_sg T L (tz_q tz_bl T L p)) = true
      · rw [if_pos c2]
        by_cases c3 : tz_q tz_di T L (tz_q tz_bl T L p) - tz_q tz_bl T L p ≤ 5
        · rw [if_pos c3]
          show 2 ≤ 25
          omega
        · rw [if_neg c3]
          show 1 ≤ 25
          omega
      · rw [if_neg c2]
        exact (tz_sign_r _).2.2
theorem ks_end {tk : tkT} {p m σ : Nat} {W : List Nat} {o : List cI} {x : ksX} (h : tK tk p = 0) (hm : m ≠ 0) (hm4 : m ≤ 4) : ks_1 tk (p, m, σ, W, o, x) = .inl (1, tA tk p) := by
  have lf : rp_leaf (tK tk p) = false := by
    rw [h]
    rfl
  have pa : ∀ σ', ks_part tk p σ' W o x = .inl (1, tA tk p) := fun σ' => by
    unfold ks_part
    rw [lf, if_neg (by decide)]
  have d : m = 1 ∨ m = 2 ∨ m = 3 ∨ m = 4 := by omega
  rcases d with d | d | d | d <;> subst d
  · exact pa σ
  · show ks_d tk p σ W o x = _
    unfold ks_d
    rw [if_neg (by omega)]
  · show ks_t tk p σ W o x = _
    unfold ks_t
    rw [if_neg (by omega), pa]
  · show ks_b tk p σ W o x = _
    unfold ks_b
    rw [if_neg (by omega), if_neg (by omega), if_neg (by omega), if_neg (by omega), if_neg (by omega), if_neg (by omega)]
theorem kR_adv {tk : tkT} {r : Nat} {s t : mS} {p m σ : Nat} {W : List Nat} {o : List cI} {x : ksX} (hr : mq_A r) (h : fp [] [(80, 2), (80, 3), (80, 4), (80, 5)] false s t) (hR : kR r s p m σ W o x) : kR r t p m σ W o x := by
  have rm := mq_mod hr
  have g : ∀ c, c ≠ 80 → gI t c = gI s c := fun c hc => funext fun j => (h.1 c (by simp) (by simp) j (by simp [hc])).1
  have g80 : ∀ j, j ≠ 2 → j ≠ 3 → j ≠ 4 → j ≠ 5 → gI t 80 j = gI s 80 j := fun j a b c d => (h.1 80 (by simp) (by simp) j (by simp [a, b, c, d])).1
  obtain ⟨q1, q2, q3, q4, q5, q6, q7, q8, q9, q10⟩ := hR
  refine ⟨by rw [show gP t = gP s from h.2]; exact q1, by rw [g80 7 (by decide) (by decide) (by decide) (by decide)]; exact q2, by rw [g80 12 (by decide) (by decide) (by decide) (by decide)]; exact q3, q4, q5, kO_c (g _ (by omega)) (g _ (by omega)) (by rw [g r (by omega)]) q6, kT_c (by rw [g r (by omega)]) (fun m i a b _ => by rw [g (r + m) (by omega)]) q7, q8, q9, ?_⟩
  rcases q10 with q | q
  · exact Or.inl q
  · obtain ⟨m1, m2, m3, m4, m5, m6, m7, m8, m9⟩ := q
    exact Or.inr ⟨by rw [g80 8 (by decide) (by decide) (by decide) (by decide)]; exact m1, kW_c (g80 10 (by decide) (by decide) (by decide) (by decide)) (g 81 (by decide)) (g80 11 (by decide) (by decide) (by decide) (by decide)) m2, m3, m4, m5, m6, by rw [g (r + 1) (by omega)]; exact m7, by rw [g (r + 2) (by omega)]; exact m8, fun z => by rw [g (r + 3) (by omega)]; exact m9 z⟩
def kF2 (r : Nat) (s t : mS) : Prop := (∀ c j, (c < r ∨ r + 8 ≤ c) → c ≠ 80 → c ≠ 81 → gI t c j = gI s c j) ∧ (∀ c j, c ≠ 80 → gL t c j = gL s c j) ∧ gP t = gP s
theorem kF2_t {r : Nat} {s t u : mS} (h : kF2 r s t) (k : kF2 r t u) : kF2 r s u := ⟨fun c j h1 h2 h3 => (k.1 c j h1 h2 h3).trans (h.1 c j h1 h2 h3), fun c j q => (k.2.1 c j q).trans (h.2.1 c j q), k.2.2.trans h.2.2⟩
theorem kF_2 {r : Nat} {s t : mS} (h : kF r s t) : kF2 r s t := ⟨h.1, fun c j _ => h.2.1 c j, h.2.2⟩
def kEnd (r : Nat) (w : mS) : (Nat × Nat) ⊕ ksT → Prop
  | .inl e => (gI w 80 12 = Int32.ofNat e.1 ∧ 1 ≤ e.1 ∧ e.1 ≤ 3 ∧ gI w 80 13 = Int32.ofNat e.2) ∨ (gI w 80 12 = 0 ∧ gI w 80 7 ≠ 0 ∧ e.1 = 1 ∧ gI w 80 5 = Int32.ofNat e.2)
  | .inr g => kRg r w g ∧ g.1 ≤ 600
theorem G_loop {T : Nat → Int32} {L r : Nat} (hL : L ≤ 600) (hr : mq_A r) {y : (Nat × Nat) ⊕ ksT} (hy : ∀ g, y = .inr g → g.2.1 = 0 ∧ tK (tz T L) g.1 = 0) : ∀ k p m σ W o x (s : mS) n v, ks_n (tz T L) k (p, m, σ, W, o, x) = y → kR r s p m σ W o x → ad_R (tz T L) p s → gI s 37 = T → gI s 80 1 = Int32.ofNat L → gP s 5 = 48 → (∀ j, mq_A (gP s j)) → v ≤ p → p ≤ L → 600 < n + v → okl_Parser_reads_37_51 n (Int32.ofNat v) s ∧ kF2 r s (lp_Parser_reads_37_51 n (Int32.ofNat v) s).2 ∧ kEnd r (lp_Parser_reads_37_51 n (Int32.ofNat v) s).2 y := by
  obtain ⟨hE, hN, hA⟩ := tz_E T L
  intro k
  induction k with
  | zero =>
    intro p m σ W o x s n v h1 hR had _ _ _ _ hv hp hn
    obtain ⟨n', rfl⟩ : ∃ n', n = n' + 1 := ⟨n - 1, by omega⟩
    have hg := hy (p, m, σ, W, o, x) h1.symm
    have h80 : gI s 80 3 = 0 := by
      rw [had.2.2.1, hg.2]
      rfl
    rw [← h1]
    have h12 := hR.2.2.1
    by_cases c : (600 : Int32) ≤ Int32.ofNat v
    · refine ⟨?_, ?_, ?_⟩
      · simp only [okl_Parser_reads_37_51, c, if_true]
      · simp only [lp_Parser_reads_37_51, c, if_true]
        exact kF_2 (kF_r r s)
      · simp only [lp_Parser_reads_37_51, c, if_true]
        exact ⟨hR, Nat.le_trans hp hL⟩
    · refine ⟨?_, ?_, ?_⟩
      · simp only [okl_Parser_reads_37_51, if_neg c, h12, h80, if_true]
      · simp only [lp_Parser_reads_37_51, if_neg c, h12, h80, if_true]
        exact kF_2 (kF_r r s)
      · simp only [lp_Parser_reads_37_51, if_neg c, h12, h80, if_true]
        exact ⟨hR, Nat.le_trans hp hL⟩
  | succ k ih =>
    intro p m σ W o x s n v h1 hR had hT hL1 h5 hP hv hp hn
    have h12 := hR.2.2.1
    have h1 : (match ks_1 (tz T L) (p, m, σ, W, o, x) with | .inl e => (.inl e : (Nat × Nat) ⊕ ksT) | .inr g' => ks_n (tz T L) k g') = y := h1
    by_cases k0 : tK (tz T L) p = 0
    · by_cases m0 : m = 0
      · subst m0
        have e : ks_1 (tz T L) (p, 0, σ, W, o, x) = .inr (p, 0, σ, W, o, x) := by
          show ks_l (tz T L) p σ W o x = _
          unfold ks_l
          rw [if_pos k0]
        rw [e] at h1
        exact ih p 0 σ W o x s n v h1 hR had hT hL1 h5 hP hv hp hn
      · have e := ks_end (tk := tz T L) (σ := σ) (W := W) (o := o) (x := x) k0 m0 hR.2.2.2.1
        rw [e] at h1
        obtain ⟨n', rfl⟩ : ∃ n', n = n' + 1 := ⟨n - 1, by omega⟩
        have h80 : gI s 80 3 = 0 := by
          rw [had.2.2.1, k0]
          rfl
        have en : kEnd r s y := by
          rw [← h1]
          refine Or.inr ⟨h12, ?_, rfl, had.2.1⟩
          rw [hR.2.1]
          intro q
          have := hR.2.2.2.1
          exact m0 ((ofNat_inj (b := 0) (by omega) (by omega)).mp q)
        by_cases c : (600 : Int32) ≤ Int32.ofNat v
        · refine ⟨?_, ?_, ?_⟩
          · simp only [okl_Parser_reads_37_51, c, if_true]
          · simp only [lp_Parser_reads_37_51, c, if_true]
            exact kF_2 (kF_r r s)
          · simp only [lp_Parser_reads_37_51, c, if_true]
            exact en
        · refine ⟨?_, ?_, ?_⟩
          · simp only [okl_Parser_reads_37_51, if_neg c, h12, h80, if_true]
          · simp only [lp_Parser_reads_37_51, if_neg c, h12, h80, if_true]
            exact kF_2 (kF_r r s)
          · simp only [lp_Parser_reads_37_51, if_neg c, h12, h80, if_true]
            exact en
    · obtain ⟨n', rfl⟩ : ∃ n', n = n' + 1 := ⟨n - 1, by
        have := (hE.1 p k0).2
        omega⟩
      obtain ⟨np, pl⟩ := hE.1 p k0
      have K25 := tz_K25 T L p
      have rm := mq_mod hr
      obtain ⟨t1, t2, t3⟩ := G_take hE hL hr (by omega) K25 had hR
      have fr := fr_Parser_take s hP
      generalize hw : f_Parser_take s = t at t2 t3 fr
      have f2 : gI t 80 2 = Int32.ofNat (tN (tz T L) p) := by rw [(fpF fr (by decide)).1, had.1]
      have f1 : gI t 80 1 = Int32.ofNat L := by rw [(fpF fr (by decide)).1, hL1]
      have f37 : gI t 37 = T := by
        rw [← hT]
        exact funext fun j => t2.1 37 j (by omega) (by decide) (by decide)
      have fT : gP t 5 = 48 := by
        rw [t2.2.2]
        exact h5
      obtain ⟨a1, a2, a3⟩ := G_adv f1 fT hL (hN p k0) f2
      rw [f37] at a3
      generalize hz : f_Parser_advance t = z at a2 a3
      have zF : kF2 r t z := ⟨fun c j _ q _ => (a2.1 c (by simp) (by simp) j (by simp [q])).1, fun c j q => (a2.1 c (by simp) (by simp) j (by simp [q])).2, a2.2⟩
      have t2 := kF_2 t2
      have v6 : ¬ (600 : Int32) ≤ Int32.ofNat v := fl_lit (a := 600) rfl (by omega) (by omega) (by omega)
      have e3 : Int32.ofNat v + 1 = Int32.ofNat (v + 1) := ofNat_succ v
      have n80 : ¬ gI s 80 3 = 0 := by
        rw [had.2.2.1]
        intro q
        exact k0 ((ofNat_inj (b := 0) (by omega) (by omega)).mp q)
      have go : (lp_Parser_reads_37_51 (n' + 1) (Int32.ofNat v) s).2 = (lp_Parser_reads_37_51 n' (Int32.ofNat (v + 1)) z).2 ∧ (okl_Parser_reads_37_51 n' (Int32.ofNat (v + 1)) z → okl_Parser_reads_37_51 (n' + 1) (Int32.ofNat v) s) := by
        constructor
        · simp only [lp_Parser_reads_37_51, mq_let_e, if_neg v6, h12, if_true, if_neg n80, hw, hz, e3]
        · intro q
          simp only [okl_Parser_reads_37_51, mq_letP_e, if_neg v6, h12, if_true, if_neg n80, hw, hz, e3, t1, a1, true_and]
          exact q
      rw [go.1]
      cases hk : ks_1 (tz T L) (p, m, σ, W, o, x) with
      | inl e =>
        rw [hk] at t3 h1
        obtain ⟨o1, o2, o3, o4⟩ := t3
        have z12 : gI z 80 12 = Int32.ofNat e.1 := by rw [(fpF a2 (by decide)).1, o1]
        have z13 : gI z 80 13 = Int32.ofNat e.2 := by rw [(fpF a2 (by decide)).1, o4]
        have nz : ¬ gI z 80 12 = 0 := by
          rw [z12]
          intro q
          have := (ofNat_inj (b := 0) (by omega) (by omega)).mp q
          omega
        obtain ⟨n'', rfl⟩ : ∃ n'', n' = n'' + 1 := ⟨n' - 1, by omega⟩
        have stop : (lp_Parser_reads_37_51 (n'' + 1) (Int32.ofNat (v + 1)) z).2 = z ∧ okl_Parser_reads_37_51 (n'' + 1) (Int32.ofNat (v + 1)) z := by
          by_cases c : (600 : Int32) ≤ Int32.ofNat (v + 1)
          · constructor
            · simp only [lp_Parser_reads_37_51, c, if_true]
            · simp only [okl_Parser_reads_37_51, c, if_true]
          · constructor
            · simp only [lp_Parser_reads_37_51, if_neg c, if_neg nz]
            · simp only [okl_Parser_reads_37_51, if_neg c, if_neg nz]
        rw [stop.1]
        refine ⟨go.2 stop.2, kF2_t t2 zF, ?_⟩
        rw [← h1]
        exact Or.inl ⟨z12, o2, o3, z13⟩
      | inr g' =>
        rw [hk] at t3 h1
        obtain ⟨p', m', σ', W', o', x'⟩ := g'
        obtain ⟨c1, c2⟩ := t3
        have c2 : p' = tN (tz T L) p := c2
        subst c2
        have c1 : kR r t (tN (tz T L) p) m' σ' W' o' x' := c1
        have I := ih (tN (tz T L) p) m' σ' W' o' x' z n' (v + 1) h1 (kR_adv (tk := tz T L) hr a2 c1) a3 (by
          rw [← f37]
          exact funext fun j => zF.1 37 j (by omega) (by decide) (by decide)) (by rw [(fpF a2 (by decide)).1, f1]) (by
          rw [zF.2.2]
          exact fT) (fun j => by
          rw [zF.2.2, t2.2.2]
          exact hP j) (by omega) (hN p k0) (by omega)
        exact ⟨go.2 I.1, kF2_t (kF2_t t2 zF) I.2.1, I.2.2⟩
