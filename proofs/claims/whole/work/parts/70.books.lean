/-! READINGS: which reading is the j-th of a thing; both classes. -/
section
variable {H H' : Nat → Int32} {t : Int32}
theorem hk_cnt_c {n : Nat} (h : ∀ j, j < n → H j = H' j) : hk_cnt H t n = hk_cnt H' t n := by
  induction n with
  | zero => rfl
  | succ n ih =>
    simp only [hk_cnt]
    rw [ih (fun j hj => h j (by omega)), h n (by omega)]
theorem hk_prev_c {n : Nat} (h : ∀ j, j < n → H j = H' j) : hk_prev H t n = hk_prev H' t n := by
  induction n with
  | zero => rfl
  | succ n ih =>
    simp only [hk_prev]
    rw [ih (fun j hj => h j (by omega)), h n (by omega)]
theorem hk_le (n : Nat) : hk_cnt H t n ≤ n := by
  induction n with
  | zero => exact Nat.le_refl _
  | succ n ih =>
    simp only [hk_cnt]
    split <;> omega
theorem hk_mono {a b : Nat} (h : a ≤ b) : hk_cnt H t a ≤ hk_cnt H t b := by
  induction b with
  | zero =>
    have : a = 0 := by omega
    subst this
    exact Nat.le_refl _
  | succ b ih =>
    by_cases q : a = b + 1
    · subst q
      exact Nat.le_refl _
    · have := ih (by omega)
      simp only [hk_cnt]
      omega
theorem hk_lt {a b : Nat} (h : a < b) (ha : H a = t) : hk_cnt H t a < hk_cnt H t b := by
  have h1 : hk_cnt H t (a + 1) ≤ hk_cnt H t b := hk_mono h
  simp only [hk_cnt, if_pos ha] at h1
  omega
theorem hk_uniq {a b : Nat} (ha : H a = t) (hb : H b = t) (h : hk_cnt H t a = hk_cnt H t b) : a = b := by
  rcases Nat.lt_trichotomy a b with q | q | q
  · have := hk_lt q ha
    omega
  · exact q
  · have := hk_lt q hb
    omega
theorem hk_prev_0 {n : Nat} (h : hk_cnt H t n = 0) : hk_prev H t n = -1 := by
  induction n with
  | zero => rfl
  | succ n ih =>
    simp only [hk_cnt] at h
    simp only [hk_prev]
    by_cases q : H n = t
    · rw [if_pos q] at h
      omega
    · rw [if_neg q] at h ⊢
      exact ih (by omega)
theorem hk_prev_s {n : Nat} (h : hk_cnt H t n ≠ 0) : ∃ p, p < n ∧ hk_prev H t n = Int32.ofNat p ∧ H p = t ∧ hk_cnt H t p + 1 = hk_cnt H t n := by
  induction n with
  | zero => exact absurd rfl h
  | succ n ih =>
    simp only [hk_cnt] at h ⊢
    simp only [hk_prev]
    by_cases q : H n = t
    · rw [if_pos q, if_pos q]
      exact ⟨n, by omega, rfl, q, rfl⟩
    · rw [if_neg q] at h ⊢
      rw [if_neg q]
      obtain ⟨p, h1, h2, h3, h4⟩ := ih h
      exact ⟨p, by omega, h2, h3, h4⟩
/-- the first reading of t with so many ahead -/
def rd_of (H : Nat → Int32) (t j : Int32) : Nat → Int32
  | 0 => -1
  | n + 1 => if rd_of H t j n = -1 then (if H n = t ∧ Int32.ofNat (hk_cnt H t n) = j then Int32.ofNat n else -1) else rd_of H t j n
theorem rd_none {j : Int32} {n : Nat} (hn : n < 90000) : rd_of H t j n = -1 ↔ ∀ r, r < n → ¬ (H r = t ∧ Int32.ofNat (hk_cnt H t r) = j) := by
  induction n with
  | zero =>
    constructor
    · intro _ r hr; omega
    · intro _; rfl
  | succ n ih =>
    have ih := ih (by omega)
    simp only [rd_of]
    constructor
    · intro h r hr
      by_cases q : rd_of H t j n = -1
      · rw [if_pos q] at h
        by_cases q2 : H n = t ∧ Int32.ofNat (hk_cnt H t n) = j
        · rw [if_pos q2] at h
          exact absurd h (ofNat_ne1 (by omega))
        · by_cases q3 : r = n
          · rw [q3]; exact q2
          · exact ih.mp q r (by omega)
      · rw [if_neg q] at h
        exact absurd h q
    · intro h
      rw [if_pos (ih.mpr (fun r hr => h r (by omega))), if_neg (h n (by omega))]
theorem rd_some {j : Int32} {n r : Nat} (hn : n < 90000) (hr : r < n) (h1 : H r = t) (h2 : Int32.ofNat (hk_cnt H t r) = j) : rd_of H t j n = Int32.ofNat r := by
  induction n with
  | zero => omega
  | succ n ih =>
    simp only [rd_of]
    by_cases q : r = n
    · subst q
      rw [if_pos, if_pos ⟨h1, h2⟩]
      rw [rd_none (by omega)]
      rintro r' hr' ⟨g1, g2⟩
      have : hk_cnt H t r' = hk_cnt H t r := by
        have a := hk_le (H := H) (t := t) r'
        have b := hk_le (H := H) (t := t) r
        rw [← h2, ofNat_e (by omega) (by omega)] at g2
        exact g2
      have := hk_uniq g1 h1 this
      omega
    · have ih := ih (by omega) (by omega)
      rw [if_neg (by rw [ih]; exact ofNat_ne1 (by omega)), ih]
theorem rd_get {j : Int32} {n : Nat} (hn : n < 90000) (h : ¬ rd_of H t j n = -1) : ∃ r, r < n ∧ H r = t ∧ Int32.ofNat (hk_cnt H t r) = j ∧ rd_of H t j n = Int32.ofNat r := by
  rw [rd_none hn] at h
  have : ∃ r, r < n ∧ H r = t ∧ Int32.ofNat (hk_cnt H t r) = j := by
    apply Classical.byContradiction
    intro q
    exact h (fun r hr g => q ⟨r, hr, g.1, g.2⟩)
  obtain ⟨r, h1, h2, h3⟩ := this
  exact ⟨r, h1, h2, h3, rd_some hn h1 h2 h3⟩
end
/-- how many readings -/
theorem books_n {s : mS} (h : J_books s) : ∃ n, gI s 116 57 = Int32.ofNat n ∧ n ≤ 200 ∧ ix (gI s 116 57) = n := by
  unfold J_books at h
  have h1 := h.2.2.2.2.2.1
  have h2 := h.2.2.2.2.2.2.1
  refine ⟨ix (gI s 116 57), (ofNat_ix h1).symm, ?_, rfl⟩
  have h3 : ix (gI s 116 57) < 201 := ix_lt (by decide) h1 (by
    have : Int32.ofNat 201 = 201 := rfl
    grind)
  omega
theorem books_m {s : mS} (h : J_books s) : ∃ n, gI s 116 58 = Int32.ofNat n ∧ n ≤ 100 ∧ ix (gI s 116 58) = n := by
  unfold J_books at h
  have h1 := h.2.2.2.2.2.2.2.2.2.2.2.1
  have h2 := h.2.2.2.2.2.2.2.2.2.2.2.2.1
  refine ⟨ix (gI s 116 58), (ofNat_ix h1).symm, ?_, rfl⟩
  have h3 : ix (gI s 116 58) < 101 := ix_lt (by decide) h1 (by
    have : Int32.ofNat 101 = 101 := rfl
    grind)
  omega
theorem G_rd {s : mS} (h : J_books s) {n : Nat} (hn : gI s 116 57 = Int32.ofNat n) (hn2 : n ≤ 200) (t j : Int32) : f_Books_readingOf t j s = rd_of (gI s 150) t j n ∧ ok_Books_readingOf t j s := by
  have hix : ix (gI s 116 57) = n := by rw [hn, ix_ofNat (by omega)]
  unfold J_books at h
  have hc : gI s 82 8 = Int32.ofNat n := by rw [h.2.2.2.2.1, hn]
  have hord := h.2.2.2.2.2.2.2.2.2.2.2.2.2.2.2.1
  rw [hix] at hord
  have key : ∀ r i m, i + r = n → r < m → rd_of (gI s 150) t j i = -1 → (∃ v, lp_Books_readingOf_2 t j s m (Int32.ofNat i) = ((if rd_of (gI s 150) t j n = -1 then none else some (rd_of (gI s 150) t j n)), v)) ∧ okl_Books_readingOf_2 t j s m (Int32.ofNat i) := by
    intro r
    induction r with
    | zero =>
      intro i m hi hm hr
      have : i = n := by omega
      subst this
      match m, hm with
      | m + 1, _ =>
        have e1 := fl_lit' hc
        constructor
        · exact ⟨Int32.ofNat i, by simp only [lp_Books_readingOf_2, e1, if_true, hr]⟩
        · simp only [okl_Books_readingOf_2, e1, if_true]
    | succ r ih =>
      intro i m hi hm hr
      match m, hm with
      | m + 1, hm =>
        have e1 := fl_lit hc (by omega) (by omega) (by omega : i < n)
        have e2 : ¬ (200 : Int32) ≤ Int32.ofNat i := fl_lit (a := 200) rfl (by omega) (by omega) (by omega)
        have e3 : ix (Int32.ofNat i) = i := ix_ofNat (by omega)
        have b1 : mm_inb (Int32.ofNat i) 200 = true := inb_ofNat (by decide) (by omega)
        have e4 : gI s 83 i = gI s 150 i := by rw [h.1]
        have e5 := hord i (by omega)
        by_cases c1 : gI s 150 i = t
        · rw [c1] at e5
          by_cases c2 : Int32.ofNat (hk_cnt (gI s 150) t i) = j
          · have hx := rd_some (H := gI s 150) (t := t) (by omega : n < 90000) (by omega : i < n) c1 c2
            constructor
            · refine ⟨Int32.ofNat i, ?_⟩
              rw [hx, if_neg (ofNat_ne1 (by omega))]
              simp only [lp_Books_readingOf_2, e1, e2, if_false, e3, e4, c1, if_true, e5, c2]
            · simp only [okl_Books_readingOf_2, e1, e2, if_false, e3, e4, c1, if_true, e5, c2, b1, true_and]
          · have I := ih (i + 1) m (by omega) (by omega) (by
              simp only [rd_of]
              rw [if_pos hr, if_neg (fun q => c2 q.2)])
            constructor
            · obtain ⟨v, hv⟩ := I.1
              refine ⟨v, ?_⟩
              simp only [lp_Books_readingOf_2, e1, e2, if_false, e3, e4, c1, if_true, e5, c2, ofNat_succ]
              exact hv
            · simp only [okl_Books_readingOf_2, e1, e2, if_false, e3, e4, c1, if_true, e5, c2, b1, true_and, ofNat_succ]
              exact I.2
        · have I := ih (i + 1) m (by omega) (by omega) (by
            simp only [rd_of]
            rw [if_pos hr, if_neg (fun q => c1 q.1)])
          constructor
          · obtain ⟨v, hv⟩ := I.1
            refine ⟨v, ?_⟩
            simp only [lp_Books_readingOf_2, e1, e2, if_false, e3, e4, c1, ofNat_succ]
            exact hv
          · simp only [okl_Books_readingOf_2, e1, e2, if_false, e3, e4, c1, b1, true_and, ofNat_succ]
            exact I.2
  have K := key n 0 mm_N (by omega) (by rw [mm_Ns]; omega) rfl
  obtain ⟨v, hv⟩ := K.1
  have hv : lp_Books_readingOf_2 t j s mm_N 0 = _ := hv
  constructor
  · unfold f_Books_readingOf
    simp only [mq_let_e, hv]
    by_cases q : rd_of (gI s 150) t j n = -1
    · rw [if_pos q, q]
      rfl
    · rw [if_neg q]
      rfl
  · unfold ok_Books_readingOf
    refine ⟨K.2, ?_⟩
    simp only [mq_letP_e]
    unfold mq_elP
    split <;> trivial
theorem M_rd {s : mS} {n : Nat} (hn : gI s 116 57 = Int32.ofNat n) (hn2 : n ≤ 200) (t j : Int32) : f_M_readingOf t j s = rd_of (gI s 150) t j n ∧ ok_M_readingOf t j s := by
  have key : ∀ r i m, i + r = n → r < m → rd_of (gI s 150) t j i = -1 → (∃ v w, lp_M_readingOf_5 t j s m (Int32.ofNat (hk_cnt (gI s 150) t i)) (Int32.ofNat i) = ((if rd_of (gI s 150) t j n = -1 then none else some (rd_of (gI s 150) t j n)), v, w)) ∧ okl_M_readingOf_5 t j s m (Int32.ofNat (hk_cnt (gI s 150) t i)) (Int32.ofNat i) := by
    intro r
    induction r with
    | zero =>
      intro i m hi hm hr
      have : i = n := by omega
      subst this
      match m, hm with
      | m + 1, _ =>
        have e1 := fl_lit' hn
        constructor
        · exact ⟨Int32.ofNat (hk_cnt (gI s 150) t i), Int32.ofNat i, by simp only [lp_M_readingOf_5, e1, if_true, hr]⟩
        · simp only [okl_M_readingOf_5, e1, if_true]
    | succ r ih =>
      intro i m hi hm hr
      match m, hm with
      | m + 1, hm =>
        have e1 := fl_lit hn (by omega) (by omega) (by omega : i < n)
        have e3 : ix (Int32.ofNat i) = i := ix_ofNat (by omega)
        have b1 : mm_inb (Int32.ofNat i) 200 = true := inb_ofNat (by decide) (by omega)
        by_cases c1 : gI s 150 i = t
        · have e6 : hk_cnt (gI s 150) t (i + 1) = hk_cnt (gI s 150) t i + 1 := by
            simp only [hk_cnt, if_pos c1]
          by_cases c2 : Int32.ofNat (hk_cnt (gI s 150) t i) = j
          · have hx := rd_some (H := gI s 150) (t := t) (by omega : n < 90000) (by omega : i < n) c1 c2
            constructor
            · refine ⟨j, Int32.ofNat i, ?_⟩
              rw [hx, if_neg (ofNat_ne1 (by omega))]
              simp only [lp_M_readingOf_5, e1, if_false, e3, c1, if_true, c2]
            · simp only [okl_M_readingOf_5, e1, if_false, e3, c1, if_true, c2, b1, true_and]
          · have I := ih (i + 1) m (by omega) (by omega) (by
              simp only [rd_of]
              rw [if_pos hr, if_neg (fun q => c2 q.2)])
            rw [e6] at I
            constructor
            · obtain ⟨v, w, hv⟩ := I.1
              refine ⟨v, w, ?_⟩
              simp only [lp_M_readingOf_5, e1, if_false, e3, c1, if_true, c2, ofNat_succ]
              exact hv
            · simp only [okl_M_readingOf_5, e1, if_false, e3, c1, if_true, c2, b1, true_and, ofNat_succ]
              exact I.2
        · have e6 : hk_cnt (gI s 150) t (i + 1) = hk_cnt (gI s 150) t i := by
            simp only [hk_cnt, if_neg c1, Nat.add_zero]
          have I := ih (i + 1) m (by omega) (by omega) (by
            simp only [rd_of]
            rw [if_pos hr, if_neg (fun q => c1 q.1)])
          rw [e6] at I
          constructor
          · obtain ⟨v, w, hv⟩ := I.1
            refine ⟨v, w, ?_⟩
            simp only [lp_M_readingOf_5, e1, if_false, e3, c1, ofNat_succ]
            exact hv
          · simp only [okl_M_readingOf_5, e1, if_false, e3, c1, b1, true_and, ofNat_succ]
            exact I.2
  have K := key n 0 mm_N (by omega) (by rw [mm_Ns]; omega) rfl
  obtain ⟨v, w, hv⟩ := K.1
  have hv : lp_M_readingOf_5 t j s mm_N 0 0 = _ := hv
  constructor
  · unfold f_M_readingOf
    simp only [mq_let_e, hv]
    by_cases q : rd_of (gI s 150) t j n = -1
    · rw [if_pos q, q]
      rfl
    · rw [if_neg q]
      rfl
  · unfold ok_M_readingOf
    refine ⟨K.2, ?_⟩
    simp only [mq_letP_e]
    unfold mq_elP
    split <;> trivial
