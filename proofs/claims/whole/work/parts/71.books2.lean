/-! READINGS taken and put right. -/
theorem noteG_lp {s : mS} {n : Nat} (hc : gI s 82 8 = Int32.ofNat n) (hn2 : n ≤ 200) (hH : gI s 83 = gI s 150) (t a2 a3 a4 : Int32) : lp_Books_note_18 t a2 a3 a4 s mm_N (-1) 0 = (hk_prev (gI s 150) t n, Int32.ofNat n) ∧ (n < 200 → okl_Books_note_18 t a2 a3 a4 s mm_N (-1) 0) := by
  have key : ∀ r i m, i + r = n → r < m → lp_Books_note_18 t a2 a3 a4 s m (hk_prev (gI s 150) t i) (Int32.ofNat i) = (hk_prev (gI s 150) t n, Int32.ofNat n) ∧ okl_Books_note_18 t a2 a3 a4 s m (hk_prev (gI s 150) t i) (Int32.ofNat i) := by
    intro r
    induction r with
    | zero =>
      intro i m hi hm
      have : i = n := by omega
      subst this
      match m, hm with
      | m + 1, _ =>
        have e1 := fl_lit' hc
        constructor
        · simp only [lp_Books_note_18, e1, if_true]
        · simp only [okl_Books_note_18, e1, if_true]
    | succ r ih =>
      intro i m hi hm
      match m, hm with
      | m + 1, hm =>
        have e1 := fl_lit hc (by omega) (by omega) (by omega : i < n)
        have e9 : ¬ (200 : Int32) ≤ Int32.ofNat i := fl_lit (a := 200) rfl (by omega) (by omega) (by omega)
        have e3 : ix (Int32.ofNat i) = i := ix_ofNat (by omega)
        have b1 : mm_inb (Int32.ofNat i) 200 = true := inb_ofNat (by decide) (by omega)
        have I := ih (i + 1) m (by omega) (by omega)
        simp only [hk_prev] at I
        by_cases c1 : gI s 150 i = t
        · rw [if_pos c1] at I
          constructor
          · simp only [lp_Books_note_18, e1, e9, if_false, e3, hH, c1, if_true, ofNat_succ]
            exact I.1
          · simp only [okl_Books_note_18, e1, e9, if_false, e3, hH, c1, if_true, b1, true_and, ofNat_succ]
            exact I.2
        · rw [if_neg c1] at I
          constructor
          · simp only [lp_Books_note_18, e1, e9, if_false, e3, hH, c1, ofNat_succ]
            exact I.1
          · simp only [okl_Books_note_18, e1, e9, if_false, e3, hH, c1, b1, true_and, ofNat_succ]
            exact I.2
  have K := key n 0 mm_N (by omega) (by rw [mm_Ns]; omega)
  exact ⟨K.1, fun _ => K.2⟩
theorem readM_lp {s : mS} {n : Nat} (hc : gI s 116 57 = Int32.ofNat n) (hn2 : n ≤ 200) (t : Int32) : lp_M_read_24 t s mm_N 0 0 = (Int32.ofNat (hk_cnt (gI s 150) t n), Int32.ofNat n) ∧ okl_M_read_24 t s mm_N 0 0 := by
  have key : ∀ r i m, i + r = n → r < m → lp_M_read_24 t s m (Int32.ofNat (hk_cnt (gI s 150) t i)) (Int32.ofNat i) = (Int32.ofNat (hk_cnt (gI s 150) t n), Int32.ofNat n) ∧ okl_M_read_24 t s m (Int32.ofNat (hk_cnt (gI s 150) t i)) (Int32.ofNat i) := by
    intro r
    induction r with
    | zero =>
      intro i m hi hm
      have : i = n := by omega
      subst this
      match m, hm with
      | m + 1, _ =>
        have e1 := fl_lit' hc
        constructor
        · simp only [lp_M_read_24, e1, if_true]
        · simp only [okl_M_read_24, e1, if_true]
    | succ r ih =>
      intro i m hi hm
      match m, hm with
      | m + 1, hm =>
        have e1 := fl_lit hc (by omega) (by omega) (by omega : i < n)
        have e3 : ix (Int32.ofNat i) = i := ix_ofNat (by omega)
        have b1 : mm_inb (Int32.ofNat i) 200 = true := inb_ofNat (by decide) (by omega)
        have I := ih (i + 1) m (by omega) (by omega)
        simp only [hk_cnt] at I
        by_cases c1 : gI s 150 i = t
        · rw [if_pos c1] at I
          constructor
          · simp only [lp_M_read_24, e1, if_false, e3, c1, if_true, ofNat_succ]
            exact I.1
          · simp only [okl_M_read_24, e1, if_false, e3, c1, if_true, b1, true_and, ofNat_succ]
            exact I.2
        · rw [if_neg c1] at I
          constructor
          · simp only [lp_M_read_24, e1, if_false, e3, c1, ofNat_succ, Int32.add_zero]
            exact I.1
          · simp only [okl_M_read_24, e1, if_false, e3, c1, b1, true_and, ofNat_succ, Int32.add_zero]
            exact I.2
  exact key n 0 mm_N (by omega) (by rw [mm_Ns]; omega)
theorem up_lt {α : Type} {f : Nat → α} {i j : Nat} {x : α} (h : j < i) : up f i x j = f j := up_ne (by omega)
theorem op_read (a1 : Int32) (s : mS) (h_things : J_things s) (h_books : J_books s) (h_gen : J_gen s) : ok_G_read a1 s ∧ ok_M_read a1 (f_G_read a1 s).2 ∧ (f_G_read a1 s).1 = (f_M_read a1 (f_G_read a1 s).2).1 ∧ J_books (f_M_read a1 (f_G_read a1 s).2).2 := by
  obtain ⟨n, hn, hn2, hix⟩ := books_n h_books
  have kt := h_things
  unfold J_things at kt
  obtain ⟨t1, t2, t3, t4, t5, t6, t7, t8, t9, t10, t11, t12, t13, t14, t15, t16, t17⟩ := kt
  have kb := h_books
  unfold J_books at kb
  obtain ⟨b1, b2, b3, b4, b5, b6, b7, b8, b9, b10, b11, b12, b13, b14, b15, b16, b17, b18, b19, b20⟩ := kb
  have kg := h_gen
  unfold J_gen at kg
  have hc : gI s 82 8 = Int32.ofNat n := by rw [b5, hn]
  by_cases c0 : 0 ≤ a1 ∧ a1 < gI s 12 12 ∧ a1 < 40 ∧ gI s 14 (ix a1) = 0
  rotate_left
  · have m0 : ¬ (0 ≤ a1 ∧ a1 ≤ gI s 116 8 - 1 ∧ gI s 133 (ix a1) = 0) := by
      rw [← t2]
      grind
    refine ⟨?_, ?_, ?_, ?_⟩ <;> simp only [f_G_read, f_M_read, ok_G_read, ok_M_read, mq_let_e, mq_letP_e, z_isA, z_house, o_isA, o_house _ _ t12 t13, ite_not, c0, m0, if_false, true_and]
    exact h_books
  have m0 : 0 ≤ a1 ∧ a1 ≤ gI s 116 8 - 1 ∧ gI s 133 (ix a1) = 0 := by
    rw [← t2]
    grind
  have i40 : mm_inb a1 40 = true := inb_40 c0.1 c0.2.2.1
  by_cases c1 : n < 200
  rotate_left
  · have : n = 200 := by omega
    subst this
    have q1 : ¬ gI s 82 8 < 200 := by rw [hc]; decide
    have q2 : gI s 116 57 = 200 := hn
    refine ⟨?_, ?_, ?_, ?_⟩ <;> simp only [f_G_read, f_M_read, ok_G_read, ok_M_read, f_Books_note, ok_Books_note, mq_let_e, mq_letP_e, z_isA, z_house, o_isA, o_house _ _ t12 t13, ite_not, c0, m0, q1, q2, i40, and_self, if_false, if_true, true_and]
    exact h_books
  have q1 : gI s 82 8 < 200 := by
    rw [hc]
    exact (ofNat_lt (b := 200) (by omega) (by omega)).mpr c1
  have q2 : ¬ gI s 116 57 = 200 := by
    rw [hn]
    intro h
    have h' : Int32.ofNat n = Int32.ofNat 200 := h
    rw [ofNat_e (by omega) (by omega)] at h'
    omega
  have q1' : Int32.ofNat n < 200 := hc ▸ q1
  have e8' : ix (Int32.ofNat n) = n := ix_ofNat (by omega)
  have q2' : ¬ Int32.ofNat n = 200 := hn ▸ q2
  have N := noteG_lp (s := s) hc hn2 b1 a1 (gI s 0 9) (gI s 20 (ix a1)) (gI s 18 (ix a1))
  have e8 : ix (gI s 82 8) = n := by rw [hc, ix_ofNat (by omega)]
  have i200 : mm_inb (gI s 82 8) 200 = true := by rw [hc]; exact inb_ofNat (by decide) c1
  have hcnt := hk_le (H := gI s 150) (t := a1) n
  -- the ordinal
  have hord : (if hk_prev (gI s 150) a1 n = -1 then (0 : Int32) else gI s 84 (ix (hk_prev (gI s 150) a1 n)) + 1) = Int32.ofNat (hk_cnt (gI s 150) a1 n) ∧ (hk_prev (gI s 150) a1 n = -1 ∨ mm_inb (hk_prev (gI s 150) a1 n) 200 = true) := by
    by_cases q : hk_cnt (gI s 150) a1 n = 0
    · rw [hk_prev_0 q, q]
      exact ⟨rfl, Or.inl rfl⟩
    · obtain ⟨p, p1, p2, p3, p4⟩ := hk_prev_s q
      rw [p2, if_neg (ofNat_ne1 (by omega)), ix_ofNat (by omega)]
      have := b16 p (by omega)
      rw [p3] at this
      rw [this, ofNat_succ, p4]
      exact ⟨rfl, Or.inr (inb_ofNat (by decide) (by omega))⟩
  have bfr : mm_bit (gI s 18 (ix a1)) = true := bit_of (by rw [t6]; exact t15 _)
  have eG : f_G_read a1 s = (Int32.ofNat (hk_cnt (gI s 150) a1 n), sI (sI (sI (sI (sI (sI (sI s 83 n a1) 85 n (hk_prev (gI s 150) a1 n)) 84 n (Int32.ofNat (hk_cnt (gI s 150) a1 n))) 86 n (gI s 0 9)) 87 n (gI s 20 (ix a1))) 88 n (gI s 18 (ix a1))) 82 8 (Int32.ofNat n + 1)) := by
    simp only [f_G_read, f_Books_note, mq_let_e, z_isA, ite_not, c0, and_self, if_true, q1, q1', N.1, hord.1, e8, e8', hc, gI_sI, Nat.reduceEqDiff, false_and, if_false]
  have oG : ok_G_read a1 s := by
    simp only [ok_G_read, ok_Books_note, mq_letP_e, z_isA, o_isA, ite_not, c0, and_self, if_true, q1, N.1, N.2 c1, i40, i200, bfr, Bool.and_self, true_and, and_true]
    rcases hord.2 with q | q
    · simp [q]
    · simp [q]
  -- the model over the class's new state
  have mcell : ∀ c, 116 ≤ c → gI (f_G_read a1 s).2 c = gI s c := by
    intro c hc'
    rw [eG]
    simp only [fI_sI]
    rw [if_neg (by omega), if_neg (by omega), if_neg (by omega), if_neg (by omega), if_neg (by omega), if_neg (by omega), if_neg (by omega)]
  have M := readM_lp (s := (f_G_read a1 s).2) (by rw [mcell _ (by omega)]; exact hn) hn2 a1
  rw [mcell 150 (by omega)] at M
  have i200' : mm_inb (gI s 116 57) 200 = true := by rw [hn]; exact inb_ofNat (by decide) c1
  have bfr' : mm_bit (gI s 141 (ix a1)) = true := bit_of (t15 _)
  have eM : f_M_read a1 (f_G_read a1 s).2 = (Int32.ofNat (hk_cnt (gI s 150) a1 n), sI (sI (sI (sI (sI (f_G_read a1 s).2 150 n a1) 151 n (gI s 116 1)) 152 n (gI s 137 (ix a1))) 156 n (gI s 141 (ix a1))) 116 57 (Int32.ofNat n + 1)) := by
    simp only [f_M_read, mq_let_e, z_house, mcell 116 (by omega), mcell 133 (by omega), ite_not, m0, and_self, if_true, q2, q2', if_false, M.1, hix, e8', hn, gI_sI, Nat.reduceEqDiff, false_and, mcell 137 (by omega), mcell 141 (by omega)]
  refine ⟨oG, ?_, ?_, ?_⟩
  · simp only [ok_M_read, o_house _ _ (show 0 ≤ gI (f_G_read a1 s).2 116 8 by rw [mcell _ (by omega)]; exact t12) (show gI (f_G_read a1 s).2 116 8 ≤ 40 by rw [mcell _ (by omega)]; exact t13), mq_letP_e, z_house, mcell 116 (by omega), mcell 133 (by omega), mcell 141 (by omega), ite_not, m0, and_self, if_true, q2, if_false, M.1, M.2, i40, i200', bfr', Bool.and_self, true_and]
  · rw [eM, eG]
  · rw [eM]
    have hx : ix (Int32.ofNat n + 1) = n + 1 := by rw [ofNat_succ, ix_ofNat (by omega)]
    unfold J_books
    rw [eG]
    simp only [fI_sI, gI_sI, Nat.reduceEqDiff, false_and, and_false, and_self, true_and, if_true, if_false, reduceIte, hx]
    have hk : ∀ r, r < n + 1 → hk_cnt (up (gI s 150) n a1) (up (gI s 150) n a1 r) r = hk_cnt (gI s 150) (up (gI s 150) n a1 r) r := fun r hr => hk_cnt_c (fun j hj => up_lt (by omega))
    have hk2 : ∀ r, r < n + 1 → hk_prev (up (gI s 150) n a1) (up (gI s 150) n a1 r) r = hk_prev (gI s 150) (up (gI s 150) n a1 r) r := fun r hr => hk_prev_c (fun j hj => up_lt (by omega))
    refine ⟨by rw [b1], by rw [b2, kg.1], by rw [b3, t8], by rw [b4, t6], ?_, ?_, b8, b9, b10, b11, b12, b13, ?_, ?_, ?_, ?_, ?_, ?_, ?_⟩
    · rw [ofNat_succ]
      exact (ofNat_le (a := 0) (by omega) (by omega)).mpr (by omega)
    · rw [ofNat_succ]
      exact (ofNat_le (b := 200) (by omega) (by omega)).mpr (by omega)
    · intro r
      split
      · exact t15 _
      · exact b14 r
    · intro r hr
      by_cases q : r = n
      · subst q
        simp only [if_pos]
        refine ⟨m0.1, ?_, m0.2.2⟩
        grind
      · have := b15 r (by omega)
        simp only [q, if_false]
        exact this
    · intro r hr
      by_cases q : r = n
      · subst q
        simp only [if_pos]
        rw [hk_cnt_c (H := up (gI s 150) r a1) (H' := gI s 150) (fun j hj => up_lt hj)]
      · simp only [q, if_false]
        rw [b16 r (by omega), hk_cnt_c (H := up (gI s 150) n a1) (H' := gI s 150) (fun j hj => up_lt (by omega))]
    · intro r hr
      by_cases q : r = n
      · subst q
        simp only [if_pos]
        rw [hk_prev_c (H := up (gI s 150) r a1) (H' := gI s 150) (fun j hj => up_lt hj)]
      · simp only [q, if_false]
        rw [b17 r (by omega), hk_prev_c (H := up (gI s 150) n a1) (H' := gI s 150) (fun j hj => up_lt (by omega))]
    · intro r hr
      by_cases q : r = n
      · simp only [q, if_true]
        exact ⟨kg.2.1, Int32.le_refl _⟩
      · simp only [q, if_false]
        exact b18 r (by omega)
    · intro r hr
      have q0 : ¬ r = n := by omega
      simp only [q0, if_false]
      by_cases q : r + 1 = n
      · simp only [q, if_true]
        exact (b18 r (by omega)).2
      · simp only [q, if_false]
        exact b19 r (by omega)
    · intro i hi
      obtain ⟨x1, x2⟩ := b20 i hi
      refine ⟨x1, ?_⟩
      rw [hn] at x2
      refine Int32.lt_of_lt_of_le x2 ?_
      rw [ofNat_succ]
      exact (ofNat_le (by omega) (by omega)).mpr (by omega)
