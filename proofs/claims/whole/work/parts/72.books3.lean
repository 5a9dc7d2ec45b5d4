/-! READINGS put right; what they show and their units. -/
theorem rd_house {s : mS} (h : J_books s) {n : Nat} (hn : gI s 116 57 = Int32.ofNat n) (hn2 : n ≤ 200) {t j : Int32} (hr : ¬ rd_of (gI s 150) t j n = -1) : (0 ≤ t ∧ t ≤ gI s 116 8 - 1 ∧ gI s 133 (ix t) = 0) ∧ 0 ≤ j := by
  obtain ⟨r, r1, r2, r3, r4⟩ := rd_get (by omega) hr
  unfold J_books at h
  have hix : ix (gI s 116 57) = n := by rw [hn, ix_ofNat (by omega)]
  have h15 := h.2.2.2.2.2.2.2.2.2.2.2.2.2.2.1 r (by omega)
  rw [r2] at h15
  have := hk_le (H := gI s 150) (t := t) r
  refine ⟨⟨h15.1, by have := h15.2.1; grind, h15.2.2⟩, ?_⟩
  rw [← r3]
  exact (ofNat_le (a := 0) (by omega) (by omega)).mpr (by omega)
theorem op_right (a1 a2 a3 : Int32) (s : mS) (h_things : J_things s) (h_books : J_books s) (h_gen : J_gen s) : ok_G_right a1 a2 a3 s ∧ ok_M_right a1 a2 a3 (f_G_right a1 a2 a3 s).2 ∧ (f_G_right a1 a2 a3 s).1 = (f_M_right a1 a2 a3 (f_G_right a1 a2 a3 s).2).1 ∧ J_books (f_M_right a1 a2 a3 (f_G_right a1 a2 a3 s).2).2 := by
  obtain ⟨n, hn, hn2, hix⟩ := books_n h_books
  obtain ⟨m, hm, hm2, hmx⟩ := books_m h_books
  have kt := h_things
  unfold J_things at kt
  obtain ⟨t1, t2, t3, t4, t5, t6, t7, t8, t9, t10, t11, t12, t13, t14, t15, t16, t17⟩ := kt
  have kb := h_books
  unfold J_books at kb
  obtain ⟨b1, b2, b3, b4, b5, b6, b7, b8, b9, b10, b11, b12, b13, b14, b15, b16, b17, b18, b19, b20⟩ := kb
  have kg := h_gen
  unfold J_gen at kg
  have G := G_rd h_books hn hn2 a1 a2
  have M := M_rd hn hn2 a1 a2
  by_cases c0 : rd_of (gI s 150) a1 a2 n = -1
  · have eG : f_G_right a1 a2 a3 s = (0, s) := by
      simp only [f_G_right, mq_let_e, G.1, c0, if_true]
    rw [eG]
    refine ⟨?_, ?_, ?_, ?_⟩
    · simp only [ok_G_right, mq_letP_e, G.1, G.2, c0, if_true, true_and]
    · simp only [ok_M_right, mq_letP_e, o_house _ _ t12 t13, M.1, M.2, c0, if_true, true_and, ite_self]
    · simp only [f_M_right, mq_let_e, M.1, c0, if_true]
      split
      · rfl
      · split <;> rfl
    · simp only [f_M_right, mq_let_e, M.1, c0, if_true]
      split
      · exact h_books
      · split <;> exact h_books
  · obtain ⟨m0, m1⟩ := rd_house h_books hn hn2 c0
    have m1' : ¬ a2 < 0 := Int32.not_lt.mpr m1
    obtain ⟨r, r1, r2, r3, r4⟩ := rd_get (by omega) c0
    by_cases c1 : 0 ≤ a3 ∧ a3 ≤ 999999
    rotate_left
    · have eG : f_G_right a1 a2 a3 s = (0, s) := by
        simp only [f_G_right, mq_let_e, G.1, c0, z_within, ite_not, c1, if_false]
      rw [eG]
      refine ⟨?_, ?_, ?_, ?_⟩
      · simp only [ok_G_right, mq_letP_e, G.1, G.2, c0, z_within, ite_not, c1, if_false, true_and]
      · simp only [ok_M_right, mq_letP_e, o_house _ _ t12 t13, z_house, z_isIn, ite_not, m0, and_self, if_true, m1', M.1, M.2, c0, c1, if_false, true_and]
      · simp only [f_M_right, mq_let_e, z_house, z_isIn, ite_not, m0, and_self, if_true, m1', M.1, c0, c1, if_false]
      · simp only [f_M_right, mq_let_e, z_house, z_isIn, ite_not, m0, and_self, if_true, m1', M.1, c0, c1, if_false]
        exact h_books
    by_cases c2 : m < 100
    rotate_left
    · have : m = 100 := by omega
      subst this
      have q1 : ¬ gI s 82 12 < 100 := by rw [b11, hm]; decide
      have q2 : gI s 116 58 = 100 := hm
      have eG : f_G_right a1 a2 a3 s = (0, s) := by
        simp only [f_G_right, f_Books_correct, mq_let_e, G.1, c0, z_within, ite_not, c1, and_self, if_true, if_false, q1]
      rw [eG]
      refine ⟨?_, ?_, ?_, ?_⟩
      · simp only [ok_G_right, ok_Books_correct, f_Books_correct, mq_letP_e, G.1, G.2, c0, z_within, ite_not, c1, and_self, if_true, if_false, q1, bit0]
      · simp only [ok_M_right, mq_letP_e, o_house _ _ t12 t13, z_house, z_isIn, ite_not, m0, and_self, if_true, m1', M.1, M.2, c0, c1, if_false, true_and, q2]
      · simp only [f_M_right, mq_let_e, z_house, z_isIn, ite_not, m0, and_self, if_true, m1', M.1, c0, c1, if_false, q2]
      · simp only [f_M_right, mq_let_e, z_house, z_isIn, ite_not, m0, and_self, if_true, m1', M.1, c0, c1, if_false, q2]
        exact h_books
    have hc : gI s 82 12 = Int32.ofNat m := by rw [b11, hm]
    have q1 : Int32.ofNat m < 100 := (ofNat_lt (b := 100) (by omega) (by omega)).mpr c2
    have q2 : ¬ Int32.ofNat m = 100 := by
      intro h
      have h' : Int32.ofNat m = Int32.ofNat 100 := h
      rw [ofNat_e (by omega) (by omega)] at h'
      omega
    have e8 : ix (Int32.ofNat m) = m := ix_ofNat (by omega)
    have e9 : ¬ Int32.ofNat r = -1 := ofNat_ne1 (by omega)
    have i100 : mm_inb (Int32.ofNat m) 100 = true := inb_ofNat (by decide) c2
    have eG : f_G_right a1 a2 a3 s = (1, sI (sI (sI (sI s 91 m (Int32.ofNat r)) 92 m a3) 93 m (gI s 0 9)) 82 12 (Int32.ofNat m + 1)) := by
      simp only [f_G_right, f_Books_correct, mq_let_e, G.1, c0, z_within, ite_not, c1, and_self, if_true, if_false, hc, q1, e8, e9, r4, gI_sI, Nat.reduceEqDiff, false_and]
    have mcell : ∀ c, 116 ≤ c → gI (f_G_right a1 a2 a3 s).2 c = gI s c := by
      intro c hc'
      rw [eG]
      simp only [fI_sI]
      rw [if_neg (by omega), if_neg (by omega), if_neg (by omega), if_neg (by omega)]
    have M' := M_rd (s := (f_G_right a1 a2 a3 s).2) (by rw [mcell _ (by omega)]; exact hn) hn2 a1 a2
    rw [mcell 150 (by omega)] at M'
    have eM : f_M_right a1 a2 a3 (f_G_right a1 a2 a3 s).2 = (1, sI (sI (sI (sI (f_G_right a1 a2 a3 s).2 153 m (Int32.ofNat r)) 154 m (gI s 116 1)) 155 m a3) 116 58 (Int32.ofNat m + 1)) := by
      simp only [f_M_right, mq_let_e, z_house, z_isIn, ite_not, mcell 116 (by omega), mcell 133 (by omega), m0, and_self, if_true, m1', M'.1, c0, c1, if_false, hm, q2, e8, e9, r4, gI_sI, Nat.reduceEqDiff, false_and]
    refine ⟨?_, ?_, ?_, ?_⟩
    · simp only [ok_G_right, ok_Books_correct, f_Books_correct, mq_letP_e, G.1, G.2, c0, z_within, ite_not, c1, and_self, if_true, if_false, hc, q1, i100, bit1]
    · simp only [ok_M_right, mq_letP_e, o_house _ _ (show 0 ≤ gI (f_G_right a1 a2 a3 s).2 116 8 by rw [mcell _ (by omega)]; exact t12) (show gI (f_G_right a1 a2 a3 s).2 116 8 ≤ 40 by rw [mcell _ (by omega)]; exact t13), z_house, z_isIn, ite_not, mcell 116 (by omega), mcell 133 (by omega), m0, and_self, if_true, m1', M'.1, M'.2, c0, c1, if_false, hm, q2, i100, true_and]
    · rw [eM, eG]
    · rw [eM]
      have hx : ix (Int32.ofNat m + 1) = m + 1 := by rw [ofNat_succ, ix_ofNat (by omega)]
      unfold J_books
      rw [eG]
      simp only [fI_sI, gI_sI, Nat.reduceEqDiff, false_and, and_false, and_self, true_and, if_true, if_false, reduceIte, hx]
      refine ⟨b1, b2, b3, b4, b5, b6, b7, by rw [b8], by rw [b9], by rw [b10, kg.1], ?_, ?_, b14, b15, b16, b17, b18, b19, ?_⟩
      · rw [ofNat_succ]
        exact (ofNat_le (a := 0) (by omega) (by omega)).mpr (by omega)
      · rw [ofNat_succ]
        exact (ofNat_le (b := 100) (by omega) (by omega)).mpr (by omega)
      · intro i hi
        by_cases q : i = m
        · simp only [q, if_true]
          rw [hn]
          exact ⟨(ofNat_le (a := 0) (by omega) (by omega)).mpr (by omega), (ofNat_lt (by omega) (by omega)).mpr r1⟩
        · simp only [q, if_false]
          exact b20 i (by omega)
/-! what a reading shows -/
def bk_sh (s : mS) (known : Int32) (k : Nat) : Nat → Int32
  | 0 => gI s 152 k
  | i + 1 => if gI s 153 i = Int32.ofNat k ∧ gI s 154 i ≤ known then gI s 155 i else bk_sh s known k i
theorem M_shows {s : mS} {m : Nat} (hm : gI s 116 58 = Int32.ofNat m) (hm2 : m ≤ 100) (known : Int32) {k : Nat} (hk : k < 200) : f_M_shows (Int32.ofNat k) known s = bk_sh s known k m ∧ ok_M_shows (Int32.ofNat k) known s := by
  have e0 : ix (Int32.ofNat k) = k := ix_ofNat (by omega)
  have key : ∀ r i n, i + r = m → r < n → lp_M_shows_10 (Int32.ofNat k) known s n (bk_sh s known k i) (Int32.ofNat i) = (bk_sh s known k m, Int32.ofNat m) ∧ okl_M_shows_10 (Int32.ofNat k) known s n (bk_sh s known k i) (Int32.ofNat i) := by
    intro r
    induction r with
    | zero =>
      intro i n hi hn
      have : i = m := by omega
      subst this
      match n, hn with
      | n + 1, _ =>
        have e1 := fl_lit' hm
        constructor
        · simp only [lp_M_shows_10, e1, if_true]
        · simp only [okl_M_shows_10, e1, if_true]
    | succ r ih =>
      intro i n hi hn
      match n, hn with
      | n + 1, hn =>
        have e1 := fl_lit hm (by omega) (by omega) (by omega : i < m)
        have e3 : ix (Int32.ofNat i) = i := ix_ofNat (by omega)
        have b1 : mm_inb (Int32.ofNat i) 100 = true := inb_ofNat (by decide) (by omega)
        have I := ih (i + 1) n (by omega) (by omega)
        simp only [bk_sh] at I
        by_cases c1 : gI s 153 i = Int32.ofNat k
        · by_cases c2 : known < gI s 154 i
          · rw [if_neg (fun q => absurd q.2 (Int32.not_le.mpr c2))] at I
            constructor
            · simp only [lp_M_shows_10, e1, if_false, e3, c1, c2, if_true, ofNat_succ]
              exact I.1
            · simp only [okl_M_shows_10, e1, if_false, e3, c1, c2, if_true, b1, true_and, ofNat_succ]
              exact I.2
          · rw [if_pos ⟨c1, Int32.not_lt.mp c2⟩] at I
            constructor
            · simp only [lp_M_shows_10, e1, if_false, e3, c1, c2, if_true, ofNat_succ]
              exact I.1
            · simp only [okl_M_shows_10, e1, if_false, e3, c1, c2, if_true, b1, true_and, ofNat_succ]
              exact I.2
        · rw [if_neg (fun q => c1 q.1)] at I
          constructor
          · simp only [lp_M_shows_10, e1, if_false, e3, c1, ofNat_succ]
            exact I.1
          · simp only [okl_M_shows_10, e1, if_false, e3, c1, b1, true_and, ofNat_succ]
            exact I.2
  have K := key m 0 mm_N (by omega) (by rw [mm_Ns]; omega)
  have K1 : lp_M_shows_10 (Int32.ofNat k) known s mm_N (gI s 152 k) 0 = _ := K.1
  have K2 : okl_M_shows_10 (Int32.ofNat k) known s mm_N (gI s 152 k) 0 := K.2
  constructor
  · unfold f_M_shows
    simp only [mq_let_e, e0, K1]
  · unfold ok_M_shows
    simp only [mq_letP_e, e0, K1, K2, and_true, inb_ofNat (by decide : 200 < 2147483648) hk]
