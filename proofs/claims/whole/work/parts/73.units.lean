/-! UNITS: the class fills them from the first reading on, the model from one that is not frozen. -/
def bk_P (s : mS) (r : Nat) : Int32 := hk_prev (gI s 150) (gI s 150 r) r
def bk_v (s : mS) (sh : Nat → Int32) (U : Nat → Int64) (r : Nat) : Int64 := if bk_P s r = -1 then 0 else if gI s 156 r = 0 then Int32.toInt64 (if (0 : Int32) < sh r - sh (ix (bk_P s r)) then sh r - sh (ix (bk_P s r)) else 0) else if bk_P s (ix (bk_P s r)) = -1 then 0 else if (0 : Int32) < gI s 151 (ix (bk_P s r)) - gI s 151 (ix (bk_P s (ix (bk_P s r)))) then (U (ix (bk_P s r)) * Int32.toInt64 (gI s 151 r - gI s 151 (ix (bk_P s r)))) / Int32.toInt64 (gI s 151 (ix (bk_P s r)) - gI s 151 (ix (bk_P s (ix (bk_P s r))))) else 0
def bk_ut (s : mS) (sh : Nat → Int32) : Nat → (Nat → Int64)
  | 0 => fun _ => 0
  | k + 1 => up (bk_ut s sh k) k (bk_v s sh (bk_ut s sh k) k)
def bk_un (s : mS) (sh : Nat → Int32) (r : Nat) : Int64 := bk_ut s sh (r + 1) r
theorem bk_P_lt {s : mS} {r : Nat} (h : ¬ bk_P s r = -1) : ∃ p, p < r ∧ bk_P s r = Int32.ofNat p ∧ gI s 150 p = gI s 150 r ∧ hk_cnt (gI s 150) (gI s 150 r) p + 1 = hk_cnt (gI s 150) (gI s 150 r) r := by
  unfold bk_P at h ⊢
  by_cases q : hk_cnt (gI s 150) (gI s 150 r) r = 0
  · exact absurd (hk_prev_0 q) h
  · exact hk_prev_s q
theorem bk_ut_st {s : mS} {sh : Nat → Int32} {k j : Nat} (h : j < k) : bk_ut s sh k j = bk_un s sh j := by
  induction k with
  | zero => omega
  | succ k ih =>
    by_cases q : j = k
    · subst q
      rfl
    · show up _ _ _ j = _
      rw [up_ne q]
      exact ih (by omega)
theorem bk_v_c {s : mS} {sh sh' : Nat → Int32} {U U' : Nat → Int64} {r : Nat} (hr : r < 90000) (h1 : ∀ j, j ≤ r → sh j = sh' j) (h2 : ∀ j, j < r → U j = U' j) : bk_v s sh U r = bk_v s sh' U' r := by
  unfold bk_v
  by_cases q : bk_P s r = -1
  · rw [if_pos q, if_pos q]
  · obtain ⟨p, p1, p2, -, -⟩ := bk_P_lt q
    rw [p2, ix_ofNat (by omega), h1 r (by omega), h1 p (by omega), h2 p p1]
theorem bk_un_eq {s : mS} {sh : Nat → Int32} {r : Nat} (hr : r < 90000) : bk_un s sh r = bk_v s sh (bk_un s sh) r := by
  show up _ _ _ r = _
  rw [up_self]
  exact bk_v_c hr (fun _ _ => rfl) (fun j hj => bk_ut_st hj)
/-! the class -/
theorem G_know {s : mS} (h_books : J_books s) {n m : Nat} (hn : gI s 116 57 = Int32.ofNat n) (hn2 : n ≤ 200) (hm : gI s 116 58 = Int32.ofNat m) (hm2 : m ≤ 100) (known : Int32) : ∃ g u, f_Books_know known s = sM (sA s 89 g) 90 u ∧ ok_Books_know known s ∧ (∀ r, r < n → g r = bk_sh s known r m) ∧ ∀ r, r < n → u r = bk_un s (fun k => bk_sh s known k m) r := by
  have hix : ix (gI s 116 57) = n := by rw [hn, ix_ofNat (by omega)]
  have hmx : ix (gI s 116 58) = m := by rw [hm, ix_ofNat (by omega)]
  have kb := h_books
  unfold J_books at kb
  obtain ⟨b1, b2, b3, b4, b5, b6, b7, b8, b9, b10, b11, b12, b13, b14, b15, b16, b17, b18, b19, b20⟩ := kb
  have hc : gI s 82 8 = Int32.ofNat n := by rw [b5, hn]
  have hc2 : gI s 82 12 = Int32.ofNat m := by rw [b11, hm]
  have A := lp_map (L := lp_Books_know_2 known) (OK := okl_Books_know_2 known) 89 n (by omega) s (gI s 87)
    (fun k i g hi => by
      have e1 := fl_lit hc (by omega) (by omega) hi
      have e1' : ¬ (200 : Int32) ≤ Int32.ofNat i := fl_lit (a := 200) rfl (by omega) (by omega) (by omega)
      have e2 : ix (Int32.ofNat i) = i := ix_ofNat (by omega)
      have e3 : Int32.ofNat i + 1 = Int32.ofNat (i + 1) := ofNat_succ i
      have e4 : mm_inb (Int32.ofNat i) 200 = true := inb_ofNat (by decide) (by omega)
      constructor
      · simp only [lp_Books_know_2, gI_sA, Nat.reduceEqDiff, reduceIte, e1, e1', e2, e3, sI_sA]
      · intro q
        simp only [okl_Books_know_2, gI_sA, Nat.reduceEqDiff, reduceIte, e1, e1', e2, e3, e4, sI_sA, true_and]
        exact q)
    (fun k g => by
      have e1 := fl_lit' hc
      constructor
      · simp only [lp_Books_know_2, gI_sA, Nat.reduceEqDiff, reduceIte, e1]
      · simp only [okl_Books_know_2, gI_sA, Nat.reduceEqDiff, reduceIte, e1])
  have B := lp_up0 (L := lp_Books_know_37 known) (OK := okl_Books_know_37 known) (fun i s' => ∃ g, s' = sA s 89 g ∧ ∀ r, r < n → g r = bk_sh s known r i) m (by omega) (sA s 89 (fillA n (gI s 87) (gI s 89))) ⟨_, rfl, fun r hr => by
      rw [fillA_lt hr, b3]
      rfl⟩
    (fun k i s' hi hp => by
      obtain ⟨g, rfl, hg⟩ := hp
      have e1 := fl_lit hc2 (by omega) (by omega) hi
      have e1' : ¬ (100 : Int32) ≤ Int32.ofNat i := fl_lit (a := 100) rfl (by omega) (by omega) (by omega)
      have e2 : ix (Int32.ofNat i) = i := ix_ofNat (by omega)
      have e3 : Int32.ofNat i + 1 = Int32.ofNat (i + 1) := ofNat_succ i
      have e4 : mm_inb (Int32.ofNat i) 100 = true := inb_ofNat (by decide) (by omega)
      have x93 : gI s 93 i = gI s 154 i := by rw [b10]
      have x91 : gI s 91 i = gI s 153 i := by rw [b8]
      have x92 : gI s 92 i = gI s 155 i := by rw [b9]
      obtain ⟨y1, y2⟩ := b20 i (by omega)
      rw [hn] at y2
      have e5 : ¬ gI s 153 i < 0 := Int32.not_lt.mpr y1
      have e6 : ¬ Int32.ofNat n ≤ gI s 153 i := Int32.not_le.mpr y2
      have e8 : ix (gI s 153 i) < n := ix_lt (by omega) y1 y2
      have e9 : Int32.ofNat (ix (gI s 153 i)) = gI s 153 i := ofNat_ix y1
      have e7 : mm_inb (gI s 153 i) 200 = true := inb_ix y1 (by omega)
      by_cases c : known < gI s 154 i
      · refine ⟨sA s 89 g, ?_, ?_, g, rfl, fun r hr => ?_⟩
        · simp only [lp_Books_know_37, gI_sA, Nat.reduceEqDiff, reduceIte, e1, e1', e2, e3, x93, c]
        · intro q
          simp only [okl_Books_know_37, gI_sA, Nat.reduceEqDiff, reduceIte, e1, e1', e2, e3, e4, x93, c, true_and]
          exact q
        · rw [hg r hr]
          show _ = if _ then _ else _
          rw [if_neg (fun q => absurd q.2 (Int32.not_le.mpr c))]
      · refine ⟨sA s 89 (up g (ix (gI s 153 i)) (gI s 155 i)), ?_, ?_, _, rfl, fun r hr => ?_⟩
        · simp only [lp_Books_know_37, gI_sA, Nat.reduceEqDiff, reduceIte, e1, e1', e2, e3, x93, c, x91, hc, e5, e6, x92, sI_sA]
        · intro q
          simp only [okl_Books_know_37, gI_sA, Nat.reduceEqDiff, reduceIte, e1, e1', e2, e3, e4, x93, c, x91, hc, e5, e6, e7, x92, sI_sA, true_and]
          exact q
        · show _ = if _ then _ else _
          by_cases q : r = ix (gI s 153 i)
          · rw [q, up_self, e9, if_pos ⟨rfl, Int32.not_lt.mp c⟩]
          · rw [up_ne q, hg r hr, if_neg]
            rintro ⟨q1, -⟩
            rw [q1, ix_ofNat (by omega)] at q
            exact q rfl)
    (fun k s' hp => by
      obtain ⟨g, rfl, hg⟩ := hp
      have e1 := fl_lit' hc2
      constructor
      · simp only [lp_Books_know_37, gI_sA, Nat.reduceEqDiff, reduceIte, e1]
      · simp only [okl_Books_know_37, gI_sA, Nat.reduceEqDiff, reduceIte, e1])
  obtain ⟨s1, B1, B2, g, rfl, hg⟩ := B
  have C := lp_up0 (L := lp_Books_know_100) (OK := okl_Books_know_100) (fun i s' => ∃ u, s' = sM (sA s 89 g) 90 u ∧ ∀ r, r < i → u r = bk_un s (fun k => bk_sh s known k m) r) n (by omega) (sA s 89 g) ⟨gL s 90, by
      rw [show gL s 90 = gL (sA s 89 g) 90 from rfl, sM_id], fun r hr => by omega⟩
    (fun k i s' hi hp => by
      obtain ⟨u, rfl, hu⟩ := hp
      have e1 := fl_lit hc (by omega) (by omega) hi
      have e1' : ¬ (200 : Int32) ≤ Int32.ofNat i := fl_lit (a := 200) rfl (by omega) (by omega) (by omega)
      have e2 : ix (Int32.ofNat i) = i := ix_ofNat (by omega)
      have e3 : Int32.ofNat i + 1 = Int32.ofNat (i + 1) := ofNat_succ i
      have e4 : mm_inb (Int32.ofNat i) 200 = true := inb_ofNat (by decide) (by omega)
      have x85 := b17 i (by omega)
      have V : f_Books_unitsOf (Int32.ofNat i) (sM (sA s 89 g) 90 u) = bk_un s (fun k => bk_sh s known k m) i ∧ ok_Books_unitsOf (Int32.ofNat i) (sM (sA s 89 g) 90 u) := by
        rw [bk_un_eq (by omega)]
        unfold f_Books_unitsOf ok_Books_unitsOf bk_v
        simp only [gI_sM, gI_sA, gL_sM, Nat.reduceEqDiff, reduceIte, e2, e4, hc]
        rw [show hk_prev (gI s 150) (gI s 150 i) i = bk_P s i from rfl] at x85
        rw [x85]
        by_cases q : bk_P s i = -1
        · rw [q, if_pos (by decide), if_pos (by decide), if_pos (by decide)]
          exact ⟨rfl, ⟨trivial, trivial⟩⟩
        · obtain ⟨p, p1, p2, p3, p4⟩ := bk_P_lt q
          have z1 : ¬ Int32.ofNat p < 0 := Int32.not_lt.mpr ((ofNat_le (a := 0) (by omega) (by omega)).mpr (by omega))
          have z2 : Int32.ofNat p < Int32.ofNat n := (ofNat_lt (by omega) (by omega)).mpr (by omega)
          have z3 : ix (Int32.ofNat p) = p := ix_ofNat (by omega)
          have z4 : mm_inb (Int32.ofNat p) 200 = true := inb_ofNat (by decide) (by omega)
          have z5 := b17 p (by omega)
          rw [show hk_prev (gI s 150) (gI s 150 p) p = bk_P s p from rfl] at z5
          have z6 : ¬ Int32.ofNat p = -1 := ofNat_ne1 (by omega)
          rw [p2]
          simp only [z1, z2, z3, z4, z5, z6, if_true, if_false, hg i hi, hg p (by omega), b4, b2, true_and, and_true]
          by_cases q2 : gI s 156 i = 0
          · simp only [q2, if_true]
            refine ⟨?_, ?_⟩ <;> trivial
          · simp only [q2, if_false]
            by_cases q3 : bk_P s p = -1
            · rw [q3, if_pos (by decide), if_pos (by decide), if_pos (by decide)]
              exact ⟨rfl, trivial⟩
            · obtain ⟨p', y1, y2, y3, y4⟩ := bk_P_lt q3
              have w1 : ¬ Int32.ofNat p' < 0 := Int32.not_lt.mpr ((ofNat_le (a := 0) (by omega) (by omega)).mpr (by omega))
              have w2 : Int32.ofNat p' < Int32.ofNat n := (ofNat_lt (by omega) (by omega)).mpr (by omega)
              have w3 : ix (Int32.ofNat p') = p' := ix_ofNat (by omega)
              have w4 : mm_inb (Int32.ofNat p') 200 = true := inb_ofNat (by decide) (by omega)
              have w6 : ¬ Int32.ofNat p' = -1 := ofNat_ne1 (by omega)
              rw [y2]
              simp only [w1, w2, w3, w4, w6, if_true, if_false, hu p p1, true_and, and_true]
              by_cases q4 : (0 : Int32) < gI s 151 p - gI s 151 p'
              · simp only [q4, if_true, true_and]
                simp only [Bool.not_eq_true', decide_eq_false_iff_not]
                intro q5
                have q6 := congrArg Int64.toInt q5
                rw [Int32.toInt_toInt64] at q6
                rw [lt_toInt, toInt_0] at q4
                have : (0 : Int64).toInt = 0 := rfl
                omega
              · simp only [q4, if_false, and_self]
      refine ⟨sM (sA s 89 g) 90 (up u i (bk_un s (fun k => bk_sh s known k m) i)), ?_, ?_, _, rfl, fun r hr => ?_⟩
      · simp only [lp_Books_know_100, mq_let_e, gI_sM, gI_sA, Nat.reduceEqDiff, reduceIte, e1, e1', e2, e3, V.1, sL_sM]
      · intro q
        simp only [okl_Books_know_100, mq_letP_e, gI_sM, gI_sA, Nat.reduceEqDiff, reduceIte, e1, e1', e2, e3, e4, V.1, V.2, sL_sM, true_and]
        exact q
      · by_cases q : r = i
        · rw [q, up_self]
        · rw [up_ne q, hu r (by omega)])
    (fun k s' hp => by
      obtain ⟨u, rfl, hu⟩ := hp
      have e1 := fl_lit' hc
      constructor
      · simp only [lp_Books_know_100, gI_sM, gI_sA, Nat.reduceEqDiff, reduceIte, e1]
      · simp only [okl_Books_know_100, gI_sM, gI_sA, Nat.reduceEqDiff, reduceIte, e1])
  obtain ⟨s2, C1, C2, u, rfl, hu⟩ := C
  refine ⟨g, u, ?_, ?_, hg, hu⟩
  · unfold f_Books_know
    simp only [mq_let_e, A.1, B1, C1]
  · unfold ok_Books_know
    simp only [mq_letP_e, A.1, A.2, B1, B2, C1, C2, true_and]
