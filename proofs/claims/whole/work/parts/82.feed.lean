/-! FEED. -/
theorem sI_cc (s : mS) (c c' i j : Nat) (x y : Int32) (h : c ≠ c') : sI (sI s c i x) c' j y = sI (sI s c' j y) c i x := by
  unfold sI
  congr 1
  funext a b
  by_cases h1 : a = c
  · have h2 : ¬ (a = c') := fun e => h (by omega)
    simp [h1, h]
  · simp [h1]
def fd_x (a1 a2 a3 a4 a5 : Int32) (i : Int32) : Int32 := (if (4 : Int32) ≤ i then (if (8 : Int32) ≤ i then (if (12 : Int32) ≤ i then (if (16 : Int32) ≤ i then a5 else a4) else a3) else a2) else a1)
def fd_byte (a1 a2 a3 a4 a5 : Int32) (i : Nat) : Int32 := ((fd_x a1 a2 a3 a4 a5 (Int32.ofNat i) >>> ((24 - (8 * (Int32.ofNat i - Int32.ofNat i / 4 * 4))) &&& 31)) &&& 255)
def fd_t (a1 a2 a3 a4 a5 : Int32) (g : Nat → Int32) (z : Nat) : Nat → (Nat → Int32)
  | 0 => g
  | i + 1 => up (fd_t a1 a2 a3 a4 a5 g z i) (z + i) (fd_byte a1 a2 a3 a4 a5 i)
theorem M_feed {s : mS} {z : Nat} (a1 a2 a3 a4 a5 : Int32) (hz : gI s 116 80 = Int32.ofNat z) (hz2 : z + 20 ≤ 600) : lp_M_feed_18 a1 a2 a3 a4 a5 mm_N 0 s = (Int32.ofNat 20, sI (sA s 167 (fd_t a1 a2 a3 a4 a5 (gI s 167) z 20)) 116 80 (Int32.ofNat (z + 20))) ∧ okl_M_feed_18 a1 a2 a3 a4 a5 mm_N 0 s := by
  have A := lp_up0 (L := lp_M_feed_18 a1 a2 a3 a4 a5) (OK := okl_M_feed_18 a1 a2 a3 a4 a5) (fun i s' => s' = sI (sA s 167 (fd_t a1 a2 a3 a4 a5 (gI s 167) z i)) 116 80 (Int32.ofNat (z + i))) 20 (by omega) s (by
      show s = sI (sA s 167 (gI s 167)) 116 80 (Int32.ofNat z)
      rw [sA_id, ← hz, sI_id])
    (fun n i s' hi hp => by
      subst hp
      have e1 : ¬ (20 : Int32) ≤ Int32.ofNat i := fl_lit (a := 20) rfl (by omega) (by omega) hi
      have e2 : ix (Int32.ofNat (z + i)) = z + i := ix_ofNat (by omega)
      have e3 : Int32.ofNat i + 1 = Int32.ofNat (i + 1) := ofNat_succ i
      have b1 : mm_inb (Int32.ofNat (z + i)) 600 = true := inb_ofNat (by decide) (by omega)
      have e4 : Int32.ofNat (z + i) + 1 = Int32.ofNat (z + (i + 1)) := ofNat_succ (z + i)
      have e5 : ∀ v B, sI (sI (sA s 167 (fd_t a1 a2 a3 a4 a5 (gI s 167) z i)) 116 80 v) 167 (z + i) B = sI (sA s 167 (up (fd_t a1 a2 a3 a4 a5 (gI s 167) z i) (z + i) B)) 116 80 v := fun v B => by
        rw [sI_cc _ _ _ _ _ _ _ (by decide : (116 : Nat) ≠ 167), sI_sA]
      refine ⟨sI (sA s 167 (fd_t a1 a2 a3 a4 a5 (gI s 167) z (i + 1))) 116 80 (Int32.ofNat (z + (i + 1))), ?_, ?_, rfl⟩
      · simp only [lp_M_feed_18, mq_let_e, e1, if_false, gI_sI, and_self, if_true, e2, e3, e4, e5, sI_sI]
        rfl
      · intro q
        simp only [okl_M_feed_18, mq_letP_e, e1, if_false, gI_sI, and_self, if_true, e2, e3, e4, e5, sI_sI, b1, true_and]
        exact q)
    (fun n s' hp => by
      have e1 : (20 : Int32) ≤ Int32.ofNat 20 := by decide
      constructor
      · simp only [lp_M_feed_18, e1, if_true]
      · simp only [okl_M_feed_18, e1, if_true])
  obtain ⟨s', A1, A2, A3⟩ := A
  subst A3
  exact ⟨A1, A2⟩
def fS (s : mS) (g : Nat → Int32) (z : Nat) : mS := sI (sA s 37 g) 36 5 (Int32.ofNat z)
theorem G_st1 (s : mS) (g : Nat → Int32) {z n : Nat} (hz : z < 600) (a v : Int32) (hv : v = 24 ∨ v = 16 ∨ v = 8 ∨ v = 0) : lp_Laws_store_3 a (n + 1) v (fS s g z) = lp_Laws_store_3 a n (v + -8) (fS s (up g z ((a >>> (v &&& 31)) &&& 255)) (z + 1)) ∧ (okl_Laws_store_3 a n (v + -8) (fS s (up g z ((a >>> (v &&& 31)) &&& 255)) (z + 1)) → okl_Laws_store_3 a (n + 1) v (fS s g z)) := by
  have e0 : ¬ v < 0 := by rcases hv with rfl | rfl | rfl | rfl <;> decide
  have e1 : ¬ (600 : Int32) ≤ Int32.ofNat z := fl_lit (a := 600) rfl (by omega) (by omega) hz
  have e2 : ix (Int32.ofNat z) = z := ix_ofNat (by omega)
  have b1 : mm_inb (Int32.ofNat z) 600 = true := inb_ofNat (by decide) hz
  have e5 : ∀ w B, sI (sI (fS s g z) 36 5 w) 37 z B = sI (sA s 37 (up g z B)) 36 5 w := fun w B => by
    unfold fS
    rw [sI_sI, sI_cc _ _ _ _ _ _ _ (by decide : (36 : Nat) ≠ 37), sI_sA]
  have e6 : gI (fS s g z) 36 5 = Int32.ofNat z := by
    unfold fS
    simp [gI_sI]
  constructor
  · simp only [lp_Laws_store_3, e0, if_false, e6, e1, e2, byte_eq a v hv, e5, ofNat_succ]
    rfl
  · intro q
    simp only [okl_Laws_store_3, e0, if_false, e6, e1, e2, byte_eq a v hv, e5, ofNat_succ, b1, true_and]
    exact q
theorem G_store (s : mS) (g : Nat → Int32) {z : Nat} (hz : z + 4 ≤ 600) (a : Int32) : f_Laws_store a (fS s g z) = fS s (up (up (up (up g z ((a >>> (24 &&& 31)) &&& 255)) (z + 1) ((a >>> (16 &&& 31)) &&& 255)) (z + 2) ((a >>> (8 &&& 31)) &&& 255)) (z + 3) ((a >>> (0 &&& 31)) &&& 255)) (z + 4) ∧ ok_Laws_store a (fS s g z) := by
  obtain ⟨N, hN⟩ : ∃ N, mm_N = N + 1 + 1 + 1 + 1 + 1 := ⟨99995, rfl⟩
  have s1 := G_st1 s g (z := z) (n := N + 1 + 1 + 1 + 1) (by omega) a 24 (by simp)
  have s2 := G_st1 s (up g z ((a >>> (24 &&& 31)) &&& 255)) (z := z + 1) (n := N + 1 + 1 + 1) (by omega) a 16 (by simp)
  have s3 := G_st1 s (up (up g z ((a >>> (24 &&& 31)) &&& 255)) (z + 1) ((a >>> (16 &&& 31)) &&& 255)) (z := z + 2) (n := N + 1 + 1) (by omega) a 8 (by simp)
  have s4 := G_st1 s (up (up (up g z ((a >>> (24 &&& 31)) &&& 255)) (z + 1) ((a >>> (16 &&& 31)) &&& 255)) (z + 2) ((a >>> (8 &&& 31)) &&& 255)) (z := z + 3) (n := N + 1) (by omega) a 0 (by simp)
  have v1 : (24 : Int32) + -8 = 16 := by decide
  have v2 : (16 : Int32) + -8 = 8 := by decide
  have v3 : (8 : Int32) + -8 = 0 := by decide
  rw [v1] at s1
  rw [v2] at s2
  rw [v3] at s3
  have e0 : (0 : Int32) + -8 < 0 := by decide
  have s5 : ∀ w, lp_Laws_store_3 a (N + 1) (0 + -8) w = (0 + -8, w) ∧ okl_Laws_store_3 a (N + 1) (0 + -8) w := fun w => by
    constructor
    · simp only [lp_Laws_store_3, e0, if_true]
    · simp only [okl_Laws_store_3, e0, if_true]
  constructor
  · unfold f_Laws_store
    rw [mq_let_e, hN, s1.1, s2.1, s3.1, s4.1, (s5 _).1]
  · unfold ok_Laws_store
    rw [hN]
    exact ⟨s1.2 (s2.2 (s3.2 (s4.2 (s5 _).2))), trivial⟩
theorem fd_4 (a1 a2 a3 a4 a5 : Int32) (g : Nat → Int32) (z : Nat) : fd_t a1 a2 a3 a4 a5 g z 20 =
  up (up (up (up (up (up (up (up (up (up (up (up (up (up (up (up (up (up (up (up g (z + 0) ((a1 >>> (24 &&& 31)) &&& 255)) (z + 1) ((a1 >>> (16 &&& 31)) &&& 255)) (z + 2) ((a1 >>> (8 &&& 31)) &&& 255)) (z + 3) ((a1 >>> (0 &&& 31)) &&& 255)) (z + 4) ((a2 >>> (24 &&& 31)) &&& 255)) (z + 5) ((a2 >>> (16 &&& 31)) &&& 255)) (z + 6) ((a2 >>> (8 &&& 31)) &&& 255)) (z + 7) ((a2 >>> (0 &&& 31)) &&& 255)) (z + 8) ((a3 >>> (24 &&& 31)) &&& 255)) (z + 9) ((a3 >>> (16 &&& 31)) &&& 255)) (z + 10) ((a3 >>> (8 &&& 31)) &&& 255)) (z + 11) ((a3 >>> (0 &&& 31)) &&& 255)) (z + 12) ((a4 >>> (24 &&& 31)) &&& 255)) (z + 13) ((a4 >>> (16 &&& 31)) &&& 255)) (z + 14) ((a4 >>> (8 &&& 31)) &&& 255)) (z + 15) ((a4 >>> (0 &&& 31)) &&& 255)) (z + 16) ((a5 >>> (24 &&& 31)) &&& 255)) (z + 17) ((a5 >>> (16 &&& 31)) &&& 255)) (z + 18) ((a5 >>> (8 &&& 31)) &&& 255)) (z + 19) ((a5 >>> (0 &&& 31)) &&& 255) := rfl
theorem op_feed (a1 a2 a3 a4 a5 : Int32) (s : mS) (h_tape : J_tape s) : ok_G_feed a1 a2 a3 a4 a5 s ∧ ok_M_feed a1 a2 a3 a4 a5 (f_G_feed a1 a2 a3 a4 a5 s).2 ∧ (f_G_feed a1 a2 a3 a4 a5 s).1 = (f_M_feed a1 a2 a3 a4 a5 (f_G_feed a1 a2 a3 a4 a5 s).2).1 ∧ J_tape (f_M_feed a1 a2 a3 a4 a5 (f_G_feed a1 a2 a3 a4 a5 s).2).2 := by
  have k := h_tape
  unfold J_tape at k
  obtain ⟨k1, k2, k3, k4, k5, k6⟩ := k
  have hz : gI s 116 80 = Int32.ofNat (ix (gI s 116 80)) := (ofNat_ix k3).symm
  have hz6 : ix (gI s 116 80) ≤ 600 := by
    have : ix (gI s 116 80) < 601 := ix_lt (by decide) k3 (by
      have : Int32.ofNat 601 = 601 := rfl
      grind)
    omega
  generalize ix (gI s 116 80) = z at *
  by_cases c : z + 20 ≤ 600
  rotate_left
  · have q : ¬ Int32.ofNat z + 20 ≤ 600 := by
      rw [show (20 : Int32) = Int32.ofNat 20 from rfl, ofNat_add']
      intro h
      have h' : Int32.ofNat (z + 20) ≤ Int32.ofNat 600 := h
      rw [ofNat_le (by omega) (by omega)] at h'
      omega
    have eG : f_G_feed a1 a2 a3 a4 a5 s = (-1, s) := by
      simp only [f_G_feed, k2, hz, q, if_false]
    have oG : ok_G_feed a1 a2 a3 a4 a5 s := by
      simp only [ok_G_feed, k2, hz, q, if_false]
    rw [eG]
    refine ⟨oG, ?_, ?_, ?_⟩ <;> simp only [f_M_feed, ok_M_feed, hz, q, if_false]
    exact h_tape
  have q : Int32.ofNat z + 20 ≤ 600 := by
    rw [show (20 : Int32) = Int32.ofNat 20 from rfl, ofNat_add']
    exact (ofNat_le (b := 600) (by omega) (by omega)).mpr c
  have hS : s = fS s (gI s 37) z := by
    unfold fS
    rw [sA_id, ← hz, ← k2, sI_id]
  have s1 := G_store s (gI s 37) (z := z) (by omega) a1
  rw [← hS] at s1
  have s2 := G_store s (up (up (up (up (gI s 37) z ((a1 >>> (24 &&& 31)) &&& 255)) (z + 1) ((a1 >>> (16 &&& 31)) &&& 255)) (z + 2) ((a1 >>> (8 &&& 31)) &&& 255)) (z + 3) ((a1 >>> (0 &&& 31)) &&& 255)) (z := z + 4) (by omega) a2
  have s3 := G_store s (up (up (up (up (up (up (up (up (gI s 37) z ((a1 >>> (24 &&& 31)) &&& 255)) (z + 1) ((a1 >>> (16 &&& 31)) &&& 255)) (z + 2) ((a1 >>> (8 &&& 31)) &&& 255)) (z + 3) ((a1 >>> (0 &&& 31)) &&& 255)) (z + 4) ((a2 >>> (24 &&& 31)) &&& 255)) (z + 4 + 1) ((a2 >>> (16 &&& 31)) &&& 255)) (z + 4 + 2) ((a2 >>> (8 &&& 31)) &&& 255)) (z + 4 + 3) ((a2 >>> (0 &&& 31)) &&& 255)) (z := z + 4 + 4) (by omega) a3
  have s4 := G_store s (up (up (up (up (up (up (up (up (up (up (up (up (gI s 37) z ((a1 >>> (24 &&& 31)) &&& 255)) (z + 1) ((a1 >>> (16 &&& 31)) &&& 255)) (z + 2) ((a1 >>> (8 &&& 31)) &&& 255)) (z + 3) ((a1 >>> (0 &&& 31)) &&& 255)) (z + 4) ((a2 >>> (24 &&& 31)) &&& 255)) (z + 4 + 1) ((a2 >>> (16 &&& 31)) &&& 255)) (z + 4 + 2) ((a2 >>> (8 &&& 31)) &&& 255)) (z + 4 + 3) ((a2 >>> (0 &&& 31)) &&& 255)) (z + 4 + 4) ((a3 >>> (24 &&& 31)) &&& 255)) (z + 4 + 4 + 1) ((a3 >>> (16 &&& 31)) &&& 255)) (z + 4 + 4 + 2) ((a3 >>> (8 &&& 31)) &&& 255)) (z + 4 + 4 + 3) ((a3 >>> (0 &&& 31)) &&& 255)) (z := z + 4 + 4 + 4) (by omega) a4
  have s5 := G_store s (up (up (up (up (up (up (up (up (up (up (up (up (up (up (up (up (gI s 37) z ((a1 >>> (24 &&& 31)) &&& 255)) (z + 1) ((a1 >>> (16 &&& 31)) &&& 255)) (z + 2) ((a1 >>> (8 &&& 31)) &&& 255)) (z + 3) ((a1 >>> (0 &&& 31)) &&& 255)) (z + 4) ((a2 >>> (24 &&& 31)) &&& 255)) (z + 4 + 1) ((a2 >>> (16 &&& 31)) &&& 255)) (z + 4 + 2) ((a2 >>> (8 &&& 31)) &&& 255)) (z + 4 + 3) ((a2 >>> (0 &&& 31)) &&& 255)) (z + 4 + 4) ((a3 >>> (24 &&& 31)) &&& 255)) (z + 4 + 4 + 1) ((a3 >>> (16 &&& 31)) &&& 255)) (z + 4 + 4 + 2) ((a3 >>> (8 &&& 31)) &&& 255)) (z + 4 + 4 + 3) ((a3 >>> (0 &&& 31)) &&& 255)) (z + 4 + 4 + 4) ((a4 >>> (24 &&& 31)) &&& 255)) (z + 4 + 4 + 4 + 1) ((a4 >>> (16 &&& 31)) &&& 255)) (z + 4 + 4 + 4 + 2) ((a4 >>> (8 &&& 31)) &&& 255)) (z + 4 + 4 + 4 + 3) ((a4 >>> (0 &&& 31)) &&& 255)) (z := z + 4 + 4 + 4 + 4) (by omega) a5
  have eG : f_G_feed a1 a2 a3 a4 a5 s = (Int32.ofNat (z + 20), fS s (fd_t a1 a2 a3 a4 a5 (gI s 37) z 20) (z + 20)) := by
    simp only [f_G_feed, k2, hz, q, if_true, mq_let_e, s1.1, s2.1, s3.1, s4.1, s5.1]
    have e6 : ∀ g y, gI (fS s g y) 36 5 = Int32.ofNat y := fun g y => by
      unfold fS
      simp [gI_sI]
    rw [e6, fd_4]
    rfl
  have oG : ok_G_feed a1 a2 a3 a4 a5 s := by
    simp only [ok_G_feed, k2, hz, q, if_true, mq_letP_e, s1.1, s2.1, s3.1, s4.1, s1.2, s2.2, s3.2, s4.2, s5.2, and_self]
  rw [eG]
  show _ ∧ ok_M_feed a1 a2 a3 a4 a5 (fS s (fd_t a1 a2 a3 a4 a5 (gI s 37) z 20) (z + 20)) ∧ Int32.ofNat (z + 20) = (f_M_feed a1 a2 a3 a4 a5 (fS s (fd_t a1 a2 a3 a4 a5 (gI s 37) z 20) (z + 20))).1 ∧ J_tape (f_M_feed a1 a2 a3 a4 a5 (fS s (fd_t a1 a2 a3 a4 a5 (gI s 37) z 20) (z + 20))).2
  have c80 : gI (fS s (fd_t a1 a2 a3 a4 a5 (gI s 37) z 20) (z + 20)) 116 80 = Int32.ofNat z := by
    unfold fS
    simp [gI_sI, gI_sA, hz]
  have c167 : gI (fS s (fd_t a1 a2 a3 a4 a5 (gI s 37) z 20) (z + 20)) 167 = gI s 167 := by
    unfold fS
    simp [fI_sI, fI_sA]
  have M := M_feed a1 a2 a3 a4 a5 c80 c
  rw [c167] at M
  have eM : f_M_feed a1 a2 a3 a4 a5 (fS s (fd_t a1 a2 a3 a4 a5 (gI s 37) z 20) (z + 20)) = (Int32.ofNat (z + 20), sI (sA (fS s (fd_t a1 a2 a3 a4 a5 (gI s 37) z 20) (z + 20)) 167 (fd_t a1 a2 a3 a4 a5 (gI s 167) z 20)) 116 80 (Int32.ofNat (z + 20))) := by
    simp only [f_M_feed, c80, q, if_true, mq_let_e, M.1, gI_sI, and_self]
  rw [eM]
  refine ⟨oG, ?_, rfl, ?_⟩
  · simp only [ok_M_feed, c80, q, if_true, mq_letP_e, M.2, and_self]
  · unfold J_tape fS
    simp only [fI_sI, fI_sA, gI_sI, gI_sA, Nat.reduceEqDiff, and_false, false_and, and_self, true_and, and_true, reduceIte]
    refine ⟨by rw [k1], (ofNat_le (a := 0) (by omega) (by omega)).mpr (by omega), (ofNat_le (b := 600) (by omega) (by omega)).mpr c, k5, k6⟩
