/-! FIND: both alike. -/
def ey_st : Option (Nat × Nat × Nat) → Int32 → Int32 → Int32 → Prop
  | none, a, _, _ => a = -1
  | some x, a, b, v => a = Int32.ofNat x.1 ∧ b = Int32.ofNat x.2.1 ∧ v = Int32.ofNat x.2.2 ∧ x.1 ≤ 16
def ey_F (s : mS) (N k m : Nat) : Option (Nat × Nat × Nat) := ey_P (ey_g (ey_pn s) k (ey_z s) (ey_bu s) (fun _ => ey_1) (2 * m)) N
def ey_found (s : mS) : Prop := ∀ k, k < 16 → ey_st (ey_S (ey_F s (ix (gI s 116 7)) k) (2 ^ (ix (gI s 116 7) - 1))) (gI s 116 100) (gI s 116 101) (gI s 175 k)
def J_found (s : mS) : Prop := gI s 116 102 = 0 ∨ ey_found s
theorem ey_same {s t : mS} (h1 : gI t 127 = gI s 127) (h2 : gI t 174 = gI s 174) (h3 : gI t 116 7 = gI s 116 7) : ey_pn t = ey_pn s ∧ ey_z t = ey_z s ∧ ey_bu t = ey_bu s := by
  refine ⟨?_, ?_, ?_⟩
  · funext j
    unfold ey_pn
    rw [h1, h3]
  · funext j
    unfold ey_z
    rw [h2]
  · funext j
    unfold ey_bu
    rw [h2]
theorem jf_found {A : List Nat} {F : List (Nat × Nat)} {a : Bool} {s t : mS} (h : fp A F a s t) (hq : fpq A F a [127, 174, 175] [(116, 7), (116, 100), (116, 101), (116, 102)] = true) (hJ : J_found s) : J_found t := by
  have e := ey_same (s := s) (t := t) (fqA h hq (by decide : 127 ∈ [127, 174, 175])).1 (fqA h hq (by decide : 174 ∈ [127, 174, 175])).1 (fqF h hq (by decide : (116, 7) ∈ [(116, 7), (116, 100), (116, 101), (116, 102)])).1
  unfold J_found ey_found ey_F at hJ ⊢
  rw [e.1, e.2.1, e.2.2]
  simp only [(fqA h hq (by decide : 175 ∈ [127, 174, 175])).1, (fqF h hq (by decide : (116, 7) ∈ [(116, 7), (116, 100), (116, 101), (116, 102)])).1, (fqF h hq (by decide : (116, 100) ∈ [(116, 7), (116, 100), (116, 101), (116, 102)])).1, (fqF h hq (by decide : (116, 101) ∈ [(116, 7), (116, 100), (116, 101), (116, 102)])).1, (fqF h hq (by decide : (116, 102) ∈ [(116, 7), (116, 100), (116, 101), (116, 102)])).1]
  exact hJ
theorem M_zero (a1 : Int32) (s : mS) : lp_M_searches_95 a1 mm_N 0 s = (Int32.ofNat 16, sA s 175 (fillA 16 (fun _ => 0) (gI s 175))) ∧ okl_M_searches_95 a1 mm_N 0 s :=
  lp_map (L := lp_M_searches_95 a1) (OK := okl_M_searches_95 a1) 175 16 (by omega) s (fun _ => 0)
    (fun n i g hi => by
      have e1 : ¬ (16 : Int32) ≤ Int32.ofNat i := fl_lit (a := 16) rfl (by omega) (by omega) hi
      have e2 : ix (Int32.ofNat i) = i := ix_ofNat (by omega)
      have e3 : Int32.ofNat i + 1 = Int32.ofNat (i + 1) := ofNat_succ i
      have b1 : mm_inb (Int32.ofNat i) 16 = true := inb_ofNat (by decide) (by omega)
      constructor
      · simp only [lp_M_searches_95, e1, if_false, e2, e3, sI_sA]
      · intro q
        simp only [okl_M_searches_95, e1, if_false, e2, e3, sI_sA, b1, true_and]
        exact q)
    (fun n g => by
      have e1 : (16 : Int32) ≤ Int32.ofNat 16 := by decide
      constructor
      · simp only [lp_M_searches_95, e1, if_true]
      · simp only [okl_M_searches_95, e1, if_true])
def ey_add (S : Nat) (g : Nat → Int32) (k : Nat) : Int32 := g k + ((Int32.ofNat S >>> (Int32.ofNat k &&& 31)) &&& 1)
theorem M_adds (S : Nat) (s : mS) : lp_M_searches_126 (Int32.ofNat S) mm_N 0 s = (Int32.ofNat 16, sA s 175 (fillA 16 (ey_add S (gI s 175)) (gI s 175))) ∧ okl_M_searches_126 (Int32.ofNat S) mm_N 0 s := by
  have A := lp_upN (L := lp_M_searches_126 (Int32.ofNat S)) (OK := okl_M_searches_126 (Int32.ofNat S)) (fun i t => t = sA s 175 (fillA i (ey_add S (gI s 175)) (gI s 175))) 16 (by omega)
    (fun n i t hi hP => by
      have e1 : ¬ (16 : Int32) ≤ Int32.ofNat i := fl_lit (a := 16) rfl (by omega) (by omega) hi
      have e2 : ix (Int32.ofNat i) = i := ix_ofNat (by omega)
      have e3 : Int32.ofNat i + 1 = Int32.ofNat (i + 1) := ofNat_succ i
      have b1 : mm_inb (Int32.ofNat i) 16 = true := inb_ofNat (by decide) (by omega)
      have r : gI t 175 i + ((Int32.ofNat S >>> (Int32.ofNat i &&& 31)) &&& 1) = ey_add S (gI s 175) i := by
        rw [hP, gI_sA, if_pos rfl, fillA_ge (Nat.le_refl i)]
        rfl
      refine ⟨sI t 175 i (ey_add S (gI s 175) i), ?_, ?_, ?_⟩
      · simp only [lp_M_searches_126, e1, if_false, e2, e3, r]
      · intro q
        simp only [okl_M_searches_126, e1, if_false, e2, e3, r, b1, true_and]
        exact q
      · rw [hP, sI_sA, up_fill])
    (fun n t hP => by
      have e1 : (16 : Int32) ≤ Int32.ofNat 16 := by decide
      constructor
      · simp only [lp_M_searches_126, e1, if_true]
      · simp only [okl_M_searches_126, e1, if_true])
    0 s (by omega) (by rw [fillA_0, sA_id])
  obtain ⟨t, A1, A2, A3⟩ := A
  rw [← A3]
  exact ⟨A1, A2⟩
theorem ey_sh1 : ∀ c, c ≤ 16 → (1 : Int32) <<< (Int32.ofNat c &&& 31) = Int32.ofNat (2 ^ c) := by decide
theorem ey_add_eq {S k : Nat} {g : Nat → Int32} {v : Nat} (hS : S < 65536) (hk : k < 16) (hg : g k = Int32.ofNat v) : ey_add S g k = Int32.ofNat (v + if S.testBit k = true then 1 else 0) := by
  unfold ey_add
  rw [ey_bit S k hS hk, hg, Int32.ofNat_add]
  congr 1
  split <;> rfl
theorem M_searches {s : mS} {N : Nat} (hN : gI s 116 7 = Int32.ofNat N) (hN1 : 1 ≤ N) (hN2 : N ≤ 16) (hpa : nt_paOK N (gI s 127)) (hJ : J_found s) : ok_M_searches s ∧ fp [175] [(116, 100), (116, 101), (116, 102)] false s (f_M_searches s) ∧ ∀ k, k < 16 → ey_st (ey_S (ey_F s N k) (2 ^ (N - 1))) (gI (f_M_searches s) 116 100) (gI (f_M_searches s) 116 101) (gI (f_M_searches s) 175 k) := by
  have iN : ix (gI s 116 7) = N := by rw [hN, ix_ofNat (by omega)]
  have pwN : 2 ^ N = 2 * 2 ^ (N - 1) := by
    obtain ⟨n, rfl⟩ : ∃ n, N = n + 1 := ⟨N - 1, by omega⟩
    rw [Nat.pow_succ, Nat.add_sub_cancel]
    omega
  have pw16 : 2 ^ N ≤ 65536 := by
    have : 2 ^ N ≤ 2 ^ 16 := Nat.pow_le_pow_right (by omega) hN2
    have : (2 : Nat) ^ 16 = 65536 := by decide
    omega
  by_cases c0 : gI s 116 102 = 0
  · have base : fp [175] [(116, 100), (116, 101), (116, 102)] false s (sI (sI (sI s 116 102 1) 116 100 (-1)) 116 101 0) := fp_IF (fp_IF (fp_IF fp_r (by decide)) (by decide)) (by decide)
    have b100 : gI (sI (sI (sI s 116 102 1) 116 100 (-1)) 116 101 0) 116 100 = -1 := by
      rw [gI_sI, if_neg (fun q => absurd q.2 (by decide)), gI_sI, if_pos ⟨rfl, rfl⟩]
    have A := lp_it (L := fun n (v : Int32 × mS) => lp_M_searches_25 n v.1 v.2) (OK := fun n v => okl_M_searches_25 n v.1 v.2)
      (fun m v => v.1 = Int32.ofNat (2 * m) ∧ fp [175] [(116, 100), (116, 101), (116, 102)] false s v.2 ∧ ∀ k, k < 16 → ey_st (ey_S (ey_F s N k) m) (gI v.2 116 100) (gI v.2 116 101) (gI v.2 175 k))
      (fun r => fp [175] [(116, 100), (116, 101), (116, 102)] false s r.2 ∧ ∀ k, k < 16 → ey_st (ey_S (ey_F s N k) (2 ^ (N - 1))) (gI r.2 116 100) (gI r.2 116 101) (gI r.2 175 k)) (2 ^ (N - 1))
      (fun n m v hm hP => by
        obtain ⟨v1, st⟩ := v
        obtain ⟨h1, hf, hk⟩ := hP
        have h1 : v1 = Int32.ofNat (2 * m) := h1
        subst h1
        have hf : fp [175] [(116, 100), (116, 101), (116, 102)] false s st := hf
        have hk : ∀ k, k < 16 → ey_st (ey_S (ey_F s N k) m) (gI st 116 100) (gI st 116 101) (gI st 175 k) := hk
        have hS : 2 * m < 65536 := by omega
        have hSN : 2 * m < 2 ^ N := by omega
        have t7 : gI st 116 7 = Int32.ofNat N := by rw [(fpF hf (by decide)).1, hN]
        have e0 : ¬ (1 : Int32) <<< (gI st 116 7 &&& 31) ≤ Int32.ofNat (2 * m) := by
          rw [t7, ey_sh1 N hN2, ofNat_le (by omega) (by omega)]
          omega
        have e3 : Int32.ofNat (2 * m) + 2 = Int32.ofNat (2 * (m + 1)) := by
          rw [show 2 * (m + 1) = 2 * m + 2 by omega, Int32.ofNat_add]
          rfl
        have BI := M_bits (2 * m) hS st
        have pcN : ey_pc (2 * m) 16 = ey_pc (2 * m) N := by
          have := ey_pc_hi (2 * m) N hSN (16 - N)
          rw [show N + (16 - N) = 16 by omega] at this
          exact this
        have EX := M_explains (s := st) (S := 2 * m) t7 hN1 hN2 (by rw [(fpA hf (by decide)).1]; exact hpa) hS
        have sm := ey_same (s := s) (t := st) (fpA hf (by decide)).1 (fpA hf (by decide)).1 (fpF hf (by decide)).1
        rw [sm.1, sm.2.1, sm.2.2] at EX
        rw [pcN] at BI
        have pcl := ey_pc_le (2 * m) N
        have FS : ∀ k, ey_F s N k m = if ey_X (ey_pn s) (ey_z s) (ey_bu s) (2 * m) N then some (ey_pc (2 * m) N, 1, if k < N ∧ (2 * m).testBit k = true then 1 else 0) else none := fun k => ey_set (ey_pn s) k (ey_z s) (ey_bu s) (2 * m) N
        have bk : ∀ k, (if k < N ∧ (2 * m).testBit k = true then 1 else 0) = if (2 * m).testBit k = true then 1 else 0 := fun k => by
          by_cases q : (2 * m).testBit k = true
          · have kN : k < N := by
              apply Classical.byContradiction
              intro r
              have : (2 * m).testBit k = false := Nat.testBit_lt_two_pow (Nat.lt_of_lt_of_le hSN (Nat.pow_le_pow_right (by omega) (by omega)))
              rw [this] at q
              exact absurd q (by decide)
            rw [if_pos q, if_pos ⟨kN, q⟩]
          · rw [if_neg q, if_neg (fun r => q r.2)]
        generalize hn : ey_pc (2 * m) N = pc at BI pcl FS
        have skip : (∀ k, k < 16 → ey_a (ey_S (ey_F s N k) m) (ey_F s N k m) = ey_S (ey_F s N k) m) → ∀ k, k < 16 → ey_st (ey_S (ey_F s N k) (m + 1)) (gI st 116 100) (gI st 116 101) (gI st 175 k) := fun q k h => by
          show ey_st (ey_a (ey_S (ey_F s N k) m) (ey_F s N k m)) _ _ _
          rw [q k h]
          exact hk k h
        -- a new least
        have fresh : ey_X (ey_pn s) (ey_z s) (ey_bu s) (2 * m) N = true → (∀ k, k < 16 → ey_a (ey_S (ey_F s N k) m) (ey_F s N k m) = ey_F s N k m) → ∃ t, (lp_M_searches_126 (Int32.ofNat (2 * m)) mm_N 0 (sI (lp_M_searches_95 (Int32.ofNat (2 * m)) mm_N 0 (sI (sI st 116 100 (Int32.ofNat pc)) 116 101 0)).2 116 101 (gI (lp_M_searches_95 (Int32.ofNat (2 * m)) mm_N 0 (sI (sI st 116 100 (Int32.ofNat pc)) 116 101 0)).2 116 101 + 1))).2 = t ∧ okl_M_searches_95 (Int32.ofNat (2 * m)) mm_N 0 (sI (sI st 116 100 (Int32.ofNat pc)) 116 101 0) ∧ okl_M_searches_126 (Int32.ofNat (2 * m)) mm_N 0 (sI (lp_M_searches_95 (Int32.ofNat (2 * m)) mm_N 0 (sI (sI st 116 100 (Int32.ofNat pc)) 116 101 0)).2 116 101 (gI (lp_M_searches_95 (Int32.ofNat (2 * m)) mm_N 0 (sI (sI st 116 100 (Int32.ofNat pc)) 116 101 0)).2 116 101 + 1)) ∧ fp [175] [(116, 100), (116, 101), (116, 102)] false s t ∧ ∀ k, k < 16 → ey_st (ey_S (ey_F s N k) (m + 1)) (gI t 116 100) (gI t 116 101) (gI t 175 k) := fun hx hq => by
          obtain ⟨z1, z2⟩ := M_zero (Int32.ofNat (2 * m)) (sI (sI st 116 100 (Int32.ofNat pc)) 116 101 0)
          have z1' : (lp_M_searches_95 (Int32.ofNat (2 * m)) mm_N 0 (sI (sI st 116 100 (Int32.ofNat pc)) 116 101 0)).2 = sA (sI (sI st 116 100 (Int32.ofNat pc)) 116 101 0) 175 (fillA 16 (fun _ => 0) (gI (sI (sI st 116 100 (Int32.ofNat pc)) 116 101 0) 175)) := by rw [z1]
          rw [z1']
          have fz : fp [175] [(116, 100), (116, 101), (116, 102)] false s (sA (sI (sI st 116 100 (Int32.ofNat pc)) 116 101 0) 175 (fillA 16 (fun _ => 0) (gI (sI (sI st 116 100 (Int32.ofNat pc)) 116 101 0) 175))) := fp_AA (fp_IF (fp_IF hf (by decide)) (by decide)) (by decide)
          have r101 : gI (sA (sI (sI st 116 100 (Int32.ofNat pc)) 116 101 0) 175 (fillA 16 (fun _ => 0) (gI (sI (sI st 116 100 (Int32.ofNat pc)) 116 101 0) 175))) 116 101 = 0 := by
            rw [gI_sA, if_neg (by decide), gI_sI, if_pos ⟨rfl, rfl⟩]
          have r100 : gI (sA (sI (sI st 116 100 (Int32.ofNat pc)) 116 101 0) 175 (fillA 16 (fun _ => 0) (gI (sI (sI st 116 100 (Int32.ofNat pc)) 116 101 0) 175))) 116 100 = Int32.ofNat pc := by
            rw [gI_sA, if_neg (by decide), gI_sI, if_neg (fun q => absurd q.2 (by decide)), gI_sI, if_pos ⟨rfl, rfl⟩]
          have r175 : ∀ k, k < 16 → gI (sA (sI (sI st 116 100 (Int32.ofNat pc)) 116 101 0) 175 (fillA 16 (fun _ => 0) (gI (sI (sI st 116 100 (Int32.ofNat pc)) 116 101 0) 175))) 175 k = Int32.ofNat 0 := fun k h => by
            rw [gI_sA, if_pos rfl, fillA_lt h]
            rfl
          generalize sA (sI (sI st 116 100 (Int32.ofNat pc)) 116 101 0) 175 (fillA 16 (fun _ => 0) (gI (sI (sI st 116 100 (Int32.ofNat pc)) 116 101 0) 175)) = u at fz r101 r100 r175
          rw [r101]
          obtain ⟨d1, d2⟩ := M_adds (2 * m) (sI u 116 101 (0 + 1))
          refine ⟨_, by rw [d1], z2, d2, fp_AA (fp_IF fz (by decide)) (by decide), fun k h => ?_⟩
          show ey_st (ey_a (ey_S (ey_F s N k) m) (ey_F s N k m)) _ _ _
          rw [hq k h, FS k, hx, if_pos rfl, bk k]
          refine ⟨?_, ?_, ?_, by
            show pc ≤ 16
            omega⟩
          · rw [gI_sA, if_neg (by decide), gI_sI, if_neg (fun q => absurd q.2 (by decide))]
            exact r100
          · rw [gI_sA, if_neg (by decide), gI_sI, if_pos ⟨rfl, rfl⟩]
            rfl
          · rw [gI_sA, if_pos rfl, fillA_lt h, ey_add_eq (v := 0) hS h (by rw [gI_sI, if_neg (fun q => absurd q.1 (by decide))]; exact r175 k h), Nat.zero_add]
        cases hx : ey_X (ey_pn s) (ey_z s) (ey_bu s) (2 * m) N with
        | false =>
          rw [hx] at EX
          have EX1 : f_M_explains (Int32.ofNat (2 * m)) st = 0 := EX.1
          refine ⟨(Int32.ofNat (2 * (m + 1)), st), ?_, ?_, rfl, hf, skip (fun k _ => by
            rw [FS k, hx, if_neg (by decide), ey_a_n])⟩
          · simp only [lp_M_searches_25, mq_let_e, e0, if_false, BI.1, EX1, if_true, e3, ite_self]
          · intro q
            simp only [okl_M_searches_25, mq_letP_e, e0, if_false, BI.1, BI.2, EX1, EX.2, if_true, e3, true_and, ite_self]
            exact q
        | true =>
          rw [hx] at EX
          have EX1 : f_M_explains (Int32.ofNat (2 * m)) st = 1 := EX.1
          have n10 : ¬ (1 : Int32) = 0 := by decide
          by_cases c1 : gI st 116 100 = -1
          · have none_k : ∀ k, k < 16 → ey_S (ey_F s N k) m = none := fun k h => by
              have q := hk k h
              cases e : ey_S (ey_F s N k) m with
              | none => rfl
              | some x =>
                rw [e] at q
                have q1 : gI st 116 100 = Int32.ofNat x.1 := q.1
                have q2 : x.1 ≤ 16 := q.2.2.2
                rw [c1] at q1
                exact absurd q1.symm (ofNat_ne1 (by omega))
            obtain ⟨t, t1, t2, t3, t4, t5⟩ := fresh hx (fun k h => by rw [none_k k h]; rfl)
            refine ⟨(Int32.ofNat (2 * (m + 1)), t), ?_, ?_, rfl, t4, t5⟩
            · simp only [lp_M_searches_25, mq_let_e, e0, if_false, BI.1, EX1, n10, if_pos c1, e3, t1]
            · intro q
              simp only [okl_M_searches_25, mq_letP_e, e0, if_false, BI.1, BI.2, EX1, EX.2, n10, if_pos c1, e3, t1, t2, t3, true_and]
              exact q
          · have some_k : ∃ c, c ≤ 16 ∧ gI st 116 100 = Int32.ofNat c ∧ ∀ k, k < 16 → ∃ w v, ey_S (ey_F s N k) m = some (c, w, v) ∧ gI st 116 101 = Int32.ofNat w ∧ gI st 175 k = Int32.ofNat v := by
              have one : ∀ k, k < 16 → ∃ x, ey_S (ey_F s N k) m = some x ∧ gI st 116 100 = Int32.ofNat x.1 ∧ gI st 116 101 = Int32.ofNat x.2.1 ∧ gI st 175 k = Int32.ofNat x.2.2 ∧ x.1 ≤ 16 := fun k h => by
                have q := hk k h
                cases e : ey_S (ey_F s N k) m with
                | none =>
                  rw [e] at q
                  exact absurd q c1
                | some x =>
                  rw [e] at q
                  exact ⟨x, rfl, q⟩
              obtain ⟨x0, y0, y1, _, _, y4⟩ := one 0 (by omega)
              refine ⟨x0.1, y4, y1, fun k h => ?_⟩
              obtain ⟨x, u0, u1, u2, u3, u4⟩ := one k h
              have ex : x.1 = x0.1 := by
                rw [y1] at u1
                exact ((ofNat_inj (by omega) (by omega)).mp u1).symm
              exact ⟨x.2.1, x.2.2, by rw [u0, ← ex], u2, u3⟩
            obtain ⟨c, c16, cc, ck⟩ := some_k
            have lt : (gI st 116 100 < Int32.ofNat pc) = (c < pc) := by
              rw [cc]
              exact propext (ofNat_lt (by omega) (by omega))
            have le : (gI st 116 100 ≤ Int32.ofNat pc) = (c ≤ pc) := by
              rw [cc]
              exact propext (ofNat_le (by omega) (by omega))
            by_cases q1 : c < pc
            · refine ⟨(Int32.ofNat (2 * (m + 1)), st), ?_, ?_, rfl, hf, skip (fun k h => by
                obtain ⟨w, v, u1, _, _⟩ := ck k h
                rw [u1, FS k, hx, if_pos rfl]
                exact ey_lt q1)⟩
              · simp only [lp_M_searches_25, mq_let_e, e0, if_false, BI.1, if_neg c1, lt, q1, if_true, e3]
              · intro q
                simp only [okl_M_searches_25, mq_letP_e, e0, if_false, BI.1, BI.2, if_neg c1, lt, q1, if_true, e3, true_and]
                exact q
            · by_cases q2 : c ≤ pc
              · obtain ⟨d1, d2⟩ := M_adds (2 * m) (sI st 116 101 (gI st 116 101 + 1))
                have d1' : (lp_M_searches_126 (Int32.ofNat (2 * m)) mm_N 0 (sI st 116 101 (gI st 116 101 + 1))).2 = _ := congrArg Prod.snd d1
                refine ⟨(Int32.ofNat (2 * (m + 1)), sA (sI st 116 101 (gI st 116 101 + 1)) 175 (fillA 16 (ey_add (2 * m) (gI (sI st 116 101 (gI st 116 101 + 1)) 175)) (gI (sI st 116 101 (gI st 116 101 + 1)) 175))), ?_, ?_, rfl, fp_AA (fp_IF hf (by decide)) (by decide), fun k h => ?_⟩
                · simp only [lp_M_searches_25, mq_let_e, e0, if_false, BI.1, EX1, n10, if_neg c1, lt, le, q1, q2, if_true, e3, d1']
                · intro q
                  simp only [okl_M_searches_25, mq_letP_e, e0, if_false, BI.1, BI.2, EX1, EX.2, n10, if_neg c1, lt, le, q1, q2, if_true, e3, d1', d2, true_and]
                  exact q
                · obtain ⟨w, v, u1, u2, u3⟩ := ck k h
                  show ey_st (ey_a (ey_S (ey_F s N k) m) (ey_F s N k m)) _ _ _
                  rw [u1, FS k, hx, if_pos rfl, bk k, ey_eq (x := (c, w, v)) (y := (pc, 1, _)) (show c = pc by omega)]
                  refine ⟨?_, ?_, ?_, c16⟩
                  · show gI (sA _ 175 _) 116 100 = Int32.ofNat c
                    rw [gI_sA, if_neg (by decide), gI_sI, if_neg (fun q => absurd q.2 (by decide))]
                    exact cc
                  · show gI (sA _ 175 _) 116 101 = Int32.ofNat (w + 1)
                    rw [gI_sA, if_neg (by decide), gI_sI, if_pos ⟨rfl, rfl⟩, u2]
                    exact ofNat_succ w
                  · show gI (sA _ 175 _) 175 k = Int32.ofNat (v + _)
                    rw [gI_sA, if_pos rfl, fillA_lt h, ey_add_eq (v := v) hS h (by rw [gI_sI, if_neg (fun q => absurd q.1 (by decide))]; exact u3)]
              · obtain ⟨t, t1, t2, t3, t4, t5⟩ := fresh hx (fun k h => by
                  obtain ⟨w, v, u1, _, _⟩ := ck k h
                  rw [u1, FS k, hx, if_pos rfl]
                  exact ey_gt (show pc < c by omega))
                refine ⟨(Int32.ofNat (2 * (m + 1)), t), ?_, ?_, rfl, t4, t5⟩
                · simp only [lp_M_searches_25, mq_let_e, e0, if_false, BI.1, EX1, n10, if_neg c1, lt, le, q1, q2, e3, t1]
                · intro q
                  simp only [okl_M_searches_25, mq_letP_e, e0, if_false, BI.1, BI.2, EX1, EX.2, n10, if_neg c1, lt, le, q1, q2, e3, t1, t2, t3, true_and]
                  exact q)
      (fun n v hP => by
        obtain ⟨v1, st⟩ := v
        obtain ⟨h1, hf, hk⟩ := hP
        have h1 : v1 = Int32.ofNat (2 * 2 ^ (N - 1)) := h1
        subst h1
        have hf : fp [175] [(116, 100), (116, 101), (116, 102)] false s st := hf
        have t7 : gI st 116 7 = Int32.ofNat N := by rw [(fpF hf (by decide)).1, hN]
        have e0 : (1 : Int32) <<< (gI st 116 7 &&& 31) ≤ Int32.ofNat (2 * 2 ^ (N - 1)) := by
          rw [t7, ey_sh1 N hN2, ← pwN]
          exact Int32.le_refl _
        constructor
        · simp only [lp_M_searches_25, e0, if_true]
          exact ⟨hf, hk⟩
        · simp only [okl_M_searches_25, e0, if_true])
      (2 ^ (N - 1)) 0 mm_N (0, sI (sI (sI s 116 102 1) 116 100 (-1)) 116 101 0) (by omega) (by rw [mm_Ns]; omega) ⟨rfl, base, fun k _ => b100⟩
    obtain ⟨A1, A2⟩ := A
    have ef : f_M_searches s = (lp_M_searches_25 mm_N 0 (sI (sI (sI s 116 102 1) 116 100 (-1)) 116 101 0)).2 := by
      unfold f_M_searches
      rw [if_pos c0, mq_let_e]
    rw [ef]
    refine ⟨?_, A1.1, A1.2⟩
    unfold ok_M_searches
    rw [if_pos c0, mq_letP_e]
    exact ⟨A2, trivial⟩
  · have ef : f_M_searches s = s := by
      unfold f_M_searches
      rw [if_neg c0]
    rw [ef]
    refine ⟨?_, fp_r, ?_⟩
    · unfold ok_M_searches
      rw [if_neg c0]
      trivial
    · have h := hJ.resolve_left c0
      unfold ey_found at h
      rw [iN] at h
      exact h
