/-! LOOK, OF, FEED. -/
def cb_n (s : mS) : Nat → Nat
  | 0 => 0
  | b + 1 => cb_n s b + if gI s 126 b = -1 then 0 else 1
theorem cb_le (s : mS) (b : Nat) : cb_n s b ≤ b := by
  induction b with
  | zero => exact Nat.le_refl _
  | succ b ih =>
    simp only [cb_n]
    split <;> omega
theorem ofNat64_succ {k : Nat} (h : k < 90000) : Int32.toInt64 (Int32.ofNat k) + 1 = Int32.toInt64 (Int32.ofNat (k + 1)) := by
  apply Int64.toInt_inj.mp
  rw [Int64.toInt_add, Int32.toInt_toInt64, Int32.toInt_toInt64, toInt_ofNat (by omega), toInt_ofNat (by omega), show (1 : Int64).toInt = 1 from rfl, Int.bmod_eq_of_le] <;> omega
theorem G_burning {s : mS} (h_bench : J_bench s) : f_Works_burning s = Int32.ofNat (cb_n s 6) ∧ ok_Works_burning s := by
  have b := h_bench
  unfold J_bench at b
  have A := lp_upN (L := fun n v a => ((lp_Works_burning_4 s n a v).2, (lp_Works_burning_4 s n a v).1)) (OK := fun n v a => okl_Works_burning_4 s n a v) (fun i a => a = Int32.ofNat (cb_n s i)) 6 (by omega)
    (fun n i a hi hp => by
      subst hp
      have e1 : ¬ (6 : Int32) ≤ Int32.ofNat i := fl_lit (a := 6) rfl (by omega) (by omega) hi
      have e2 : ix (Int32.ofNat i) = i := ix_ofNat (by omega)
      have e3 : Int32.ofNat i + 1 = Int32.ofNat (i + 1) := ofNat_succ i
      have b1 : mm_inb (Int32.ofNat i) 6 = true := inb_ofNat (by decide) hi
      have e4 := b.2.2.2.1 i hi
      have e5 := b.2.2.2.2.1 i hi
      by_cases c : gI s 126 i = -1
      · rw [if_pos c] at e4
        have e6 : gI s 8 i ≤ 0 := by rw [e4]; decide
        have e7 : cb_n s (i + 1) = cb_n s i := by simp only [cb_n, if_pos c, Nat.add_zero]
        refine ⟨Int32.ofNat (cb_n s i), ?_, ?_, by rw [e7]⟩
        · simp only [lp_Works_burning_4, e1, if_false, e2, e6, if_true, e3]
        · intro q
          simp only [okl_Works_burning_4, e1, if_false, e2, e6, if_true, e3, b1, true_and]
          exact q
      · rw [if_neg c] at e4
        have e6 : ¬ gI s 8 i ≤ 0 := by grind
        have e7 : cb_n s (i + 1) = cb_n s i + 1 := by simp only [cb_n, if_neg c]
        refine ⟨Int32.ofNat (cb_n s i) + 1, ?_, ?_, by rw [e7, ofNat_succ]⟩
        · simp only [lp_Works_burning_4, e1, if_false, e2, e6, e3]
        · intro q
          simp only [okl_Works_burning_4, e1, if_false, e2, e6, e3, b1, true_and]
          exact q)
    (fun n a _ => by
      have e1 : (6 : Int32) ≤ Int32.ofNat 6 := by decide
      constructor
      · simp only [lp_Works_burning_4, e1, if_true]
      · simp only [okl_Works_burning_4, e1, if_true]) 0 0 (by omega) rfl
  obtain ⟨a, A1, A2, A3⟩ := A
  subst A3
  have h5 := congrArg Prod.snd A1
  have h5 : (lp_Works_burning_4 s mm_N 0 0).1 = Int32.ofNat (cb_n s 6) := h5
  constructor
  · unfold f_Works_burning
    simp only [mq_let_e, h5]
  · unfold ok_Works_burning
    exact ⟨A2, trivial⟩
theorem M_burning {s : mS} (h_bench : J_bench s) : (lp_M_look_165 s mm_N 0 0).1 = Int32.toInt64 (Int32.ofNat (cb_n s 6)) ∧ okl_M_look_165 s mm_N 0 0 := by
  obtain ⟨B, hB, hB6⟩ := bench_B h_bench
  have A := lp_upN (L := fun n v a => ((lp_M_look_165 s n a v).2, (lp_M_look_165 s n a v).1)) (OK := fun n v a => okl_M_look_165 s n a v) (fun i a => a = Int32.toInt64 (Int32.ofNat (cb_n s i))) B (by omega)
    (fun n i a hi hp => by
      subst hp
      have e1 := fl_lit hB (by omega) (by omega) hi
      have e2 : ix (Int32.ofNat i) = i := ix_ofNat (by omega)
      have e3 : Int32.ofNat i + 1 = Int32.ofNat (i + 1) := ofNat_succ i
      have b1 : mm_inb (Int32.ofNat i) 6 = true := inb_ofNat (by decide) (by omega)
      have hle := cb_le s i
      by_cases c : gI s 126 i = -1
      · have e7 : cb_n s (i + 1) = cb_n s i := by simp only [cb_n, if_pos c, Nat.add_zero]
        refine ⟨Int32.toInt64 (Int32.ofNat (cb_n s i)), ?_, ?_, by rw [e7]⟩
        · simp only [lp_M_look_165, e1, if_false, e2, c, if_true, e3, Int64.add_zero]
        · intro q
          simp only [okl_M_look_165, e1, if_false, e2, c, if_true, e3, b1, true_and, Int64.add_zero]
          exact q
      · have e7 : cb_n s (i + 1) = cb_n s i + 1 := by simp only [cb_n, if_neg c]
        refine ⟨Int32.toInt64 (Int32.ofNat (cb_n s i)) + 1, ?_, ?_, by rw [e7, ofNat64_succ (by omega)]⟩
        · simp only [lp_M_look_165, e1, if_false, e2, c, e3]
        · intro q
          simp only [okl_M_look_165, e1, if_false, e2, c, e3, b1, true_and]
          exact q)
    (fun n a _ => by
      have e1 := fl_lit' hB
      constructor
      · simp only [lp_M_look_165, e1, if_true]
      · simp only [okl_M_look_165, e1, if_true]) 0 0 (by omega) rfl
  obtain ⟨a, A1, A2, A3⟩ := A
  subst A3
  have hc : ∀ d, B + d ≤ 6 → cb_n s (B + d) = cb_n s B := by
    intro d
    induction d with
    | zero => intro _; rfl
    | succ d ih =>
      intro hd
      have := bench_6 h_bench hB hB6 (j := B + d) (by omega) (by omega)
      show cb_n s (B + d) + (if gI s 126 (B + d) = -1 then 0 else 1) = _
      rw [if_pos this, ih (by omega), Nat.add_zero]
  have h5 := congrArg Prod.snd A1
  have h5 : (lp_M_look_165 s mm_N 0 0).1 = Int32.toInt64 (Int32.ofNat (cb_n s B)) := h5
  have := hc (6 - B) (by omega)
  rw [show B + (6 - B) = 6 by omega] at this
  rw [this]
  exact ⟨h5, A2⟩
theorem op_look (a1 : Int32) (s : mS) (h_gen : J_gen s) (h_level : J_level s) (h_yard : J_yard s) (h_money : J_money s) (h_things : J_things s) (h_net : J_net s) (h_bench : J_bench s) : ok_G_look a1 s ∧ ok_M_look a1 s ∧ f_G_look a1 s = f_M_look a1 s := by
  have G := G_burning h_bench
  have M := M_burning h_bench
  have k1 := h_gen
  unfold J_gen at k1
  have k2 := h_level
  unfold J_level at k2
  have k3 := h_yard
  unfold J_yard at k3
  have k4 := h_money
  unfold J_money at k4
  have k5 : gI s 12 12 = gI s 116 8 := by
    unfold J_things at h_things
    exact h_things.2.2.2.2.2.2.2.2.2.2.1
  have k6 : gI s 25 10 = gI s 116 7 := by
    unfold J_net at h_net
    exact h_net.2.2.2.2.1
  refine ⟨?_, ?_, ?_⟩
  · unfold ok_G_look
    simp only [G.2, mq_letP_e, and_true, ite_self]
  · unfold ok_M_look
    simp only [M.2, mq_letP_e, and_true, ite_self]
  · unfold f_G_look f_M_look
    simp only [mq_let_e, G.1, M.1, k1.1, k1.2.2.2.1, k1.2.2.2.2.1, k1.2.2.2.2.2.1, k1.2.2.2.2.2.2.2.2, k2.2.1, k2.2.2.2.2.2.1, k2.2.2.2.2.2.2, k3.1, k3.2.1, k4.1, k4.2.1, k4.2.2, k5, k6]
theorem op_of (a1 a2 : Int32) (s : mS) (h_sky : J_sky s) (h_things : J_things s) (h_gen : J_gen s) : ok_G_of a1 a2 s ∧ ok_M_of a1 a2 s ∧ f_G_of a1 a2 s = f_M_of a1 a2 s := by
  have kt := h_things
  unfold J_things at kt
  obtain ⟨t1, t2, t3, t4, t5, t6, t7, t8, t9, t10, t11, t12, t13, t14, t15, t16, t17⟩ := kt
  have kg := h_gen
  unfold J_gen at kg
  have ha : gI s 116 1 ≤ 10000 := by have := kg.2.2.1; grind
  by_cases c0 : 0 ≤ a1 ∧ a1 < gI s 12 12 ∧ a1 < 40
  rotate_left
  · have m0 : ¬ (0 ≤ a1 ∧ a1 ≤ gI s 116 8 - 1) := by grind
    refine ⟨?_, ?_, ?_⟩ <;> simp only [f_G_of, f_M_of, ok_G_of, ok_M_of, mq_let_e, mq_letP_e, z_tha, z_thing, o_thing, ite_not, c0, m0, if_false, true_and]
  have m0 : 0 ≤ a1 ∧ a1 ≤ gI s 116 8 - 1 := by grind
  have i40 : mm_inb a1 40 = true := inb_40 c0.1 c0.2.2
  have e1 : Int32.ofNat (ix a1) = a1 := ofNat_ix c0.1
  have W := want_eq h_sky h_things (t := ix a1) (by rw [e1, ← t11]; exact c0.2.1) (ixl_40 c0.1 c0.2.2) kg.2.1 ha
  rw [e1] at W
  have o := M_wants_ok (s := s) i40 kg.2.1 ha
  refine ⟨?_, ?_, ?_⟩
  · simp only [ok_G_of, mq_letP_e, z_tha, ite_not, c0, and_self, if_true, kg.1, W.2, i40, true_and, and_true, ite_self]
  · simp only [ok_M_of, mq_letP_e, z_thing, o_thing, ite_not, m0, and_self, if_true, o, i40, true_and, and_true, ite_self]
  · simp only [f_G_of, f_M_of, mq_let_e, z_tha, z_thing, ite_not, c0, m0, and_self, if_true, kg.1, W.1, t9, t8, t7, t10]
/-! feed -/
theorem byte_bv (x : BitVec 32) (n : Nat) (hn : n ≤ 24) : (x >>> n) &&& 255#32 = (x.sshiftRight n) &&& 255#32 := by
  apply BitVec.eq_of_getLsbD_eq
  intro i hi
  simp only [BitVec.getLsbD_and, BitVec.getLsbD_ushiftRight, BitVec.getLsbD_sshiftRight]
  by_cases h : i < 8
  · have h1 : n + i < 32 := by omega
    have h2 : ¬ 32 ≤ i := by omega
    simp [h1, h2]
  · have h255 : (255#32).getLsbD i = false := by
      have : ∀ i, i < 32 → ¬ i < 8 → (255#32).getLsbD i = false := by decide
      exact this i hi h
    rw [h255, Bool.and_false, Bool.and_false]
theorem byte_eq (x k : Int32) (hk : k = 24 ∨ k = 16 ∨ k = 8 ∨ k = 0) : ((Int32.toUInt32 x >>> (Int32.toUInt32 k &&& Int32.toUInt32 31)).toInt32 &&& 255) = ((x >>> (k &&& 31)) &&& 255) := by
  apply Int32.toBitVec_inj.mp
  rcases hk with rfl | rfl | rfl | rfl
  · exact byte_bv x.toBitVec 24 (by decide)
  · exact byte_bv x.toBitVec 16 (by decide)
  · exact byte_bv x.toBitVec 8 (by decide)
  · exact byte_bv x.toBitVec 0 (by decide)
