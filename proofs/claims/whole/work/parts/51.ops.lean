/-! MORE CALLS WITHOUT LOOPS, by program. -/
theorem op_coin (a1 a2 : Int32) (s : mS) (h_things : J_things s)  : ok_G_coin a1 a2 s ∧ ok_M_coin a1 a2 (f_G_coin a1 a2 s).2 ∧ (f_G_coin a1 a2 s).1 = (f_M_coin a1 a2 (f_G_coin a1 a2 s).2).1 := by
  have k_things := h_things
  unfold J_things at k_things
  try simp only [funext_iff] at k_things
  by_cases c0 : 0 ≤ a1 ∧ a1 < gI s 12 12 ∧ a1 < 40
  rotate_left
  · have m0 : ¬ (0 ≤ a1 ∧ a1 ≤ gI s 116 8 - 1) := by grind
    refine ⟨?_, ?_, ?_⟩ <;> simp only [f_G_coin, f_M_coin, ok_G_coin, ok_M_coin, mq_let_e, mq_letP_e, z_within, z_isIn, z_wcoal, z_mcoal, z_has, z_pipe, z_tha, z_isA, z_node, z_thing, z_house, o_mcoal, o_node, o_thing, o_isA, bit_isIn, ite_not, true_and, and_true, c0, m0, if_true, if_false, not_true_eq_false, not_false_eq_true]
    all_goals first | done | assumption | grind (splits := 20) [gI_sI, inb_3, inb_6, inb_8, inb_16, inb_40, inb_42, bit0, bit1, bit_of, ix_succ, ofNat_ix, ixl_16]
  have m0 : 0 ≤ a1 ∧ a1 ≤ gI s 116 8 - 1 := by grind
  by_cases c1 : gI s 14 (ix a1) = 2
  rotate_left
  · have m1 : ¬ (gI s 133 (ix a1) = 2) := by grind
    refine ⟨?_, ?_, ?_⟩ <;> simp only [f_G_coin, f_M_coin, ok_G_coin, ok_M_coin, mq_let_e, mq_letP_e, z_within, z_isIn, z_wcoal, z_mcoal, z_has, z_pipe, z_tha, z_isA, z_node, z_thing, z_house, o_mcoal, o_node, o_thing, o_isA, bit_isIn, ite_not, true_and, and_true, c0, m0, c1, m1, if_true, if_false, not_true_eq_false, not_false_eq_true]
    all_goals first | done | assumption | grind (splits := 20) [gI_sI, inb_3, inb_6, inb_8, inb_16, inb_40, inb_42, bit0, bit1, bit_of, ix_succ, ofNat_ix, ixl_16]
  have m1 : gI s 133 (ix a1) = 2 := by grind
  by_cases c2 : 1 ≤ a2 ∧ a2 ≤ 99
  rotate_left
  · refine ⟨?_, ?_, ?_⟩ <;> simp only [f_G_coin, f_M_coin, ok_G_coin, ok_M_coin, mq_let_e, mq_letP_e, z_within, z_isIn, z_wcoal, z_mcoal, z_has, z_pipe, z_tha, z_isA, z_node, z_thing, z_house, o_mcoal, o_node, o_thing, o_isA, bit_isIn, ite_not, true_and, and_true, c0, m0, c1, m1, c2, if_true, if_false, not_true_eq_false, not_false_eq_true]
    all_goals first | done | assumption | grind (splits := 20) [gI_sI, inb_3, inb_6, inb_8, inb_16, inb_40, inb_42, bit0, bit1, bit_of, ix_succ, ofNat_ix, ixl_16]
  refine ⟨?_, ?_, ?_⟩ <;> simp only [f_G_coin, f_M_coin, ok_G_coin, ok_M_coin, mq_let_e, mq_letP_e, z_within, z_isIn, z_wcoal, z_mcoal, z_has, z_pipe, z_tha, z_isA, z_node, z_thing, z_house, o_mcoal, o_node, o_thing, o_isA, bit_isIn, ite_not, true_and, and_true, c0, m0, c1, m1, c2, gI_sI, gI_sL, gL_sI, gL_sL, false_and, and_false, and_self, Nat.reduceEqDiff, reduceIte, if_true, if_false, not_true_eq_false, not_false_eq_true]
  all_goals first | done | assumption | (simp [funext_iff, gI_sI, gI_sL, gL_sI, gL_sL] at * <;> and_intros <;> grind (splits := 20) [gI_sI, inb_3, inb_6, inb_8, inb_16, inb_40, inb_42, bit0, bit1, bit_of, ix_succ, ofNat_ix, ixl_16]) | grind (splits := 20) [gI_sI, inb_3, inb_6, inb_8, inb_16, inb_40, inb_42, bit0, bit1, bit_of, ix_succ, ofNat_ix, ixl_16]

theorem op_thing (a1 a2 a3 a4 : Int32) (s : mS) (h_things : J_things s) (h_net : J_net s)  : ok_G_thing a1 a2 a3 a4 s ∧ ok_M_thing a1 a2 a3 a4 (f_G_thing a1 a2 a3 a4 s).2 ∧ (f_G_thing a1 a2 a3 a4 s).1 = (f_M_thing a1 a2 a3 a4 (f_G_thing a1 a2 a3 a4 s).2).1 ∧ J_things (f_M_thing a1 a2 a3 a4 (f_G_thing a1 a2 a3 a4 s).2).2 := by
  have k_things := h_things
  unfold J_things at k_things
  try simp only [funext_iff] at k_things
  have k_net := h_net
  unfold J_net at k_net
  try simp only [funext_iff] at k_net
  by_cases c0 : 0 ≤ a1 ∧ a1 < gI s 25 10 ∧ a1 < 16
  rotate_left
  · have m0 : ¬ (0 ≤ a1 ∧ a1 ≤ gI s 116 7 - 1) := by grind
    refine ⟨?_, ?_, ?_, ?_⟩ <;> simp only [f_G_thing, f_M_thing, ok_G_thing, ok_M_thing, f_Things_put, ok_Things_put, mq_let_e, mq_letP_e, z_within, z_isIn, z_wcoal, z_mcoal, z_has, z_pipe, z_tha, z_isA, z_node, z_thing, z_house, o_mcoal, o_node, o_thing, o_isA, bit_isIn, ite_not, true_and, and_true, c0, m0, if_true, if_false, not_true_eq_false, not_false_eq_true]
    all_goals first | done | assumption | grind (splits := 20) [gI_sI, inb_3, inb_6, inb_8, inb_16, inb_40, inb_42, bit0, bit1, bit_of, ix_succ, ofNat_ix, ixl_16]
  have m0 : 0 ≤ a1 ∧ a1 ≤ gI s 116 7 - 1 := by grind
  by_cases c1 : 0 ≤ a2 ∧ a2 ≤ 3
  rotate_left
  · refine ⟨?_, ?_, ?_, ?_⟩ <;> simp only [f_G_thing, f_M_thing, ok_G_thing, ok_M_thing, f_Things_put, ok_Things_put, mq_let_e, mq_letP_e, z_within, z_isIn, z_wcoal, z_mcoal, z_has, z_pipe, z_tha, z_isA, z_node, z_thing, z_house, o_mcoal, o_node, o_thing, o_isA, bit_isIn, ite_not, true_and, and_true, c0, m0, c1, if_true, if_false, not_true_eq_false, not_false_eq_true]
    all_goals first | done | assumption | grind (splits := 20) [gI_sI, inb_3, inb_6, inb_8, inb_16, inb_40, inb_42, bit0, bit1, bit_of, ix_succ, ofNat_ix, ixl_16]
  by_cases c2 : 0 ≤ a3 ∧ a3 ≤ 99
  rotate_left
  · refine ⟨?_, ?_, ?_, ?_⟩ <;> simp only [f_G_thing, f_M_thing, ok_G_thing, ok_M_thing, f_Things_put, ok_Things_put, mq_let_e, mq_letP_e, z_within, z_isIn, z_wcoal, z_mcoal, z_has, z_pipe, z_tha, z_isA, z_node, z_thing, z_house, o_mcoal, o_node, o_thing, o_isA, bit_isIn, ite_not, true_and, and_true, c0, m0, c1, c2, if_true, if_false, not_true_eq_false, not_false_eq_true]
    all_goals first | done | assumption | grind (splits := 20) [gI_sI, inb_3, inb_6, inb_8, inb_16, inb_40, inb_42, bit0, bit1, bit_of, ix_succ, ofNat_ix, ixl_16]
  by_cases c3 : 0 ≤ a4 ∧ a4 ≤ (if a2 = 1 then 15 else 0)
  rotate_left
  · refine ⟨?_, ?_, ?_, ?_⟩ <;> simp only [f_G_thing, f_M_thing, ok_G_thing, ok_M_thing, f_Things_put, ok_Things_put, mq_let_e, mq_letP_e, z_within, z_isIn, z_wcoal, z_mcoal, z_has, z_pipe, z_tha, z_isA, z_node, z_thing, z_house, o_mcoal, o_node, o_thing, o_isA, bit_isIn, ite_not, true_and, and_true, c0, m0, c1, c2, c3, if_true, if_false, not_true_eq_false, not_false_eq_true]
    all_goals first | done | assumption | grind (splits := 20) [gI_sI, inb_3, inb_6, inb_8, inb_16, inb_40, inb_42, bit0, bit1, bit_of, ix_succ, ofNat_ix, ixl_16]
  by_cases c4 : gI s 12 12 < 40
  rotate_left
  · have m4 : ¬ (¬ gI s 116 8 = 40) := by grind
    refine ⟨?_, ?_, ?_, ?_⟩ <;> simp only [f_G_thing, f_M_thing, ok_G_thing, ok_M_thing, f_Things_put, ok_Things_put, mq_let_e, mq_letP_e, z_within, z_isIn, z_wcoal, z_mcoal, z_has, z_pipe, z_tha, z_isA, z_node, z_thing, z_house, o_mcoal, o_node, o_thing, o_isA, bit_isIn, ite_not, true_and, and_true, c0, m0, c1, c2, c3, c4, m4, if_true, if_false, not_true_eq_false, not_false_eq_true]
    all_goals first | done | assumption | grind (splits := 20) [gI_sI, inb_3, inb_6, inb_8, inb_16, inb_40, inb_42, bit0, bit1, bit_of, ix_succ, ofNat_ix, ixl_16]
  have m4 : ¬ gI s 116 8 = 40 := by grind
  refine ⟨?_, ?_, ?_, ?_⟩ <;> simp only [f_G_thing, f_M_thing, ok_G_thing, ok_M_thing, f_Things_put, ok_Things_put, mq_let_e, mq_letP_e, z_within, z_isIn, z_wcoal, z_mcoal, z_has, z_pipe, z_tha, z_isA, z_node, z_thing, z_house, o_mcoal, o_node, o_thing, o_isA, bit_isIn, ite_not, true_and, and_true, c0, m0, c1, c2, c3, c4, m4, gI_sI, gI_sL, gL_sI, gL_sL, false_and, and_false, and_self, Nat.reduceEqDiff, reduceIte, if_true, if_false, not_true_eq_false, not_false_eq_true]
  all_goals first | done | assumption | (simp [J_things, funext_iff, gI_sI, gI_sL, gL_sI, gL_sL] at * <;> and_intros <;> grind (splits := 20) [gI_sI, inb_3, inb_6, inb_8, inb_16, inb_40, inb_42, bit0, bit1, bit_of, ix_succ, ofNat_ix, ixl_16]) | grind (splits := 20) [gI_sI, inb_3, inb_6, inb_8, inb_16, inb_40, inb_42, bit0, bit1, bit_of, ix_succ, ofNat_ix, ixl_16]
theorem par_ext {p : Nat → Int32} {N a : Int32} (hN : 1 ≤ N) (hN2 : N < 16) (h : ∀ n, 1 ≤ n → n < ix N → 0 ≤ p n ∧ p n < Int32.ofNat n) (ha : 0 ≤ a) (ha2 : a ≤ N - 1) : ∀ n, 1 ≤ n → n < ix (N + 1) → 0 ≤ (if n = ix N then a else p n) ∧ (if n = ix N then a else p n) < Int32.ofNat n := by
  intro n h1 h2
  rw [ix_succ (by grind) (by grind)] at h2
  by_cases hn : n = ix N
  · rw [if_pos hn, hn, ofNat_ix (by grind)]
    grind
  · rw [if_neg hn]
    exact h n h1 (by omega)
theorem up_rng {p : Nat → Int32} {i : Nat} {x a b : Int32} (h : ∀ n, a ≤ p n ∧ p n ≤ b) (ha : a ≤ x) (hb : x ≤ b) : ∀ n, a ≤ (if n = i then x else p n) ∧ (if n = i then x else p n) ≤ b := by
  intro n
  split
  · exact ⟨ha, hb⟩
  · exact h n
theorem ix_pos {i : Int32} (h : 1 ≤ i) : ¬ 0 = ix i := by
  intro h2
  have e : Int32.ofNat (ix i) = Int32.ofNat 0 := by rw [← h2]
  rw [ofNat_ix (by grind)] at e
  have e2 : Int32.ofNat 0 = 0 := rfl
  grind
def nd_R (a1 a2 a3 : Int32) (s : mS) : Prop := ok_G_node a1 a2 a3 s ∧ ok_M_node a1 a2 a3 (f_G_node a1 a2 a3 s).2 ∧ (f_G_node a1 a2 a3 s).1 = (f_M_node a1 a2 a3 (f_G_node a1 a2 a3 s).2).1 ∧ J_net (f_M_node a1 a2 a3 (f_G_node a1 a2 a3 s).2).2 ∧ J_was (f_M_node a1 a2 a3 (f_G_node a1 a2 a3 s).2).2 ∧ J_things (f_M_node a1 a2 a3 (f_G_node a1 a2 a3 s).2).2 ∧ J_impr (f_M_node a1 a2 a3 (f_G_node a1 a2 a3 s).2).2 ∧ ((f_M_node a1 a2 a3 (f_G_node a1 a2 a3 s).2).2 = s ∨ gI (f_M_node a1 a2 a3 (f_G_node a1 a2 a3 s).2).2 116 102 = 0)
theorem nd_F {a1 a2 a3 : Int32} {s : mS} (h_net : J_net s) (h_was : J_was s) (h_things : J_things s) (h_impr : J_impr s) (eG : f_G_node a1 a2 a3 s = (-1, s)) (eM : f_M_node a1 a2 a3 s = (-1, s)) (oG : ok_G_node a1 a2 a3 s) (oM : ok_M_node a1 a2 a3 s) : nd_R a1 a2 a3 s := by
  unfold nd_R
  rw [eG]
  show _ ∧ ok_M_node a1 a2 a3 s ∧ (-1 : Int32) = (f_M_node a1 a2 a3 s).1 ∧ J_net (f_M_node a1 a2 a3 s).2 ∧ J_was (f_M_node a1 a2 a3 s).2 ∧ J_things (f_M_node a1 a2 a3 s).2 ∧ J_impr (f_M_node a1 a2 a3 s).2 ∧ ((f_M_node a1 a2 a3 s).2 = s ∨ _)
  rw [eM]
  exact ⟨oG, oM, rfl, h_net, h_was, h_things, h_impr, Or.inl rfl⟩
theorem op_node (a1 a2 a3 : Int32) (s : mS) (h_net : J_net s) (h_was : J_was s) (h_things : J_things s) (h_impr : J_impr s) : nd_R a1 a2 a3 s := by
  have k := h_net
  unfold J_net at k
  obtain ⟨n1, n2, n3, n4, n5, n6, n7, n8, n9, n10, n11, n12, n13, n14, n15⟩ := k
  by_cases c0 : 0 ≤ a1 ∧ a1 < gI s 25 10 ∧ a1 < 16
  rotate_left
  · have m0 : ¬ (0 ≤ a1 ∧ a1 ≤ gI s 116 7 - 1) := by grind
    refine nd_F h_net h_was h_things h_impr ?_ ?_ ?_ ?_ <;> simp only [f_G_node, f_M_node, ok_G_node, ok_M_node, o_node, mq_let_e, mq_letP_e, z_has, z_within, z_node, z_isIn, ite_not, c0, m0, if_false, true_and]
  have m0 : 0 ≤ a1 ∧ a1 ≤ gI s 116 7 - 1 := by grind
  by_cases c1 : 1 ≤ a2 ∧ a2 ≤ 9
  rotate_left
  · refine nd_F h_net h_was h_things h_impr ?_ ?_ ?_ ?_ <;> simp only [f_G_node, f_M_node, ok_G_node, ok_M_node, o_node, mq_let_e, mq_letP_e, z_has, z_within, z_node, z_isIn, ite_not, c0, m0, c1, and_self, if_true, if_false, true_and]
  by_cases c2 : -9 ≤ a3 ∧ a3 ≤ 9
  rotate_left
  · refine nd_F h_net h_was h_things h_impr ?_ ?_ ?_ ?_ <;> simp only [f_G_node, f_M_node, ok_G_node, ok_M_node, o_node, mq_let_e, mq_letP_e, z_has, z_within, z_node, z_isIn, ite_not, c0, m0, c1, c2, and_self, if_true, if_false, true_and]
  by_cases c3 : gI s 25 10 < 16
  rotate_left
  · have m3 : gI s 116 7 = 16 := by grind
    refine nd_F h_net h_was h_things h_impr ?_ ?_ ?_ ?_ <;> simp only [f_G_node, f_M_node, ok_G_node, ok_M_node, f_Net_lay, ok_Net_lay, o_node, mq_let_e, mq_letP_e, z_has, z_within, z_node, z_isIn, ite_not, c0, m0, c1, c2, c3, m3, and_self, if_true, if_false, true_and, ite_self]
  have m3 : ¬ gI s 116 7 = 16 := by grind
  have b16 : mm_inb (gI s 25 10) 16 = true := inb_16 (by grind) (by grind)
  have b16' : mm_inb (gI s 116 7) 16 = true := inb_16 (by grind) (by grind)
  have eG : f_G_node a1 a2 a3 s = (gI s 25 10, sI (sI (sI (sI s 26 (ix (gI s 25 10)) a1) 27 (ix (gI s 25 10)) a2) 28 (ix (gI s 25 10)) a3) 25 10 ((gI s 25 10) + 1)) := by
    simp only [f_G_node, f_Net_lay, mq_let_e, z_has, z_within, ite_not, c0, c1, c2, c3, and_self, if_true]
  have eM : f_M_node a1 a2 a3 (f_G_node a1 a2 a3 s).2 = (gI s 116 7 + 1 - 1, sI (sI (sI (sI (sI (f_G_node a1 a2 a3 s).2 127 (ix (gI s 116 7)) a1) 128 (ix (gI s 116 7)) a2) 129 (ix (gI s 116 7)) a3) 116 102 0) 116 7 ((gI s 116 7) + 1)) := by
    rw [eG]
    simp only [f_M_node, mq_let_e, z_node, z_isIn, ite_not, gI_sI, Nat.reduceEqDiff, and_false, false_and, if_false, m0, c1, c2, m3, and_self, if_true]
  unfold nd_R
  refine ⟨?_, ?_, ?_, ?_, ?_, ?_, ?_, ?_⟩
  · simp only [ok_G_node, ok_Net_lay, mq_letP_e, z_has, z_within, ite_not, c0, c1, c2, c3, b16, and_self, if_true]
  · rw [eG]
    simp only [ok_M_node, o_node, mq_letP_e, z_node, z_isIn, ite_not, gI_sI, Nat.reduceEqDiff, and_false, false_and, if_false, m0, c1, c2, m3, b16', and_self, if_true]
  · rw [eM, eG]
    grind
  · rw [eM, eG]
    unfold J_net
    simp only [fI_sI, gI_sI, Nat.reduceEqDiff, and_false, false_and, and_self, true_and, and_true, reduceIte]
    refine ⟨by rw [n1, n5], by rw [n2, n5], by rw [n3, n5], n4, by rw [n5], by grind, by grind, n8, n9, n10, ?_, par_ext n6 (by grind) n12 m0.1 m0.2, up_rng n13 (by grind) (by grind), up_rng n14 (by grind) (by grind), n15⟩
    rw [if_neg (ix_pos n6)]
    exact n11
  · rw [eM, eG]
    unfold J_was at h_was ⊢
    simp only [fI_sI, gI_sI, Nat.reduceEqDiff, and_false, false_and, and_self, true_and, and_true, reduceIte]
    exact ⟨h_was.1, h_was.2.1, h_was.2.2.1, h_was.2.2.2.1, by have := h_was.2.2.2.2.1; grind, h_was.2.2.2.2.2.1, h_was.2.2.2.2.2.2⟩
  · rw [eM, eG]
    unfold J_things at h_things ⊢
    simp only [fI_sI, gI_sI, gL_sI, Nat.reduceEqDiff, and_false, false_and, and_self, true_and, and_true, reduceIte]
    obtain ⟨t1, t2, t3, t4, t5, t6, t7, t8, t9, t10, t11, t12, t13, t14, t15, t16, t17⟩ := h_things
    exact ⟨t1, t2, t3, t4, t5, t6, t7, t8, t9, t10, t11, t12, t13, t14, t15, fun t => ⟨(t16 t).1, by have := (t16 t).2; grind⟩, t17⟩
  · rw [eM, eG]
    unfold J_impr at h_impr ⊢
    simp only [fI_sI, gI_sI, Nat.reduceEqDiff, and_false, false_and, and_self, true_and, and_true, reduceIte]
    obtain ⟨t1, t2, t3, t4, t5, t6, t7, t8⟩ := h_impr
    exact ⟨t1, t2, t3, t4, t5, t6, fun i hi => ⟨(t7 i hi).1, by have := (t7 i hi).2; grind⟩, t8⟩
  · right
    rw [eM]
    simp only [gI_sI, Nat.reduceEqDiff, and_false, and_self, reduceIte]
theorem op_holder (a1 : Int32) (s : mS) (h_level : J_level s) : True ∧ True ∧ (f_G_holder a1 s).1 = (f_M_holder a1 (f_G_holder a1 s).2).1 ∧ J_level (f_M_holder a1 (f_G_holder a1 s).2).2 := by
  have k := h_level
  unfold J_level at k
  obtain ⟨k1, k2, k3, k4, k5, k6, k7⟩ := k
  refine ⟨trivial, trivial, ?_⟩
  by_cases c0 : 0 ≤ a1 ∧ a1 ≤ 99999
  · by_cases c1 : gI s 3 12 ≤ a1
    · have c2 : ¬ a1 < gI s 116 6 + 0 := by
        rw [← k2, Int32.add_zero]
        exact Int32.not_lt.mpr c1
      refine ⟨?_, ?_⟩ <;> simp only [f_G_holder, f_M_holder, mq_let_e, mq_letP_e, z_within, z_isIn, ite_not, c0, and_self, if_true, f_Works_letOff, f_M_fills, gI_sI, Nat.reduceEqDiff, and_false, false_and, and_true, reduceIte, c1, c2]
      unfold J_level
      simp only [gI_sI, gL_sI, Nat.reduceEqDiff, and_false, false_and, and_self, and_true, reduceIte]
      rw [Int32.add_zero]
      exact ⟨trivial, k2, k3, k2 ▸ c1, c0.2, k6, k7⟩
    · have c2 : a1 < gI s 116 6 + 0 := by
        rw [← k2, Int32.add_zero]
        exact Int32.not_le.mp c1
      refine ⟨?_, ?_⟩ <;> simp only [f_G_holder, f_M_holder, mq_let_e, mq_letP_e, z_within, z_isIn, ite_not, c0, and_self, if_true, f_Works_letOff, f_M_fills, gI_sI, gI_sL, gL_sI, gL_sL, Nat.reduceEqDiff, and_false, false_and, and_true, reduceIte, c1, c2]
      unfold J_level
      simp only [gI_sI, gL_sI, gI_sL, gL_sL, Nat.reduceEqDiff, and_false, false_and, and_self, and_true, reduceIte]
      rw [Int32.add_zero, k2, k7]
      exact ⟨trivial, trivial, c0.1, Int32.le_refl _, c0.2, k6, rfl⟩
  · refine ⟨?_, ?_⟩ <;> simp only [f_G_holder, f_M_holder, mq_let_e, mq_letP_e, z_within, z_isIn, ite_not, c0, if_false]
    exact h_level
