/-! CALLS WITHOUT LOOPS, by program. -/
theorem op_coal (a1 a2 a3 a4 : Int32) (s : mS) (h_coal : J_coal s)  : ok_G_coal a1 a2 a3 a4 s ∧ ok_M_coal a1 a2 a3 a4 (f_G_coal a1 a2 a3 a4 s).2 ∧ (f_G_coal a1 a2 a3 a4 s).1 = (f_M_coal a1 a2 a3 a4 (f_G_coal a1 a2 a3 a4 s).2).1 ∧ J_coal (f_M_coal a1 a2 a3 a4 (f_G_coal a1 a2 a3 a4 s).2).2 := by
  have k_coal := h_coal
  unfold J_coal at k_coal
  try simp only [funext_iff] at k_coal
  by_cases c0 : 0 ≤ a1 ∧ a1 ≤ 2
  rotate_left
  · refine ⟨?_, ?_, ?_, ?_⟩ <;> simp only [f_G_coal, f_M_coal, ok_G_coal, ok_M_coal, mq_let_e, mq_letP_e, z_within, z_isIn, z_wcoal, z_mcoal, z_has, z_pipe, z_tha, z_isA, z_node, z_thing, z_house, o_mcoal, o_node, o_thing, o_isA, bit_isIn, ite_not, true_and, and_true, c0, if_true, if_false, not_true_eq_false, not_false_eq_true]
    all_goals first | done | assumption | grind (splits := 20) [gI_sI, inb_3, inb_6, inb_8, inb_16, inb_40, inb_42, bit0, bit1, bit_of, ix_succ, ofNat_ix, ixl_16]
  by_cases c1 : 10 ≤ a2 ∧ a2 ≤ 200
  rotate_left
  · refine ⟨?_, ?_, ?_, ?_⟩ <;> simp only [f_G_coal, f_M_coal, ok_G_coal, ok_M_coal, mq_let_e, mq_letP_e, z_within, z_isIn, z_wcoal, z_mcoal, z_has, z_pipe, z_tha, z_isA, z_node, z_thing, z_house, o_mcoal, o_node, o_thing, o_isA, bit_isIn, ite_not, true_and, and_true, c0, c1, if_true, if_false, not_true_eq_false, not_false_eq_true]
    all_goals first | done | assumption | grind (splits := 20) [gI_sI, inb_3, inb_6, inb_8, inb_16, inb_40, inb_42, bit0, bit1, bit_of, ix_succ, ofNat_ix, ixl_16]
  by_cases c2 : 0 ≤ a3 ∧ a3 ≤ 80
  rotate_left
  · refine ⟨?_, ?_, ?_, ?_⟩ <;> simp only [f_G_coal, f_M_coal, ok_G_coal, ok_M_coal, mq_let_e, mq_letP_e, z_within, z_isIn, z_wcoal, z_mcoal, z_has, z_pipe, z_tha, z_isA, z_node, z_thing, z_house, o_mcoal, o_node, o_thing, o_isA, bit_isIn, ite_not, true_and, and_true, c0, c1, c2, if_true, if_false, not_true_eq_false, not_false_eq_true]
    all_goals first | done | assumption | grind (splits := 20) [gI_sI, inb_3, inb_6, inb_8, inb_16, inb_40, inb_42, bit0, bit1, bit_of, ix_succ, ofNat_ix, ixl_16]
  by_cases c3 : 0 ≤ a4 ∧ a4 ≤ 20
  rotate_left
  · refine ⟨?_, ?_, ?_, ?_⟩ <;> simp only [f_G_coal, f_M_coal, ok_G_coal, ok_M_coal, mq_let_e, mq_letP_e, z_within, z_isIn, z_wcoal, z_mcoal, z_has, z_pipe, z_tha, z_isA, z_node, z_thing, z_house, o_mcoal, o_node, o_thing, o_isA, bit_isIn, ite_not, true_and, and_true, c0, c1, c2, c3, if_true, if_false, not_true_eq_false, not_false_eq_true]
    all_goals first | done | assumption | grind (splits := 20) [gI_sI, inb_3, inb_6, inb_8, inb_16, inb_40, inb_42, bit0, bit1, bit_of, ix_succ, ofNat_ix, ixl_16]
  refine ⟨?_, ?_, ?_, ?_⟩ <;> simp only [f_G_coal, f_M_coal, ok_G_coal, ok_M_coal, mq_let_e, mq_letP_e, z_within, z_isIn, z_wcoal, z_mcoal, z_has, z_pipe, z_tha, z_isA, z_node, z_thing, z_house, o_mcoal, o_node, o_thing, o_isA, bit_isIn, ite_not, true_and, and_true, c0, c1, c2, c3, gI_sI, gI_sL, gL_sI, gL_sL, false_and, and_false, and_self, Nat.reduceEqDiff, reduceIte, if_true, if_false, not_true_eq_false, not_false_eq_true]
  all_goals first | done | assumption | (simp [J_coal, funext_iff, gI_sI, gI_sL, gL_sI, gL_sL] at * <;> and_intros <;> grind (splits := 20) [gI_sI, inb_3, inb_6, inb_8, inb_16, inb_40, inb_42, bit0, bit1, bit_of, ix_succ, ofNat_ix, ixl_16]) | grind (splits := 20) [gI_sI, inb_3, inb_6, inb_8, inb_16, inb_40, inb_42, bit0, bit1, bit_of, ix_succ, ofNat_ix, ixl_16]

theorem op_buy (a1 a2 a3 : Int32) (s : mS) (h_coal : J_coal s) (h_money : J_money s)  : ok_G_buy a1 a2 a3 s ∧ ok_M_buy a1 a2 a3 (f_G_buy a1 a2 a3 s).2 ∧ (f_G_buy a1 a2 a3 s).1 = (f_M_buy a1 a2 a3 (f_G_buy a1 a2 a3 s).2).1 ∧ J_coal (f_M_buy a1 a2 a3 (f_G_buy a1 a2 a3 s).2).2 ∧ J_money (f_M_buy a1 a2 a3 (f_G_buy a1 a2 a3 s).2).2 := by
  have k_coal := h_coal
  unfold J_coal at k_coal
  try simp only [funext_iff] at k_coal
  have k_money := h_money
  unfold J_money at k_money
  try simp only [funext_iff] at k_money
  by_cases c0 : 0 ≤ a1 ∧ a1 ≤ 2
  rotate_left
  · refine ⟨?_, ?_, ?_, ?_, ?_⟩ <;> simp only [f_G_buy, f_M_buy, ok_G_buy, ok_M_buy, mq_let_e, mq_letP_e, z_within, z_isIn, z_wcoal, z_mcoal, z_has, z_pipe, z_tha, z_isA, z_node, z_thing, z_house, o_mcoal, o_node, o_thing, o_isA, bit_isIn, ite_not, true_and, and_true, c0, if_true, if_false, not_true_eq_false, not_false_eq_true]
    all_goals first | done | assumption | grind (splits := 20) [gI_sI, inb_3, inb_6, inb_8, inb_16, inb_40, inb_42, bit0, bit1, bit_of, ix_succ, ofNat_ix, ixl_16]
  by_cases c1 : 1 ≤ a2 ∧ a2 ≤ 9999
  rotate_left
  · refine ⟨?_, ?_, ?_, ?_, ?_⟩ <;> simp only [f_G_buy, f_M_buy, ok_G_buy, ok_M_buy, mq_let_e, mq_letP_e, z_within, z_isIn, z_wcoal, z_mcoal, z_has, z_pipe, z_tha, z_isA, z_node, z_thing, z_house, o_mcoal, o_node, o_thing, o_isA, bit_isIn, ite_not, true_and, and_true, c0, c1, if_true, if_false, not_true_eq_false, not_false_eq_true]
    all_goals first | done | assumption | grind (splits := 20) [gI_sI, inb_3, inb_6, inb_8, inb_16, inb_40, inb_42, bit0, bit1, bit_of, ix_succ, ofNat_ix, ixl_16]
  by_cases c2 : 0 ≤ a3 ∧ a3 ≤ 999
  rotate_left
  · refine ⟨?_, ?_, ?_, ?_, ?_⟩ <;> simp only [f_G_buy, f_M_buy, ok_G_buy, ok_M_buy, mq_let_e, mq_letP_e, z_within, z_isIn, z_wcoal, z_mcoal, z_has, z_pipe, z_tha, z_isA, z_node, z_thing, z_house, o_mcoal, o_node, o_thing, o_isA, bit_isIn, ite_not, true_and, and_true, c0, c1, c2, if_true, if_false, not_true_eq_false, not_false_eq_true]
    all_goals first | done | assumption | grind (splits := 20) [gI_sI, inb_3, inb_6, inb_8, inb_16, inb_40, inb_42, bit0, bit1, bit_of, ix_succ, ofNat_ix, ixl_16]
  by_cases c3 : gI s 7 (ix a1) + a2 ≤ 9999
  rotate_left
  · have m3 : ¬ (gI s 121 (ix a1) + a2 ≤ 9999) := by grind
    refine ⟨?_, ?_, ?_, ?_, ?_⟩ <;> simp only [f_G_buy, f_M_buy, ok_G_buy, ok_M_buy, mq_let_e, mq_letP_e, z_within, z_isIn, z_wcoal, z_mcoal, z_has, z_pipe, z_tha, z_isA, z_node, z_thing, z_house, o_mcoal, o_node, o_thing, o_isA, bit_isIn, ite_not, true_and, and_true, c0, c1, c2, c3, m3, if_true, if_false, not_true_eq_false, not_false_eq_true]
    all_goals first | done | assumption | grind (splits := 20) [gI_sI, inb_3, inb_6, inb_8, inb_16, inb_40, inb_42, bit0, bit1, bit_of, ix_succ, ofNat_ix, ixl_16]
  have m3 : gI s 121 (ix a1) + a2 ≤ 9999 := by grind
  refine ⟨?_, ?_, ?_, ?_, ?_⟩ <;> simp only [f_G_buy, f_M_buy, ok_G_buy, ok_M_buy, mq_let_e, mq_letP_e, z_within, z_isIn, z_wcoal, z_mcoal, z_has, z_pipe, z_tha, z_isA, z_node, z_thing, z_house, o_mcoal, o_node, o_thing, o_isA, bit_isIn, ite_not, true_and, and_true, c0, c1, c2, c3, m3, gI_sI, gI_sL, gL_sI, gL_sL, false_and, and_false, and_self, Nat.reduceEqDiff, reduceIte, if_true, if_false, not_true_eq_false, not_false_eq_true]
  all_goals first | done | assumption | (simp [J_coal, J_money, funext_iff, gI_sI, gI_sL, gL_sI, gL_sL] at * <;> and_intros <;> grind (splits := 20) [gI_sI, inb_3, inb_6, inb_8, inb_16, inb_40, inb_42, bit0, bit1, bit_of, ix_succ, ofNat_ix, ixl_16]) | grind (splits := 20) [gI_sI, inb_3, inb_6, inb_8, inb_16, inb_40, inb_42, bit0, bit1, bit_of, ix_succ, ofNat_ix, ixl_16]

theorem op_bench (s : mS) (h_bench : J_bench s)  : True ∧ True ∧ (f_G_bench s).1 = (f_M_bench (f_G_bench s).2).1 ∧ J_bench (f_M_bench (f_G_bench s).2).2 := by
  have k_bench := h_bench
  unfold J_bench at k_bench
  try simp only [funext_iff] at k_bench
  by_cases c0 : 6 ≤ gI s 3 8
  · have m0 : gI s 116 4 = 6 := by grind
    refine ⟨?_, ?_, ?_, ?_⟩ <;> simp only [f_G_bench, f_M_bench, f_Works_build, mq_let_e, mq_letP_e, z_within, z_isIn, z_wcoal, z_mcoal, z_has, z_pipe, z_tha, z_isA, z_node, z_thing, z_house, o_mcoal, o_node, o_thing, o_isA, bit_isIn, ite_not, true_and, and_true, c0, m0, if_true, if_false, not_true_eq_false, not_false_eq_true]
    all_goals first | done | assumption | grind (splits := 20) [gI_sI, inb_3, inb_6, inb_8, inb_16, inb_40, inb_42, bit0, bit1, bit_of, ix_succ, ofNat_ix, ixl_16]
  have m0 : ¬ (gI s 116 4 = 6) := by grind
  refine ⟨?_, ?_, ?_, ?_⟩ <;> simp only [f_G_bench, f_M_bench, f_Works_build, mq_let_e, mq_letP_e, z_within, z_isIn, z_wcoal, z_mcoal, z_has, z_pipe, z_tha, z_isA, z_node, z_thing, z_house, o_mcoal, o_node, o_thing, o_isA, bit_isIn, ite_not, true_and, and_true, c0, m0, gI_sI, gI_sL, gL_sI, gL_sL, false_and, and_false, and_self, Nat.reduceEqDiff, reduceIte, if_true, if_false, not_true_eq_false, not_false_eq_true]
  all_goals first | done | assumption | (simp [J_bench, funext_iff, gI_sI, gI_sL, gL_sI, gL_sL] at * <;> and_intros <;> grind (splits := 20) [gI_sI, inb_3, inb_6, inb_8, inb_16, inb_40, inb_42, bit0, bit1, bit_of, ix_succ, ofNat_ix, ixl_16]) | grind (splits := 20) [gI_sI, inb_3, inb_6, inb_8, inb_16, inb_40, inb_42, bit0, bit1, bit_of, ix_succ, ofNat_ix, ixl_16]

theorem op_hands (a1 : Int32) (s : mS) (h_bench : J_bench s)  : True ∧ True ∧ (f_G_hands a1 s).1 = (f_M_hands a1 (f_G_hands a1 s).2).1 ∧ J_bench (f_M_hands a1 (f_G_hands a1 s).2).2 := by
  have k_bench := h_bench
  unfold J_bench at k_bench
  try simp only [funext_iff] at k_bench
  by_cases c0 : 0 ≤ a1 ∧ a1 ≤ 30
  rotate_left
  · refine ⟨?_, ?_, ?_, ?_⟩ <;> simp only [f_G_hands, f_M_hands, mq_let_e, mq_letP_e, z_within, z_isIn, z_wcoal, z_mcoal, z_has, z_pipe, z_tha, z_isA, z_node, z_thing, z_house, o_mcoal, o_node, o_thing, o_isA, bit_isIn, ite_not, true_and, and_true, c0, if_true, if_false, not_true_eq_false, not_false_eq_true]
    all_goals first | done | assumption | grind (splits := 20) [gI_sI, inb_3, inb_6, inb_8, inb_16, inb_40, inb_42, bit0, bit1, bit_of, ix_succ, ofNat_ix, ixl_16]
  refine ⟨?_, ?_, ?_, ?_⟩ <;> simp only [f_G_hands, f_M_hands, mq_let_e, mq_letP_e, z_within, z_isIn, z_wcoal, z_mcoal, z_has, z_pipe, z_tha, z_isA, z_node, z_thing, z_house, o_mcoal, o_node, o_thing, o_isA, bit_isIn, ite_not, true_and, and_true, c0, gI_sI, gI_sL, gL_sI, gL_sL, false_and, and_false, and_self, Nat.reduceEqDiff, reduceIte, if_true, if_false, not_true_eq_false, not_false_eq_true]
  all_goals first | done | assumption | (simp [J_bench, funext_iff, gI_sI, gI_sL, gL_sI, gL_sL] at * <;> and_intros <;> grind (splits := 20) [gI_sI, inb_3, inb_6, inb_8, inb_16, inb_40, inb_42, bit0, bit1, bit_of, ix_succ, ofNat_ix, ixl_16]) | grind (splits := 20) [gI_sI, inb_3, inb_6, inb_8, inb_16, inb_40, inb_42, bit0, bit1, bit_of, ix_succ, ofNat_ix, ixl_16]

theorem op_round (a1 a2 : Int32) (s : mS) (h_sky : J_sky s)  : True ∧ True ∧ (f_G_round a1 a2 s).1 = (f_M_round a1 a2 (f_G_round a1 a2 s).2).1 ∧ J_sky (f_M_round a1 a2 (f_G_round a1 a2 s).2).2 := by
  have k_sky := h_sky
  unfold J_sky at k_sky
  try simp only [funext_iff] at k_sky
  by_cases c0 : 40 ≤ a1 ∧ a1 ≤ 80
  rotate_left
  · refine ⟨?_, ?_, ?_, ?_⟩ <;> simp only [f_G_round, f_M_round, mq_let_e, mq_letP_e, z_within, z_isIn, z_wcoal, z_mcoal, z_has, z_pipe, z_tha, z_isA, z_node, z_thing, z_house, o_mcoal, o_node, o_thing, o_isA, bit_isIn, ite_not, true_and, and_true, c0, if_true, if_false, not_true_eq_false, not_false_eq_true]
    all_goals first | done | assumption | grind (splits := 20) [gI_sI, inb_3, inb_6, inb_8, inb_16, inb_40, inb_42, bit0, bit1, bit_of, ix_succ, ofNat_ix, ixl_16]
  by_cases c1 : 10 ≤ a2 ∧ a2 ≤ 40
  rotate_left
  · refine ⟨?_, ?_, ?_, ?_⟩ <;> simp only [f_G_round, f_M_round, mq_let_e, mq_letP_e, z_within, z_isIn, z_wcoal, z_mcoal, z_has, z_pipe, z_tha, z_isA, z_node, z_thing, z_house, o_mcoal, o_node, o_thing, o_isA, bit_isIn, ite_not, true_and, and_true, c0, c1, if_true, if_false, not_true_eq_false, not_false_eq_true]
    all_goals first | done | assumption | grind (splits := 20) [gI_sI, inb_3, inb_6, inb_8, inb_16, inb_40, inb_42, bit0, bit1, bit_of, ix_succ, ofNat_ix, ixl_16]
  refine ⟨?_, ?_, ?_, ?_⟩ <;> simp only [f_G_round, f_M_round, mq_let_e, mq_letP_e, z_within, z_isIn, z_wcoal, z_mcoal, z_has, z_pipe, z_tha, z_isA, z_node, z_thing, z_house, o_mcoal, o_node, o_thing, o_isA, bit_isIn, ite_not, true_and, and_true, c0, c1, gI_sI, gI_sL, gL_sI, gL_sL, false_and, and_false, and_self, Nat.reduceEqDiff, reduceIte, if_true, if_false, not_true_eq_false, not_false_eq_true]
  all_goals first | done | assumption | (simp [J_sky, funext_iff, gI_sI, gI_sL, gL_sI, gL_sL] at * <;> and_intros <;> grind (splits := 20) [gI_sI, inb_3, inb_6, inb_8, inb_16, inb_40, inb_42, bit0, bit1, bit_of, ix_succ, ofNat_ix, ixl_16]) | grind (splits := 20) [gI_sI, inb_3, inb_6, inb_8, inb_16, inb_40, inb_42, bit0, bit1, bit_of, ix_succ, ofNat_ix, ixl_16]

theorem op_fog (a1 a2 : Int32) (s : mS) (h_sky : J_sky s)  : ok_G_fog a1 a2 s ∧ ok_M_fog a1 a2 (f_G_fog a1 a2 s).2 ∧ (f_G_fog a1 a2 s).1 = (f_M_fog a1 a2 (f_G_fog a1 a2 s).2).1 ∧ J_sky (f_M_fog a1 a2 (f_G_fog a1 a2 s).2).2 := by
  have k_sky := h_sky
  unfold J_sky at k_sky
  try simp only [funext_iff] at k_sky
  by_cases c0 : 0 ≤ a1 ∧ a1 ≤ 41
  rotate_left
  · refine ⟨?_, ?_, ?_, ?_⟩ <;> simp only [f_G_fog, f_M_fog, ok_G_fog, ok_M_fog, mq_let_e, mq_letP_e, z_within, z_isIn, z_wcoal, z_mcoal, z_has, z_pipe, z_tha, z_isA, z_node, z_thing, z_house, o_mcoal, o_node, o_thing, o_isA, bit_isIn, ite_not, true_and, and_true, c0, if_true, if_false, not_true_eq_false, not_false_eq_true]
    all_goals first | done | assumption | grind (splits := 20) [gI_sI, inb_3, inb_6, inb_8, inb_16, inb_40, inb_42, bit0, bit1, bit_of, ix_succ, ofNat_ix, ixl_16]
  by_cases c1 : 0 ≤ a2 ∧ a2 ≤ 3
  rotate_left
  · refine ⟨?_, ?_, ?_, ?_⟩ <;> simp only [f_G_fog, f_M_fog, ok_G_fog, ok_M_fog, mq_let_e, mq_letP_e, z_within, z_isIn, z_wcoal, z_mcoal, z_has, z_pipe, z_tha, z_isA, z_node, z_thing, z_house, o_mcoal, o_node, o_thing, o_isA, bit_isIn, ite_not, true_and, and_true, c0, c1, if_true, if_false, not_true_eq_false, not_false_eq_true]
    all_goals first | done | assumption | grind (splits := 20) [gI_sI, inb_3, inb_6, inb_8, inb_16, inb_40, inb_42, bit0, bit1, bit_of, ix_succ, ofNat_ix, ixl_16]
  refine ⟨?_, ?_, ?_, ?_⟩ <;> simp only [f_G_fog, f_M_fog, ok_G_fog, ok_M_fog, mq_let_e, mq_letP_e, z_within, z_isIn, z_wcoal, z_mcoal, z_has, z_pipe, z_tha, z_isA, z_node, z_thing, z_house, o_mcoal, o_node, o_thing, o_isA, bit_isIn, ite_not, true_and, and_true, c0, c1, gI_sI, gI_sL, gL_sI, gL_sL, false_and, and_false, and_self, Nat.reduceEqDiff, reduceIte, if_true, if_false, not_true_eq_false, not_false_eq_true]
  all_goals first | done | assumption | (simp [J_sky, funext_iff, gI_sI, gI_sL, gL_sI, gL_sL] at * <;> and_intros <;> grind (splits := 20) [gI_sI, inb_3, inb_6, inb_8, inb_16, inb_40, inb_42, bit0, bit1, bit_of, ix_succ, ofNat_ix, ixl_16]) | grind (splits := 20) [gI_sI, inb_3, inb_6, inb_8, inb_16, inb_40, inb_42, bit0, bit1, bit_of, ix_succ, ofNat_ix, ixl_16]

theorem op_gate (a1 : Int32) (s : mS) (h_net : J_net s)  : True ∧ True ∧ (f_G_gate a1 s).1 = (f_M_gate a1 (f_G_gate a1 s).2).1 ∧ J_net (f_M_gate a1 (f_G_gate a1 s).2).2 := by
  have k_net := h_net
  unfold J_net at k_net
  try simp only [funext_iff] at k_net
  by_cases c0 : 0 ≤ a1 ∧ a1 ≤ 99
  rotate_left
  · refine ⟨?_, ?_, ?_, ?_⟩ <;> simp only [f_G_gate, f_M_gate, mq_let_e, mq_letP_e, z_within, z_isIn, z_wcoal, z_mcoal, z_has, z_pipe, z_tha, z_isA, z_node, z_thing, z_house, o_mcoal, o_node, o_thing, o_isA, bit_isIn, ite_not, true_and, and_true, c0, if_true, if_false, not_true_eq_false, not_false_eq_true]
    all_goals first | done | assumption | grind (splits := 20) [gI_sI, inb_3, inb_6, inb_8, inb_16, inb_40, inb_42, bit0, bit1, bit_of, ix_succ, ofNat_ix, ixl_16]
  refine ⟨?_, ?_, ?_, ?_⟩ <;> simp only [f_G_gate, f_M_gate, mq_let_e, mq_letP_e, z_within, z_isIn, z_wcoal, z_mcoal, z_has, z_pipe, z_tha, z_isA, z_node, z_thing, z_house, o_mcoal, o_node, o_thing, o_isA, bit_isIn, ite_not, true_and, and_true, c0, gI_sI, gI_sL, gL_sI, gL_sL, false_and, and_false, and_self, Nat.reduceEqDiff, reduceIte, if_true, if_false, not_true_eq_false, not_false_eq_true]
  all_goals first | done | assumption | (simp [J_net, funext_iff, gI_sI, gI_sL, gL_sI, gL_sL] at * <;> and_intros <;> grind (splits := 20) [gI_sI, inb_3, inb_6, inb_8, inb_16, inb_40, inb_42, bit0, bit1, bit_of, ix_succ, ofNat_ix, ixl_16]) | grind (splits := 20) [gI_sI, inb_3, inb_6, inb_8, inb_16, inb_40, inb_42, bit0, bit1, bit_of, ix_succ, ofNat_ix, ixl_16]

theorem op_cut (a1 a2 : Int32) (s : mS) (h_things : J_things s) (hb : a2 = 0 ∨ a2 = 1) : ok_G_cut a1 a2 s ∧ ok_M_cut a1 a2 (f_G_cut a1 a2 s).2 ∧ (f_G_cut a1 a2 s).1 = (f_M_cut a1 a2 (f_G_cut a1 a2 s).2).1 ∧ J_things (f_M_cut a1 a2 (f_G_cut a1 a2 s).2).2 := by
  have k_things := h_things
  unfold J_things at k_things
  try simp only [funext_iff] at k_things
  by_cases c0 : 0 ≤ a1 ∧ a1 < gI s 12 12 ∧ a1 < 40
  rotate_left
  · have m0 : ¬ (0 ≤ a1 ∧ a1 ≤ gI s 116 8 - 1) := by grind
    refine ⟨?_, ?_, ?_, ?_⟩ <;> simp only [f_G_cut, f_M_cut, ok_G_cut, ok_M_cut, mq_let_e, mq_letP_e, z_within, z_isIn, z_wcoal, z_mcoal, z_has, z_pipe, z_tha, z_isA, z_node, z_thing, z_house, o_mcoal, o_node, o_thing, o_isA, bit_isIn, ite_not, true_and, and_true, c0, m0, if_true, if_false, not_true_eq_false, not_false_eq_true]
    all_goals first | done | assumption | grind (splits := 20) [gI_sI, inb_3, inb_6, inb_8, inb_16, inb_40, inb_42, bit0, bit1, bit_of, ix_succ, ofNat_ix, ixl_16]
  have m0 : 0 ≤ a1 ∧ a1 ≤ gI s 116 8 - 1 := by grind
  by_cases c1 : gI s 17 (ix a1) = a2
  · have m1 : gI s 140 (ix a1) = a2 := by grind
    refine ⟨?_, ?_, ?_, ?_⟩ <;> simp only [f_G_cut, f_M_cut, ok_G_cut, ok_M_cut, mq_let_e, mq_letP_e, z_within, z_isIn, z_wcoal, z_mcoal, z_has, z_pipe, z_tha, z_isA, z_node, z_thing, z_house, o_mcoal, o_node, o_thing, o_isA, bit_isIn, ite_not, true_and, and_true, c0, m0, c1, m1, if_true, if_false, not_true_eq_false, not_false_eq_true]
    all_goals first | done | assumption | grind (splits := 20) [gI_sI, inb_3, inb_6, inb_8, inb_16, inb_40, inb_42, bit0, bit1, bit_of, ix_succ, ofNat_ix, ixl_16]
  have m1 : ¬ (gI s 140 (ix a1) = a2) := by grind
  refine ⟨?_, ?_, ?_, ?_⟩ <;> simp only [f_G_cut, f_M_cut, ok_G_cut, ok_M_cut, mq_let_e, mq_letP_e, z_within, z_isIn, z_wcoal, z_mcoal, z_has, z_pipe, z_tha, z_isA, z_node, z_thing, z_house, o_mcoal, o_node, o_thing, o_isA, bit_isIn, ite_not, true_and, and_true, c0, m0, c1, m1, gI_sI, gI_sL, gL_sI, gL_sL, false_and, and_false, and_self, Nat.reduceEqDiff, reduceIte, if_true, if_false, not_true_eq_false, not_false_eq_true]
  all_goals first | done | assumption | (simp [J_things, funext_iff, gI_sI, gI_sL, gL_sI, gL_sL] at * <;> and_intros <;> grind (splits := 20) [gI_sI, inb_3, inb_6, inb_8, inb_16, inb_40, inb_42, bit0, bit1, bit_of, ix_succ, ofNat_ix, ixl_16]) | grind (splits := 20) [gI_sI, inb_3, inb_6, inb_8, inb_16, inb_40, inb_42, bit0, bit1, bit_of, ix_succ, ofNat_ix, ixl_16]

theorem op_water (a1 a2 : Int32) (s : mS) (h_net : J_net s) (hb : a2 = 0 ∨ a2 = 1) : ok_G_water a1 a2 s ∧ ok_M_water a1 a2 (f_G_water a1 a2 s).2 ∧ (f_G_water a1 a2 s).1 = (f_M_water a1 a2 (f_G_water a1 a2 s).2).1 ∧ J_net (f_M_water a1 a2 (f_G_water a1 a2 s).2).2 := by
  have k_net := h_net
  unfold J_net at k_net
  try simp only [funext_iff] at k_net
  by_cases c0 : 0 < a1 ∧ a1 < gI s 25 10 ∧ a1 < 16
  rotate_left
  · have m0 : ¬ (1 ≤ a1 ∧ a1 ≤ gI s 116 7 - 1) := by grind
    refine ⟨?_, ?_, ?_, ?_⟩ <;> simp only [f_G_water, f_M_water, ok_G_water, ok_M_water, mq_let_e, mq_letP_e, z_within, z_isIn, z_wcoal, z_mcoal, z_has, z_pipe, z_tha, z_isA, z_node, z_thing, z_house, o_mcoal, o_node, o_thing, o_isA, bit_isIn, ite_not, true_and, and_true, c0, m0, if_true, if_false, not_true_eq_false, not_false_eq_true]
    all_goals first | done | assumption | grind (splits := 20) [gI_sI, inb_3, inb_6, inb_8, inb_16, inb_40, inb_42, bit0, bit1, bit_of, ix_succ, ofNat_ix, ixl_16]
  have m0 : 1 ≤ a1 ∧ a1 ≤ gI s 116 7 - 1 := by grind
  by_cases c1 : gI s 29 (ix a1) = a2
  · have m1 : gI s 130 (ix a1) = a2 := by grind
    refine ⟨?_, ?_, ?_, ?_⟩ <;> simp only [f_G_water, f_M_water, ok_G_water, ok_M_water, mq_let_e, mq_letP_e, z_within, z_isIn, z_wcoal, z_mcoal, z_has, z_pipe, z_tha, z_isA, z_node, z_thing, z_house, o_mcoal, o_node, o_thing, o_isA, bit_isIn, ite_not, true_and, and_true, c0, m0, c1, m1, if_true, if_false, not_true_eq_false, not_false_eq_true]
    all_goals first | done | assumption | grind (splits := 20) [gI_sI, inb_3, inb_6, inb_8, inb_16, inb_40, inb_42, bit0, bit1, bit_of, ix_succ, ofNat_ix, ixl_16]
  have m1 : ¬ (gI s 130 (ix a1) = a2) := by grind
  refine ⟨?_, ?_, ?_, ?_⟩ <;> simp only [f_G_water, f_M_water, ok_G_water, ok_M_water, mq_let_e, mq_letP_e, z_within, z_isIn, z_wcoal, z_mcoal, z_has, z_pipe, z_tha, z_isA, z_node, z_thing, z_house, o_mcoal, o_node, o_thing, o_isA, bit_isIn, ite_not, true_and, and_true, c0, m0, c1, m1, gI_sI, gI_sL, gL_sI, gL_sL, false_and, and_false, and_self, Nat.reduceEqDiff, reduceIte, if_true, if_false, not_true_eq_false, not_false_eq_true]
  all_goals first | done | assumption | (simp [J_net, funext_iff, gI_sI, gI_sL, gL_sI, gL_sL] at * <;> and_intros <;> grind (splits := 20) [gI_sI, inb_3, inb_6, inb_8, inb_16, inb_40, inb_42, bit0, bit1, bit_of, ix_succ, ofNat_ix, ixl_16]) | grind (splits := 20) [gI_sI, inb_3, inb_6, inb_8, inb_16, inb_40, inb_42, bit0, bit1, bit_of, ix_succ, ofNat_ix, ixl_16]

theorem op_frost (a1 a2 : Int32) (s : mS) (h_things : J_things s) (hb : a2 = 0 ∨ a2 = 1) : ok_G_frost a1 a2 s ∧ ok_M_frost a1 a2 (f_G_frost a1 a2 s).2 ∧ (f_G_frost a1 a2 s).1 = (f_M_frost a1 a2 (f_G_frost a1 a2 s).2).1 ∧ J_things (f_M_frost a1 a2 (f_G_frost a1 a2 s).2).2 := by
  have k_things := h_things
  unfold J_things at k_things
  try simp only [funext_iff] at k_things
  by_cases c0 : 0 ≤ a1 ∧ a1 < gI s 12 12 ∧ a1 < 40 ∧ gI s 14 (ix a1) = 0
  rotate_left
  · have m0 : ¬ (0 ≤ a1 ∧ a1 ≤ gI s 116 8 - 1 ∧ gI s 133 (ix a1) = 0) := by grind
    refine ⟨?_, ?_, ?_, ?_⟩ <;> simp only [f_G_frost, f_M_frost, ok_G_frost, ok_M_frost, ok_M_isHouse, mq_let_e, mq_letP_e, z_within, z_isIn, z_wcoal, z_mcoal, z_has, z_pipe, z_tha, z_isA, z_node, z_thing, z_house, o_mcoal, o_node, o_thing, o_isA, bit_isIn, ite_not, true_and, and_true, c0, m0, if_true, if_false, not_true_eq_false, not_false_eq_true]
    all_goals first | done | assumption | grind (splits := 20) [gI_sI, inb_3, inb_6, inb_8, inb_16, inb_40, inb_42, bit0, bit1, bit_of, ix_succ, ofNat_ix, ixl_16]
  have m0 : 0 ≤ a1 ∧ a1 ≤ gI s 116 8 - 1 ∧ gI s 133 (ix a1) = 0 := by grind
  by_cases c1 : gI s 18 (ix a1) = a2
  · have m1 : gI s 141 (ix a1) = a2 := by grind
    refine ⟨?_, ?_, ?_, ?_⟩ <;> simp only [f_G_frost, f_M_frost, ok_G_frost, ok_M_frost, ok_M_isHouse, mq_let_e, mq_letP_e, z_within, z_isIn, z_wcoal, z_mcoal, z_has, z_pipe, z_tha, z_isA, z_node, z_thing, z_house, o_mcoal, o_node, o_thing, o_isA, bit_isIn, ite_not, true_and, and_true, c0, m0, c1, m1, if_true, if_false, not_true_eq_false, not_false_eq_true]
    all_goals first | done | assumption | grind (splits := 20) [gI_sI, inb_3, inb_6, inb_8, inb_16, inb_40, inb_42, bit0, bit1, bit_of, ix_succ, ofNat_ix, ixl_16]
  have m1 : ¬ (gI s 141 (ix a1) = a2) := by grind
  refine ⟨?_, ?_, ?_, ?_⟩ <;> simp only [f_G_frost, f_M_frost, ok_G_frost, ok_M_frost, ok_M_isHouse, mq_let_e, mq_letP_e, z_within, z_isIn, z_wcoal, z_mcoal, z_has, z_pipe, z_tha, z_isA, z_node, z_thing, z_house, o_mcoal, o_node, o_thing, o_isA, bit_isIn, ite_not, true_and, and_true, c0, m0, c1, m1, gI_sI, gI_sL, gL_sI, gL_sL, false_and, and_false, and_self, Nat.reduceEqDiff, reduceIte, if_true, if_false, not_true_eq_false, not_false_eq_true]
  all_goals first | done | assumption | (simp [J_things, funext_iff, gI_sI, gI_sL, gL_sI, gL_sL] at * <;> and_intros <;> grind (splits := 20) [gI_sI, inb_3, inb_6, inb_8, inb_16, inb_40, inb_42, bit0, bit1, bit_of, ix_succ, ofNat_ix, ixl_16]) | grind (splits := 20) [gI_sI, inb_3, inb_6, inb_8, inb_16, inb_40, inb_42, bit0, bit1, bit_of, ix_succ, ofNat_ix, ixl_16]

theorem op_sees (a1 a2 : Int32) (s : mS) (h_net : J_net s) (h_eyes : J_eyes s)  : ok_G_sees a1 a2 s ∧ ok_M_sees a1 a2 (f_G_sees a1 a2 s).2 ∧ (f_G_sees a1 a2 s).1 = (f_M_sees a1 a2 (f_G_sees a1 a2 s).2).1 ∧ J_eyes (f_M_sees a1 a2 (f_G_sees a1 a2 s).2).2 := by
  have k_net := h_net
  unfold J_net at k_net
  try simp only [funext_iff] at k_net
  have k_eyes := h_eyes
  unfold J_eyes at k_eyes
  try simp only [funext_iff] at k_eyes
  by_cases c0 : 0 < a1 ∧ a1 < gI s 25 10 ∧ a1 < 16
  rotate_left
  · have m0 : ¬ (1 ≤ a1 ∧ a1 ≤ gI s 116 7 - 1) := by grind
    refine ⟨?_, ?_, ?_, ?_⟩ <;> simp only [f_G_sees, f_M_sees, ok_G_sees, ok_M_sees, mq_let_e, mq_letP_e, z_within, z_isIn, z_wcoal, z_mcoal, z_has, z_pipe, z_tha, z_isA, z_node, z_thing, z_house, o_mcoal, o_node, o_thing, o_isA, bit_isIn, ite_not, true_and, and_true, c0, m0, if_true, if_false, not_true_eq_false, not_false_eq_true]
    all_goals first | done | assumption | grind (splits := 20) [gI_sI, inb_3, inb_6, inb_8, inb_16, inb_40, inb_42, bit0, bit1, bit_of, ix_succ, ofNat_ix, ixl_16]
  have m0 : 1 ≤ a1 ∧ a1 ≤ gI s 116 7 - 1 := by grind
  by_cases c1 : -1 ≤ a2 ∧ a2 ≤ 1
  rotate_left
  · refine ⟨?_, ?_, ?_, ?_⟩ <;> simp only [f_G_sees, f_M_sees, ok_G_sees, ok_M_sees, mq_let_e, mq_letP_e, z_within, z_isIn, z_wcoal, z_mcoal, z_has, z_pipe, z_tha, z_isA, z_node, z_thing, z_house, o_mcoal, o_node, o_thing, o_isA, bit_isIn, ite_not, true_and, and_true, c0, m0, c1, if_true, if_false, not_true_eq_false, not_false_eq_true]
    all_goals first | done | assumption | grind (splits := 20) [gI_sI, inb_3, inb_6, inb_8, inb_16, inb_40, inb_42, bit0, bit1, bit_of, ix_succ, ofNat_ix, ixl_16]
  refine ⟨?_, ?_, ?_, ?_⟩ <;> simp only [f_G_sees, f_M_sees, ok_G_sees, ok_M_sees, mq_let_e, mq_letP_e, z_within, z_isIn, z_wcoal, z_mcoal, z_has, z_pipe, z_tha, z_isA, z_node, z_thing, z_house, o_mcoal, o_node, o_thing, o_isA, bit_isIn, ite_not, true_and, and_true, c0, m0, c1, gI_sI, gI_sL, gL_sI, gL_sL, false_and, and_false, and_self, Nat.reduceEqDiff, reduceIte, if_true, if_false, not_true_eq_false, not_false_eq_true]
  all_goals first | done | assumption | (simp [J_eyes, funext_iff, gI_sI, gI_sL, gL_sI, gL_sL] at * <;> and_intros <;> grind (splits := 20) [gI_sI, inb_3, inb_6, inb_8, inb_16, inb_40, inb_42, bit0, bit1, bit_of, ix_succ, ofNat_ix, ixl_16]) | grind (splits := 20) [gI_sI, inb_3, inb_6, inb_8, inb_16, inb_40, inb_42, bit0, bit1, bit_of, ix_succ, ofNat_ix, ixl_16]

theorem op_work (a1 a2 a3 : Int32) (s : mS) (h_net : J_net s) (h_impr : J_impr s)  : ok_G_work a1 a2 a3 s ∧ ok_M_work a1 a2 a3 (f_G_work a1 a2 a3 s).2 ∧ (f_G_work a1 a2 a3 s).1 = (f_M_work a1 a2 a3 (f_G_work a1 a2 a3 s).2).1 ∧ J_impr (f_M_work a1 a2 a3 (f_G_work a1 a2 a3 s).2).2 := by
  have k_net := h_net
  unfold J_net at k_net
  try simp only [funext_iff] at k_net
  have k_impr := h_impr
  unfold J_impr at k_impr
  try simp only [funext_iff] at k_impr
  by_cases c0 : 0 < a1 ∧ a1 < gI s 25 10 ∧ a1 < 16
  rotate_left
  · have m0 : ¬ (1 ≤ a1 ∧ a1 ≤ gI s 116 7 - 1) := by grind
    refine ⟨?_, ?_, ?_, ?_⟩ <;> simp only [f_G_work, f_M_work, ok_G_work, ok_M_work, f_Improvements_offer, ok_Improvements_offer, mq_let_e, mq_letP_e, z_within, z_isIn, z_wcoal, z_mcoal, z_has, z_pipe, z_tha, z_isA, z_node, z_thing, z_house, o_mcoal, o_node, o_thing, o_isA, bit_isIn, ite_not, true_and, and_true, c0, m0, if_true, if_false, not_true_eq_false, not_false_eq_true]
    all_goals first | done | assumption | grind (splits := 20) [gI_sI, inb_3, inb_6, inb_8, inb_16, inb_40, inb_42, bit0, bit1, bit_of, ix_succ, ofNat_ix, ixl_16]
  have m0 : 1 ≤ a1 ∧ a1 ≤ gI s 116 7 - 1 := by grind
  by_cases c1 : 1 ≤ a2 ∧ a2 ≤ 9
  rotate_left
  · refine ⟨?_, ?_, ?_, ?_⟩ <;> simp only [f_G_work, f_M_work, ok_G_work, ok_M_work, f_Improvements_offer, ok_Improvements_offer, mq_let_e, mq_letP_e, z_within, z_isIn, z_wcoal, z_mcoal, z_has, z_pipe, z_tha, z_isA, z_node, z_thing, z_house, o_mcoal, o_node, o_thing, o_isA, bit_isIn, ite_not, true_and, and_true, c0, m0, c1, if_true, if_false, not_true_eq_false, not_false_eq_true]
    all_goals first | done | assumption | grind (splits := 20) [gI_sI, inb_3, inb_6, inb_8, inb_16, inb_40, inb_42, bit0, bit1, bit_of, ix_succ, ofNat_ix, ixl_16]
  by_cases c2 : 1 ≤ a3 ∧ a3 ≤ 999
  rotate_left
  · refine ⟨?_, ?_, ?_, ?_⟩ <;> simp only [f_G_work, f_M_work, ok_G_work, ok_M_work, f_Improvements_offer, ok_Improvements_offer, mq_let_e, mq_letP_e, z_within, z_isIn, z_wcoal, z_mcoal, z_has, z_pipe, z_tha, z_isA, z_node, z_thing, z_house, o_mcoal, o_node, o_thing, o_isA, bit_isIn, ite_not, true_and, and_true, c0, m0, c1, c2, if_true, if_false, not_true_eq_false, not_false_eq_true]
    all_goals first | done | assumption | grind (splits := 20) [gI_sI, inb_3, inb_6, inb_8, inb_16, inb_40, inb_42, bit0, bit1, bit_of, ix_succ, ofNat_ix, ixl_16]
  by_cases c3 : gI s 111 4 < 8
  rotate_left
  · have m3 : ¬ (¬ gI s 116 103 = 8) := by grind
    refine ⟨?_, ?_, ?_, ?_⟩ <;> simp only [f_G_work, f_M_work, ok_G_work, ok_M_work, f_Improvements_offer, ok_Improvements_offer, mq_let_e, mq_letP_e, z_within, z_isIn, z_wcoal, z_mcoal, z_has, z_pipe, z_tha, z_isA, z_node, z_thing, z_house, o_mcoal, o_node, o_thing, o_isA, bit_isIn, ite_not, true_and, and_true, c0, m0, c1, c2, c3, m3, if_true, if_false, not_true_eq_false, not_false_eq_true]
    all_goals first | done | assumption | grind (splits := 20) [gI_sI, inb_3, inb_6, inb_8, inb_16, inb_40, inb_42, bit0, bit1, bit_of, ix_succ, ofNat_ix, ixl_16]
  have m3 : ¬ gI s 116 103 = 8 := by grind
  refine ⟨?_, ?_, ?_, ?_⟩ <;> simp only [f_G_work, f_M_work, ok_G_work, ok_M_work, f_Improvements_offer, ok_Improvements_offer, mq_let_e, mq_letP_e, z_within, z_isIn, z_wcoal, z_mcoal, z_has, z_pipe, z_tha, z_isA, z_node, z_thing, z_house, o_mcoal, o_node, o_thing, o_isA, bit_isIn, ite_not, true_and, and_true, c0, m0, c1, c2, c3, m3, gI_sI, gI_sL, gL_sI, gL_sL, false_and, and_false, and_self, Nat.reduceEqDiff, reduceIte, if_true, if_false, not_true_eq_false, not_false_eq_true]
  all_goals first | done | assumption | (simp [J_impr, funext_iff, gI_sI, gI_sL, gL_sI, gL_sL] at * <;> and_intros <;> grind (splits := 20) [gI_sI, inb_3, inb_6, inb_8, inb_16, inb_40, inb_42, bit0, bit1, bit_of, ix_succ, ofNat_ix, ixl_16]) | grind (splits := 20) [gI_sI, inb_3, inb_6, inb_8, inb_16, inb_40, inb_42, bit0, bit1, bit_of, ix_succ, ofNat_ix, ixl_16]

theorem op_at (a1 a2 : Int32) (s : mS) (h_net : J_net s) (h_was : J_was s)  : ok_G_at a1 a2 s ∧ ok_M_at a1 a2 s ∧ (f_G_at a1 a2 s) = (f_M_at a1 a2 s) := by
  have k_net := h_net
  unfold J_net at k_net
  try simp only [funext_iff] at k_net
  have k_was := h_was
  unfold J_was at k_was
  try simp only [funext_iff] at k_was
  by_cases c0 : 0 ≤ a1 ∧ a1 < gI s 25 10 ∧ a1 < 16
  rotate_left
  · have m0 : ¬ (0 ≤ a1 ∧ a1 ≤ gI s 116 7 - 1) := by grind
    refine ⟨?_, ?_, ?_⟩ <;> simp only [f_G_at, f_M_at, ok_G_at, ok_M_at, mq_let_e, mq_letP_e, z_within, z_isIn, z_wcoal, z_mcoal, z_has, z_pipe, z_tha, z_isA, z_node, z_thing, z_house, o_mcoal, o_node, o_thing, o_isA, bit_isIn, ite_not, true_and, and_true, c0, m0, if_true, if_false, not_true_eq_false, not_false_eq_true]
    all_goals first | done | assumption | grind (splits := 20) [gI_sI, inb_3, inb_6, inb_8, inb_16, inb_40, inb_42, bit0, bit1, bit_of, ix_succ, ofNat_ix, ixl_16]
  have m0 : 0 ≤ a1 ∧ a1 ≤ gI s 116 7 - 1 := by grind
  refine ⟨?_, ?_, ?_⟩ <;> simp only [f_G_at, f_M_at, ok_G_at, ok_M_at, mq_let_e, mq_letP_e, z_within, z_isIn, z_wcoal, z_mcoal, z_has, z_pipe, z_tha, z_isA, z_node, z_thing, z_house, o_mcoal, o_node, o_thing, o_isA, bit_isIn, ite_not, true_and, and_true, c0, m0, gI_sI, gI_sL, gL_sI, gL_sL, false_and, and_false, and_self, Nat.reduceEqDiff, reduceIte, if_true, if_false, not_true_eq_false, not_false_eq_true]
  all_goals first | done | assumption | (simp [funext_iff, gI_sI, gI_sL, gL_sI, gL_sL] at * <;> and_intros <;> grind (splits := 20) [gI_sI, inb_3, inb_6, inb_8, inb_16, inb_40, inb_42, bit0, bit1, bit_of, ix_succ, ofNat_ix, ixl_16]) | grind (splits := 20) [gI_sI, inb_3, inb_6, inb_8, inb_16, inb_40, inb_42, bit0, bit1, bit_of, ix_succ, ofNat_ix, ixl_16]

theorem op_end (a1 : Int32) (s : mS) (h_tape : J_tape s)  : True ∧ True ∧ (f_G_end a1 s).1 = (f_M_end a1 (f_G_end a1 s).2).1 ∧ J_tape (f_M_end a1 (f_G_end a1 s).2).2 := by
  have k_tape := h_tape
  unfold J_tape at k_tape
  try simp only [funext_iff] at k_tape
  by_cases c0 : 0 ≤ a1 ∧ a1 ≤ gI s 36 5
  rotate_left
  · have m0 : ¬ (0 ≤ a1 ∧ a1 ≤ gI s 116 80) := by grind
    refine ⟨?_, ?_, ?_, ?_⟩ <;> simp only [f_G_end, f_M_end, mq_let_e, mq_letP_e, z_within, z_isIn, z_wcoal, z_mcoal, z_has, z_pipe, z_tha, z_isA, z_node, z_thing, z_house, o_mcoal, o_node, o_thing, o_isA, bit_isIn, ite_not, true_and, and_true, c0, m0, if_true, if_false, not_true_eq_false, not_false_eq_true]
    all_goals first | done | assumption | grind (splits := 20) [gI_sI, inb_3, inb_6, inb_8, inb_16, inb_40, inb_42, bit0, bit1, bit_of, ix_succ, ofNat_ix, ixl_16]
  have m0 : 0 ≤ a1 ∧ a1 ≤ gI s 116 80 := by grind
  refine ⟨?_, ?_, ?_, ?_⟩ <;> simp only [f_G_end, f_M_end, mq_let_e, mq_letP_e, z_within, z_isIn, z_wcoal, z_mcoal, z_has, z_pipe, z_tha, z_isA, z_node, z_thing, z_house, o_mcoal, o_node, o_thing, o_isA, bit_isIn, ite_not, true_and, and_true, c0, m0, gI_sI, gI_sL, gL_sI, gL_sL, false_and, and_false, and_self, Nat.reduceEqDiff, reduceIte, if_true, if_false, not_true_eq_false, not_false_eq_true]
  all_goals first | done | assumption | (simp [J_tape, funext_iff, gI_sI, gI_sL, gL_sI, gL_sL] at * <;> and_intros <;> grind (splits := 20) [gI_sI, inb_3, inb_6, inb_8, inb_16, inb_40, inb_42, bit0, bit1, bit_of, ix_succ, ofNat_ix, ixl_16]) | grind (splits := 20) [gI_sI, inb_3, inb_6, inb_8, inb_16, inb_40, inb_42, bit0, bit1, bit_of, ix_succ, ofNat_ix, ixl_16]

theorem op_fault (a1 : Int32) (s : mS) (h_tape : J_tape s)  : True ∧ True ∧ (f_G_fault a1 s) = (f_M_fault a1 s) := by
  have k_tape := h_tape
  unfold J_tape at k_tape
  try simp only [funext_iff] at k_tape
  refine ⟨?_, ?_, ?_⟩ <;> simp only [f_G_fault, f_M_fault, mq_let_e, mq_letP_e, z_within, z_isIn, z_wcoal, z_mcoal, z_has, z_pipe, z_tha, z_isA, z_node, z_thing, z_house, o_mcoal, o_node, o_thing, o_isA, bit_isIn, ite_not, true_and, and_true, gI_sI, gI_sL, gL_sI, gL_sL, false_and, and_false, and_self, Nat.reduceEqDiff, reduceIte, if_true, if_false, not_true_eq_false, not_false_eq_true]
  all_goals first | done | assumption | (simp [funext_iff, gI_sI, gI_sL, gL_sI, gL_sL] at * <;> and_intros <;> grind (splits := 20) [gI_sI, inb_3, inb_6, inb_8, inb_16, inb_40, inb_42, bit0, bit1, bit_of, ix_succ, ofNat_ix, ixl_16]) | grind (splits := 20) [gI_sI, inb_3, inb_6, inb_8, inb_16, inb_40, inb_42, bit0, bit1, bit_of, ix_succ, ofNat_ix, ixl_16]
