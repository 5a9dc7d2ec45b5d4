/-! ALL CALLS, the seven that need more. By program and by hand. -/
theorem ix_le_N {x : Int32} {N : Nat} (hN : N < 2147483647) (h0 : 0 ≤ x) (h : x ≤ Int32.ofNat N) : ix x ≤ N := by
  have := ix_lt (i := x) (n := N + 1) (by omega) h0 (Int32.lt_of_le_of_lt h ((ofNat_lt (a := N) (b := N + 1) (by omega) (by omega)).mpr (by omega)))
  omega
theorem M_thing_sh (a1 a2 a3 a4 : Int32) (s : mS) : (f_M_thing a1 a2 a3 a4 s).2 = s ∨ (¬ gI s 116 8 = 40 ∧ (f_M_thing a1 a2 a3 a4 s).2 = sI (sI (sI (sI (sI s 132 (ix (gI s 116 8)) a1) 133 (ix (gI s 116 8)) a2) 134 (ix (gI s 116 8)) a3) 135 (ix (gI s 116 8)) a4) 116 8 ((gI s 116 8) + 1)) := by
  unfold f_M_thing
  simp only [mq_let_e]
  by_cases c1 : f_M_isNode a1 s = 0
  · rw [if_pos c1]; exact Or.inl rfl
  rw [if_neg c1]
  by_cases c2 : f_M_isIn a2 0 3 s = 0
  · rw [if_pos c2]; exact Or.inl rfl
  rw [if_neg c2]
  by_cases c3 : f_M_isIn a3 0 99 s = 0
  · rw [if_pos c3]; exact Or.inl rfl
  rw [if_neg c3]
  by_cases c4 : f_M_isIn a4 0 (if a2 = 1 then 15 else 0) s = 0
  · rw [if_pos c4]; exact Or.inl rfl
  rw [if_neg c4]
  by_cases c5 : gI s 116 8 = 40
  · rw [if_pos c5]; exact Or.inl rfl
  rw [if_neg c5]
  exact Or.inr ⟨c5, rfl⟩
theorem jb_thing {s : mS} {a1 a2 a3 a4 : Int32} (h : J_books s) (h0 : 0 ≤ gI s 116 8) (h4 : gI s 116 8 < 40) : J_books (sI (sI (sI (sI (sI s 132 (ix (gI s 116 8)) a1) 133 (ix (gI s 116 8)) a2) 134 (ix (gI s 116 8)) a3) 135 (ix (gI s 116 8)) a4) 116 8 ((gI s 116 8) + 1)) := by
  generalize ht : (sI (sI (sI (sI (sI s 132 (ix (gI s 116 8)) a1) 133 (ix (gI s 116 8)) a2) 134 (ix (gI s 116 8)) a3) 135 (ix (gI s 116 8)) a4) 116 8 ((gI s 116 8) + 1)) = t
  have hf : fp [132, 133, 134, 135] [(116, 8)] false s t := by
    rw [← ht]
    exact fp_IF (fp_IA (fp_IA (fp_IA (fp_IA fp_r (by decide)) (by decide)) (by decide)) (by decide)) (by decide)
  have e8 : gI t 116 8 = gI s 116 8 + 1 := by rw [← ht, gI_sI, if_pos ⟨rfl, rfl⟩]
  have e133 : ∀ j, ¬ j = ix (gI s 116 8) → gI t 133 j = gI s 133 j := by
    intro j hj
    rw [← ht]
    rw [gI_sI, if_neg (by omega), gI_sI, if_neg (by omega), gI_sI, if_neg (by omega), gI_sI, if_neg (by omega), gI_sI, if_neg (by omega)]
  unfold J_books at h ⊢
  simp only [(fpA hf (by decide : fpda [132, 133, 134, 135] [(116, 8)] false 83 = true)).1, (fpA hf (by decide : fpda [132, 133, 134, 135] [(116, 8)] false 84 = true)).1, (fpA hf (by decide : fpda [132, 133, 134, 135] [(116, 8)] false 85 = true)).1, (fpA hf (by decide : fpda [132, 133, 134, 135] [(116, 8)] false 86 = true)).1, (fpA hf (by decide : fpda [132, 133, 134, 135] [(116, 8)] false 87 = true)).1, (fpA hf (by decide : fpda [132, 133, 134, 135] [(116, 8)] false 88 = true)).1, (fpA hf (by decide : fpda [132, 133, 134, 135] [(116, 8)] false 91 = true)).1, (fpA hf (by decide : fpda [132, 133, 134, 135] [(116, 8)] false 92 = true)).1, (fpA hf (by decide : fpda [132, 133, 134, 135] [(116, 8)] false 93 = true)).1, (fpA hf (by decide : fpda [132, 133, 134, 135] [(116, 8)] false 150 = true)).1, (fpA hf (by decide : fpda [132, 133, 134, 135] [(116, 8)] false 151 = true)).1, (fpA hf (by decide : fpda [132, 133, 134, 135] [(116, 8)] false 152 = true)).1, (fpA hf (by decide : fpda [132, 133, 134, 135] [(116, 8)] false 153 = true)).1, (fpA hf (by decide : fpda [132, 133, 134, 135] [(116, 8)] false 154 = true)).1, (fpA hf (by decide : fpda [132, 133, 134, 135] [(116, 8)] false 155 = true)).1, (fpA hf (by decide : fpda [132, 133, 134, 135] [(116, 8)] false 156 = true)).1, (fpF hf (by decide : fpd [132, 133, 134, 135] [(116, 8)] false (82, 8) = true)).1, (fpF hf (by decide : fpd [132, 133, 134, 135] [(116, 8)] false (82, 12) = true)).1, (fpF hf (by decide : fpd [132, 133, 134, 135] [(116, 8)] false (116, 1) = true)).1, (fpF hf (by decide : fpd [132, 133, 134, 135] [(116, 8)] false (116, 57) = true)).1, (fpF hf (by decide : fpd [132, 133, 134, 135] [(116, 8)] false (116, 58) = true)).1]
  obtain ⟨h1, h2, h3, h4', h5, h6, h7, h8, h9, h10, h11, h12, h13, h14, h15, h16⟩ := h
  refine ⟨h1, h2, h3, h4', h5, h6, h7, h8, h9, h10, h11, h12, h13, h14, fun r hr => ?_, h16⟩
  obtain ⟨p1, p2, p3⟩ := h15 r hr
  refine ⟨p1, by rw [e8]; grind, ?_⟩
  rw [e133 _ (by
    intro hh
    have : gI s 150 r = gI s 116 8 := by
      rw [← ofNat_ix p1, hh, ofNat_ix h0]
    grind)]
  exact p3
theorem M_sees_sh (a1 a2 : Int32) (s : mS) : (f_M_sees a1 a2 s).2 = s ∨ gI (f_M_sees a1 a2 s).2 116 102 = 0 := by
  unfold f_M_sees
  simp only [mq_let_e]
  by_cases c1 : f_M_isIn a1 1 (gI s 116 7 - 1) s = 0
  · rw [if_pos c1]; exact Or.inl rfl
  rw [if_neg c1]
  by_cases c2 : f_M_isIn a2 (-1) 1 s = 0
  · rw [if_pos c2]; exact Or.inl rfl
  rw [if_neg c2]
  exact Or.inr rfl
theorem coin_sh (a1 a2 : Int32) (s : mS) (h_things : J_things s) : (f_M_coin a1 a2 (f_G_coin a1 a2 s).2).2 = s ∨ ∃ i x, (0 ≤ x ∧ x ≤ 4950) ∧ (f_M_coin a1 a2 (f_G_coin a1 a2 s).2).2 = sI (sI s 19 i (gI s 19 i + x)) 136 i (gI s 136 i + x) := by
  have k_things := h_things
  unfold J_things at k_things
  try simp only [funext_iff] at k_things
  by_cases c0 : 0 ≤ a1 ∧ a1 < gI s 12 12 ∧ a1 < 40
  rotate_left
  · have m0 : ¬ (0 ≤ a1 ∧ a1 ≤ gI s 116 8 - 1) := by grind
    refine Or.inl ?_
    simp only [f_G_coin, f_M_coin, mq_let_e, z_within, z_isIn, z_tha, z_isA, z_thing, z_house, bit_isIn, ite_not, true_and, and_true, c0, m0, if_true, if_false, not_true_eq_false, not_false_eq_true]
    all_goals first | done | assumption | grind (splits := 20) [gI_sI, bit0, bit1, bit_of, ix_succ, ofNat_ix]
  have m0 : 0 ≤ a1 ∧ a1 ≤ gI s 116 8 - 1 := by grind
  by_cases c1 : gI s 14 (ix a1) = 2
  rotate_left
  · have m1 : ¬ (gI s 133 (ix a1) = 2) := by grind
    refine Or.inl ?_
    simp only [f_G_coin, f_M_coin, mq_let_e, z_within, z_isIn, z_tha, z_isA, z_thing, z_house, bit_isIn, ite_not, true_and, and_true, c0, m0, c1, m1, if_true, if_false, not_true_eq_false, not_false_eq_true]
    all_goals first | done | assumption | grind (splits := 20) [gI_sI, bit0, bit1, bit_of, ix_succ, ofNat_ix]
  have m1 : gI s 133 (ix a1) = 2 := by grind
  by_cases c2 : 1 ≤ a2 ∧ a2 ≤ 99
  rotate_left
  · refine Or.inl ?_
    simp only [f_G_coin, f_M_coin, mq_let_e, z_within, z_isIn, z_tha, z_isA, z_thing, z_house, bit_isIn, ite_not, true_and, and_true, c0, m0, c1, m1, c2, if_true, if_false, not_true_eq_false, not_false_eq_true]
    all_goals first | done | assumption | grind (splits := 20) [gI_sI, bit0, bit1, bit_of, ix_succ, ofNat_ix]
  refine Or.inr ⟨ix a1, 50 * a2, ?_, ?_⟩
  · obtain ⟨n, hn, hn2⟩ : ∃ n, a2 = Int32.ofNat n ∧ n ≤ 99 := ⟨ix a2, (ofNat_ix (by grind)).symm, by
      have p0 : 0 ≤ a2 := by grind
      exact ix_le_N (N := 99) (by omega) p0 c2.2⟩
    subst hn
    rw [show (50 : Int32) * Int32.ofNat n = Int32.ofNat (50 * n) from (Int32.ofNat_mul 50 n).symm]
    exact ⟨(ofNat_le (a := 0) (b := 50 * n) (by omega) (by omega)).mpr (by omega), (ofNat_le (a := 50 * n) (b := 4950) (by omega) (by omega)).mpr (by omega)⟩
  · simp only [f_G_coin, f_M_coin, mq_let_e, z_within, z_isIn, z_tha, z_isA, z_thing, z_house, bit_isIn, ite_not, true_and, and_true, c0, m0, c1, m1, c2, gI_sI, gI_sL, gL_sI, gL_sL, false_and, and_false, and_self, Nat.reduceEqDiff, reduceIte, if_true, if_false, not_true_eq_false, not_false_eq_true]
theorem jt_coin {s : mS} {i : Nat} {x : Int32} (h : J_things s) : J_things (sI (sI s 19 i (gI s 19 i + x)) 136 i (gI s 136 i + x)) := by
  generalize ht : (sI (sI s 19 i (gI s 19 i + x)) 136 i (gI s 136 i + x)) = t
  have hf : fp [19, 136] [] false s t := by
    rw [← ht]
    exact fp_IA (fp_IA fp_r (by decide)) (by decide)
  have e : gI s 19 = gI s 136 → gI t 19 = gI t 136 := by
    intro e
    funext j
    rw [← ht, gI_sI, if_neg (by omega), gI_sI, gI_sI, gI_sI, e]
    by_cases hj : j = i
    · rw [if_pos ⟨rfl, hj⟩, if_pos ⟨rfl, hj⟩]
    · rw [if_neg (by omega), if_neg (by omega), if_neg (by omega)]
  unfold J_things at h ⊢
  simp only [(fpA hf (by decide : fpda [19, 136] [] false 13 = true)).1, (fpA hf (by decide : fpda [19, 136] [] false 14 = true)).1, (fpA hf (by decide : fpda [19, 136] [] false 15 = true)).1, (fpA hf (by decide : fpda [19, 136] [] false 16 = true)).1, (fpA hf (by decide : fpda [19, 136] [] false 17 = true)).1, (fpA hf (by decide : fpda [19, 136] [] false 18 = true)).1, (fpA hf (by decide : fpda [19, 136] [] false 20 = true)).1, (fpA hf (by decide : fpda [19, 136] [] false 21 = true)).1, (fpA hf (by decide : fpda [19, 136] [] false 22 = true)).1, (fpA hf (by decide : fpda [19, 136] [] false 132 = true)).1, (fpA hf (by decide : fpda [19, 136] [] false 133 = true)).1, (fpA hf (by decide : fpda [19, 136] [] false 134 = true)).1, (fpA hf (by decide : fpda [19, 136] [] false 135 = true)).1, (fpA hf (by decide : fpda [19, 136] [] false 137 = true)).1, (fpA hf (by decide : fpda [19, 136] [] false 138 = true)).1, (fpA hf (by decide : fpda [19, 136] [] false 140 = true)).1, (fpA hf (by decide : fpda [19, 136] [] false 141 = true)).1, (fpA hf (by decide : fpda [19, 136] [] false 139 = true)).2, (fpF hf (by decide : fpd [19, 136] [] false (12, 12) = true)).1, (fpF hf (by decide : fpd [19, 136] [] false (116, 7) = true)).1, (fpF hf (by decide : fpd [19, 136] [] false (116, 8) = true)).1]
  obtain ⟨h1, h2, h3, h4, h5, h6, h7, h8⟩ := h
  exact ⟨h1, h2, h3, h4, h5, h6, e h7, h8⟩
theorem jc_coin {k : Nat} (hk : k < 600) {s : mS} {i : Nat} {x : Int32} (hx : 0 ≤ x ∧ x ≤ 4950) (h : J_cred k s) : J_cred (k + 1) (sI (sI s 19 i (gI s 19 i + x)) 136 i (gI s 136 i + x)) := by
  intro j
  rw [gI_sI, gI_sI, if_neg (by omega : ¬ (136 = 19 ∧ j = i))]
  by_cases hj : j = i
  · rw [if_pos ⟨rfl, hj⟩]
    have hc := h i
    obtain ⟨m, hm, hm2⟩ : ∃ m, x = Int32.ofNat m ∧ m ≤ 4950 := ⟨ix x, (ofNat_ix hx.1).symm, ix_le_N (N := 4950) (by omega) hx.1 hx.2⟩
    obtain ⟨n, hn, hn2⟩ : ∃ n, gI s 136 i = Int32.ofNat n ∧ n ≤ 5000 * k := ⟨ix (gI s 136 i), (ofNat_ix hc.1).symm, ix_le_N (N := 5000 * k) (by omega) hc.1 hc.2⟩
    rw [hm, hn, ← Int32.ofNat_add]
    exact ⟨(ofNat_le (a := 0) (b := n + m) (by omega) (by omega)).mpr (by omega), (ofNat_le (a := n + m) (b := 5000 * (k + 1)) (by omega) (by omega)).mpr (by omega)⟩
  · rw [if_neg (by omega)]
    exact jc_up hk h j
theorem js_thing {k : Nat} (hk : k < 600) (a1 a2 a3 a4 : Int32) (s : mS) (h : J_at k s) : ok_G_thing a1 a2 a3 a4 s ∧ ok_M_thing a1 a2 a3 a4 (f_G_thing a1 a2 a3 a4 s).2 ∧ (f_G_thing a1 a2 a3 a4 s).1 = (f_M_thing a1 a2 a3 a4 (f_G_thing a1 a2 a3 a4 s).2).1 ∧ J_at (k + 1) (f_M_thing a1 a2 a3 a4 (f_G_thing a1 a2 a3 a4 s).2).2 := by
  obtain ⟨h_sky, h_coal, h_bench, h_level, h_yard, h_gen, h_things, h_net, h_was, h_books, h_money, h_tape, h_impr, h_eyes, h_share, h_acts, h_found, h_cred⟩ := h
  have q := op_thing a1 a2 a3 a4 s h_things h_net
  have e1 := fr_G_thing a1 a2 a3 a4 s
  have e2 := fr_M_thing a1 a2 a3 a4 (f_G_thing a1 a2 a3 a4 s).2
  have qb : J_books (f_M_thing a1 a2 a3 a4 (f_G_thing a1 a2 a3 a4 s).2).2 := by
    have hb1 := jf_books e1 (by decide) h_books
    have h8 : gI (f_G_thing a1 a2 a3 a4 s).2 116 8 = gI s 116 8 := (fpF e1 (by decide)).1
    have kt := h_things
    unfold J_things at kt
    rcases M_thing_sh a1 a2 a3 a4 (f_G_thing a1 a2 a3 a4 s).2 with e | ⟨e, e'⟩
    · rw [e]; exact hb1
    · rw [e']
      rw [h8] at e
      exact jb_thing hb1 (by rw [h8]; exact kt.2.2.2.2.2.2.2.2.2.2.2.1) (by rw [h8]; exact Int32.lt_of_le_of_ne kt.2.2.2.2.2.2.2.2.2.2.2.2.1 e)
  exact ⟨q.1, q.2.1, q.2.2.1, jf_sky e2 (by decide) (jf_sky e1 (by decide) h_sky), jf_coal e2 (by decide) (jf_coal e1 (by decide) h_coal), jf_bench e2 (by decide) (jf_bench e1 (by decide) h_bench), jf_level e2 (by decide) (jf_level e1 (by decide) h_level), jf_yard e2 (by decide) (jf_yard e1 (by decide) h_yard), jf_gen e2 (by decide) (jf_gen e1 (by decide) h_gen), q.2.2.2, jf_net e2 (by decide) (jf_net e1 (by decide) h_net), jf_was e2 (by decide) (jf_was e1 (by decide) h_was), qb, jf_money e2 (by decide) (jf_money e1 (by decide) h_money), jf_tape e2 (by decide) (jf_tape e1 (by decide) h_tape), jf_impr e2 (by decide) (jf_impr e1 (by decide) h_impr), jf_eyes e2 (by decide) (jf_eyes e1 (by decide) h_eyes), jf_share e2 (by decide) (jf_share e1 (by decide) h_share), ja_fp e2 (by decide) (by decide) (ja_fp e1 (by decide) (by decide) h_acts), jf_found e2 (by decide) (jf_found e1 (by decide) h_found), jc_fp hk e2 (by decide) (fun j => by rw [(fpA e1 (by decide : fpda _ _ _ 136 = true)).1]; exact h_cred j)⟩
theorem js_sees {k : Nat} (hk : k < 600) (a1 a2 : Int32) (s : mS) (h : J_at k s) : ok_G_sees a1 a2 s ∧ ok_M_sees a1 a2 (f_G_sees a1 a2 s).2 ∧ (f_G_sees a1 a2 s).1 = (f_M_sees a1 a2 (f_G_sees a1 a2 s).2).1 ∧ J_at (k + 1) (f_M_sees a1 a2 (f_G_sees a1 a2 s).2).2 := by
  obtain ⟨h_sky, h_coal, h_bench, h_level, h_yard, h_gen, h_things, h_net, h_was, h_books, h_money, h_tape, h_impr, h_eyes, h_share, h_acts, h_found, h_cred⟩ := h
  have q := op_sees a1 a2 s h_net h_eyes
  have e1 := fr_G_sees a1 a2 s
  have e2 := fr_M_sees a1 a2 (f_G_sees a1 a2 s).2
  have qf : J_found (f_M_sees a1 a2 (f_G_sees a1 a2 s).2).2 := by
    have hb1 := jf_found e1 (by decide) h_found
    rcases M_sees_sh a1 a2 (f_G_sees a1 a2 s).2 with e | e
    · rw [e]; exact hb1
    · exact Or.inl e
  exact ⟨q.1, q.2.1, q.2.2.1, jf_sky e2 (by decide) (jf_sky e1 (by decide) h_sky), jf_coal e2 (by decide) (jf_coal e1 (by decide) h_coal), jf_bench e2 (by decide) (jf_bench e1 (by decide) h_bench), jf_level e2 (by decide) (jf_level e1 (by decide) h_level), jf_yard e2 (by decide) (jf_yard e1 (by decide) h_yard), jf_gen e2 (by decide) (jf_gen e1 (by decide) h_gen), jf_things e2 (by decide) (jf_things e1 (by decide) h_things), jf_net e2 (by decide) (jf_net e1 (by decide) h_net), jf_was e2 (by decide) (jf_was e1 (by decide) h_was), jf_books e2 (by decide) (jf_books e1 (by decide) h_books), jf_money e2 (by decide) (jf_money e1 (by decide) h_money), jf_tape e2 (by decide) (jf_tape e1 (by decide) h_tape), jf_impr e2 (by decide) (jf_impr e1 (by decide) h_impr), q.2.2.2, jf_share e2 (by decide) (jf_share e1 (by decide) h_share), ja_fp e2 (by decide) (by decide) (ja_fp e1 (by decide) (by decide) h_acts), qf, jc_fp hk e2 (by decide) (fun j => by rw [(fpA e1 (by decide : fpda _ _ _ 136 = true)).1]; exact h_cred j)⟩
theorem js_node {k : Nat} (hk : k < 600) (a1 a2 a3 : Int32) (s : mS) (h : J_at k s) : ok_G_node a1 a2 a3 s ∧ ok_M_node a1 a2 a3 (f_G_node a1 a2 a3 s).2 ∧ (f_G_node a1 a2 a3 s).1 = (f_M_node a1 a2 a3 (f_G_node a1 a2 a3 s).2).1 ∧ J_at (k + 1) (f_M_node a1 a2 a3 (f_G_node a1 a2 a3 s).2).2 := by
  obtain ⟨h_sky, h_coal, h_bench, h_level, h_yard, h_gen, h_things, h_net, h_was, h_books, h_money, h_tape, h_impr, h_eyes, h_share, h_acts, h_found, h_cred⟩ := h
  have q := op_node a1 a2 a3 s h_net h_was h_things h_impr
  unfold nd_R at q
  have e1 := fr_G_node a1 a2 a3 s
  have e2 := fr_M_node a1 a2 a3 (f_G_node a1 a2 a3 s).2
  have qf : J_found (f_M_node a1 a2 a3 (f_G_node a1 a2 a3 s).2).2 := by
    rcases q.2.2.2.2.2.2.2 with e | e
    · rw [e]; exact h_found
    · exact Or.inl e
  exact ⟨q.1, q.2.1, q.2.2.1, jf_sky e2 (by decide) (jf_sky e1 (by decide) h_sky), jf_coal e2 (by decide) (jf_coal e1 (by decide) h_coal), jf_bench e2 (by decide) (jf_bench e1 (by decide) h_bench), jf_level e2 (by decide) (jf_level e1 (by decide) h_level), jf_yard e2 (by decide) (jf_yard e1 (by decide) h_yard), jf_gen e2 (by decide) (jf_gen e1 (by decide) h_gen), q.2.2.2.2.2.1, q.2.2.2.1, q.2.2.2.2.1, jf_books e2 (by decide) (jf_books e1 (by decide) h_books), jf_money e2 (by decide) (jf_money e1 (by decide) h_money), jf_tape e2 (by decide) (jf_tape e1 (by decide) h_tape), q.2.2.2.2.2.2.1, jf_eyes e2 (by decide) (jf_eyes e1 (by decide) h_eyes), jf_share e2 (by decide) (jf_share e1 (by decide) h_share), ja_fp e2 (by decide) (by decide) (ja_fp e1 (by decide) (by decide) h_acts), qf, jc_fp hk e2 (by decide) (fun j => by rw [(fpA e1 (by decide : fpda _ _ _ 136 = true)).1]; exact h_cred j)⟩
theorem js_steps {k : Nat} (hk : k < 600) (a1 : Int32) (s : mS) (h : J_at k s) : ok_G_steps a1 s ∧ ok_M_steps a1 (f_G_steps a1 s).2 ∧ (f_G_steps a1 s).1 = (f_M_steps a1 (f_G_steps a1 s).2).1 ∧ J_at (k + 1) (f_M_steps a1 (f_G_steps a1 s).2).2 := by
  obtain ⟨h_sky, h_coal, h_bench, h_level, h_yard, h_gen, h_things, h_net, h_was, h_books, h_money, h_tape, h_impr, h_eyes, h_share, h_acts, h_found, h_cred⟩ := h
  have q := op_steps a1 s h_bench h_level h_yard h_gen h_things h_net h_was h_sky h_acts h_books h_share (fun t => (h_cred t).1)
  unfold sp_R at q
  have e1 := fr_G_steps a1 s (jP h_acts)
  have e2 := fr_M_steps a1 (f_G_steps a1 s).2
  exact ⟨q.1, q.2.1, q.2.2.1, q.2.2.2.2.2.2.2.2.2.2.1, jf_coal e2 (by decide) (jf_coal e1 (by decide) h_coal), q.2.2.2.1, q.2.2.2.2.1, q.2.2.2.2.2.1, q.2.2.2.2.2.2.1, q.2.2.2.2.2.2.2.1, q.2.2.2.2.2.2.2.2.1, q.2.2.2.2.2.2.2.2.2.1, q.2.2.2.2.2.2.2.2.2.2.2.2.1, jf_money e2 (by decide) (jf_money e1 (by decide) h_money), jf_tape e2 (by decide) (jf_tape e1 (by decide) h_tape), jf_impr e2 (by decide) (jf_impr e1 (by decide) h_impr), jf_eyes e2 (by decide) (jf_eyes e1 (by decide) h_eyes), jf_share e2 (by decide) (jf_share e1 (by decide) h_share), q.2.2.2.2.2.2.2.2.2.2.2.1, jf_found e2 (by decide) (jf_found e1 (by decide) h_found), (fun t => ⟨(q.2.2.2.2.2.2.2.2.2.2.2.2.2 t).1, Int32.le_trans (q.2.2.2.2.2.2.2.2.2.2.2.2.2 t).2 (jc_up hk h_cred t).2⟩)⟩
theorem js_find {k : Nat} (hk : k < 600) (a1 : Int32) (s : mS) (h : J_at k s) : ok_G_find a1 s ∧ ok_M_find a1 (f_G_find a1 s).2 ∧ (f_G_find a1 s).1 = (f_M_find a1 (f_G_find a1 s).2).1 ∧ J_at (k + 1) (f_M_find a1 (f_G_find a1 s).2).2 := by
  obtain ⟨h_sky, h_coal, h_bench, h_level, h_yard, h_gen, h_things, h_net, h_was, h_books, h_money, h_tape, h_impr, h_eyes, h_share, h_acts, h_found, h_cred⟩ := h
  have q := op_find a1 s h_net h_things h_eyes h_found
  have e1 := fr_G_find a1 s
  have e2 := fr_M_find a1 (f_G_find a1 s).2
  exact ⟨q.1, q.2.1, q.2.2.1, jf_sky e2 (by decide) (jf_sky e1 (by decide) h_sky), jf_coal e2 (by decide) (jf_coal e1 (by decide) h_coal), jf_bench e2 (by decide) (jf_bench e1 (by decide) h_bench), jf_level e2 (by decide) (jf_level e1 (by decide) h_level), jf_yard e2 (by decide) (jf_yard e1 (by decide) h_yard), jf_gen e2 (by decide) (jf_gen e1 (by decide) h_gen), jf_things e2 (by decide) (jf_things e1 (by decide) h_things), jf_net e2 (by decide) (jf_net e1 (by decide) h_net), jf_was e2 (by decide) (jf_was e1 (by decide) h_was), jf_books e2 (by decide) (jf_books e1 (by decide) h_books), jf_money e2 (by decide) (jf_money e1 (by decide) h_money), jf_tape e2 (by decide) (jf_tape e1 (by decide) h_tape), jf_impr e2 (by decide) (jf_impr e1 (by decide) h_impr), jf_eyes e2 (by decide) (jf_eyes e1 (by decide) h_eyes), jf_share e2 (by decide) (jf_share e1 (by decide) h_share), ja_fp e2 (by decide) (by decide) (ja_fp e1 (by decide) (by decide) h_acts), q.2.2.2, jc_fp hk e2 (by decide) (fun j => by rw [(fpA e1 (by decide : fpda _ _ _ 136 = true)).1]; exact h_cred j)⟩
theorem js_coin {k : Nat} (hk : k < 600) (a1 a2 : Int32) (s : mS) (h : J_at k s) : ok_G_coin a1 a2 s ∧ ok_M_coin a1 a2 (f_G_coin a1 a2 s).2 ∧ (f_G_coin a1 a2 s).1 = (f_M_coin a1 a2 (f_G_coin a1 a2 s).2).1 ∧ J_at (k + 1) (f_M_coin a1 a2 (f_G_coin a1 a2 s).2).2 := by
  obtain ⟨h_sky, h_coal, h_bench, h_level, h_yard, h_gen, h_things, h_net, h_was, h_books, h_money, h_tape, h_impr, h_eyes, h_share, h_acts, h_found, h_cred⟩ := h
  have q := op_coin a1 a2 s h_things
  have e1 := fr_G_coin a1 a2 s
  have e2 := fr_M_coin a1 a2 (f_G_coin a1 a2 s).2
  have qtc : J_things (f_M_coin a1 a2 (f_G_coin a1 a2 s).2).2 ∧ J_cred (k + 1) (f_M_coin a1 a2 (f_G_coin a1 a2 s).2).2 := by
    rcases coin_sh a1 a2 s h_things with e | ⟨i, x, hx, e⟩
    · rw [e]; exact ⟨h_things, jc_up hk h_cred⟩
    · rw [e]; exact ⟨jt_coin h_things, jc_coin hk hx h_cred⟩
  have qt := qtc.1
  have qc := qtc.2
  exact ⟨q.1, q.2.1, q.2.2, jf_sky e2 (by decide) (jf_sky e1 (by decide) h_sky), jf_coal e2 (by decide) (jf_coal e1 (by decide) h_coal), jf_bench e2 (by decide) (jf_bench e1 (by decide) h_bench), jf_level e2 (by decide) (jf_level e1 (by decide) h_level), jf_yard e2 (by decide) (jf_yard e1 (by decide) h_yard), jf_gen e2 (by decide) (jf_gen e1 (by decide) h_gen), qt, jf_net e2 (by decide) (jf_net e1 (by decide) h_net), jf_was e2 (by decide) (jf_was e1 (by decide) h_was), jf_books e2 (by decide) (jf_books e1 (by decide) h_books), jf_money e2 (by decide) (jf_money e1 (by decide) h_money), jf_tape e2 (by decide) (jf_tape e1 (by decide) h_tape), jf_impr e2 (by decide) (jf_impr e1 (by decide) h_impr), jf_eyes e2 (by decide) (jf_eyes e1 (by decide) h_eyes), jf_share e2 (by decide) (jf_share e1 (by decide) h_share), ja_fp e2 (by decide) (by decide) (ja_fp e1 (by decide) (by decide) h_acts), jf_found e2 (by decide) (jf_found e1 (by decide) h_found), qc⟩
theorem js_act {k : Nat} (hk : k < 600) (a1 a2 : Int32) (s : mS) (h : J_at k s) : ok_G_act a1 a2 s ∧ ok_M_act a1 a2 (f_G_act a1 a2 s).2 ∧ (f_G_act a1 a2 s).1 = (f_M_act a1 a2 (f_G_act a1 a2 s).2).1 ∧ J_at (k + 1) (f_M_act a1 a2 (f_G_act a1 a2 s).2).2 := by
  obtain ⟨h_sky, h_coal, h_bench, h_level, h_yard, h_gen, h_things, h_net, h_was, h_books, h_money, h_tape, h_impr, h_eyes, h_share, h_acts, h_found, h_cred⟩ := h
  have q := op_act a1 a2 s h_tape h_acts
  have e2 := fr_M_act a1 a2 (f_G_act a1 a2 s).2
  have e1 : fp [40, 41, 42, 43, 44, 45, 46, 47, 48, 49, 50, 51, 52, 53, 54, 55, 56, 57, 58, 59, 60, 61, 62, 63, 64, 65, 66, 67, 68, 69, 70, 71, 72, 73, 74, 75, 76, 77, 78, 79, 80, 81] [(36, 5), (36, 6), (36, 7)] false s ((f_G_act a1 a2 s).2.1, (f_G_act a1 a2 s).2.2.1, s.2.2) := by
    refine ⟨fun c h1 _ j h3 => ⟨q.2.2.2.2.2.1 c j ?_ ?_, q.2.2.2.2.2.2 c j ?_⟩, rfl⟩
    · simp only [List.mem_cons, List.not_mem_nil, or_false] at h1
      omega
    · simp only [List.mem_cons, List.not_mem_nil, or_false, Prod.mk.injEq] at h3
      omega
    · intro hc
      exact h1 (by rw [hc]; decide)
  exact ⟨q.1, q.2.1, q.2.2.1, jf_sky e2 (by decide) (show J_sky (f_G_act a1 a2 s).2 from (jf_sky e1 (by decide) h_sky : J_sky ((f_G_act a1 a2 s).2.1, (f_G_act a1 a2 s).2.2.1, s.2.2))), jf_coal e2 (by decide) (show J_coal (f_G_act a1 a2 s).2 from (jf_coal e1 (by decide) h_coal : J_coal ((f_G_act a1 a2 s).2.1, (f_G_act a1 a2 s).2.2.1, s.2.2))), jf_bench e2 (by decide) (show J_bench (f_G_act a1 a2 s).2 from (jf_bench e1 (by decide) h_bench : J_bench ((f_G_act a1 a2 s).2.1, (f_G_act a1 a2 s).2.2.1, s.2.2))), jf_level e2 (by decide) (show J_level (f_G_act a1 a2 s).2 from (jf_level e1 (by decide) h_level : J_level ((f_G_act a1 a2 s).2.1, (f_G_act a1 a2 s).2.2.1, s.2.2))), jf_yard e2 (by decide) (show J_yard (f_G_act a1 a2 s).2 from (jf_yard e1 (by decide) h_yard : J_yard ((f_G_act a1 a2 s).2.1, (f_G_act a1 a2 s).2.2.1, s.2.2))), jf_gen e2 (by decide) (show J_gen (f_G_act a1 a2 s).2 from (jf_gen e1 (by decide) h_gen : J_gen ((f_G_act a1 a2 s).2.1, (f_G_act a1 a2 s).2.2.1, s.2.2))), jf_things e2 (by decide) (show J_things (f_G_act a1 a2 s).2 from (jf_things e1 (by decide) h_things : J_things ((f_G_act a1 a2 s).2.1, (f_G_act a1 a2 s).2.2.1, s.2.2))), jf_net e2 (by decide) (show J_net (f_G_act a1 a2 s).2 from (jf_net e1 (by decide) h_net : J_net ((f_G_act a1 a2 s).2.1, (f_G_act a1 a2 s).2.2.1, s.2.2))), jf_was e2 (by decide) (show J_was (f_G_act a1 a2 s).2 from (jf_was e1 (by decide) h_was : J_was ((f_G_act a1 a2 s).2.1, (f_G_act a1 a2 s).2.2.1, s.2.2))), jf_books e2 (by decide) (show J_books (f_G_act a1 a2 s).2 from (jf_books e1 (by decide) h_books : J_books ((f_G_act a1 a2 s).2.1, (f_G_act a1 a2 s).2.2.1, s.2.2))), jf_money e2 (by decide) (show J_money (f_G_act a1 a2 s).2 from (jf_money e1 (by decide) h_money : J_money ((f_G_act a1 a2 s).2.1, (f_G_act a1 a2 s).2.2.1, s.2.2))), q.2.2.2.1, jf_impr e2 (by decide) (show J_impr (f_G_act a1 a2 s).2 from (jf_impr e1 (by decide) h_impr : J_impr ((f_G_act a1 a2 s).2.1, (f_G_act a1 a2 s).2.2.1, s.2.2))), jf_eyes e2 (by decide) (show J_eyes (f_G_act a1 a2 s).2 from (jf_eyes e1 (by decide) h_eyes : J_eyes ((f_G_act a1 a2 s).2.1, (f_G_act a1 a2 s).2.2.1, s.2.2))), jf_share e2 (by decide) (show J_share (f_G_act a1 a2 s).2 from (jf_share e1 (by decide) h_share : J_share ((f_G_act a1 a2 s).2.1, (f_G_act a1 a2 s).2.2.1, s.2.2))), q.2.2.2.2.1, jf_found e2 (by decide) (show J_found (f_G_act a1 a2 s).2 from (jf_found e1 (by decide) h_found : J_found ((f_G_act a1 a2 s).2.1, (f_G_act a1 a2 s).2.2.1, s.2.2))), jc_fp hk e2 (by decide) (s := (f_G_act a1 a2 s).2) (fun j => by rw [q.2.2.2.2.2.1 136 j (by omega) (by omega)]; exact h_cred j)⟩
