/-! MORE CALLS: charge, sell, look, of. -/
theorem tons_rng {a g M : Int32} (h1 : 1 ≤ a) (h2 : a ≤ 9) (g0 : 0 ≤ g) (g1 : g ≤ M) (hM : M.toInt ≤ 1000) : 0 ≤ a * g ∧ (a * g).toInt ≤ 9 * M.toInt := by
  have z0 := toInt_0
  have z1 : (1 : Int32).toInt = 1 := rfl
  have z9 : (9 : Int32).toInt = 9 := rfl
  rw [le_toInt] at h1 h2 g0 g1
  have p0 : 0 ≤ a.toInt * g.toInt := Int.mul_nonneg (by omega) (by omega)
  have p1 : a.toInt * g.toInt ≤ 9 * M.toInt := Int.mul_le_mul (by omega) g1 (by omega) (by omega)
  have d : (a * g).toInt = a.toInt * g.toInt := by rw [mul_nn] <;> omega
  rw [le_toInt, d]
  exact ⟨by omega, p1⟩
theorem up_rg {p : Nat → Int32} {i : Nat} {x a b : Int32} (h : ∀ n, a ≤ p n ∧ p n ≤ b) (ha : a ≤ x) (hb : x ≤ b) : ∀ n, a ≤ (if n = i then x else p n) ∧ (if n = i then x else p n) ≤ b := by
  intro n
  split
  · exact ⟨ha, hb⟩
  · exact h n
theorem le_of_toInt {x : Int32} {b : Nat} (h : x.toInt ≤ b) (hb : b < 2147483648) : x ≤ Int32.ofNat b := by
  rw [le_toInt, toInt_ofNat hb]
  exact h
def ch_R (a1 a2 a3 : Int32) (s : mS) : Prop := ok_G_charge a1 a2 a3 s ∧ ok_M_charge a1 a2 a3 (f_G_charge a1 a2 a3 s).2 ∧ (f_G_charge a1 a2 a3 s).1 = (f_M_charge a1 a2 a3 (f_G_charge a1 a2 a3 s).2).1 ∧ J_coal (f_M_charge a1 a2 a3 (f_G_charge a1 a2 a3 s).2).2 ∧ J_bench (f_M_charge a1 a2 a3 (f_G_charge a1 a2 a3 s).2).2
theorem ch_F {a1 a2 a3 : Int32} {s : mS} (h_coal : J_coal s) (h_bench : J_bench s) (eG : f_G_charge a1 a2 a3 s = (-1, s)) (eM : f_M_charge a1 a2 a3 s = (-1, s)) (oG : ok_G_charge a1 a2 a3 s) (oM : ok_M_charge a1 a2 a3 s) : ch_R a1 a2 a3 s := by
  unfold ch_R
  rw [eG]
  show _ ∧ ok_M_charge a1 a2 a3 s ∧ (-1 : Int32) = (f_M_charge a1 a2 a3 s).1 ∧ J_coal (f_M_charge a1 a2 a3 s).2 ∧ J_bench (f_M_charge a1 a2 a3 s).2
  rw [eM]
  exact ⟨oG, oM, rfl, h_coal, h_bench⟩
theorem op_charge (a1 a2 a3 : Int32) (s : mS) (h_coal : J_coal s) (h_bench : J_bench s) : ch_R a1 a2 a3 s := by
  have k := h_coal
  unfold J_coal at k
  obtain ⟨k1, k2, k3, k4, k5, k6, k7, k8⟩ := k
  have b := h_bench
  unfold J_bench at b
  obtain ⟨b1, b2, b3, b4, b5, b6, b7, b8, b9, b10, b11, b12, b13, b14, b15, b16, b17, b18⟩ := b
  by_cases c0 : 0 ≤ a1 ∧ a1 < gI s 3 8
  rotate_left
  · have m0 : ¬ (0 ≤ a1 ∧ a1 ≤ gI s 116 4 - 1) := by grind
    have q : a1 < 0 ∨ gI s 3 8 ≤ a1 := by grind
    rcases q with q | q
    · refine ch_F h_coal h_bench ?_ ?_ ?_ ?_ <;> simp only [f_G_charge, f_M_charge, ok_G_charge, ok_M_charge, f_Works_light, ok_Works_light, mq_let_e, mq_letP_e, z_isIn, ite_not, m0, q, if_true, if_false, true_and]
    · refine ch_F h_coal h_bench ?_ ?_ ?_ ?_ <;> simp only [f_G_charge, f_M_charge, ok_G_charge, ok_M_charge, f_Works_light, ok_Works_light, mq_let_e, mq_letP_e, z_isIn, ite_not, m0, q, if_true, if_false, true_and, ite_self]
  have m0 : 0 ≤ a1 ∧ a1 ≤ gI s 116 4 - 1 := by grind
  have n0 : ¬ a1 < 0 := by grind
  have n1 : ¬ gI s 3 8 ≤ a1 := by grind
  have n2 : ¬ (6 : Int32) ≤ a1 := by grind
  have hix : ix a1 < 6 := ixl_6 c0.1 (by grind)
  have i6 : mm_inb a1 6 = true := inb_6 c0.1 (by grind)
  by_cases c1 : 0 ≤ a2 ∧ a2 ≤ 2
  rotate_left
  · refine ch_F h_coal h_bench ?_ ?_ ?_ ?_ <;> simp only [f_G_charge, f_M_charge, ok_G_charge, ok_M_charge, f_Works_light, ok_Works_light, mq_let_e, mq_letP_e, z_isIn, z_wcoal, z_mcoal, o_mcoal, ite_not, m0, n0, n1, n2, c1, and_self, if_true, if_false, true_and]
  have i3 : mm_inb a2 3 = true := inb_3 c1.1 (by grind)
  have e4 := b4 (ix a1) hix
  have e5 := b5 (ix a1) hix
  by_cases c2 : gI s 126 (ix a1) = -1
  rotate_left
  · have q1 : (0 : Int32) < gI s 8 (ix a1) := by
      rw [if_neg c2] at e4
      grind
    refine ch_F h_coal h_bench ?_ ?_ ?_ ?_ <;> simp only [f_G_charge, f_M_charge, ok_G_charge, ok_M_charge, f_Works_light, ok_Works_light, mq_let_e, mq_letP_e, z_isIn, z_wcoal, z_mcoal, o_mcoal, z_within, ite_not, m0, n0, n1, n2, c1, c2, q1, i6, and_self, if_true, if_false, true_and, ite_self]
  have q1 : ¬ (0 : Int32) < gI s 8 (ix a1) := by
    rw [if_pos c2] at e4
    grind
  by_cases c3 : 1 ≤ a3 ∧ a3 ≤ 9
  rotate_left
  · refine ch_F h_coal h_bench ?_ ?_ ?_ ?_ <;> simp only [f_G_charge, f_M_charge, ok_G_charge, ok_M_charge, f_Works_light, ok_Works_light, mq_let_e, mq_letP_e, z_isIn, z_wcoal, z_mcoal, o_mcoal, z_within, ite_not, m0, n0, n1, n2, c1, c2, c3, q1, i6, and_self, if_true, if_false, true_and, ite_self]
  have e7 : gI s 7 (ix a2) = gI s 121 (ix a2) := by rw [k4]
  by_cases c4 : gI s 121 (ix a2) < a3
  · refine ch_F h_coal h_bench ?_ ?_ ?_ ?_ <;> simp only [f_G_charge, f_M_charge, ok_G_charge, ok_M_charge, f_Works_light, ok_Works_light, mq_let_e, mq_letP_e, z_isIn, z_wcoal, z_mcoal, o_mcoal, z_within, ite_not, m0, n0, n1, n2, c1, c2, c3, e7, c4, q1, i6, i3, and_self, if_true, if_false, true_and, ite_self]
  have e10 : (gI s 3 10 + 1) * 3 = 3 * (gI s 116 3 + 1) := by rw [b16, Int32.mul_comm]
  by_cases c5 : 3 * (gI s 116 3 + 1) ≤ gI s 116 2
  rotate_left
  · refine ch_F h_coal h_bench ?_ ?_ ?_ ?_ <;> simp only [f_G_charge, f_M_charge, ok_G_charge, ok_M_charge, f_Works_light, ok_Works_light, mq_let_e, mq_letP_e, z_isIn, z_wcoal, z_mcoal, o_mcoal, z_within, ite_not, m0, n0, n1, n2, c1, c2, c3, e7, c4, e10, b13, c5, q1, i6, i3, and_self, if_true, if_false, true_and, ite_self]
  have c5' : (gI s 116 3 + 1) * 3 ≤ gI s 116 2 := by rw [Int32.mul_comm]; exact c5
  have eG : f_G_charge a1 a2 a3 s = (a3 * gI s 118 (ix a2), sI (sI (sI (sI (sI (sI s 7 (ix a2) (gI s 121 (ix a2) - a3)) 3 10 (gI s 116 3 + 1)) 8 (ix a1) 16) 9 (ix a1) (a3 * gI s 118 (ix a2))) 10 (ix a1) (a3 * gI s 119 (ix a2))) 11 (ix a1) (a3 * gI s 120 (ix a2))) := by
    simp only [f_G_charge, f_Works_light, mq_let_e, z_wcoal, z_within, ite_not, n0, n1, n2, c1, c3, e7, c4, e10, b13, c5, c5', q1, and_self, if_true, if_false, gI_sI, k1, k2, k3, b16]
  have hc : ∀ c, 116 ≤ c → gI (f_G_charge a1 a2 a3 s).2 c = gI s c := by
    intro c hc'
    rw [eG]
    simp only [fI_sI]
    rw [if_neg (by omega), if_neg (by omega), if_neg (by omega), if_neg (by omega), if_neg (by omega), if_neg (by omega)]
  have eM : f_M_charge a1 a2 a3 (f_G_charge a1 a2 a3 s).2 = (a3 * gI s 118 (ix a2), sI (sI (sI (sI (sI (sI (f_G_charge a1 a2 a3 s).2 121 (ix a2) (gI s 121 (ix a2) - a3)) 116 3 (gI s 116 3 + 1)) 126 (ix a1) 0) 123 (ix a1) (a3 * gI s 118 (ix a2))) 124 (ix a1) (a3 * gI s 119 (ix a2))) 125 (ix a1) (a3 * gI s 120 (ix a2))) := by
    simp only [f_M_charge, mq_let_e, z_isIn, z_mcoal, ite_not, hc 116 (by omega), hc 126 (by omega), hc 121 (by omega), hc 118 (by omega), hc 119 (by omega), hc 120 (by omega), m0, c1, c2, c3, c4, c5, and_self, if_true, if_false, gI_sI]
  have hgas := tons_rng (a := a3) (g := gI s 118 (ix a2)) (M := 200) c3.1 c3.2 (k5 _).1 (k5 _).2 (by decide)
  have hcoke := tons_rng (a := a3) (g := gI s 119 (ix a2)) (M := 80) c3.1 c3.2 (k6 _).1 (k6 _).2 (by decide)
  have htar := tons_rng (a := a3) (g := gI s 120 (ix a2)) (M := 20) c3.1 c3.2 (k7 _).1 (k7 _).2 (by decide)
  have hgas2 : a3 * gI s 118 (ix a2) ≤ 1800 := le_of_toInt (b := 1800) hgas.2 (by omega)
  have hcoke2 : a3 * gI s 119 (ix a2) ≤ 720 := le_of_toInt (b := 720) hcoke.2 (by omega)
  have htar2 : a3 * gI s 120 (ix a2) ≤ 180 := le_of_toInt (b := 180) htar.2 (by omega)
  unfold ch_R
  refine ⟨?_, ?_, ?_, ?_, ?_⟩
  · simp only [ok_G_charge, ok_Works_light, mq_letP_e, z_wcoal, z_within, ite_not, n0, n1, n2, c1, c3, e7, c4, e10, b13, c5, q1, i6, i3, and_self, if_true, if_false]
  · simp only [ok_M_charge, mq_letP_e, z_isIn, z_mcoal, o_mcoal, ite_not, hc 116 (by omega), hc 126 (by omega), hc 121 (by omega), m0, c1, c2, c3, c4, c5, i6, i3, and_self, if_true, if_false]
  · rw [eM, eG]
  · rw [eM, eG]
    unfold J_coal
    simp only [fI_sI, gI_sI, Nat.reduceEqDiff, and_false, false_and, and_self, true_and, and_true, reduceIte]
    refine ⟨k1, k2, k3, by rw [k4], k5, k6, k7, up_rg k8 ?_ ?_⟩
    · have := (k8 (ix a2)).1
      grind
    · have := (k8 (ix a2)).2
      have := (k8 (ix a2)).1
      grind
  · rw [eM, eG]
    unfold J_bench
    simp only [fI_sI, gI_sI, Nat.reduceEqDiff, and_false, false_and, and_self, true_and, and_true, reduceIte]
    refine ⟨by rw [b1], by rw [b2], by rw [b3], ?_, ?_, up_rg b6 hgas.1 hgas2, up_rg b7 hcoke.1 hcoke2, up_rg b8 htar.1 htar2, b9, b10, b11, ?_, b13, b14, b15, ?_, ?_⟩
    · intro j hj
      by_cases q : j = ix a1
      · simp only [q, if_true]
        rfl
      · simp only [q, if_false]
        exact b4 j hj
    · intro j hj
      by_cases q : j = ix a1
      · simp only [q, if_true]
        exact ⟨by decide, by decide⟩
      · simp only [q, if_false]
        exact b5 j hj
    · intro j hj hle
      by_cases q : j = ix a1
      · exfalso
        rw [q, ofNat_ix c0.1] at hle
        grind
      · simp only [q, if_false]
        exact b12 j hj hle
    · grind
    · grind
theorem toInt64_le (x y : Int32) : Int32.toInt64 x ≤ Int32.toInt64 y ↔ x ≤ y := by
  rw [Int64.le_iff_toInt_le, Int32.toInt_toInt64, Int32.toInt_toInt64, le_toInt]
theorem lg_le (x y : Int64) : (lg_cmp x y ≤ 0) ↔ x ≤ y := by
  unfold lg_cmp
  rw [Int64.le_iff_toInt_le]
  by_cases h : x > y
  · rw [if_pos h]
    have h' := Int64.lt_iff_toInt_lt.mp h
    constructor
    · intro q; exact absurd q (by decide)
    · intro q; omega
  · rw [if_neg h]
    have h' : ¬ y.toInt < x.toInt := fun q => h (Int64.lt_iff_toInt_lt.mpr q)
    constructor
    · intro _; omega
    · intro _
      split <;> decide
theorem toInt64_sub {x y : Int32} (h0 : 0 ≤ y) (h1 : y ≤ x) : Int32.toInt64 x - Int32.toInt64 y = Int32.toInt64 (x - y) := by
  have z0 := toInt_0
  rw [le_toInt] at h0 h1
  have a1 := Int32.toInt_lt x
  have a2 := Int32.le_toInt x
  have a3 := Int32.toInt_lt y
  have d : (x - y).toInt = x.toInt - y.toInt := by rw [sub_nn] <;> omega
  apply Int64.toInt_inj.mp
  rw [Int64.toInt_sub, Int32.toInt_toInt64, Int32.toInt_toInt64, Int32.toInt_toInt64, d, Int.bmod_eq_of_le] <;> omega
theorem op_sell (a1 a2 : Int32) (s : mS) (h_yard : J_yard s) (h_money : J_money s) : True ∧ True ∧ (f_G_sell a1 a2 s).1 = (f_M_sell a1 a2 (f_G_sell a1 a2 s).2).1 ∧ J_yard (f_M_sell a1 a2 (f_G_sell a1 a2 s).2).2 ∧ J_money (f_M_sell a1 a2 (f_G_sell a1 a2 s).2).2 := by
  have k := h_yard
  unfold J_yard at k
  obtain ⟨k1, k2, k3, k4, k5, k6⟩ := k
  have m := h_money
  unfold J_money at m
  refine ⟨trivial, trivial, ?_⟩
  by_cases c0 : a1 < 1
  · refine ⟨?_, ?_, ?_⟩ <;> simp only [f_G_sell, f_M_sell, mq_let_e, c0, if_true]
    · exact h_yard
    · exact h_money
  by_cases c1 : 0 ≤ a2 ∧ a2 ≤ 99
  rotate_left
  · refine ⟨?_, ?_, ?_⟩ <;> simp only [f_G_sell, f_M_sell, mq_let_e, z_within, z_isIn, ite_not, c0, c1, if_false]
    · exact h_yard
    · exact h_money
  have c0' : 0 ≤ a1 := by grind
  by_cases c2 : a1 ≤ gI s 3 15
  rotate_left
  · have c2' : ¬ lg_cmp (Int32.toInt64 a1) (gL s 116 42) ≤ 0 := by
      rw [lg_le, k1, toInt64_le]
      exact c2
    refine ⟨?_, ?_, ?_⟩ <;> simp only [f_G_sell, f_M_sell, mq_let_e, z_within, z_isIn, ite_not, c0, c1, and_self, if_true, if_false, c2, c2']
    · exact h_yard
    · exact h_money
  have c2' : lg_cmp (Int32.toInt64 a1) (Int32.toInt64 (gI s 3 15)) ≤ 0 := by
    rw [lg_le, toInt64_le]
    exact c2
  have es := toInt64_sub c0' c2
  refine ⟨?_, ?_, ?_⟩ <;> simp only [f_G_sell, f_M_sell, mq_let_e, z_within, z_isIn, ite_not, c0, c1, and_self, if_true, if_false, c2, gL_sL, gL_sI, gI_sI, Nat.reduceEqDiff, and_false, false_and, k1, c2', es, Int32.toInt32_toInt64]
  · unfold J_yard
    simp only [gL_sL, gL_sI, gI_sL, gI_sI, Nat.reduceEqDiff, and_false, false_and, and_self, if_true, if_false, true_and]
    refine ⟨k2, ?_, k4, ?_, k6⟩
    · grind
    · refine Int32.le_trans ?_ k5
      grind
  · unfold J_money
    simp only [gL_sL, gL_sI, Nat.reduceEqDiff, and_false, false_and, and_self, if_true, if_false]
    exact ⟨m.1, by rw [m.2.1], m.2.2⟩
