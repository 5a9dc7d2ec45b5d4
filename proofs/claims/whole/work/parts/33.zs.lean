/-! SMALL FACTS: ranges, quotients, the checks of both classes. -/
theorem ix_succ {x : Int32} (h0 : 0 ≤ x) (h1 : x ≤ 100000) : ix (x + 1) = ix x + 1 := by
  have h2 : Int32.ofNat (ix x) = x := ofNat_ix h0
  have h3 : ix x < 100001 := ix_lt (by decide) h0 (by have : Int32.ofNat 100001 = 100001 := rfl; grind)
  rw [← h2, ofNat_succ, ix_ofNat (by omega), ix_ofNat (by omega)]
theorem z_within (a b c : Int32) (s : mS) : (f_G_within a b c s = 0) = ¬ (b ≤ a ∧ a ≤ c) := by
  unfold f_G_within
  grind
theorem z_isIn (a b c : Int32) (s : mS) : (f_M_isIn a b c s = 0) = ¬ (b ≤ a ∧ a ≤ c) := by
  unfold f_M_isIn
  grind
theorem z_wcoal (a : Int32) (s : mS) : (f_Works_isCoal a s = 0) = ¬ (0 ≤ a ∧ a ≤ 2) := by
  unfold f_Works_isCoal
  grind
theorem z_mcoal (a : Int32) (s : mS) : (f_M_isCoal a s = 0) = ¬ (0 ≤ a ∧ a ≤ 2) := by
  unfold f_M_isCoal
  simp only [mq_let_e, z_isIn]
theorem z_has (a : Int32) (s : mS) : (f_Net_has a s = 0) = ¬ (0 ≤ a ∧ a < gI s 25 10 ∧ a < 16) := by
  unfold f_Net_has
  grind
theorem z_pipe (a : Int32) (s : mS) : (f_Net_hasPipe a s = 0) = ¬ (0 < a ∧ a < gI s 25 10 ∧ a < 16) := by
  unfold f_Net_hasPipe
  simp only [mq_let_e, z_has, ite_not]
  grind
theorem z_tha (a : Int32) (s : mS) : (f_Things_has a s = 0) = ¬ (0 ≤ a ∧ a < gI s 12 12 ∧ a < 40) := by
  unfold f_Things_has
  grind
theorem z_isA (a k : Int32) (s : mS) : (f_Things_isA a k s = 0) = ¬ (0 ≤ a ∧ a < gI s 12 12 ∧ a < 40 ∧ gI s 14 (ix a) = k) := by
  unfold f_Things_isA
  simp only [mq_let_e, z_tha, ite_not]
  grind
theorem z_node (a : Int32) (s : mS) : (f_M_isNode a s = 0) = ¬ (0 ≤ a ∧ a ≤ gI s 116 7 - 1) := by
  unfold f_M_isNode
  simp only [mq_let_e, z_isIn]
theorem z_thing (a : Int32) (s : mS) : (f_M_isThing a s = 0) = ¬ (0 ≤ a ∧ a ≤ gI s 116 8 - 1) := by
  unfold f_M_isThing
  simp only [mq_let_e, z_isIn]
theorem z_house (a : Int32) (s : mS) : (f_M_isHouse a s = 0) = ¬ (0 ≤ a ∧ a ≤ gI s 116 8 - 1 ∧ gI s 133 (ix a) = 0) := by
  unfold f_M_isHouse
  simp only [mq_let_e, z_thing, ite_not]
  grind
theorem bit_isIn (a b c : Int32) (s : mS) : mm_bit (f_M_isIn a b c s) = true := by
  unfold f_M_isIn
  grind [bit0, bit1]
theorem o_mcoal (a : Int32) (s : mS) : ok_M_isCoal a s := by
  unfold ok_M_isCoal
  exact ⟨trivial, bit_isIn _ _ _ _⟩
theorem o_node (a : Int32) (s : mS) : ok_M_isNode a s := by
  unfold ok_M_isNode
  exact ⟨trivial, bit_isIn _ _ _ _⟩
theorem o_thing (a : Int32) (s : mS) : ok_M_isThing a s := by
  unfold ok_M_isThing
  exact ⟨trivial, bit_isIn _ _ _ _⟩
theorem o_house (a : Int32) (s : mS) (h0 : 0 ≤ gI s 116 8) (h : gI s 116 8 ≤ 40) : ok_M_isHouse a s := by
  unfold ok_M_isHouse
  refine ⟨o_thing a s, ?_⟩
  simp only [mq_letP_e, z_thing, ite_not, and_true]
  grind [inb_40]
theorem o_isA (a k : Int32) (s : mS) : ok_Things_isA a k s := by
  unfold ok_Things_isA
  refine ⟨trivial, ?_⟩
  simp only [mq_letP_e, z_tha, ite_not, and_true]
  grind [inb_40]
theorem toInt_0 : (0 : Int32).toInt = 0 := rfl
theorem div_nn {a b : Int32} (ha : 0 ≤ a) (hb : 0 < b) : (a / b).toInt = a.toInt / b.toInt := by
  rw [le_toInt, toInt_0] at ha
  rw [lt_toInt, toInt_0] at hb
  rw [Int32.toInt_div_of_ne_left _ _ (by
    intro h
    rw [h] at ha
    exact absurd ha (by decide))]
  rw [Int.tdiv_eq_ediv_of_nonneg ha]
theorem mul_nn {a b : Int32} (h : (a.toInt * b.toInt) < 2147483648) (h2 : -2147483648 ≤ (a.toInt * b.toInt)) : (a * b).toInt = a.toInt * b.toInt := by
  rw [Int32.toInt_mul, Int.bmod_eq_of_le (by omega) (by omega)]
theorem add_nn {a b : Int32} (h : (a.toInt + b.toInt) < 2147483648) (h2 : -2147483648 ≤ (a.toInt + b.toInt)) : (a + b).toInt = a.toInt + b.toInt := by
  rw [Int32.toInt_add, Int.bmod_eq_of_le (by omega) (by omega)]
theorem sub_nn {a b : Int32} (h : (a.toInt - b.toInt) < 2147483648) (h2 : -2147483648 ≤ (a.toInt - b.toInt)) : (a - b).toInt = a.toInt - b.toInt := by
  rw [Int32.toInt_sub, Int.bmod_eq_of_le (by omega) (by omega)]
theorem day_toInt {a : Int32} (h0 : 0 ≤ a) : (a / 96).toInt = a.toInt / 96 := div_nn h0 (by decide)
theorem day_rng {a : Int32} (h0 : 0 ≤ a) (h : a ≤ 10000) : 0 ≤ a / 96 ∧ a / 96 ≤ 104 := by
  have e := day_toInt h0
  have e0 := toInt_0
  have e1 : (10000 : Int32).toInt = 10000 := rfl
  have e2 : (104 : Int32).toInt = 104 := rfl
  rw [le_toInt] at h0 h
  rw [le_toInt, le_toInt, e]
  omega
/-- the hour of a step, both ways -/
theorem hour_eq {a : Int32} (h0 : 0 ≤ a) (h : a ≤ 10000) : a / 4 - 24 * (a / 96) = (a - a / 96 * 96) / 4 := by
  have e0 := toInt_0
  have e1 : (10000 : Int32).toInt = 10000 := rfl
  have e2 : (96 : Int32).toInt = 96 := rfl
  have e3 : (24 : Int32).toInt = 24 := rfl
  have e4 : (4 : Int32).toInt = 4 := rfl
  have d1 := day_toInt h0
  have d2 : (a / 4).toInt = a.toInt / 4 := div_nn h0 (by decide)
  rw [le_toInt] at h0 h
  have d3 : (a / 96 * 96).toInt = a.toInt / 96 * 96 := by rw [mul_nn] <;> rw [d1, e2] <;> omega
  have d4 : (24 * (a / 96)).toInt = 24 * (a.toInt / 96) := by rw [mul_nn] <;> rw [d1, e3] <;> omega
  have d5 : (a - a / 96 * 96).toInt = a.toInt - a.toInt / 96 * 96 := by rw [sub_nn] <;> rw [d3] <;> omega
  have d6 : ((a - a / 96 * 96) / 4).toInt = (a.toInt - a.toInt / 96 * 96) / 4 := by
    rw [div_nn _ (by decide), d5, e4]
    rw [le_toInt, d5]
    omega
  apply Int32.toInt_inj.mp
  rw [d6, sub_nn] <;> rw [d2, d4] <;> omega
theorem inday_eq (a : Int32) : a - 96 * (a / 96) = a - a / 96 * 96 := by
  rw [Int32.mul_comm]
