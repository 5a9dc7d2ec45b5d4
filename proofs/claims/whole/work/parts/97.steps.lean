/-! STEPS: the class's cells of one state, the model's of another. -/
def mix (s u : mS) : mS := (fun c j => if c < 116 then s.1 c j else u.1 c j, fun c j => if c < 116 then s.2.1 c j else u.2.1 c j, s.2.2)
theorem gI_mix (s u : mS) (c : Nat) : gI (mix s u) c = if c < 116 then gI s c else gI u c := by
  funext j
  show (if c < 116 then s.1 c j else u.1 c j) = _
  split <;> rfl
theorem gL_mix (s u : mS) (c : Nat) : gL (mix s u) c = if c < 116 then gL s c else gL u c := by
  funext j
  show (if c < 116 then s.2.1 c j else u.2.1 c j) = _
  split <;> rfl
theorem mix_id {s u : mS} (h : ∀ c, c < 116 → gI u c = gI s c ∧ gL u c = gL s c) (hP : u.2.2 = s.2.2) : mix s u = u := by
  obtain ⟨a, b, d⟩ := u
  show (fun c j => if c < 116 then s.1 c j else a c j, fun c j => if c < 116 then s.2.1 c j else b c j, s.2.2) = (a, b, d)
  have e1 : (fun c j => if c < 116 then s.1 c j else a c j) = a := by
    funext c j
    by_cases q : c < 116
    · rw [if_pos q]
      exact (congrFun (h c q).1 j).symm
    · rw [if_neg q]
  have e2 : (fun c j => if c < 116 then s.2.1 c j else b c j) = b := by
    funext c j
    by_cases q : c < 116
    · rw [if_pos q]
      exact (congrFun (h c q).2 j).symm
    · rw [if_neg q]
  have e3 : s.2.2 = d := hP.symm
  rw [e1, e2, e3]
theorem toInt64_add {x y : Int32} (h1 : -2147483648 ≤ x.toInt + y.toInt) (h2 : x.toInt + y.toInt < 2147483648) : Int32.toInt64 x + Int32.toInt64 y = Int32.toInt64 (x + y) := by
  have a1 := Int32.toInt_lt x
  have a2 := Int32.le_toInt x
  have a3 := Int32.toInt_lt y
  have a4 := Int32.le_toInt y
  have d : (x + y).toInt = x.toInt + y.toInt := add_nn h2 h1
  apply Int64.toInt_inj.mp
  rw [Int64.toInt_add, Int32.toInt_toInt64, Int32.toInt_toInt64, Int32.toInt_toInt64, d, Int.bmod_eq_of_le] <;> omega
theorem smL_of {w : Nat → Int32} {b M : Nat} (h : ∀ j, j < b → 0 ≤ w j ∧ w j ≤ Int32.ofNat M) (hM : M < 90000) (hb : b * M < 2147483648) : smL (fun j => (w j).toInt64) b = (smI w b).toInt64 := by
  induction b with
  | zero => rfl
  | succ b ih =>
    rw [Nat.succ_mul] at hb
    have r := smI_rng (w := w) (b := b) (M := M) (fun j hj => h j (by omega)) (by omega) (by omega)
    have q := h b (by omega)
    show smL (fun j => (w j).toInt64) b + (w b).toInt64 = (smI w b + w b).toInt64
    rw [ih (fun j hj => h j (by omega)) (by omega)]
    rw [le_toInt, le_toInt, toInt_ofNat (by omega)] at r q
    have z := toInt_0
    exact toInt64_add (by omega) (by omega)
theorem wk_g_c {s u : mS} (h1 : gI u 126 = gI s 126) (h2 : gI u 123 = gI s 123) (h3 : gI u 117 = gI s 117) (l : Int32) : wk_g u l = wk_g s l := by
  funext b
  unfold wk_g f_M_inStep
  simp only [mq_let_e, z_isIn, h1, h2, h3]
theorem want_slot {s : mS} {a : Int32} {t : Nat} (ht : t < 90000) (h : gI s 133 t = 2) (h0 : 0 ≤ gI s 136 t) : f_M_wants (Int32.ofNat t) a s ≤ gI s 136 t := by
  have e : ix (Int32.ofNat t) = t := ix_ofNat (by omega)
  unfold f_M_wants
  simp only [mq_let_e, e, h]
  by_cases c : gI s 140 t = 0
  · rw [if_pos c, if_neg (by decide), if_neg (by decide), if_pos trivial]
    split
    · exact Int32.le_refl _
    · next q => exact Int32.le_of_lt (Int32.not_le.mp q)
  · rw [if_neg c]
    exact h0
theorem lev_rng {lv rm gas : Int32} (h0 : 0 ≤ lv) (h1 : lv ≤ rm) (h2 : rm ≤ 99999) (g0 : 0 ≤ gas) (g1 : gas ≤ 10800) : 0 ≤ fl_lev lv rm gas ∧ fl_lev lv rm gas ≤ rm := by
  unfold fl_lev
  have e0 := toInt_0
  have e9 : (99999 : Int32).toInt = 99999 := by decide
  have e8 : (10800 : Int32).toInt = 10800 := by decide
  rw [le_toInt] at h0 h1 h2 g0 g1
  have a : (lv + gas).toInt = lv.toInt + gas.toInt := add_nn (by omega) (by omega)
  split
  · next c =>
    refine ⟨?_, c⟩
    rw [le_toInt, a]
    omega
  · refine ⟨?_, Int32.le_refl _⟩
    rw [le_toInt]
    omega
theorem less_rng {a b c : Int32} (h0 : 0 ≤ b) (h1 : b ≤ a) (h2 : a ≤ c) : 0 ≤ a - b ∧ a - b ≤ c := by
  have e0 := toInt_0
  have q1 := Int32.toInt_lt a
  rw [le_toInt] at h0 h1 h2
  have d : (a - b).toInt = a.toInt - b.toInt := by rw [sub_nn] <;> omega
  rw [le_toInt, le_toInt, d]
  omega
/-- what is alike between a step and the next -/
def stR (A : aC) (s u : mS) : Prop := J_bench (mix s u) ∧ J_level (mix s u) ∧ J_yard (mix s u) ∧ J_gen (mix s u) ∧ J_things (mix s u) ∧ J_net (mix s u) ∧ J_was (mix s u) ∧ J_sky (mix s u) ∧ J_share u ∧ J_sky s ∧ gI s 122 = gI u 122 ∧ aG s A ∧ aM u A ∧ ∀ t, 0 ≤ gI u 136 t
theorem st_gas {A : aC} {s u : mS} (h : stR A s u) : ∃ B, gI u 116 4 = Int32.ofNat B ∧ B ≤ 6 ∧ f_Works_gasLater 0 s = smI (wk_g u 0) B ∧ ok_Works_gasLater 0 s ∧ 0 ≤ smI (wk_g u 0) B ∧ smI (wk_g u 0) B ≤ 10800 := by
  obtain ⟨h_bench, _, _, _, _, _, _, _, h_share, _⟩ := h
  have hs : J_share (mix s u) := h_share
  obtain ⟨B, hB, hB6⟩ := bench_B h_bench
  have G := gasLater_eq hs h_bench (l := 0) (by decide) (by decide)
  have C := gasLater_c (s := mix s u) (w := s) rfl rfl 0
  have W := wk_sum h_bench hB hB6 0
  have Y := wk_tot hs h_bench 0
  have E : wk_g (mix s u) 0 = wk_g u 0 := wk_g_c (s := u) rfl rfl rfl 0
  rw [W] at G Y
  rw [E] at G Y
  exact ⟨B, hB, hB6, C.1.trans G.1, C.2 G.2, Y.1, Y.2⟩
