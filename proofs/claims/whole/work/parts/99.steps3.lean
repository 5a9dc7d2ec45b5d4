/-! STEPS: all of them. -/
def itG (s : mS) : Nat → mS
  | 0 => s
  | k + 1 => f_G_goOneStep (itG s k)
def itM (u : mS) : Nat → mS
  | 0 => u
  | k + 1 => f_M_step (itM u k)
theorem itG_fp {s : mS} (hP : ∀ j, mq_A (gP s j)) : ∀ k, fp aw_G_goOneStep fw_G_goOneStep true s (itG s k)
  | 0 => fp_r
  | k + 1 => fp_t (itG_fp hP k) (fr_G_goOneStep _ (fp_P (itG_fp hP k) hP))
theorem itM_fp {u : mS} : ∀ k, fp aw_M_step fw_M_step false u (itM u k)
  | 0 => fp_r
  | k + 1 => fp_t (itM_fp k) (fr_M_step _)
theorem stR_it {A : aC} {s u : mS} (hWA : aW A) (h : stR A s u) {n : Nat} (hn : gI u 116 1 + Int32.ofNat n ≤ 3999) (hn2 : n ≤ 96) (h1 : 0 ≤ gI u 116 1) (h2 : gI u 116 1 ≤ 3999) : ∀ k, k ≤ n → stR A (itG s k) (itM u k) ∧ gI (itM u k) 116 1 = gI u 116 1 + Int32.ofNat k ∧ (∀ t, gI (itM u k) 136 t ≤ gI u 136 t) ∧ ∀ j, j < k → ok_G_goOneStep (itG s j) ∧ ok_M_step (itM u j)
  | 0, _ => ⟨h, (Int32.add_zero _).symm, fun _ => Int32.le_refl _, fun j hj => absurd hj (by omega)⟩
  | k + 1, hk => by
    obtain ⟨i1, i2, i3, i4⟩ := stR_it hWA h hn hn2 h1 h2 k (by omega)
    have z := toInt_0
    have e9 : (3999 : Int32).toInt = 3999 := by decide
    have e8 : (3998 : Int32).toInt = 3998 := by decide
    have b : gI (itM u k) 116 1 ≤ 3998 := by
      rw [i2]
      rw [le_toInt] at hn h1 h2 ⊢
      have a1 : (gI u 116 1 + Int32.ofNat n).toInt = (gI u 116 1).toInt + n := by rw [add_nn, toInt_ofNat (by omega)] <;> rw [toInt_ofNat (by omega)] <;> omega
      have a2 : (gI u 116 1 + Int32.ofNat k).toInt = (gI u 116 1).toInt + k := by rw [add_nn, toInt_ofNat (by omega)] <;> rw [toInt_ofNat (by omega)] <;> omega
      rw [a1] at hn
      rw [a2]
      omega
    obtain ⟨j1, j2, j3, j4, j5⟩ := st_step hWA i1 b
    refine ⟨j3, ?_, fun t => Int32.le_trans (j5 t) (i3 t), fun j hj => ?_⟩
    · show gI (f_M_step (itM u k)) 116 1 = _
      rw [j4, i2, Int32.add_assoc, ofNat_succ]
    · by_cases e : j = k
      · rw [e]
        exact ⟨j1, j2⟩
      · exact i4 j (by omega)
theorem G_steps_lp {s : mS} {a1 : Int32} {n : Nat} (ha : a1 = Int32.ofNat n) (hn : n ≤ 96) (ho : ∀ j, j < n → ok_G_goOneStep (itG s j)) : lp_G_steps_26 a1 mm_N 0 s = (Int32.ofNat n, itG s n) ∧ okl_G_steps_26 a1 mm_N 0 s := by
  have A := lp_up0 (L := lp_G_steps_26 a1) (OK := okl_G_steps_26 a1) (fun i w => w = itG s i) n (by omega) s rfl
    (fun m i w hi hp => by
      subst hp
      have e1 : ¬ a1 ≤ Int32.ofNat i := fl_lit ha (by omega) (by omega) hi
      have e3 : Int32.ofNat i + 1 = Int32.ofNat (i + 1) := ofNat_succ i
      have oi := ho i hi
      refine ⟨itG s (i + 1), ?_, ?_, rfl⟩
      · simp only [lp_G_steps_26, mq_let_e, e1, e3, if_false]
        rfl
      · intro q
        simp only [okl_G_steps_26, mq_letP_e, e1, e3, if_false]
        exact ⟨oi, q⟩)
    (fun m w hp => by
      have e1 := fl_lit' ha
      constructor
      · simp only [lp_G_steps_26, e1, if_true]
      · simp only [okl_G_steps_26, e1, if_true])
  obtain ⟨w, A1, A2, A3⟩ := A
  subst A3
  exact ⟨A1, A2⟩
theorem M_steps_lp {s : mS} {a1 : Int32} {n : Nat} (ha : a1 = Int32.ofNat n) (hn : n ≤ 96) (ho : ∀ j, j < n → ok_M_step (itM s j)) : lp_M_steps_26 a1 mm_N 0 s = (Int32.ofNat n, itM s n) ∧ okl_M_steps_26 a1 mm_N 0 s := by
  have A := lp_up0 (L := lp_M_steps_26 a1) (OK := okl_M_steps_26 a1) (fun i w => w = itM s i) n (by omega) s rfl
    (fun m i w hi hp => by
      subst hp
      have e1 : ¬ a1 ≤ Int32.ofNat i := fl_lit ha (by omega) (by omega) hi
      have e3 : Int32.ofNat i + 1 = Int32.ofNat (i + 1) := ofNat_succ i
      have oi := ho i hi
      refine ⟨itM s (i + 1), ?_, ?_, rfl⟩
      · simp only [lp_M_steps_26, mq_let_e, e1, e3, if_false]
        rfl
      · intro q
        simp only [okl_M_steps_26, mq_letP_e, e1, e3, if_false]
        exact ⟨oi, q⟩)
    (fun m w hp => by
      have e1 := fl_lit' ha
      constructor
      · simp only [lp_M_steps_26, e1, if_true]
      · simp only [okl_M_steps_26, e1, if_true])
  obtain ⟨w, A1, A2, A3⟩ := A
  subst A3
  exact ⟨A1, A2⟩
theorem books_up {A : List Nat} {F : List (Nat × Nat)} {a : Bool} {s t : mS} (h : fp A F a s t) (hq : fpq A F a sa_books [(82, 8), (82, 12), (116, 8), (116, 57), (116, 58)] = true) (hle : gI s 116 1 ≤ gI t 116 1) (hJ : J_books s) : J_books t := by
  unfold J_books at hJ ⊢
  simp only [(fqA h hq (by decide : 83 ∈ sa_books)).1, (fqA h hq (by decide : 84 ∈ sa_books)).1, (fqA h hq (by decide : 85 ∈ sa_books)).1, (fqA h hq (by decide : 86 ∈ sa_books)).1, (fqA h hq (by decide : 87 ∈ sa_books)).1, (fqA h hq (by decide : 88 ∈ sa_books)).1, (fqA h hq (by decide : 91 ∈ sa_books)).1, (fqA h hq (by decide : 92 ∈ sa_books)).1, (fqA h hq (by decide : 93 ∈ sa_books)).1, (fqA h hq (by decide : 133 ∈ sa_books)).1, (fqA h hq (by decide : 150 ∈ sa_books)).1, (fqA h hq (by decide : 151 ∈ sa_books)).1, (fqA h hq (by decide : 152 ∈ sa_books)).1, (fqA h hq (by decide : 153 ∈ sa_books)).1, (fqA h hq (by decide : 154 ∈ sa_books)).1, (fqA h hq (by decide : 155 ∈ sa_books)).1, (fqA h hq (by decide : 156 ∈ sa_books)).1, (fqF h hq (by decide : (82, 8) ∈ [(82, 8), (82, 12), (116, 8), (116, 57), (116, 58)])).1, (fqF h hq (by decide : (82, 12) ∈ [(82, 8), (82, 12), (116, 8), (116, 57), (116, 58)])).1, (fqF h hq (by decide : (116, 8) ∈ [(82, 8), (82, 12), (116, 8), (116, 57), (116, 58)])).1, (fqF h hq (by decide : (116, 57) ∈ [(82, 8), (82, 12), (116, 8), (116, 57), (116, 58)])).1, (fqF h hq (by decide : (116, 58) ∈ [(82, 8), (82, 12), (116, 8), (116, 57), (116, 58)])).1]
  obtain ⟨k1, k2, k3, k4, k5, k6, k7, k8, k9, k10, k11, k12, k13, k14, k15, k16, k17, k18, k19, k20⟩ := hJ
  exact ⟨k1, k2, k3, k4, k5, k6, k7, k8, k9, k10, k11, k12, k13, k14, k15, k16, k17, fun r hr => ⟨(k18 r hr).1, Int32.le_trans (k18 r hr).2 hle⟩, k19, k20⟩
theorem mix_M {u t : mS} (h : fp aw_M_step fw_M_step false u t) : mix u t = t := by
  refine mix_id (fun c hc => ?_) h.2
  have hA : c ∉ aw_M_step := by
    unfold aw_M_step
    simp only [List.mem_cons, List.not_mem_nil, or_false]
    omega
  have hF : ∀ j, (c, j) ∉ fw_M_step := fun j => by
    unfold fw_M_step
    simp only [List.mem_cons, List.not_mem_nil, or_false, Prod.mk.injEq]
    omega
  exact ⟨funext fun j => (h.1 c hA (fun q => absurd q (by decide)) j (hF j)).1, funext fun j => (h.1 c hA (fun q => absurd q (by decide)) j (hF j)).2⟩
theorem mix_G {s t : mS} (h : fp aw_G_goOneStep fw_G_goOneStep true s t) : mix s t = s := by
  have key : ∀ c, ¬ c < 116 → ∀ j, t.1 c j = s.1 c j ∧ t.2.1 c j = s.2.1 c j := fun c hc j => by
    have hA : c ∉ aw_G_goOneStep := by
      unfold aw_G_goOneStep
      simp only [List.mem_cons, List.not_mem_nil, or_false]
      omega
    have hF : (c, j) ∉ fw_G_goOneStep := by
      unfold fw_G_goOneStep
      simp only [List.mem_cons, List.not_mem_nil, or_false, Prod.mk.injEq]
      omega
    exact h.1 c hA (fun _ => Or.inr (by omega)) j hF
  obtain ⟨a, b, d⟩ := s
  show (fun c j => if c < 116 then a c j else t.1 c j, fun c j => if c < 116 then b c j else t.2.1 c j, d) = (a, b, d)
  have e1 : (fun c j => if c < 116 then a c j else t.1 c j) = a := by
    funext c j
    by_cases q : c < 116
    · rw [if_pos q]
    · rw [if_neg q]
      exact (key c q j).1
  have e2 : (fun c j => if c < 116 then b c j else t.2.1 c j) = b := by
    funext c j
    by_cases q : c < 116
    · rw [if_pos q]
    · rw [if_neg q]
      exact (key c q j).2
  rw [e1, e2]
def sp_R (a1 : Int32) (s : mS) : Prop := ok_G_steps a1 s ∧ ok_M_steps a1 (f_G_steps a1 s).2 ∧ (f_G_steps a1 s).1 = (f_M_steps a1 (f_G_steps a1 s).2).1 ∧ J_bench (f_M_steps a1 (f_G_steps a1 s).2).2 ∧ J_level (f_M_steps a1 (f_G_steps a1 s).2).2 ∧ J_yard (f_M_steps a1 (f_G_steps a1 s).2).2 ∧ J_gen (f_M_steps a1 (f_G_steps a1 s).2).2 ∧ J_things (f_M_steps a1 (f_G_steps a1 s).2).2 ∧ J_net (f_M_steps a1 (f_G_steps a1 s).2).2 ∧ J_was (f_M_steps a1 (f_G_steps a1 s).2).2 ∧ J_sky (f_M_steps a1 (f_G_steps a1 s).2).2 ∧ J_acts (f_M_steps a1 (f_G_steps a1 s).2).2 ∧ J_books (f_M_steps a1 (f_G_steps a1 s).2).2 ∧ ∀ t, 0 ≤ gI (f_M_steps a1 (f_G_steps a1 s).2).2 136 t ∧ gI (f_M_steps a1 (f_G_steps a1 s).2).2 136 t ≤ gI s 136 t
theorem sp_F {a1 : Int32} {s : mS} (h_bench : J_bench s) (h_level : J_level s) (h_yard : J_yard s) (h_gen : J_gen s) (h_things : J_things s) (h_net : J_net s) (h_was : J_was s) (h_sky : J_sky s) (h_acts : J_acts s) (h_books : J_books s) (hc : ∀ t, 0 ≤ gI s 136 t) (o1 : ok_G_steps a1 s) (o2 : ok_M_steps a1 s) (e1 : f_G_steps a1 s = (-1, s)) (e2 : f_M_steps a1 s = (-1, s)) : sp_R a1 s := by
  unfold sp_R
  rw [e1, e2]
  exact ⟨o1, o2, rfl, h_bench, h_level, h_yard, h_gen, h_things, h_net, h_was, h_sky, h_acts, h_books, fun t => ⟨hc t, Int32.le_refl _⟩⟩
theorem op_steps (a1 : Int32) (s : mS) (h_bench : J_bench s) (h_level : J_level s) (h_yard : J_yard s) (h_gen : J_gen s) (h_things : J_things s) (h_net : J_net s) (h_was : J_was s) (h_sky : J_sky s) (h_acts : J_acts s) (h_books : J_books s) (h_share : J_share s) (hc : ∀ t, 0 ≤ gI s 136 t) : sp_R a1 s := by
  have kg := h_gen
  unfold J_gen at kg
  by_cases c0 : 1 ≤ a1 ∧ a1 ≤ 96
  rotate_left
  · refine sp_F h_bench h_level h_yard h_gen h_things h_net h_was h_sky h_acts h_books hc ?_ ?_ ?_ ?_ <;> simp only [f_G_steps, f_M_steps, ok_G_steps, ok_M_steps, mq_let_e, mq_letP_e, z_within, z_isIn, ite_not, c0, if_false, true_and]
  obtain ⟨n, hn, hn1, hn2⟩ : ∃ n, a1 = Int32.ofNat n ∧ 1 ≤ n ∧ n ≤ 96 := by
    have p0 : 0 ≤ a1 := by grind
    have e : a1 = Int32.ofNat (ix a1) := (ofNat_ix p0).symm
    have q : ix a1 < 97 := ix_lt (by decide) p0 (show a1 < 97 by grind)
    refine ⟨ix a1, e, ?_, by omega⟩
    have p1 := c0.1
    rw [e] at p1
    exact (ofNat_le (a := 1) (by omega) (by omega)).mp p1
  have z := toInt_0
  have e9 : (3999 : Int32).toInt = 3999 := by decide
  have h1 := kg.2.1
  have h2 := kg.2.2.1
  have T1 := h1
  have T2 := h2
  rw [le_toInt] at T1 T2
  have aN : a1.toInt = n := by rw [hn, toInt_ofNat (by omega)]
  have sA : (gI s 116 1 + a1).toInt = (gI s 116 1).toInt + n := by rw [add_nn, aN] <;> omega
  have sB : (3999 - a1).toInt = 3999 - n := by rw [sub_nn, aN] <;> omega
  by_cases c1 : gI s 116 1 + a1 ≤ 3999
  rotate_left
  · have c1' : ¬ gI s 116 1 ≤ 3999 - a1 := by
      rw [le_toInt] at c1 ⊢
      omega
    refine sp_F h_bench h_level h_yard h_gen h_things h_net h_was h_sky h_acts h_books hc ?_ ?_ ?_ ?_ <;> simp only [f_G_steps, f_M_steps, ok_G_steps, ok_M_steps, mq_let_e, mq_letP_e, z_within, z_isIn, ite_not, c0, kg.1, c1, c1', and_self, if_true, if_false, true_and]
  have c1' : gI s 116 1 ≤ 3999 - a1 := by
    rw [le_toInt] at c1 ⊢
    omega
  obtain ⟨A, hWA, hG, hM⟩ := h_acts
  have fG := itG_fp (s := s) hG.1 n
  have ms : mix s (itG s n) = s := mix_G fG
  have R0 : stR A s (itG s n) := by
    unfold stR
    rw [ms]
    exact ⟨h_bench, h_level, h_yard, h_gen, h_things, h_net, h_was, h_sky, jf_share fG (by decide) h_share, h_sky, ((fpA fG (by decide)).1).symm, hG, aM_fp fG (by decide) hM, fun t => by rw [(fpA fG (by decide)).1]; exact hc t⟩
  have u1 : gI (itG s n) 116 1 = gI s 116 1 := (fpF fG (by decide)).1
  obtain ⟨r1, r2, r3, r4⟩ := stR_it hWA R0 (n := n) (by rw [u1, ← hn]; exact c1) hn2 (by rw [u1]; exact h1) (by rw [u1]; exact h2) n (Nat.le_refl n)
  have LG := G_steps_lp (s := s) hn hn2 (fun j hj => (r4 j hj).1)
  have LM := M_steps_lp (s := itG s n) hn hn2 (fun j hj => (r4 j hj).2)
  have EG : f_G_steps a1 s = (gI (itG s n) 0 9, itG s n) := by
    simp only [f_G_steps, mq_let_e, z_within, ite_not, c0, kg.1, c1, and_self, if_true, LG.1]
  have EM : f_M_steps a1 (itG s n) = (gI (itM (itG s n) n) 116 1, itM (itG s n) n) := by
    simp only [f_M_steps, mq_let_e, z_isIn, ite_not, c0, u1, c1', and_self, if_true, LM.1]
  have OG : ok_G_steps a1 s := by
    simp only [ok_G_steps, mq_letP_e, z_within, ite_not, c0, kg.1, c1, and_self, if_true, true_and, and_true]
    exact LG.2
  have OM : ok_M_steps a1 (itG s n) := by
    simp only [ok_M_steps, mq_letP_e, z_isIn, ite_not, c0, u1, c1', and_self, if_true, true_and, and_true]
    exact LM.2
  have fM := itM_fp (u := itG s n) n
  have mt : mix (itG s n) (itM (itG s n) n) = itM (itG s n) n := mix_M fM
  unfold stR at r1
  rw [mt] at r1
  obtain ⟨k1, k2, k3, k4, k5, k6, k7, k8, k9, k10, k11, k12, k13, k14⟩ := r1
  have fA : fp aw_G_goOneStep fw_G_goOneStep true s (itG s n) := fG
  have bk : J_books (itM (itG s n) n) := by
    refine books_up fM (by decide) ?_ (jf_books fG (by decide) h_books)
    rw [r2, u1, ← hn, le_toInt]
    omega
  unfold sp_R
  rw [EG, EM]
  refine ⟨OG, OM, ?_, k1, k2, k3, k4, k5, k6, k7, k8, ⟨A, hWA, aG_fp fM (by decide) k12, k13⟩, bk, fun t => ⟨k14 t, ?_⟩⟩
  · have e : gI (itM (itG s n) n) 0 9 = gI (itG s n) 0 9 := (fpF fM (by decide)).1
    have kk := k4
    unfold J_gen at kk
    show gI (itG s n) 0 9 = gI (itM (itG s n) n) 116 1
    rw [← e, kk.1]
  · refine Int32.le_trans (r3 t) ?_
    rw [(fpA fG (by decide)).1]
    exact Int32.le_refl _
