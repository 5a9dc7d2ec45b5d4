/-! BILLS. -/
theorem bk_sh_c {s t : mS} (h : gI t 152 = gI s 152 ∧ gI t 153 = gI s 153 ∧ gI t 154 = gI s 154 ∧ gI t 155 = gI s 155) (known : Int32) (k : Nat) : ∀ m, bk_sh t known k m = bk_sh s known k m
  | 0 => by
    show gI t 152 k = gI s 152 k
    rw [h.1]
  | i + 1 => by
    show (if _ then _ else _) = if _ then _ else _
    rw [h.2.1, h.2.2.1, h.2.2.2, bk_sh_c h known k i]
theorem bk_un_c {s t : mS} (h : gI t 150 = gI s 150 ∧ gI t 151 = gI s 151 ∧ gI t 156 = gI s 156) (sh : Nat → Int32) (r : Nat) : bk_un t sh r = bk_un s sh r := by
  have hv : ∀ U r, bk_v t sh U r = bk_v s sh U r := by
    intro U r
    unfold bk_v bk_P
    rw [h.1, h.2.1, h.2.2]
  have hu : ∀ k, bk_ut t sh k = bk_ut s sh k := by
    intro k
    induction k with
    | zero => rfl
    | succ k ih =>
      show up _ _ _ = up _ _ _
      rw [ih, hv]
  unfold bk_un
  rw [hu]
/-- a bill's price -/
noncomputable def bl_price (A : aC) (s : mS) (st : Int32) : Int32 := if (0 : Int32) ≤ (due_w A (hr_of st) (st / 96) (f_M_fogIn st s) 2 0).2.2.1 then (if (due_w A (hr_of st) (st / 96) (f_M_fogIn st s) 2 0).2.2.1 ≤ 9999 then (due_w A (hr_of st) (st / 96) (f_M_fogIn st s) 2 0).2.2.1 else 9999) else 0
theorem G_billOf {s t : mS} {A : aC} (hW : aW A) (hA : aG t A) (hsky : J_sky t) (hf : gI t 122 = gI s 122) {r : Nat} (hr : r < 200) {P st : Int32} {U : Int64} (h85 : gI t 85 r = P) (h86 : gI t 86 r = st) (h0 : 0 ≤ st) (h1 : st ≤ 10000) (h90 : gL t 90 r = U) :
    (f_G_billOf (Int32.ofNat r) t).1 = (if P = -1 then 0 else U * Int32.toInt64 (bl_price A s st)) ∧ ok_G_billOf (Int32.ofNat r) t ∧ aG (f_G_billOf (Int32.ofNat r) t).2 A ∧ fp [39] [(36, 3), (36, 8), (36, 9)] true t (f_G_billOf (Int32.ofNat r) t).2 := by
  have e2 : ix (Int32.ofNat r) = r := ix_ofNat (by omega)
  have b1 : mm_inb (Int32.ofNat r) 200 = true := inb_ofNat (by decide) hr
  by_cases c : P = -1
  · have e : f_G_billOf (Int32.ofNat r) t = (0, t) := by
      simp only [f_G_billOf, e2, h85, c, if_true]
    rw [e, if_pos c]
    refine ⟨rfl, ?_, hA, fp_r⟩
    simp only [ok_G_billOf, e2, h85, c, if_true, b1, and_self]
  · obtain ⟨g1, g2, g3, g4, g5⟩ := G_judge hW hA hsky h0 h1 2 0
    have fG := fr_Laws_judge 2 st 0 t hA.1
    rw [sky_fog hf] at g4
    have e : f_G_billOf (Int32.ofNat r) t = (U * Int32.toInt64 (bl_price A s st), f_Laws_judge 2 st 0 t) := by
      simp only [f_G_billOf, mq_let_e, e2, h85, c, if_false, h86]
      rw [clamp_eq (by decide : (0 : Int32) < 9999), congrFun (fpA fG (by decide)).2 r, h90, g4]
      rfl
    rw [e, if_neg c]
    refine ⟨rfl, ?_, g2, fG⟩
    simp only [ok_G_billOf, mq_letP_e, e2, h85, c, if_false, h86, b1, g1, true_and]
theorem M_billOf {s : mS} {A : aC} (hW : aW A) (hA : aM s A) (h_books : J_books s) (h_gen : J_gen s) {n m : Nat} (hn : gI s 116 57 = Int32.ofNat n) (hn2 : n ≤ 200) (hm : gI s 116 58 = Int32.ofNat m) (hm2 : m ≤ 100) (known : Int32) {t : Int32} {r j : Nat} (hr : r < n) (h1 : gI s 150 r = t) (h2 : hk_cnt (gI s 150) t r = j) :
    (f_M_billOf t (Int32.ofNat j) known s).1 = bk_un s (fun k => bk_sh s known k m) r * Int32.toInt64 (bl_price A s (gI s 151 r)) ∧ ok_M_billOf t (Int32.ofNat j) known s ∧ fp [168, 169] [(116, 91), (116, 92), (116, 93)] false s (f_M_billOf t (Int32.ofNat j) known s).2 := by
  have hle := hk_le (H := gI s 150) (t := t) r
  have hix : ix (gI s 116 57) = n := by rw [hn, ix_ofNat (by omega)]
  have kb := h_books
  unfold J_books at kb
  have b18 := kb.2.2.2.2.2.2.2.2.2.2.2.2.2.2.2.2.2.1 r (by omega)
  have kg := h_gen
  unfold J_gen at kg
  have hst : gI s 151 r ≤ 10000 := by have := kg.2.2.1; grind
  have R := M_rd hn hn2 t (Int32.ofNat j)
  rw [rd_some (by omega) hr h1 (by rw [h2])] at R
  have e2 : ix (Int32.ofNat r) = r := ix_ofNat (by omega)
  have b1 : mm_inb (Int32.ofNat r) 200 = true := inb_ofNat (by decide) (by omega)
  obtain ⟨g, p1, p2⟩ := M_price hW hA b18.1 hst 0
  have fM := fr_M_dueOf_2 (gI s 151 r) 0 s
  rw [p1] at fM
  have htold : gI (uS (uF s (gI s 151 r) 0 0) g (if (wg_st (dF (hr_of (gI s 151 r)) (gI s 151 r / 96) (f_M_fogIn (gI s 151 r) s) 0 0) 2 (gI s 151 r / 96) A 4).2.1 = -1 then 0 else 1) (wg_st (dF (hr_of (gI s 151 r)) (gI s 151 r / 96) (f_M_fogIn (gI s 151 r) s) 0 0) 2 (gI s 151 r / 96) A 4).2.2.2 (wg_st (dF (hr_of (gI s 151 r)) (gI s 151 r / 96) (f_M_fogIn (gI s 151 r) s) 0 0) 2 (gI s 151 r / 96) A 4).2.1) 116 91 = (if (wg_st (dF (hr_of (gI s 151 r)) (gI s 151 r / 96) (f_M_fogIn (gI s 151 r) s) 0 0) 2 (gI s 151 r / 96) A 4).2.1 = -1 then 0 else 1) := uS_t
  generalize uS (uF s (gI s 151 r) 0 0) g (if (wg_st (dF (hr_of (gI s 151 r)) (gI s 151 r / 96) (f_M_fogIn (gI s 151 r) s) 0 0) 2 (gI s 151 r / 96) A 4).2.1 = -1 then 0 else 1) (wg_st (dF (hr_of (gI s 151 r)) (gI s 151 r / 96) (f_M_fogIn (gI s 151 r) s) 0 0) 2 (gI s 151 r / 96) A 4).2.2.2 (wg_st (dF (hr_of (gI s 151 r)) (gI s 151 r / 96) (f_M_fogIn (gI s 151 r) s) 0 0) 2 (gI s 151 r / 96) A 4).2.1 = v at *
  have hd : (wg_st (dF (hr_of (gI s 151 r)) (gI s 151 r / 96) (f_M_fogIn (gI s 151 r) s) 0 0) 2 (gI s 151 r / 96) A 4) = due_w A (hr_of (gI s 151 r)) (gI s 151 r / 96) (f_M_fogIn (gI s 151 r) s) 2 0 := rfl
  rw [hd] at p1 htold
  have hprice : (if gI v 116 91 = 0 then (0 : Int32) else (if (0 : Int32) ≤ (due_w A (hr_of (gI s 151 r)) (gI s 151 r / 96) (f_M_fogIn (gI s 151 r) s) 2 0).2.2.1 then (if (due_w A (hr_of (gI s 151 r)) (gI s 151 r / 96) (f_M_fogIn (gI s 151 r) s) 2 0).2.2.1 ≤ 9999 then (due_w A (hr_of (gI s 151 r)) (gI s 151 r / 96) (f_M_fogIn (gI s 151 r) s) 2 0).2.2.1 else 9999) else 0)) = bl_price A s (gI s 151 r) := by
    rw [htold]
    by_cases q : (due_w A (hr_of (gI s 151 r)) (gI s 151 r / 96) (f_M_fogIn (gI s 151 r) s) 2 0).2.1 = -1
    · have e0 : (due_w A (hr_of (gI s 151 r)) (gI s 151 r / 96) (f_M_fogIn (gI s 151 r) s) 2 0).2.2.1 = 0 := wg_0 (by omega : 4 < 90000) q
      rw [if_pos q, if_pos rfl]
      unfold bl_price
      rw [e0, if_pos (by decide), if_pos (by decide)]
    · rw [if_neg q, if_neg (by decide)]
      rfl
  have hJb : J_books v := jf_books fM (by decide) h_books
  have hJg : J_gen v := jf_gen fM (by decide) h_gen
  have U := M_units (t := t) hJb hJg (by rw [(fpF fM (by decide)).1]; exact hn) hn2 (by rw [(fpF fM (by decide)).1]; exact hm) hm2 known hr (by rw [(fpA fM (by decide)).1]; exact h1) (j := j) (by rw [(fpA fM (by decide)).1]; exact h2)
  rw [bk_un_c ⟨(fpA fM (by decide)).1, (fpA fM (by decide)).1, (fpA fM (by decide)).1⟩] at U
  have hsh : (fun k => bk_sh v known k m) = fun k => bk_sh s known k m := funext fun k => bk_sh_c ⟨(fpA fM (by decide)).1, (fpA fM (by decide)).1, (fpA fM (by decide)).1, (fpA fM (by decide)).1⟩ known k m
  rw [hsh] at U
  have e : f_M_billOf t (Int32.ofNat j) known s = (bk_un s (fun k => bk_sh s known k m) r * Int32.toInt64 (bl_price A s (gI s 151 r)), v) := by
    simp only [f_M_billOf, mq_let_e, R.1, e2, p1, hprice, U.1]
  rw [e]
  refine ⟨rfl, ?_, fM⟩
  simp only [ok_M_billOf, mq_letP_e, R.1, R.2, e2, b1, p1, p2, U.2, true_and]
theorem op_bill (a1 a2 a3 a4 : Int32) (s : mS) (h_sky : J_sky s) (h_things : J_things s) (h_books : J_books s) (h_gen : J_gen s) (h_acts : J_acts s) : ok_G_bill a1 a2 a3 a4 s ∧ ok_M_bill a1 a2 a3 a4 (f_G_bill a1 a2 a3 a4 s).2 ∧ (f_G_bill a1 a2 a3 a4 s).1 = (f_M_bill a1 a2 a3 a4 (f_G_bill a1 a2 a3 a4 s).2).1 ∧ J_acts (f_M_bill a1 a2 a3 a4 (f_G_bill a1 a2 a3 a4 s).2).2 := by
  obtain ⟨n, hn, hn2, hix⟩ := books_n h_books
  obtain ⟨m, hm, hm2, hmx⟩ := books_m h_books
  have kt := h_things
  unfold J_things at kt
  obtain ⟨t1, t2, t3, t4, t5, t6, t7, t8, t9, t10, t11, t12, t13, t14, t15, t16, t17⟩ := kt
  have kb := h_books
  unfold J_books at kb
  obtain ⟨b1, b2, b3, b4, b5, b6, b7, b8, b9, b10, b11, b12, b13, b14, b15, b16, b17, b18, b19, b20⟩ := kb
  have kg := h_gen
  unfold J_gen at kg
  have G := G_rd h_books hn hn2 a1 a2
  -- a call that answers NONE and leaves all as it is
  have nothing : f_G_bill a1 a2 a3 a4 s = (-1, s) → ok_G_bill a1 a2 a3 a4 s → f_M_bill a1 a2 a3 a4 s = (-1, s) → ok_M_bill a1 a2 a3 a4 s → ok_G_bill a1 a2 a3 a4 s ∧ ok_M_bill a1 a2 a3 a4 (f_G_bill a1 a2 a3 a4 s).2 ∧ (f_G_bill a1 a2 a3 a4 s).1 = (f_M_bill a1 a2 a3 a4 (f_G_bill a1 a2 a3 a4 s).2).1 ∧ J_acts (f_M_bill a1 a2 a3 a4 (f_G_bill a1 a2 a3 a4 s).2).2 := by
    intro e1 o1 e2 o2
    rw [e1]
    show _ ∧ ok_M_bill a1 a2 a3 a4 s ∧ (-1 : Int64) = (f_M_bill a1 a2 a3 a4 s).1 ∧ J_acts (f_M_bill a1 a2 a3 a4 s).2
    rw [e2]
    exact ⟨o1, o2, rfl, h_acts⟩
  have M0 := M_rd hn hn2 a1 a2
  by_cases c0 : rd_of (gI s 150) a1 a2 n = -1
  · refine nothing ?_ ?_ ?_ ?_
    · simp only [f_G_bill, mq_let_e, G.1, c0, if_true]
    · simp only [ok_G_bill, mq_letP_e, G.1, G.2, c0, if_true, true_and]
    · simp only [f_M_bill, mq_let_e, M0.1, c0, if_true, ite_self]
    · simp only [ok_M_bill, mq_letP_e, o_house _ _ t12 t13, M0.1, M0.2, c0, if_true, true_and, ite_self]
  obtain ⟨m0, m1⟩ := rd_house h_books hn hn2 c0
  have m1' : ¬ a2 < 0 := Int32.not_lt.mpr m1
  obtain ⟨r, r1, r2, r3, r4⟩ := rd_get (by omega) c0
  have e9 : ¬ Int32.ofNat r = -1 := ofNat_ne1 (by omega)
  have er : ix (Int32.ofNat r) = r := ix_ofNat (by omega)
  have br : mm_inb (Int32.ofNat r) 200 = true := inb_ofNat (by decide) (by omega)
  rw [r4] at G M0
  have k18 := b18 r (by omega)
  by_cases c1 : 0 ≤ a3 ∧ a3 ≤ gI s 116 1
  rotate_left
  · refine nothing ?_ ?_ ?_ ?_
    · simp only [f_G_bill, mq_let_e, G.1, e9, z_within, kg.1, ite_not, c1, if_false]
    · simp only [ok_G_bill, mq_letP_e, G.1, G.2, e9, z_within, kg.1, ite_not, c1, if_false, true_and]
    · simp only [f_M_bill, mq_let_e, z_house, z_isIn, ite_not, m0, and_self, if_true, m1', c1, if_false]
    · simp only [ok_M_bill, mq_letP_e, o_house _ _ t12 t13, z_house, z_isIn, ite_not, m0, and_self, if_true, m1', c1, if_false, true_and]
  by_cases c2 : gI s 151 r ≤ a3
  rotate_left
  · have c2' : a3 < gI s 151 r := Int32.not_le.mp c2
    refine nothing ?_ ?_ ?_ ?_
    · simp only [f_G_bill, mq_let_e, G.1, e9, z_within, kg.1, ite_not, c1, and_self, if_true, if_false, er, b2, c2', ite_self]
    · simp only [ok_G_bill, mq_letP_e, G.1, G.2, e9, z_within, kg.1, ite_not, c1, and_self, if_true, if_false, er, b2, c2', br, true_and, ite_self]
    · simp only [f_M_bill, mq_let_e, z_house, z_isIn, ite_not, m0, and_self, if_true, m1', c1, M0.1, e9, if_false, er, c2]
    · simp only [ok_M_bill, mq_letP_e, o_house _ _ t12 t13, z_house, z_isIn, ite_not, m0, and_self, if_true, m1', c1, M0.1, M0.2, e9, if_false, er, br, c2, true_and]
  have c2' : ¬ a3 < gI s 151 r := Int32.not_lt.mpr c2
  by_cases c3 : 0 ≤ a4 ∧ a4 ≤ 4
  rotate_left
  · have d0 : ¬ a4 = 0 := by grind
    have d1 : ¬ a4 = 1 := by grind
    have d2 : ¬ a4 = 2 := by grind
    have d3 : ¬ a4 = 3 := by grind
    have d4 : ¬ a4 = 4 := by grind
    refine nothing ?_ ?_ ?_ ?_
    · simp only [f_G_bill, mq_let_e, G.1, e9, z_within, kg.1, ite_not, c1, and_self, if_true, if_false, c3]
    · simp only [ok_G_bill, mq_letP_e, G.1, G.2, e9, z_within, kg.1, ite_not, c1, and_self, if_true, if_false, c3]
    · simp only [f_M_bill, mq_let_e, z_house, z_isIn, ite_not, m0, and_self, if_true, m1', c1, M0.1, e9, if_false, er, c2, d0, d1, d2, d3, d4]
    · simp only [ok_M_bill, mq_letP_e, o_house _ _ t12 t13, z_house, z_isIn, ite_not, m0, and_self, if_true, m1', c1, M0.1, M0.2, e9, if_false, er, br, c2, true_and, d0, d1, d2, d3, d4]
  by_cases c4 : a4 ≤ 2 ∨ (1 : Int32) ≤ a2
  rotate_left
  · have c5 : ¬ a4 ≤ 2 := fun h => c4 (Or.inl h)
    have c6 : ¬ (1 : Int32) ≤ a2 := fun h => c4 (Or.inr h)
    have c7 : a2 = 0 := by grind
    have d0 : ¬ a4 = 0 := by grind
    have d1 : ¬ a4 = 1 := by grind
    have d2 : ¬ a4 = 2 := by grind
    refine nothing ?_ ?_ ?_ ?_
    · simp only [f_G_bill, mq_let_e, G.1, e9, z_within, kg.1, ite_not, c1, and_self, if_true, if_false, c3, er, b2, c2', c5, c6]
    · simp only [ok_G_bill, mq_letP_e, G.1, G.2, e9, z_within, kg.1, ite_not, c1, and_self, if_true, if_false, c3, er, b2, c2', c5, c6, br]
    · simp only [f_M_bill, mq_let_e, z_house, z_isIn, ite_not, m0, and_self, if_true, m1', c1, M0.1, e9, if_false, er, c2, d0, d1, d2, c7, ite_self]
    · subst c7
      simp only [ok_M_bill, mq_letP_e, o_house _ _ t12 t13, z_house, z_isIn, ite_not, m0, and_self, if_true, m1', c1, M0.1, M0.2, e9, if_false, er, br, c2, true_and, d0, d1, d2, ite_self]
  -- the bill is told
  obtain ⟨A, hW, hG, hM⟩ := h_acts
  obtain ⟨g, u, kn1, kn2, kn3, kn4⟩ := G_know h_books hn hn2 hm hm2 a3
  have fK := fr_Books_know a3 s
  have x89 : gI (f_Books_know a3 s) 89 r = bk_sh s a3 r m := by
    rw [kn1, gI_sM, gI_sA, if_pos rfl]
    exact kn3 r r1
  have x90 : gL (f_Books_know a3 s) 90 r = bk_un s (fun k => bk_sh s a3 k m) r := by
    rw [kn1, gL_sM, if_pos rfl]
    exact kn4 r r1
  clear kn1 kn3 kn4
  generalize hkt : f_Books_know a3 s = t at *
  have x86 : gI t 86 r = gI s 151 r := by rw [(fpA fK (by decide)).1, b2]
  have x88 : gI t 88 r = gI s 156 r := by rw [(fpA fK (by decide)).1, b4]
  have hMt : aM t A := aM_fp fK (by decide) hM
  have hGt : aG t A := aG_fp fK (by decide) hG
  have hJb : J_books t := jf_books fK (by decide) h_books
  have hJg : J_gen t := jf_gen fK (by decide) h_gen
  have hJs : J_sky t := jf_sky fK (by decide) h_sky
  have y57 : gI t 116 57 = Int32.ofNat n := by rw [(fpF fK (by decide)).1]; exact hn
  have y58 : gI t 116 58 = Int32.ofNat m := by rw [(fpF fK (by decide)).1]; exact hm
  have y150 : gI t 150 = gI s 150 := (fpA fK (by decide)).1
  have y151 : gI t 151 = gI s 151 := (fpA fK (by decide)).1
  have y156 : gI t 156 = gI s 156 := (fpA fK (by decide)).1
  have y133 : gI t 133 = gI s 133 := (fpA fK (by decide)).1
  have y1 : gI t 116 1 = gI s 116 1 := (fpF fK (by decide)).1
  have y8 : gI t 116 8 = gI s 116 8 := (fpF fK (by decide)).1
  have ysh : ∀ k, bk_sh t a3 k m = bk_sh s a3 k m := fun k => bk_sh_c ⟨(fpA fK (by decide)).1, (fpA fK (by decide)).1, (fpA fK (by decide)).1, (fpA fK (by decide)).1⟩ a3 k m
  have yun : bk_un t (fun k => bk_sh t a3 k m) r = bk_un s (fun k => bk_sh s a3 k m) r := by
    rw [bk_un_c ⟨y150, y151, y156⟩, funext ysh]
  have hoh : ok_M_isHouse a1 t := o_house _ _ (by rw [y8]; exact t12) (by rw [y8]; exact t13)
  -- what the model finds at any state that agrees
  have MM : ∀ v, J_books v → J_gen v → aM v A → gI v 116 57 = Int32.ofNat n → gI v 116 58 = Int32.ofNat m → gI v 150 = gI s 150 → gI v 151 = gI s 151 → gI v 156 = gI s 156 → gI v 133 = gI s 133 → gI v 116 1 = gI s 116 1 → gI v 116 8 = gI s 116 8 → (∀ k, bk_sh v a3 k m = bk_sh s a3 k m) → bk_un v (fun k => bk_sh v a3 k m) r = bk_un s (fun k => bk_sh s a3 k m) r → gI v 122 = gI s 122 →
      ok_M_bill a1 a2 a3 a4 v ∧ (f_M_bill a1 a2 a3 a4 v).1 = (if a4 = 0 then Int32.toInt64 (gI s 151 r) else if a4 = 1 then Int32.toInt64 (bk_sh s a3 r m) else if a4 = 2 then (if gI s 156 r = 0 then 0 else 1) else if a4 = 3 then bk_un s (fun k => bk_sh s a3 k m) r else bk_un s (fun k => bk_sh s a3 k m) r * Int32.toInt64 (bl_price A s (gI s 151 r))) ∧ fp [168, 169] [(116, 91), (116, 92), (116, 93)] false v (f_M_bill a1 a2 a3 a4 v).2 := by
    intro v hb hg ha v57 v58 v150 v151 v156 v133 v1 v8 vsh vun v122
    have M1 := M_rd v57 hn2 a1 a2
    rw [v150, r4] at M1
    have Sh := M_shows v58 hm2 a3 (by omega : r < 200)
    rw [vsh] at Sh
    have hcnt := hk_le (H := gI s 150) (t := a1) r
    have U := M_units (t := a1) hb hg v57 hn2 v58 hm2 a3 r1 (by rw [v150]; exact r2) (j := hk_cnt (gI s 150) a1 r) (by rw [v150])
    rw [vun, r3] at U
    have B := M_billOf (t := a1) hW ha hb hg v57 hn2 v58 hm2 a3 r1 (by rw [v150]; exact r2) (j := hk_cnt (gI s 150) a1 r) (by rw [v150])
    rw [vun, r3, v151] at B
    have hpr : bl_price A v (gI s 151 r) = bl_price A s (gI s 151 r) := by
      unfold bl_price
      rw [sky_fog v122]
    rw [hpr] at B
    have hoh : ok_M_isHouse a1 v := o_house _ _ (by rw [v8]; exact t12) (by rw [v8]; exact t13)
    have n10 : ¬ (1 : Int32) = 0 := by decide
    have n20 : ¬ (2 : Int32) = 0 := by decide
    have n21 : ¬ (2 : Int32) = 1 := by decide
    have n30 : ¬ (3 : Int32) = 0 := by decide
    have n31 : ¬ (3 : Int32) = 1 := by decide
    have n32 : ¬ (3 : Int32) = 2 := by decide
    have n40 : ¬ (4 : Int32) = 0 := by decide
    have n41 : ¬ (4 : Int32) = 1 := by decide
    have n42 : ¬ (4 : Int32) = 2 := by decide
    have n43 : ¬ (4 : Int32) = 3 := by decide
    by_cases d0 : a4 = 0
    · subst d0
      have e : f_M_bill a1 a2 a3 0 v = (Int32.toInt64 (gI s 151 r), v) := by
        simp only [f_M_bill, mq_let_e, z_house, z_isIn, ite_not, v8, v133, v1, v151, m0, and_self, if_true, m1', c1, M1.1, e9, if_false, er, c2]
      rw [e]
      refine ⟨?_, rfl, fp_r⟩
      simp only [ok_M_bill, mq_letP_e, hoh, z_house, z_isIn, ite_not, v8, v133, v1, v151, m0, and_self, if_true, m1', c1, M1.1, M1.2, e9, if_false, er, br, c2, true_and]
    · by_cases d1 : a4 = 1
      · subst d1
        have e : f_M_bill a1 a2 a3 1 v = (Int32.toInt64 (bk_sh s a3 r m), v) := by
          simp only [f_M_bill, mq_let_e, z_house, z_isIn, ite_not, v8, v133, v1, v151, m0, and_self, if_true, m1', c1, M1.1, e9, if_false, er, c2, n10, Sh.1]
        rw [e]
        refine ⟨?_, rfl, fp_r⟩
        simp only [ok_M_bill, mq_letP_e, hoh, z_house, z_isIn, ite_not, v8, v133, v1, v151, m0, and_self, if_true, m1', c1, M1.1, M1.2, e9, if_false, er, br, c2, true_and, n10, Sh.2]
      · by_cases d2 : a4 = 2
        · subst d2
          have e : f_M_bill a1 a2 a3 2 v = (if gI s 156 r = 0 then 0 else 1, v) := by
            simp only [f_M_bill, mq_let_e, z_house, z_isIn, ite_not, v8, v133, v1, v151, v156, m0, and_self, if_true, m1', c1, M1.1, e9, if_false, er, c2, n20, n21]
            split <;> rfl
          rw [e]
          refine ⟨?_, rfl, fp_r⟩
          simp only [ok_M_bill, mq_letP_e, hoh, z_house, z_isIn, ite_not, v8, v133, v1, v151, m0, and_self, if_true, m1', c1, M1.1, M1.2, e9, if_false, er, br, c2, true_and, n20, n21]
        · have c6 : (1 : Int32) ≤ a2 := c4.resolve_left (by grind)
          have a20 : ¬ a2 = 0 := by grind
          by_cases d3 : a4 = 3
          · subst d3
            have e : f_M_bill a1 a2 a3 3 v = (bk_un s (fun k => bk_sh s a3 k m) r, v) := by
              simp only [f_M_bill, mq_let_e, z_house, z_isIn, ite_not, v8, v133, v1, v151, m0, and_self, if_true, m1', c1, M1.1, e9, if_false, er, c2, n30, n31, n32, a20, U.1]
            rw [e]
            refine ⟨?_, rfl, fp_r⟩
            simp only [ok_M_bill, mq_letP_e, hoh, z_house, z_isIn, ite_not, v8, v133, v1, v151, m0, and_self, if_true, m1', c1, M1.1, M1.2, e9, if_false, er, br, c2, true_and, n30, n31, n32, a20, U.2]
          · have d4 : a4 = 4 := by grind
            subst d4
            have e : f_M_bill a1 a2 a3 4 v = ((f_M_billOf a1 a2 a3 v).1, (f_M_billOf a1 a2 a3 v).2) := by
              simp only [f_M_bill, mq_let_e, z_house, z_isIn, ite_not, v8, v133, v1, v151, m0, and_self, if_true, m1', c1, M1.1, e9, if_false, er, c2, n40, n41, n42, n43, a20]
            rw [e]
            refine ⟨?_, B.1, B.2.2⟩
            simp only [ok_M_bill, mq_letP_e, hoh, z_house, z_isIn, ite_not, v8, v133, v1, v151, m0, and_self, if_true, m1', c1, M1.1, M1.2, e9, if_false, er, br, c2, true_and, n40, n41, n42, n43, a20, B.2.1]
  have c45 : ∀ (x : Int64 × mS), (if a4 ≤ 2 then x else if (1 : Int32) ≤ a2 then x else (-1, s)) = x := by
    intro x
    rcases c4 with h | h
    · rw [if_pos h]
    · rw [if_pos h, ite_self]
  have c46 : ∀ (x : Prop), (if a4 ≤ 2 then x else if (1 : Int32) ≤ a2 then x else True) = x := by
    intro x
    rcases c4 with h | h
    · rw [if_pos h]
    · rw [if_pos h, ite_self]
  have eG0 : f_G_bill a1 a2 a3 a4 s = (if a4 = 0 then ((Int32.toInt64 (gI t 86 r)), t) else (if a4 = 1 then ((Int32.toInt64 (gI t 89 r)), t) else (if a4 = 2 then (if (gI t 88 r) = 0 then (0, t) else (1, t)) else (if a4 = 3 then ((gL t 90 r), t) else ((f_G_billOf (Int32.ofNat r) t).1, (f_G_billOf (Int32.ofNat r) t).2))))) := by
    simp only [f_G_bill, mq_let_e, G.1, e9, z_within, kg.1, ite_not, c1, c3, and_self, if_true, if_false, er, b2, c2', hkt]
    exact c45 _
  have oG0 : ok_G_bill a1 a2 a3 a4 s ↔ (ok_Books_know a3 s ∧ (if a4 = 0 then True else if a4 = 1 then True else if a4 = 2 then True else if a4 = 3 then True else ok_G_billOf (Int32.ofNat r) t)) := by
    simp only [ok_G_bill, mq_letP_e, G.1, G.2, e9, z_within, kg.1, ite_not, c1, c3, and_self, if_true, if_false, er, b2, c2', br, true_and, and_true, hkt]
    rw [c46]
  by_cases d4 : a4 = 4
  · have n40 : ¬ (4 : Int32) = 0 := by decide
    have n41 : ¬ (4 : Int32) = 1 := by decide
    have n42 : ¬ (4 : Int32) = 2 := by decide
    have n43 : ¬ (4 : Int32) = 3 := by decide
    have y85 : gI t 85 r = bk_P s r := by
      rw [(fpA fK (by decide)).1]
      exact b17 r (by omega)
    have BO := G_billOf (s := s) hW hGt hJs (fpA fK (by decide)).1 (by omega : r < 200) y85 x86 k18.1 (by have := k18.2; have := kg.2.2.1; grind) x90
    have c6 : (1 : Int32) ≤ a2 := c4.resolve_left (by rw [d4]; decide)
    have hP : ¬ bk_P s r = -1 := by
      intro h
      unfold bk_P at h
      rw [r2] at h
      by_cases q : hk_cnt (gI s 150) a1 r = 0
      · rw [q] at r3
        rw [← r3] at c6
        exact absurd c6 (by decide)
      · obtain ⟨p, p1, p2, -, -⟩ := hk_prev_s q
        rw [p2] at h
        exact ofNat_ne1 (by omega) h
    rw [if_neg hP] at BO
    have eG : f_G_bill a1 a2 a3 a4 s = ((f_G_billOf (Int32.ofNat r) t).1, (f_G_billOf (Int32.ofNat r) t).2) := by
      rw [eG0, d4]
      simp only [n40, n41, n42, n43, if_false]
    have oG : ok_G_bill a1 a2 a3 a4 s := oG0.mpr ⟨kn2, by rw [d4]; simp only [n40, n41, n42, n43, if_false]; exact BO.2.1⟩
    rw [eG]
    have fB := BO.2.2.2
    have gB := BO.2.2.1
    have vB := BO.1
    generalize f_G_billOf (Int32.ofNat r) t = w at *
    obtain ⟨q1, q2, q3⟩ := MM w.2 (jf_books fB (by decide) hJb) (jf_gen fB (by decide) hJg) (aM_fp fB (by decide) hMt) (by rw [(fpF fB (by decide)).1]; exact y57) (by rw [(fpF fB (by decide)).1]; exact y58) (by rw [(fpA fB (by decide)).1]; exact y150) (by rw [(fpA fB (by decide)).1]; exact y151) (by rw [(fpA fB (by decide)).1]; exact y156) (by rw [(fpA fB (by decide)).1]; exact y133) (by rw [(fpF fB (by decide)).1]; exact y1) (by rw [(fpF fB (by decide)).1]; exact y8) (fun k => by rw [bk_sh_c ⟨(fpA fB (by decide)).1, (fpA fB (by decide)).1, (fpA fB (by decide)).1, (fpA fB (by decide)).1⟩ a3 k m]; exact ysh k) (by
      rw [bk_un_c ⟨(fpA fB (by decide)).1, (fpA fB (by decide)).1, (fpA fB (by decide)).1⟩]
      rw [funext fun k => bk_sh_c ⟨(fpA fB (by decide)).1, (fpA fB (by decide)).1, (fpA fB (by decide)).1, (fpA fB (by decide)).1⟩ a3 k m]
      exact yun) (by rw [(fpA fB (by decide)).1, (fpA fK (by decide)).1])
    refine ⟨oG, q1, ?_, A, hW, aG_fp q3 (by decide) gB, aM_fp q3 (by decide) (aM_fp fB (by decide) hMt)⟩
    rw [q2, vB, d4]
    simp only [n40, n41, n42, n43, if_false]
  · have eG2 : (f_G_bill a1 a2 a3 a4 s).2 = t := by
      rw [eG0]
      split
      · rfl
      · split
        · rfl
        · split
          · split <;> rfl
          · rw [if_pos (by grind)]
    have eG1 : (f_G_bill a1 a2 a3 a4 s).1 = (if a4 = 0 then Int32.toInt64 (gI s 151 r) else if a4 = 1 then Int32.toInt64 (bk_sh s a3 r m) else if a4 = 2 then (if gI s 156 r = 0 then 0 else 1) else if a4 = 3 then bk_un s (fun k => bk_sh s a3 k m) r else bk_un s (fun k => bk_sh s a3 k m) r * Int32.toInt64 (bl_price A s (gI s 151 r))) := by
      rw [eG0, x86, x89, x88, x90]
      by_cases d0 : a4 = 0
      · simp only [d0, if_true]
      · by_cases d1 : a4 = 1
        · simp only [if_neg d0, if_pos d1]
        · by_cases d2 : a4 = 2
          · simp only [if_neg d0, if_neg d1, if_pos d2]
            split <;> rfl
          · have d3 : a4 = 3 := by grind
            simp only [if_neg d0, if_neg d1, if_neg d2, if_pos d3]
    obtain ⟨q1, q2, q3⟩ := MM t hJb hJg hMt y57 y58 y150 y151 y156 y133 y1 y8 ysh yun (fpA fK (by decide)).1
    rw [eG2]
    refine ⟨oG0.mpr ⟨kn2, ?_⟩, q1, by rw [q2, eG1], A, hW, aG_fp q3 (by decide) hGt, aM_fp q3 (by decide) hMt⟩
    split
    · trivial
    · split
      · trivial
      · split
        · trivial
        · rw [if_pos (by grind)]
          trivial
