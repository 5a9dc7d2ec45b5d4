/-! THE DUE, both classes alike. -/
def dF (h d f p l : Int32) (n : Nat) : Int32 := if n = 1 then h else if n = 2 then d else if n = 3 then f else if n = 4 then p else l
theorem cF_dF (a : Nat → Int32) : c_F a = dF (a 0) (a 1) (a 2) (a 3) (a 4) := rfl
theorem cN_dF (a : Nat → Int32) : c_N a = dF (a 1) (a 2) (a 3) (a 4) (a 5) := rfl
noncomputable def due_p (A : aC) (h d f : Int32) : Int32 := (wg_st (dF h d f 0 0) 2 d A 4).2.2.1
noncomputable def due_w (A : aC) (h d f sub lacks : Int32) : Int32 × Int32 × Int32 × Int32 := wg_st (dF h d f (if sub = 2 then 0 else due_p A h d f) lacks) sub d A 4
/-- the hour, as both reckon it -/
def hr_of (a : Int32) : Int32 := (a - a / 96 * 96) / 4
theorem fogS_sI (a : Int32) (s : mS) (j : Nat) (x : Int32) : f_Sky_fogIn a (sI s 39 j x) = f_Sky_fogIn a s ∧ (ok_Sky_fogIn a s → ok_Sky_fogIn a (sI s 39 j x)) := by
  constructor
  · unfold f_Sky_fogIn
    simp only [mq_let_e, f_Sky_dayOf, gI_sI, Nat.reduceEqDiff, false_and, if_false]
  · exact fun h => h
theorem fogM_sI (a : Int32) (s : mS) (j : Nat) (x : Int32) : f_M_fogIn a (sI s 169 j x) = f_M_fogIn a s := by
  unfold f_M_fogIn
  simp only [gI_sI, Nat.reduceEqDiff, false_and, if_false]
theorem aG_39 {s : mS} {A : aC} (h : aG s A) (j : Nat) (x : Int32) : aG (sI s 39 j x) A := by
  obtain ⟨h1, h2, h3, h4⟩ := h
  unfold aG
  rw [gP_sI]
  refine ⟨h1, h2, fun k hk ha => ?_, fun k hk d Ls ha => ?_⟩
  · have := mq_mod (h1 k)
    rw [gI_sI, if_neg (by omega)]
    exact h3 k hk ha
  · have := mq_mod (h1 k)
    obtain ⟨q1, q2, q3, q4⟩ := h4 k hk d Ls ha
    rw [gI_sI, if_neg (by omega), gI_sI, if_neg (by omega), gI_sI, if_neg (by omega)]
    refine ⟨q1, q2, q3, ?_⟩
    have e : ∀ m, m ≤ 7 → gI (sI s 39 j x) (gP s k + m) = gI s (gP s k + m) := fun m hm => by rw [fI_sI, if_neg (by omega)]
    have key : ∀ (R : List cL) (i : Nat), cl_Gs s (gP s k) i R → cl_Gs (sI s 39 j x) (gP s k) i R := by
      intro R
      induction R with
      | nil => intro i _; trivial
      | cons l R ih =>
        intro i hl
        refine ⟨?_, ih _ hl.2⟩
        have hl := hl.1
        unfold cl_G at hl ⊢
        rw [e 1 (by omega), e 2 (by omega), e 3 (by omega), e 4 (by omega), e 5 (by omega), e 6 (by omega)]
        exact hl
    exact key _ _ q4
theorem G_judge {s : mS} {A : aC} (hW : aW A) (hA : aG s A) (hsky : J_sky s) {a : Int32} (h0 : 0 ≤ a) (ha : a ≤ 10000) (sub lacks : Int32) :
    ok_Laws_judge sub a lacks s ∧ aG (f_Laws_judge sub a lacks s) A ∧ gI (f_Laws_judge sub a lacks s) 36 9 = (due_w A (hr_of a) (a / 96) (f_M_fogIn a s) sub lacks).2.1 ∧ gI (f_Laws_judge sub a lacks s) 36 8 = (due_w A (hr_of a) (a / 96) (f_M_fogIn a s) sub lacks).2.2.1 ∧ gI (f_Laws_judge sub a lacks s) 36 3 = (due_w A (hr_of a) (a / 96) (f_M_fogIn a s) sub lacks).2.2.2 := by
  have e1 := hour_eq h0 ha
  have e2 := fog_eq hsky h0 ha
  unfold f_Laws_judge ok_Laws_judge
  simp only [mq_let_e, mq_letP_e, f_Sky_hourOf, f_Sky_dayOf, (fogS_sI _ _ _ _).1, e2.1, e1, true_and]
  have o1 : ok_Sky_fogIn a (sI (sI s 39 0 (hr_of a)) 39 1 (a / 96)) := (fogS_sI _ _ _ _).2 ((fogS_sI _ _ _ _).2 e2.2)
  rw [show (a - a / 96 * 96) / 4 = hr_of a from rfl]
  have hA5 : aG (sI (sI (sI (sI (sI s 39 0 (hr_of a)) 39 1 (a / 96)) 39 2 (f_M_fogIn a s)) 39 3 0) 39 4 0) A := aG_39 (aG_39 (aG_39 (aG_39 (aG_39 hA _ _) _ _) _ _) _ _) _ _
  by_cases c : sub = 2
  · subst c
    simp only [if_true, true_and]
    have K := G_weigh (sub := 2) hW (s := sI (sI (sI (sI (sI (sI s 39 0 (hr_of a)) 39 1 (a / 96)) 39 2 (f_M_fogIn a s)) 39 3 0) 39 4 0) 39 4 lacks) (aG_39 hA5 _ _)
    rw [cF_dF] at K
    simp only [gI_sI, Nat.reduceEqDiff, and_false, and_self, if_true, if_false] at K
    refine ⟨⟨o1, K.2.1, trivial⟩, aG_w K.1 (aG_39 hA5 _ _), K.2.2.1, K.2.2.2.1, K.2.2.2.2⟩
  · simp only [if_neg c]
    have K1 := G_weigh (sub := 2) hW hA5
    rw [cF_dF] at K1
    simp only [gI_sI, Nat.reduceEqDiff, and_false, and_self, if_true, if_false] at K1
    have e39 : ∀ j, gI (f_Laws_weigh 2 (sI (sI (sI (sI (sI s 39 0 (hr_of a)) 39 1 (a / 96)) 39 2 (f_M_fogIn a s)) 39 3 0) 39 4 0)) 39 j = gI (sI (sI (sI (sI (sI s 39 0 (hr_of a)) 39 1 (a / 96)) 39 2 (f_M_fogIn a s)) 39 3 0) 39 4 0) 39 j := fun j => congrFun (wS_arr K1.1 (by decide)) j
    have hA6 : aG (sI (sI (f_Laws_weigh 2 (sI (sI (sI (sI (sI s 39 0 (hr_of a)) 39 1 (a / 96)) 39 2 (f_M_fogIn a s)) 39 3 0) 39 4 0)) 39 3 (gI (f_Laws_weigh 2 (sI (sI (sI (sI (sI s 39 0 (hr_of a)) 39 1 (a / 96)) 39 2 (f_M_fogIn a s)) 39 3 0) 39 4 0)) 36 8)) 39 4 lacks) A := aG_39 (aG_39 (aG_w K1.1 hA5) _ _) _ _
    have K := G_weigh (sub := sub) hW hA6
    rw [cF_dF] at K
    simp only [gI_sI, e39, Nat.reduceEqDiff, and_false, and_self, if_true, if_false] at K
    rw [K1.2.2.2.1] at K ⊢
    rw [K1.2.2.2.1] at hA6
    have hd : due_w A (hr_of a) (a / 96) (f_M_fogIn a s) sub lacks = wg_st (dF (hr_of a) (a / 96) (f_M_fogIn a s) (wg_st (dF (hr_of a) (a / 96) (f_M_fogIn a s) 0 0) 2 (a / 96) A 4).2.2.1 lacks) sub (a / 96) A 4 := by
      unfold due_w due_p
      rw [if_neg c]
    rw [hd]
    exact ⟨⟨o1, ⟨K1.2.1, trivial⟩, K.2.1, trivial⟩, aG_w K.1 hA6, K.2.2.1, K.2.2.2.1, K.2.2.2.2⟩
/-! the model -/
theorem aM_uS {u : mS} {A : aC} (h : aM u A) (g : Nat → Int32) (t q a : Int32) : aM (uS u g t q a) A := by
  obtain ⟨h1, h2⟩ := h
  have key : ∀ (k : Nat) (R : List cL) (i : Nat), cl_Ms u k i R → cl_Ms (uS u g t q a) k i R := by
    intro k R
    induction R with
    | nil => intro i _; trivial
    | cons l R ih => intro i hl; exact ⟨cl_M_u hl.1, ih _ hl.2⟩
  refine ⟨fun k hk ha => ?_, fun k hk d Ls ha => ?_⟩
  · rw [uS_f (by decide) (by decide)]
    exact h1 k hk ha
  · rw [uS_f (by decide) (by decide), uS_f (by decide) (by decide)]
    exact ⟨(h2 k hk d Ls ha).1, (h2 k hk d Ls ha).2.1, key _ _ _ (h2 k hk d Ls ha).2.2⟩
theorem aM_fr {u v : mS} {A : aC} (e : gI v 157 = gI u 157 ∧ gI v 158 = gI u 158 ∧ gI v 159 = gI u 159 ∧ gI v 160 = gI u 160 ∧ gI v 161 = gI u 161 ∧ gI v 162 = gI u 162) (h : aM u A) : aM v A := by
  obtain ⟨e1, e2, e3, e4, e5, e6⟩ := e
  have key : ∀ (k : Nat) (R : List cL) (i : Nat), cl_Ms u k i R → cl_Ms v k i R := by
    intro k R
    induction R with
    | nil => intro i _; trivial
    | cons l R ih =>
      intro i hl
      refine ⟨?_, ih _ hl.2⟩
      have hl := hl.1
      unfold cl_M at hl ⊢
      rw [e3, e4, e5, e6]
      exact hl
  unfold aM at h ⊢
  rw [e1, e2]
  exact ⟨h.1, fun k hk d Ls ha => ⟨(h.2 k hk d Ls ha).1, (h.2 k hk d Ls ha).2.1, key _ _ _ (h.2 k hk d Ls ha).2.2⟩⟩
/-- the model's facts -/
def uF (u : mS) (a p l : Int32) : mS := sI (sI (sI (sI (sI u 169 1 (hr_of a)) 169 2 (a / 96)) 169 3 (f_M_fogIn a u)) 169 4 p) 169 5 l
theorem asks_eq (a l p : Int32) (u : mS) (h0 : 0 ≤ a) (ha : a ≤ 10000) : f_M_asks a l p u = uF u a p l ∧ ok_M_asks a l p u := by
  constructor
  · unfold f_M_asks uF
    simp only [mq_let_e, fogM_sI]
    rfl
  · unfold ok_M_asks
    exact ⟨M_fogIn_ok h0 ha, trivial⟩
theorem uF_f (u : mS) (a p l : Int32) {c : Nat} (h : c ≠ 169) : gI (uF u a p l) c = gI u c := by
  unfold uF
  simp only [fI_sI, if_neg h]
theorem uF_169 (u : mS) (a p l : Int32) : c_N (gI (uF u a p l) 169) = dF (hr_of a) (a / 96) (f_M_fogIn a u) p l := by
  rw [cN_dF]
  unfold uF
  simp only [gI_sI, Nat.reduceEqDiff, and_false, and_self, if_true, if_false]
theorem aM_uF {u : mS} {A : aC} (h : aM u A) (a p l : Int32) : aM (uF u a p l) A := aM_fr ⟨uF_f _ _ _ _ (by decide), uF_f _ _ _ _ (by decide), uF_f _ _ _ _ (by decide), uF_f _ _ _ _ (by decide), uF_f _ _ _ _ (by decide), uF_f _ _ _ _ (by decide)⟩ h
theorem M_price {u : mS} {A : aC} (hW : aW A) (hA : aM u A) {a : Int32} (h0 : 0 ≤ a) (ha : a ≤ 10000) (l : Int32) : ∃ g, f_M_dueOf_2 a l u = ((wg_st (dF (hr_of a) (a / 96) (f_M_fogIn a u) 0 l) 2 (a / 96) A 4).2.2.1, uS (uF u a 0 l) g (if (wg_st (dF (hr_of a) (a / 96) (f_M_fogIn a u) 0 l) 2 (a / 96) A 4).2.1 = -1 then 0 else 1) (wg_st (dF (hr_of a) (a / 96) (f_M_fogIn a u) 0 l) 2 (a / 96) A 4).2.2.2 (wg_st (dF (hr_of a) (a / 96) (f_M_fogIn a u) 0 l) 2 (a / 96) A 4).2.1) ∧ ok_M_dueOf_2 a l u := by
  have K := M_due_lp2 (sub := 2) (a2 := a) hW (aM_uF hA a 0 l) 4 0 mm_N (gI (uF u a 0 l) 168) 0 0 rfl (by rw [mm_Ns]; omega) rfl rfl (Or.inl ⟨rfl, rfl⟩)
  obtain ⟨v, g, k1, k2⟩ := K
  rw [uF_169] at k1 k2
  have k1 : lp_M_dueOf_2_47 2 a mm_N 0 0 (uS (uF u a 0 l) (gI (uF u a 0 l) 168) 0 0 (-1)) = _ := k1
  have k2 : okl_M_dueOf_2_47 2 a mm_N 0 0 (uS (uF u a 0 l) (gI (uF u a 0 l) 168) 0 0 (-1)) := k2
  have e : sI (sI (sI (uF u a 0 l) 116 91 0) 116 92 0) 116 93 (-1) = uS (uF u a 0 l) (gI (uF u a 0 l) 168) 0 0 (-1) := by
    unfold uS
    rw [sA_id]
  refine ⟨g, ?_, ?_⟩
  · unfold f_M_dueOf_2
    simp only [mq_let_e, (asks_eq a l 0 u h0 ha).1, e, k1]
  · unfold ok_M_dueOf_2
    simp only [mq_letP_e, (asks_eq a l 0 u h0 ha).1, (asks_eq a l 0 u h0 ha).2, e, k1, k2, true_and]
theorem M_due {u : mS} {A : aC} (hW : aW A) (hA : aM u A) {a : Int32} (h0 : 0 ≤ a) (ha : a ≤ 10000) (sub lacks : Int32) :
    ok_M_dueOf sub a lacks u ∧ (f_M_dueOf sub a lacks u).1 = (due_w A (hr_of a) (a / 96) (f_M_fogIn a u) sub lacks).2.2.1 ∧ gI (f_M_dueOf sub a lacks u).2 116 91 = (if (due_w A (hr_of a) (a / 96) (f_M_fogIn a u) sub lacks).2.1 = -1 then 0 else 1) ∧ gI (f_M_dueOf sub a lacks u).2 116 92 = (due_w A (hr_of a) (a / 96) (f_M_fogIn a u) sub lacks).2.2.2 ∧ gI (f_M_dueOf sub a lacks u).2 116 93 = (due_w A (hr_of a) (a / 96) (f_M_fogIn a u) sub lacks).2.1 := by
  have go : ∀ (w : mS) (p : Int32), aM w A → f_M_fogIn a w = f_M_fogIn a u → ∃ g v, lp_M_dueOf_47 sub a mm_N 0 0 (sI (sI (sI (uF w a p lacks) 116 91 0) 116 92 0) 116 93 (-1)) = ((wg_st (dF (hr_of a) (a / 96) (f_M_fogIn a u) p lacks) sub (a / 96) A 4).2.2.1, v, uS (uF w a p lacks) g (if (wg_st (dF (hr_of a) (a / 96) (f_M_fogIn a u) p lacks) sub (a / 96) A 4).2.1 = -1 then 0 else 1) (wg_st (dF (hr_of a) (a / 96) (f_M_fogIn a u) p lacks) sub (a / 96) A 4).2.2.2 (wg_st (dF (hr_of a) (a / 96) (f_M_fogIn a u) p lacks) sub (a / 96) A 4).2.1) ∧ okl_M_dueOf_47 sub a mm_N 0 0 (sI (sI (sI (uF w a p lacks) 116 91 0) 116 92 0) 116 93 (-1)) := by
    intro w p hw hf
    have K := M_due_lp (sub := sub) (a2 := a) hW (aM_uF hw a p lacks) 4 0 mm_N (gI (uF w a p lacks) 168) 0 0 rfl (by rw [mm_Ns]; omega) rfl rfl (Or.inl ⟨rfl, rfl⟩)
    obtain ⟨v, g, k1, k2⟩ := K
    rw [uF_169, hf] at k1 k2
    have k1 : lp_M_dueOf_47 sub a mm_N 0 0 (uS (uF w a p lacks) (gI (uF w a p lacks) 168) 0 0 (-1)) = _ := k1
    have k2 : okl_M_dueOf_47 sub a mm_N 0 0 (uS (uF w a p lacks) (gI (uF w a p lacks) 168) 0 0 (-1)) := k2
    have e : sI (sI (sI (uF w a p lacks) 116 91 0) 116 92 0) 116 93 (-1) = uS (uF w a p lacks) (gI (uF w a p lacks) 168) 0 0 (-1) := by
      unfold uS
      rw [sA_id]
    rw [e]
    exact ⟨g, v, k1, k2⟩
  by_cases c : sub = 2
  · subst c
    obtain ⟨g, v, k1, k2⟩ := go u 0 hA rfl
    have hd : due_w A (hr_of a) (a / 96) (f_M_fogIn a u) 2 lacks = wg_st (dF (hr_of a) (a / 96) (f_M_fogIn a u) 0 lacks) 2 (a / 96) A 4 := rfl
    rw [hd]
    have e : f_M_dueOf 2 a lacks u = ((lp_M_dueOf_47 2 a mm_N 0 0 (sI (sI (sI (uF u a 0 lacks) 116 91 0) 116 92 0) 116 93 (-1))).1, (lp_M_dueOf_47 2 a mm_N 0 0 (sI (sI (sI (uF u a 0 lacks) 116 91 0) 116 92 0) 116 93 (-1))).2.2) := by
      unfold f_M_dueOf
      simp only [mq_let_e, if_true, (asks_eq a lacks 0 u h0 ha).1]
    rw [k1] at e
    rw [e]
    refine ⟨?_, rfl, uS_t, uS_q, uS_a⟩
    unfold ok_M_dueOf
    simp only [mq_letP_e, if_true, (asks_eq a lacks 0 u h0 ha).1, (asks_eq a lacks 0 u h0 ha).2, k1, k2, true_and]
  · obtain ⟨g0, p1, p2⟩ := M_price hW hA h0 ha 0
    obtain ⟨g, v, k1, k2⟩ := go (uS (uF u a 0 0) g0 (if (wg_st (dF (hr_of a) (a / 96) (f_M_fogIn a u) 0 0) 2 (a / 96) A 4).2.1 = -1 then 0 else 1) (wg_st (dF (hr_of a) (a / 96) (f_M_fogIn a u) 0 0) 2 (a / 96) A 4).2.2.2 (wg_st (dF (hr_of a) (a / 96) (f_M_fogIn a u) 0 0) 2 (a / 96) A 4).2.1) (wg_st (dF (hr_of a) (a / 96) (f_M_fogIn a u) 0 0) 2 (a / 96) A 4).2.2.1 (aM_uS (aM_uF hA _ _ _) _ _ _ _) (by
      unfold f_M_fogIn
      rw [uS_f (by decide) (by decide), uF_f _ _ _ _ (by decide)])
    have hd : due_w A (hr_of a) (a / 96) (f_M_fogIn a u) sub lacks = wg_st (dF (hr_of a) (a / 96) (f_M_fogIn a u) (wg_st (dF (hr_of a) (a / 96) (f_M_fogIn a u) 0 0) 2 (a / 96) A 4).2.2.1 lacks) sub (a / 96) A 4 := by
      unfold due_w due_p
      rw [if_neg c]
    rw [hd]
    have e : f_M_dueOf sub a lacks u = ((lp_M_dueOf_47 sub a mm_N 0 0 (sI (sI (sI (uF (uS (uF u a 0 0) g0 (if (wg_st (dF (hr_of a) (a / 96) (f_M_fogIn a u) 0 0) 2 (a / 96) A 4).2.1 = -1 then 0 else 1) (wg_st (dF (hr_of a) (a / 96) (f_M_fogIn a u) 0 0) 2 (a / 96) A 4).2.2.2 (wg_st (dF (hr_of a) (a / 96) (f_M_fogIn a u) 0 0) 2 (a / 96) A 4).2.1) a (wg_st (dF (hr_of a) (a / 96) (f_M_fogIn a u) 0 0) 2 (a / 96) A 4).2.2.1 lacks) 116 91 0) 116 92 0) 116 93 (-1))).1, (lp_M_dueOf_47 sub a mm_N 0 0 (sI (sI (sI (uF (uS (uF u a 0 0) g0 (if (wg_st (dF (hr_of a) (a / 96) (f_M_fogIn a u) 0 0) 2 (a / 96) A 4).2.1 = -1 then 0 else 1) (wg_st (dF (hr_of a) (a / 96) (f_M_fogIn a u) 0 0) 2 (a / 96) A 4).2.2.2 (wg_st (dF (hr_of a) (a / 96) (f_M_fogIn a u) 0 0) 2 (a / 96) A 4).2.1) a (wg_st (dF (hr_of a) (a / 96) (f_M_fogIn a u) 0 0) 2 (a / 96) A 4).2.2.1 lacks) 116 91 0) 116 92 0) 116 93 (-1))).2.2) := by
      unfold f_M_dueOf
      simp only [mq_let_e, if_neg c, p1, (asks_eq a lacks _ _ h0 ha).1]
    rw [k1] at e
    rw [e]
    refine ⟨?_, rfl, uS_t, uS_q, uS_a⟩
    unfold ok_M_dueOf
    simp only [mq_let_e, mq_letP_e, if_neg c, p1, p2, (asks_eq a lacks _ _ h0 ha).1, (asks_eq a lacks _ _ h0 ha).2, k1, k2, true_and]
