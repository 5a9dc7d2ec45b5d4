/-! LINES AS CODE: what a code comes to, in both classes. -/
def c_val (F : Nat → Int32) (c : List cI) : Int32 := (c_exs F c []).headD 0
theorem len1 {l : List Int32} (h : l.length = 1) : l = [l.headD 0] := by
  match l, h with
  | [a], _ => rfl
theorem G_val {r : Nat} (hr : mq_A r) {s : mS} {c : List cI} {p q : Nat} (hs : c_seg (gI s (r + 5)) (gI s (r + 6)) p (c_xs c)) (hp : p + (c_xs c).length = q) (hq : q ≤ 600) (hd : c_hts c 0 = some 1) :
    ∃ g, f_Act_valueOf_39 r (Int32.ofNat p) (Int32.ofNat q) s = (c_val (c_F (gI s 39)) c, sA s (r + 7) g) ∧ ok_Act_valueOf_39 r (Int32.ofNat p) (Int32.ofNat q) s := by
  obtain ⟨g, g1, g2, g3, g4⟩ := G_val_lp hr hq c p mm_N 1 [] (gI s (r + 7)) hs hp hd trivial (by rw [mm_Ns]; omega) (by simp)
  rw [sA_id] at g1 g2
  have hp0 : (if (0 : Int32) < Int32.ofNat p then Int32.ofNat p else (0 : Int32)) = Int32.ofNat p := by
    by_cases h : (0 : Int32) < Int32.ofNat p
    · rw [if_pos h]
    · rw [if_neg h]
      have h2 : Int32.ofNat p ≤ Int32.ofNat 0 := Int32.not_lt.mp h
      rw [ofNat_le (by omega) (by omega)] at h2
      rw [show p = 0 by omega]
      rfl
  have g1 : lp_Act_valueOf_39_10 r (Int32.ofNat q) mm_N 0 (Int32.ofNat p) s = _ := g1
  have g2 : okl_Act_valueOf_39_10 r (Int32.ofNat q) mm_N 0 (Int32.ofNat p) s := g2
  have e1 : ¬ Int32.ofNat 1 ≤ 0 := by decide
  have e2 : ix (Int32.ofNat 1 - 1) = 0 := rfl
  have g5 := len1 g4
  refine ⟨g, ?_, ?_⟩
  · unfold f_Act_valueOf_39
    simp only [mq_let_e, hp0, g1, e1, if_false, e2, gI_sA, if_true]
    rw [g5] at g3
    have : g 0 = c_val (c_F (gI s 39)) c := g3.1
    rw [this]
  · unfold ok_Act_valueOf_39
    simp only [mq_letP_e, hp0, g1, g2, e1, if_false, true_and, and_true]
    rfl
/-- where a code lies in the model's row -/
def c_sgm (a : Nat → Int32) (b p : Nat) : List cI → Prop
  | [] => True
  | i :: c => a (b + 2 * p) = i.1 ∧ ((i.1 = 0 ∨ i.1 = 9) → a (b + 2 * p + 1) = i.2) ∧ c_sgm a b (p + 1) c
theorem c_sgm_app {a : Nat → Int32} {b : Nat} : ∀ {c d : List cI} {p : Nat}, c_sgm a b p (c ++ d) ↔ c_sgm a b p c ∧ c_sgm a b (p + c.length) d
  | [], d, p => by simp [c_sgm]
  | i :: c, d, p => by
    have := c_sgm_app (a := a) (b := b) (c := c) (d := d) (p := p + 1)
    simp only [List.cons_append, c_sgm, List.length_cons, this]
    rw [show p + 1 + c.length = p + (c.length + 1) by omega]
    constructor
    · rintro ⟨h1, h2, h3, h4⟩; exact ⟨⟨h1, h2, h3⟩, h4⟩
    · rintro ⟨⟨h1, h2, h3⟩, h4⟩; exact ⟨h1, h2, h3, h4⟩
theorem ofNat_mul' (a b : Nat) : Int32.ofNat a * Int32.ofNat b = Int32.ofNat (a * b) := by
  simp [Int32.ofNat_mul]
theorem ofNat_add' (a b : Nat) : Int32.ofNat a + Int32.ofNat b = Int32.ofNat (a + b) := by
  simp [Int32.ofNat_add]
theorem m_ix (k p : Nat) : 1220 * Int32.ofNat k + 2 * Int32.ofNat p = Int32.ofNat (1220 * k + 2 * p) := by
  rw [← ofNat_add', ← ofNat_mul', ← ofNat_mul']
  rfl
theorem M_val_lp {s : mS} {k e : Nat} (hk : k < 4) (he : e ≤ 609) : ∀ (c : List cI) (p n d' : Nat) (st : List Int32) (f : Nat → Int32), c_sgm (gI s 162) (1220 * k) p c → p + c.length = e → c_hts c st.length = some d' → c_stk f st → c.length < n → st.length ≤ 64 →
    ∃ g, lp_M_comesTo_6 (Int32.ofNat k) (Int32.ofNat e) n (Int32.ofNat st.length) (Int32.ofNat p) (sA s 168 f) = (Int32.ofNat d', Int32.ofNat e, sA s 168 g) ∧ okl_M_comesTo_6 (Int32.ofNat k) (Int32.ofNat e) n (Int32.ofNat st.length) (Int32.ofNat p) (sA s 168 f) ∧ c_stk g (c_exs (gI s 169) c st) ∧ (c_exs (gI s 169) c st).length = d' := by
  intro c
  induction c with
  | nil =>
    intro p n d' st f hs hp hd hst hn h64
    simp only [List.length_nil] at hp hn
    have : p = e := by omega
    subst this
    simp only [c_hts, Option.some.injEq] at hd
    match n, hn with
    | n + 1, _ =>
      have e1 : Int32.ofNat p ≤ Int32.ofNat p := Int32.le_refl _
      refine ⟨f, ?_, ?_, hst, hd⟩
      · simp only [lp_M_comesTo_6, e1, if_true, hd]
      · simp only [okl_M_comesTo_6, e1, if_true]
  | cons i c ih =>
    intro p n d' st f hs hp hd hst hn h64
    simp only [List.length_cons] at hp hn
    simp only [c_sgm] at hs
    obtain ⟨hs1, hs2, hs3⟩ := hs
    simp only [c_hts] at hd
    obtain ⟨d1, hd1, hd2⟩ := Option.bind_eq_some_iff.mp hd
    have hk15 := c_ht_k hd1
    match n, hn with
    | n + 1, hn =>
      have e1 : ¬ Int32.ofNat e ≤ Int32.ofNat p := fl_lit rfl (by omega) (by omega) (by omega)
      have e2 : ix (1220 * Int32.ofNat k + 2 * Int32.ofNat p) = 1220 * k + 2 * p := by rw [m_ix, ix_ofNat (by omega)]
      have e3 : ix (1220 * Int32.ofNat k + 2 * Int32.ofNat p + 1) = 1220 * k + 2 * p + 1 := by rw [m_ix, ofNat_succ, ix_ofNat (by omega)]
      have b1 : mm_inb (1220 * Int32.ofNat k + 2 * Int32.ofNat p) 4880 = true := by rw [m_ix]; exact inb_ofNat (by decide) (by omega)
      have b2 : mm_inb (1220 * Int32.ofNat k + 2 * Int32.ofNat p + 1) 4880 = true := by rw [m_ix, ofNat_succ]; exact inb_ofNat (by decide) (by omega)
      unfold c_ht at hd1
      by_cases c6 : i.1 < 6
      · have c6' : ¬ (6 : Int32) ≤ i.1 := Int32.not_le.mpr c6
        rw [if_pos ⟨hk15.1, c6⟩] at hd1
        have hh : st.length < 64 := by
          apply Classical.byContradiction
          intro q
          rw [if_neg q] at hd1
          cases hd1
        rw [if_pos hh] at hd1
        injection hd1 with hd1
        have e5 : ix (Int32.ofNat st.length) = st.length := ix_ofNat (by omega)
        have b3 : mm_inb (Int32.ofNat st.length) 620 = true := inb_ofNat (by decide) (by omega)
        have b4 : mm_inb i.1 6 = true := inb_6 hk15.1 c6
        have hv : (if i.1 = 0 then gI s 162 (1220 * k + 2 * p + 1) else gI s 169 (ix i.1)) = (if i.1 = 0 then i.2 else gI s 169 (ix i.1)) := by
          by_cases q : i.1 = 0
          · rw [if_pos q, if_pos q, hs2 (Or.inl q)]
          · rw [if_neg q, if_neg q]
        have hex : c_ex (gI s 169) i st = (if i.1 = 0 then i.2 else gI s 169 (ix i.1)) :: st := if_pos c6
        obtain ⟨g, g1, g2, g3, g4⟩ := ih (p + 1) n d' ((if i.1 = 0 then i.2 else gI s 169 (ix i.1)) :: st) (up f st.length (if i.1 = 0 then i.2 else gI s 169 (ix i.1))) hs3 (by omega) (by
          simp only [List.length_cons]
          rw [hd1]
          exact hd2) ⟨up_self _ _ _, c_stk_up (Nat.le_refl _) hst⟩ (by omega) (by simp only [List.length_cons]; omega)
        refine ⟨g, ?_, ?_, ?_, ?_⟩
        · simp only [lp_M_comesTo_6, mq_let_e, e1, if_false, gI_sA, Nat.reduceEqDiff, e2, e3, hs1, c6', hv, e5, sI_sA, ofNat_succ]
          exact g1
        · simp only [okl_M_comesTo_6, mq_letP_e, e1, if_false, gI_sA, Nat.reduceEqDiff, e2, e3, hs1, c6', hv, e5, sI_sA, ofNat_succ, b1, b2, b3, b4, true_and, and_true, ite_self]
          exact g2
        · simp only [c_exs, hex]
          exact g3
        · simp only [c_exs, hex]
          exact g4
      · have c6' : (6 : Int32) ≤ i.1 := Int32.not_lt.mp c6
        rw [if_neg (fun q => c6 q.2)] at hd1
        match st, hst, hd1, hd2, h64 with
        | [], _, hd1, _, _ =>
          exfalso
          revert hd1
          simp
        | b :: st', hst, hd1, hd2, h64 =>
          simp only [List.length_cons] at hd1 h64 hd2 ⊢
          have e6 : Int32.ofNat (st'.length + 1) - 1 = Int32.ofNat st'.length := by
            rw [← ofNat_succ]
            simp
          have e5 : ix (Int32.ofNat st'.length) = st'.length := ix_ofNat (by omega)
          have b3 : mm_inb (Int32.ofNat st'.length) 620 = true := inb_ofNat (by decide) (by omega)
          by_cases c9 : i.1 = 9
          · rw [if_pos c9] at hd1
            have hq : 1 ≤ st'.length + 1 ∧ st'.length + 1 < 64 ∧ i.2 ≠ 0 := by
              apply Classical.byContradiction
              intro q
              rw [if_neg q] at hd1
              cases hd1
            rw [if_pos hq] at hd1
            injection hd1 with hd1
            have hv : gI s 162 (1220 * k + 2 * p + 1) = i.2 := hs2 (Or.inr c9)
            have hex : c_ex (gI s 169) i (b :: st') = (b / i.2) :: st' := by
              unfold c_ex
              rw [if_neg c6]
              exact if_pos c9
            obtain ⟨g, g1, g2, g3, g4⟩ := ih (p + 1) n d' ((b / i.2) :: st') (up f st'.length (b / i.2)) hs3 (by omega) (by
              simp only [List.length_cons]
              rw [hd1]
              exact hd2) ⟨up_self _ _ _, c_stk_up (Nat.le_refl _) hst.2⟩ (by omega) (by simp only [List.length_cons]; omega)
            have hb : (!(decide (i.2 = (0 : Int32)))) = true := by simp [hq.2.2]
            refine ⟨g, ?_, ?_, ?_, ?_⟩
            · simp only [lp_M_comesTo_6, mq_let_e, e1, if_false, if_true, gI_sA, Nat.reduceEqDiff, e2, e3, hs1, c6', c9, hv, e6, e5, sI_sA, ofNat_succ, show f st'.length = b from hst.1]
              exact g1
            · simp only [okl_M_comesTo_6, mq_letP_e, e1, if_false, if_true, gI_sA, Nat.reduceEqDiff, e2, e3, hs1, c6', c9, hv, e6, e5, sI_sA, ofNat_succ, show f st'.length = b from hst.1, b1, b2, b3, hb, true_and, and_true, ite_self]
              exact g2
            · simp only [c_exs, hex]
              exact g3
            · simp only [c_exs, hex]
              exact g4
          · rw [if_neg c9] at hd1
            by_cases c13 : i.1 = 13
            · rw [if_pos c13, if_pos (by omega)] at hd1
              injection hd1 with hd1
              have hex : c_ex (gI s 169) i (b :: st') = (1 - b) :: st' := by
                unfold c_ex
                rw [if_neg c6]
                show (if i.1 = 9 then _ else if i.1 = 13 then _ else _) = _
                rw [if_neg c9, if_pos c13]
              obtain ⟨g, g1, g2, g3, g4⟩ := ih (p + 1) n d' ((1 - b) :: st') (up f st'.length (1 - b)) hs3 (by omega) (by
                simp only [List.length_cons]
                rw [hd1]
                exact hd2) ⟨up_self _ _ _, c_stk_up (Nat.le_refl _) hst.2⟩ (by omega) (by simp only [List.length_cons]; omega)
              have c9' : ¬ (13 : Int32) = 9 := by decide
              have c6'' : (6 : Int32) ≤ 13 := by decide
              refine ⟨g, ?_, ?_, ?_, ?_⟩
              · simp only [lp_M_comesTo_6, mq_let_e, e1, if_false, if_true, gI_sA, Nat.reduceEqDiff, e2, hs1, c13, c9', c6'', e6, e5, sI_sA, ofNat_succ, show f st'.length = b from hst.1]
                exact g1
              · simp only [okl_M_comesTo_6, mq_letP_e, e1, if_false, if_true, gI_sA, Nat.reduceEqDiff, e2, hs1, c13, c9', c6'', e6, e5, sI_sA, ofNat_succ, show f st'.length = b from hst.1, b1, b2, b3, true_and, and_true, ite_self]
                exact g2
              · simp only [c_exs, hex]
                exact g3
              · simp only [c_exs, hex]
                exact g4
            · rw [if_neg c13, if_pos ⟨c6', hk15.2⟩] at hd1
              match st', hst, hd1, hd2, h64, e6, e5, b3 with
              | [], _, hd1, _, _, _, _, _ => cases hd1
              | a :: st'', hst, hd1, hd2, h64, e6, e5, b3 =>
                simp only [List.length_cons] at hd1 h64 hd2 e6 e5 b3 ⊢
                rw [if_pos (by omega)] at hd1
                injection hd1 with hd1
                have e7 : Int32.ofNat (st''.length + 1 + 1) + (-1) = Int32.ofNat (st''.length + 1) := ofNat_pred _ (by omega)
                have e8 : Int32.ofNat (st''.length + 1) - 1 = Int32.ofNat st''.length := by
                  rw [← ofNat_succ]
                  simp
                have e9 : ix (Int32.ofNat st''.length) = st''.length := ix_ofNat (by omega)
                have b4 : mm_inb (Int32.ofNat st''.length) 620 = true := inb_ofNat (by decide) (by omega)
                have hex : c_ex (gI s 169) i (b :: a :: st'') = c_both i.1 a b :: st'' := by
                  unfold c_ex
                  rw [if_neg c6]
                  show (if i.1 = 9 then _ else if i.1 = 13 then _ else _) = _
                  rw [if_neg c9, if_neg c13]
                have hj : ∀ t, f_M_both i.1 a b t = c_both i.1 a b := fun t => rfl
                obtain ⟨g, g1, g2, g3, g4⟩ := ih (p + 1) n d' (c_both i.1 a b :: st'') (up f st''.length (c_both i.1 a b)) hs3 (by omega) (by
                  simp only [List.length_cons]
                  rw [show st''.length + 1 = d1 by omega]
                  exact hd2) ⟨up_self _ _ _, c_stk_up (Nat.le_refl _) hst.2.2⟩ (by omega) (by simp only [List.length_cons]; omega)
                refine ⟨g, ?_, ?_, ?_, ?_⟩
                · simp only [lp_M_comesTo_6, mq_let_e, e1, if_false, if_true, gI_sA, Nat.reduceEqDiff, e2, hs1, c13, c9, c6', e7, e8, e9, e5, hj, sI_sA, ofNat_succ, show f st''.length = a from hst.2.1, show f (st''.length + 1) = b from hst.1]
                  exact g1
                · simp only [okl_M_comesTo_6, mq_letP_e, e1, if_false, if_true, gI_sA, Nat.reduceEqDiff, e2, hs1, c13, c9, c6', e7, e8, e9, e5, hj, sI_sA, ofNat_succ, show f st''.length = a from hst.2.1, show f (st''.length + 1) = b from hst.1, b1, b2, b3, b4, true_and, and_true, ite_self]
                  exact g2
                · simp only [c_exs, hex]
                  exact g3
                · simp only [c_exs, hex]
                  exact g4
theorem M_val {s : mS} {k : Nat} (hk : k < 4) {c : List cI} {p q : Nat} (hs : c_sgm (gI s 162) (1220 * k) p c) (hp : p + c.length = q) (hq : q ≤ 609) (hd : c_hts c 0 = some 1) :
    ∃ g, f_M_comesTo (Int32.ofNat k) (Int32.ofNat p) (Int32.ofNat q) s = (c_val (gI s 169) c, sA s 168 g) ∧ ok_M_comesTo (Int32.ofNat k) (Int32.ofNat p) (Int32.ofNat q) s := by
  obtain ⟨g, g1, g2, g3, g4⟩ := M_val_lp hk hq c p mm_N 1 [] (gI s 168) hs hp hd trivial (by rw [mm_Ns]; omega) (by simp)
  rw [sA_id] at g1 g2
  have g1 : lp_M_comesTo_6 (Int32.ofNat k) (Int32.ofNat q) mm_N 0 (Int32.ofNat p) s = _ := g1
  have g2 : okl_M_comesTo_6 (Int32.ofNat k) (Int32.ofNat q) mm_N 0 (Int32.ofNat p) s := g2
  have g5 := len1 g4
  refine ⟨g, ?_, ?_⟩
  · unfold f_M_comesTo
    simp only [mq_let_e, g1, gI_sA, if_true]
    rw [g5] at g3
    have : g 0 = c_val (gI s 169) c := g3.1
    rw [this]
  · unfold ok_M_comesTo
    simp only [mq_letP_e, g2, true_and]
