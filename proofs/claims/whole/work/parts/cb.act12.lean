/-! ACT: the class reads a text. -/
theorem G_behind {tk : tkT} {L p r σ : Nat} (hE : tkE tk L) (hL : L ≤ 600) (hr : mq_A r) {s : mS} {W : List Nat} {o : List cI} {x : ksX} (hk1 : 1 ≤ tK tk p) (hk2 : tK tk p ≤ 25) (had : ad_R tk p s) (hR : kR r s p 4 σ W o x) : kbo (tK tk p) σ s ∧ kF r s (kb (tK tk p) σ s) ∧ kOut tk p r (kb (tK tk p) σ s) (ks_b tk p σ W o x) := by
  have hM := kR_M hR (by decide)
  have hR' := hR
  obtain ⟨hP, h7, h12, _, hσ, hO, hT, hop', hx', _⟩ := hR'
  have F := G_fail (tk := tk) (p := p) (r := r) (e := 1) (s := s) (by omega) h12 had.2.1
  unfold kb kbo ks_b
  by_cases c1 : (17 ≤ tK tk p ∧ tK tk p ≤ 20) ∧ σ ≠ 3
  · rw [if_pos c1]
    by_cases c2 : tK tk p = 20
    · rw [if_neg (show ¬ ((17 ≤ tK tk p ∧ tK tk p ≤ 19) ∧ σ ≠ 3) by omega), if_pos ⟨c2, c1.2⟩, if_neg (show ¬ ((17 ≤ tK tk p ∧ tK tk p ≤ 19) ∧ σ ≠ 3) by omega), if_pos ⟨c2, c1.2⟩, if_pos c2]
      exact G_oper (m := 2) hE hL hr hk1 hk2 (by omega) had hP h12 hσ hO hT hM (by omega) (by omega) (fun q => absurd q (by omega))
    · rw [if_pos (show (17 ≤ tK tk p ∧ tK tk p ≤ 19) ∧ σ ≠ 3 by omega), if_pos (show (17 ≤ tK tk p ∧ tK tk p ≤ 19) ∧ σ ≠ 3 by omega), if_neg c2]
      exact G_oper (m := 1) hE hL hr hk1 hk2 (by omega) had hP h12 hσ hO hT hM (by omega) (by omega) (fun q => absurd q (by omega))
  · rw [if_neg c1, if_neg (show ¬ ((17 ≤ tK tk p ∧ tK tk p ≤ 19) ∧ σ ≠ 3) by omega), if_neg (show ¬ (tK tk p = 20 ∧ σ ≠ 3) by omega), if_neg (show ¬ ((17 ≤ tK tk p ∧ tK tk p ≤ 19) ∧ σ ≠ 3) by omega), if_neg (show ¬ (tK tk p = 20 ∧ σ ≠ 3) by omega)]
    by_cases c3 : (23 ≤ tK tk p ∧ tK tk p ≤ 25) ∧ σ = 1
    · rw [if_pos c3, if_pos c3, if_pos c3]
      have O := G_oper (m := 1) hE hL hr hk1 hk2 (by omega) had hP h12 hσ hO hT hM (by omega) (by omega) (fun q => absurd q (by omega))
      obtain ⟨O1, O2, O3⟩ := O
      have rm := mq_mod hr
      have O1 : ok_Parser_operate 1 s := O1
      have O2 : kF r s (f_Parser_operate 1 s) := O2
      have O3 : kOut tk p r (f_Parser_operate 1 s) (ks_op tk p σ σ 1 W o x) := O3
      generalize f_Parser_operate 1 s = t at O2 O3
      obtain ⟨⟨q1, q2, q3, q4, q5, q6, q7, q8, q9, q10⟩, q11⟩ := O3
      obtain ⟨m1, m2, m3, m4, m5, m6, m7, m8, m9⟩ := q10.resolve_left (show ¬ (1 = 0) by decide)
      have g : ∀ c j, (c ≠ 80 ∨ j ≠ 8) → gI (sI t 80 8 2) c j = gI t c j := fun c j a => by
        rw [gI_sI, if_neg (fun q => by omega)]
      refine ⟨O1, kF_I O2 (Or.inl rfl), ⟨q1, ?_, ?_, q4, by
        show 2 ≤ 3
        omega, kO_c (s := t) (funext fun j => g _ j (Or.inl (by omega))) (funext fun j => g _ j (Or.inl (by omega))) (g r 7 (Or.inl (by omega))) q6, kT_c (g r 8 (Or.inl (by omega))) (fun m i a b _ => g (r + m) i (Or.inl (by omega))) q7, q8, q9, Or.inr ⟨?_, kW_c (g 80 10 (Or.inr (by decide))) (funext fun j => g 81 j (Or.inl (by decide))) (g 80 11 (Or.inr (by decide))) m2, m3, m4, m5, m6, ?_, ?_, fun _ => ?_⟩⟩, q11⟩
      · rw [g 80 7 (Or.inr (by decide))]
        exact q2
      · rw [g 80 12 (Or.inr (by decide))]
        exact q3
      · rw [gI_sI, if_pos ⟨rfl, rfl⟩]
        rfl
      · rw [g (r + 1) _ (Or.inl (by omega))]
        exact m7
      · rw [g (r + 2) _ (Or.inl (by omega))]
        exact m8
      · rw [g (r + 3) _ (Or.inl (by omega))]
        exact m9 (Or.inl (by
          show σ ≠ 0
          omega))
    · rw [if_neg c3, if_neg c3, if_neg c3]
      by_cases c4 : (tK tk p = 14 ∨ tK tk p = 13) ∧ (σ = 2 ∨ σ = 3)
      · rw [if_pos c4, if_pos c4, if_pos c4]
        exact G_oper (m := 3) hE hL hr hk1 hk2 (by omega) had hP h12 hσ hO hT hM (by omega) (by omega) (fun _ => by omega)
      · rw [if_neg c4, if_neg c4, if_neg c4]
        by_cases c5 : tK tk p = 22 ∧ (σ = 2 ∨ σ = 3)
        · rw [if_pos c5, if_pos c5, if_pos c5]
          exact G_bracket hE hL hr hk1 had hR (by omega)
        · rw [if_neg c5, if_neg c5, if_neg c5]
          by_cases c6 : tK tk p = 12 ∧ σ = 0
          · rw [if_pos c6, if_pos c6, if_pos c6]
            have hR0 := hR
            rw [c6.2] at hR0
            have Q := G_when hE hL hr hk1 had hR0
            rw [c6.2]
            exact Q
          · rw [if_neg c6, if_neg c6, if_neg c6]
            by_cases c7 : tK tk p = 16 ∧ σ ≠ 1
            · rw [if_pos c7, if_pos c7, if_pos c7]
              exact G_endl hE hL hr hk1 had hR
            · rw [if_neg c7, if_neg c7, if_neg c7]
              exact ⟨trivial, F⟩
theorem G_take {tk : tkT} {L r : Nat} (hE : tkE tk L) (hL : L ≤ 600) (hr : mq_A r) {s : mS} {p m σ : Nat} {W : List Nat} {o : List cI} {x : ksX} (hk1 : 1 ≤ tK tk p) (hk2 : tK tk p ≤ 25) (had : ad_R tk p s) (hR : kR r s p m σ W o x) : ok_Parser_take s ∧ kF r s (f_Parser_take s) ∧ kOut tk p r (f_Parser_take s) (ks_1 tk (p, m, σ, W, o, x)) := by
  have h7 := hR.2.1
  have hm4 := hR.2.2.2.1
  have c : ∀ n, n ≤ 4 → (gI s 80 7 = Int32.ofNat n) = (m = n) := fun n hn => by
    rw [h7]
    exact propext (ofNat_inj (by omega) (by omega))
  have c0 : (gI s 80 7 = 0) = (m = 0) := c 0 (by omega)
  have c1 : (gI s 80 7 = 1) = (m = 1) := c 1 (by omega)
  have c2 : (gI s 80 7 = 2) = (m = 2) := c 2 (by omega)
  have c3 : (gI s 80 7 = 3) = (m = 3) := c 3 (by omega)
  have fin : ∀ (X : mS) (P : Prop) (y : (Nat × Nat) ⊕ ksT), f_Parser_take s = X → (P → ok_Parser_take s) → ks_1 tk (p, m, σ, W, o, x) = y → (P ∧ kF r s X ∧ kOut tk p r X y) → ok_Parser_take s ∧ kF r s (f_Parser_take s) ∧ kOut tk p r (f_Parser_take s) (ks_1 tk (p, m, σ, W, o, x)) := fun X P y e1 e2 e3 h => by
    rw [e1, e3]
    exact ⟨e2 h.1, h.2⟩
  by_cases d0 : m = 0
  · subst d0
    refine fin (f_Parser_takeSubject s) (ok_Parser_takeSubject s) (ks_l tk p σ W o x) ?_ (fun q => ?_) rfl (G_begin hE hr hk1 hk2 had hR)
    · unfold f_Parser_take
      rw [if_pos (by rw [c0]), mq_let_e]
    · unfold ok_Parser_take
      rw [if_pos (by rw [c0])]
      exact ⟨q, trivial⟩
  · have hM := kR_M hR d0
    have hR' := hR
    obtain ⟨hP, _, h12, _, hσ, hO, hT, hop', hx', _⟩ := hR'
    obtain ⟨h8, hW, hok, hop, hlen, hx, h1, h2, h3⟩ := hM
    have PA := G_part hE hL hr hk1 hk2 had hP h12 hσ hO hT h8 hW hok hop hlen hx h1 h2 (fun q => h3 (Or.inl q))
    by_cases d1 : m = 1
    · subst d1
      refine fin (f_Parser_takePart s) (ok_Parser_takePart s) (ks_part tk p σ W o x) ?_ (fun q => ?_) rfl PA
      · unfold f_Parser_take
        rw [if_neg (by rw [c0]; exact d0), if_pos (by rw [c1]), mq_let_e]
      · unfold ok_Parser_take
        rw [if_neg (by rw [c0]; exact d0), if_pos (by rw [c1])]
        exact ⟨q, trivial⟩
    · by_cases d2 : m = 2
      · subst d2
        have ad3 := had.2.2.1
        have k2 : (Int32.ofNat (tK tk p) = 2) = (tK tk p = 2) := propext (ofNat_inj (b := 2) (by omega) (by omega))
        refine fin (f_Parser_takeDivisor s) (ok_Parser_takeDivisor s) (ks_d tk p σ W o x) ?_ (fun q => ?_) rfl ?_
        · unfold f_Parser_take
          rw [if_neg (by rw [c0]; exact d0), if_neg (by rw [c1]; exact d1), if_pos (by rw [c2]), mq_let_e]
        · unfold ok_Parser_take
          rw [if_neg (by rw [c0]; exact d0), if_neg (by rw [c1]; exact d1), if_pos (by rw [c2])]
          exact ⟨q, trivial⟩
        · unfold ks_d
          by_cases e : tK tk p = 2
          · rw [if_pos e]
            have ad4 := had.2.2.2 (by omega)
            by_cases z : tV tk p = 0
            · rw [if_pos z]
              have ef : f_Parser_takeDivisor s = f_Parser_fail (Int32.ofNat 2) s := by
                unfold f_Parser_takeDivisor
                rw [ad3, if_pos (by rw [k2]; exact e), ad4, if_pos z, mq_let_e]
                rfl
              have eo : ok_Parser_takeDivisor s := by
                unfold ok_Parser_takeDivisor
                rw [ad3, if_pos (by rw [k2]; exact e), ad4, if_pos z]
                trivial
              rw [ef]
              exact ⟨eo, G_fail (by omega) h12 had.2.1⟩
            · rw [if_neg z]
              have ef : f_Parser_takeDivisor s = f_Parser_takePart s := by
                unfold f_Parser_takeDivisor
                rw [ad3, if_pos (by rw [k2]; exact e), ad4, if_neg z, mq_let_e]
              have eo : ok_Parser_takeDivisor s := by
                unfold ok_Parser_takeDivisor
                rw [ad3, if_pos (by rw [k2]; exact e), ad4, if_neg z]
                exact ⟨PA.1, trivial⟩
              rw [ef]
              exact ⟨eo, PA.2⟩
          · rw [if_neg e]
            have ef : f_Parser_takeDivisor s = f_Parser_fail (Int32.ofNat 1) s := by
              unfold f_Parser_takeDivisor
              rw [ad3, if_neg (by rw [k2]; exact e), mq_let_e]
              rfl
            have eo : ok_Parser_takeDivisor s := by
              unfold ok_Parser_takeDivisor
              rw [ad3, if_neg (by rw [k2]; exact e)]
              trivial
            rw [ef]
            exact ⟨eo, G_fail (by omega) h12 had.2.1⟩
      · by_cases d3 : m = 3
        · subst d3
          refine fin (f_Parser_takeTest s) (ok_Parser_takeTest s) (ks_t tk p σ W o x) ?_ (fun q => ?_) rfl (G_test hE hL hr hk1 hk2 had hR)
          · unfold f_Parser_take
            rw [if_neg (by rw [c0]; exact d0), if_neg (by rw [c1]; exact d1), if_neg (by rw [c2]; exact d2), if_pos (by rw [c3]), mq_let_e]
          · unfold ok_Parser_take
            rw [if_neg (by rw [c0]; exact d0), if_neg (by rw [c1]; exact d1), if_neg (by rw [c2]; exact d2), if_pos (by rw [c3])]
            exact ⟨q, trivial⟩
        · have d4 : m = 4 := by omega
          subst d4
          have KB := kb_eq hk1 hk2 hσ had.2.2.1 h8
          refine fin (kb (tK tk p) σ s) (kbo (tK tk p) σ s) (ks_b tk p σ W o x) ?_ (fun q => ?_) rfl (G_behind hE hL hr hk1 hk2 had hR)
          · unfold f_Parser_take
            rw [if_neg (by rw [c0]; exact d0), if_neg (by rw [c1]; exact d1), if_neg (by rw [c2]; exact d2), if_neg (by rw [c3]; exact d3), mq_let_e]
            exact KB.1
          · unfold ok_Parser_take
            rw [if_neg (by rw [c0]; exact d0), if_neg (by rw [c1]; exact d1), if_neg (by rw [c2]; exact d2), if_neg (by rw [c3]; exact d3)]
            exact ⟨KB.2 q, trivial⟩
