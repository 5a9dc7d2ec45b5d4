/-! ACT: a token is taken, all cases. -/
theorem G_begin {tk : tkT} {L p r σ : Nat} (hE : tkE tk L) (hr : mq_A r) {s : mS} {W : List Nat} {o : List cI} {x : ksX} (hk1 : 1 ≤ tK tk p) (hk2 : tK tk p ≤ 25) (had : ad_R tk p s) (hR : kR r s p 0 σ W o x) : ok_Parser_takeSubject s ∧ kF r s (f_Parser_takeSubject s) ∧ kOut tk p r (f_Parser_takeSubject s) (ks_l tk p σ W o x) := by
  obtain ⟨ad2, ad5, ad3, ad4⟩ := had
  obtain ⟨hP, h7, h12, _, hσ, hO, hT, hop, hx, _⟩ := hR
  have rm := mq_mod hr
  obtain ⟨np, pl⟩ := hE.1 p (by omega)
  have c3 : (Int32.ofNat (tK tk p) < 3) = (tK tk p < 3) := propext (ofNat_lt (b := 3) (by omega) (by omega))
  have c7 : (Int32.ofNat (tK tk p) ≤ 7) = (tK tk p ≤ 7) := propext (ofNat_le (b := 7) (by omega) (by omega))
  have c24 : (gI s r 8 < 24) = (x.2.2.2.length < 24) := by
    rw [hT.1]
    exact propext (ofNat_lt (b := 24) (by omega) (by omega))
  unfold ks_l
  rw [if_neg (by omega)]
  by_cases c : 3 ≤ tK tk p ∧ tK tk p ≤ 7
  · rw [if_pos c]
    by_cases d : 24 ≤ x.2.2.2.length
    · rw [if_pos d]
      have ef : f_Parser_takeSubject s = f_Parser_fail (Int32.ofNat 3) s := by
        unfold f_Parser_takeSubject
        simp only [mq_let_e, ad3, c3, if_neg (show ¬ tK tk p < 3 by omega), c7, if_pos c.2, hP, c24, if_neg (show ¬ x.2.2.2.length < 24 by omega)]
        rfl
      have eo : ok_Parser_takeSubject s := by
        unfold ok_Parser_takeSubject
        simp only [mq_letP_e, ad3, c3, if_neg (show ¬ tK tk p < 3 by omega), c7, if_pos c.2, hP, c24, if_neg (show ¬ x.2.2.2.length < 24 by omega), and_true]
        exact hr
      rw [ef]
      exact ⟨eo, G_fail (by omega) h12 ad5⟩
    · rw [if_neg d]
      have e24 : ¬ (24 : Int32) ≤ gI s r 8 := by
        rw [hT.1]
        exact fl_lit (a := 24) rfl (by omega) (by omega) (by omega)
      have e2 : ix (gI s r 8) = x.2.2.2.length := by rw [hT.1, ix_ofNat (by omega)]
      have bb : mm_inb (gI s r 8) 24 = true := by
        rw [hT.1]
        exact inb_ofNat (by decide) (by omega)
      have e3 : Int32.ofNat (tK tk p) - 3 = Int32.ofNat (tK tk p - 3) := ofNat_subn (a := tK tk p) (b := 3) c.1
      have n1 : ¬ (r = r + 1) := by omega
      have ef : f_Parser_takeSubject s = sI (sI (sI (sI (sI (sI s (r + 1) x.2.2.2.length (Int32.ofNat (tK tk p - 3))) (r + 2) x.2.2.2.length (Int32.ofNat o.length)) 80 10 0) 80 11 0) 80 8 0) 80 7 1 := by
        unfold f_Parser_takeSubject f_Act_beginLine
        simp only [mq_let_e, ad3, c3, if_neg (show ¬ tK tk p < 3 by omega), c7, if_pos c.2, hP, c24, if_pos (show x.2.2.2.length < 24 by omega), if_neg e24, gI_sI, n1, false_and, if_false, e2, e3, hO.2]
      have eo : ok_Parser_takeSubject s := by
        unfold ok_Parser_takeSubject ok_Act_beginLine
        simp only [mq_letP_e, ad3, c3, if_neg (show ¬ tK tk p < 3 by omega), c7, if_pos c.2, hP, c24, if_pos (show x.2.2.2.length < 24 by omega), if_neg e24, gI_sI, n1, false_and, if_false, bb, true_and, and_true]
        exact ⟨hr, hr⟩
      have g : ∀ c j, (c ≠ r + 1 ∨ j ≠ x.2.2.2.length) → (c ≠ r + 2 ∨ j ≠ x.2.2.2.length) → (c ≠ 80 ∨ (j ≠ 7 ∧ j ≠ 8 ∧ j ≠ 10 ∧ j ≠ 11)) → gI (sI (sI (sI (sI (sI (sI s (r + 1) x.2.2.2.length (Int32.ofNat (tK tk p - 3))) (r + 2) x.2.2.2.length (Int32.ofNat o.length)) 80 10 0) 80 11 0) 80 8 0) 80 7 1) c j = gI s c j := fun c j a b e => by
        rw [gI_sI, if_neg (fun q => by omega), gI_sI, if_neg (fun q => by omega), gI_sI, if_neg (fun q => by omega), gI_sI, if_neg (fun q => by omega), gI_sI, if_neg (fun q => by omega), gI_sI, if_neg (fun q => by omega)]
      rw [ef]
      refine ⟨eo, ⟨fun c j a b _ => g c j (Or.inl (by omega)) (Or.inl (by omega)) (Or.inl b), fun _ _ => rfl, rfl⟩, ⟨hP, ?_, ?_, by
        show 1 ≤ 4
        omega, by
        show 0 ≤ 3
        omega, ?_, ?_, ?_, hx, Or.inr ⟨?_, ⟨?_, trivial, ?_⟩, trivial, Nat.zero_le 8, ?_, by
        show x.2.2.2.length < 24
        omega, ?_, ?_, ?_⟩⟩, rfl⟩
      · rw [gI_sI, if_pos ⟨rfl, rfl⟩]
        rfl
      · rw [g 80 12 (Or.inl (by omega)) (Or.inl (by omega)) (Or.inr (by decide)), h12]
      · refine kO_c (s := s) (funext fun j => g (r + 5) j (Or.inl (by omega)) (Or.inl (by omega)) (Or.inl (by omega))) (funext fun j => g (r + 6) j (Or.inl (by omega)) (Or.inl (by omega)) (Or.inl (by omega))) (g r 7 (Or.inl (by omega)) (Or.inl (by omega)) (Or.inl (by omega))) hO
      · exact kT_c (g r 8 (Or.inl (by omega)) (Or.inl (by omega)) (Or.inl (by omega))) (fun m i a b hi => by
          have hi : i < x.2.2.2.length := hi
          exact g (r + m) i (Or.inr (by omega)) (Or.inr (by omega)) (Or.inl (by omega))) hT
      · show o.length ≤ tN tk p
        omega
      · rw [gI_sI, if_neg (fun q => absurd q.2 (by decide)), gI_sI, if_pos ⟨rfl, rfl⟩]
        rfl
      · rw [gI_sI, if_neg (fun q => absurd q.2 (by decide)), gI_sI, if_neg (fun q => absurd q.2 (by decide)), gI_sI, if_neg (fun q => absurd q.2 (by decide)), gI_sI, if_pos ⟨rfl, rfl⟩]
        rfl
      · rw [gI_sI, if_neg (fun q => absurd q.2 (by decide)), gI_sI, if_neg (fun q => absurd q.2 (by decide)), gI_sI, if_pos ⟨rfl, rfl⟩]
        rfl
      · show o.length + 0 ≤ tN tk p
        omega
      · show gI _ (r + 1) x.2.2.2.length = Int32.ofNat (tK tk p - 3)
        rw [gI_sI, if_neg (fun q => by omega), gI_sI, if_neg (fun q => by omega), gI_sI, if_neg (fun q => by omega), gI_sI, if_neg (fun q => by omega), gI_sI, if_neg (fun q => by omega), gI_sI, if_pos ⟨rfl, rfl⟩]
      · show gI _ (r + 2) x.2.2.2.length = Int32.ofNat o.length
        rw [gI_sI, if_neg (fun q => by omega), gI_sI, if_neg (fun q => by omega), gI_sI, if_neg (fun q => by omega), gI_sI, if_neg (fun q => by omega), gI_sI, if_pos ⟨rfl, rfl⟩]
      · intro q
        exact absurd q (show ¬ (0 ≠ 0 ∨ 1 = 3) by decide)
  · rw [if_neg c]
    have ef : f_Parser_takeSubject s = f_Parser_fail (Int32.ofNat 1) s := by
      unfold f_Parser_takeSubject
      by_cases d : tK tk p < 3
      · simp only [mq_let_e, ad3, c3, if_pos d]
        rfl
      · simp only [mq_let_e, ad3, c3, if_neg d, c7, if_neg (show ¬ tK tk p ≤ 7 by omega)]
        rfl
    have eo : ok_Parser_takeSubject s := by
      unfold ok_Parser_takeSubject
      by_cases d : tK tk p < 3
      · simp only [mq_letP_e, ad3, c3, if_pos d]
      · simp only [mq_letP_e, ad3, c3, if_neg d, c7, if_neg (show ¬ tK tk p ≤ 7 by omega)]
    rw [ef]
    exact ⟨eo, G_fail (by omega) h12 ad5⟩
theorem kR_M {r : Nat} {s : mS} {p m σ : Nat} {W : List Nat} {o : List cI} {x : ksX} (h : kR r s p m σ W o x) (hm : m ≠ 0) : kM s r p m σ W o x := h.2.2.2.2.2.2.2.2.2.resolve_left hm
theorem G_test {tk : tkT} {L p r σ : Nat} (hE : tkE tk L) (hL : L ≤ 600) (hr : mq_A r) {s : mS} {W : List Nat} {o : List cI} {x : ksX} (hk1 : 1 ≤ tK tk p) (hk2 : tK tk p ≤ 25) (had : ad_R tk p s) (hR : kR r s p 3 σ W o x) : ok_Parser_takeTest s ∧ kF r s (f_Parser_takeTest s) ∧ kOut tk p r (f_Parser_takeTest s) (ks_t tk p σ W o x) := by
  have hM := kR_M hR (by decide)
  obtain ⟨ad2, ad5, ad3, ad4⟩ := had
  obtain ⟨hP, h7, h12, _, hσ, hO, hT, hop', hx', _⟩ := hR
  obtain ⟨h8, hW, hok, hop, hlen, hx, h1, h2, h3⟩ := hM
  have rm := mq_mod hr
  obtain ⟨np, pl⟩ := hE.1 p (by omega)
  have l62 := ks_ok_62 hok hop
  have c15 : (Int32.ofNat (tK tk p) = 15) = (tK tk p = 15) := propext (ofNat_inj (b := 15) (by omega) (by omega))
  have c21 : (Int32.ofNat (tK tk p) = 21) = (tK tk p = 21) := propext (ofNat_inj (b := 21) (by omega) (by omega))
  have c8 : (gI s 80 11 < 8) = (ks_open W < 8) := by
    rw [hW.2.2]
    exact propext (ofNat_lt (b := 8) (by omega) (by omega))
  have e1 : gI s 80 11 + 1 = Int32.ofNat (ks_open W + 1) := by rw [hW.2.2, ofNat_succ]
  have e64 : ¬ (64 : Int32) ≤ Int32.ofNat W.length := fl_lit (a := 64) rfl (by omega) (by omega) (by omega)
  have e2 : ix (Int32.ofNat W.length) = W.length := ix_ofNat (by omega)
  have e3 : Int32.ofNat W.length + 1 = Int32.ofNat (W.length + 1) := ofNat_succ _
  have bb : mm_inb (Int32.ofNat W.length) 64 = true := inb_ofNat (by decide) (by omega)
  have z10 : gI (sI s 80 11 (Int32.ofNat (ks_open W + 1))) 80 10 = Int32.ofNat W.length := by rw [gI_sI, if_neg (fun q => absurd q.2 (by decide)), hW.1]
  have z3 : gI (sI s 80 11 (Int32.ofNat (ks_open W + 1))) 80 3 = Int32.ofNat (tK tk p) := by rw [gI_sI, if_neg (fun q => absurd q.2 (by decide)), ad3]
  unfold ks_t
  by_cases c : tK tk p = 15 ∨ tK tk p = 21
  · rw [if_pos c]
    by_cases d : ks_open W < 8
    · rw [if_pos d]
      have ea : f_Parser_putAside (sI s 80 11 (Int32.ofNat (ks_open W + 1))) = sI (sI (sI s 80 11 (Int32.ofNat (ks_open W + 1))) 80 10 (Int32.ofNat (W.length + 1))) 81 W.length (Int32.ofNat (tK tk p)) ∧ ok_Parser_putAside (sI s 80 11 (Int32.ofNat (ks_open W + 1))) := by
        unfold f_Parser_putAside ok_Parser_putAside
        simp only [mq_letP_e, z10, e64, if_false, e2, e3, z3, bb, and_self]
      have ef : f_Parser_takeTest s = sI (sI (sI s 80 11 (Int32.ofNat (ks_open W + 1))) 80 10 (Int32.ofNat (W.length + 1))) 81 W.length (Int32.ofNat (tK tk p)) := by
        unfold f_Parser_takeTest
        by_cases c' : tK tk p = 15
        · simp only [mq_let_e, ad3, c15, if_pos c', c8, if_pos d, e1, ea.1]
        · simp only [mq_let_e, ad3, c15, if_neg c', c21, if_pos (c.resolve_left c'), c8, if_pos d, e1, ea.1]
      have eo : ok_Parser_takeTest s := by
        unfold ok_Parser_takeTest
        by_cases c' : tK tk p = 15
        · simp only [mq_letP_e, ad3, c15, if_pos c', c8, if_pos d, e1, ea.2, and_self, true_and]
        · simp only [mq_letP_e, ad3, c15, if_neg c', c21, if_pos (c.resolve_left c'), c8, if_pos d, e1, ea.2, and_self, true_and]
      have g : ∀ c j, (c ≠ 80 ∨ (j ≠ 10 ∧ j ≠ 11)) → c ≠ 81 → gI (sI (sI (sI s 80 11 (Int32.ofNat (ks_open W + 1))) 80 10 (Int32.ofNat (W.length + 1))) 81 W.length (Int32.ofNat (tK tk p))) c j = gI s c j := fun c j a b => by
        rw [gI_sI, if_neg (fun q => b q.1), gI_sI, if_neg (fun q => by omega), gI_sI, if_neg (fun q => by omega)]
      have op : ks_open (tK tk p :: W) = ks_open W + 1 := by
        show (if tK tk p = 15 ∨ tK tk p = 21 then 1 else 0) + ks_open W = _
        rw [if_pos c, Nat.add_comm]
      rw [ef]
      refine ⟨eo, ⟨fun c j _ b d => g c j (Or.inl b) d, fun _ _ => rfl, rfl⟩, ⟨hP, ?_, ?_, by
        show 3 ≤ 4
        omega, hσ, ?_, ?_, ?_, hx', Or.inr ⟨?_, ⟨?_, ⟨?_, ?_⟩, ?_⟩, ⟨hok, ⟨hk1, hk2⟩, by omega⟩, ?_, ?_, hx, ?_, ?_, ?_⟩⟩, rfl⟩
      · rw [g 80 7 (Or.inr (by decide)) (by decide), h7]
      · rw [g 80 12 (Or.inr (by decide)) (by decide), h12]
      · exact kO_c (s := s) (funext fun j => g (r + 5) j (Or.inl (by omega)) (by omega)) (funext fun j => g (r + 6) j (Or.inl (by omega)) (by omega)) (g r 7 (Or.inl (by omega)) (by omega)) hO
      · exact kT_c (g r 8 (Or.inl (by omega)) (by omega)) (fun m i a b hi => g (r + m) i (Or.inl (by omega)) (by omega)) hT
      · show o.length ≤ tN tk p
        omega
      · rw [g 80 8 (Or.inr (by decide)) (by decide), h8]
      · rw [gI_sI, if_neg (fun q => absurd q.1 (by decide)), gI_sI, if_pos ⟨rfl, rfl⟩]
        rfl
      · rw [gI_sI, if_pos ⟨rfl, rfl⟩]
      · rw [fI_sI, if_pos rfl, fI_sI, if_neg (by decide), fI_sI, if_neg (by decide)]
        exact ks_stk_up (Nat.le_refl _) hW.2.1
      · rw [gI_sI, if_neg (fun q => absurd q.1 (by decide)), gI_sI, if_neg (fun q => absurd q.2 (by decide)), gI_sI, if_pos ⟨rfl, rfl⟩, op]
      · rw [op]
        omega
      · show o.length + (W.length + 1) ≤ tN tk p
        omega
      · rw [g (r + 1) _ (Or.inl (by omega)) (by omega)]
        exact h1
      · rw [g (r + 2) _ (Or.inl (by omega)) (by omega)]
        exact h2
      · intro _
        rw [g (r + 3) _ (Or.inl (by omega)) (by omega)]
        exact h3 (Or.inr rfl)
    · rw [if_neg d]
      have ef : f_Parser_takeTest s = f_Parser_fail (Int32.ofNat 3) s := by
        unfold f_Parser_takeTest
        by_cases c' : tK tk p = 15
        · simp only [mq_let_e, ad3, c15, if_pos c', c8, if_neg d]
          rfl
        · simp only [mq_let_e, ad3, c15, if_neg c', c21, if_pos (c.resolve_left c'), c8, if_neg d]
          rfl
      have eo : ok_Parser_takeTest s := by
        unfold ok_Parser_takeTest
        by_cases c' : tK tk p = 15
        · simp only [mq_letP_e, ad3, c15, if_pos c', c8, if_neg d]
        · simp only [mq_letP_e, ad3, c15, if_neg c', c21, if_pos (c.resolve_left c'), c8, if_neg d]
      rw [ef]
      exact ⟨eo, G_fail (by omega) h12 ad5⟩
  · rw [if_neg c]
    have g : ∀ c j, (c ≠ 80 ∨ j ≠ 8) → gI (sI s 80 8 1) c j = gI s c j := fun c j a => by
      rw [gI_sI, if_neg (fun q => by omega)]
    have P := G_part (σ := 1) (tk := tk) (L := L) (p := p) (r := r) (s := sI s 80 8 1) (W := W) (o := o) (x := x) hE hL hr hk1 hk2 ⟨by rw [g 80 2 (Or.inr (by decide)), ad2], by rw [g 80 5 (Or.inr (by decide)), ad5], by rw [g 80 3 (Or.inr (by decide)), ad3], fun q => by rw [g 80 4 (Or.inr (by decide)), ad4 q]⟩ hP (by rw [g 80 12 (Or.inr (by decide)), h12]) (by decide) (kO_c (s := s) (funext fun j => g (r + 5) j (Or.inl (by omega))) (funext fun j => g (r + 6) j (Or.inl (by omega))) (g r 7 (Or.inl (by omega))) hO) (kT_c (g r 8 (Or.inl (by omega))) (fun m i a b hi => g (r + m) i (Or.inl (by omega))) hT) (by rw [gI_sI, if_pos ⟨rfl, rfl⟩]; rfl) (kW_c (g 80 10 (Or.inr (by decide))) (funext fun j => g 81 j (Or.inl (by decide))) (g 80 11 (Or.inr (by decide))) hW) hok hop hlen hx (by rw [g (r + 1) _ (Or.inl (by omega))]; exact h1) (by rw [g (r + 2) _ (Or.inl (by omega))]; exact h2) (fun _ => by rw [g (r + 3) _ (Or.inl (by omega))]; exact h3 (Or.inr rfl))
    have c1 : ¬ tK tk p = 15 := fun q => c (Or.inl q)
    have c2 : ¬ tK tk p = 21 := fun q => c (Or.inr q)
    have ef : f_Parser_takeTest s = f_Parser_takePart (sI s 80 8 1) := by
      unfold f_Parser_takeTest
      simp only [mq_let_e, ad3, c15, if_neg c1, c21, if_neg c2]
    have eo : ok_Parser_takeTest s := by
      unfold ok_Parser_takeTest
      simp only [mq_letP_e, ad3, c15, if_neg c1, c21, if_neg c2, P.1, true_and]
    rw [ef]
    exact ⟨eo, kF_t (kF_I (kF_r r s) (Or.inl rfl)) P.2.1, P.2.2⟩
