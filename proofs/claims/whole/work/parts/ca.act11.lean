/-! ACT: what stands behind a part. -/
theorem G_bracket {tk : tkT} {L p r σ : Nat} (hE : tkE tk L) (hL : L ≤ 600) (hr : mq_A r) {s : mS} {W : List Nat} {o : List cI} {x : ksX} (hk1 : 1 ≤ tK tk p) (had : ad_R tk p s) (hR : kR r s p 4 σ W o x) (hσ0 : σ ≠ 0) : ok_Parser_closeBracket s ∧ kF r s (f_Parser_closeBracket s) ∧ kOut tk p r (f_Parser_closeBracket s) (ks_cl tk p o x (ks_un 1 W)) := by
  have hM := kR_M hR (by decide)
  obtain ⟨ad2, ad5, ad3, ad4⟩ := had
  obtain ⟨hP, h7, h12, _, hσ, hO, hT, hop', hx', _⟩ := hR
  obtain ⟨h8, hW, hok, hop, hlen, hx, h1, h2, h3⟩ := hM
  have rm := mq_mod hr
  obtain ⟨np, pl⟩ := hE.1 p (by omega)
  have l62 := ks_ok_62 hok hop
  obtain ⟨w, a1, a2, a3, a4, a5⟩ := G_unw (R := 1) hr (by omega) (by omega) l62 hP hW hok hO (by omega)
  obtain ⟨b1, b2, b3, b4⟩ := ks_un_f (R := 1) hok
  have a1 : f_Parser_unwind 1 s = w := a1
  have a2 : ok_Parser_unwind 1 s := a2
  have eo : ok_Parser_closeBracket s := by
    unfold ok_Parser_closeBracket
    exact ⟨a2, trivial⟩
  obtain ⟨u, hu⟩ : ∃ u, ks_un 1 W = u := ⟨_, rfl⟩
  rw [hu] at a4 a5 b1 b2 b3 b4
  rw [hu]
  obtain ⟨u1, u2⟩ := u
  have a4 : kW w u2 := a4
  have a5 : kO w r (o ++ u1) := a5
  have b1 : ks_ok u2 := b1
  have b2 : ks_lo 1 u2 := b2
  have b3 : ks_open u2 ≤ ks_open W := b3
  have b4 : u1.length + u2.length = W.length := b4
  unfold ks_cl
  cases u2 with
  | nil =>
    have z : gI w 80 10 = 0 := a4.1
    have ef : f_Parser_closeBracket s = f_Parser_fail (Int32.ofNat 1) w := by
      unfold f_Parser_closeBracket
      simp only [mq_let_e, a1, if_pos z]
      rfl
    rw [ef]
    have F := G_fail (tk := tk) (p := p) (r := r) (e := 1) (s := w) (by omega) (by rw [a3.1 80 12 (by omega) (by omega) (Or.inl (by omega)) (Or.inr (by decide)), h12]) (by rw [a3.1 80 5 (by omega) (by omega) (Or.inl (by omega)) (Or.inr (by decide)), ad5])
    exact ⟨eo, kF_t (kU_F a3) F.1, F.2⟩
  | cons k' W' =>
    have k21 : k' = 21 := by
      have b2 : ks_rank k' < 1 := b2
      apply Classical.byContradiction
      intro q
      have := (ks_rank_r k').2 q
      omega
    subst k21
    have z10 : gI w 80 10 = Int32.ofNat (W'.length + 1) := a4.1
    have z : ¬ gI w 80 10 = 0 := by
      rw [z10]
      intro q
      exact absurd ((ofNat_inj (b := 0) (by
        have b4 : u1.length + (W'.length + 1) = W.length := b4
        omega) (by omega)).mp q) (by omega)
    have op : ks_open (21 :: W') = ks_open W' + 1 := by
      show (if 21 = 15 ∨ 21 = 21 then 1 else 0) + ks_open W' = _
      rw [if_pos (Or.inr rfl), Nat.add_comm]
    have z11 : gI w 80 11 = Int32.ofNat (ks_open W' + 1) := by rw [a4.2.2, op]
    have s1 : ∀ n : Nat, Int32.ofNat (n + 1) - 1 = Int32.ofNat n := fun n => by
      rw [← ofNat_succ]
      grind
    have ef : f_Parser_closeBracket s = sI (sI (sI w 80 10 (Int32.ofNat W'.length)) 80 11 (Int32.ofNat (ks_open W'))) 80 8 3 := by
      unfold f_Parser_closeBracket
      simp only [mq_let_e, a1, if_neg z]
      rw [z10, z11, s1, s1]
    have g : ∀ c j, c ≠ r + 5 → c ≠ r + 6 → (c ≠ r ∨ j ≠ 7) → (c ≠ 80 ∨ (j ≠ 8 ∧ j ≠ 10 ∧ j ≠ 11)) → gI (sI (sI (sI w 80 10 (Int32.ofNat W'.length)) 80 11 (Int32.ofNat (ks_open W'))) 80 8 3) c j = gI s c j := fun c j a b d e => by
      rw [gI_sI, if_neg (fun q => by omega), gI_sI, if_neg (fun q => by omega), gI_sI, if_neg (fun q => by omega)]
      exact a3.1 c j a b d (by omega)
    have b4 : u1.length + (W'.length + 1) = W.length := b4
    rw [ef]
    refine ⟨eo, ⟨fun c j a b _ => g c j (by omega) (by omega) (by omega) (Or.inl b), fun c j => a3.2.1 c j, a3.2.2⟩, ⟨?_, ?_, ?_, by
      show 4 ≤ 4
      omega, by
      show 3 ≤ 3
      omega, ?_, ?_, ?_, hx', Or.inr ⟨?_, ⟨?_, ?_, ?_⟩, b1.1, ?_, ?_, hx, ?_, ?_, ?_⟩⟩, rfl⟩
    · show gP w 4 = r
      rw [a3.2.2, hP]
    · rw [g 80 7 (by omega) (by omega) (Or.inl (by omega)) (Or.inr (by decide)), h7]
    · rw [g 80 12 (by omega) (by omega) (Or.inl (by omega)) (Or.inr (by decide)), h12]
    · refine kO_c (s := w) ?_ ?_ ?_ a5
      · rw [fI_sI, if_neg (by omega), fI_sI, if_neg (by omega), fI_sI, if_neg (by omega)]
      · rw [fI_sI, if_neg (by omega), fI_sI, if_neg (by omega), fI_sI, if_neg (by omega)]
      · rw [gI_sI, if_neg (fun q => by omega), gI_sI, if_neg (fun q => by omega), gI_sI, if_neg (fun q => by omega)]
    · exact kT_c (g r 8 (by omega) (by omega) (Or.inr (by decide)) (Or.inl (by omega))) (fun m i a b _ => g (r + m) i (by omega) (by omega) (Or.inl (by omega)) (Or.inl (by omega))) hT
    · show (o ++ u1).length ≤ tN tk p
      rw [List.length_append]
      omega
    · rw [gI_sI, if_pos ⟨rfl, rfl⟩]
      rfl
    · rw [gI_sI, if_neg (fun q => absurd q.2 (by decide)), gI_sI, if_neg (fun q => absurd q.2 (by decide)), gI_sI, if_pos ⟨rfl, rfl⟩]
    · rw [fI_sI, if_neg (by decide), fI_sI, if_neg (by decide), fI_sI, if_neg (by decide)]
      exact a4.2.1.2
    · rw [gI_sI, if_neg (fun q => absurd q.2 (by decide)), gI_sI, if_pos ⟨rfl, rfl⟩]
    · show ks_open W' ≤ 8
      rw [op] at b3
      omega
    · show (o ++ u1).length + W'.length ≤ tN tk p
      rw [List.length_append]
      omega
    · rw [g (r + 1) _ (by omega) (by omega) (Or.inl (by omega)) (Or.inl (by omega))]
      exact h1
    · rw [g (r + 2) _ (by omega) (by omega) (Or.inl (by omega)) (Or.inl (by omega))]
      exact h2
    · intro _
      rw [g (r + 3) _ (by omega) (by omega) (Or.inl (by omega)) (Or.inl (by omega))]
      exact h3 (Or.inl hσ0)
theorem G_cond {r n m : Nat} {w : mS} (h8 : gI w r 8 = Int32.ofNat n) (hn : n < 24) (h7 : gI w r 7 = Int32.ofNat m) : f_Act_beginCondition r w = sI w (r + 3) n (Int32.ofNat m) ∧ ok_Act_beginCondition r w := by
  have e24 : ¬ (24 : Int32) ≤ Int32.ofNat n := fl_lit (a := 24) rfl (by omega) (by omega) hn
  have e2 : ix (Int32.ofNat n) = n := ix_ofNat (by omega)
  have bb : mm_inb (Int32.ofNat n) 24 = true := inb_ofNat (by decide) hn
  constructor
  · simp only [f_Act_beginCondition, h8, e24, if_false, e2, h7]
  · simp only [ok_Act_beginCondition, h8, e24, if_false, bb, and_self]
theorem G_when {tk : tkT} {L p r : Nat} (hE : tkE tk L) (hL : L ≤ 600) (hr : mq_A r) {s : mS} {W : List Nat} {o : List cI} {x : ksX} (hk1 : 1 ≤ tK tk p) (had : ad_R tk p s) (hR : kR r s p 4 0 W o x) : (ok_Parser_unwind 1 s ∧ mq_A (gP (f_Parser_unwind 1 s) 4) ∧ ok_Act_beginCondition (gP (f_Parser_unwind 1 s) 4) (f_Parser_unwind 1 s)) ∧ kF r s (sI (f_Act_beginCondition (gP (f_Parser_unwind 1 s) 4) (f_Parser_unwind 1 s)) 80 7 3) ∧ kOut tk p r (sI (f_Act_beginCondition (gP (f_Parser_unwind 1 s) 4) (f_Parser_unwind 1 s)) 80 7 3) (.inr (tN tk p, 3, 0, (ks_un 1 W).2, o ++ (ks_un 1 W).1, (o.length + (ks_un 1 W).1.length, x.2))) := by
  have hM := kR_M hR (by decide)
  obtain ⟨ad2, ad5, ad3, ad4⟩ := had
  obtain ⟨hP, h7, h12, _, hσ, hO, hT, hop', hx', _⟩ := hR
  obtain ⟨h8, hW, hok, hop, hlen, hx, h1, h2, h3⟩ := hM
  have rm := mq_mod hr
  obtain ⟨np, pl⟩ := hE.1 p (by omega)
  have l62 := ks_ok_62 hok hop
  obtain ⟨w, a1, a2, a3, a4, a5⟩ := G_unw (R := 1) hr (by omega) (by omega) l62 hP hW hok hO (by omega)
  obtain ⟨b1, b2, b3, b4⟩ := ks_un_f (R := 1) hok
  have a1 : f_Parser_unwind 1 s = w := a1
  have a2 : ok_Parser_unwind 1 s := a2
  have wP : gP w 4 = r := by rw [a3.2.2, hP]
  rw [a1, wP]
  have w8 : gI w r 8 = Int32.ofNat x.2.2.2.length := by rw [a3.1 r 8 (by omega) (by omega) (Or.inr (by decide)) (Or.inl (by omega)), hT.1]
  have C := G_cond w8 hx a5.2
  have ol : (o ++ (ks_un 1 W).1).length = o.length + (ks_un 1 W).1.length := List.length_append
  have g : ∀ c j, c ≠ r + 5 → c ≠ r + 6 → (c ≠ r ∨ j ≠ 7) → (c ≠ r + 3 ∨ j ≠ x.2.2.2.length) → (c ≠ 80 ∨ (j ≠ 7 ∧ j ≠ 10 ∧ j ≠ 11)) → gI (sI (sI w (r + 3) x.2.2.2.length (Int32.ofNat (o ++ (ks_un 1 W).1).length)) 80 7 3) c j = gI s c j := fun c j a b d f e => by
    rw [gI_sI, if_neg (fun q => by omega), gI_sI, if_neg (fun q => by omega)]
    exact a3.1 c j a b d (by omega)
  rw [C.1]
  refine ⟨⟨a2, hr, C.2⟩, ⟨fun c j a b _ => g c j (by omega) (by omega) (by omega) (Or.inl (by omega)) (Or.inl b), fun c j => a3.2.1 c j, a3.2.2⟩, ⟨wP, ?_, ?_, by
    show 3 ≤ 4
    omega, by
    show 0 ≤ 3
    omega, ?_, ?_, ?_, hx', Or.inr ⟨?_, ?_, b1, ?_, ?_, hx, ?_, ?_, ?_⟩⟩, rfl⟩
  · rw [gI_sI, if_pos ⟨rfl, rfl⟩]
    rfl
  · rw [g 80 12 (by omega) (by omega) (Or.inl (by omega)) (Or.inl (by omega)) (Or.inr (by decide)), h12]
  · refine kO_c (s := w) ?_ ?_ ?_ a5
    · rw [fI_sI, if_neg (by omega), fI_sI, if_neg (by omega)]
    · rw [fI_sI, if_neg (by omega), fI_sI, if_neg (by omega)]
    · rw [gI_sI, if_neg (fun q => by omega), gI_sI, if_neg (fun q => by omega)]
  · exact kT_c (g r 8 (by omega) (by omega) (Or.inr (by decide)) (Or.inl (by omega)) (Or.inl (by omega))) (fun m i a b hi => by
      have hi : i < x.2.2.2.length := hi
      exact g (r + m) i (by omega) (by omega) (Or.inl (by omega)) (Or.inr (by omega)) (Or.inl (by omega))) hT
  · show (o ++ (ks_un 1 W).1).length ≤ tN tk p
    omega
  · rw [g 80 8 (by omega) (by omega) (Or.inl (by omega)) (Or.inl (by omega)) (Or.inr (by decide)), h8]
  · refine kW_c (s := w) ?_ ?_ ?_ a4
    · rw [gI_sI, if_neg (fun q => absurd q.2 (by decide)), gI_sI, if_neg (fun q => by omega)]
    · rw [fI_sI, if_neg (by decide), fI_sI, if_neg (by omega)]
    · rw [gI_sI, if_neg (fun q => absurd q.2 (by decide)), gI_sI, if_neg (fun q => by omega)]
  · show ks_open (ks_un 1 W).2 ≤ 8
    omega
  · show (o ++ (ks_un 1 W).1).length + (ks_un 1 W).2.length ≤ tN tk p
    omega
  · show gI _ (r + 1) x.2.2.2.length = Int32.ofNat x.2.1
    rw [g (r + 1) _ (by omega) (by omega) (Or.inl (by omega)) (Or.inl (by omega)) (Or.inl (by omega))]
    exact h1
  · show gI _ (r + 2) x.2.2.2.length = Int32.ofNat x.2.2.1
    rw [g (r + 2) _ (by omega) (by omega) (Or.inl (by omega)) (Or.inl (by omega)) (Or.inl (by omega))]
    exact h2
  · intro _
    show gI _ (r + 3) x.2.2.2.length = Int32.ofNat (o.length + (ks_un 1 W).1.length)
    rw [gI_sI, if_neg (fun q => by omega), gI_sI, if_pos ⟨rfl, rfl⟩, ol]
theorem G_endl {tk : tkT} {L p r σ : Nat} (hE : tkE tk L) (hL : L ≤ 600) (hr : mq_A r) {s : mS} {W : List Nat} {o : List cI} {x : ksX} (hk1 : 1 ≤ tK tk p) (had : ad_R tk p s) (hR : kR r s p 4 σ W o x) : ok_Parser_closeLine s ∧ kF r s (f_Parser_closeLine s) ∧ kOut tk p r (f_Parser_closeLine s) (ks_en tk p σ o x (ks_un 1 W)) := by
  have hM := kR_M hR (by decide)
  obtain ⟨ad2, ad5, ad3, ad4⟩ := had
  obtain ⟨hP, h7, h12, _, hσ, hO, hT, hop', hx', _⟩ := hR
  obtain ⟨h8, hW, hok, hop, hlen, hx, h1, h2, h3⟩ := hM
  have rm := mq_mod hr
  obtain ⟨np, pl⟩ := hE.1 p (by omega)
  have l62 := ks_ok_62 hok hop
  obtain ⟨w, a1, a2, a3, a4, a5⟩ := G_unw (R := 1) hr (by omega) (by omega) l62 hP hW hok hO (by omega)
  obtain ⟨b1, b2, b3, b4⟩ := ks_un_f (R := 1) hok
  have a1 : f_Parser_unwind 1 s = w := a1
  have a2 : ok_Parser_unwind 1 s := a2
  have wP : gP w 4 = r := by rw [a3.2.2, hP]
  obtain ⟨u, hu⟩ : ∃ u, ks_un 1 W = u := ⟨_, rfl⟩
  rw [hu] at a4 a5 b1 b2 b3 b4
  rw [hu]
  obtain ⟨u1, u2⟩ := u
  have a4 : kW w u2 := a4
  have a5 : kO w r (o ++ u1) := a5
  have b4 : u1.length + u2.length = W.length := b4
  have w8 : gI w r 8 = Int32.ofNat x.2.2.2.length := by rw [a3.1 r 8 (by omega) (by omega) (Or.inr (by decide)) (Or.inl (by omega)), hT.1]
  have ws : gI w 80 8 = Int32.ofNat σ := by rw [a3.1 80 8 (by omega) (by omega) (Or.inl (by omega)) (Or.inr (by decide)), h8]
  have cs : (gI w 80 8 = 0) = (σ = 0) := by
    rw [ws]
    exact propext (ofNat_inj (b := 0) (by omega) (by omega))
  have w7 : gI w r 7 = Int32.ofNat (o.length + u1.length) := by
    rw [a5.2, List.length_append]
  unfold ks_en
  cases u2 with
  | cons k' W' =>
    have z10 : gI w 80 10 = Int32.ofNat (W'.length + 1) := a4.1
    have b4 : u1.length + (W'.length + 1) = W.length := b4
    have z : ¬ gI w 80 10 ≤ 0 := by
      rw [z10, show (0 : Int32) = Int32.ofNat 0 from rfl, ofNat_le (by omega) (by omega)]
      omega
    have ef : f_Parser_closeLine s = f_Parser_fail (Int32.ofNat 1) w := by
      unfold f_Parser_closeLine
      simp only [mq_let_e, a1, if_neg z]
      rfl
    have eo : ok_Parser_closeLine s := by
      unfold ok_Parser_closeLine
      simp only [mq_letP_e, a1, a2, if_neg z, and_self]
    rw [ef]
    have F := G_fail (tk := tk) (p := p) (r := r) (e := 1) (s := w) (by omega) (by rw [a3.1 80 12 (by omega) (by omega) (Or.inl (by omega)) (Or.inr (by decide)), h12]) (by rw [a3.1 80 5 (by omega) (by omega) (Or.inl (by omega)) (Or.inr (by decide)), ad5])
    exact ⟨eo, kF_t (kU_F a3) F.1, F.2⟩
  | nil =>
    have z : gI w 80 10 ≤ 0 := by
      rw [a4.1]
      decide
    have C := G_cond w8 hx w7
    -- the state behind the condition's beginning
    obtain ⟨w2, hw2⟩ : ∃ w2, (if σ = 0 then sI w (r + 3) x.2.2.2.length (Int32.ofNat (o.length + u1.length)) else w) = w2 := ⟨_, rfl⟩
    have k2 : ∀ c j, (c ≠ r + 3 ∨ j ≠ x.2.2.2.length) → gI w2 c j = gI w c j := fun c j a => by
      rw [← hw2]
      split
      · rw [gI_sI, if_neg (fun q => by omega)]
      · rfl
    have k3 : gI w2 (r + 3) x.2.2.2.length = Int32.ofNat (if σ = 0 then o.length + u1.length else x.1) := by
      rw [← hw2]
      by_cases q : σ = 0
      · rw [if_pos q, if_pos q, gI_sI, if_pos ⟨rfl, rfl⟩]
      · rw [if_neg q, if_neg q, a3.1 (r + 3) _ (by omega) (by omega) (Or.inl (by omega)) (Or.inl (by omega))]
        exact h3 (Or.inl q)
    have kP : gP w2 = gP s := by
      rw [← hw2]
      split
      · exact a3.2.2
      · exact a3.2.2
    have kL : ∀ c j, gL w2 c j = gL s c j := fun c j => by
      rw [← hw2]
      split
      · exact a3.2.1 c j
      · exact a3.2.1 c j
    have p5 : gP w2 4 = r := by rw [kP, hP]
    have v8 : gI w2 r 8 = Int32.ofNat x.2.2.2.length := by rw [k2 r 8 (Or.inl (by omega)), w8]
    have v7 : gI w2 r 7 = Int32.ofNat (o.length + u1.length) := by rw [k2 r 7 (Or.inl (by omega)), w7]
    have e24 : ¬ (24 : Int32) ≤ Int32.ofNat x.2.2.2.length := fl_lit (a := 24) rfl (by omega) (by omega) hx
    have e2 : ix (Int32.ofNat x.2.2.2.length) = x.2.2.2.length := ix_ofNat (by omega)
    have e3 : Int32.ofNat x.2.2.2.length + 1 = Int32.ofNat (x.2.2.2.length + 1) := ofNat_succ _
    have bb : mm_inb (Int32.ofNat x.2.2.2.length) 24 = true := inb_ofNat (by decide) hx
    have n4 : ¬ (r = r + 4) := by omega
    have mid : (if gI w 80 8 = 0 then f_Act_beginCondition r w else w) = w2 := by
      simp only [cs]
      rw [C.1]
      exact hw2
    have ef : f_Parser_closeLine s = sI (sI (sI w2 (r + 4) x.2.2.2.length (Int32.ofNat (o.length + u1.length))) r 8 (Int32.ofNat (x.2.2.2.length + 1))) 80 7 0 := by
      unfold f_Parser_closeLine f_Act_closeLine
      simp only [mq_let_e, a1, if_pos z, wP, mid, p5, v8, e24, if_false, e2, v7, gI_sI, n4, false_and, e3]
    have eo : ok_Parser_closeLine s := by
      unfold ok_Parser_closeLine ok_Act_closeLine
      simp only [mq_letP_e, mq_let_e, a1, a2, if_pos z, wP, mid, p5, v8, e24, if_false, bb, C.2, true_and, and_true]
      refine ⟨?_, hr⟩
      split
      · exact hr
      · trivial
    have g : ∀ c j, c ≠ r + 5 → c ≠ r + 6 → (c ≠ r ∨ (j ≠ 7 ∧ j ≠ 8)) → (c ≠ r + 3 ∨ j ≠ x.2.2.2.length) → (c ≠ r + 4 ∨ j ≠ x.2.2.2.length) → (c ≠ 80 ∨ (j ≠ 7 ∧ j ≠ 10 ∧ j ≠ 11)) → gI (sI (sI (sI w2 (r + 4) x.2.2.2.length (Int32.ofNat (o.length + u1.length))) r 8 (Int32.ofNat (x.2.2.2.length + 1))) 80 7 0) c j = gI s c j := fun c j a b d e f h => by
      rw [gI_sI, if_neg (fun q => by omega), gI_sI, if_neg (fun q => by omega), gI_sI, if_neg (fun q => by omega), k2 c j e]
      exact a3.1 c j a b (by omega) (by omega)
    rw [ef]
    refine ⟨eo, ⟨fun c j a b _ => g c j (by omega) (by omega) (by omega) (Or.inl (by omega)) (Or.inl (by omega)) (Or.inl b), kL, kP⟩, ⟨p5, ?_, ?_, by
      show 0 ≤ 4
      omega, hσ, ?_, ⟨?_, fun i y hy => ?_⟩, ?_, ?_, Or.inl rfl⟩, rfl⟩
    · rw [gI_sI, if_pos ⟨rfl, rfl⟩]
      rfl
    · rw [g 80 12 (by omega) (by omega) (Or.inl (by omega)) (Or.inl (by omega)) (Or.inl (by omega)) (Or.inr (by decide)), h12]
    · refine kO_c (s := w) (funext fun j => ?_) (funext fun j => ?_) ?_ a5
      · rw [gI_sI, if_neg (fun q => by omega), gI_sI, if_neg (fun q => by omega), gI_sI, if_neg (fun q => by omega), k2 _ _ (Or.inl (by omega))]
      · rw [gI_sI, if_neg (fun q => by omega), gI_sI, if_neg (fun q => by omega), gI_sI, if_neg (fun q => by omega), k2 _ _ (Or.inl (by omega))]
      · rw [gI_sI, if_neg (fun q => by omega), gI_sI, if_neg (fun q => by omega), gI_sI, if_neg (fun q => by omega), k2 _ _ (Or.inl (by omega))]
    · rw [gI_sI, if_neg (fun q => by omega), gI_sI, if_pos ⟨rfl, rfl⟩]
      show _ = Int32.ofNat (x.2.2.2 ++ [_]).length
      rw [List.length_append]
      rfl
    · have hy : (x.2.2.2 ++ [(x.2.1, x.2.2.1, (if σ = 0 then o.length + u1.length else x.1), o.length + u1.length)])[i]? = some y := hy
      by_cases q : i < x.2.2.2.length
      · rw [List.getElem?_append_left q] at hy
        rw [g (r + 1) i (by omega) (by omega) (Or.inl (by omega)) (Or.inl (by omega)) (Or.inl (by omega)) (Or.inl (by omega)), g (r + 2) i (by omega) (by omega) (Or.inl (by omega)) (Or.inl (by omega)) (Or.inl (by omega)) (Or.inl (by omega)), g (r + 3) i (by omega) (by omega) (Or.inl (by omega)) (Or.inr (by omega)) (Or.inl (by omega)) (Or.inl (by omega)), g (r + 4) i (by omega) (by omega) (Or.inl (by omega)) (Or.inl (by omega)) (Or.inr (by omega)) (Or.inl (by omega))]
        exact hT.2 i y hy
      · by_cases e : i = x.2.2.2.length
        · rw [e, List.getElem?_append_right (Nat.le_refl _), Nat.sub_self] at hy
          have hy := Option.some.inj (show some _ = some y from hy)
          rw [e, ← hy]
          refine ⟨?_, ?_, ?_, ?_⟩
          · rw [g (r + 1) _ (by omega) (by omega) (Or.inl (by omega)) (Or.inl (by omega)) (Or.inl (by omega)) (Or.inl (by omega))]
            exact h1
          · rw [g (r + 2) _ (by omega) (by omega) (Or.inl (by omega)) (Or.inl (by omega)) (Or.inl (by omega)) (Or.inl (by omega))]
            exact h2
          · rw [gI_sI, if_neg (fun q => by omega), gI_sI, if_neg (fun q => by omega), gI_sI, if_neg (fun q => by omega), k3]
          · rw [gI_sI, if_neg (fun q => by omega), gI_sI, if_neg (fun q => by omega), gI_sI, if_pos ⟨rfl, rfl⟩]
        · rw [List.getElem?_eq_none (by
            rw [List.length_append]
            show x.2.2.2.length + 1 ≤ i
            omega)] at hy
          cases hy
    · show (o ++ u1).length ≤ tN tk p
      rw [List.length_append]
      omega
    · show (x.2.2.2 ++ [_]).length ≤ 24
      rw [List.length_append]
      show x.2.2.2.length + 1 ≤ 24
      omega
