/-! ACT: the class takes a token. -/
def kT (s : mS) (r : Nat) (ls : List (Nat × Nat × Nat × Nat)) : Prop := gI s r 8 = Int32.ofNat ls.length ∧ ∀ i y, ls[i]? = some y → gI s (r + 1) i = Int32.ofNat y.1 ∧ gI s (r + 2) i = Int32.ofNat y.2.1 ∧ gI s (r + 3) i = Int32.ofNat y.2.2.1 ∧ gI s (r + 4) i = Int32.ofNat y.2.2.2
def kM (s : mS) (r p m σ : Nat) (W : List Nat) (o : List cI) (x : ksX) : Prop := gI s 80 8 = Int32.ofNat σ ∧ kW s W ∧ ks_ok W ∧ ks_open W ≤ 8 ∧ o.length + W.length ≤ p ∧ x.2.2.2.length < 24 ∧ gI s (r + 1) x.2.2.2.length = Int32.ofNat x.2.1 ∧ gI s (r + 2) x.2.2.2.length = Int32.ofNat x.2.2.1 ∧ ((σ ≠ 0 ∨ m = 3) → gI s (r + 3) x.2.2.2.length = Int32.ofNat x.1)
def kR (r : Nat) (s : mS) (p m σ : Nat) (W : List Nat) (o : List cI) (x : ksX) : Prop := gP s 4 = r ∧ gI s 80 7 = Int32.ofNat m ∧ gI s 80 12 = 0 ∧ m ≤ 4 ∧ σ ≤ 3 ∧ kO s r o ∧ kT s r x.2.2.2 ∧ o.length ≤ p ∧ x.2.2.2.length ≤ 24 ∧ (m = 0 ∨ kM s r p m σ W o x)
def kRg (r : Nat) (s : mS) (g : ksT) : Prop := kR r s g.1 g.2.1 g.2.2.1 g.2.2.2.1 g.2.2.2.2.1 g.2.2.2.2.2
def kOut (tk : tkT) (p r : Nat) (t : mS) : (Nat × Nat) ⊕ ksT → Prop
  | .inl e => gI t 80 12 = Int32.ofNat e.1 ∧ 1 ≤ e.1 ∧ e.1 ≤ 3 ∧ gI t 80 13 = Int32.ofNat e.2
  | .inr g' => kRg r t g' ∧ g'.1 = tN tk p
theorem kT_c {s t : mS} {r : Nat} {ls : List (Nat × Nat × Nat × Nat)} (h8 : gI t r 8 = gI s r 8) (h : ∀ m i, 1 ≤ m → m ≤ 4 → i < ls.length → gI t (r + m) i = gI s (r + m) i) (hT : kT s r ls) : kT t r ls := ⟨by rw [h8]; exact hT.1, fun i y hy => by
  have hi : i < ls.length := by
    apply Classical.byContradiction
    intro q
    rw [List.getElem?_eq_none (by omega)] at hy
    cases hy
  have a := hT.2 i y hy
  rw [h 1 i (by omega) (by omega) hi, h 2 i (by omega) (by omega) hi, h 3 i (by omega) (by omega) hi, h 4 i (by omega) (by omega) hi]
  exact a⟩
theorem kO_c {s t : mS} {r : Nat} {o : List cI} (h5 : gI t (r + 5) = gI s (r + 5)) (h6 : gI t (r + 6) = gI s (r + 6)) (h7 : gI t r 7 = gI s r 7) (hO : kO s r o) : kO t r o := by
  unfold kO
  rw [h5, h6, h7]
  exact hO
theorem kW_c {s t : mS} {W : List Nat} (h0 : gI t 80 10 = gI s 80 10) (h1 : gI t 81 = gI s 81) (h2 : gI t 80 11 = gI s 80 11) (hW : kW s W) : kW t W := by
  unfold kW
  rw [h0, h1, h2]
  exact hW
theorem G_fail {tk : tkT} {p r e : Nat} {s : mS} (he : 1 ≤ e ∧ e ≤ 3) (h12 : gI s 80 12 = 0) (h5 : gI s 80 5 = Int32.ofNat (tA tk p)) : kF r s (f_Parser_fail (Int32.ofNat e) s) ∧ kOut tk p r (f_Parser_fail (Int32.ofNat e) s) (.inl (e, tA tk p)) := by
  have ef : f_Parser_fail (Int32.ofNat e) s = sI (sI s 80 12 (Int32.ofNat e)) 80 13 (Int32.ofNat (tA tk p)) := by
    unfold f_Parser_fail
    rw [if_pos h12, h5]
  rw [ef]
  refine ⟨kF_I (kF_I (kF_r r s) (Or.inl rfl)) (Or.inl rfl), ?_, he.1, he.2, ?_⟩
  · rw [gI_sI, if_neg (fun q => absurd q.2 (by decide)), gI_sI, if_pos ⟨rfl, rfl⟩]
  · rw [gI_sI, if_pos ⟨rfl, rfl⟩]
theorem G_leaf (s : mS) {k : Nat} (h1 : 1 ≤ k) (h2 : k ≤ 25) : f_Act_isLeaf (Int32.ofNat k) s = ey_b (rp_leaf k) := by
  unfold f_Act_isLeaf
  rcases k25 h1 h2 with e | e | e | e | e | e | e | e | e | e | e | e | e | e | e | e | e | e | e | e | e | e | e | e | e <;> subst e <;> decide
theorem G_part {tk : tkT} {L p r σ : Nat} (hE : tkE tk L) (hL : L ≤ 600) (hr : mq_A r) {s : mS} {W : List Nat} {o : List cI} {x : ksX} (hk1 : 1 ≤ tK tk p) (hk2 : tK tk p ≤ 25) (had : ad_R tk p s) (hP : gP s 4 = r) (h12 : gI s 80 12 = 0) (hσ : σ ≤ 3) (hO : kO s r o) (hT : kT s r x.2.2.2) (h8 : gI s 80 8 = Int32.ofNat σ) (hW : kW s W) (hok : ks_ok W) (hop : ks_open W ≤ 8) (hlen : o.length + W.length ≤ p) (hx : x.2.2.2.length < 24) (h1 : gI s (r + 1) x.2.2.2.length = Int32.ofNat x.2.1) (h2 : gI s (r + 2) x.2.2.2.length = Int32.ofNat x.2.2.1) (h3 : σ ≠ 0 → gI s (r + 3) x.2.2.2.length = Int32.ofNat x.1) : ok_Parser_takePart s ∧ kF r s (f_Parser_takePart s) ∧ kOut tk p r (f_Parser_takePart s) (ks_part tk p σ W o x) := by
  obtain ⟨ad2, ad5, ad3, ad4⟩ := had
  have rm := mq_mod hr
  have lf := G_leaf s hk1 hk2
  obtain ⟨np, pl⟩ := hE.1 p (by omega)
  unfold ks_part
  by_cases c : rp_leaf (tK tk p) = true
  · rw [if_pos c]
    have k1 : tK tk p ≠ 1 := fun e => by
      rw [e] at c
      exact absurd c (by decide)
    obtain ⟨m1, m2, m3⟩ := G_emit (k := Int32.ofNat (tK tk p)) (v := tV tk p) hO (by omega)
    have nb : ¬ ey_b (rp_leaf (tK tk p)) = 0 := by
      rw [c]
      decide
    have ef : f_Parser_takePart s = sI (em s r o.length (Int32.ofNat (tK tk p)) (tV tk p)) 80 7 4 := by
      unfold f_Parser_takePart
      simp only [mq_let_e, ad3, lf, if_neg nb, hP, ad4 k1, m1]
    have eo : ok_Parser_takePart s := by
      unfold ok_Parser_takePart
      simp only [mq_letP_e, ad3, lf, if_neg nb, hP, ad4 k1, m2, true_and, and_true]
      exact hr
    have g : ∀ c j, c ≠ r + 5 → c ≠ r + 6 → (c ≠ r ∨ j ≠ 7) → (c ≠ 80 ∨ j ≠ 7) → gI (sI (em s r o.length (Int32.ofNat (tK tk p)) (tV tk p)) 80 7 4) c j = gI s c j := fun c j a b d e => by
      rw [gI_sI, if_neg (fun q => by omega)]
      exact em_g a b d
    rw [ef]
    refine ⟨eo, ⟨fun c j a b _ => g c j (by omega) (by omega) (by omega) (Or.inl b), fun _ _ => rfl, rfl⟩, ⟨hP, ?_, ?_, by
      show 4 ≤ 4
      omega, hσ, ?_, ?_, ?_, Nat.le_of_lt hx, Or.inr ⟨?_, ?_, hok, hop, ?_, hx, ?_, ?_, ?_⟩⟩, rfl⟩
    · rw [gI_sI, if_pos ⟨rfl, rfl⟩]
      rfl
    · rw [g 80 12 (by omega) (by omega) (Or.inl (by omega)) (Or.inr (by decide)), h12]
    · refine kO_c (s := em s r o.length (Int32.ofNat (tK tk p)) (tV tk p)) ?_ ?_ ?_ m3
      · rw [fI_sI, if_neg (by omega)]
      · rw [fI_sI, if_neg (by omega)]
      · rw [gI_sI, if_neg (fun q => by omega)]
    · exact kT_c (g r 8 (by omega) (by omega) (Or.inr (by decide)) (Or.inl (by omega))) (fun m i a b _ => g (r + m) i (by omega) (by omega) (Or.inl (by omega)) (Or.inl (by omega))) hT
    · rw [List.length_append]
      show o.length + 1 ≤ tN tk p
      omega
    · rw [g 80 8 (by omega) (by omega) (Or.inl (by omega)) (Or.inr (by decide)), h8]
    · exact kW_c (g 80 10 (by omega) (by omega) (Or.inl (by omega)) (Or.inr (by decide))) (funext fun j => g 81 j (by omega) (by omega) (Or.inl (by omega)) (Or.inl (by decide))) (g 80 11 (by omega) (by omega) (Or.inl (by omega)) (Or.inr (by decide))) hW
    · rw [List.length_append]
      show o.length + 1 + W.length ≤ tN tk p
      omega
    · rw [g (r + 1) _ (by omega) (by omega) (Or.inl (by omega)) (Or.inl (by omega))]
      exact h1
    · rw [g (r + 2) _ (by omega) (by omega) (Or.inl (by omega)) (Or.inl (by omega))]
      exact h2
    · intro q
      rw [g (r + 3) _ (by omega) (by omega) (Or.inl (by omega)) (Or.inl (by omega))]
      exact h3 (q.resolve_right (show ¬ (4 = 3) by decide))
  · rw [if_neg c]
    have cf : rp_leaf (tK tk p) = false := by
      cases h : rp_leaf (tK tk p) with
      | false => rfl
      | true => exact absurd h c
    have nb : ey_b (rp_leaf (tK tk p)) = 0 := by
      rw [cf]
      rfl
    have ef : f_Parser_takePart s = f_Parser_fail (Int32.ofNat 1) s := by
      unfold f_Parser_takePart
      simp only [mq_let_e, ad3, lf, if_pos nb]
      rfl
    have eo : ok_Parser_takePart s := by
      unfold ok_Parser_takePart
      simp only [mq_letP_e, ad3, lf, if_pos nb, true_and]
    rw [ef]
    exact ⟨eo, G_fail (by omega) h12 ad5⟩
/-- a sign that waits -/
theorem G_oper {tk : tkT} {L p r σ m : Nat} (hE : tkE tk L) (hL : L ≤ 600) (hr : mq_A r) {s : mS} {W : List Nat} {o : List cI} {x : ksX} (hk1 : 1 ≤ tK tk p) (hk2 : tK tk p ≤ 25) (hk3 : tK tk p ≠ 21 ∧ tK tk p ≠ 15) (had : ad_R tk p s) (hP : gP s 4 = r) (h12 : gI s 80 12 = 0) (hσ : σ ≤ 3) (hO : kO s r o) (hT : kT s r x.2.2.2) (hM : kM s r p 4 σ W o x) (hm : m ≤ 3) (hm0 : m ≠ 0) (hs0 : m = 3 → σ ≠ 0) : ok_Parser_operate (Int32.ofNat m) s ∧ kF r s (f_Parser_operate (Int32.ofNat m) s) ∧ kOut tk p r (f_Parser_operate (Int32.ofNat m) s) (ks_op tk p σ σ m W o x) := by
  obtain ⟨ad2, ad5, ad3, ad4⟩ := had
  obtain ⟨h8, hW, hok, hop, hlen, hx, h1, h2, h3⟩ := hM
  have rm := mq_mod hr
  obtain ⟨np, pl⟩ := hE.1 p (by omega)
  have rb := ks_rank_r (tK tk p)
  have l62 := ks_ok_62 hok hop
  obtain ⟨w, a1, a2, a3, a4, a5⟩ := G_unw hr (rb.2 hk3.1) rb.1 l62 hP hW hok hO (by omega)
  obtain ⟨b1, b2, b3, b4⟩ := ks_un_f (R := ks_rank (tK tk p)) hok
  have rk := G_rank s hk1 hk2
  generalize hu : ks_un (ks_rank (tK tk p)) W = u at a4 a5 b1 b2 b3 b4
  have w3 : gI w 80 3 = Int32.ofNat (tK tk p) := by rw [a3.1 80 3 (by omega) (by omega) (Or.inl (by omega)) (Or.inr (by decide)), ad3]
  have e64 : ¬ (64 : Int32) ≤ Int32.ofNat u.2.length := fl_lit (a := 64) rfl (by omega) (by omega) (by omega)
  have e2 : ix (Int32.ofNat u.2.length) = u.2.length := ix_ofNat (by omega)
  have e3 : Int32.ofNat u.2.length + 1 = Int32.ofNat (u.2.length + 1) := ofNat_succ _
  have bb : mm_inb (Int32.ofNat u.2.length) 64 = true := inb_ofNat (by decide) (by omega)
  have ef : f_Parser_operate (Int32.ofNat m) s = sI (sI (sI w 80 10 (Int32.ofNat (u.2.length + 1))) 81 u.2.length (Int32.ofNat (tK tk p))) 80 7 (Int32.ofNat m) := by
    unfold f_Parser_operate f_Parser_putAside
    simp only [mq_let_e, ad3, rk, a1, a4.1, e64, if_false, e2, e3, w3]
  have eo : ok_Parser_operate (Int32.ofNat m) s := by
    unfold ok_Parser_operate ok_Parser_putAside
    simp only [mq_letP_e, ad3, rk, a1, a2, a4.1, e64, if_false, bb, true_and, and_self]
  have g : ∀ c j, c ≠ r + 5 → c ≠ r + 6 → (c ≠ r ∨ j ≠ 7) → (c ≠ 80 ∨ (j ≠ 7 ∧ j ≠ 10 ∧ j ≠ 11)) → c ≠ 81 → gI (sI (sI (sI w 80 10 (Int32.ofNat (u.2.length + 1))) 81 u.2.length (Int32.ofNat (tK tk p))) 80 7 (Int32.ofNat m)) c j = gI s c j := fun c j a b d e f => by
    rw [gI_sI, if_neg (fun q => by omega), gI_sI, if_neg (fun q => f q.1), gI_sI, if_neg (fun q => by omega)]
    exact a3.1 c j a b d (by omega)
  rw [ef]
  unfold ks_op
  rw [hu]
  refine ⟨eo, ⟨fun c j a b d => g c j (by omega) (by omega) (by omega) (Or.inl b) d, fun c j => a3.2.1 c j, a3.2.2⟩, ⟨?_, ?_, ?_, by
    show m ≤ 4
    omega, hσ, ?_, ?_, ?_, Nat.le_of_lt hx, Or.inr ⟨?_, ⟨?_, ⟨?_, ?_⟩, ?_⟩, ⟨b1, ⟨hk1, hk2⟩, Or.inr (Or.inr b2)⟩, ?_, ?_, hx, ?_, ?_, ?_⟩⟩, rfl⟩
  · show gP w 4 = r
    rw [a3.2.2, hP]
  · rw [gI_sI, if_pos ⟨rfl, rfl⟩]
  · rw [g 80 12 (by omega) (by omega) (Or.inl (by omega)) (Or.inr (by decide)) (by decide), h12]
  · refine kO_c (s := w) ?_ ?_ ?_ a5
    · rw [fI_sI, if_neg (by omega), fI_sI, if_neg (by omega), fI_sI, if_neg (by omega)]
    · rw [fI_sI, if_neg (by omega), fI_sI, if_neg (by omega), fI_sI, if_neg (by omega)]
    · rw [gI_sI, if_neg (fun q => by omega), gI_sI, if_neg (fun q => by omega), gI_sI, if_neg (fun q => by omega)]
  · exact kT_c (g r 8 (by omega) (by omega) (Or.inr (by decide)) (Or.inl (by omega)) (by omega)) (fun m i a b _ => g (r + m) i (by omega) (by omega) (Or.inl (by omega)) (Or.inl (by omega)) (by omega)) hT
  · rw [List.length_append]
    show o.length + u.1.length ≤ tN tk p
    omega
  · rw [g 80 8 (by omega) (by omega) (Or.inl (by omega)) (Or.inr (by decide)) (by decide), h8]
  · rw [gI_sI, if_neg (fun q => absurd q.2 (by decide)), gI_sI, if_neg (fun q => absurd q.1 (by decide)), gI_sI, if_pos ⟨rfl, rfl⟩]
    rfl
  · rw [gI_sI, if_neg (fun q => absurd q.1 (by decide)), gI_sI, if_pos ⟨rfl, rfl⟩]
  · rw [fI_sI, if_neg (by decide), fI_sI, if_pos rfl, fI_sI, if_neg (by decide)]
    exact ks_stk_up (Nat.le_refl _) a4.2.1
  · rw [gI_sI, if_neg (fun q => absurd q.2 (by decide)), gI_sI, if_neg (fun q => absurd q.1 (by decide)), gI_sI, if_neg (fun q => absurd q.2 (by decide)), a4.2.2]
    rw [ks_open_op ⟨hk3.2, hk3.1⟩]
  · rw [ks_open_op ⟨hk3.2, hk3.1⟩]
    omega
  · rw [List.length_append]
    show o.length + u.1.length + (u.2.length + 1) ≤ tN tk p
    omega
  · rw [g (r + 1) _ (by omega) (by omega) (Or.inl (by omega)) (Or.inl (by omega)) (by omega)]
    exact h1
  · rw [g (r + 2) _ (by omega) (by omega) (Or.inl (by omega)) (Or.inl (by omega)) (by omega)]
    exact h2
  · intro q
    rw [g (r + 3) _ (by omega) (by omega) (Or.inl (by omega)) (Or.inl (by omega)) (by omega)]
    refine h3 (Or.inl ?_)
    rcases q with q | q
    · exact q
    · exact hs0 q
