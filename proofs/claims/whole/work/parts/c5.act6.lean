/-! ACT: the class goes on to the next token. -/
theorem ey_b_0 (b : Bool) : (ey_b b = 0) = (b = false) := by
  cases b
  · exact propext ⟨fun _ => rfl, fun _ => rfl⟩
  · exact propext ⟨fun q => absurd q (by decide), fun q => absurd q (by decide)⟩
theorem G_blank (c : Int32) (s : mS) : f_Parser_isBlank c s = ey_b (tz_bl c) := by
  unfold f_Parser_isBlank tz_bl
  by_cases h : c = 32
  · rw [if_pos h, h]
    rfl
  · rw [if_neg h]
    have e : (c == 32) = false := beq_eq_false_iff_ne.mpr h
    rw [e, Bool.false_or]
    by_cases h2 : c = 10
    · rw [if_pos h2, h2]
      rfl
    · have e2 : (c == 10) = false := beq_eq_false_iff_ne.mpr h2
      rw [if_neg h2, e2]
      rfl
theorem G_letter (c : Int32) (s : mS) : f_Parser_isLetter c s = ey_b (tz_le c) := by
  unfold f_Parser_isLetter tz_le
  have up : (if c < 65 then (0 : Int32) else if 90 < c then 0 else 1) = ey_b (decide (65 ≤ c) && decide (c ≤ 90)) := by
    by_cases h : c < 65
    · rw [if_pos h, decide_eq_false (Int32.not_le.mpr h)]
      rfl
    · rw [if_neg h, decide_eq_true (Int32.not_lt.mp h)]
      by_cases h2 : 90 < c
      · rw [if_pos h2, decide_eq_false (Int32.not_le.mpr h2)]
        rfl
      · rw [if_neg h2, decide_eq_true (Int32.not_lt.mp h2)]
        rfl
  by_cases h : c < 97
  · rw [if_pos h, decide_eq_false (Int32.not_le.mpr h), up]
    rfl
  · rw [if_neg h, decide_eq_true (Int32.not_lt.mp h)]
    by_cases h2 : c ≤ 122
    · rw [if_pos h2, decide_eq_true h2]
      rfl
    · rw [if_neg h2, decide_eq_false h2, up]
      rfl
theorem G_digit (c : Int32) (s : mS) : f_Parser_isDigit c s = ey_b (tz_di c) := by
  unfold f_Parser_isDigit tz_di
  by_cases h : c < 48
  · rw [if_pos h, decide_eq_false (Int32.not_le.mpr h)]
    rfl
  · rw [if_neg h, decide_eq_true (Int32.not_lt.mp h)]
    by_cases h2 : 57 < c
    · rw [if_pos h2, decide_eq_false (Int32.not_le.mpr h2)]
      rfl
    · rw [if_neg h2, decide_eq_true (Int32.not_lt.mp h2)]
      rfl
theorem G_kind (c : Int32) (s : mS) : f_Parser_kindOfSign c s = Int32.ofNat (tz_sign c) := by
  unfold f_Parser_kindOfSign tz_sign
  by_cases h40 : c = 40
  · subst h40; rfl
  by_cases h41 : c = 41
  · subst h41; rfl
  by_cases h42 : c = 42
  · subst h42; rfl
  by_cases h43 : c = 43
  · subst h43; rfl
  by_cases h45 : c = 45
  · subst h45; rfl
  by_cases h47 : c = 47
  · subst h47; rfl
  by_cases h59 : c = 59
  · subst h59; rfl
  by_cases h60 : c = 60
  · subst h60; rfl
  by_cases h61 : c = 61
  · subst h61; rfl
  by_cases h62 : c = 62
  · subst h62; rfl
  simp only [h40, h41, h42, h43, h45, h47, h59, h60, h61, h62, if_false, ite_self]
  rfl
theorem lp_sk {Lp : Nat → Int32 → mS → Int32 × mS} {OKp : Nat → Int32 → mS → Prop} {f : Int32 → Bool} {T : Nat → Int32} {L : Nat} {s : mS} (hf : f (-1) = false) (hL : L ≤ 600)
    (hs : ∀ n v i, v < 600 → i < L → f (tz_sg T L i) = true → Lp (n + 1) (Int32.ofNat v) (sI s 80 2 (Int32.ofNat i)) = Lp n (Int32.ofNat (v + 1)) (sI s 80 2 (Int32.ofNat (i + 1))) ∧ (OKp n (Int32.ofNat (v + 1)) (sI s 80 2 (Int32.ofNat (i + 1))) → OKp (n + 1) (Int32.ofNat v) (sI s 80 2 (Int32.ofNat i))))
    (he : ∀ n v i, v ≤ 600 → i ≤ L → f (tz_sg T L i) = false → (Lp (n + 1) (Int32.ofNat v) (sI s 80 2 (Int32.ofNat i))).2 = sI s 80 2 (Int32.ofNat i) ∧ OKp (n + 1) (Int32.ofNat v) (sI s 80 2 (Int32.ofNat i))) {p : Nat} (hp : p ≤ L) :
    (Lp mm_N 0 (sI s 80 2 (Int32.ofNat p))).2 = sI s 80 2 (Int32.ofNat (tz_q f T L p)) ∧ OKp mm_N 0 (sI s 80 2 (Int32.ofNat p)) := by
  obtain ⟨a1, a2, a3, a4⟩ := tz_q_s hf T L p
  have a4 := a4 hp
  generalize tz_q f T L p = q at a1 a2 a3 a4
  have A : ∀ r i n v, i + r = q → p ≤ i → v + p = i → r < n → (Lp n (Int32.ofNat v) (sI s 80 2 (Int32.ofNat i))).2 = sI s 80 2 (Int32.ofNat q) ∧ OKp n (Int32.ofNat v) (sI s 80 2 (Int32.ofNat i)) := by
    intro r
    induction r with
    | zero =>
      intro i n v h1 h2 h3 h4
      obtain ⟨n', rfl⟩ : ∃ n', n = n' + 1 := ⟨n - 1, by omega⟩
      have e : i = q := by omega
      subst e
      exact he n' v i (by omega) a4 a2
    | succ r ih =>
      intro i n v h1 h2 h3 h4
      obtain ⟨n', rfl⟩ : ∃ n', n = n' + 1 := ⟨n - 1, by omega⟩
      obtain ⟨s1, s2⟩ := hs n' v i (by omega) (by omega) (a3 i h2 (by omega))
      obtain ⟨i1, i2⟩ := ih (i + 1) n' (v + 1) (by omega) (by omega) (by omega) (by omega)
      exact ⟨by rw [s1]; exact i1, s2 i2⟩
  exact A (q - p) p mm_N 0 (by omega) (Nat.le_refl p) (by omega) (by rw [mm_Ns]; omega)
theorem G_skip {s : mS} {L p : Nat} (h1 : gI s 80 1 = Int32.ofNat L) (hT : gP s 5 = 48) (hL : L ≤ 600) (hp : p ≤ L) : ((lp_Parser_advance_2 mm_N 0 (sI s 80 2 (Int32.ofNat p))).2 = sI s 80 2 (Int32.ofNat (tz_q tz_bl (gI s 37) L p)) ∧ okl_Parser_advance_2 mm_N 0 (sI s 80 2 (Int32.ofNat p))) ∧ ((lp_Parser_readWord_2 mm_N 0 (sI s 80 2 (Int32.ofNat p))).2 = sI s 80 2 (Int32.ofNat (tz_q tz_le (gI s 37) L p)) ∧ okl_Parser_readWord_2 mm_N 0 (sI s 80 2 (Int32.ofNat p))) := by
  have r2 : ∀ i : Nat, gI (sI s 80 2 (Int32.ofNat i)) 80 2 = Int32.ofNat i := fun i => by rw [gI_sI, if_pos ⟨rfl, rfl⟩]
  have r1 : ∀ i : Nat, gI (sI s 80 2 (Int32.ofNat i)) 80 1 = Int32.ofNat L := fun i => by rw [gI_sI, if_neg (fun q => absurd q.2 (by decide)), h1]
  have r37 : ∀ i : Nat, gI (sI s 80 2 (Int32.ofNat i)) 37 = gI s 37 := fun i => by rw [fI_sI, if_neg (by decide)]
  have sg : ∀ i, i ≤ 600 → f_Parser_signAt (Int32.ofNat i) (sI s 80 2 (Int32.ofNat i)) = tz_sg (gI s 37) L i ∧ ok_Parser_signAt (Int32.ofNat i) (sI s 80 2 (Int32.ofNat i)) := fun i hi => by
    have q := G_sign (s := sI s 80 2 (Int32.ofNat i)) (i := i) (r1 i) hT hL (by omega)
    rw [r37] at q
    exact q
  constructor
  · refine lp_sk (f := tz_bl) (T := gI s 37) (by decide) hL (fun n v i hv hi hc => ?_) (fun n v i hv hi hc => ?_) hp
    · have e0 : ¬ (600 : Int32) ≤ Int32.ofNat v := fl_lit (a := 600) rfl (by omega) (by omega) hv
      have e3 : Int32.ofNat v + 1 = Int32.ofNat (v + 1) := ofNat_succ v
      have e4 : Int32.ofNat i + 1 = Int32.ofNat (i + 1) := ofNat_succ i
      have g := sg i (by omega)
      have nb : ¬ tz_bl (tz_sg (gI s 37) L i) = false := by
        rw [hc]
        decide
      constructor
      · simp only [lp_Parser_advance_2, mq_let_e, e0, if_false, r2, g.1, G_blank, ey_b_0, if_neg nb, e3, e4, sI_sI]
      · intro q
        simp only [okl_Parser_advance_2, mq_letP_e, e0, if_false, r2, g.1, g.2, G_blank, ey_b_0, if_neg nb, e3, e4, sI_sI, true_and]
        exact q
    · have g := sg i (by omega)
      by_cases e0 : (600 : Int32) ≤ Int32.ofNat v
      · constructor
        · simp only [lp_Parser_advance_2, e0, if_true]
        · simp only [okl_Parser_advance_2, e0, if_true]
      · constructor
        · simp only [lp_Parser_advance_2, mq_let_e, e0, if_false, r2, g.1, G_blank, ey_b_0, hc, if_true]
        · simp only [okl_Parser_advance_2, mq_letP_e, e0, if_false, r2, g.1, g.2, G_blank, ey_b_0, hc, if_true, true_and]
  · refine lp_sk (f := tz_le) (T := gI s 37) (by decide) hL (fun n v i hv hi hc => ?_) (fun n v i hv hi hc => ?_) hp
    · have e0 : ¬ (600 : Int32) ≤ Int32.ofNat v := fl_lit (a := 600) rfl (by omega) (by omega) hv
      have e3 : Int32.ofNat v + 1 = Int32.ofNat (v + 1) := ofNat_succ v
      have e4 : Int32.ofNat i + 1 = Int32.ofNat (i + 1) := ofNat_succ i
      have g := sg i (by omega)
      have nb : ¬ tz_le (tz_sg (gI s 37) L i) = false := by
        rw [hc]
        decide
      constructor
      · simp only [lp_Parser_readWord_2, mq_let_e, e0, if_false, r2, g.1, G_letter, ey_b_0, if_neg nb, e3, e4, sI_sI]
      · intro q
        simp only [okl_Parser_readWord_2, mq_letP_e, e0, if_false, r2, g.1, g.2, G_letter, ey_b_0, if_neg nb, e3, e4, sI_sI, true_and]
        exact q
    · have g := sg i (by omega)
      by_cases e0 : (600 : Int32) ≤ Int32.ofNat v
      · constructor
        · simp only [lp_Parser_readWord_2, e0, if_true]
        · simp only [okl_Parser_readWord_2, e0, if_true]
      · constructor
        · simp only [lp_Parser_readWord_2, mq_let_e, e0, if_false, r2, g.1, G_letter, ey_b_0, hc, if_true]
        · simp only [okl_Parser_readWord_2, mq_letP_e, e0, if_false, r2, g.1, g.2, G_letter, ey_b_0, hc, if_true, true_and]
theorem tz_num5 (T : Nat → Int32) (st k : Nat) : (if 5 ≤ k then tz_num T st (min k 5) else tz_num T st (min k 5) * 10 + T (st + k) - 48) = tz_num T st (min (k + 1) 5) := by
  by_cases h : 5 ≤ k
  · rw [if_pos h, Nat.min_eq_right h, Nat.min_eq_right (by omega)]
  · rw [if_neg h, Nat.min_eq_left (by omega), Nat.min_eq_left (by omega)]
    rfl
theorem G_number {s : mS} {L st : Nat} (h1 : gI s 80 1 = Int32.ofNat L) (hT : gP s 5 = 48) (hL : L ≤ 600) (hp : st ≤ L) : (lp_Parser_readNumber_2 mm_N 0 (sI (sI s 80 4 0) 80 2 (Int32.ofNat st))).2 = sI (sI s 80 4 (tz_num (gI s 37) st (min (tz_q tz_di (gI s 37) L st - st) 5))) 80 2 (Int32.ofNat (tz_q tz_di (gI s 37) L st)) ∧ okl_Parser_readNumber_2 mm_N 0 (sI (sI s 80 4 0) 80 2 (Int32.ofNat st)) := by
  obtain ⟨a1, a2, a3, a4⟩ := tz_q_s (f := tz_di) (by decide) (gI s 37) L st
  have a4 := a4 hp
  generalize tz_q tz_di (gI s 37) L st = q at a1 a2 a3 a4
  have r2 : ∀ (x : Int32) (i : Nat), gI (sI (sI s 80 4 x) 80 2 (Int32.ofNat i)) 80 2 = Int32.ofNat i := fun x i => by rw [gI_sI, if_pos ⟨rfl, rfl⟩]
  have r4 : ∀ (x : Int32) (i : Nat), gI (sI (sI s 80 4 x) 80 2 (Int32.ofNat i)) 80 4 = x := fun x i => by rw [gI_sI, if_neg (fun q => absurd q.2 (by decide)), gI_sI, if_pos ⟨rfl, rfl⟩]
  have r1 : ∀ (x : Int32) (i : Nat), gI (sI (sI s 80 4 x) 80 2 (Int32.ofNat i)) 80 1 = Int32.ofNat L := fun x i => by rw [gI_sI, if_neg (fun q => absurd q.2 (by decide)), gI_sI, if_neg (fun q => absurd q.2 (by decide)), h1]
  have r37 : ∀ (x : Int32) (i : Nat), gI (sI (sI s 80 4 x) 80 2 (Int32.ofNat i)) 37 = gI s 37 := fun x i => by rw [fI_sI, if_neg (by decide), fI_sI, if_neg (by decide)]
  have w4 : ∀ (x y : Int32) (i : Nat), sI (sI (sI s 80 4 x) 80 2 (Int32.ofNat i)) 80 4 y = sI (sI s 80 4 y) 80 2 (Int32.ofNat i) := fun x y i => by rw [sI_comm _ _ _ _ _ _ (by decide), sI_sI]
  have sg : ∀ (x : Int32) i, i ≤ 600 → f_Parser_signAt (Int32.ofNat i) (sI (sI s 80 4 x) 80 2 (Int32.ofNat i)) = tz_sg (gI s 37) L i ∧ ok_Parser_signAt (Int32.ofNat i) (sI (sI s 80 4 x) 80 2 (Int32.ofNat i)) := fun x i hi => by
    have q := G_sign (s := sI (sI s 80 4 x) 80 2 (Int32.ofNat i)) (i := i) (r1 x i) hT hL (by omega)
    rw [r37] at q
    exact q
  have A : ∀ r k n, k + r = q - st → r < n → (lp_Parser_readNumber_2 n (Int32.ofNat k) (sI (sI s 80 4 (tz_num (gI s 37) st (min k 5))) 80 2 (Int32.ofNat (st + k)))).2 = sI (sI s 80 4 (tz_num (gI s 37) st (min (q - st) 5))) 80 2 (Int32.ofNat q) ∧ okl_Parser_readNumber_2 n (Int32.ofNat k) (sI (sI s 80 4 (tz_num (gI s 37) st (min k 5))) 80 2 (Int32.ofNat (st + k))) := by
    intro r
    induction r with
    | zero =>
      intro k n h2 h3
      obtain ⟨n', rfl⟩ : ∃ n', n = n' + 1 := ⟨n - 1, by omega⟩
      have e : k = q - st := by omega
      subst e
      have eq_ : st + (q - st) = q := by omega
      rw [eq_]
      have g := sg (tz_num (gI s 37) st (min (q - st) 5)) q (by omega)
      by_cases e0 : (600 : Int32) ≤ Int32.ofNat (q - st)
      · constructor
        · simp only [lp_Parser_readNumber_2, e0, if_true]
        · simp only [okl_Parser_readNumber_2, e0, if_true]
      · constructor
        · simp only [lp_Parser_readNumber_2, mq_let_e, e0, if_false, r2, g.1, G_digit, ey_b_0, a2, if_true]
        · simp only [okl_Parser_readNumber_2, mq_letP_e, e0, if_false, r2, g.1, g.2, G_digit, ey_b_0, a2, if_true, true_and]
    | succ r ih =>
      intro k n h2 h3
      obtain ⟨n', rfl⟩ : ∃ n', n = n' + 1 := ⟨n - 1, by omega⟩
      have I := ih (k + 1) n' (by omega) (by omega)
      have hc := a3 (st + k) (by omega) (by omega)
      have e0 : ¬ (600 : Int32) ≤ Int32.ofNat k := fl_lit (a := 600) rfl (by omega) (by omega) (by omega)
      have e3 : Int32.ofNat k + 1 = Int32.ofNat (k + 1) := ofNat_succ k
      have e4 : Int32.ofNat (st + k) + 1 = Int32.ofNat (st + (k + 1)) := ofNat_succ (st + k)
      have e5 : (5 : Int32) ≤ Int32.ofNat k ↔ 5 ≤ k := ofNat_le (a := 5) (by omega) (by omega)
      have nb : ¬ tz_di (tz_sg (gI s 37) L (st + k)) = false := by
        rw [hc]
        decide
      have t : tz_sg (gI s 37) L (st + k) = gI s 37 (st + k) := if_pos (by omega)
      have n5 := tz_num5 (gI s 37) st k
      have nbt := nb
      rw [t] at nbt
      have g := sg (tz_num (gI s 37) st (min k 5)) (st + k) (by omega)
      by_cases c5 : 5 ≤ k
      · rw [if_pos c5] at n5
        constructor
        · simp only [lp_Parser_readNumber_2, mq_let_e, e0, if_false, r2, g.1, G_digit, ey_b_0, if_neg nb, if_pos (e5.mpr c5), e3, e4, sI_sI]
          rw [n5]
          exact I.1
        · simp only [okl_Parser_readNumber_2, mq_letP_e, e0, if_false, r2, g.1, g.2, G_digit, ey_b_0, if_neg nb, if_pos (e5.mpr c5), e3, e4, sI_sI, true_and]
          rw [n5]
          exact I.2
      · rw [if_neg c5] at n5
        have c5' : ¬ (5 : Int32) ≤ Int32.ofNat k := fun q => c5 (e5.mp q)
        constructor
        · simp only [lp_Parser_readNumber_2, mq_let_e, e0, if_false, r2, r4, g.1, G_digit, ey_b_0, if_neg nb, c5', e3, w4, e4, sI_sI, t, if_neg nbt, n5]
          exact I.1
        · simp only [okl_Parser_readNumber_2, mq_letP_e, mq_let_e, e0, if_false, r2, r4, g.1, g.2, G_digit, ey_b_0, if_neg nb, c5', e3, w4, e4, sI_sI, t, if_neg nbt, n5, true_and, and_true]
          exact I.2
  have B := A (q - st) 0 mm_N (by omega) (by rw [mm_Ns]; omega)
  rw [Nat.zero_min] at B
  exact B
def ad_R (tk : tkT) (p : Nat) (w : mS) : Prop := gI w 80 2 = Int32.ofNat (tN tk p) ∧ gI w 80 5 = Int32.ofNat (tA tk p) ∧ gI w 80 3 = Int32.ofNat (tK tk p) ∧ (tK tk p ≠ 1 → gI w 80 4 = tV tk p)
theorem G_adv {s : mS} {L p : Nat} (h1 : gI s 80 1 = Int32.ofNat L) (hT : gP s 5 = 48) (hL : L ≤ 600) (hp : p ≤ L) (h2 : gI s 80 2 = Int32.ofNat p) : ok_Parser_advance s ∧ fp [] [(80, 2), (80, 3), (80, 4), (80, 5)] false s (f_Parser_advance s) ∧ ad_R (tz (gI s 37) L) p (f_Parser_advance s) := by
  have es : sI s 80 2 (Int32.ofNat p) = s := by rw [← h2, sI_id]
  have SK := (G_skip h1 hT hL hp).1
  rw [es] at SK
  have fr := fr_Parser_advance s
  obtain ⟨z1, z2⟩ := (tz_E (gI s 37) L).2.2 p
  obtain ⟨a1, a2, a3, a4⟩ := tz_q_s (f := tz_bl) (by decide) (gI s 37) L p
  have a4 := a4 hp
  unfold ad_R tK tV tA tN tz
  generalize hst : tz_q tz_bl (gI s 37) L p = st at SK a1 a2 a3 a4
  obtain ⟨k1, k2⟩ := SK
  generalize hx : (lp_Parser_advance_2 mm_N 0 s) = X at k1
  have x2 : gI X.2 80 2 = Int32.ofNat st := by rw [k1, gI_sI, if_pos ⟨rfl, rfl⟩]
  -- behind the blanks
  obtain ⟨s1, hs1⟩ : ∃ s1, sI (sI X.2 80 5 (Int32.ofNat st)) 80 4 0 = s1 := ⟨_, rfl⟩
  have y1 : gI s1 80 1 = Int32.ofNat L := by
    rw [← hs1, gI_sI, if_neg (fun q => absurd q.2 (by decide)), gI_sI, if_neg (fun q => absurd q.2 (by decide)), k1, gI_sI, if_neg (fun q => absurd q.2 (by decide)), h1]
  have y2 : gI s1 80 2 = Int32.ofNat st := by
    rw [← hs1, gI_sI, if_neg (fun q => absurd q.2 (by decide)), gI_sI, if_neg (fun q => absurd q.2 (by decide)), x2]
  have y5 : gI s1 80 5 = Int32.ofNat st := by
    rw [← hs1, gI_sI, if_neg (fun q => absurd q.2 (by decide)), gI_sI, if_pos ⟨rfl, rfl⟩]
  have y4 : gI s1 80 4 = 0 := by
    rw [← hs1, gI_sI, if_pos ⟨rfl, rfl⟩]
  have y37 : gI s1 37 = gI s 37 := by
    rw [← hs1, fI_sI, if_neg (by decide), fI_sI, if_neg (by decide), k1, fI_sI, if_neg (by decide)]
  have yT : gP s1 5 = 48 := by rw [← hs1, gP_sI, gP_sI, k1, gP_sI, hT]
  have SG := G_sign (s := s1) (i := st) y1 yT hL (by omega)
  rw [y37] at SG
  have es1 : sI s1 80 2 (Int32.ofNat st) = s1 := by rw [← y2, sI_id]
  have es4 : sI (sI s1 80 4 0) 80 2 (Int32.ofNat st) = s1 := by
    rw [← y4, sI_id, es1]
  unfold tz_at
  by_cases c : tz_sg (gI s 37) L st = -1
  · have ef : f_Parser_advance s = sI s1 80 3 0 := by
      unfold f_Parser_advance
      simp only [mq_let_e, hx, x2, hs1, SG.1, if_pos c]
    have eo : ok_Parser_advance s := by
      unfold ok_Parser_advance
      simp only [mq_letP_e, hx, x2, hs1, SG.1, SG.2, k2, if_pos c, true_and]
    refine ⟨eo, fr, ?_⟩
    rw [ef, if_pos c]
    refine ⟨?_, ?_, ?_, fun _ => ?_⟩
    · rw [gI_sI, if_neg (fun q => absurd q.2 (by decide)), y2]
    · rw [gI_sI, if_neg (fun q => absurd q.2 (by decide)), y5]
    · rw [gI_sI, if_pos ⟨rfl, rfl⟩]
      rfl
    · rw [gI_sI, if_neg (fun q => absurd q.2 (by decide)), y4]
  · by_cases c1 : tz_le (tz_sg (gI s 37) L st) = true
    · have n1 : ¬ tz_le (tz_sg (gI s 37) L st) = false := by
        rw [c1]
        decide
      obtain ⟨l1, l2⟩ := (G_skip (s := s1) y1 yT hL a4).2
      rw [es1, y37] at l1
      rw [es1] at l2
      obtain ⟨b1, b2, b3, b4⟩ := tz_q_s (f := tz_le) (by decide) (gI s 37) L st
      have b4 := b4 a4
      have ef : f_Parser_advance s = f_Parser_readWord s1 := by
        unfold f_Parser_advance
        simp only [mq_let_e, hx, x2, hs1, SG.1, if_neg c, G_letter, ey_b_0, if_neg n1]
      have W := G_word (s := sI s1 80 2 (Int32.ofNat (tz_q tz_le (gI s 37) L st))) (L := L) (st := st) (e := tz_q tz_le (gI s 37) L st) (by rw [gI_sI, if_neg (fun q => absurd q.2 (by decide)), y1]) (by rw [gP_sI, yT]) (by rw [gI_sI, if_neg (fun q => absurd q.2 (by decide)), y5]) (by rw [gI_sI, if_pos ⟨rfl, rfl⟩]) b1 b4 hL
      rw [fI_sI, if_neg (by decide), y37] at W
      have ew : f_Parser_readWord s1 = sI (sI s1 80 2 (Int32.ofNat (tz_q tz_le (gI s 37) L st))) 80 3 (Int32.ofNat (tz_word (gI s 37) st (tz_q tz_le (gI s 37) L st) 13)) := by
        unfold f_Parser_readWord
        simp only [mq_let_e, l1, W.1]
      have eo : ok_Parser_advance s := by
        unfold ok_Parser_advance ok_Parser_readWord
        simp only [mq_letP_e, hx, x2, hs1, SG.1, SG.2, k2, if_neg c, G_letter, ey_b_0, if_neg n1, l1, l2, W.2, and_self, true_and]
      refine ⟨eo, fr, ?_⟩
      rw [ef, ew, if_neg c, if_pos c1]
      refine ⟨?_, ?_, ?_, fun _ => ?_⟩
      · rw [gI_sI, if_neg (fun q => absurd q.2 (by decide)), gI_sI, if_pos ⟨rfl, rfl⟩]
      · rw [gI_sI, if_neg (fun q => absurd q.2 (by decide)), gI_sI, if_neg (fun q => absurd q.2 (by decide)), y5]
      · rw [gI_sI, if_pos ⟨rfl, rfl⟩]
      · rw [gI_sI, if_neg (fun q => absurd q.2 (by decide)), gI_sI, if_neg (fun q => absurd q.2 (by decide)), y4]
    · have n1 : tz_le (tz_sg (gI s 37) L st) = false := by
        cases h : tz_le (tz_sg (gI s 37) L st) with
        | false => rfl
        | true => exact absurd h c1
      by_cases c2 : tz_di (tz_sg (gI s 37) L st) = true
      · have n2 : ¬ tz_di (tz_sg (gI s 37) L st) = false := by
          rw [c2]
          decide
        obtain ⟨l1, l2⟩ := G_number (s := s1) y1 yT hL a4
        rw [es4, y37] at l1
        rw [es4] at l2
        obtain ⟨b1, b2, b3, b4⟩ := tz_q_s (f := tz_di) (by decide) (gI s 37) L st
        have b4 := b4 a4
        have ef : f_Parser_advance s = f_Parser_readNumber s1 := by
          unfold f_Parser_advance
          simp only [mq_let_e, hx, x2, hs1, SG.1, if_neg c, G_letter, G_digit, ey_b_0, n1, if_neg n2, if_true, if_false]
        have eo : ok_Parser_advance s := by
          unfold ok_Parser_advance ok_Parser_readNumber
          simp only [mq_letP_e, hx, x2, hs1, SG.1, SG.2, k2, if_neg c, G_letter, G_digit, ey_b_0, n1, if_neg n2, if_true, if_false, l2, and_self, true_and]
        refine ⟨eo, fr, ?_⟩
        rw [ef, if_neg c, if_neg c1, if_pos c2]
        generalize tz_q tz_di (gI s 37) L st = q at l1 b1 b4
        have t2 : gI (sI (sI s1 80 4 (tz_num (gI s 37) st (min (q - st) 5))) 80 2 (Int32.ofNat q)) 80 2 = Int32.ofNat q := by rw [gI_sI, if_pos ⟨rfl, rfl⟩]
        have t5 : gI (sI (sI s1 80 4 (tz_num (gI s 37) st (min (q - st) 5))) 80 2 (Int32.ofNat q)) 80 5 = Int32.ofNat st := by rw [gI_sI, if_neg (fun q => absurd q.2 (by decide)), gI_sI, if_neg (fun q => absurd q.2 (by decide)), y5]
        have d5 : (Int32.ofNat q - Int32.ofNat st ≤ 5) = (q - st ≤ 5) := by
          rw [ofNat_subn b1]
          exact propext (ofNat_le (b := 5) (by omega) (by omega))
        have ew : f_Parser_readNumber s1 = sI (sI (sI s1 80 4 (tz_num (gI s 37) st (min (q - st) 5))) 80 2 (Int32.ofNat q)) 80 3 (if q - st ≤ 5 then 2 else 1) := by
          unfold f_Parser_readNumber
          simp only [mq_let_e, l1, t2, t5, d5]
        rw [ew]
        by_cases c3 : q - st ≤ 5
        · rw [if_pos c3, if_pos c3]
          refine ⟨?_, ?_, ?_, fun _ => ?_⟩
          · rw [gI_sI, if_neg (fun q => absurd q.2 (by decide)), t2]
          · rw [gI_sI, if_neg (fun q => absurd q.2 (by decide)), t5]
          · rw [gI_sI, if_pos ⟨rfl, rfl⟩]
            rfl
          · rw [gI_sI, if_neg (fun q => absurd q.2 (by decide)), gI_sI, if_neg (fun q => absurd q.2 (by decide)), gI_sI, if_pos ⟨rfl, rfl⟩, Nat.min_eq_left c3]
        · rw [if_neg c3, if_neg c3]
          refine ⟨?_, ?_, ?_, fun q => absurd rfl q⟩
          · rw [gI_sI, if_neg (fun q => absurd q.2 (by decide)), t2]
          · rw [gI_sI, if_neg (fun q => absurd q.2 (by decide)), t5]
          · rw [gI_sI, if_pos ⟨rfl, rfl⟩]
            rfl
      · have n2 : tz_di (tz_sg (gI s 37) L st) = false := by
          cases h : tz_di (tz_sg (gI s 37) L st) with
          | false => rfl
          | true => exact absurd h c2
        have e3 : Int32.ofNat st + 1 = Int32.ofNat (st + 1) := ofNat_succ st
        have ef : f_Parser_advance s = sI (sI s1 80 2 (Int32.ofNat (st + 1))) 80 3 (Int32.ofNat (tz_sign (tz_sg (gI s 37) L st))) := by
          unfold f_Parser_advance
          simp only [mq_let_e, hx, x2, hs1, SG.1, if_neg c, G_letter, G_digit, ey_b_0, n1, n2, if_true, G_kind, e3]
        have eo : ok_Parser_advance s := by
          unfold ok_Parser_advance
          simp only [mq_letP_e, hx, x2, hs1, SG.1, SG.2, k2, if_neg c, G_letter, G_digit, ey_b_0, n1, n2, if_true, and_self, true_and]
        refine ⟨eo, fr, ?_⟩
        rw [ef, if_neg c, if_neg c1, if_neg c2]
        refine ⟨?_, ?_, ?_, fun _ => ?_⟩
        · rw [gI_sI, if_neg (fun q => absurd q.2 (by decide)), gI_sI, if_pos ⟨rfl, rfl⟩]
        · rw [gI_sI, if_neg (fun q => absurd q.2 (by decide)), gI_sI, if_neg (fun q => absurd q.2 (by decide)), y5]
        · rw [gI_sI, if_pos ⟨rfl, rfl⟩]
        · rw [gI_sI, if_neg (fun q => absurd q.2 (by decide)), gI_sI, if_neg (fun q => absurd q.2 (by decide)), y4]
