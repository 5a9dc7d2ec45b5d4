/-! ACT: the model's next token. -/
theorem M_letter (c : Int32) (s : mS) : f_M_isLetter c s = ey_b (tz_le c) := by
  unfold f_M_isLetter tz_le
  simp only [mq_let_e, z_isIn, ite_not]
  by_cases h : 97 ≤ c ∧ c ≤ 122
  · rw [if_pos h, decide_eq_true h.1, decide_eq_true h.2]
    rfl
  · rw [if_neg h]
    have e : (decide (97 ≤ c) && decide (c ≤ 122)) = false := by
      rw [← Bool.decide_and, decide_eq_false h]
    rw [e, Bool.false_or, ← Bool.decide_and]
    by_cases h2 : 65 ≤ c ∧ c ≤ 90
    · rw [if_pos h2, decide_eq_true h2]
      rfl
    · rw [if_neg h2, decide_eq_false h2]
      rfl
theorem M_digit (c : Int32) (s : mS) : f_M_isDigit c s = ey_b (tz_di c) ∧ ok_M_isDigit c s := by
  have e : f_M_isIn c 48 57 s = ey_b (tz_di c) := by
    unfold tz_di
    rw [← Bool.decide_and]
    by_cases h : 48 ≤ c ∧ c ≤ 57
    · rw [decide_eq_true h]
      unfold f_M_isIn
      rw [if_neg (Int32.not_lt.mpr h.1), if_neg (Int32.not_lt.mpr h.2)]
      rfl
    · rw [decide_eq_false h]
      have z : f_M_isIn c 48 57 s = 0 := by
        rw [z_isIn]
        exact h
      rw [z]
      rfl
  constructor
  · unfold f_M_isDigit
    rw [mq_let_e, e]
  · unfold ok_M_isDigit
    rw [mq_letP_e, e]
    refine ⟨trivial, ?_⟩
    cases tz_di c <;> rfl
theorem M_skip {s : mS} {L p : Nat} (h1 : gI s 116 80 = Int32.ofNat L) (hL : L ≤ 600) (hp : p ≤ L) : (lp_M_next0_0 mm_N (sI s 116 81 (Int32.ofNat p)) = sI s 116 81 (Int32.ofNat (tz_q tz_bl (gI s 167) L p)) ∧ okl_M_next0_0 mm_N (sI s 116 81 (Int32.ofNat p))) ∧ (lp_M_next0_76 mm_N (sI s 116 81 (Int32.ofNat p)) = sI s 116 81 (Int32.ofNat (tz_q tz_le (gI s 167) L p)) ∧ okl_M_next0_76 mm_N (sI s 116 81 (Int32.ofNat p))) := by
  have r2 : ∀ i : Nat, gI (sI s 116 81 (Int32.ofNat i)) 116 81 = Int32.ofNat i := fun i => by rw [gI_sI, if_pos ⟨rfl, rfl⟩]
  have r1 : ∀ i : Nat, gI (sI s 116 81 (Int32.ofNat i)) 116 80 = Int32.ofNat L := fun i => by rw [gI_sI, if_neg (fun q => absurd q.2 (by decide)), h1]
  have r37 : ∀ i : Nat, gI (sI s 116 81 (Int32.ofNat i)) 167 = gI s 167 := fun i => by rw [fI_sI, if_neg (by decide)]
  have sg : ∀ i, i ≤ 600 → f_M_see (Int32.ofNat i) (sI s 116 81 (Int32.ofNat i)) = tz_sg (gI s 167) L i ∧ ok_M_see (Int32.ofNat i) (sI s 116 81 (Int32.ofNat i)) := fun i hi => by
    have q := M_sign (s := sI s 116 81 (Int32.ofNat i)) (i := i) (r1 i) hL (by omega)
    rw [r37] at q
    exact q
  constructor
  · obtain ⟨a1, a2, a3, a4⟩ := tz_q_s (f := tz_bl) (by decide) (gI s 167) L p
    have a4 := a4 hp
    generalize tz_q tz_bl (gI s 167) L p = q at a1 a2 a3 a4
    have A : ∀ r i n, i + r = q → p ≤ i → r < n → lp_M_next0_0 n (sI s 116 81 (Int32.ofNat i)) = sI s 116 81 (Int32.ofNat q) ∧ okl_M_next0_0 n (sI s 116 81 (Int32.ofNat i)) := by
      intro r
      induction r with
      | zero =>
        intro i n h1 h2 h3
        obtain ⟨n', rfl⟩ : ∃ n', n = n' + 1 := ⟨n - 1, by omega⟩
        have e : i = q := by omega
        subst e
        have g := sg i (by omega)
        have nb : ¬ tz_sg (gI s 167) L i = 32 ∧ ¬ tz_sg (gI s 167) L i = 10 := by
          constructor
          · intro z
            rw [z] at a2
            exact absurd a2 (by decide)
          · intro z
            rw [z] at a2
            exact absurd a2 (by decide)
        constructor
        · simp only [lp_M_next0_0, mq_let_e, r2, g.1, if_neg nb.1, if_neg nb.2]
        · simp only [okl_M_next0_0, mq_letP_e, r2, g.1, g.2, if_neg nb.1, if_neg nb.2, and_self]
      | succ r ih =>
        intro i n h1 h2 h3
        obtain ⟨n', rfl⟩ : ∃ n', n = n' + 1 := ⟨n - 1, by omega⟩
        have I := ih (i + 1) n' (by omega) (by omega) (by omega)
        have g := sg i (by omega)
        have e4 : Int32.ofNat i + 1 = Int32.ofNat (i + 1) := ofNat_succ i
        have hc := a3 i h2 (by omega)
        by_cases c : tz_sg (gI s 167) L i = 32
        · constructor
          · simp only [lp_M_next0_0, mq_let_e, r2, g.1, if_pos c, e4, sI_sI]
            exact I.1
          · simp only [okl_M_next0_0, mq_letP_e, r2, g.1, g.2, if_pos c, e4, sI_sI, true_and]
            exact I.2
        · have c2 : tz_sg (gI s 167) L i = 10 := by
            unfold tz_bl at hc
            rw [Bool.or_eq_true, beq_iff_eq, beq_iff_eq] at hc
            exact hc.resolve_left c
          constructor
          · simp only [lp_M_next0_0, mq_let_e, r2, g.1, if_neg c, if_pos c2, e4, sI_sI]
            exact I.1
          · simp only [okl_M_next0_0, mq_letP_e, r2, g.1, g.2, if_neg c, if_pos c2, e4, sI_sI, true_and]
            exact I.2
    exact A (q - p) p mm_N (by omega) (Nat.le_refl p) (by rw [mm_Ns]; omega)
  · obtain ⟨a1, a2, a3, a4⟩ := tz_q_s (f := tz_le) (by decide) (gI s 167) L p
    have a4 := a4 hp
    generalize tz_q tz_le (gI s 167) L p = q at a1 a2 a3 a4
    have A : ∀ r i n, i + r = q → p ≤ i → r < n → lp_M_next0_76 n (sI s 116 81 (Int32.ofNat i)) = sI s 116 81 (Int32.ofNat q) ∧ okl_M_next0_76 n (sI s 116 81 (Int32.ofNat i)) := by
      intro r
      induction r with
      | zero =>
        intro i n h1 h2 h3
        obtain ⟨n', rfl⟩ : ∃ n', n = n' + 1 := ⟨n - 1, by omega⟩
        have e : i = q := by omega
        subst e
        have g := sg i (by omega)
        constructor
        · simp only [lp_M_next0_76, mq_let_e, r2, g.1, M_letter, ey_b_0, a2, if_true]
        · simp only [okl_M_next0_76, mq_letP_e, r2, g.1, g.2, M_letter, ey_b_0, a2, if_true, and_self]
      | succ r ih =>
        intro i n h1 h2 h3
        obtain ⟨n', rfl⟩ : ∃ n', n = n' + 1 := ⟨n - 1, by omega⟩
        have I := ih (i + 1) n' (by omega) (by omega) (by omega)
        have g := sg i (by omega)
        have e4 : Int32.ofNat i + 1 = Int32.ofNat (i + 1) := ofNat_succ i
        have hc := a3 i h2 (by omega)
        have nb : ¬ tz_le (tz_sg (gI s 167) L i) = false := by
          rw [hc]
          decide
        constructor
        · simp only [lp_M_next0_76, mq_let_e, r2, g.1, M_letter, ey_b_0, if_neg nb, e4, sI_sI]
          exact I.1
        · simp only [okl_M_next0_76, mq_letP_e, r2, g.1, g.2, M_letter, ey_b_0, if_neg nb, e4, sI_sI, true_and]
          exact I.2
    exact A (q - p) p mm_N (by omega) (Nat.le_refl p) (by rw [mm_Ns]; omega)
theorem M_number {s : mS} {L st : Nat} (h1 : gI s 116 80 = Int32.ofNat L) (hL : L ≤ 600) (hp : st ≤ L) (h83 : gI s 116 83 = Int32.ofNat st) : lp_M_next0_126 mm_N (sI (sI s 116 84 0) 116 81 (Int32.ofNat st)) = sI (sI s 116 84 (tz_num (gI s 167) st (min (tz_q tz_di (gI s 167) L st - st) 5))) 116 81 (Int32.ofNat (tz_q tz_di (gI s 167) L st)) ∧ okl_M_next0_126 mm_N (sI (sI s 116 84 0) 116 81 (Int32.ofNat st)) := by
  obtain ⟨a1, a2, a3, a4⟩ := tz_q_s (f := tz_di) (by decide) (gI s 167) L st
  have a4 := a4 hp
  generalize tz_q tz_di (gI s 167) L st = q at a1 a2 a3 a4
  have r2 : ∀ (x : Int32) (i : Nat), gI (sI (sI s 116 84 x) 116 81 (Int32.ofNat i)) 116 81 = Int32.ofNat i := fun x i => by rw [gI_sI, if_pos ⟨rfl, rfl⟩]
  have r4 : ∀ (x : Int32) (i : Nat), gI (sI (sI s 116 84 x) 116 81 (Int32.ofNat i)) 116 84 = x := fun x i => by rw [gI_sI, if_neg (fun q => absurd q.2 (by decide)), gI_sI, if_pos ⟨rfl, rfl⟩]
  have r3 : ∀ (x : Int32) (i : Nat), gI (sI (sI s 116 84 x) 116 81 (Int32.ofNat i)) 116 83 = Int32.ofNat st := fun x i => by rw [gI_sI, if_neg (fun q => absurd q.2 (by decide)), gI_sI, if_neg (fun q => absurd q.2 (by decide)), h83]
  have r1 : ∀ (x : Int32) (i : Nat), gI (sI (sI s 116 84 x) 116 81 (Int32.ofNat i)) 116 80 = Int32.ofNat L := fun x i => by rw [gI_sI, if_neg (fun q => absurd q.2 (by decide)), gI_sI, if_neg (fun q => absurd q.2 (by decide)), h1]
  have r37 : ∀ (x : Int32) (i : Nat), gI (sI (sI s 116 84 x) 116 81 (Int32.ofNat i)) 167 = gI s 167 := fun x i => by rw [fI_sI, if_neg (by decide), fI_sI, if_neg (by decide)]
  have w4 : ∀ (x y : Int32) (i : Nat), sI (sI (sI s 116 84 x) 116 81 (Int32.ofNat i)) 116 84 y = sI (sI s 116 84 y) 116 81 (Int32.ofNat i) := fun x y i => by rw [sI_comm _ _ _ _ _ _ (by decide), sI_sI]
  have sg : ∀ (x : Int32) i, i ≤ 600 → f_M_see (Int32.ofNat i) (sI (sI s 116 84 x) 116 81 (Int32.ofNat i)) = tz_sg (gI s 167) L i ∧ ok_M_see (Int32.ofNat i) (sI (sI s 116 84 x) 116 81 (Int32.ofNat i)) := fun x i hi => by
    have q := M_sign (s := sI (sI s 116 84 x) 116 81 (Int32.ofNat i)) (i := i) (r1 x i) hL (by omega)
    rw [r37] at q
    exact q
  have A : ∀ r k n, k + r = q - st → r < n → lp_M_next0_126 n (sI (sI s 116 84 (tz_num (gI s 167) st (min k 5))) 116 81 (Int32.ofNat (st + k))) = sI (sI s 116 84 (tz_num (gI s 167) st (min (q - st) 5))) 116 81 (Int32.ofNat q) ∧ okl_M_next0_126 n (sI (sI s 116 84 (tz_num (gI s 167) st (min k 5))) 116 81 (Int32.ofNat (st + k))) := by
    intro r
    induction r with
    | zero =>
      intro k n h2 h3
      obtain ⟨n', rfl⟩ : ∃ n', n = n' + 1 := ⟨n - 1, by omega⟩
      have e : k = q - st := by omega
      subst e
      have eq_ : st + (q - st) = q := by omega
      rw [eq_]
      have g := sg (tz_num (gI s 167) st (min (q - st) 5)) q (by omega)
      constructor
      · simp only [lp_M_next0_126, mq_let_e, r2, g.1, (M_digit _ _).1, ey_b_0, a2, if_true]
      · simp only [okl_M_next0_126, mq_letP_e, r2, g.1, g.2, (M_digit _ _).1, (M_digit _ _).2, ey_b_0, a2, if_true, and_self]
    | succ r ih =>
      intro k n h2 h3
      obtain ⟨n', rfl⟩ : ∃ n', n = n' + 1 := ⟨n - 1, by omega⟩
      have I := ih (k + 1) n' (by omega) (by omega)
      have hc := a3 (st + k) (by omega) (by omega)
      have e4 : Int32.ofNat (st + k) + 1 = Int32.ofNat (st + (k + 1)) := ofNat_succ (st + k)
      have e5 : Int32.ofNat st + 5 ≤ Int32.ofNat (st + k) ↔ 5 ≤ k := by
        rw [show Int32.ofNat st + 5 = Int32.ofNat (st + 5) from (Int32.ofNat_add st 5).symm, ofNat_le (by omega) (by omega)]
        omega
      have t : tz_sg (gI s 167) L (st + k) = gI s 167 (st + k) := if_pos (by omega)
      have nb : ¬ tz_di (tz_sg (gI s 167) L (st + k)) = false := by
        rw [hc]
        decide
      have n5 := tz_num5 (gI s 167) st k
      have g := sg (tz_num (gI s 167) st (min k 5)) (st + k) (by omega)
      by_cases c5 : 5 ≤ k
      · rw [if_pos c5] at n5
        constructor
        · simp only [lp_M_next0_126, mq_let_e, r2, r3, g.1, (M_digit _ _).1, ey_b_0, if_neg nb, if_pos (e5.mpr c5), e4, sI_sI]
          rw [n5]
          exact I.1
        · simp only [okl_M_next0_126, mq_letP_e, r2, r3, g.1, g.2, (M_digit _ _).1, (M_digit _ _).2, ey_b_0, if_neg nb, if_pos (e5.mpr c5), e4, sI_sI, true_and]
          rw [n5]
          exact I.2
      · rw [if_neg c5, Int32.mul_comm] at n5
        have c5' : ¬ Int32.ofNat st + 5 ≤ Int32.ofNat (st + k) := fun q => c5 (e5.mp q)
        rw [← t] at n5
        constructor
        · simp only [lp_M_next0_126, mq_let_e, r2, r3, r4, g.1, (M_digit _ _).1, ey_b_0, if_neg nb, if_neg c5', w4, e4, sI_sI, n5]
          exact I.1
        · simp only [okl_M_next0_126, mq_letP_e, mq_let_e, r2, r3, r4, g.1, g.2, (M_digit _ _).1, (M_digit _ _).2, ey_b_0, if_neg nb, if_neg c5', w4, e4, sI_sI, n5, true_and, and_true]
          exact I.2
  have B := A (q - st) 0 mm_N (by omega) (by rw [mm_Ns]; omega)
  rw [Nat.zero_min] at B
  exact B
theorem M_kind (c : Int32) : (if (if c = 59 then (1 : Int32) else if c = 43 then 1 else if c = 45 then 1 else if c = 42 then 1 else if c = 47 then 1 else if c = 40 then 1 else if c = 41 then 1 else if c = 60 then 1 else if c = 61 then 1 else if c = 62 then 1 else 0) = 0 then (1 : Int32) else c) = tz_mk (tz_sign c) := by
  unfold tz_sign
  by_cases h59 : c = 59
  · subst h59; rfl
  by_cases h43 : c = 43
  · subst h43; rfl
  by_cases h45 : c = 45
  · subst h45; rfl
  by_cases h42 : c = 42
  · subst h42; rfl
  by_cases h47 : c = 47
  · subst h47; rfl
  by_cases h40 : c = 40
  · subst h40; rfl
  by_cases h41 : c = 41
  · subst h41; rfl
  by_cases h60 : c = 60
  · subst h60; rfl
  by_cases h61 : c = 61
  · subst h61; rfl
  by_cases h62 : c = 62
  · subst h62; rfl
  simp only [h59, h40, h41, h42, h43, h45, h47, h60, h61, h62, if_false, if_true]
  rfl
def md_R (tk : tkT) (p : Nat) (v : Int32) (w : mS) : Prop := gI w 116 81 = Int32.ofNat (tN tk p) ∧ gI w 116 83 = Int32.ofNat (tA tk p) ∧ gI w 116 82 = tz_mk (tK tk p) ∧ (tK tk p ≠ 1 → gI w 116 84 = v)
theorem M_next {s : mS} {L p : Nat} (h1 : gI s 116 80 = Int32.ofNat L) (hL : L ≤ 600) (hp : p ≤ L) (h2 : gI s 116 81 = Int32.ofNat p) : ok_M_next0 s ∧ fp [] [(116, 81), (116, 82), (116, 83), (116, 84)] false s (f_M_next0 s) ∧ md_R (tz (gI s 167) L) p (rp_v (tz (gI s 167) L) (gI s 116 84) p) (f_M_next0 s) := by
  have es : sI s 116 81 (Int32.ofNat p) = s := by rw [← h2, sI_id]
  have SK := (M_skip h1 hL hp).1
  rw [es] at SK
  have fr := fr_M_next0 s
  obtain ⟨a1, a2, a3, a4⟩ := tz_q_s (f := tz_bl) (by decide) (gI s 167) L p
  have a4 := a4 hp
  unfold md_R rp_v tK tV tA tN tz
  generalize hst : tz_q tz_bl (gI s 167) L p = st at SK a1 a2 a3 a4
  obtain ⟨k1, k2⟩ := SK
  have x2 : gI (sI s 116 81 (Int32.ofNat st)) 116 81 = Int32.ofNat st := by rw [gI_sI, if_pos ⟨rfl, rfl⟩]
  obtain ⟨s1, hs1⟩ : ∃ s1, sI (sI s 116 81 (Int32.ofNat st)) 116 83 (Int32.ofNat st) = s1 := ⟨_, rfl⟩
  have y0 : gI s1 116 80 = Int32.ofNat L := by
    rw [← hs1, gI_sI, if_neg (fun q => absurd q.2 (by decide)), gI_sI, if_neg (fun q => absurd q.2 (by decide)), h1]
  have y1 : gI s1 116 81 = Int32.ofNat st := by
    rw [← hs1, gI_sI, if_neg (fun q => absurd q.2 (by decide)), x2]
  have y3 : gI s1 116 83 = Int32.ofNat st := by
    rw [← hs1, gI_sI, if_pos ⟨rfl, rfl⟩]
  have y4 : gI s1 116 84 = gI s 116 84 := by
    rw [← hs1, gI_sI, if_neg (fun q => absurd q.2 (by decide)), gI_sI, if_neg (fun q => absurd q.2 (by decide))]
  have y37 : gI s1 167 = gI s 167 := by
    rw [← hs1, fI_sI, if_neg (by decide), fI_sI, if_neg (by decide)]
  have SG := M_sign (s := s1) (i := st) y0 hL (by omega)
  rw [y37] at SG
  have es1 : sI s1 116 81 (Int32.ofNat st) = s1 := by rw [← y1, sI_id]
  unfold tz_at
  by_cases c : tz_sg (gI s 167) L st = -1
  · have ef : f_M_next0 s = sI s1 116 82 0 := by
      unfold f_M_next0
      simp only [mq_let_e, k1, x2, hs1, SG.1, if_pos c]
    have eo : ok_M_next0 s := by
      unfold ok_M_next0
      simp only [mq_letP_e, k1, k2, x2, hs1, SG.1, SG.2, if_pos c, and_self]
    refine ⟨eo, fr, ?_⟩
    rw [ef, if_pos c]
    refine ⟨?_, ?_, ?_, fun _ => ?_⟩
    · rw [gI_sI, if_neg (fun q => absurd q.2 (by decide)), y1]
    · rw [gI_sI, if_neg (fun q => absurd q.2 (by decide)), y3]
    · rw [gI_sI, if_pos ⟨rfl, rfl⟩]
      rfl
    · rw [gI_sI, if_neg (fun q => absurd q.2 (by decide)), y4]
      rfl
  · by_cases c1 : tz_le (tz_sg (gI s 167) L st) = true
    · have n1 : ¬ tz_le (tz_sg (gI s 167) L st) = false := by
        rw [c1]
        decide
      obtain ⟨l1, l2⟩ := (M_skip (s := s1) y0 hL a4).2
      rw [es1, y37] at l1
      rw [es1] at l2
      obtain ⟨b1, b2, b3, b4⟩ := tz_q_s (f := tz_le) (by decide) (gI s 167) L st
      have b4 := b4 a4
      have W := M_word_eq (s := sI s1 116 81 (Int32.ofNat (tz_q tz_le (gI s 167) L st))) (L := L) (st := st) (e := tz_q tz_le (gI s 167) L st) (by rw [gI_sI, if_neg (fun q => absurd q.2 (by decide)), y3]) (by rw [gI_sI, if_pos ⟨rfl, rfl⟩]) b1 b4 hL
      rw [fI_sI, if_neg (by decide), y37] at W
      have ef : f_M_next0 s = sI (sI s1 116 81 (Int32.ofNat (tz_q tz_le (gI s 167) L st))) 116 82 (tz_mk (tz_word (gI s 167) st (tz_q tz_le (gI s 167) L st) 13)) := by
        unfold f_M_next0
        simp only [mq_let_e, k1, x2, hs1, SG.1, if_neg c, M_letter, ey_b_0, if_neg n1, l1, W.1]
      have eo : ok_M_next0 s := by
        unfold ok_M_next0
        simp only [mq_letP_e, k1, k2, x2, hs1, SG.1, SG.2, if_neg c, M_letter, ey_b_0, if_neg n1, l1, l2, W.2, and_self]
      have k2w := (tz_word_r (gI s 167) st (tz_q tz_le (gI s 167) L st) 13 (Nat.le_refl 13)).2.1
      refine ⟨eo, fr, ?_⟩
      rw [ef, if_neg c, if_pos c1]
      refine ⟨?_, ?_, ?_, fun _ => ?_⟩
      · rw [gI_sI, if_neg (fun q => absurd q.2 (by decide)), gI_sI, if_pos ⟨rfl, rfl⟩]
      · rw [gI_sI, if_neg (fun q => absurd q.2 (by decide)), gI_sI, if_neg (fun q => absurd q.2 (by decide)), y3]
      · rw [gI_sI, if_pos ⟨rfl, rfl⟩]
      · rw [gI_sI, if_neg (fun q => absurd q.2 (by decide)), gI_sI, if_neg (fun q => absurd q.2 (by decide)), y4]
        exact (if_neg k2w).symm
    · have n1 : tz_le (tz_sg (gI s 167) L st) = false := by
        cases h : tz_le (tz_sg (gI s 167) L st) with
        | false => rfl
        | true => exact absurd h c1
      by_cases c2 : tz_di (tz_sg (gI s 167) L st) = true
      · have n2 : ¬ tz_di (tz_sg (gI s 167) L st) = false := by
          rw [c2]
          decide
        obtain ⟨l1, l2⟩ := M_number (s := s1) y0 hL a4 y3
        have es4 : sI (sI s1 116 84 0) 116 81 (Int32.ofNat st) = sI s1 116 84 0 := by
          rw [sI_comm _ _ _ _ _ _ (by decide), es1]
        rw [es4, y37] at l1
        rw [es4] at l2
        obtain ⟨b1, b2, b3, b4⟩ := tz_q_s (f := tz_di) (by decide) (gI s 167) L st
        have b4 := b4 a4
        rw [if_neg c, if_neg c1, if_pos c2]
        generalize tz_q tz_di (gI s 167) L st = q at l1 b1 b4
        have t2 : gI (sI (sI s1 116 84 (tz_num (gI s 167) st (min (q - st) 5))) 116 81 (Int32.ofNat q)) 116 81 = Int32.ofNat q := by rw [gI_sI, if_pos ⟨rfl, rfl⟩]
        have t3 : gI (sI (sI s1 116 84 (tz_num (gI s 167) st (min (q - st) 5))) 116 81 (Int32.ofNat q)) 116 83 = Int32.ofNat st := by rw [gI_sI, if_neg (fun q => absurd q.2 (by decide)), gI_sI, if_neg (fun q => absurd q.2 (by decide)), y3]
        have d6 : ((6 : Int32) ≤ Int32.ofNat q - Int32.ofNat st) = ¬ (q - st ≤ 5) := by
          rw [ofNat_subn b1, show (6 : Int32) = Int32.ofNat 6 from rfl, ofNat_le (a := 6) (by omega) (by omega)]
          apply propext
          omega
        have ef : f_M_next0 s = sI (sI (sI s1 116 84 (tz_num (gI s 167) st (min (q - st) 5))) 116 81 (Int32.ofNat q)) 116 82 (if ¬ (q - st ≤ 5) then 1 else 2) := by
          unfold f_M_next0
          simp only [mq_let_e, k1, x2, hs1, SG.1, if_neg c, M_letter, (M_digit _ _).1, ey_b_0, n1, if_true, if_neg n2, l1, t2, t3, d6]
        have eo : ok_M_next0 s := by
          unfold ok_M_next0
          simp only [mq_letP_e, k1, k2, x2, hs1, SG.1, SG.2, if_neg c, M_letter, (M_digit _ _).1, (M_digit _ _).2, ey_b_0, n1, if_true, if_neg n2, l2, and_self]
        refine ⟨eo, fr, ?_⟩
        rw [ef]
        by_cases c3 : q - st ≤ 5
        · rw [if_pos c3, if_neg (fun z => z c3)]
          refine ⟨?_, ?_, ?_, fun _ => ?_⟩
          · rw [gI_sI, if_neg (fun q => absurd q.2 (by decide)), t2]
          · rw [gI_sI, if_neg (fun q => absurd q.2 (by decide)), t3]
          · rw [gI_sI, if_pos ⟨rfl, rfl⟩]
            rfl
          · rw [gI_sI, if_neg (fun q => absurd q.2 (by decide)), gI_sI, if_neg (fun q => absurd q.2 (by decide)), gI_sI, if_pos ⟨rfl, rfl⟩, Nat.min_eq_left c3]
            rfl
        · rw [if_neg c3, if_pos c3]
          refine ⟨?_, ?_, ?_, fun q => absurd rfl q⟩
          · rw [gI_sI, if_neg (fun q => absurd q.2 (by decide)), t2]
          · rw [gI_sI, if_neg (fun q => absurd q.2 (by decide)), t3]
          · rw [gI_sI, if_pos ⟨rfl, rfl⟩]
            rfl
      · have n2 : tz_di (tz_sg (gI s 167) L st) = false := by
          cases h : tz_di (tz_sg (gI s 167) L st) with
          | false => rfl
          | true => exact absurd h c2
        have e3 : Int32.ofNat st + 1 = Int32.ofNat (st + 1) := ofNat_succ st
        have ef : f_M_next0 s = sI (sI s1 116 81 (Int32.ofNat (st + 1))) 116 82 (tz_mk (tz_sign (tz_sg (gI s 167) L st))) := by
          unfold f_M_next0
          simp only [mq_let_e, k1, x2, hs1, SG.1, if_neg c, M_letter, (M_digit _ _).1, ey_b_0, n1, n2, if_true, e3, M_kind]
        have eo : ok_M_next0 s := by
          unfold ok_M_next0
          simp only [mq_letP_e, k1, k2, x2, hs1, SG.1, SG.2, if_neg c, M_letter, (M_digit _ _).1, (M_digit _ _).2, ey_b_0, n1, n2, if_true, and_self]
        have k2w := (tz_sign_r (tz_sg (gI s 167) L st)).2.1
        refine ⟨eo, fr, ?_⟩
        rw [ef, if_neg c, if_neg c1, if_neg c2]
        refine ⟨?_, ?_, ?_, fun _ => ?_⟩
        · rw [gI_sI, if_neg (fun q => absurd q.2 (by decide)), gI_sI, if_pos ⟨rfl, rfl⟩]
        · rw [gI_sI, if_neg (fun q => absurd q.2 (by decide)), gI_sI, if_neg (fun q => absurd q.2 (by decide)), y3]
        · rw [gI_sI, if_pos ⟨rfl, rfl⟩]
        · rw [gI_sI, if_neg (fun q => absurd q.2 (by decide)), gI_sI, if_neg (fun q => absurd q.2 (by decide)), y4]
          exact (if_neg k2w).symm
