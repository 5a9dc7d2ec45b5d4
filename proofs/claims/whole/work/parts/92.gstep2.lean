/-! A STEP, the class: what the net keeps, the fails, all of it. -/
theorem G_netkeep {s : mS} {N T : Nat} (h : NG s N T) (hb : ∀ j, gI s 29 j = 0 ∨ gI s 29 j = 1) (x : Int32) : ok_Net_keep x s ∧ fp aw_Net_keep fw_Net_keep false s (f_Net_keep x s) ∧ (∀ j, gI (f_Net_keep x s) 32 j = if j < N then (if x = 0 then gI s 30 j else 0) else gI s 32 j) ∧ (∀ j, gI (f_Net_keep x s) 33 j = if j < N then nt_flow N T (gI s 26) (gI s 13) (gI s 24) j else gI s 33 j) ∧ (∀ j, gI (f_Net_keep x s) 34 j = if j < N then gI s 29 j else gI s 34 j) := by
  have fr := fr_Net_keep x s
  obtain ⟨g, F1, F2, F3⟩ := G_flows h
  obtain ⟨hN, hN1, hN2, hT, hT2, hnd, hpa⟩ := h
  have A := lp_up0 (L := lp_Net_keep_7 x) (OK := okl_Net_keep_7 x) (fun i w => fp [32, 33, 34] [] false (sA s 31 g) w ∧ (∀ j, gI w 32 j = if j < i then (if x = 0 then gI s 30 j else 0) else gI s 32 j) ∧ (∀ j, gI w 33 j = if j < i then g j else gI s 33 j) ∧ (∀ j, gI w 34 j = if j < i then gI s 29 j else gI s 34 j)) N (by omega) (sA s 31 g)
    ⟨fp_r, fun j => rfl, fun j => rfl, fun j => rfl⟩
    (fun n i w hi hp => by
      obtain ⟨hf, h32, h33, h34⟩ := hp
      have w25 : gI w 25 10 = Int32.ofNat N := by
        rw [(fpF hf (by decide)).1]
        exact hN
      have w30 : gI w 30 = gI s 30 := by
        rw [(fpA hf (by decide)).1, fI_sA, if_neg (by decide)]
      have w31 : gI w 31 = g := by
        rw [(fpA hf (by decide)).1, fI_sA, if_pos rfl]
      have w29 : gI w 29 = gI s 29 := by
        rw [(fpA hf (by decide)).1, fI_sA, if_neg (by decide)]
      have e0 := fl_lit w25 (by omega) (by omega) hi
      have e1 : ¬ (16 : Int32) ≤ Int32.ofNat i := fl_lit (a := 16) rfl (by omega) (by omega) (by omega)
      have e2 : ix (Int32.ofNat i) = i := ix_ofNat (by omega)
      have e3 : Int32.ofNat i + 1 = Int32.ofNat (i + 1) := ofNat_succ i
      have b1 : mm_inb (Int32.ofNat i) 16 = true := inb_ofNat (by decide) (by omega)
      have b2 : mm_bit (gI s 29 i) = true := bit_of (hb i)
      refine ⟨sI (sI (sI w 32 i (if x = 0 then gI s 30 i else 0)) 33 i (g i)) 34 i (gI s 29 i), ?_, ?_, fp_IA (fp_IA (fp_IA hf (by decide)) (by decide)) (by decide), fun j => ?_, fun j => ?_, fun j => ?_⟩
      · simp only [lp_Net_keep_7, mq_let_e, e0, e1, e2, e3, if_false, w30, gI_sI, Nat.reduceEqDiff, false_and, w31, w29]
      · intro q
        simp only [okl_Net_keep_7, mq_letP_e, e0, e1, e2, e3, if_false, w30, gI_sI, Nat.reduceEqDiff, false_and, w31, w29, b1, b2, true_and, and_true, ite_self, Bool.and_true, Bool.true_and]
        exact q
      · simp only [gI_sI, Nat.reduceEqDiff, false_and, true_and, if_false]
        by_cases e : j = i
        · rw [if_pos e, if_pos (show j < i + 1 by omega), e]
        · rw [if_neg e, h32 j]
          by_cases l : j < i
          · rw [if_pos l, if_pos (show j < i + 1 by omega)]
          · rw [if_neg l, if_neg (show ¬ j < i + 1 by omega)]
      · simp only [gI_sI, Nat.reduceEqDiff, false_and, true_and, if_false]
        by_cases e : j = i
        · rw [if_pos e, if_pos (show j < i + 1 by omega), e]
        · rw [if_neg e, h33 j]
          by_cases l : j < i
          · rw [if_pos l, if_pos (show j < i + 1 by omega)]
          · rw [if_neg l, if_neg (show ¬ j < i + 1 by omega)]
      · simp only [gI_sI, Nat.reduceEqDiff, false_and, true_and, if_false]
        by_cases e : j = i
        · rw [if_pos e, if_pos (show j < i + 1 by omega), e]
        · rw [if_neg e, h34 j]
          by_cases l : j < i
          · rw [if_pos l, if_pos (show j < i + 1 by omega)]
          · rw [if_neg l, if_neg (show ¬ j < i + 1 by omega)])
    (fun n w hp => by
      have e0 := fl_lit' (((fpF hp.1 (by decide : fpd [32, 33, 34] [] false (25, 10) = true)).1).trans hN)
      constructor
      · simp only [lp_Net_keep_7, e0, if_true]
      · simp only [okl_Net_keep_7, e0, if_true])
  obtain ⟨w, A1, A2, A3, A4, A5, A6⟩ := A
  have e : f_Net_keep x s = w := by
    unfold f_Net_keep
    simp only [mq_let_e, F1, A1]
  refine ⟨?_, fr, ?_⟩
  · unfold ok_Net_keep
    simp only [mq_letP_e, F1]
    exact ⟨F2, A2, trivial⟩
  · rw [e]
    refine ⟨A4, fun j => ?_, A6⟩
    rw [A5 j]
    by_cases l : j < N
    · rw [if_pos l, if_pos l, F3 j l]
    · rw [if_neg l, if_neg l]
/-- whether anything at a node wants -/
def aw_at (node kind want : Nat → Int32) (v : Int32) : Nat → Bool
  | 0 => false
  | t + 1 => aw_at node kind want v t || (decide (node t = v) && (!decide (kind t = 3) && !decide (want t ≤ 0)))
theorem aw_mono {node kind want : Nat → Int32} {v : Int32} {i : Nat} (h : aw_at node kind want v i = true) : ∀ d, aw_at node kind want v (i + d) = true
  | 0 => h
  | d + 1 => by
    show (aw_at node kind want v (i + d) || _) = true
    rw [aw_mono h d]
    rfl
theorem G_any {s : mS} {T : Nat} (hT : gI s 12 12 = Int32.ofNat T) (hT2 : T ≤ 40) (v : Int32) : f_Things_anyWantsAt v s = (if aw_at (gI s 13) (gI s 14) (gI s 23) v T = true then 1 else 0) ∧ ok_Things_anyWantsAt v s := by
  have A : ∀ d i n, i + d = T → d < n → aw_at (gI s 13) (gI s 14) (gI s 23) v i = false → (lp_Things_anyWantsAt_2 v s n (Int32.ofNat i)).1 = (if aw_at (gI s 13) (gI s 14) (gI s 23) v T = true then some 1 else none) ∧ okl_Things_anyWantsAt_2 v s n (Int32.ofNat i) := by
    intro d
    induction d with
    | zero =>
      intro i n h1 h2 h3
      obtain ⟨n', rfl⟩ : ∃ n', n = n' + 1 := ⟨n - 1, by omega⟩
      have : i = T := by omega
      subst this
      have e0 := fl_lit' hT
      rw [h3]
      constructor
      · simp only [lp_Things_anyWantsAt_2, e0, if_true]
        rfl
      · simp only [okl_Things_anyWantsAt_2, e0, if_true]
    | succ d ih =>
      intro i n h1 h2 h3
      obtain ⟨n', rfl⟩ : ∃ n', n = n' + 1 := ⟨n - 1, by omega⟩
      have e0 := fl_lit hT (by omega) (by omega) (show i < T by omega)
      have e1 : ¬ (40 : Int32) ≤ Int32.ofNat i := fl_lit (a := 40) rfl (by omega) (by omega) (by omega)
      have e2 : ix (Int32.ofNat i) = i := ix_ofNat (by omega)
      have e3 : Int32.ofNat i + 1 = Int32.ofNat (i + 1) := ofNat_succ i
      have b1 : mm_inb (Int32.ofNat i) 40 = true := inb_ofNat (by decide) (by omega)
      have s1 : aw_at (gI s 13) (gI s 14) (gI s 23) v (i + 1) = (decide (gI s 13 i = v) && (!decide (gI s 14 i = 3) && !decide (gI s 23 i ≤ 0))) := by
        rw [aw_at, h3, Bool.false_or]
      by_cases c1 : gI s 13 i = v
      · by_cases c2 : gI s 14 i = 3
        · have r := ih (i + 1) n' (by omega) (by omega) (by rw [s1]; simp [c2])
          constructor
          · simp only [lp_Things_anyWantsAt_2, e0, e1, e2, e3, if_false, c1, c2, if_true]
            exact r.1
          · simp only [okl_Things_anyWantsAt_2, e0, e1, e2, e3, if_false, c1, c2, if_true, b1, true_and]
            exact r.2
        · by_cases c3 : gI s 23 i ≤ 0
          · have r := ih (i + 1) n' (by omega) (by omega) (by rw [s1]; simp [c3])
            constructor
            · simp only [lp_Things_anyWantsAt_2, e0, e1, e2, e3, if_false, c1, c2, c3, if_true]
              exact r.1
            · simp only [okl_Things_anyWantsAt_2, e0, e1, e2, e3, if_false, c1, c2, c3, if_true, b1, true_and]
              exact r.2
          · have t1 : aw_at (gI s 13) (gI s 14) (gI s 23) v (i + 1) = true := by rw [s1]; simp [c1, c2, c3]
            have t2 : aw_at (gI s 13) (gI s 14) (gI s 23) v T = true := by
              have := aw_mono t1 d
              rwa [show i + 1 + d = T by omega] at this
            rw [t2]
            constructor
            · simp only [lp_Things_anyWantsAt_2, e0, e1, e2, e3, if_false, c1, c2, c3, if_true]
            · simp only [okl_Things_anyWantsAt_2, e0, e1, e2, e3, if_false, c1, c2, c3, if_true, b1, true_and]
      · have r := ih (i + 1) n' (by omega) (by omega) (by rw [s1]; simp [c1])
        constructor
        · simp only [lp_Things_anyWantsAt_2, e0, e1, e2, e3, if_false, c1]
          exact r.1
        · simp only [okl_Things_anyWantsAt_2, e0, e1, e2, e3, if_false, c1, b1, true_and]
          exact r.2
  have B := A T 0 mm_N (by omega) (by rw [mm_Ns]; omega) rfl
  constructor
  · unfold f_Things_anyWantsAt
    have B1 : (lp_Things_anyWantsAt_2 v s mm_N 0).1 = _ := B.1
    simp only [mq_let_e, B1]
    split <;> rfl
  · unfold ok_Things_anyWantsAt
    refine ⟨B.2, ?_⟩
    rw [mq_letP_e]
    generalize (lp_Things_anyWantsAt_2 v s mm_N 0).1 = o
    cases o <;> trivial
/-- a fail at a node -/
def fa_at (N T : Nat) (node kind want press : Nat → Int32) (due : Int32) (j : Nat) : Int32 := if j = 0 then 0 else if due ≤ press j then 0 else if aw_at node kind want (Int32.ofNat j) T = true then 1 else 0
theorem fa_at_v {N T : Nat} {node kind want press : Nat → Int32} {due : Int32} {j : Nat} (h : 1 ≤ j) : fa_at N T node kind want press due j = if due ≤ press j then 0 else if aw_at node kind want (Int32.ofNat j) T = true then 1 else 0 := if_neg (by omega)
theorem G_fails {s : mS} {N T : Nat} (hN : gI s 25 10 = Int32.ofNat N) (hN1 : 1 ≤ N) (hN2 : N ≤ 16) (hT : gI s 12 12 = Int32.ofNat T) (hT2 : T ≤ 40) : lp_G_countFails_31 mm_N 1 s = (Int32.ofNat N, sI s 0 12 (gI s 0 12 + smI (fa_at N T (gI s 13) (gI s 14) (gI s 23) (gI s 32) (gI s 36 8)) N)) ∧ okl_G_countFails_31 mm_N 1 s := by
  have hF : ∀ i, 1 ≤ i → fa_at N T (gI s 13) (gI s 14) (gI s 23) (gI s 32) (gI s 36 8) i = if gI s 36 8 ≤ gI s 32 i then 0 else if aw_at (gI s 13) (gI s 14) (gI s 23) (Int32.ofNat i) T = true then 1 else 0 := fun i h => fa_at_v h
  have h0 : smI (fa_at N T (gI s 13) (gI s 14) (gI s 23) (gI s 32) (gI s 36 8)) 1 = 0 := rfl
  generalize fa_at N T (gI s 13) (gI s 14) (gI s 23) (gI s 32) (gI s 36 8) = F at hF h0
  have A := lp_upN (L := lp_G_countFails_31) (OK := okl_G_countFails_31) (fun i w => w = sI s 0 12 (gI s 0 12 + smI F i) ∧ 1 ≤ i) N (by omega)
    (fun n i w hi hp => by
      obtain ⟨rfl, h1⟩ := hp
      have e0 := fl_lit hN (by omega) (by omega) hi
      have e9 : ¬ (16 : Int32) ≤ Int32.ofNat i := fl_lit (a := 16) rfl (by omega) (by omega) (by omega)
      have e2 : ix (Int32.ofNat i) = i := ix_ofNat (by omega)
      have e3 : Int32.ofNat i + 1 = Int32.ofNat (i + 1) := ofNat_succ i
      have b1 : mm_inb (Int32.ofNat i) 16 = true := inb_ofNat (by decide) (by omega)
      have an := G_any (s := sI s 0 12 (gI s 0 12 + smI F i)) (T := T) hT hT2 (Int32.ofNat i)
      simp only [fI_sI, Nat.reduceEqDiff, if_false] at an
      have st : smI F (i + 1) = smI F i + F i := rfl
      have fv := hF i h1
      have n1 : ¬ (1 : Int32) = 0 := by decide
      by_cases c1 : gI s 36 8 ≤ gI s 32 i
      · rw [if_pos c1] at fv
        rw [fv, Int32.add_zero] at st
        refine ⟨sI s 0 12 (gI s 0 12 + smI F i), ?_, ?_, by rw [st], by omega⟩
        · simp only [lp_G_countFails_31, mq_let_e, e0, e9, if_false, e2, e3, gI_sI, Nat.reduceEqDiff, false_and, c1, if_true]
        · intro q
          simp only [okl_G_countFails_31, mq_letP_e, e0, e9, if_false, e2, e3, gI_sI, Nat.reduceEqDiff, false_and, c1, if_true, b1, true_and]
          exact q
      · rw [if_neg c1] at fv
        by_cases c2 : aw_at (gI s 13) (gI s 14) (gI s 23) (Int32.ofNat i) T = true
        · rw [if_pos c2] at fv an
          rw [fv] at st
          refine ⟨sI s 0 12 (gI s 0 12 + smI F i + 1), ?_, ?_, by rw [st, Int32.add_assoc], by omega⟩
          · simp only [lp_G_countFails_31, mq_let_e, e0, e9, if_false, e2, e3, gI_sI, Nat.reduceEqDiff, false_and, c1, an.1, n1, and_self, if_true, sI_sI]
          · intro q
            simp only [okl_G_countFails_31, mq_letP_e, e0, e9, if_false, e2, e3, gI_sI, Nat.reduceEqDiff, false_and, c1, an.1, an.2, n1, and_self, if_true, sI_sI, b1, true_and]
            exact q
        · rw [if_neg c2] at fv an
          rw [fv, Int32.add_zero] at st
          refine ⟨sI s 0 12 (gI s 0 12 + smI F i), ?_, ?_, by rw [st], by omega⟩
          · simp only [lp_G_countFails_31, mq_let_e, e0, e9, if_false, e2, e3, gI_sI, Nat.reduceEqDiff, false_and, c1, an.1, if_true]
          · intro q
            simp only [okl_G_countFails_31, mq_letP_e, e0, e9, if_false, e2, e3, gI_sI, Nat.reduceEqDiff, false_and, c1, an.1, an.2, if_true, b1, true_and]
            exact q)
    (fun n w hp => by
      obtain ⟨rfl, h1⟩ := hp
      have e0 := fl_lit' hN
      constructor
      · simp only [lp_G_countFails_31, gI_sI, Nat.reduceEqDiff, false_and, if_false, e0, if_true]
      · simp only [okl_G_countFails_31, gI_sI, Nat.reduceEqDiff, false_and, if_false, e0, if_true])
    1 s hN1 ⟨by rw [h0, Int32.add_zero, sI_id], by omega⟩
  obtain ⟨w, A1, A2, A3, _⟩ := A
  subst A3
  exact ⟨A1, A2⟩
