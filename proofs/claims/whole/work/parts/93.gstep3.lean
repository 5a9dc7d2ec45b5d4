/-! A STEP, the class: all of it. -/
theorem fp_AA {A : List Nat} {F : List (Nat × Nat)} {a : Bool} {s t : mS} {c : Nat} {f : Nat → Int32} (h : fp A F a s t) (hc : c ∈ A) : fp A F a s (sA t c f) := by
  refine ⟨fun c' h1 h2 j' h3 => ⟨?_, (h.1 c' h1 h2 j' h3).2⟩, h.2⟩
  show (if c' = c then f j' else t.1 c' j') = _
  rw [if_neg (fun (e : c' = c) => h1 (e ▸ hc))]
  exact (h.1 c' h1 h2 j' h3).1
theorem wantOf_c {s w : mS} (h : gI w 12 12 = gI s 12 12 ∧ gI w 17 = gI s 17 ∧ gI w 14 = gI s 14 ∧ gI w 15 = gI s 15 ∧ gI w 16 = gI s 16 ∧ gI w 19 = gI s 19 ∧ gI w 1 1 = gI s 1 1 ∧ gI w 1 2 = gI s 1 2 ∧ gI w 2 = gI s 2) (v a : Int32) : f_Things_wantOf v a w = f_Things_wantOf v a s ∧ (ok_Things_wantOf v a s → ok_Things_wantOf v a w) := by
  obtain ⟨h1, h2, h3, h4, h5, h6, h7, h8, h9⟩ := h
  have e1 : f_Things_has v w = f_Things_has v s := by
    unfold f_Things_has
    rw [h1]
  have e2 : f_Sky_fogIn a w = f_Sky_fogIn a s := by
    unfold f_Sky_fogIn
    simp only [mq_let_e, f_Sky_dayOf, h9]
  have o2 : ok_Sky_fogIn a s → ok_Sky_fogIn a w := fun h => h
  have e3 : ∀ b, f_Sky_houseWant a b w = f_Sky_houseWant a b s := fun b => by
    unfold f_Sky_houseWant f_Sky_hourOf f_Sky_hourlyWant
    simp only [mq_let_e, e2, f_Sky_dayOf]
  have e4 : ∀ b, f_Sky_lampBurns a b w = f_Sky_lampBurns a b s := fun b => by
    unfold f_Sky_lampBurns
    simp only [mq_let_e, e2, f_Sky_dayOf, h7, h8]
  have o3 : ∀ b, ok_Sky_houseWant a b s → ok_Sky_houseWant a b w := fun b h => h
  have o4 : ∀ b, ok_Sky_lampBurns a b s → ok_Sky_lampBurns a b w := fun b => by
    unfold ok_Sky_lampBurns
    simp only [mq_letP_e, f_Sky_dayOf, h7, h8]
    exact fun h => h
  constructor
  · unfold f_Things_wantOf
    simp only [mq_let_e, e1, e3, e4, h2, h3, h4, h5, h6]
  · intro q
    unfold ok_Things_wantOf at q ⊢
    simp only [mq_letP_e, e1, e3, e4, h2, h3, h4, h5, h6] at q ⊢
    refine ⟨trivial, ?_⟩
    have q := q.2
    split
    · trivial
    · next c =>
      rw [if_neg c] at q
      refine ⟨q.1, ?_⟩
      have q := q.2
      split
      · next c2 =>
        rw [if_pos c2] at q
        refine ⟨q.1, ?_⟩
        have q := q.2
        split
        · next c3 =>
          rw [if_pos c3] at q
          exact ⟨q.1, o3 _ q.2.1, trivial⟩
        · next c3 =>
          rw [if_neg c3] at q
          split
          · next c4 =>
            rw [if_pos c4] at q
            exact ⟨q.1, o4 _ q.2.1, q.2.2⟩
          · next c4 =>
            rw [if_neg c4] at q
            split
            · next c5 =>
              rw [if_pos c5] at q
              exact ⟨q.1, o3 _ q.2.1, q.2.2⟩
            · next c5 =>
              rw [if_neg c5] at q
              exact q
      · trivial
theorem gasLater_c {s w : mS} (h8 : gI w 8 = gI s 8) (h9 : gI w 9 = gI s 9) (l : Int32) : f_Works_gasLater l w = f_Works_gasLater l s ∧ (ok_Works_gasLater l s → ok_Works_gasLater l w) := by
  have L : ∀ n a v, lp_Works_gasLater_4 l w n a v = lp_Works_gasLater_4 l s n a v ∧ (okl_Works_gasLater_4 l s n a v → okl_Works_gasLater_4 l w n a v) := by
    intro n
    induction n with
    | zero => exact fun a v => ⟨rfl, fun h => h⟩
    | succ n ih =>
      intro a v
      constructor
      · simp only [lp_Works_gasLater_4, h8, h9, ih, mq_let_e, f_Works_gasOf]
      · intro q
        simp only [okl_Works_gasLater_4, h8, h9, mq_letP_e, f_Works_gasOf, ok_Works_gasOf] at q ⊢
        split
        · trivial
        · next c1 =>
          rw [if_neg c1] at q
          refine ⟨q.1, ?_⟩
          have q := q.2
          split
          · next c2 =>
            rw [if_pos c2] at q
            exact (ih _ _).2 q
          · next c2 =>
            rw [if_neg c2] at q
            refine ⟨q.1, q.2.1, q.2.2.1, (ih _ _).2 q.2.2.2⟩
  constructor
  · unfold f_Works_gasLater
    rw [(L _ _ _).1]
  · intro q
    exact ⟨(L _ _ _).2 q.1, trivial⟩
theorem G_ask2 {s : mS} {T : Nat} {W : Nat → Int32} (hT : gI s 12 12 = Int32.ofNat T) (hT2 : T ≤ 40) {a : Int32} (hW : ∀ t, t < T → f_Things_wantOf (Int32.ofNat t) a s = W t ∧ ok_Things_wantOf (Int32.ofNat t) a s) : ∃ g, f_Things_askAll a s = sA s 23 g ∧ ok_Things_askAll a s ∧ (∀ t, t < T → g t = W t) ∧ ∀ t, T ≤ t → t < 40 → g t = 0 := by
  have hw : ∀ i, i < 40 → f_Things_wantOf (Int32.ofNat i) a s = (if i < T then W i else 0) ∧ ok_Things_wantOf (Int32.ofNat i) a s := fun i hi => by
    by_cases h : i < T
    · rw [if_pos h]
      exact hW i h
    · rw [if_neg h]
      have e := has_hi hT hT2 (Nat.le_of_not_lt h) (by omega)
      constructor
      · unfold f_Things_wantOf
        simp only [mq_let_e, e, if_true]
      · unfold ok_Things_wantOf
        simp only [mq_letP_e, e, if_true, and_self]
  have A := lp_map (L := lp_Things_askAll_2 a) (OK := okl_Things_askAll_2 a) 23 40 (by omega) s (fun t => if t < T then W t else 0)
    (fun n i g hi => by
      have e1 : ¬ (40 : Int32) ≤ Int32.ofNat i := fl_lit (a := 40) rfl (by omega) (by omega) hi
      have e2 : ix (Int32.ofNat i) = i := ix_ofNat (by omega)
      have e3 : Int32.ofNat i + 1 = Int32.ofNat (i + 1) := ofNat_succ i
      have e4 : mm_inb (Int32.ofNat i) 40 = true := inb_ofNat (by decide) (by omega)
      have e5 := hw i hi
      constructor
      · simp only [lp_Things_askAll_2, mq_let_e, e1, if_false, e2, e3, (wantOf_23 _ _ _ _).1, e5.1, sI_sA]
      · intro h
        simp only [okl_Things_askAll_2, mq_letP_e, e1, if_false, e2, e3, e4, (wantOf_23 _ _ _ _).1, (wantOf_23 _ _ _ _).2, e5.1, e5.2, sI_sA, true_and]
        exact h)
    (fun n g => by
      have e1 : (40 : Int32) ≤ Int32.ofNat 40 := by decide
      constructor
      · simp only [lp_Things_askAll_2, e1, if_true]
      · simp only [okl_Things_askAll_2, e1, if_true])
  refine ⟨fillA 40 (fun t => if t < T then W t else 0) (gI s 23), ?_, ?_, fun t ht => ?_, fun t h1 h2 => ?_⟩
  · unfold f_Things_askAll
    simp only [mq_let_e, A.1]
  · unfold ok_Things_askAll
    exact ⟨A.2, trivial⟩
  · rw [fillA_lt (by omega)]
    exact if_pos ht
  · rw [fillA_lt h2]
    exact if_neg (by omega)
theorem aw_at_c {node kind want want' : Nat → Int32} {v : Int32} : ∀ T, (∀ t, t < T → want t = want' t) → aw_at node kind want v T = aw_at node kind want' v T
  | 0, _ => rfl
  | T + 1, h => by
    rw [aw_at, aw_at, aw_at_c T (fun t ht => h t (by omega)), h T (by omega)]
theorem fa_at_c {N T : Nat} {node kind want want' press press' : Nat → Int32} {due : Int32} (hw : ∀ t, t < T → want t = want' t) (hp : ∀ j, j < N → press j = press' j) {j : Nat} (hj : j < N) : fa_at N T node kind want press due j = fa_at N T node kind want' press' due j := by
  unfold fa_at
  rw [aw_at_c T hw, hp j hj]
/-- what the class's step leaves -/
def gs_post (s s' : mS) (N T : Nat) (gas : Int32) (R : Bool × (Nat → Int32) × (Nat → Int32)) (W : Nat → Int32) (sh due app : Int32) : Prop :=
  (∀ b, b < 6 → gI s' 8 b = if gI s 8 b ≤ 0 then gI s 8 b else gI s 8 b - 1) ∧
  gI s' 3 10 = 0 ∧ gI s' 3 12 = fl_lev (gI s 3 12) (gI s 3 11) gas - (if sh = 0 then smI R.2.1 T else 0) ∧ gL s' 3 13 = gL s 3 13 + gas.toInt64 ∧ gL s' 3 14 = fl_off (gL s 3 14) (gI s 3 12) (gI s 3 11) gas ∧
  gI s' 3 15 = gI s 3 15 + smI (fun b => if gI s 8 b = 1 then gI s 10 b else 0) 6 ∧ gI s' 3 16 = gI s 3 16 + smI (fun b => if gI s 8 b = 1 then gI s 11 b else 0) 6 ∧
  gI s' 0 9 = gI s 0 9 + 1 ∧ gI s' 0 10 = (if sh = 0 then gI s 0 10 else gI s 0 10 + 1) ∧ gI s' 0 11 = (if R.1 = true then gI s 0 11 else gI s 0 11 + 1) ∧ gI s' 0 14 = sh ∧ gL s' 0 13 = gL s 0 13 + (if sh = 0 then smI R.2.1 T else 0).toInt64 ∧
  (∀ t, gI s' 21 t = if t < T then (if sh = 0 then R.2.1 t else 0) else gI s 21 t) ∧
  (∀ t, gI s' 22 t = if t < T then gI s 22 t + (if sh = 0 then R.2.1 t else 0) else gI s 22 t) ∧
  (∀ t, gI s' 20 t = if t < T ∧ gI s 14 t = 0 ∧ gI s 18 t = 0 then gI s 20 t + (if sh = 0 then R.2.1 t else 0) else gI s 20 t) ∧
  (∀ t, gI s' 19 t = if t < T ∧ gI s 14 t = 2 then gI s 19 t - (if sh = 0 then R.2.1 t else 0) else gI s 19 t) ∧
  (∀ j, gI s' 32 j = if j < N then (if sh = 0 then R.2.2 j else 0) else gI s 32 j) ∧
  (∀ j, gI s' 33 j = if j < N then nt_flow N T (gI s 26) (gI s 13) (fun t => if sh = 0 then R.2.1 t else 0) j else gI s 33 j) ∧
  (∀ j, gI s' 34 j = if j < N then gI s 29 j else gI s 34 j) ∧
  gI s' 0 12 = if app = -1 then gI s 0 12 else gI s 0 12 + smI (fa_at N T (gI s 13) (gI s 14) W (fun j => if sh = 0 then R.2.2 j else 0) due) N
theorem G_step {s : mS} {N T : Nat} {W : Nat → Int32} {gas : Int32} {A : aC} {R : Bool × (Nat → Int32) × (Nat → Int32)} {sh : Int32}
    (hNG : NG s N T) (hg : f_Works_gasLater 0 s = gas) (ho : ok_Works_gasLater 0 s)
    (hW : ∀ t, t < T → f_Things_wantOf (Int32.ofNat t) (gI s 0 9) s = W t ∧ ok_Things_wantOf (Int32.ofNat t) (gI s 0 9) s)
    (hb : ∀ j, gI s 29 j = 0 ∨ gI s 29 j = 1) (hWA : aW A) (hA : aG s A) (hsky : J_sky s) (h0 : 0 ≤ gI s 0 9) (ha : gI s 0 9 ≤ 10000)
    (hR : R = nt_settle N T (gI s 26) (gI s 29) (gI s 28) (gI s 27) (gI s 13) (gI s 14) W (gI s 25 11))
    (hsh : sh = if smI R.2.1 T ≤ fl_lev (gI s 3 12) (gI s 3 11) gas then 0 else 1) :
    ok_G_goOneStep s ∧ aG (f_G_goOneStep s) A ∧ fp aw_G_goOneStep fw_G_goOneStep true s (f_G_goOneStep s) ∧ gs_post s (f_G_goOneStep s) N T gas R W sh (due_w A (hr_of (gI s 0 9)) (gI s 0 9 / 96) (f_M_fogIn (gI s 0 9) s) 0 0).2.2.1 (due_w A (hr_of (gI s 0 9)) (gI s 0 9 / 96) (f_M_fogIn (gI s 0 9) s) 0 0).2.1 := by
  have hP : ∀ j, mq_A (gP s j) := hA.1
  have fr := fr_G_goOneStep s hP
  have hT : gI s 12 12 = Int32.ofNat T := hNG.2.2.2.1
  have hT2 : T ≤ 40 := hNG.2.2.2.2.1
  have hN : gI s 25 10 = Int32.ofNat N := hNG.1
  have hN1 : 1 ≤ N := hNG.2.1
  have hN2 : N ≤ 16 := hNG.2.2.1
  have hnd : nt_ndOK N T (gI s 13) := hNG.2.2.2.2.2.1
  have hpa : nt_paOK N (gI s 26) := hNG.2.2.2.2.2.2
  obtain ⟨b1, b2, b3, b4, b5, b6, b7, b8, b9⟩ := G_bake hg ho
  generalize hw1 : f_Works_bake s = w1 at b1 b2 b3 b4 b5 b6 b7 b8 b9
  have w1_9 : gI w1 0 9 = gI s 0 9 := (fpF b2 (by decide)).1
  obtain ⟨g, a1, a2, a3, a4⟩ := G_ask2 (s := w1) (T := T) (W := W) (a := gI s 0 9) (by rw [(fpF b2 (by decide)).1, hT]) hT2 (fun t ht => by
    have c := wantOf_c (s := s) (w := w1) ⟨(fpF b2 (by decide)).1, (fpA b2 (by decide)).1, (fpA b2 (by decide)).1, (fpA b2 (by decide)).1, (fpA b2 (by decide)).1, (fpA b2 (by decide)).1, (fpF b2 (by decide)).1, (fpF b2 (by decide)).1, (fpA b2 (by decide)).1⟩ (Int32.ofNat t) (gI s 0 9)
    exact ⟨by rw [c.1]; exact (hW t ht).1, c.2 (hW t ht).2⟩)
  have w1g : ∀ c, c ∈ [13, 14, 26, 27, 28, 29] → gI w1 c = gI s c := fun c hc => by
    simp only [List.mem_cons, List.not_mem_nil, or_false] at hc
    rcases hc with rfl | rfl | rfl | rfl | rfl | rfl <;> exact (fpA b2 (by decide)).1
  have w1_25 : ∀ j, gI w1 25 j = gI s 25 j := fun j => by rw [(fpA b2 (by decide)).1]
  have w1_12 : gI w1 12 = gI s 12 := (fpA b2 (by decide)).1
  have hNG1 : NG w1 N T := ⟨by rw [w1_25, hN], hN1, hN2, by rw [w1_12, hT], hT2, by rw [w1g 13 (by decide)]; exact hnd, by rw [w1g 26 (by decide)]; exact hpa⟩
  have hNG2 : NG (sA w1 23 g) N T := NG_sA (by decide) hNG1
  obtain ⟨a, b, c, q1, q2, q3, q4, q5⟩ := G_settle_27 hNG2
  have eR : nt_settle N T (gI (sA w1 23 g) 26) (gI (sA w1 23 g) 29) (gI (sA w1 23 g) 28) (gI (sA w1 23 g) 27) (gI (sA w1 23 g) 13) (gI (sA w1 23 g) 14) (gI (sA w1 23 g) 23) (gI (sA w1 23 g) 25 11) = nt_settle N T (gI s 26) (gI s 29) (gI s 28) (gI s 27) (gI s 13) (gI s 14) g (gI s 25 11) := by
    simp only [fI_sA, gI_sA, Nat.reduceEqDiff, if_false, if_true, w1g 26 (by decide), w1g 29 (by decide), w1g 28 (by decide), w1g 27 (by decide), w1g 13 (by decide), w1g 14 (by decide), w1_25]
  rw [eR] at q1 q3 q5
  have eS := nt_swp_c (wat := gI s 29) (hgt := gI s 28) (rs := gI s 27) (kind := gI s 14) (gate := gI s 25 11) hN1 hnd hpa (want := g) (want' := W) a3 12 0 g W (fun _ => 0) (fun _ => 0) a3 (fun _ _ => rfl)
  have eS1 : (nt_settle N T (gI s 26) (gI s 29) (gI s 28) (gI s 27) (gI s 13) (gI s 14) g (gI s 25 11)).1 = R.1 := by rw [hR]; exact eS.1
  have eS2 : ∀ t, t < T → a t = R.2.1 t := fun t ht => by rw [q3 t ht, hR]; exact eS.2.1 t ht
  have eS3 : ∀ j, j < N → b j = R.2.2 j := fun j hj => by rw [q5 j hj, hR]; exact eS.2.2 j hj
  rw [eS1] at q1
  have a0 : ∀ t, T ≤ t → t < 40 → a t = 0 := fun t h1 h2 => by
    rw [q4 t h1 h2, gI_sA, if_pos rfl]
    exact a4 t h1 h2
  -- the settling's bit
  have s4 : ∃ w4, (if (if R.1 = true then (1 : Int32) else 0) = 0 then sI (ng3 (sA w1 23 g) a b c) 0 11 (gI (ng3 (sA w1 23 g) a b c) 0 11 + 1) else ng3 (sA w1 23 g) a b c) = w4 ∧ fp [23, 24, 30, 31] [(0, 11)] false w1 w4 ∧ gI w4 23 = g ∧ gI w4 24 = a ∧ gI w4 30 = b ∧ gI w4 0 11 = if R.1 = true then gI s 0 11 else gI s 0 11 + 1 := by
    have f3 : fp [23, 24, 30, 31] [(0, 11)] false w1 (ng3 (sA w1 23 g) a b c) := fp_AA (fp_AA (fp_AA (fp_AA fp_r (by decide)) (by decide)) (by decide)) (by decide)
    have w11 : gI w1 0 11 = gI s 0 11 := (fpF b2 (by decide)).1
    have n11 : gI (ng3 (sA w1 23 g) a b c) 0 11 = gI s 0 11 := by
      rw [ng3_g]
      simp only [Nat.reduceEqDiff, if_false, gI_sA]
      exact w11
    cases hb : R.1
    · refine ⟨sI (ng3 (sA w1 23 g) a b c) 0 11 (gI s 0 11 + 1), ?_, fp_IF f3 (by decide), ?_, ?_, ?_, ?_⟩
      · rw [n11]
        rfl
      · rw [fI_sI, if_neg (by decide), ng3_g]
        simp only [Nat.reduceEqDiff, if_false, fI_sA, if_true]
      · rw [fI_sI, if_neg (by decide), ng3_g]
        simp only [Nat.reduceEqDiff, if_false, if_true]
      · rw [fI_sI, if_neg (by decide), ng3_g]
        simp only [Nat.reduceEqDiff, if_false, if_true]
      · rw [gI_sI, if_pos ⟨rfl, rfl⟩]
        rfl
    · refine ⟨ng3 (sA w1 23 g) a b c, rfl, f3, ?_, ?_, ?_, n11⟩
      · rw [ng3_g]
        simp only [Nat.reduceEqDiff, if_false, fI_sA, if_true]
      · rw [ng3_g]
        simp only [Nat.reduceEqDiff, if_false, if_true]
      · rw [ng3_g]
        simp only [Nat.reduceEqDiff, if_false, if_true]
  obtain ⟨w4, c1, c2, c3, c4, c5, c6⟩ := s4
  have w4T : gI w4 12 12 = Int32.ofNat T := by rw [(fpF c2 (by decide)).1, w1_12, hT]
  have U := G_used (s := w4) (T := T) hT2 (by rw [c4]; exact a0)
  rw [c4, smI_c eS2] at U
  have w4l : gI w4 3 12 = fl_lev (gI s 3 12) (gI s 3 11) gas := by rw [(fpF c2 (by decide)).1, b3]
  -- short of gas
  have s5 : ∃ w5, (if sh = 0 then (smI R.2.1 T, sI w4 0 14 sh) else ((0 : Int32), f_Things_takeNothing (sI (sI w4 0 14 sh) 0 10 ((gI w4 0 10) + 1)))) = (if sh = 0 then smI R.2.1 T else 0, w5) ∧ (if sh = 0 then True else ok_Things_takeNothing (sI (sI w4 0 14 sh) 0 10 ((gI w4 0 10) + 1))) ∧ fp [24] [(0, 10), (0, 14)] false w4 w5 ∧ gI w5 0 14 = sh ∧ gI w5 0 10 = (if sh = 0 then gI w4 0 10 else gI w4 0 10 + 1) ∧ ∀ t, t < T → gI w5 24 t = if sh = 0 then R.2.1 t else 0 := by
    by_cases q : sh = 0
    · refine ⟨sI w4 0 14 sh, ?_, ?_, fp_IF fp_r (by decide), ?_, ?_, fun t ht => ?_⟩
      · rw [if_pos q, if_pos q]
      · rw [if_pos q]
        trivial
      · rw [gI_sI, if_pos ⟨rfl, rfl⟩]
      · rw [if_pos q, gI_sI, if_neg (by decide)]
      · rw [if_pos q, gI_sI, if_neg (fun e => absurd e.1 (by decide)), c4, eS2 t ht]
    · have tn := G_nothing (sI (sI w4 0 14 sh) 0 10 (gI w4 0 10 + 1))
      refine ⟨f_Things_takeNothing (sI (sI w4 0 14 sh) 0 10 (gI w4 0 10 + 1)), ?_, ?_, ?_, ?_, ?_, fun t ht => ?_⟩
      · rw [if_neg q, if_neg q]
      · rw [if_neg q]
        exact tn.2
      · rw [tn.1]
        exact fp_AA (fp_IF (fp_IF fp_r (by decide)) (by decide)) (by decide)
      · rw [tn.1, gI_sA, if_neg (by decide), gI_sI, if_neg (by decide), gI_sI, if_pos ⟨rfl, rfl⟩]
      · rw [if_neg q, tn.1, gI_sA, if_neg (by decide), gI_sI, if_pos ⟨rfl, rfl⟩]
      · rw [if_neg q, tn.1, gI_sA, if_pos rfl, fillA_lt (by omega)]
  obtain ⟨w5, d1, d2, d3, d4, d5, d6⟩ := s5
  have w4_10 : gI w4 0 10 = gI s 0 10 := by rw [(fpF c2 (by decide)).1, (fpF b2 (by decide)).1]
  generalize hU5 : (if sh = 0 then smI R.2.1 T else 0) = U5 at d1
  have w5l : gI w5 3 12 = fl_lev (gI s 3 12) (gI s 3 11) gas := by rw [(fpF d3 (by decide)).1, w4l]
  have w5g : gL w5 0 13 = gL s 0 13 := by rw [(fpF d3 (by decide)).2, (fpF c2 (by decide)).2, (fpF b2 (by decide)).2]
  -- what is kept
  have K := G_keeps (s := sL (sI w5 3 12 (gI w5 3 12 - U5)) 0 13 (gL w5 0 13 + Int32.toInt64 U5)) (T := T) (by
    show gI w5 12 12 = _
    rw [(fpF d3 (by decide)).1, w4T]) hT2
  obtain ⟨k1, k2, k3, k4, k5, k6⟩ := K
  have fx : fp [] [(3, 12), (0, 13)] false w5 (sL (sI w5 3 12 (gI w5 3 12 - U5)) 0 13 (gL w5 0 13 + Int32.toInt64 U5)) := fp_LF (fp_IF fp_r (by decide)) (by decide)
  have x12 : gI (sL (sI w5 3 12 (gI w5 3 12 - U5)) 0 13 (gL w5 0 13 + Int32.toInt64 U5)) 3 12 = fl_lev (gI s 3 12) (gI s 3 11) gas - U5 := by
    rw [gI_sL, gI_sI, if_pos ⟨rfl, rfl⟩, w5l]
  have x13 : gL (sL (sI w5 3 12 (gI w5 3 12 - U5)) 0 13 (gL w5 0 13 + Int32.toInt64 U5)) 0 13 = gL s 0 13 + Int32.toInt64 U5 := by
    rw [gL_sL, if_pos ⟨rfl, rfl⟩, w5g]
  generalize hwx : sL (sI w5 3 12 (gI w5 3 12 - U5)) 0 13 (gL w5 0 13 + Int32.toInt64 U5) = wx at k1 k2 k3 k4 k5 k6 fx x12 x13
  generalize hw6 : f_Things_keep wx = w6 at k2 k3 k4 k5 k6
  -- from s to wx
  have fs : fp [8, 23, 24, 30, 31] [(0, 10), (0, 11), (0, 13), (0, 14), (3, 10), (3, 12), (3, 13), (3, 14), (3, 15), (3, 16)] false s wx := fp_t (fp_t (fp_t (fp_m b2 (by decide) (by decide) (fun h => h)) (fp_m c2 (by decide) (by decide) (fun h => h))) (fp_m d3 (by decide) (by decide) (fun h => h))) (fp_m fx (by decide) (by decide) (fun h => h))
  have x24 : ∀ t, t < T → gI wx 24 t = if sh = 0 then R.2.1 t else 0 := fun t ht => by
    rw [(fpA fx (by decide)).1]
    exact d6 t ht
  have x30 : gI wx 30 = b := by rw [(fpA fx (by decide)).1, (fpA d3 (by decide)).1, c5]
  have x23 : gI wx 23 = g := by rw [(fpA fx (by decide)).1, (fpA d3 (by decide)).1, c3]
  have x14 : gI wx 0 14 = sh := by rw [(fpF fx (by decide)).1, d4]
  have s6 : fp [8, 19, 20, 21, 22, 23, 24, 30, 31] [(0, 10), (0, 11), (0, 13), (0, 14), (3, 10), (3, 12), (3, 13), (3, 14), (3, 15), (3, 16)] false s w6 := fp_t (fp_m fs (by decide) (by decide) (fun h => h)) (fp_m k2 (by decide) (by decide) (fun h => h))
  have hNG6 : NG w6 N T := ⟨by rw [(fpF s6 (by decide)).1, hN], hN1, hN2, by rw [(fpF s6 (by decide)).1, hT], hT2, by rw [(fpA s6 (by decide)).1]; exact hnd, by rw [(fpA s6 (by decide)).1]; exact hpa⟩
  have y14 : gI w6 0 14 = sh := by rw [(fpF k2 (by decide)).1, x14]
  have NK := G_netkeep hNG6 (fun j => by
    rw [(fpA s6 (by decide)).1]
    exact hb j) sh
  obtain ⟨n1, n2, n3, n4, n5⟩ := NK
  generalize hw7 : f_Net_keep sh w6 = w7 at n2 n3 n4 n5
  have s7 : fp [8, 19, 20, 21, 22, 23, 24, 30, 31, 32, 33, 34] [(0, 10), (0, 11), (0, 13), (0, 14), (3, 10), (3, 12), (3, 13), (3, 14), (3, 15), (3, 16)] false s w7 := fp_t (fp_m s6 (by decide) (by decide) (fun h => h)) (fp_m n2 (by decide) (by decide) (fun h => h))
  have hA7 : aG w7 A := aG_fp s7 (by decide) hA
  have hsky7 : J_sky w7 := jf_sky s7 (by decide) hsky
  have w7_9 : gI w7 0 9 = gI s 0 9 := (fpF s7 (by decide)).1
  have w7_fog : f_M_fogIn (gI s 0 9) w7 = f_M_fogIn (gI s 0 9) s := sky_fog ((fpA s7 (by decide)).1) _
  obtain ⟨j1, j2, j3, j4, j5⟩ := G_judge hWA hA7 hsky7 h0 ha 0 0
  rw [w7_fog] at j3 j4
  have j6 := fr_Laws_judge 0 (gI s 0 9) 0 w7 hA7.1
  generalize hw8 : f_Laws_judge 0 (gI s 0 9) 0 w7 = w8 at j2 j3 j4 j6
  have F := G_fails (s := w8) (N := N) (T := T) (by rw [(fpF j6 (by decide)).1, (fpF s7 (by decide)).1, hN]) hN1 hN2 (by rw [(fpF j6 (by decide)).1, (fpF s7 (by decide)).1, hT]) hT2
  have w8_12 : gI w8 0 12 = gI s 0 12 := by rw [(fpF j6 (by decide)).1, (fpF s7 (by decide)).1]
  have w8_13 : gI w8 13 = gI s 13 := by rw [(fpA j6 (by decide)).1, (fpA s7 (by decide)).1]
  have w8_14 : gI w8 14 = gI s 14 := by rw [(fpA j6 (by decide)).1, (fpA s7 (by decide)).1]
  have w8_23 : gI w8 23 = g := by rw [(fpA j6 (by decide)).1, (fpA n2 (by decide)).1, (fpA k2 (by decide)).1, x23]
  have w8_32 : gI w8 32 = gI w7 32 := (fpA j6 (by decide)).1
  rw [w8_12, w8_13, w8_14, w8_23, w8_32, j4] at F
  generalize due_w A (hr_of (gI s 0 9)) (gI s 0 9 / 96) (f_M_fogIn (gI s 0 9) s) 0 0 = D at F j3 j4 ⊢
  have eF : smI (fa_at N T (gI s 13) (gI s 14) g (gI w7 32) D.2.2.1) N = smI (fa_at N T (gI s 13) (gI s 14) W (fun j => if sh = 0 then R.2.2 j else 0) D.2.2.1) N := smI_c (fun j hj => fa_at_c a3 (fun j hj => by
    rw [n3 j, if_pos hj, (fpA k2 (by decide)).1, x30]
    by_cases q : sh = 0
    · rw [if_pos q, if_pos q, eS3 j hj]
    · rw [if_neg q, if_neg q]) hj)
  rw [eF] at F
  have CF : ∃ w9, f_G_countFails w7 = w9 ∧ ok_G_countFails w7 ∧ aG w9 A ∧ fp aw_G_countFails fw_G_countFails true w7 w9 ∧ gI w9 0 12 = if D.2.1 = -1 then gI s 0 12 else gI s 0 12 + smI (fa_at N T (gI s 13) (gI s 14) W (fun j => if sh = 0 then R.2.2 j else 0) D.2.2.1) N := by
    have fc := fr_G_countFails w7 hA7.1
    by_cases q : D.2.1 = -1
    · refine ⟨w8, ?_, ?_, j2, fp_m j6 (by decide) (by decide) (fun h => h), by rw [if_pos q, w8_12]⟩
      · unfold f_G_countFails
        simp only [mq_let_e, w7_9, hw8, j3, q, if_true]
      · unfold ok_G_countFails
        simp only [mq_letP_e, w7_9, hw8, j3, q, if_true, and_true]
        exact j1
    · refine ⟨sI w8 0 12 (gI s 0 12 + smI (fa_at N T (gI s 13) (gI s 14) W (fun j => if sh = 0 then R.2.2 j else 0) D.2.2.1) N), ?_, ?_, ?_, fp_IF (fp_m j6 (by decide) (by decide) (fun h => h)) (by decide), by rw [if_neg q, gI_sI, if_pos ⟨rfl, rfl⟩]⟩
      · unfold f_G_countFails
        simp only [mq_let_e, w7_9, hw8, j3, q, if_false, F.1]
      · unfold ok_G_countFails
        simp only [mq_letP_e, w7_9, hw8, j3, q, if_false, F.1, and_true]
        exact ⟨j1, F.2⟩
      · exact aG_fp (A0 := []) (F0 := [(0, 12)]) (fp_IF fp_r (by decide)) (by decide) j2
  obtain ⟨w9, m1, m2, m3, m4, m5⟩ := CF
  have E : f_G_goOneStep s = sI w9 0 9 (gI w9 0 9 + 1) := by
    unfold f_G_goOneStep
    simp only [mq_let_e, hw1, w1_9, a1, q1, c1, U.1, w4l, ← hsh, d1, hwx, hw6, y14, hw7, m1]
  have O : ok_G_goOneStep s := by
    unfold ok_G_goOneStep
    simp only [mq_letP_e, mq_let_e, hw1, w1_9, a1, q1, c1, U.1, w4l, ← hsh, d1, hwx, hw6, y14, hw7, m1, true_and, and_true]
    exact ⟨b1, a2, q2, U.2, bit_of (by rw [hsh]; split <;> simp), d2, k1, n1, m2⟩
  have s9 : fp [8, 19, 20, 21, 22, 23, 24, 30, 31, 32, 33, 34, 39] [(0, 10), (0, 11), (0, 12), (0, 13), (0, 14), (3, 10), (3, 12), (3, 13), (3, 14), (3, 15), (3, 16), (36, 3), (36, 8), (36, 9)] true s w9 := fp_t (fp_m s7 (by decide) (by decide) (fun h => by simp)) (fp_m m4 (by decide) (by decide) (fun h => h))
  have w9_9 : gI w9 0 9 = gI s 0 9 := (fpF s9 (by decide)).1
  refine ⟨O, ?_, fr, ?_⟩
  · rw [E]
    exact aG_fp (A0 := []) (F0 := [(0, 9)]) (fp_IF fp_r (by decide)) (by decide) m3
  have f79 := m4
  have f69 : fp [31, 32, 33, 34, 39] [(0, 12), (36, 3), (36, 8), (36, 9)] true w6 w9 := fp_t (fp_m n2 (by decide) (by decide) (fun h => by simp at h)) (fp_m m4 (by decide) (by decide) (fun h => h))
  have fx9 : fp [19, 20, 21, 22, 31, 32, 33, 34, 39] [(0, 12), (36, 3), (36, 8), (36, 9)] true wx w9 := fp_t (fp_m k2 (by decide) (by decide) (fun h => by simp at h)) (fp_m f69 (by decide) (by decide) (fun h => h))
  have f59 : fp [19, 20, 21, 22, 31, 32, 33, 34, 39] [(0, 12), (0, 13), (3, 12), (36, 3), (36, 8), (36, 9)] true w5 w9 := fp_t (fp_m fx (by decide) (by decide) (fun h => by simp at h)) (fp_m fx9 (by decide) (by decide) (fun h => h))
  have f49 : fp [19, 20, 21, 22, 24, 31, 32, 33, 34, 39] [(0, 10), (0, 12), (0, 13), (0, 14), (3, 12), (36, 3), (36, 8), (36, 9)] true w4 w9 := fp_t (fp_m d3 (by decide) (by decide) (fun h => by simp at h)) (fp_m f59 (by decide) (by decide) (fun h => h))
  have f19 : fp [19, 20, 21, 22, 23, 24, 30, 31, 32, 33, 34, 39] [(0, 10), (0, 11), (0, 12), (0, 13), (0, 14), (3, 12), (36, 3), (36, 8), (36, 9)] true w1 w9 := fp_t (fp_m c2 (by decide) (by decide) (fun h => by simp at h)) (fp_m f49 (by decide) (by decide) (fun h => h))
  have gE : ∀ c j, ¬ (c = 0 ∧ j = 9) → gI (sI w9 0 9 (gI w9 0 9 + 1)) c j = gI w9 c j := fun c j h => by rw [gI_sI, if_neg h]
  have lE : ∀ c j, gL (sI w9 0 9 (gI w9 0 9 + 1)) c j = gL w9 c j := fun c j => rfl
  have aE : ∀ c, ¬ c = 0 → ∀ j, gI (sI w9 0 9 (gI w9 0 9 + 1)) c j = gI w9 c j := fun c h j => gE c j (fun q => h q.1)
  rw [E]
  unfold gs_post
  refine ⟨fun b' hb' => ?_, ?_, ?_, ?_, ?_, ?_, ?_, ?_, ?_, ?_, ?_, ?_, fun t => ?_, fun t => ?_, fun t => ?_, fun t => ?_, fun j => ?_, fun j => ?_, fun j => ?_, ?_⟩
  · rw [aE 8 (by decide), (fpA f19 (by decide)).1, b7 b' hb']
  · rw [aE 3 (by decide), (fpF f19 (by decide)).1, b6]
  · rw [aE 3 (by decide), (fpF fx9 (by decide)).1, x12, hU5]
  · rw [lE, (fpF f19 (by decide)).2, b4]
  · rw [lE, (fpF f19 (by decide)).2, b5]
  · rw [aE 3 (by decide), (fpF f19 (by decide)).1, b8]
  · rw [aE 3 (by decide), (fpF f19 (by decide)).1, b9]
  · rw [gI_sI, if_pos ⟨rfl, rfl⟩, w9_9]
  · rw [gE 0 10 (by decide), (fpF f59 (by decide)).1, d5, w4_10]
  · rw [gE 0 11 (by decide), (fpF f49 (by decide)).1, c6]
  · rw [gE 0 14 (by decide), (fpF fx9 (by decide)).1, x14]
  · rw [lE, (fpF fx9 (by decide)).2, x13, hU5]
  · rw [aE 21 (by decide), (fpA f69 (by decide)).1, k3 t]
    by_cases l : t < T
    · rw [if_pos l, if_pos l, x24 t l]
    · rw [if_neg l, if_neg l, (fpA fs (by decide)).1]
  · rw [aE 22 (by decide), (fpA f69 (by decide)).1, k4 t]
    by_cases l : t < T
    · rw [if_pos l, if_pos l, x24 t l, (fpA fs (by decide)).1]
    · rw [if_neg l, if_neg l, (fpA fs (by decide)).1]
  · rw [aE 20 (by decide), (fpA f69 (by decide)).1, k5 t, (fpA (c := 14) fs (by decide)).1, (fpA (c := 18) fs (by decide)).1, (fpA (c := 20) fs (by decide)).1]
    by_cases l : t < T ∧ gI s 14 t = 0 ∧ gI s 18 t = 0
    · rw [if_pos l, if_pos l, x24 t l.1]
    · rw [if_neg l, if_neg l]
  · rw [aE 19 (by decide), (fpA f69 (by decide)).1, k6 t, (fpA (c := 14) fs (by decide)).1, (fpA (c := 19) fs (by decide)).1]
    by_cases l : t < T ∧ gI s 14 t = 2
    · rw [if_pos l, if_pos l, x24 t l.1]
    · rw [if_neg l, if_neg l]
  · rw [aE 32 (by decide), (fpA f79 (by decide)).1, n3 j, (fpA k2 (by decide)).1, x30, (fpA s6 (by decide)).1]
    by_cases l : j < N
    · rw [if_pos l, if_pos l, eS3 j l]
    · rw [if_neg l, if_neg l]
  · rw [aE 33 (by decide), (fpA f79 (by decide)).1, n4 j, (fpA (c := 26) s6 (by decide)).1, (fpA (c := 13) s6 (by decide)).1, (fpA (c := 24) k2 (by decide)).1, (fpA (c := 33) s6 (by decide)).1]
    by_cases l : j < N
    · rw [if_pos l, if_pos l]
      exact nt_flow_t hN1 hnd hpa x24 j l
    · rw [if_neg l, if_neg l]
  · rw [aE 34 (by decide), (fpA f79 (by decide)).1, n5 j, (fpA (c := 29) s6 (by decide)).1, (fpA (c := 34) s6 (by decide)).1]
  · rw [gE 0 12 (by decide), m5]
