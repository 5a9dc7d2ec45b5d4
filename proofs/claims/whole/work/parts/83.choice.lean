/-! CHOICE. -/
theorem and_one (x : Int32) : x &&& 1 = 0 ∨ x &&& 1 = 1 := by
  have h : x.toBitVec &&& 1#32 = if x.toBitVec.getLsbD 0 then 1#32 else 0#32 := by
    apply BitVec.eq_of_getLsbD_eq
    intro i hi
    rw [BitVec.getLsbD_and]
    by_cases q : i = 0
    · subst q
      cases x.toBitVec.getLsbD 0 <;> decide
    · have h1 : (1#32).getLsbD i = false := by
        have : ∀ i, i < 32 → ¬ i = 0 → (1#32).getLsbD i = false := by decide
        exact this i hi q
      have h0 : (0#32).getLsbD i = false := by
        have : ∀ i, i < 32 → (0#32).getLsbD i = false := by decide
        exact this i hi
      rw [h1, Bool.and_false]
      cases x.toBitVec.getLsbD 0
      · exact h0.symm
      · exact h1.symm
  cases hb : x.toBitVec.getLsbD 0
  · left
    apply Int32.toBitVec_inj.mp
    show x.toBitVec &&& 1#32 = 0#32
    rw [h, hb]
    rfl
  · right
    apply Int32.toBitVec_inj.mp
    show x.toBitVec &&& 1#32 = 1#32
    rw [h, hb]
    rfl
theorem ch_b_mul (set v : Int32) (i : Int32) : ((set >>> (i &&& 31)) &&& 1) * v = if ((set >>> (i &&& 31)) &&& 1) = 1 then v else 0 := by
  rcases and_one (set >>> (i &&& 31)) with h | h
  · rw [h, if_neg (by decide)]
    exact Int32.zero_mul
  · rw [h, if_pos rfl]
    exact Int32.one_mul v
/-- a set's coin, its resistances, how many it lets burn -/
def ch_w (s : mS) (set : Int32) (i : Nat) : Int32 := if ((set >>> (Int32.ofNat i &&& 31)) &&& 1) = 1 then gI s 178 i else 0
def ch_P (s : mS) (c : Nat) (set : Int32) : Int32 := smI (ch_w s set) c
def ch_r (s : mS) (set : Int32) : Nat → (Nat → Int32)
  | 0 => gI s 128
  | i + 1 => if ((set >>> (Int32.ofNat i &&& 31)) &&& 1) = 1 then up (ch_r s set i) (ix (gI s 176 i)) (gI s 177 i) else ch_r s set i
def ch_t (kind want node PR : Nat → Int32) (t : Nat) : Int32 := if kind t = 3 then 0 else if want t ≤ 0 then 0 else if PR (ix (node t)) < 20 then 0 else 1
def ch_B (s : mS) (N T c : Nat) (x set : Int32) : Int32 := smI (ch_t (gI s 133) (fun t => f_M_wants (Int32.ofNat t) x s) (gI s 132) (nt_settle N T (gI s 127) (gI s 130) (gI s 129) (ch_r s set c) (gI s 132) (gI s 133) (fun t => f_M_wants (Int32.ofNat t) x s) (gI s 116 11)).2.2) T
def ch_f (P B : Nat → Int32) (purse : Int32) : Nat → Int32 × Int32 × Int32
  | 0 => (-1, -1, 0)
  | k + 1 => if P k ≤ purse then (if (ch_f P B purse k).2.1 < B k then (Int32.ofNat k, B k, P k) else if B k = (ch_f P B purse k).2.1 then (if (ch_f P B purse k).2.2 ≤ P k then ch_f P B purse k else (Int32.ofNat k, B k, P k)) else ch_f P B purse k) else ch_f P B purse k
theorem ch_t_rng (kind want node PR : Nat → Int32) (t : Nat) : 0 ≤ ch_t kind want node PR t ∧ ch_t kind want node PR t ≤ Int32.ofNat 1 := by
  unfold ch_t
  split
  · decide
  · split
    · decide
    · split <;> decide
theorem ch_B_nn (s : mS) (N T c : Nat) (hT : T ≤ 40) (x set : Int32) : 0 ≤ ch_B s N T c x set := (smI_rng (M := 1) (fun j _ => ch_t_rng _ _ _ _ j) (by omega) (by omega)).1
theorem ch_inv {P B : Nat → Int32} {purse : Int32} (hB : ∀ k, 0 ≤ B k) : ∀ k, ((ch_f P B purse k).1 = -1 ∧ (ch_f P B purse k).2.1 = -1) ∨ ∃ j, j < k ∧ (ch_f P B purse k).1 = Int32.ofNat j ∧ (ch_f P B purse k).2.2 = P j ∧ 0 ≤ (ch_f P B purse k).2.1 := by
  intro k
  induction k with
  | zero => exact Or.inl ⟨rfl, rfl⟩
  | succ k ih =>
    have old : ((ch_f P B purse k).1 = -1 ∧ (ch_f P B purse k).2.1 = -1) ∨ ∃ j, j < k + 1 ∧ (ch_f P B purse k).1 = Int32.ofNat j ∧ (ch_f P B purse k).2.2 = P j ∧ 0 ≤ (ch_f P B purse k).2.1 := by
      rcases ih with h | ⟨j, h1, h2⟩
      · exact Or.inl h
      · exact Or.inr ⟨j, by omega, h2⟩
    have new : ((Int32.ofNat k, B k, P k) : Int32 × Int32 × Int32).1 = -1 ∧ ((Int32.ofNat k, B k, P k) : Int32 × Int32 × Int32).2.1 = -1 ∨ ∃ j, j < k + 1 ∧ ((Int32.ofNat k, B k, P k) : Int32 × Int32 × Int32).1 = Int32.ofNat j ∧ ((Int32.ofNat k, B k, P k) : Int32 × Int32 × Int32).2.2 = P j ∧ 0 ≤ ((Int32.ofNat k, B k, P k) : Int32 × Int32 × Int32).2.1 := Or.inr ⟨k, by omega, rfl, rfl, hB k⟩
    simp only [ch_f]
    split
    · split
      · exact new
      · split
        · split
          · exact old
          · exact new
        · exact old
    · exact old
theorem ch_some {P B : Nat → Int32} {purse : Int32} (hB : ∀ k, 0 ≤ B k) (h0 : P 0 ≤ purse) : ∀ k, ∃ j, j < k + 1 ∧ (ch_f P B purse (k + 1)).1 = Int32.ofNat j ∧ (ch_f P B purse (k + 1)).2.2 = P j ∧ 0 ≤ (ch_f P B purse (k + 1)).2.1 := by
  intro k
  induction k with
  | zero =>
    refine ⟨0, by omega, ?_⟩
    have h1 : ch_f P B purse (0 + 1) = (Int32.ofNat 0, B 0, P 0) := by
      have hp : (-1 : Int32) < B 0 := by
        have := hB 0
        grind
      show (if P 0 ≤ purse then (if (-1 : Int32) < B 0 then (Int32.ofNat 0, B 0, P 0) else _) else _) = _
      rw [if_pos h0, if_pos hp]
    rw [h1]
    exact ⟨rfl, rfl, hB 0⟩
  | succ k ih =>
    obtain ⟨j, h1, h2, h3, h4⟩ := ih
    have old : ∃ j, j < k + 1 + 1 ∧ (ch_f P B purse (k + 1)).1 = Int32.ofNat j ∧ (ch_f P B purse (k + 1)).2.2 = P j ∧ 0 ≤ (ch_f P B purse (k + 1)).2.1 := ⟨j, by omega, h2, h3, h4⟩
    have new : ∃ j, j < k + 1 + 1 ∧ ((Int32.ofNat (k + 1), B (k + 1), P (k + 1)) : Int32 × Int32 × Int32).1 = Int32.ofNat j ∧ ((Int32.ofNat (k + 1), B (k + 1), P (k + 1)) : Int32 × Int32 × Int32).2.2 = P j ∧ 0 ≤ ((Int32.ofNat (k + 1), B (k + 1), P (k + 1)) : Int32 × Int32 × Int32).2.1 := ⟨k + 1, by omega, rfl, rfl, hB (k + 1)⟩
    rw [ch_f]
    split
    · split
      · exact new
      · split
        · split
          · exact old
          · exact new
        · exact old
    · exact old
theorem sh_one {c : Nat} (hc : c ≤ 8) : (1 : Int32) <<< (Int32.ofNat c &&& 31) = Int32.ofNat (2 ^ c) := by
  have : ∀ c, c ≤ 8 → (1 : Int32) <<< (Int32.ofNat c &&& 31) = Int32.ofNat (2 ^ c) := by decide
  exact this c hc
/-- settling looks at the resistances of the nodes alone -/
theorem nt_PR_rs {N : Nat} {par wat hgt rs rs' fl : Nat → Int32} {gate : Int32} (hp : nt_paOK N par) (hr : ∀ j, j < N → rs j = rs' j) : ∀ j, j < N → nt_PR par wat hgt rs fl gate j = nt_PR par wat hgt rs' fl gate j := by
  intro j
  induction j using Nat.strongRecOn with
  | _ j ih =>
    intro hj
    by_cases h0 : j = 0
    · subst h0
      rfl
    · have h1 := hp j (by omega) hj
      rw [nt_PR_s (by omega) h1.2, nt_PR_s (by omega) h1.2]
      unfold nt_pv
      rw [hr j hj, ih _ h1.2 (by omega)]
theorem nt_swp_rs {N T : Nat} {par wat hgt rs rs' node kind want : Nat → Int32} {gate : Int32} (hN : 1 ≤ N) (hn : nt_ndOK N T node) (hp : nt_paOK N par) (hr : ∀ j, j < N → rs j = rs' j) : ∀ r k (tk tk' pr pr' : Nat → Int32), (∀ t, t < T → tk t = tk' t) → (∀ j, j < N → pr j = pr' j) →
    (nt_swp N T par wat hgt rs node kind want gate r k tk pr).1 = (nt_swp N T par wat hgt rs' node kind want gate r k tk' pr').1 ∧ (∀ t, t < T → (nt_swp N T par wat hgt rs node kind want gate r k tk pr).2.1 t = (nt_swp N T par wat hgt rs' node kind want gate r k tk' pr').2.1 t) ∧ (∀ j, j < N → (nt_swp N T par wat hgt rs node kind want gate r k tk pr).2.2 j = (nt_swp N T par wat hgt rs' node kind want gate r k tk' pr').2.2 j) := by
  intro r
  induction r with
  | zero =>
    intro k tk tk' pr pr' h1 h2
    exact ⟨rfl, h1, h2⟩
  | succ r ih =>
    intro k tk tk' pr pr' h1 h2
    have F : ∀ j, j < N → nt_PR par wat hgt rs (nt_flow N T par node tk) gate j = nt_PR par wat hgt rs' (nt_flow N T par node tk') gate j := fun j hj => by
      rw [nt_PR_c hp (nt_flow_t hN hn hp h1) j hj, nt_PR_rs hp hr j hj]
    have G : ∀ t, t < T → nt_tk node kind want (nt_PR par wat hgt rs (nt_flow N T par node tk) gate) t = nt_tk node kind want (nt_PR par wat hgt rs' (nt_flow N T par node tk') gate) t := fun t ht => nt_tk_c hn F t ht
    have hc : (0 < k ∧ ∀ j, j < N → nt_PR par wat hgt rs (nt_flow N T par node tk) gate j = pr j) ↔ (0 < k ∧ ∀ j, j < N → nt_PR par wat hgt rs' (nt_flow N T par node tk') gate j = pr' j) :=
      ⟨fun h => ⟨h.1, fun j hj => by rw [← F j hj, h.2 j hj, h2 j hj]⟩, fun h => ⟨h.1, fun j hj => by rw [F j hj, h.2 j hj, h2 j hj]⟩⟩
    by_cases h : 0 < k ∧ ∀ j, j < N → nt_PR par wat hgt rs (nt_flow N T par node tk) gate j = pr j
    · simp only [nt_swp, if_pos h, if_pos (hc.mp h)]
      exact ⟨trivial, G, F⟩
    · simp only [nt_swp, if_neg h, if_neg (fun q => h (hc.mpr q))]
      exact ih (k + 1) _ _ _ _ G F
theorem nt_settle_rs {N T : Nat} {par wat hgt rs rs' node kind want want' : Nat → Int32} {gate : Int32} (hN : 1 ≤ N) (hn : nt_ndOK N T node) (hp : nt_paOK N par) (hr : ∀ j, j < N → rs j = rs' j) (hw : ∀ t, t < T → want t = want' t) : ∀ j, j < N → (nt_settle N T par wat hgt rs node kind want gate).2.2 j = (nt_settle N T par wat hgt rs' node kind want' gate).2.2 j := by
  intro j hj
  have a := (nt_swp_c (wat := wat) (hgt := hgt) (rs := rs) (kind := kind) (gate := gate) hN hn hp hw 12 0 want want' (fun _ => 0) (fun _ => 0) hw (fun _ _ => rfl)).2.2 j hj
  have b := (nt_swp_rs (wat := wat) (hgt := hgt) (kind := kind) (want := want') (gate := gate) hN hn hp hr 12 0 want' want' (fun _ => 0) (fun _ => 0) (fun _ _ => rfl) (fun _ _ => rfl)).2.2 j hj
  exact a.trans b
/-! prices and resistances in both classes -/
theorem G_price {s : mS} {c : Nat} (hc : gI s 111 4 = Int32.ofNat c) (hc8 : c ≤ 8) (h114 : gI s 114 = gI s 178) (set : Int32) : f_Improvements_priceOf set s = ch_P s c set ∧ ok_Improvements_priceOf set s := by
  have A := lp_sum (L := lp_Improvements_priceOf_4 set s) (OK := okl_Improvements_priceOf_4 set s) c (by omega) (ch_w s set)
    (fun n i acc hi => by
      have e1 := fl_lit hc (by omega) (by omega) hi
      have e1' : ¬ (8 : Int32) ≤ Int32.ofNat i := fl_lit (a := 8) rfl (by omega) (by omega) (by omega)
      have e2 : ix (Int32.ofNat i) = i := ix_ofNat (by omega)
      have e3 : Int32.ofNat i + 1 = Int32.ofNat (i + 1) := ofNat_succ i
      have b1 : mm_inb (Int32.ofNat i) 8 = true := inb_ofNat (by decide) (by omega)
      by_cases q : ((set >>> (Int32.ofNat i &&& 31)) &&& 1) = 1
      · have e5 : ch_w s set i = gI s 178 i := if_pos q
        constructor
        · simp only [lp_Improvements_priceOf_4, e1, e1', if_false, q, if_true, e2, e3, h114, e5]
        · intro h
          simp only [okl_Improvements_priceOf_4, e1, e1', if_false, q, if_true, e2, e3, b1, h114, true_and]
          rw [e5] at h
          exact h
      · have e5 : ch_w s set i = 0 := if_neg q
        constructor
        · simp only [lp_Improvements_priceOf_4, e1, e1', if_false, q, e3, e5, Int32.add_zero]
        · intro h
          simp only [okl_Improvements_priceOf_4, e1, e1', if_false, q, e3]
          rw [e5, Int32.add_zero] at h
          exact h)
    (fun n acc => by
      have e1 := fl_lit' hc
      constructor
      · simp only [lp_Improvements_priceOf_4, e1, if_true]
      · simp only [okl_Improvements_priceOf_4, e1, if_true])
  constructor
  · unfold f_Improvements_priceOf
    simp only [mq_let_e, A.1, ch_P]
  · unfold ok_Improvements_priceOf
    exact ⟨A.2, trivial⟩
theorem M_price_ch {s : mS} {c : Nat} (hc : gI s 116 103 = Int32.ofNat c) (hc8 : c ≤ 8) (set : Int32) : f_M_coinOf set s = ch_P s c set ∧ ok_M_coinOf set s := by
  have A := lp_sum (L := lp_M_coinOf_4 set s) (OK := okl_M_coinOf_4 set s) c (by omega) (ch_w s set)
    (fun n i acc hi => by
      have e1 := fl_lit hc (by omega) (by omega) hi
      have e2 : ix (Int32.ofNat i) = i := ix_ofNat (by omega)
      have e3 : Int32.ofNat i + 1 = Int32.ofNat (i + 1) := ofNat_succ i
      have b1 : mm_inb (Int32.ofNat i) 8 = true := inb_ofNat (by decide) (by omega)
      have e5 : ((set >>> (Int32.ofNat i &&& 31)) &&& 1) * gI s 178 i = ch_w s set i := ch_b_mul _ _ _
      constructor
      · simp only [lp_M_coinOf_4, e1, if_false, e2, e3, e5]
      · intro h
        simp only [okl_M_coinOf_4, e1, if_false, e2, e3, b1, e5, true_and]
        exact h)
    (fun n acc => by
      have e1 := fl_lit' hc
      constructor
      · simp only [lp_M_coinOf_4, e1, if_true]
      · simp only [okl_M_coinOf_4, e1, if_true])
  constructor
  · unfold f_M_coinOf
    simp only [mq_let_e, A.1, ch_P]
  · unfold ok_M_coinOf
    exact ⟨A.2, trivial⟩
theorem G_putIn {s : mS} {c : Nat} (hc : gI s 111 4 = Int32.ofNat c) (hc8 : c ≤ 8) (h27 : gI s 27 = gI s 128) (h112 : gI s 112 = gI s 176) (h113 : gI s 113 = gI s 177) (hw : ∀ i, i < c → 1 ≤ gI s 176 i ∧ gI s 176 i < 16) (set : Int32) : ∃ g, f_Improvements_putIn set s = sA s 115 g ∧ ok_Improvements_putIn set s ∧ ∀ j, j < 16 → g j = ch_r s set c j := by
  have A := lp_map (L := lp_Improvements_putIn_2 set) (OK := okl_Improvements_putIn_2 set) 115 16 (by omega) s (gI s 27)
    (fun n i g hi => by
      have e1 : ¬ (16 : Int32) ≤ Int32.ofNat i := fl_lit (a := 16) rfl (by omega) (by omega) hi
      have e2 : ix (Int32.ofNat i) = i := ix_ofNat (by omega)
      have e3 : Int32.ofNat i + 1 = Int32.ofNat (i + 1) := ofNat_succ i
      have e4 : mm_inb (Int32.ofNat i) 16 = true := inb_ofNat (by decide) (by omega)
      constructor
      · simp only [lp_Improvements_putIn_2, e1, if_false, e2, e3, gI_sA, Nat.reduceEqDiff, sI_sA]
      · intro h
        simp only [okl_Improvements_putIn_2, e1, if_false, e2, e3, e4, gI_sA, Nat.reduceEqDiff, sI_sA, true_and]
        exact h)
    (fun n g => by
      have e1 : (16 : Int32) ≤ Int32.ofNat 16 := by decide
      constructor
      · simp only [lp_Improvements_putIn_2, e1, if_true]
      · simp only [okl_Improvements_putIn_2, e1, if_true])
  have B := lp_up0 (L := lp_Improvements_putIn_28 set) (OK := okl_Improvements_putIn_28 set) (fun i s' => ∃ g, s' = sA s 115 g ∧ ∀ j, j < 16 → g j = ch_r s set i j) c (by omega) (sA s 115 (fillA 16 (gI s 27) (gI s 115))) ⟨_, rfl, fun j hj => by
      rw [fillA_lt hj, h27]
      rfl⟩
    (fun n i s' hi hp => by
      obtain ⟨g, rfl, hg⟩ := hp
      have e1 := fl_lit hc (by omega) (by omega) hi
      have e1' : ¬ (8 : Int32) ≤ Int32.ofNat i := fl_lit (a := 8) rfl (by omega) (by omega) (by omega)
      have e2 : ix (Int32.ofNat i) = i := ix_ofNat (by omega)
      have e3 : Int32.ofNat i + 1 = Int32.ofNat (i + 1) := ofNat_succ i
      have b1 : mm_inb (Int32.ofNat i) 8 = true := inb_ofNat (by decide) (by omega)
      by_cases q : ((set >>> (Int32.ofNat i &&& 31)) &&& 1) = 1
      · obtain ⟨w1, w2⟩ := hw i hi
        have e5 : ¬ gI s 176 i ≤ 0 := by grind
        have e6 : ¬ (16 : Int32) ≤ gI s 176 i := by grind
        have b2 : mm_inb (gI s 176 i) 16 = true := inb_16 (by grind) w2
        refine ⟨sA s 115 (up g (ix (gI s 176 i)) (gI s 177 i)), ?_, ?_, _, rfl, fun j hj => ?_⟩
        · simp only [lp_Improvements_putIn_28, gI_sA, Nat.reduceEqDiff, reduceIte, e1, e1', q, e2, e3, h112, h113, e5, e6, sI_sA]
        · intro h
          simp only [okl_Improvements_putIn_28, gI_sA, Nat.reduceEqDiff, reduceIte, e1, e1', q, e2, e3, h112, h113, e5, e6, b1, b2, sI_sA, true_and]
          exact h
        · show _ = (if _ then up _ _ _ else _) j
          rw [if_pos q]
          unfold up
          rw [hg j hj]
      · refine ⟨sA s 115 g, ?_, ?_, g, rfl, fun j hj => ?_⟩
        · simp only [lp_Improvements_putIn_28, gI_sA, Nat.reduceEqDiff, reduceIte, e1, e1', q, e3]
        · intro h
          simp only [okl_Improvements_putIn_28, gI_sA, Nat.reduceEqDiff, reduceIte, e1, e1', q, e3, b1, true_and]
          exact h
        · show _ = (if _ then up _ _ _ else _) j
          rw [if_neg q]
          exact hg j hj)
    (fun n s' hp => by
      obtain ⟨g, rfl, hg⟩ := hp
      have e1 := fl_lit' hc
      constructor
      · simp only [lp_Improvements_putIn_28, gI_sA, Nat.reduceEqDiff, reduceIte, e1]
      · simp only [okl_Improvements_putIn_28, gI_sA, Nat.reduceEqDiff, reduceIte, e1])
  obtain ⟨s1, B1, B2, g, rfl, hg⟩ := B
  refine ⟨g, ?_, ?_, hg⟩
  · unfold f_Improvements_putIn
    simp only [mq_let_e, A.1, B1]
  · unfold ok_Improvements_putIn
    simp only [mq_letP_e, A.1, A.2, B1, B2, true_and]
theorem M_putIn {s : mS} {N c : Nat} (hN : gI s 116 7 = Int32.ofNat N) (hN16 : N ≤ 16) (hc : gI s 116 103 = Int32.ofNat c) (hc8 : c ≤ 8) (hw : ∀ i, i < c → 1 ≤ gI s 176 i ∧ gI s 176 i < 16) (set a2 : Int32) : ∃ s1 g, lp_M_burning_2 set a2 mm_N 0 s = (Int32.ofNat N, s1) ∧ okl_M_burning_2 set a2 mm_N 0 s ∧ lp_M_burning_30 set a2 mm_N 0 s1 = (Int32.ofNat c, sA s 147 g) ∧ okl_M_burning_30 set a2 mm_N 0 s1 ∧ ∀ j, j < N → g j = ch_r s set c j := by
  have A := lp_map (L := lp_M_burning_2 set a2) (OK := okl_M_burning_2 set a2) 147 N (by omega) s (gI s 128)
    (fun n i g hi => by
      have e1 := fl_lit hN (by omega) (by omega) hi
      have e2 : ix (Int32.ofNat i) = i := ix_ofNat (by omega)
      have e3 : Int32.ofNat i + 1 = Int32.ofNat (i + 1) := ofNat_succ i
      have e4 : mm_inb (Int32.ofNat i) 16 = true := inb_ofNat (by decide) (by omega)
      constructor
      · simp only [lp_M_burning_2, e1, if_false, e2, e3, gI_sA, Nat.reduceEqDiff, sI_sA]
      · intro h
        simp only [okl_M_burning_2, e1, if_false, e2, e3, e4, gI_sA, Nat.reduceEqDiff, sI_sA, true_and]
        exact h)
    (fun n g => by
      have e1 := fl_lit' hN
      constructor
      · simp only [lp_M_burning_2, gI_sA, Nat.reduceEqDiff, reduceIte, e1]
      · simp only [okl_M_burning_2, gI_sA, Nat.reduceEqDiff, reduceIte, e1])
  have B := lp_up0 (L := lp_M_burning_30 set a2) (OK := okl_M_burning_30 set a2) (fun i s' => ∃ g, s' = sA s 147 g ∧ ∀ j, j < N → g j = ch_r s set i j) c (by omega) (sA s 147 (fillA N (gI s 128) (gI s 147))) ⟨_, rfl, fun j hj => by
      rw [fillA_lt hj]
      rfl⟩
    (fun n i s' hi hp => by
      obtain ⟨g, rfl, hg⟩ := hp
      have e1 := fl_lit hc (by omega) (by omega) hi
      have e2 : ix (Int32.ofNat i) = i := ix_ofNat (by omega)
      have e3 : Int32.ofNat i + 1 = Int32.ofNat (i + 1) := ofNat_succ i
      have b1 : mm_inb (Int32.ofNat i) 8 = true := inb_ofNat (by decide) (by omega)
      by_cases q : ((set >>> (Int32.ofNat i &&& 31)) &&& 1) = 1
      · obtain ⟨w1, w2⟩ := hw i hi
        have b2 : mm_inb (gI s 176 i) 16 = true := inb_16 (by grind) w2
        refine ⟨sA s 147 (up g (ix (gI s 176 i)) (gI s 177 i)), ?_, ?_, _, rfl, fun j hj => ?_⟩
        · simp only [lp_M_burning_30, gI_sA, Nat.reduceEqDiff, reduceIte, e1, q, e2, e3, sI_sA]
        · intro h
          simp only [okl_M_burning_30, gI_sA, Nat.reduceEqDiff, reduceIte, e1, q, e2, e3, b1, b2, sI_sA, true_and]
          exact h
        · show _ = (if _ then up _ _ _ else _) j
          rw [if_pos q]
          unfold up
          rw [hg j hj]
      · refine ⟨sA s 147 g, ?_, ?_, g, rfl, fun j hj => ?_⟩
        · simp only [lp_M_burning_30, gI_sA, Nat.reduceEqDiff, reduceIte, e1, q, e3]
        · intro h
          simp only [okl_M_burning_30, gI_sA, Nat.reduceEqDiff, reduceIte, e1, q, e3]
          exact h
        · show _ = (if _ then up _ _ _ else _) j
          rw [if_neg q]
          exact hg j hj)
    (fun n s' hp => by
      obtain ⟨g, rfl, hg⟩ := hp
      have e1 := fl_lit' hc
      constructor
      · simp only [lp_M_burning_30, gI_sA, Nat.reduceEqDiff, reduceIte, e1]
      · simp only [okl_M_burning_30, gI_sA, Nat.reduceEqDiff, reduceIte, e1])
  obtain ⟨s1, B1, B2, g, rfl, hg⟩ := B
  exact ⟨_, g, A.1, A.2, B1, B2, hg⟩
