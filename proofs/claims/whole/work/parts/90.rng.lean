/-! RANGES of what flows, presses and is taken. -/
def smN (w : Nat → Nat) : Nat → Nat
  | 0 => 0
  | n + 1 => smN w n + w n
theorem smN_c {w w' : Nat → Nat} {n : Nat} (h : ∀ i, i < n → w i = w' i) : smN w n = smN w' n := by
  induction n with
  | zero => rfl
  | succ n ih =>
    simp only [smN]
    rw [ih (fun i hi => h i (by omega)), h n (by omega)]
theorem smN_up {w : Nat → Nat} {n p x : Nat} (hp : p < n) : smN (up w p (w p + x)) n = smN w n + x := by
  induction n with
  | zero => omega
  | succ n ih =>
    simp only [smN]
    by_cases h : p = n
    · subst h
      rw [up_self, smN_c (w' := w) (fun i hi => up_ne (by omega))]
      omega
    · rw [ih (by omega), up_ne (by omega)]
      omega
theorem smN_mem {w : Nat → Nat} {n p : Nat} (hp : p < n) : w p ≤ smN w n := by
  induction n with
  | zero => omega
  | succ n ih =>
    simp only [smN]
    by_cases h : p = n
    · subst h
      omega
    · have := ih (by omega)
      omega
theorem smN_le {w : Nat → Nat} {n M : Nat} (h : ∀ i, i < n → w i ≤ M) : smN w n ≤ n * M := by
  induction n with
  | zero => exact Nat.zero_le _
  | succ n ih =>
    simp only [smN]
    have a := ih (fun i hi => h i (by omega))
    have b := h n (by omega)
    rw [Nat.succ_mul]
    omega
theorem smN_0 (n : Nat) : smN (fun _ => 0) n = 0 := by
  induction n with
  | zero => rfl
  | succ n ih => simp only [smN, ih]
theorem nt_in_N {N : Nat} {node : Nat → Int32} {q : Nat → Nat} {h : Nat → Nat} : ∀ T, nt_ndOK N T node → ∃ h', (∀ (f take : Nat → Int32), (∀ j, j < N → f j = Int32.ofNat (h j)) → (∀ t, t < T → take t = Int32.ofNat (q t)) → ∀ j, j < N → nt_in node take f T j = Int32.ofNat (h' j)) ∧ smN h' N = smN h N + smN q T
  | 0, _ => ⟨h, fun f take h1 _ j hj => h1 j hj, rfl⟩
  | T + 1, hn => by
    obtain ⟨h', a, b⟩ := nt_in_N (N := N) (node := node) (q := q) (h := h) T (fun t ht => hn t (by omega))
    refine ⟨up h' (ix (node T)) (h' (ix (node T)) + q T), fun f take h1 h2 j hj => ?_, ?_⟩
    · have ih := a f take h1 (fun t ht => h2 t (by omega))
      have hT := (hn T (by omega)).2
      show up _ _ _ j = _
      by_cases e : j = ix (node T)
      · subst e
        rw [up_self, up_self, ih _ hT, h2 T (by omega), Int32.ofNat_add]
      · rw [up_ne e, up_ne e]
        exact ih j hj
    · rw [smN_up (hn T (by omega)).2, b]
      simp only [smN]
      omega
theorem nt_up_N {N : Nat} {par : Nat → Int32} (hp : nt_paOK N par) : ∀ k, k < N → ∀ h : Nat → Nat, ∃ h' : Nat → Nat, (∀ f : Nat → Int32, (∀ j, j < N → f j = Int32.ofNat (h j)) → ∀ j, j < N → nt_up par k f j = Int32.ofNat (h' j)) ∧ ∀ B, smN h (k + 1) ≤ B → (∀ j, j < N → h j ≤ B) → ∀ j, j < N → h' j ≤ B
  | 0, _, h => ⟨h, fun f h1 j hj => h1 j hj, fun B _ h2 => h2⟩
  | k + 1, hk, h => by
    have hq := (hp (k + 1) (by omega) hk).2
    obtain ⟨h', a, b⟩ := nt_up_N hp k (by omega) (up h (ix (par (k + 1))) (h (ix (par (k + 1))) + h (k + 1)))
    refine ⟨h', fun f h1 => a _ (fun j hj => ?_), fun B h1 h2 => b B ?_ (fun j hj => ?_)⟩
    · by_cases e : j = ix (par (k + 1))
      · subst e
        rw [up_self, up_self, h1 _ hj, h1 _ hk, Int32.ofNat_add]
      · rw [up_ne e, up_ne e]
        exact h1 j hj
    · rw [smN_up hq]
      exact h1
    · by_cases e : j = ix (par (k + 1))
      · subst e
        rw [up_self]
        have : smN h (k + 1 + 1) = smN h (k + 1) + h (k + 1) := rfl
        have m := smN_mem (w := h) hq
        omega
      · rw [up_ne e]
        exact h2 j hj
theorem nat_of {x : Int32} {M : Nat} (h0 : 0 ≤ x) (h : x ≤ Int32.ofNat M) (hM : M < 90000) : x = Int32.ofNat (ix x) ∧ ix x ≤ M := by
  refine ⟨(ofNat_ix h0).symm, ?_⟩
  have : ix x < M + 1 := ix_lt (by omega) h0 (by
    have e : Int32.ofNat M < Int32.ofNat (M + 1) := (ofNat_lt (by omega) (by omega)).mpr (by omega)
    exact Int32.lt_of_le_of_lt h e)
  omega
/-- what flows -/
theorem flow_rng {N T M : Nat} {par node take : Nat → Int32} (hN : 1 ≤ N) (hn : nt_ndOK N T node) (hp : nt_paOK N par) (ht : ∀ t, t < T → 0 ≤ take t ∧ take t ≤ Int32.ofNat M) (hM : M < 90000) (hB : T * M < 2147483648) : ∀ j, j < N → 0 ≤ nt_flow N T par node take j ∧ nt_flow N T par node take j ≤ Int32.ofNat (T * M) := by
  obtain ⟨h', a, b⟩ := nt_in_N (N := N) (node := node) (q := fun t => ix (take t)) (h := fun _ => 0) T hn
  obtain ⟨h'', c, d⟩ := nt_up_N hp (N - 1) (by omega) h'
  have q : smN (fun t => ix (take t)) T ≤ T * M := smN_le (fun t h => (nat_of (ht t h).1 (ht t h).2 hM).2)
  have s' : smN h' N ≤ T * M := by
    rw [b, smN_0]
    omega
  intro j hj
  have e : nt_flow N T par node take j = Int32.ofNat (h'' j) := c _ (a (fun _ => 0) take (fun _ _ => rfl) (fun t h => (nat_of (ht t h).1 (ht t h).2 hM).1)) j hj
  have l : h'' j ≤ T * M := d (T * M) (by
    have : N - 1 + 1 = N := by omega
    rw [this]
    exact s') (fun i hi => Nat.le_trans (smN_mem hi) s') j hj
  rw [e]
  exact ⟨(ofNat_le (a := 0) (by omega) (by omega)).mpr (Nat.zero_le _), (ofNat_le (by omega) hB).mpr l⟩
theorem le_int {a b : Int32} : a ≤ b ↔ a.toInt ≤ b.toInt := Int32.le_iff_toInt_le
/-- what presses -/
theorem PR_rng {N : Nat} {par wat hgt rs fl : Nat → Int32} {gate : Int32} (hp : nt_paOK N par) (hg : 0 ≤ gate ∧ gate ≤ 99) (hh : ∀ j, -9 ≤ hgt j ∧ hgt j ≤ 9) (hr : ∀ j, 0 ≤ rs j ∧ rs j ≤ 9) (hf : ∀ j, j < N → 0 ≤ fl j ∧ fl j ≤ Int32.ofNat 200000) : ∀ j, j < N → 0 ≤ nt_PR par wat hgt rs fl gate j ∧ (nt_PR par wat hgt rs fl gate j).toInt ≤ 108 + (hgt j).toInt := by
  have H : ∀ j, -9 ≤ (hgt j).toInt ∧ (hgt j).toInt ≤ 9 := fun j => by
    have h := hh j
    rw [le_int, le_int] at h
    exact h
  intro j
  induction j using Nat.strongRecOn with
  | _ j ih =>
    intro hj
    by_cases h0 : j = 0
    · subst h0
      rw [nt_PR_0]
      refine ⟨hg.1, ?_⟩
      have h := hg.2
      rw [le_int] at h
      have e : (99 : Int32).toInt = 99 := by decide
      rw [e] at h
      have := H 0
      omega
    · have h1 := hp j (by omega) hj
      have hq := ih _ h1.2 (by omega)
      rw [nt_PR_s (by omega) h1.2]
      unfold nt_pv
      have Hj := H j
      have Hp := H (ix (par j))
      have F := hf j hj
      have R := hr j
      rw [le_int, le_int] at F R
      have e9 : (9 : Int32).toInt = 9 := by decide
      have eF : (Int32.ofNat 200000).toInt = 200000 := by decide
      have e0 : (0 : Int32).toInt = 0 := by decide
      rw [e0, e9] at R
      rw [e0, eF] at F
      have p : (rs j).toInt * (fl j).toInt ≤ 9 * 200000 := Int.mul_le_mul R.2 F.2 F.1 (by decide)
      have p0 : 0 ≤ (rs j).toInt * (fl j).toInt := Int.mul_nonneg R.1 F.1
      have m : (rs j * fl j).toInt = (rs j).toInt * (fl j).toInt := mul_nn (by omega) (by omega)
      have d : (rs j * fl j / 100).toInt = (rs j * fl j).toInt / (100 : Int32).toInt := div_nn (by rw [le_int, e0, m]; exact p0) (by decide)
      have e100 : (100 : Int32).toInt = 100 := by decide
      rw [m, e100] at d
      have d0 : 0 ≤ (rs j * fl j / 100).toInt := by
        rw [d]
        exact Int.ediv_nonneg p0 (by decide)
      have d1 : (rs j * fl j / 100).toInt ≤ 18000 := by
        rw [d]
        omega
      generalize rs j * fl j / 100 = L at d d0 d1
      have q0 := hq.1
      have q1 := hq.2
      rw [le_int, e0] at q0
      generalize nt_PR par wat hgt rs fl gate (ix (par j)) = P at q0 q1 hq
      have a1 : (P - L).toInt = P.toInt - L.toInt := sub_nn (by omega) (by omega)
      have a2 : (P - L + hgt j).toInt = P.toInt - L.toInt + (hgt j).toInt := by
        rw [add_nn (by omega) (by omega), a1]
      have a3 : (P - L + hgt j - hgt (ix (par j))).toInt = P.toInt - L.toInt + (hgt j).toInt - (hgt (ix (par j))).toInt := by
        rw [sub_nn (by omega) (by omega), a2]
      have z : (0 : Int32) ≤ 0 ∧ (0 : Int32).toInt ≤ 108 + (hgt j).toInt := ⟨Int32.le_refl _, by rw [e0]; omega⟩
      split
      · split
        · exact z
        · split
          · next c =>
            refine ⟨c, ?_⟩
            rw [a3]
            omega
          · exact z
      · exact z
theorem PR_rng2 {N : Nat} {par wat hgt rs fl : Nat → Int32} {gate : Int32} (hp : nt_paOK N par) (hg : 0 ≤ gate ∧ gate ≤ 99) (hh : ∀ j, -9 ≤ hgt j ∧ hgt j ≤ 9) (hr : ∀ j, 0 ≤ rs j ∧ rs j ≤ 9) (hf : ∀ j, j < N → 0 ≤ fl j ∧ fl j ≤ Int32.ofNat 200000) : ∀ j, j < N → 0 ≤ nt_PR par wat hgt rs fl gate j ∧ nt_PR par wat hgt rs fl gate j ≤ 117 := fun j hj => by
  have h := PR_rng (wat := wat) hp hg hh hr hf j hj
  refine ⟨h.1, ?_⟩
  have q := (hh j).2
  rw [le_int] at q ⊢
  have e9 : (9 : Int32).toInt = 9 := by decide
  have e7 : (117 : Int32).toInt = 117 := by decide
  rw [e9] at q
  rw [e7]
  omega
/-- what is taken -/
theorem tk_rng {w p : Int32} (hw : 0 ≤ w ∧ w ≤ 495) (hp : 0 ≤ p ∧ p ≤ 117) : 0 ≤ w * p / 20 ∧ w * p / 20 ≤ 2895 ∧ (p < 20 → w * p / 20 ≤ w) := by
  have e495 : (495 : Int32).toInt = 495 := by decide
  have e117 : (117 : Int32).toInt = 117 := by decide
  have e0 : (0 : Int32).toInt = 0 := by decide
  have e20 : (20 : Int32).toInt = 20 := by decide
  have e2895 : (2895 : Int32).toInt = 2895 := by decide
  rw [le_int, le_int, e0] at hw hp
  rw [e495] at hw
  rw [e117] at hp
  have a : w.toInt * p.toInt ≤ 495 * 117 := Int.mul_le_mul hw.2 hp.2 hp.1 (by decide)
  have a0 : 0 ≤ w.toInt * p.toInt := Int.mul_nonneg hw.1 hp.1
  have m : (w * p).toInt = w.toInt * p.toInt := mul_nn (by omega) (by omega)
  have d : (w * p / 20).toInt = (w * p).toInt / (20 : Int32).toInt := div_nn (by rw [le_int, e0, m]; exact a0) (by decide)
  rw [m, e20] at d
  rw [le_int, le_int, le_int, e0, e2895, d]
  refine ⟨Int.ediv_nonneg a0 (by decide), by omega, fun h => ?_⟩
  rw [Int32.lt_iff_toInt_lt, e20] at h
  have b : w.toInt * p.toInt ≤ w.toInt * 20 := Int.mul_le_mul_of_nonneg_left (by omega) hw.1
  omega
theorem nt_tk_rng {node kind want PR : Nat → Int32} {t : Nat} (hw : 0 ≤ want t ∧ want t ≤ 495) (hp : 0 ≤ PR (ix (node t)) ∧ PR (ix (node t)) ≤ 117) : 0 ≤ nt_tk node kind want PR t ∧ nt_tk node kind want PR t ≤ 2895 ∧ (kind t ≠ 3 → nt_tk node kind want PR t ≤ want t) := by
  have h := tk_rng hw hp
  unfold nt_tk
  split
  · next c => exact ⟨h.1, h.2.1, fun q => absurd c q⟩
  · split
    · exact ⟨hw.1, Int32.le_trans hw.2 (by decide), fun _ => Int32.le_refl _⟩
    · next c => exact ⟨h.1, h.2.1, fun _ => h.2.2 (Int32.not_le.mp c)⟩
theorem swp_rng {N T : Nat} {par wat hgt rs node kind want : Nat → Int32} {gate : Int32} (hN : 1 ≤ N) (hT : T ≤ 40) (hn : nt_ndOK N T node) (hp : nt_paOK N par) (hg : 0 ≤ gate ∧ gate ≤ 99) (hh : ∀ j, -9 ≤ hgt j ∧ hgt j ≤ 9) (hr : ∀ j, 0 ≤ rs j ∧ rs j ≤ 9) (hw : ∀ t, t < T → 0 ≤ want t ∧ want t ≤ 495) : ∀ r k (tk pr : Nat → Int32), (∀ t, t < T → 0 ≤ tk t ∧ tk t ≤ 2895) →
    (0 < r → (∀ t, t < T → 0 ≤ (nt_swp N T par wat hgt rs node kind want gate r k tk pr).2.1 t ∧ (nt_swp N T par wat hgt rs node kind want gate r k tk pr).2.1 t ≤ 2895 ∧ (kind t ≠ 3 → (nt_swp N T par wat hgt rs node kind want gate r k tk pr).2.1 t ≤ want t)) ∧ ∀ j, j < N → 0 ≤ (nt_swp N T par wat hgt rs node kind want gate r k tk pr).2.2 j ∧ (nt_swp N T par wat hgt rs node kind want gate r k tk pr).2.2 j ≤ 117) := by
  intro r
  induction r with
  | zero =>
    intro k tk pr _ h
    omega
  | succ r ih =>
    intro k tk pr ht _
    have F : ∀ j, j < N → 0 ≤ nt_flow N T par node tk j ∧ nt_flow N T par node tk j ≤ Int32.ofNat 200000 := fun j hj => by
      have b : T * 2895 ≤ 40 * 2895 := Nat.mul_le_mul_right _ hT
      have h := flow_rng (M := 2895) hN hn hp ht (by decide) (by omega) j hj
      exact ⟨h.1, Int32.le_trans h.2 ((ofNat_le (by omega) (by omega)).mpr (by omega))⟩
    have P := PR_rng2 (wat := wat) hp hg hh hr F
    have K : ∀ t, t < T → 0 ≤ nt_tk node kind want (nt_PR par wat hgt rs (nt_flow N T par node tk) gate) t ∧ nt_tk node kind want (nt_PR par wat hgt rs (nt_flow N T par node tk) gate) t ≤ 2895 ∧ (kind t ≠ 3 → nt_tk node kind want (nt_PR par wat hgt rs (nt_flow N T par node tk) gate) t ≤ want t) := fun t h => nt_tk_rng (hw t h) (P _ (hn t h).2)
    rw [nt_swp]
    split
    · exact ⟨K, P⟩
    · cases r with
      | zero => exact ⟨K, P⟩
      | succ r => exact ih (k + 1) _ _ (fun t h => ⟨(K t h).1, (K t h).2.1⟩) (by omega)
theorem settle_rng {N T : Nat} {par wat hgt rs node kind want : Nat → Int32} {gate : Int32} (hN : 1 ≤ N) (hT : T ≤ 40) (hn : nt_ndOK N T node) (hp : nt_paOK N par) (hg : 0 ≤ gate ∧ gate ≤ 99) (hh : ∀ j, -9 ≤ hgt j ∧ hgt j ≤ 9) (hr : ∀ j, 0 ≤ rs j ∧ rs j ≤ 9) (hw : ∀ t, t < T → 0 ≤ want t ∧ want t ≤ 495) :
    (∀ t, t < T → 0 ≤ (nt_settle N T par wat hgt rs node kind want gate).2.1 t ∧ (nt_settle N T par wat hgt rs node kind want gate).2.1 t ≤ 2895 ∧ (kind t ≠ 3 → (nt_settle N T par wat hgt rs node kind want gate).2.1 t ≤ want t)) ∧ ∀ j, j < N → 0 ≤ (nt_settle N T par wat hgt rs node kind want gate).2.2 j ∧ (nt_settle N T par wat hgt rs node kind want gate).2.2 j ≤ 117 :=
  swp_rng hN hT hn hp hg hh hr hw 12 0 want (fun _ => 0) (fun t h => ⟨(hw t h).1, Int32.le_trans (hw t h).2 (by decide)⟩) (by decide)
