/-! FIND: all the nodes, from the last on. -/
def ey_D (pn : Nat → Nat) (k : Nat) (z bu0 : Nat → Bool) (N : Nat) : Nat → (Nat → Bool) × (Nat → Option (Nat × Nat × Nat))
  | 0 => (bu0, fun _ => ey_1)
  | d + 1 => (up (ey_D pn k z bu0 N d).1 (pn (N - 1 - d)) ((ey_D pn k z bu0 N d).1 (pn (N - 1 - d)) || (ey_D pn k z bu0 N d).1 (N - 1 - d)), up (ey_D pn k z bu0 N d).2 (pn (N - 1 - d)) (ey_m ((ey_D pn k z bu0 N d).2 (pn (N - 1 - d))) (ey_A k z (ey_D pn k z bu0 N d).1 (ey_D pn k z bu0 N d).2 (N - 1 - d))))
theorem ey_D_s (pn : Nat → Nat) (k : Nat) (z bu0 : Nat → Bool) (N d n : Nat) (h : N - 1 - d = n) : ey_D pn k z bu0 N (d + 1) = (up (ey_D pn k z bu0 N d).1 (pn n) ((ey_D pn k z bu0 N d).1 (pn n) || (ey_D pn k z bu0 N d).1 n), up (ey_D pn k z bu0 N d).2 (pn n) (ey_m ((ey_D pn k z bu0 N d).2 (pn n)) (ey_A k z (ey_D pn k z bu0 N d).1 (ey_D pn k z bu0 N d).2 n))) := by
  rw [← h]
  rfl
theorem ey_stage (pn : Nat → Nat) (k : Nat) (hp : ∀ j, 1 ≤ j → pn j < j) (z bu0 : Nat → Bool) (N : Nat) : ∀ d, d + 1 ≤ N → ey_S (fun m => ey_P (ey_g pn k z bu0 (fun _ => ey_1) (2 * m)) N) (2 ^ (N - 1)) = ey_S (fun m => ey_P (ey_g pn k z (ey_D pn k z bu0 N d).1 (ey_D pn k z bu0 N d).2 (2 * m)) (N - d)) (2 ^ (N - 1 - d)) := by
  intro d
  induction d with
  | zero => exact fun _ => rfl
  | succ d ih =>
    intro h
    rw [ih (by omega)]
    obtain ⟨n, hn⟩ : ∃ n, N - 1 - d = n + 1 := ⟨N - 2 - d, by omega⟩
    have e1 : N - d = n + 2 := by omega
    have e2 : N - (d + 1) = n + 1 := by omega
    have e3 : N - 1 - (d + 1) = n := by omega
    rw [e1, hn, ey_elim pn k hp, e2, e3, ey_D_s pn k z bu0 N d (n + 1) hn]
theorem ey_all (pn : Nat → Nat) (k : Nat) (hp : ∀ j, 1 ≤ j → pn j < j) (z bu0 : Nat → Bool) (N : Nat) (hN : 1 ≤ N) (hz : z 0 = false) : ey_S (fun m => ey_P (ey_g pn k z bu0 (fun _ => ey_1) (2 * m)) N) (2 ^ (N - 1)) = (ey_D pn k z bu0 N (N - 1)).2 0 := by
  rw [ey_stage pn k hp z bu0 N (N - 1) (by omega)]
  have e1 : N - (N - 1) = 1 := by omega
  have e2 : N - 1 - (N - 1) = 0 := by omega
  rw [e1, e2]
  show ey_a none (ey_m ey_1 (ey_m (if (2 * 0).testBit 0 then ey_t k 0 else ey_1) (if z 0 then none else (ey_D pn k z bu0 N (N - 1)).2 0))) = _
  rw [hz]
  show ey_m ey_1 (ey_m ey_1 ((ey_D pn k z bu0 N (N - 1)).2 0)) = _
  rw [ey_m_1, ey_m_1]
/-- a set: whether it explains, how many pipes -/
def ey_X (pn : Nat → Nat) (z bu : Nat → Bool) (S : Nat) : Nat → Bool
  | 0 => true
  | n + 1 => ey_X pn z bu S n && (if ey_w pn S (n + 1) n then !(bu n) else !(z n))
def ey_pc (S : Nat) : Nat → Nat
  | 0 => 0
  | n + 1 => ey_pc S n + (if S.testBit n then 1 else 0)
theorem ey_set (pn : Nat → Nat) (k : Nat) (z bu : Nat → Bool) (S : Nat) : ∀ n, ey_P (ey_g pn k z bu (fun _ => ey_1) S) n = if ey_X pn z bu S n then some (ey_pc S n, 1, if k < n ∧ S.testBit k = true then 1 else 0) else none
  | 0 => by
    show ey_1 = some (0, 1, _)
    rw [if_neg (fun q => absurd q.1 (by omega))]
    rfl
  | n + 1 => by
    show ey_m (ey_P _ n) (ey_m (if S.testBit n then ey_t k n else ey_1) (ey_k (bu n) (z n) ey_1 (ey_w pn S (n + 1) n))) = if (ey_X pn z bu S n && (if ey_w pn S (n + 1) n then !(bu n) else !(z n))) then some (ey_pc S n + (if S.testBit n then 1 else 0), 1, _) else none
    rw [ey_set pn k z bu S n]
    have e : ey_k (bu n) (z n) ey_1 (ey_w pn S (n + 1) n) = if (if ey_w pn S (n + 1) n then !(bu n) else !(z n)) then ey_1 else none := by
      unfold ey_k
      cases ey_w pn S (n + 1) n <;> cases bu n <;> cases z n <;> rfl
    rw [e]
    cases ey_X pn z bu S n with
    | false => rfl
    | true =>
      cases (if ey_w pn S (n + 1) n then !(bu n) else !(z n)) with
      | false =>
        show ey_m (some _) (ey_m _ none) = none
        rw [ey_m_n]
        rfl
      | true =>
        show ey_m (some (ey_pc S n, 1, if k < n ∧ S.testBit k = true then 1 else 0)) (ey_m (if S.testBit n then ey_t k n else ey_1) ey_1) = some (ey_pc S n + (if S.testBit n then 1 else 0), 1, if k < n + 1 ∧ S.testBit k = true then 1 else 0)
        rw [ey_1_m]
        by_cases t : S.testBit n = true
        · rw [if_pos t, if_pos t]
          show some (ey_pc S n + 1, 1 * 1, 1 * (if n = k then 1 else 0) + (if k < n ∧ S.testBit k = true then 1 else 0) * 1) = _
          congr 3
          by_cases q : n = k
          · subst q
            rw [if_pos rfl, if_neg (fun q => absurd q.1 (by omega)), if_pos ⟨by omega, t⟩]
          · rw [if_neg q]
            by_cases r : k < n ∧ S.testBit k = true
            · rw [if_pos r, if_pos ⟨by omega, r.2⟩]
            · rw [if_neg r, if_neg (fun w => r ⟨by omega, w.2⟩)]
        · rw [if_neg t, if_neg t]
          show some (ey_pc S n + 0, 1 * 1, 1 * 0 + (if k < n ∧ S.testBit k = true then 1 else 0) * 1) = _
          congr 3
          rw [Nat.mul_zero, Nat.zero_add, Nat.mul_one]
          by_cases r : k < n ∧ S.testBit k = true
          · rw [if_pos r, if_pos ⟨by omega, r.2⟩]
          · rw [if_neg r, if_neg (fun w => r ⟨by
              by_cases q : k = n
              · rw [q] at w
                exact absurd w.2 t
              · omega, w.2⟩)]
def ey_W : Option (Nat × Nat × Nat) → Nat
  | none => 0
  | some x => x.2.1
def ey_V : Option (Nat × Nat × Nat) → Nat
  | none => 0
  | some x => x.2.2
def ey_C : Option (Nat × Nat × Nat) → Nat
  | none => 1000
  | some x => x.1
theorem ey_vw_a {x y : Option (Nat × Nat × Nat)} (hx : ey_V x ≤ ey_W x) (hy : ey_V y ≤ ey_W y) : ey_V (ey_a x y) ≤ ey_W (ey_a x y) := by
  cases x with
  | none => exact hy
  | some x =>
    cases y with
    | none => exact hx
    | some y =>
      rcases Nat.lt_trichotomy x.1 y.1 with h | h | h
      · rw [ey_lt h]
        exact hx
      · rw [ey_eq h]
        exact Nat.add_le_add hx hy
      · rw [ey_gt h]
        exact hy
theorem ey_vw_S {f : Nat → Option (Nat × Nat × Nat)} (h : ∀ i, ey_V (f i) ≤ ey_W (f i)) : ∀ n, ey_V (ey_S f n) ≤ ey_W (ey_S f n)
  | 0 => Nat.le_refl 0
  | n + 1 => ey_vw_a (ey_vw_S h n) (h n)
/-- what doesn't change any more -/
theorem ey_D_fix (pn : Nat → Nat) (k : Nat) (hp : ∀ j, 1 ≤ j → pn j < j) (z bu0 : Nat → Bool) (N : Nat) {j : Nat} (hj : 1 ≤ j) : ∀ e d, N - 1 - d ≤ j → d + e ≤ N - 1 → (ey_D pn k z bu0 N (d + e)).1 j = (ey_D pn k z bu0 N d).1 j ∧ (ey_D pn k z bu0 N (d + e)).2 j = (ey_D pn k z bu0 N d).2 j
  | 0, _, _, _ => ⟨rfl, rfl⟩
  | e + 1, d, h1, h2 => by
    have i := ey_D_fix pn k hp z bu0 N hj e d h1 (by omega)
    have l := hp (N - 1 - (d + e)) (by omega)
    have ne : j ≠ pn (N - 1 - (d + e)) := by omega
    show (up _ (pn (N - 1 - (d + e))) _) j = _ ∧ (up _ (pn (N - 1 - (d + e))) _) j = _
    rw [up_ne ne, up_ne ne]
    exact i
/-- a node with its own pipe, at the end -/
def ey_AA (pn : Nat → Nat) (k : Nat) (z bu0 : Nat → Bool) (N : Nat) (i : Nat) : Option (Nat × Nat × Nat) := ey_A k z (ey_D pn k z bu0 N (N - 1)).1 (ey_D pn k z bu0 N (N - 1)).2 i
theorem ey_AA_at (pn : Nat → Nat) (k : Nat) (hp : ∀ j, 1 ≤ j → pn j < j) (z bu0 : Nat → Bool) (N d : Nat) (hd : d + 1 < N) : ey_A k z (ey_D pn k z bu0 N d).1 (ey_D pn k z bu0 N d).2 (N - 1 - d) = ey_AA pn k z bu0 N (N - 1 - d) := by
  have f := ey_D_fix pn k hp z bu0 N (j := N - 1 - d) (by omega) (N - 1 - d) d (Nat.le_refl _) (by omega)
  rw [show d + (N - 1 - d) = N - 1 by omega] at f
  unfold ey_AA ey_A
  rw [f.1, f.2]
def ey_Q (pn : Nat → Nat) (k : Nat) (z bu0 : Nat → Bool) (N : Nat) (j : Nat) : Nat → Option (Nat × Nat × Nat)
  | 0 => ey_1
  | d + 1 => if pn (N - 1 - d) = j then ey_m (ey_Q pn k z bu0 N j d) (ey_AA pn k z bu0 N (N - 1 - d)) else ey_Q pn k z bu0 N j d
theorem ey_DQ (pn : Nat → Nat) (k : Nat) (hp : ∀ j, 1 ≤ j → pn j < j) (z bu0 : Nat → Bool) (N : Nat) (j : Nat) : ∀ d, d + 1 ≤ N → (ey_D pn k z bu0 N d).2 j = ey_Q pn k z bu0 N j d
  | 0, _ => rfl
  | d + 1, h => by
    have i := ey_DQ pn k hp z bu0 N j d (by omega)
    show up (ey_D pn k z bu0 N d).2 (pn (N - 1 - d)) (ey_m ((ey_D pn k z bu0 N d).2 (pn (N - 1 - d))) (ey_A k z (ey_D pn k z bu0 N d).1 (ey_D pn k z bu0 N d).2 (N - 1 - d))) j = if pn (N - 1 - d) = j then ey_m (ey_Q pn k z bu0 N j d) (ey_AA pn k z bu0 N (N - 1 - d)) else ey_Q pn k z bu0 N j d
    by_cases q : pn (N - 1 - d) = j
    · rw [if_pos q, q, up_self, i, ey_AA_at pn k hp z bu0 N d (by omega)]
    · rw [if_neg q, up_ne (fun c => q c.symm), i]
/-- the nodes on the way from a node -/
def ey_pv (pn : Nat → Nat) (k : Nat) : Nat → Nat
  | 0 => k
  | d + 1 => pn (ey_pv pn k d)
theorem ey_V_m {x y : Option (Nat × Nat × Nat)} (hx : ey_V x = 0) (hy : ey_V y = 0) : ey_V (ey_m x y) = 0 := by
  cases x with
  | none => rfl
  | some x =>
    cases y with
    | none => rfl
    | some y =>
      have hx : x.2.2 = 0 := hx
      have hy : y.2.2 = 0 := hy
      show x.2.1 * y.2.2 + x.2.2 * y.2.1 = 0
      rw [hx, hy, Nat.mul_zero, Nat.zero_mul]
theorem ey_V_a {x y : Option (Nat × Nat × Nat)} (hx : ey_V x = 0) (hy : ey_V y = 0) : ey_V (ey_a x y) = 0 := by
  cases x with
  | none => exact hy
  | some x =>
    cases y with
    | none => exact hx
    | some y =>
      have hx' : x.2.2 = 0 := hx
      have hy' : y.2.2 = 0 := hy
      rcases Nat.lt_trichotomy x.1 y.1 with h | h | h
      · rw [ey_lt h]
        exact hx
      · rw [ey_eq h]
        show x.2.2 + y.2.2 = 0
        omega
      · rw [ey_gt h]
        exact hy
theorem ey_V0 (pn : Nat → Nat) (k : Nat) (hp : ∀ j, 1 ≤ j → pn j < j) (z bu0 : Nat → Bool) (N : Nat) : ∀ r i, i + r = N → 1 ≤ i → (∀ d, ey_pv pn k d ≠ i) → ey_V (ey_AA pn k z bu0 N i) = 0 := by
  intro r
  induction r using Nat.strongRecOn with
  | _ r ih =>
    intro i h1 h2 h3
    have B0 : ey_V ((ey_D pn k z bu0 N (N - 1)).2 i) = 0 := by
      rw [ey_DQ pn k hp z bu0 N i (N - 1) (by omega)]
      have A : ∀ d, d + 1 ≤ N → ey_V (ey_Q pn k z bu0 N i d) = 0 := by
        intro d
        induction d with
        | zero => exact fun _ => rfl
        | succ d ihd =>
          intro hd
          show ey_V (if pn (N - 1 - d) = i then ey_m (ey_Q pn k z bu0 N i d) (ey_AA pn k z bu0 N (N - 1 - d)) else ey_Q pn k z bu0 N i d) = 0
          by_cases q : pn (N - 1 - d) = i
          · rw [if_pos q]
            have l := hp (N - 1 - d) (by omega)
            refine ey_V_m (ihd (by omega)) (ih (N - (N - 1 - d)) (by omega) (N - 1 - d) (by omega) (by omega) (fun e c => h3 (e + 1) ?_))
            show pn (ey_pv pn k e) = i
            rw [c, q]
          · rw [if_neg q]
            exact ihd (by omega)
      exact A (N - 1) (by omega)
    unfold ey_AA ey_A
    refine ey_V_a ?_ ?_
    · split
      · rfl
      · exact B0
    · split
      · rfl
      · show (if i = k then 1 else 0) = 0
        rw [if_neg (fun c => h3 0 c.symm)]
theorem ey_pv_le (pn : Nat → Nat) (k : Nat) (hq : ∀ j, pn j ≤ j) (a : Nat) : ∀ e, ey_pv pn k (a + e) ≤ ey_pv pn k a
  | 0 => Nat.le_refl _
  | e + 1 => Nat.le_trans (hq _) (ey_pv_le pn k hq a e)
theorem ey_pv_u (pn : Nat → Nat) (k : Nat) (hp : ∀ j, 1 ≤ j → pn j < j) (hq : ∀ j, pn j ≤ j) {a b : Nat} (ha : 1 ≤ ey_pv pn k a) (hb : 1 ≤ ey_pv pn k b) (h : pn (ey_pv pn k a) = pn (ey_pv pn k b)) : ey_pv pn k a = ey_pv pn k b := by
  have key : ∀ a e, 1 ≤ ey_pv pn k (a + 1 + e) → pn (ey_pv pn k a) ≠ pn (ey_pv pn k (a + 1 + e)) := fun a e h1 h2 => by
    have l1 := ey_pv_le pn k hq (a + 1) e
    have l2 := hp _ h1
    have l3 : ey_pv pn k (a + 1) = pn (ey_pv pn k a) := rfl
    omega
  rcases Nat.lt_trichotomy a b with q | q | q
  · obtain ⟨e, rfl⟩ : ∃ e, b = a + 1 + e := ⟨b - a - 1, by omega⟩
    exact absurd h (key a e hb)
  · rw [q]
  · obtain ⟨e, rfl⟩ : ∃ e, a = b + 1 + e := ⟨a - b - 1, by omega⟩
    exact absurd h.symm (key b e ha)
/-- behind a node: those of the way's next node, times others -/
theorem ey_BX (pn : Nat → Nat) (k : Nat) (hp : ∀ j, 1 ≤ j → pn j < j) (hq : ∀ j, pn j ≤ j) (z bu0 : Nat → Bool) (N : Nat) {n a : Nat} (hn : 1 ≤ n) (hn2 : n < N) (ha : ey_pv pn k a = n) : ∃ X, (ey_D pn k z bu0 N (N - 1)).2 (pn n) = ey_m X (ey_AA pn k z bu0 N n) ∧ ey_V X = 0 := by
  rw [ey_DQ pn k hp z bu0 N (pn n) (N - 1) (by omega)]
  have oth : ∀ c, 1 ≤ c → c < N → c ≠ n → pn c = pn n → ey_V (ey_AA pn k z bu0 N c) = 0 := fun c c1 c2 c3 c4 => ey_V0 pn k hp z bu0 N (N - c) c (by omega) c1 (fun b hb => c3 (by
    have u := ey_pv_u pn k hp hq (a := b) (b := a) (by omega) (by omega) (by rw [hb, ha, c4])
    omega))
  have A : ∀ d, d + 1 ≤ N → (d ≤ N - 1 - n → ey_V (ey_Q pn k z bu0 N (pn n) d) = 0) ∧ (N - 1 - n < d → ∃ X, ey_Q pn k z bu0 N (pn n) d = ey_m X (ey_AA pn k z bu0 N n) ∧ ey_V X = 0) := by
    intro d
    induction d with
    | zero => exact fun _ => ⟨fun _ => rfl, fun h => absurd h (by omega)⟩
    | succ d ihd =>
      intro hd
      obtain ⟨i1, i2⟩ := ihd (by omega)
      show (_ → ey_V (if pn (N - 1 - d) = pn n then ey_m (ey_Q pn k z bu0 N (pn n) d) (ey_AA pn k z bu0 N (N - 1 - d)) else ey_Q pn k z bu0 N (pn n) d) = 0) ∧ (_ → ∃ X, (if pn (N - 1 - d) = pn n then ey_m (ey_Q pn k z bu0 N (pn n) d) (ey_AA pn k z bu0 N (N - 1 - d)) else ey_Q pn k z bu0 N (pn n) d) = _ ∧ _)
      constructor
      · intro h
        have i1 := i1 (by omega)
        by_cases q : pn (N - 1 - d) = pn n
        · rw [if_pos q]
          exact ey_V_m i1 (oth _ (by omega) (by omega) (by omega) q)
        · rw [if_neg q]
          exact i1
      · intro h
        by_cases e : N - 1 - d = n
        · rw [e, if_pos rfl]
          exact ⟨_, rfl, i1 (by omega)⟩
        · obtain ⟨X, x1, x2⟩ := i2 (by omega)
          by_cases q : pn (N - 1 - d) = pn n
          · rw [if_pos q, x1]
            refine ⟨ey_m X (ey_AA pn k z bu0 N (N - 1 - d)), ?_, ey_V_m x2 (oth _ (by omega) (by omega) e q)⟩
            rw [ey_m_assoc, ey_m_assoc, ey_m_comm (ey_AA pn k z bu0 N n)]
          · rw [if_neg q]
            exact ⟨X, x1, x2⟩
  exact (A (N - 1) (by omega)).2 (by omega)
/-- in how many sets no pipe on the way is taken -/
def ey_R (pn : Nat → Nat) (k : Nat) (z bu0 : Nat → Bool) (N : Nat) : Nat → Nat → Nat
  | 0, _ => 0
  | f + 1, n => if n = 0 then 1 else if ey_W (ey_AA pn k z bu0 N n) = 0 then 0 else if pn n = 0 ∨ (z (pn n) = false ∧ ey_C ((ey_D pn k z bu0 N (N - 1)).2 (pn n)) = ey_C (ey_AA pn k z bu0 N (pn n))) then ey_R pn k z bu0 N f (pn n) * (ey_W ((ey_D pn k z bu0 N (N - 1)).2 (pn n)) / ey_W (ey_AA pn k z bu0 N n)) else 0
theorem ey_R_f (pn : Nat → Nat) (k : Nat) (hp : ∀ j, 1 ≤ j → pn j < j) (z bu0 : Nat → Bool) (N : Nat) : ∀ f g n, n < f → n < g → ey_R pn k z bu0 N f n = ey_R pn k z bu0 N g n := by
  intro f
  induction f with
  | zero => intro g n h; exact absurd h (by omega)
  | succ f ih =>
    intro g n h1 h2
    obtain ⟨g', rfl⟩ : ∃ g', g = g' + 1 := ⟨g - 1, by omega⟩
    by_cases e : n = 0
    · subst e
      rfl
    · have := hp n (by omega)
      unfold ey_R
      rw [ih g' (pn n) (by omega) (by omega)]
theorem ey_R_s (pn : Nat → Nat) (k : Nat) (hp : ∀ j, 1 ≤ j → pn j < j) (z bu0 : Nat → Bool) (N : Nat) {n : Nat} (hn : 1 ≤ n) : ey_R pn k z bu0 N (n + 1) n = if ey_W (ey_AA pn k z bu0 N n) = 0 then 0 else if pn n = 0 ∨ (z (pn n) = false ∧ ey_C ((ey_D pn k z bu0 N (N - 1)).2 (pn n)) = ey_C (ey_AA pn k z bu0 N (pn n))) then ey_R pn k z bu0 N (pn n + 1) (pn n) * (ey_W ((ey_D pn k z bu0 N (N - 1)).2 (pn n)) / ey_W (ey_AA pn k z bu0 N n)) else 0 := by
  have := hp n hn
  show (if n = 0 then 1 else _) = _
  rw [if_neg (by omega), ey_R_f pn k hp z bu0 N n (pn n + 1) (pn n) (by omega) (by omega)]
theorem ey_WV {X A : Option (Nat × Nat × Nat)} (hX : ey_V X = 0) (hA : ey_W A ≠ 0) : ey_V (ey_m X A) = ey_W (ey_m X A) / ey_W A * ey_V A := by
  cases X with
  | none => 
    show 0 = 0 / _ * _
    rw [Nat.zero_div, Nat.zero_mul]
  | some x =>
    cases A with
    | none => exact absurd rfl hA
    | some y =>
      have hX : x.2.2 = 0 := hX
      have hA : y.2.1 ≠ 0 := hA
      show x.2.1 * y.2.2 + x.2.2 * y.2.1 = x.2.1 * y.2.1 / y.2.1 * y.2.2
      rw [hX, Nat.zero_mul, Nat.add_zero, Nat.mul_div_cancel _ (by omega)]
theorem ey_way (pn : Nat → Nat) (k : Nat) (hp : ∀ j, 1 ≤ j → pn j < j) (hq : ∀ j, pn j ≤ j) (z bu0 : Nat → Bool) (N : Nat) (hWn : ∀ n, 1 ≤ n → n < N → ey_W (ey_AA pn k z bu0 N n) = 0 → ey_AA pn k z bu0 N n = none) : ∀ n, 1 ≤ n → n < N → (∃ a, ey_pv pn k a = n) → ey_V ((ey_D pn k z bu0 N (N - 1)).2 0) = ey_R pn k z bu0 N (n + 1) n * ey_V (ey_AA pn k z bu0 N n) := by
  intro n
  induction n using Nat.strongRecOn with
  | _ n ih =>
    intro h1 h2 h3
    obtain ⟨a, ha⟩ := h3
    obtain ⟨X, x1, x2⟩ := ey_BX pn k hp hq z bu0 N h1 h2 ha
    rw [ey_R_s pn k hp z bu0 N h1]
    have lp := hp n h1
    by_cases e : pn n = 0
    · rw [e] at x1
      by_cases w : ey_W (ey_AA pn k z bu0 N n) = 0
      · rw [if_pos w, x1, hWn n h1 h2 w, ey_m_n]
        rfl
      · rw [if_neg w, if_pos (Or.inl e), e, x1, ey_WV x2 w]
        show _ = 1 * _ * _
        rw [Nat.one_mul]
    · have I := ih (pn n) lp (by omega) (by omega) ⟨a + 1, by
        show pn (ey_pv pn k a) = pn n
        rw [ha]⟩
      have nk : n ≤ k := by
        have := ey_pv_le pn k hq 0 a
        rw [Nat.zero_add, ha] at this
        exact this
      have own : ey_V (if (ey_D pn k z bu0 N (N - 1)).1 (pn n) then none else ey_t k (pn n)) = 0 := by
        split
        · rfl
        · show (if pn n = k then 1 else 0) = 0
          rw [if_neg (by omega)]
      have eA : ey_AA pn k z bu0 N (pn n) = ey_a (if z (pn n) then none else (ey_D pn k z bu0 N (N - 1)).2 (pn n)) (if (ey_D pn k z bu0 N (N - 1)).1 (pn n) then none else ey_t k (pn n)) := rfl
      by_cases w : ey_W (ey_AA pn k z bu0 N n) = 0
      · rw [if_pos w, Nat.zero_mul, I]
        have z0 : ey_V (ey_AA pn k z bu0 N (pn n)) = 0 := by
          rw [eA, x1, hWn n h1 h2 w, ey_m_n]
          refine ey_V_a ?_ own
          split <;> rfl
        rw [z0, Nat.mul_zero]
      · rw [if_neg w]
        by_cases c : z (pn n) = false ∧ ey_C ((ey_D pn k z bu0 N (N - 1)).2 (pn n)) = ey_C (ey_AA pn k z bu0 N (pn n))
        · rw [if_pos (Or.inr c), I, Nat.mul_assoc]
          congr 1
          have wv := ey_WV x2 w
          rw [← x1] at wv
          rw [← wv]
          have c2 := c.2
          rw [eA, c.1] at c2 ⊢
          generalize (ey_D pn k z bu0 N (N - 1)).2 (pn n) = B at c2 ⊢
          generalize (if (ey_D pn k z bu0 N (N - 1)).1 (pn n) = true then none else ey_t k (pn n)) = O at c2 own ⊢
          show ey_V (ey_a B O) = ey_V B
          have c2 : ey_C B = ey_C (ey_a B O) := c2
          cases B with
          | none => exact own
          | some b =>
            cases O with
            | none => rfl
            | some o =>
              rcases Nat.lt_trichotomy b.1 o.1 with h | h | h
              · rw [ey_lt h]
              · rw [ey_eq h]
                have own : o.2.2 = 0 := own
                show b.2.2 + o.2.2 = b.2.2
                omega
              · rw [ey_gt h] at c2
                have c2 : b.1 = o.1 := c2
                omega
        · rw [if_neg (fun q => q.elim e c), Nat.zero_mul, I]
          have z0 : ey_V (ey_AA pn k z bu0 N (pn n)) = 0 ∨ (z (pn n) = false ∧ ey_C ((ey_D pn k z bu0 N (N - 1)).2 (pn n)) = ey_C (ey_AA pn k z bu0 N (pn n))) := by
            rw [eA]
            generalize (ey_D pn k z bu0 N (N - 1)).2 (pn n) = B
            generalize (if (ey_D pn k z bu0 N (N - 1)).1 (pn n) = true then none else ey_t k (pn n)) = O at own ⊢
            cases z (pn n) with
            | true => exact Or.inl own
            | false =>
              show ey_V (ey_a B O) = 0 ∨ (false = false ∧ ey_C B = ey_C (ey_a B O))
              cases B with
              | none => exact Or.inl own
              | some b =>
                cases O with
                | none => exact Or.inr ⟨rfl, rfl⟩
                | some o =>
                  rcases Nat.lt_trichotomy b.1 o.1 with h | h | h
                  · rw [ey_lt h]
                    exact Or.inr ⟨rfl, rfl⟩
                  · rw [ey_eq h]
                    exact Or.inr ⟨rfl, rfl⟩
                  · rw [ey_gt h]
                    exact Or.inl own
          rcases z0 with z0 | z0
          · rw [z0, Nat.mul_zero]
          · exact absurd z0 c
/-- in how many of the sets the pipe itself is -/
theorem ey_own (pn : Nat → Nat) (k : Nat) (hp : ∀ j, 1 ≤ j → pn j < j) (hq : ∀ j, pn j ≤ j) (z bu0 : Nat → Bool) (N : Nat) (hk1 : 1 ≤ k) (hk : k < N) : ey_V (ey_AA pn k z bu0 N k) = if (ey_D pn k z bu0 N (N - 1)).1 k = false ∧ ey_C (ey_AA pn k z bu0 N k) = 1 then 1 else 0 := by
  have B0 : ey_V ((ey_D pn k z bu0 N (N - 1)).2 k) = 0 := by
    rw [ey_DQ pn k hp z bu0 N k (N - 1) (by omega)]
    have A : ∀ d, d + 1 ≤ N → ey_V (ey_Q pn k z bu0 N k d) = 0 := by
      intro d
      induction d with
      | zero => exact fun _ => rfl
      | succ d ihd =>
        intro hd
        show ey_V (if pn (N - 1 - d) = k then ey_m (ey_Q pn k z bu0 N k d) (ey_AA pn k z bu0 N (N - 1 - d)) else ey_Q pn k z bu0 N k d) = 0
        by_cases q : pn (N - 1 - d) = k
        · rw [if_pos q]
          have l := hp (N - 1 - d) (by omega)
          refine ey_V_m (ihd (by omega)) (ey_V0 pn k hp z bu0 N (N - (N - 1 - d)) (N - 1 - d) (by omega) (by omega) (fun e c => ?_))
          have := ey_pv_le pn k hq 0 e
          rw [Nat.zero_add, c] at this
          have : N - 1 - d ≤ k := this
          omega
        · rw [if_neg q]
          exact ihd (by omega)
    exact A (N - 1) (by omega)
  have eA : ey_AA pn k z bu0 N k = ey_a (if z k then none else (ey_D pn k z bu0 N (N - 1)).2 k) (if (ey_D pn k z bu0 N (N - 1)).1 k then none else ey_t k k) := rfl
  rw [eA]
  generalize (ey_D pn k z bu0 N (N - 1)).2 k = B at B0
  have b1 : ey_t k k = some (1, 1, 1) := by
    unfold ey_t
    rw [if_pos rfl]
  rw [b1]
  have Bz : ey_V (if z k = true then none else B) = 0 := by
    split
    · rfl
    · exact B0
  generalize (if z k = true then none else B) = Y at Bz
  cases (ey_D pn k z bu0 N (N - 1)).1 k with
  | true =>
    show ey_V (ey_a Y none) = _
    rw [ey_a_n, Bz, if_neg (fun q => absurd q.1 (by decide))]
  | false =>
    show ey_V (ey_a Y (some (1, 1, 1))) = if false = false ∧ ey_C (ey_a Y (some (1, 1, 1))) = 1 then 1 else 0
    cases Y with
    | none => rfl
    | some y =>
      have Bz : y.2.2 = 0 := Bz
      rcases Nat.lt_trichotomy y.1 1 with h | h | h
      · rw [ey_lt (y := (1, 1, 1)) h]
        show y.2.2 = if false = false ∧ y.1 = 1 then 1 else 0
        rw [Bz, if_neg (fun q => by omega)]
      · rw [ey_eq (y := (1, 1, 1)) h]
        show y.2.2 + 1 = if false = false ∧ y.1 = 1 then 1 else 0
        rw [Bz, if_pos ⟨rfl, h⟩]
      · rw [ey_gt (y := (1, 1, 1)) h]
        rfl
