/-! FIND: least numbers with how many ways, and in how many of them one pipe is. -/
def ey_a : Option (Nat × Nat × Nat) → Option (Nat × Nat × Nat) → Option (Nat × Nat × Nat)
  | none, y => y
  | some x, none => some x
  | some x, some y => if x.1 < y.1 then some x else if y.1 < x.1 then some y else some (x.1, x.2.1 + y.2.1, x.2.2 + y.2.2)
def ey_m : Option (Nat × Nat × Nat) → Option (Nat × Nat × Nat) → Option (Nat × Nat × Nat)
  | none, _ => none
  | some _, none => none
  | some x, some y => some (x.1 + y.1, x.2.1 * y.2.1, x.2.1 * y.2.2 + x.2.2 * y.2.1)
def ey_1 : Option (Nat × Nat × Nat) := some (0, 1, 0)
theorem ey_a_n (x : Option (Nat × Nat × Nat)) : ey_a x none = x := by cases x <;> rfl
theorem ey_m_n (x : Option (Nat × Nat × Nat)) : ey_m x none = none := by cases x <;> rfl
theorem ey_lt {x y : Nat × Nat × Nat} (h : x.1 < y.1) : ey_a (some x) (some y) = some x := if_pos h
theorem ey_gt {x y : Nat × Nat × Nat} (h : y.1 < x.1) : ey_a (some x) (some y) = some y := by
  show (if x.1 < y.1 then some x else if y.1 < x.1 then some y else _) = _
  rw [if_neg (by omega), if_pos h]
theorem ey_eq {x y : Nat × Nat × Nat} (h : x.1 = y.1) : ey_a (some x) (some y) = some (x.1, x.2.1 + y.2.1, x.2.2 + y.2.2) := by
  show (if x.1 < y.1 then some x else if y.1 < x.1 then some y else _) = _
  rw [if_neg (by omega), if_neg (by omega)]
theorem ey_a_comm (x y : Option (Nat × Nat × Nat)) : ey_a x y = ey_a y x := by
  cases x with
  | none => rw [ey_a_n]; rfl
  | some x =>
    cases y with
    | none => rfl
    | some y =>
      rcases Nat.lt_trichotomy x.1 y.1 with h | h | h
      · rw [ey_lt h, ey_gt h]
      · rw [ey_eq h, ey_eq h.symm, h, Nat.add_comm x.2.1, Nat.add_comm x.2.2]
      · rw [ey_gt h, ey_lt h]
theorem ey_a_assoc (x y z : Option (Nat × Nat × Nat)) : ey_a (ey_a x y) z = ey_a x (ey_a y z) := by
  cases x with
  | none => rfl
  | some x =>
    cases y with
    | none => rfl
    | some y =>
      cases z with
      | none => rw [ey_a_n, ey_a_n]
      | some z =>
        rcases Nat.lt_trichotomy x.1 y.1 with h | h | h
        · rw [ey_lt h]
          rcases Nat.lt_trichotomy y.1 z.1 with k | k | k
          · rw [ey_lt k, ey_lt h, ey_lt (by omega)]
          · rw [ey_eq k, ey_lt (by omega), ey_lt (by exact h)]
          · rw [ey_gt k]
        · rw [ey_eq h]
          rcases Nat.lt_trichotomy y.1 z.1 with k | k | k
          · rw [ey_lt k, ey_eq h]
            exact ey_lt (show x.1 < z.1 by omega)
          · rw [ey_eq k]
            refine (ey_eq (x := (x.1, x.2.1 + y.2.1, x.2.2 + y.2.2)) (y := z) (show x.1 = z.1 by omega)).trans ?_
            refine Eq.trans ?_ (ey_eq (x := x) (y := (y.1, y.2.1 + z.2.1, y.2.2 + z.2.2)) h).symm
            simp only [Nat.add_assoc]
          · rw [ey_gt k, ey_gt (show z.1 < x.1 by omega)]
            exact ey_gt (show z.1 < x.1 by omega)
        · rw [ey_gt h]
          rcases Nat.lt_trichotomy y.1 z.1 with k | k | k
          · rw [ey_lt k, ey_gt h]
          · rw [ey_eq k, ey_gt (by exact h)]
          · rw [ey_gt k, ey_gt (by omega)]
theorem ey_m_comm (x y : Option (Nat × Nat × Nat)) : ey_m x y = ey_m y x := by
  cases x with
  | none => rw [ey_m_n]; rfl
  | some x =>
    cases y with
    | none => rfl
    | some y =>
      show some (x.1 + y.1, x.2.1 * y.2.1, x.2.1 * y.2.2 + x.2.2 * y.2.1) = some (y.1 + x.1, y.2.1 * x.2.1, y.2.1 * x.2.2 + y.2.2 * x.2.1)
      rw [Nat.add_comm x.1, Nat.mul_comm x.2.1, Nat.mul_comm x.2.1, Nat.mul_comm x.2.2, Nat.add_comm (y.2.2 * _)]
theorem ey_m_assoc (x y z : Option (Nat × Nat × Nat)) : ey_m (ey_m x y) z = ey_m x (ey_m y z) := by
  cases x with
  | none => rfl
  | some x =>
    cases y with
    | none => rfl
    | some y =>
      cases z with
      | none => rfl
      | some z =>
        show some (x.1 + y.1 + z.1, x.2.1 * y.2.1 * z.2.1, x.2.1 * y.2.1 * z.2.2 + (x.2.1 * y.2.2 + x.2.2 * y.2.1) * z.2.1) = some (x.1 + (y.1 + z.1), x.2.1 * (y.2.1 * z.2.1), x.2.1 * (y.2.1 * z.2.2 + y.2.2 * z.2.1) + x.2.2 * (y.2.1 * z.2.1))
        simp only [Nat.add_assoc, Nat.mul_assoc, Nat.mul_add, Nat.add_mul]
theorem ey_m_1 (x : Option (Nat × Nat × Nat)) : ey_m ey_1 x = x := by
  cases x with
  | none => rfl
  | some x =>
    show some (0 + x.1, 1 * x.2.1, 1 * x.2.2 + 0 * x.2.1) = some x
    simp
theorem ey_1_m (x : Option (Nat × Nat × Nat)) : ey_m x ey_1 = x := by rw [ey_m_comm, ey_m_1]
theorem ey_dist (x y z : Option (Nat × Nat × Nat)) : ey_m x (ey_a y z) = ey_a (ey_m x y) (ey_m x z) := by
  cases x with
  | none => rfl
  | some x =>
    cases y with
    | none => rfl
    | some y =>
      cases z with
      | none => rw [ey_a_n, ey_m_n, ey_a_n]
      | some z =>
        show ey_m (some x) (ey_a (some y) (some z)) = ey_a (some (x.1 + y.1, x.2.1 * y.2.1, x.2.1 * y.2.2 + x.2.2 * y.2.1)) (some (x.1 + z.1, x.2.1 * z.2.1, x.2.1 * z.2.2 + x.2.2 * z.2.1))
        rcases Nat.lt_trichotomy y.1 z.1 with k | k | k
        · rw [ey_lt k, ey_lt (show x.1 + y.1 < x.1 + z.1 by omega)]
          rfl
        · rw [ey_eq k, ey_eq (show x.1 + y.1 = x.1 + z.1 by omega)]
          show some (x.1 + y.1, x.2.1 * (y.2.1 + z.2.1), x.2.1 * (y.2.2 + z.2.2) + x.2.2 * (y.2.1 + z.2.1)) = some (x.1 + y.1, x.2.1 * y.2.1 + x.2.1 * z.2.1, x.2.1 * y.2.2 + x.2.2 * y.2.1 + (x.2.1 * z.2.2 + x.2.2 * z.2.1))
          rw [Nat.mul_add, Nat.mul_add, Nat.mul_add]
          congr 3
          omega
        · rw [ey_gt k, ey_gt (show x.1 + z.1 < x.1 + y.1 by omega)]
          rfl
/-- sums and products -/
def ey_S (f : Nat → Option (Nat × Nat × Nat)) : Nat → Option (Nat × Nat × Nat)
  | 0 => none
  | n + 1 => ey_a (ey_S f n) (f n)
def ey_P (g : Nat → Option (Nat × Nat × Nat)) : Nat → Option (Nat × Nat × Nat)
  | 0 => ey_1
  | n + 1 => ey_m (ey_P g n) (g n)
theorem ey_S_c {f g : Nat → Option (Nat × Nat × Nat)} : ∀ {n}, (∀ i, i < n → f i = g i) → ey_S f n = ey_S g n
  | 0, _ => rfl
  | n + 1, h => by
    show ey_a (ey_S f n) (f n) = ey_a (ey_S g n) (g n)
    rw [ey_S_c (fun i hi => h i (by omega)), h n (by omega)]
theorem ey_S_app (f : Nat → Option (Nat × Nat × Nat)) (a : Nat) : ∀ b, ey_S f (a + b) = ey_a (ey_S f a) (ey_S (fun i => f (a + i)) b)
  | 0 => (ey_a_n _).symm
  | b + 1 => by
    show ey_a (ey_S f (a + b)) (f (a + b)) = ey_a (ey_S f a) (ey_a (ey_S (fun i => f (a + i)) b) (f (a + b)))
    rw [ey_S_app f a b, ey_a_assoc]
theorem ey_S_add (f g : Nat → Option (Nat × Nat × Nat)) : ∀ n, ey_a (ey_S f n) (ey_S g n) = ey_S (fun i => ey_a (f i) (g i)) n
  | 0 => rfl
  | n + 1 => by
    show ey_a (ey_a (ey_S f n) (f n)) (ey_a (ey_S g n) (g n)) = ey_a (ey_S (fun i => ey_a (f i) (g i)) n) (ey_a (f n) (g n))
    rw [← ey_S_add f g n]
    simp only [ey_a_assoc]
    congr 1
    rw [← ey_a_assoc, ey_a_comm (f n), ey_a_assoc]
theorem ey_P_c {f g : Nat → Option (Nat × Nat × Nat)} : ∀ {n}, (∀ i, i < n → f i = g i) → ey_P f n = ey_P g n
  | 0, _ => rfl
  | n + 1, h => by
    show ey_m (ey_P f n) (f n) = ey_m (ey_P g n) (g n)
    rw [ey_P_c (fun i hi => h i (by omega)), h n (by omega)]
theorem ey_P_up {g g' : Nat → Option (Nat × Nat × Nat)} {p : Nat} {h : Option (Nat × Nat × Nat)} (hp : g' p = ey_m (g p) h) : ∀ {n}, (∀ j, j < n → j ≠ p → g' j = g j) → p < n → ey_P g' n = ey_m (ey_P g n) h
  | 0, _, q => absurd q (by omega)
  | n + 1, hj, q => by
    show ey_m (ey_P g' n) (g' n) = ey_m (ey_m (ey_P g n) (g n)) h
    by_cases e : p = n
    · rw [← e, hp, ey_P_c (f := g') (g := g) (fun i hi => hj i (by omega) (by omega)), ey_m_assoc]
    · rw [ey_P_up hp (fun j h1 h2 => hj j (by omega) h2) (by omega : p < n), hj n (by omega) (fun c => e c.symm), ey_m_assoc, ey_m_assoc, ey_m_comm h]
/-! sets of pipes -/
/-- whether a pipe on the way to a node is taken -/
def ey_w (pn : Nat → Nat) (S : Nat) : Nat → Nat → Bool
  | 0, _ => false
  | f + 1, j => !(Nat.beq j 0) && (S.testBit j || ey_w pn S f (pn j))
theorem ey_w_f (pn : Nat → Nat) (hp : ∀ j, 1 ≤ j → pn j < j) (S : Nat) : ∀ f g j, j < f → j < g → ey_w pn S f j = ey_w pn S g j := by
  intro f
  induction f with
  | zero => intro g j h; exact absurd h (by omega)
  | succ f ih =>
    intro g j h1 h2
    obtain ⟨g', rfl⟩ : ∃ g', g = g' + 1 := ⟨g - 1, by omega⟩
    show (!(Nat.beq j 0) && (S.testBit j || ey_w pn S f (pn j))) = (!(Nat.beq j 0) && (S.testBit j || ey_w pn S g' (pn j)))
    by_cases e : j = 0
    · subst e
      rfl
    · have := hp j (by omega)
      rw [ih g' (pn j) (by omega) (by omega)]
theorem ey_w_0 (pn : Nat → Nat) (S f : Nat) : ey_w pn S f 0 = false := by
  cases f <;> rfl
theorem ey_w_s (pn : Nat → Nat) (hp : ∀ j, 1 ≤ j → pn j < j) (S : Nat) {j : Nat} (hj : 1 ≤ j) : ey_w pn S (j + 1) j = (S.testBit j || ey_w pn S (pn j + 1) (pn j)) := by
  show (!(Nat.beq j 0) && (S.testBit j || ey_w pn S j (pn j))) = _
  have e : Nat.beq j 0 = false := by
    cases j with
    | zero => omega
    | succ j => rfl
  have := hp j hj
  rw [e, ey_w_f pn hp S j (pn j + 1) (pn j) (by omega) (by omega)]
  rfl
theorem ey_w_hi (pn : Nat → Nat) (hp : ∀ j, 1 ≤ j → pn j < j) (n S : Nat) : ∀ f j, j < n → ey_w pn (2 ^ n + S) f j = ey_w pn S f j := by
  intro f
  induction f with
  | zero => intro j _; rfl
  | succ f ih =>
    intro j h
    show (!(Nat.beq j 0) && ((2 ^ n + S).testBit j || ey_w pn (2 ^ n + S) f (pn j))) = (!(Nat.beq j 0) && (S.testBit j || ey_w pn S f (pn j)))
    rw [Nat.testBit_two_pow_add_gt h]
    by_cases e : j = 0
    · subst e
      rfl
    · have := hp j (by omega)
      rw [ih (pn j) (by omega)]
/-- a pipe that is taken -/
def ey_t (k j : Nat) : Option (Nat × Nat × Nat) := some (1, 1, if j = k then 1 else 0)
def ey_k (bu z : Bool) (B : Option (Nat × Nat × Nat)) (wet : Bool) : Option (Nat × Nat × Nat) := if wet then (if bu then none else ey_1) else (if z then none else B)
def ey_g (pn : Nat → Nat) (k : Nat) (z bu : Nat → Bool) (B : Nat → Option (Nat × Nat × Nat)) (S j : Nat) : Option (Nat × Nat × Nat) := ey_m (if S.testBit j then ey_t k j else ey_1) (ey_k (bu j) (z j) (B j) (ey_w pn S (j + 1) j))
/-- a node's own pipe, or those behind it -/
def ey_A (k : Nat) (z bu : Nat → Bool) (B : Nat → Option (Nat × Nat × Nat)) (n : Nat) : Option (Nat × Nat × Nat) := ey_a (if z n then none else B n) (if bu n then none else ey_t k n)
theorem ey_elim (pn : Nat → Nat) (k : Nat) (hp : ∀ j, 1 ≤ j → pn j < j) (z bu : Nat → Bool) (B : Nat → Option (Nat × Nat × Nat)) (n : Nat) : ey_S (fun m => ey_P (ey_g pn k z bu B (2 * m)) (n + 2)) (2 ^ (n + 1)) = ey_S (fun m => ey_P (ey_g pn k z (up bu (pn (n + 1)) (bu (pn (n + 1)) || bu (n + 1))) (up B (pn (n + 1)) (ey_m (B (pn (n + 1))) (ey_A k z bu B (n + 1)))) (2 * m)) (n + 1)) (2 ^ n) := by
  have e2 : 2 ^ (n + 1) = 2 ^ n + 2 ^ n := by rw [Nat.pow_succ]; omega
  have hpn := hp (n + 1) (by omega)
  rw [e2, ey_S_app, ey_S_add]
  refine ey_S_c (fun m hm => ?_)
  have es : 2 * (2 ^ n + m) = 2 ^ (n + 1) + 2 * m := by rw [Nat.pow_succ]; omega
  show ey_a (ey_P (ey_g pn k z bu B (2 * m)) (n + 2)) (ey_P (ey_g pn k z bu B (2 * (2 ^ n + m))) (n + 2)) = _
  rw [es]
  have hS : 2 * m < 2 ^ (n + 1) := by rw [Nat.pow_succ]; omega
  generalize 2 * m = S at hS
  have c1 : ey_P (ey_g pn k z bu B (2 ^ (n + 1) + S)) (n + 1) = ey_P (ey_g pn k z bu B S) (n + 1) := ey_P_c (fun j hj => by
    unfold ey_g
    rw [Nat.testBit_two_pow_add_gt hj, ey_w_hi pn hp _ _ _ _ hj])
  have b0 : S.testBit (n + 1) = false := Nat.testBit_lt_two_pow hS
  have b1 : (2 ^ (n + 1) + S).testBit (n + 1) = true := by rw [Nat.testBit_two_pow_add_eq, b0]; rfl
  show ey_a (ey_m (ey_P (ey_g pn k z bu B S) (n + 1)) (ey_g pn k z bu B S (n + 1))) (ey_m (ey_P (ey_g pn k z bu B (2 ^ (n + 1) + S)) (n + 1)) (ey_g pn k z bu B (2 ^ (n + 1) + S) (n + 1))) = _
  rw [c1, ← ey_dist]
  have g0 : ey_g pn k z bu B S (n + 1) = ey_k (bu (n + 1)) (z (n + 1)) (B (n + 1)) (ey_w pn S (pn (n + 1) + 1) (pn (n + 1))) := by
    unfold ey_g
    rw [b0, ey_w_s pn hp S (by omega), b0]
    exact ey_m_1 _
  have g1 : ey_g pn k z bu B (2 ^ (n + 1) + S) (n + 1) = ey_m (ey_t k (n + 1)) (if bu (n + 1) then none else ey_1) := by
    unfold ey_g
    rw [b1, ey_w_s pn hp _ (by omega), b1]
    rfl
  rw [g0, g1]
  refine (ey_P_up (p := pn (n + 1)) ?_ (fun j _ hj => ?_) hpn).symm
  · unfold ey_g
    rw [up_self, up_self, ey_m_assoc]
    congr 1
    cases ey_w pn S (pn (n + 1) + 1) (pn (n + 1)) with
    | true =>
      show (if (bu (pn (n + 1)) || bu (n + 1)) then none else ey_1) = ey_m (if bu (pn (n + 1)) then none else ey_1) (ey_a (if bu (n + 1) then none else ey_1) (ey_m (ey_t k (n + 1)) (if bu (n + 1) then none else ey_1)))
      cases bu (pn (n + 1)) <;> cases bu (n + 1) <;> rfl
    | false =>
      show (if z (pn (n + 1)) then none else ey_m (B (pn (n + 1))) (ey_A k z bu B (n + 1))) = ey_m (if z (pn (n + 1)) then none else B (pn (n + 1))) (ey_a (if z (n + 1) then none else B (n + 1)) (ey_m (ey_t k (n + 1)) (if bu (n + 1) then none else ey_1)))
      have et : ey_m (ey_t k (n + 1)) (if bu (n + 1) then none else ey_1) = if bu (n + 1) then none else ey_t k (n + 1) := by
        cases bu (n + 1)
        · exact ey_1_m _
        · rfl
      rw [et]
      cases z (pn (n + 1)) <;> rfl
  · unfold ey_g
    rw [up_ne hj, up_ne hj]
