/-! BEST: the search, as it is meant. -/
/-- the first of some that is found -/
def fst_o {α : Type} (g : Nat → Option α) : Nat → Option (Nat × α)
  | 0 => none
  | n + 1 => match fst_o g n with
    | some r => some r
    | none => match g n with
      | some y => some (n, y)
      | none => none
theorem fst_none {α : Type} {g : Nat → Option α} : ∀ {n}, fst_o g n = none ↔ ∀ v, v < n → g v = none
  | 0 => ⟨fun _ v h => absurd h (by omega), fun _ => rfl⟩
  | n + 1 => by
    have ih := fst_none (g := g) (n := n)
    constructor
    · intro h v hv
      unfold fst_o at h
      cases e : fst_o g n with
      | some r => rw [e] at h; cases h
      | none =>
        rw [e] at h
        by_cases q : v = n
        · subst q
          cases e2 : g v with
          | none => rfl
          | some y => rw [e2] at h; cases h
        · exact ih.mp e v (by omega)
    · intro h
      unfold fst_o
      rw [ih.mpr (fun v hv => h v (by omega)), h n (by omega)]
theorem fst_some {α : Type} {g : Nat → Option α} {m : Nat} {y : α} : ∀ {n}, fst_o g n = some (m, y) ↔ m < n ∧ g m = some y ∧ ∀ v, v < m → g v = none
  | 0 => ⟨fun h => (by cases h), fun h => absurd h.1 (by omega)⟩
  | n + 1 => by
    have ih := fst_some (g := g) (m := m) (y := y) (n := n)
    constructor
    · intro h
      unfold fst_o at h
      cases e : fst_o g n with
      | some r =>
        rw [e] at h
        have hr : r = (m, y) := by injection h
        rw [hr] at e
        have k := ih.mp e
        exact ⟨by omega, k.2⟩
      | none =>
        rw [e] at h
        have z := fst_none.mp e
        cases e2 : g n with
        | none => rw [e2] at h; cases h
        | some y' =>
          rw [e2] at h
          have hr : (n, y') = (m, y) := by injection h
          have h1 : n = m := congrArg Prod.fst hr
          have h2 : y' = y := congrArg Prod.snd hr
          subst h1 h2
          exact ⟨by omega, e2, z⟩
    · intro h
      unfold fst_o
      by_cases q : m < n
      · rw [ih.mpr ⟨q, h.2⟩]
      · have : m = n := by omega
        subst this
        rw [fst_none.mpr h.2.2, h.2.1]
/-- the first of two tries -/
def or_o {α : Type} (a b : Option α) : Option α := match a with
  | some x => some x
  | none => b
/-- first value found among f 0, f 1, .. -/
def bs_F {α : Type} (f : Nat → Option α) : Nat → Option α
  | 0 => none
  | n + 1 => or_o (bs_F f n) (f n)
theorem bs_F_c {α : Type} {f g : Nat → Option α} : ∀ {n}, (∀ i, i < n → f i = g i) → bs_F f n = bs_F g n
  | 0, _ => rfl
  | n + 1, h => by
    show or_o (bs_F f n) (f n) = or_o (bs_F g n) (g n)
    rw [bs_F_c (fun i hi => h i (by omega)), h n (by omega)]
theorem bs_F_none {α : Type} {f : Nat → Option α} : ∀ {n}, (∀ i, i < n → f i = none) → bs_F f n = none
  | 0, _ => rfl
  | n + 1, h => by
    show or_o (bs_F f n) (f n) = none
    rw [bs_F_none (fun i hi => h i (by omega)), h n (by omega)]
    rfl
/-- the best so far, and what is tried after it -/
theorem fst_or {α : Type} (g h : Nat → Option α) (f : Nat) (c : α) : (fst_o (fun v => or_o (g v) (h v)) f).getD (f, c) = (fst_o h ((fst_o g f).getD (f, c)).1).getD ((fst_o g f).getD (f, c)) := by
  cases e : fst_o g f with
  | none =>
    have z := fst_none.mp e
    show _ = (fst_o h f).getD (f, c)
    congr 1
    have e2 : ∀ v, v < f → or_o (g v) (h v) = h v := fun v hv => by rw [z v hv]; rfl
    cases e3 : fst_o h f with
    | none =>
      rw [fst_none] at e3 ⊢
      intro v hv
      rw [e2 v hv, e3 v hv]
    | some r =>
      obtain ⟨m, y⟩ := r
      rw [fst_some] at e3 ⊢
      exact ⟨e3.1, by rw [e2 m e3.1]; exact e3.2.1, fun v hv => by rw [e2 v (by omega)]; exact e3.2.2 v hv⟩
  | some r =>
    obtain ⟨m, y⟩ := r
    have z := fst_some.mp e
    show _ = (fst_o h m).getD (m, y)
    have e2 : ∀ v, v < m → or_o (g v) (h v) = h v := fun v hv => by rw [z.2.2 v hv]; rfl
    cases e3 : fst_o h m with
    | none =>
      have z3 := fst_none.mp e3
      have k : fst_o (fun v => or_o (g v) (h v)) f = some (m, y) := fst_some.mpr ⟨z.1, by rw [z.2.1]; rfl, fun v hv => by rw [e2 v hv]; exact z3 v hv⟩
      rw [k]
      rfl
    | some r =>
      obtain ⟨m', y'⟩ := r
      have z3 := fst_some.mp e3
      have k : fst_o (fun v => or_o (g v) (h v)) f = some (m', y') := fst_some.mpr ⟨by omega, by rw [e2 m' z3.1]; exact z3.2.1, fun v hv => by rw [e2 v (by omega)]; exact z3.2.2 v hv⟩
      rw [k]
      rfl
section BEST
variable (C : Nat → (Nat → Int32) → Nat) (L : Nat → (Nat → Int32) → Int32 → Int32)
/-- the first plan of so many charges, its places from 8 - k on yet to fill -/
def bs_D : Nat → (Nat → Int32) → Int32 → Nat → Option (Nat → Int32)
  | 0, x, _, left => if left = 0 then some x else none
  | k + 1, x, lv, left => bs_F (fun n => if L (7 - k) (up x (7 - k) (Int32.ofNat n)) lv < 0 then none else bs_D k (up x (7 - k) (Int32.ofNat n)) (L (7 - k) (up x (7 - k) (Int32.ofNat n)) lv) (left - n)) (min left (C (7 - k) x) + 1)
/-- what the class does: the fewest so far, and their plan -/
def bs_S (S : Nat) : Nat → (Nat → Int32) → Nat → Int32 → Nat × (Nat → Int32) → Nat × (Nat → Int32)
  | 0, x, used, _, st => if st.1 ≤ used then st else (used, x)
  | k + 1, x, used, lv, st => if st.1 ≤ used then st else (Nat.rec (motive := fun _ => Nat × (Nat → Int32)) st (fun n st => if L (7 - k) (up x (7 - k) (Int32.ofNat n)) lv < 0 then st else bs_S S k (up x (7 - k) (Int32.ofNat n)) (used + n) (L (7 - k) (up x (7 - k) (Int32.ofNat n)) lv) st) (min (S - used) (C (7 - k) x) + 1))
/-- what is found for so many in all -/
def bs_g (S : Nat) (k : Nat) (x : Nat → Int32) (used : Nat) (lv : Int32) (v : Nat) : Option (Nat → Int32) := if used ≤ v ∧ v ≤ S then bs_D C L k x lv (v - used) else none
theorem bs_SD (S : Nat) : ∀ k x used lv (f : Nat) (c : Nat → Int32), used ≤ S → bs_S C L S k x used lv (f, c) = (fst_o (bs_g C L S k x used lv) f).getD (f, c) := by
  intro k
  induction k with
  | zero =>
    intro x used lv f c hS
    by_cases h : f ≤ used
    · have e : fst_o (bs_g C L S 0 x used lv) f = none := fst_none.mpr (fun v hv => if_neg (by omega))
      rw [e]
      show (if f ≤ used then (f, c) else (used, x)) = (f, c)
      rw [if_pos h]
    · have e : fst_o (bs_g C L S 0 x used lv) f = some (used, x) := fst_some.mpr ⟨by omega, by
        unfold bs_g
        rw [if_pos ⟨Nat.le_refl _, hS⟩, Nat.sub_self]
        rfl, fun v hv => if_neg (by omega)⟩
      rw [e]
      show (if f ≤ used then (f, c) else (used, x)) = (used, x)
      rw [if_neg h]
  | succ k ih =>
    intro x used lv f c hS
    by_cases h : f ≤ used
    · have e : fst_o (bs_g C L S (k + 1) x used lv) f = none := fst_none.mpr (fun v hv => if_neg (by omega))
      rw [e]
      show (if f ≤ used then (f, c) else _) = (f, c)
      rw [if_pos h]
    · have key : ∀ b, b ≤ min (S - used) (C (7 - k) x) + 1 → Nat.rec (motive := fun _ => Nat × (Nat → Int32)) (f, c) (fun n st => if L (7 - k) (up x (7 - k) (Int32.ofNat n)) lv < 0 then st else bs_S C L S k (up x (7 - k) (Int32.ofNat n)) (used + n) (L (7 - k) (up x (7 - k) (Int32.ofNat n)) lv) st) b = (fst_o (fun v => if used ≤ v ∧ v ≤ S then bs_F (fun n => if L (7 - k) (up x (7 - k) (Int32.ofNat n)) lv < 0 then none else bs_D C L k (up x (7 - k) (Int32.ofNat n)) (L (7 - k) (up x (7 - k) (Int32.ofNat n)) lv) (v - used - n)) (min b (min (v - used) (C (7 - k) x) + 1)) else none) f).getD (f, c) := by
        intro b
        induction b with
        | zero =>
          intro _
          have e : fst_o (fun v => if used ≤ v ∧ v ≤ S then bs_F (fun n => if L (7 - k) (up x (7 - k) (Int32.ofNat n)) lv < 0 then none else bs_D C L k (up x (7 - k) (Int32.ofNat n)) (L (7 - k) (up x (7 - k) (Int32.ofNat n)) lv) (v - used - n)) (min 0 (min (v - used) (C (7 - k) x) + 1)) else none) f = none := fst_none.mpr (fun v hv => by
            rw [Nat.zero_min]
            show (if used ≤ v ∧ v ≤ S then none else none) = none
            split <;> rfl)
          rw [e]
          rfl
        | succ b ihb =>
          intro hb
          have r := ihb (by omega)
          show (if L (7 - k) (up x (7 - k) (Int32.ofNat b)) lv < 0 then _ else bs_S C L S k (up x (7 - k) (Int32.ofNat b)) (used + b) (L (7 - k) (up x (7 - k) (Int32.ofNat b)) lv) _) = _
          rw [r]
          have e1 : (fun v => if used ≤ v ∧ v ≤ S then bs_F (fun n => if L (7 - k) (up x (7 - k) (Int32.ofNat n)) lv < 0 then none else bs_D C L k (up x (7 - k) (Int32.ofNat n)) (L (7 - k) (up x (7 - k) (Int32.ofNat n)) lv) (v - used - n)) (min (b + 1) (min (v - used) (C (7 - k) x) + 1)) else none) = fun v => or_o (if used ≤ v ∧ v ≤ S then bs_F (fun n => if L (7 - k) (up x (7 - k) (Int32.ofNat n)) lv < 0 then none else bs_D C L k (up x (7 - k) (Int32.ofNat n)) (L (7 - k) (up x (7 - k) (Int32.ofNat n)) lv) (v - used - n)) (min b (min (v - used) (C (7 - k) x) + 1)) else none) (if L (7 - k) (up x (7 - k) (Int32.ofNat b)) lv < 0 then none else bs_g C L S k (up x (7 - k) (Int32.ofNat b)) (used + b) (L (7 - k) (up x (7 - k) (Int32.ofNat b)) lv) v) := by
            funext v
            unfold bs_g
            by_cases q : used ≤ v ∧ v ≤ S
            · rw [if_pos q, if_pos q]
              by_cases q2 : used + b ≤ v
              · have m1 : min (b + 1) (min (v - used) (C (7 - k) x) + 1) = b + 1 := by omega
                have m2 : min b (min (v - used) (C (7 - k) x) + 1) = b := by omega
                rw [m1, m2, if_pos (show used + b ≤ v ∧ v ≤ S from ⟨q2, q.2⟩), show v - (used + b) = v - used - b by omega]
                rfl
              · have m1 : min (b + 1) (min (v - used) (C (7 - k) x) + 1) = min b (min (v - used) (C (7 - k) x) + 1) := by omega
                rw [m1, if_neg (show ¬ (used + b ≤ v ∧ v ≤ S) from fun z => q2 z.1), ite_self]
                cases bs_F (fun n => if L (7 - k) (up x (7 - k) (Int32.ofNat n)) lv < 0 then none else bs_D C L k (up x (7 - k) (Int32.ofNat n)) (L (7 - k) (up x (7 - k) (Int32.ofNat n)) lv) (v - used - n)) (min b (min (v - used) (C (7 - k) x) + 1)) <;> rfl
            · rw [if_neg q, if_neg q, if_neg (show ¬ (used + b ≤ v ∧ v ≤ S) from fun z => q ⟨by omega, z.2⟩), ite_self]
              rfl
          rw [e1, fst_or]
          by_cases q : L (7 - k) (up x (7 - k) (Int32.ofNat b)) lv < 0
          · simp only [if_pos q]
            have e2 : ∀ n, fst_o (fun _ : Nat => (none : Option (Nat → Int32))) n = none := fun n => fst_none.mpr (fun _ _ => rfl)
            rw [e2]
            rfl
          · simp only [if_neg q]
            obtain ⟨f', c'⟩ := (fst_o (fun v => if used ≤ v ∧ v ≤ S then bs_F (fun n => if L (7 - k) (up x (7 - k) (Int32.ofNat n)) lv < 0 then none else bs_D C L k (up x (7 - k) (Int32.ofNat n)) (L (7 - k) (up x (7 - k) (Int32.ofNat n)) lv) (v - used - n)) (min b (min (v - used) (C (7 - k) x) + 1)) else none) f).getD (f, c)
            exact ih _ _ _ _ _ (by omega)
      show (if f ≤ used then (f, c) else _) = _
      rw [if_neg h, key _ (Nat.le_refl _)]
      congr 2
      funext v
      unfold bs_g
      by_cases q : used ≤ v ∧ v ≤ S
      · rw [if_pos q, if_pos q]
        have m : min (min (S - used) (C (7 - k) x) + 1) (min (v - used) (C (7 - k) x) + 1) = min (v - used) (C (7 - k) x) + 1 := by omega
        rw [m]
        rfl
      · rw [if_neg q, if_neg q]
end BEST
