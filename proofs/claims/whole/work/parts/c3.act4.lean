/-! ACT: the tokens of a text. -/
def tz_sg (T : Nat → Int32) (L i : Nat) : Int32 := if i < L then T i else -1
def tz_bl (c : Int32) : Bool := c == 32 || c == 10
def tz_le (c : Int32) : Bool := (decide (97 ≤ c) && decide (c ≤ 122)) || (decide (65 ≤ c) && decide (c ≤ 90))
def tz_di (c : Int32) : Bool := decide (48 ≤ c) && decide (c ≤ 57)
def tz_sk (f : Int32 → Bool) (T : Nat → Int32) (L : Nat) : Nat → Nat → Nat
  | 0, p => p
  | n + 1, p => if f (tz_sg T L p) then tz_sk f T L n (p + 1) else p
def tz_q (f : Int32 → Bool) (T : Nat → Int32) (L p : Nat) : Nat := tz_sk f T L (L + 1) p
theorem tz_sk_s {f : Int32 → Bool} {T : Nat → Int32} {L : Nat} (hf : f (-1) = false) : ∀ n p, L < n + p → p ≤ tz_sk f T L n p ∧ f (tz_sg T L (tz_sk f T L n p)) = false ∧ (∀ i, p ≤ i → i < tz_sk f T L n p → f (tz_sg T L i) = true) ∧ (p ≤ L → tz_sk f T L n p ≤ L) := by
  intro n
  induction n with
  | zero =>
    intro p h
    have e : tz_sg T L p = -1 := if_neg (by omega)
    exact ⟨Nat.le_refl p, by
      show f (tz_sg T L p) = false
      rw [e, hf], fun i h1 h2 => absurd h2 (Nat.not_lt.mpr h1), fun h => h⟩
  | succ n ih =>
    intro p h
    unfold tz_sk
    by_cases c : f (tz_sg T L p) = true
    · rw [if_pos c]
      have pl : p < L := by
        apply Classical.byContradiction
        intro q
        have e : tz_sg T L p = -1 := if_neg q
        rw [e, hf] at c
        exact absurd c (by decide)
      obtain ⟨a1, a2, a3, a4⟩ := ih (p + 1) (by omega)
      refine ⟨by omega, a2, fun i h1 h2 => ?_, fun _ => a4 (by omega)⟩
      by_cases e : i = p
      · rw [e]
        exact c
      · exact a3 i (by omega) h2
    · rw [if_neg c]
      refine ⟨Nat.le_refl p, ?_, fun i h1 h2 => absurd h2 (Nat.not_lt.mpr h1), fun h => h⟩
      cases h : f (tz_sg T L p) with
      | false => rfl
      | true => exact absurd h c
theorem tz_q_s {f : Int32 → Bool} (hf : f (-1) = false) (T : Nat → Int32) (L p : Nat) : p ≤ tz_q f T L p ∧ f (tz_sg T L (tz_q f T L p)) = false ∧ (∀ i, p ≤ i → i < tz_q f T L p → f (tz_sg T L i) = true) ∧ (p ≤ L → tz_q f T L p ≤ L) := tz_sk_s hf (L + 1) p (by omega)
/-- a word of the language -/
def tz_is (T : Nat → Int32) (st e : Nat) (w : List Int32) : Bool := e - st == w.length && (List.range w.length).all (fun i => T (st + i) == w.getD i 0)
def tz_word (T : Nat → Int32) (st e : Nat) : Nat → Nat
  | 0 => 1
  | n + 1 => if tz_is T st e (mm_Y (12 - n)) then 15 - n else tz_word T st e n
def tz_num (T : Nat → Int32) (st : Nat) : Nat → Int32
  | 0 => 0
  | i + 1 => tz_num T st i * 10 + T (st + i) - 48
def tz_sign (c : Int32) : Nat := if c = 59 then 16 else if c = 43 then 17 else if c = 45 then 18 else if c = 42 then 19 else if c = 47 then 20 else if c = 40 then 21 else if c = 41 then 22 else if c = 60 then 23 else if c = 61 then 24 else if c = 62 then 25 else 1
/-- the token at a place that is no blank -/
def tz_at (T : Nat → Int32) (L st : Nat) : Nat × Int32 × Nat × Nat :=
  if tz_sg T L st = -1 then (0, 0, st, st)
  else if tz_le (tz_sg T L st) then (tz_word T st (tz_q tz_le T L st) 13, 0, st, tz_q tz_le T L st)
  else if tz_di (tz_sg T L st) then (if tz_q tz_di T L st - st ≤ 5 then (2, tz_num T st (tz_q tz_di T L st - st), st, tz_q tz_di T L st) else (1, 0, st, tz_q tz_di T L st))
  else (tz_sign (tz_sg T L st), 0, st, st + 1)
def tz (T : Nat → Int32) (L : Nat) : tkT := fun p => tz_at T L (tz_q tz_bl T L p)
theorem tz_word_r (T : Nat → Int32) (st e : Nat) : ∀ n, n ≤ 13 → 1 ≤ tz_word T st e n ∧ tz_word T st e n ≠ 2 ∧ tz_word T st e n ≤ 15
  | 0, _ => ⟨Nat.le_refl 1, by
    show 1 ≠ 2
    decide, by
    show 1 ≤ 15
    decide⟩
  | n + 1, h => by
    unfold tz_word
    split
    · omega
    · exact tz_word_r T st e n (by omega)
theorem tz_sign_r (c : Int32) : 1 ≤ tz_sign c ∧ tz_sign c ≠ 2 ∧ tz_sign c ≤ 25 := by
  unfold tz_sign
  repeat' split
  all_goals decide
theorem tz_E (T : Nat → Int32) (L : Nat) : tkE (tz T L) L ∧ (∀ p, tK (tz T L) p ≠ 0 → tN (tz T L) p ≤ L) ∧ (∀ p, p ≤ tA (tz T L) p ∧ (p ≤ L → tA (tz T L) p ≤ L ∧ tN (tz T L) p ≤ L)) := by
  have key : ∀ p, ((tK (tz T L) p ≠ 0 → p < tN (tz T L) p ∧ p < L ∧ tN (tz T L) p ≤ L) ∧ (tK (tz T L) p ≠ 2 → tV (tz T L) p = 0)) ∧ (p ≤ tA (tz T L) p ∧ (p ≤ L → tA (tz T L) p ≤ L ∧ tN (tz T L) p ≤ L)) := fun p => by
    unfold tK tV tN tA tz
    obtain ⟨a1, a2, a3, a4⟩ := tz_q_s (f := tz_bl) (by decide) T L p
    generalize tz_q tz_bl T L p = st at a1 a2 a3 a4
    unfold tz_at
    by_cases c : tz_sg T L st = -1
    · rw [if_pos c]
      exact ⟨⟨fun q => absurd rfl q, fun _ => rfl⟩, a1, fun h => ⟨a4 h, a4 h⟩⟩
    · rw [if_neg c]
      have sl : st < L := by
        apply Classical.byContradiction
        intro q
        exact c (if_neg q)
      by_cases c1 : tz_le (tz_sg T L st) = true
      · rw [if_pos c1]
        obtain ⟨b1, b2, b3, b4⟩ := tz_q_s (f := tz_le) (by decide) T L st
        have ne : tz_q tz_le T L st ≠ st := fun q => by
          rw [q, c1] at b2
          exact absurd b2 (by decide)
        have b4 := b4 (by omega)
        refine ⟨⟨fun _ => ⟨?_, by omega, b4⟩, fun _ => rfl⟩, a1, fun h => ⟨by
          show st ≤ L
          omega, b4⟩⟩
        show p < tz_q tz_le T L st
        omega
      · rw [if_neg c1]
        by_cases c2 : tz_di (tz_sg T L st) = true
        · rw [if_pos c2]
          obtain ⟨b1, b2, b3, b4⟩ := tz_q_s (f := tz_di) (by decide) T L st
          have ne : tz_q tz_di T L st ≠ st := fun q => by
            rw [q, c2] at b2
            exact absurd b2 (by decide)
          have b4 := b4 (by omega)
          by_cases c3 : tz_q tz_di T L st - st ≤ 5
          · rw [if_pos c3]
            refine ⟨⟨fun _ => ⟨?_, by omega, b4⟩, fun q => absurd rfl q⟩, a1, fun h => ⟨by
              show st ≤ L
              omega, b4⟩⟩
            show p < tz_q tz_di T L st
            omega
          · rw [if_neg c3]
            refine ⟨⟨fun _ => ⟨?_, by omega, b4⟩, fun _ => rfl⟩, a1, fun h => ⟨by
              show st ≤ L
              omega, b4⟩⟩
            show p < tz_q tz_di T L st
            omega
        · rw [if_neg c2]
          refine ⟨⟨fun _ => ⟨?_, by omega, ?_⟩, fun _ => rfl⟩, a1, fun h => ⟨by
            show st ≤ L
            omega, by
            show st + 1 ≤ L
            omega⟩⟩
          · show p < st + 1
            omega
          · show st + 1 ≤ L
            omega
  exact ⟨⟨fun p h => ⟨((key p).1.1 h).1, ((key p).1.1 h).2.1⟩, fun p h => (key p).1.2 h⟩, fun p h => ((key p).1.1 h).2.2, fun p => (key p).2⟩
/-- only one word is it -/
theorem tz_is_w {T : Nat → Int32} {st e : Nat} {w : List Int32} : tz_is T st e w = true ↔ e - st = w.length ∧ ∀ i, i < w.length → T (st + i) = w.getD i 0 := by
  unfold tz_is
  rw [Bool.and_eq_true, beq_iff_eq, List.all_eq_true]
  refine and_congr Iff.rfl ⟨fun h i hi => ?_, fun h i hi => ?_⟩
  · have := h i (List.mem_range.mpr hi)
    rw [beq_iff_eq] at this
    exact this
  · rw [beq_iff_eq]
    exact h i (List.mem_range.mp hi)
theorem tz_two : ∀ i, i < 13 → ∀ j, j < 13 → i ≠ j → (mm_Y i).length = (mm_Y j).length → ∃ k, k < (mm_Y i).length ∧ (mm_Y i).getD k 0 ≠ (mm_Y j).getD k 0 := by
  have h : ∀ i, i < 13 → ∀ j, j < 13 → (i == j || (mm_Y i).length != (mm_Y j).length || (List.range (mm_Y i).length).any (fun k => (mm_Y i).getD k 0 != (mm_Y j).getD k 0)) = true := by decide +kernel
  intro i hi j hj ne el
  have q := h i hi j hj
  rw [Bool.or_eq_true, Bool.or_eq_true] at q
  rcases q with (q | q) | q
  · exact absurd (beq_iff_eq.mp q) ne
  · rw [bne_iff_ne] at q
    exact absurd el q
  · rw [List.any_eq_true] at q
    obtain ⟨k, k1, k2⟩ := q
    rw [bne_iff_ne] at k2
    exact ⟨k, List.mem_range.mp k1, k2⟩
theorem tz_uniq {T : Nat → Int32} {st e i j : Nat} (hi : i < 13) (hj : j < 13) (h1 : tz_is T st e (mm_Y i) = true) (h2 : tz_is T st e (mm_Y j) = true) : i = j := by
  apply Classical.byContradiction
  intro ne
  rw [tz_is_w] at h1 h2
  obtain ⟨k, k1, k2⟩ := tz_two i hi j hj ne (by rw [← h1.1, ← h2.1])
  exact k2 (by rw [← h1.2 k k1, h2.2 k (by rw [← h2.1, h1.1]; exact k1)])
theorem tz_word_i {T : Nat → Int32} {st e j : Nat} (hj : j < 13) (h : tz_is T st e (mm_Y j) = true) : ∀ n, n ≤ 13 → 13 - n ≤ j → tz_word T st e n = 3 + j
  | 0, _, h2 => absurd h2 (by omega)
  | n + 1, h1, h2 => by
    unfold tz_word
    by_cases q : tz_is T st e (mm_Y (12 - n)) = true
    · rw [if_pos q]
      have := tz_uniq (by omega) hj q h
      omega
    · rw [if_neg q]
      refine tz_word_i hj h n (by omega) ?_
      apply Classical.byContradiction
      intro r
      have e : 12 - n = j := by omega
      rw [e] at q
      exact q h
theorem tz_word_n {T : Nat → Int32} {st e : Nat} (h : ∀ j, j < 13 → tz_is T st e (mm_Y j) = false) : ∀ n, n ≤ 13 → tz_word T st e n = 1
  | 0, _ => rfl
  | n + 1, h1 => by
    unfold tz_word
    rw [if_neg (by rw [h (12 - n) (by omega)]; decide)]
    exact tz_word_n h n (by omega)
