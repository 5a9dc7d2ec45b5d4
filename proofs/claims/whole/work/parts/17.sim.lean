/-! A WHOLE METHOD, AND ANY CALL. -/
theorem mm_intr_K {Y : Nat → List Int32} {kd pc : Nat} {ls : List (Option Value)} {st : List Value} {σ : mm_S} {c2 : mm_C} (h : mm_intr Y kd pc ls st σ = some (.inl c2)) : c2.2.2.2.1 = σ.1 := by
  unfold mm_intr at h
  split at h
  all_goals (try (cases h; done))
  all_goals (split at h)
  all_goals (try (cases h; done))
  all_goals first
    | exact congrArg (fun c : mm_C => c.2.2.2.1) (mm_nx_inv h)
    | exact congrArg (fun c : mm_C => c.2.2.2.1) (mm_nx_inv (mm_cond_inv h).2)
theorem mm_call1_K {Y : Nat → List Int32} {t a b k pc : Nat} {ls : List (Option Value)} {st : List Value} {σ : mm_S} {c2 : mm_C} (h : mm_call1 Y t a b k pc ls st σ = some (.inl c2)) : c2.2.2.2.1 = σ.1 := by
  obtain ⟨-, h⟩ := mm_call1_inv h
  obtain ⟨-, h⟩ := mm_cond_inv h
  exact mm_intr_K h
set_option maxHeartbeats 4000000 in
set_option maxRecDepth 100000 in
theorem mm_step_K {X : Nat → Nat × (Nat → Int32)} {Y : Nat → List Int32} {code : Nat → Option mm_E} {pc : Nat} {ls : List (Option Value)} {st : List Value} {σ : mm_S} {c2 : mm_C} (hs : mm_step X Y code (pc, ls, st, σ) = some (.inl c2)) : c2.2.2.2.1 = σ.1 ∨ ∃ kd, c2.2.2.2.1 = σ.1 ++ [kd] := by
  cases hcode : code pc with
  | none => simp only [mm_step, hcode] at hs; cases hs
  | some en =>
    obtain ⟨ins, len, v, t, a, b, k, sw⟩ := en
    simp only [mm_step, hcode] at hs
    cases ins <;> dsimp only at hs <;> (try (cases hs; done)) <;> (try (exact Or.inl (mm_call1_K hs)))
    all_goals (try (obtain rfl := mm_nx_inv hs; exact Or.inl rfl))
    all_goals (try (obtain ⟨-, hs⟩ := mm_cond_inv hs; obtain rfl := mm_nx_inv hs; exact Or.inr ⟨_, rfl⟩))
    all_goals (split at hs)
    all_goals (try (cases hs; done))
    all_goals (try (obtain rfl := mm_nx_inv hs; exact Or.inl rfl))
    all_goals (try (exact Or.inl (mm_call1_K hs)))
    all_goals (try (obtain ⟨-, hs⟩ := mm_cond_inv hs; obtain rfl := mm_nx_inv hs; first | exact Or.inl rfl | exact Or.inr ⟨_, rfl⟩))
    all_goals (split at hs)
    all_goals (try (cases hs; done))
    all_goals (try (obtain rfl := mm_nx_inv hs; exact Or.inl rfl))
    all_goals (try (obtain ⟨-, hs⟩ := mm_cond_inv hs; obtain rfl := mm_nx_inv hs; exact Or.inl rfl))
    all_goals (try (obtain ⟨-, hs⟩ := mm_cond_inv hs; cases hs; done))
    all_goals (split at hs)
    all_goals (try (cases hs; done))
    all_goals (try (obtain rfl := mm_nx_inv hs; exact Or.inl rfl))
    all_goals (try (obtain ⟨-, hs⟩ := mm_cond_inv hs; obtain rfl := mm_nx_inv hs; exact Or.inl rfl))
    all_goals (split at hs)
    all_goals (try (cases hs; done))
    all_goals (try (obtain rfl := mm_nx_inv hs; exact Or.inl rfl))
    all_goals (try (obtain ⟨-, hs⟩ := mm_cond_inv hs; obtain rfl := mm_nx_inv hs; exact Or.inl rfl))
theorem mm_step_grow {X : Nat → Nat × (Nat → Int32)} {Y : Nat → List Int32} {code : Nat → Option mm_E} {c1 c2 : mm_C} (hs : mm_step X Y code c1 = some (.inl c2)) : c1.2.2.2.1.length ≤ c2.2.2.2.1.length ∧ mm_sz c1.2.2.2.1 ≤ mm_sz c2.2.2.2.1 := by
  obtain ⟨pc, ls, st, σ⟩ := c1
  rcases mm_step_K hs with h | ⟨kd, h⟩
  · rw [h]; exact ⟨Nat.le_refl _, Nat.le_refl _⟩
  · rw [h, mm_sz_app]
    simp only [List.length_append]
    omega
/-- a call comes from one of three rows -/
theorem mm_call1_call {Y : Nat → List Int32} {t a b k pc : Nat} {ls : List (Option Value)} {st : List Value} {σ : mm_S} {id : Nat} {as : List Value} {c2 : mm_C} (h : mm_call1 Y t a b k pc ls st σ = some (.inr (.inr (id, as, c2)))) : ∃ rest, id = a ∧ mm_pops b [] st = some (as, rest) ∧ mm_cats rest ≤ 8 ∧ mm_head t k σ.1 as = true ∧ c2 = (pc, ls, rest, σ) ∧ t < 10 := by
  unfold mm_call1 at h
  cases hb : Nat.ble 10 t with
  | true =>
    rw [hb] at h
    obtain ⟨-, h⟩ := mm_cond_inv h
    exfalso
    unfold mm_intr at h
    split at h
    all_goals (try (cases h; done))
    all_goals (split at h)
    all_goals (try (cases h; done))
    all_goals (obtain ⟨-, h⟩ := mm_cond_inv h; cases h)
  | false =>
    rw [hb] at h
    dsimp only at h
    cases hp : mm_pops b [] st with
    | none => rw [hp] at h; cases h
    | some q =>
      obtain ⟨as', rest⟩ := q
      rw [hp] at h
      obtain ⟨h1, h⟩ := mm_cond_inv h
      rw [Bool.and_eq_true] at h1
      cases h
      refine ⟨rest, rfl, rfl, Nat.le_of_ble_eq_true h1.1, h1.2, rfl, ?_⟩
      rcases Nat.lt_or_ge t 10 with z | z
      · exact z
      · rw [Nat.ble_eq_true_of_le z] at hb; cases hb
set_option maxHeartbeats 4000000 in
set_option maxRecDepth 100000 in
theorem mm_step_call {X : Nat → Nat × (Nat → Int32)} {Y : Nat → List Int32} {code : Nat → Option mm_E} {pc : Nat} {ls : List (Option Value)} {st : List Value} {σ : mm_S} {ins : Instr} {len t a b k : Nat} {v : Value} {sw : List (Int32 × Nat)} (hcode : code pc = some (ins, len, v, t, a, b, k, sw)) {id : Nat} {as : List Value} {c2 : mm_C} (hs : mm_step X Y code (pc, ls, st, σ) = some (.inr (.inr (id, as, c2)))) :
    ((∃ i, ins = .invokevirtual i) ∨ (∃ i, ins = .invokestatic i) ∨ (∃ i, ins = .invokespecial i ∧ Nat.beq t 9 = false)) ∧ mm_call1 Y t a b k (pc + len) ls st σ = some (.inr (.inr (id, as, c2))) := by
  simp only [mm_step, hcode] at hs
  cases ins <;> dsimp only at hs <;> (try (cases hs; done)) <;> (try (exact ⟨Or.inl ⟨_, rfl⟩, hs⟩)) <;> (try (exact ⟨Or.inr (Or.inl ⟨_, rfl⟩), hs⟩))
  case invokespecial i =>
    cases h9 : Nat.beq t 9 with
    | true =>
      simp only [h9] at hs
      rcases st with _ | ⟨v1, r⟩
      · cases hs
      · cases v1 <;> try (cases hs; done)
        obtain ⟨-, hs⟩ := mm_cond_inv hs
        cases hs
    | false =>
      simp only [h9] at hs
      exact ⟨Or.inr (Or.inr ⟨_, rfl, rfl⟩), hs⟩
  all_goals exfalso
  all_goals (try (obtain ⟨-, hs⟩ := mm_cond_inv hs; cases hs; done))
  all_goals (split at hs)
  all_goals (try (cases hs; done))
  all_goals (try (obtain ⟨-, hs⟩ := mm_cond_inv hs; cases hs; done))
  all_goals (split at hs)
  all_goals (try (cases hs; done))
  all_goals (try (obtain ⟨-, hs⟩ := mm_cond_inv hs; cases hs; done))
  all_goals (split at hs)
  all_goals (try (cases hs; done))
  all_goals (try (obtain ⟨-, hs⟩ := mm_cond_inv hs; cases hs; done))
  all_goals (split at hs)
  all_goals (try (cases hs; done))
  all_goals (try (obtain ⟨-, hs⟩ := mm_cond_inv hs; cases hs; done))
set_option maxHeartbeats 4000000 in
set_option maxRecDepth 100000 in
/-- a method's end is one of three rows -/
theorem mm_step_ret {X : Nat → Nat × (Nat → Int32)} {Y : Nat → List Int32} {code : Nat → Option mm_E} {pc : Nat} {ls : List (Option Value)} {st : List Value} {σ : mm_S} {ins : Instr} {len t a b k : Nat} {v : Value} {sw : List (Int32 × Nat)} (hcode : code pc = some (ins, len, v, t, a, b, k, sw)) {r : mm_R} (hs : mm_step X Y code (pc, ls, st, σ) = some (.inr (.inl r))) :
    (ins = .ireturn ∧ ∃ x, st = [.int x] ∧ r = (some (.int x), σ) ∧ (Nat.beq k 0 = true ∨ mm_bit x = true)) ∨ (ins = .lreturn ∧ ∃ x, st = [.long x] ∧ r = (some (.long x), σ)) ∨ (ins = .return_ ∧ st = [] ∧ r = (none, σ)) ∨ (ins = .areturn ∧ ∃ x, st = [.ref x] ∧ r = (some (.ref x), σ)) := by
  have call : ∀ {t a b k pc}, mm_call1 Y t a b k pc ls st σ ≠ some (.inr (.inl r)) := by
    intro t a b k pc h
    unfold mm_call1 at h
    split at h
    · obtain ⟨-, h⟩ := mm_cond_inv h
      unfold mm_intr at h
      split at h
      all_goals (try (cases h; done))
      all_goals (split at h)
      all_goals (try (cases h; done))
      all_goals (obtain ⟨-, h⟩ := mm_cond_inv h; cases h)
    · split at h
      · obtain ⟨-, h⟩ := mm_cond_inv h; cases h
      · cases h
  simp only [mm_step, hcode] at hs
  cases ins <;> dsimp only at hs <;> (try (cases hs; done)) <;> (try (exact absurd hs call))
  case ireturn =>
    left
    refine ⟨rfl, ?_⟩
    rcases st with _ | ⟨v1, _ | ⟨v2, r2⟩⟩
    · cases hs
    · cases v1 <;> try (cases hs; done)
      rename_i x
      cases hk0 : Nat.beq k 0 with
      | true => simp only [hk0] at hs; cases hs; exact ⟨x, rfl, rfl, Or.inl rfl⟩
      | false =>
        simp only [hk0] at hs
        obtain ⟨hb, hs⟩ := mm_cond_inv hs
        cases hs
        exact ⟨x, rfl, rfl, Or.inr hb⟩
    · cases v1 <;> cases hs
  case lreturn =>
    right; left
    refine ⟨rfl, ?_⟩
    rcases st with _ | ⟨v1, _ | ⟨v2, r2⟩⟩
    · cases hs
    · cases v1 <;> try (cases hs; done)
      rename_i x
      cases hs
      exact ⟨x, rfl, rfl⟩
    · cases v1 <;> cases hs
  case return_ =>
    right; right; left
    refine ⟨rfl, ?_⟩
    rcases st with _ | ⟨v1, r2⟩
    · cases hs; exact ⟨rfl, rfl⟩
    · cases hs
  case areturn =>
    right; right; right
    refine ⟨rfl, ?_⟩
    rcases st with _ | ⟨v1, _ | ⟨v2, r2⟩⟩
    · cases hs
    · cases v1 <;> try (cases hs; done)
      rename_i x
      cases hs
      exact ⟨x, rfl, rfl⟩
    · cases v1 <;> cases hs
  all_goals exfalso
  all_goals (try (obtain ⟨-, hs⟩ := mm_cond_inv hs; cases hs; done))
  all_goals (split at hs)
  all_goals (try (cases hs; done))
  all_goals (try (exact absurd hs call))
  all_goals (try (obtain ⟨-, hs⟩ := mm_cond_inv hs; cases hs; done))
  all_goals (split at hs)
  all_goals (try (cases hs; done))
  all_goals (try (obtain ⟨-, hs⟩ := mm_cond_inv hs; cases hs; done))
  all_goals (split at hs)
  all_goals (try (cases hs; done))
  all_goals (try (obtain ⟨-, hs⟩ := mm_cond_inv hs; cases hs; done))
  all_goals (split at hs)
  all_goals (try (cases hs; done))
  all_goals (try (obtain ⟨-, hs⟩ := mm_cond_inv hs; cases hs; done))
