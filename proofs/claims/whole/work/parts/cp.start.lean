/-! WHAT STANDS WHEN THE LAW BEGINS. By program. -/
def mi_P2 (j : Nat) : Nat := match j with
  | 0 => 48
  | 1 => 56
  | 2 => 64
  | 3 => 72
  | _ => 40
def mi_t : mS := (mo_I ov_450, mo_L ov_450, mi_P2)
theorem mi_R2 : mm_R0 mi_P = mm_R0 mi_P2 := by
  funext k j
  unfold mm_R0
  cases Nat.beq k 38 with
  | true =>
    dsimp only
    cases h : Nat.blt j 4 with
    | false => rfl
    | true =>
      dsimp only
      have hj : j < 4 := Nat.blt_eq.mp h
      rcases (by omega : j = 0 ∨ j = 1 ∨ j = 2 ∨ j = 3) with rfl | rfl | rfl | rfl <;> rfl
  | false =>
    cases (Nat.beq k 80 && Nat.beq j 6) <;> cases (Nat.beq k 80 && Nat.beq j 0) <;> rfl
theorem mi_mT : mT mi_s = mT mi_t := by
  show (mm_K0, mo_I ov_450, mo_L ov_450, mm_R0 mi_P) = (mm_K0, mo_I ov_450, mo_L ov_450, mm_R0 mi_P2)
  rw [mi_R2]
def mc_far (O : List mo_Op) (c N : Nat) : Bool := O.all (fun p => !(Nat.beq p.1 1) || !(Nat.beq p.2.1 c) || Nat.blt p.2.2.1 N)
theorem mo_far : ∀ (O : List mo_Op) {c N : Nat}, mc_far O c N = true → ∀ b, N ≤ b → mo_I O c b = 0
  | [], _, _, _, _, _ => rfl
  | (t, k, j, x, r) :: O, c, N, h, b, hb => by
    unfold mc_far at h
    rw [List.all_cons, Bool.and_eq_true] at h
    have ih := mo_far O (c := c) (N := N) h.2 b hb
    match t with
    | 0 =>
      show (if c = k then 0 else mo_I O c b) = 0
      rw [ih]; exact ite_self _
    | 1 =>
      show (if c = k ∧ b = j then x else mo_I O c b) = 0
      rw [if_neg, ih]
      intro hh
      obtain ⟨rfl, rfl⟩ := hh
      have h1 : (!(Nat.beq 1 1) || !(Nat.beq c c) || Nat.blt b N) = true := h.1
      rw [Nat.beq_refl c] at h1
      have h2 : Nat.blt b N = true := h1
      have h3 := Nat.blt_eq.mp h2
      omega
    | n + 2 => exact ih
theorem mo_L0 : ∀ (O : List mo_Op) (c b : Nat), mo_L O c b = 0
  | [], _, _ => rfl
  | (t, k, j, x, r) :: O, c, b => by
    have ih := mo_L0 O c b
    match t with
    | 0 =>
      show (if c = k then 0 else mo_L O c b) = 0
      rw [ih]; exact ite_self _
    | 1 => exact ih
    | n + 2 => exact ih
theorem mi_L0 (c b : Nat) : gL mi_t c b = 0 := by
  show mo_L ov_450 c b = 0
  exact mo_L0 ov_450 c b
theorem mi_far {c : Nat} (N : Nat) (h : mc_far ov_450 c N = true) {b : Nat} (hb : N ≤ b) : gI mi_t c b = 0 := by
  show mo_I ov_450 c b = 0
  exact mo_far ov_450 h b hb
def mc_eq (a c N : Nat) : Bool := mc_far ov_450 a N && mc_far ov_450 c N && (List.range N).all (fun b => decide (mo_I ov_450 a b = mo_I ov_450 c b))
theorem mc_eqt {a c : Nat} (N : Nat) (h : mc_eq a c N = true) : gI mi_t a = gI mi_t c := by
  unfold mc_eq at h
  rw [Bool.and_eq_true, Bool.and_eq_true] at h
  funext b
  show mo_I ov_450 a b = mo_I ov_450 c b
  by_cases hb : b < N
  · exact of_decide_eq_true (List.all_eq_true.mp h.2 b (List.mem_range.mpr hb))
  · rw [mo_far _ h.1.1 b (by omega), mo_far _ h.1.2 b (by omega)]
def mc_all (c N : Nat) (p : Int32 → Bool) : Bool := mc_far ov_450 c N && p 0 && (List.range N).all (fun b => p (mo_I ov_450 c b))
theorem mc_allt {c : Nat} (N : Nat) {p : Int32 → Bool} (h : mc_all c N p = true) (b : Nat) : p (gI mi_t c b) = true := by
  unfold mc_all at h
  rw [Bool.and_eq_true, Bool.and_eq_true] at h
  show p (mo_I ov_450 c b) = true
  by_cases hb : b < N
  · exact List.all_eq_true.mp h.2 b (List.mem_range.mpr hb)
  · rw [mo_far _ h.1.1 b (by omega)]
    exact h.1.2
theorem mi_sky : J_sky mi_t := by
  unfold J_sky
  refine ⟨?_, ?_, ?_, ?_⟩
  · exact mc_eqt 32 (by decide +kernel)
  · exact (by decide +kernel)
  · exact (by decide +kernel)
  · exact (fun j => of_decide_eq_true (mc_allt (c := 122) 32 (p := fun x => decide (0 ≤ x ∧ x ≤ 3)) (by decide +kernel) j))
theorem mi_coal : J_coal mi_t := by
  unfold J_coal
  refine ⟨?_, ?_, ?_, ?_, ?_, ?_, ?_, ?_⟩
  · exact mc_eqt 32 (by decide +kernel)
  · exact mc_eqt 32 (by decide +kernel)
  · exact mc_eqt 32 (by decide +kernel)
  · exact mc_eqt 32 (by decide +kernel)
  · exact (fun j => of_decide_eq_true (mc_allt (c := 118) 32 (p := fun x => decide (0 ≤ x ∧ x ≤ 200)) (by decide +kernel) j))
  · exact (fun j => of_decide_eq_true (mc_allt (c := 119) 32 (p := fun x => decide (0 ≤ x ∧ x ≤ 80)) (by decide +kernel) j))
  · exact (fun j => of_decide_eq_true (mc_allt (c := 120) 32 (p := fun x => decide (0 ≤ x ∧ x ≤ 20)) (by decide +kernel) j))
  · exact (fun j => of_decide_eq_true (mc_allt (c := 121) 32 (p := fun x => decide (0 ≤ x ∧ x ≤ 9999)) (by decide +kernel) j))
theorem mi_bench : J_bench mi_t := by
  unfold J_bench
  refine ⟨?_, ?_, ?_, ?_, ?_, ?_, ?_, ?_, ?_, ?_, ?_, ?_, ?_, ?_, ?_, ?_, ?_, ?_⟩
  · exact mc_eqt 32 (by decide +kernel)
  · exact mc_eqt 32 (by decide +kernel)
  · exact mc_eqt 32 (by decide +kernel)
  · exact (by decide +kernel)
  · exact (by decide +kernel)
  · exact (fun j => of_decide_eq_true (mc_allt (c := 123) 32 (p := fun x => decide (0 ≤ x ∧ x ≤ 1800)) (by decide +kernel) j))
  · exact (fun j => of_decide_eq_true (mc_allt (c := 124) 32 (p := fun x => decide (0 ≤ x ∧ x ≤ 720)) (by decide +kernel) j))
  · exact (fun j => of_decide_eq_true (mc_allt (c := 125) 32 (p := fun x => decide (0 ≤ x ∧ x ≤ 180)) (by decide +kernel) j))
  · exact (by decide +kernel)
  · exact (by decide +kernel)
  · exact (by decide +kernel)
  · exact (by decide +kernel)
  · exact (by decide +kernel)
  · exact (by decide +kernel)
  · exact (by decide +kernel)
  · exact (by decide +kernel)
  · exact (by decide +kernel)
  · exact (by decide +kernel)
theorem mi_level : J_level mi_t := by
  unfold J_level
  refine ⟨?_, ?_, ?_, ?_, ?_, ?_, ?_⟩
  · exact (by decide +kernel)
  · exact (by decide +kernel)
  · exact (by decide +kernel)
  · exact (by decide +kernel)
  · exact (by decide +kernel)
  · exact (by decide +kernel)
  · exact (by decide +kernel)
theorem mi_yard : J_yard mi_t := by
  unfold J_yard
  refine ⟨?_, ?_, ?_, ?_, ?_, ?_⟩
  · exact (by decide +kernel)
  · exact (by decide +kernel)
  · exact (by decide +kernel)
  · exact (by decide +kernel)
  · exact (by decide +kernel)
  · exact (by decide +kernel)
theorem mi_gen : J_gen mi_t := by
  unfold J_gen
  refine ⟨?_, ?_, ?_, ?_, ?_, ?_, ?_, ?_, ?_⟩
  · exact (by decide +kernel)
  · exact (by decide +kernel)
  · exact (by decide +kernel)
  · exact (by decide +kernel)
  · exact (by decide +kernel)
  · exact (by decide +kernel)
  · exact (by decide +kernel)
  · exact (by decide +kernel)
  · exact (by decide +kernel)
theorem mi_things : J_things mi_t := by
  unfold J_things
  refine ⟨?_, ?_, ?_, ?_, ?_, ?_, ?_, ?_, ?_, ?_, ?_, ?_, ?_, ?_, ?_, ?_, ?_⟩
  · exact mc_eqt 32 (by decide +kernel)
  · exact mc_eqt 32 (by decide +kernel)
  · exact mc_eqt 32 (by decide +kernel)
  · exact mc_eqt 32 (by decide +kernel)
  · exact mc_eqt 32 (by decide +kernel)
  · exact mc_eqt 32 (by decide +kernel)
  · exact mc_eqt 32 (by decide +kernel)
  · exact mc_eqt 32 (by decide +kernel)
  · exact mc_eqt 32 (by decide +kernel)
  · exact (fun t => (of_decide_eq_true (mc_allt (c := 22) 32 (p := fun x => decide (x = 0)) (by decide +kernel) t)).trans (by rw [mi_L0 139 t]; rfl))
  · exact (by decide +kernel)
  · exact (by decide +kernel)
  · exact (by decide +kernel)
  · exact (fun j => of_decide_eq_true (mc_allt (c := 140) 32 (p := fun x => decide (x = 0 ∨ x = 1)) (by decide +kernel) j))
  · exact (fun j => of_decide_eq_true (mc_allt (c := 141) 32 (p := fun x => decide (x = 0 ∨ x = 1)) (by decide +kernel) j))
  · exact (fun j => of_decide_eq_true (mc_allt (c := 132) 32 (p := fun x => decide (0 ≤ x ∧ x < gI mi_t 116 7)) (by decide +kernel) j))
  · exact (fun j => of_decide_eq_true (mc_allt (c := 134) 32 (p := fun x => decide (0 ≤ x ∧ x ≤ 99)) (by decide +kernel) j))
theorem mi_net : J_net mi_t := by
  unfold J_net
  refine ⟨?_, ?_, ?_, ?_, ?_, ?_, ?_, ?_, ?_, ?_, ?_, ?_, ?_, ?_, ?_⟩
  · exact mc_eqt 32 (by decide +kernel)
  · exact mc_eqt 32 (by decide +kernel)
  · exact mc_eqt 32 (by decide +kernel)
  · exact mc_eqt 32 (by decide +kernel)
  · exact (by decide +kernel)
  · exact (by decide +kernel)
  · exact (by decide +kernel)
  · exact (by decide +kernel)
  · exact (by decide +kernel)
  · exact (by decide +kernel)
  · exact (by decide +kernel)
  · exact (fun n h1 h2 => absurd h2 (by rw [show ix (gI mi_t 116 7) = 1 from by decide +kernel]; omega))
  · exact (fun j => of_decide_eq_true (mc_allt (c := 128) 32 (p := fun x => decide (0 ≤ x ∧ x ≤ 9)) (by decide +kernel) j))
  · exact (fun j => of_decide_eq_true (mc_allt (c := 129) 32 (p := fun x => decide (-9 ≤ x ∧ x ≤ 9)) (by decide +kernel) j))
  · exact (fun j => of_decide_eq_true (mc_allt (c := 130) 32 (p := fun x => decide (x = 0 ∨ x = 1)) (by decide +kernel) j))
theorem mi_was : J_was mi_t := by
  unfold J_was
  refine ⟨?_, ?_, ?_, ?_, ?_, ?_, ?_⟩
  · exact mc_eqt 32 (by decide +kernel)
  · exact mc_eqt 32 (by decide +kernel)
  · exact mc_eqt 32 (by decide +kernel)
  · exact (by decide +kernel)
  · exact (by decide +kernel)
  · exact (fun n h1 h2 => (by decide +kernel : ∀ n, n < 16 → gI mi_t 116 55 ≤ Int32.ofNat n → gI mi_t 149 n = 0 ∧ gI mi_t 148 n = 0) n h2 h1)
  · exact (fun j => of_decide_eq_true (mc_allt (c := 148) 32 (p := fun x => decide (0 ≤ x ∧ x ≤ 1000000)) (by decide +kernel) j))
theorem mi_books : J_books mi_t := by
  unfold J_books
  refine ⟨?_, ?_, ?_, ?_, ?_, ?_, ?_, ?_, ?_, ?_, ?_, ?_, ?_, ?_, ?_, ?_, ?_, ?_, ?_, ?_⟩
  · exact mc_eqt 32 (by decide +kernel)
  · exact mc_eqt 32 (by decide +kernel)
  · exact mc_eqt 32 (by decide +kernel)
  · exact mc_eqt 32 (by decide +kernel)
  · exact (by decide +kernel)
  · exact (by decide +kernel)
  · exact (by decide +kernel)
  · exact mc_eqt 32 (by decide +kernel)
  · exact mc_eqt 32 (by decide +kernel)
  · exact mc_eqt 32 (by decide +kernel)
  · exact (by decide +kernel)
  · exact (by decide +kernel)
  · exact (by decide +kernel)
  · exact (fun j => of_decide_eq_true (mc_allt (c := 156) 32 (p := fun x => decide (x = 0 ∨ x = 1)) (by decide +kernel) j))
  · exact (fun r hr => absurd hr (by rw [show ix (gI mi_t 116 57) = 0 from by decide +kernel]; omega))
  · exact (fun r hr => absurd hr (by rw [show ix (gI mi_t 116 57) = 0 from by decide +kernel]; omega))
  · exact (fun r hr => absurd hr (by rw [show ix (gI mi_t 116 57) = 0 from by decide +kernel]; omega))
  · exact (fun r hr => absurd hr (by rw [show ix (gI mi_t 116 57) = 0 from by decide +kernel]; omega))
  · exact (fun r hr => absurd hr (by rw [show ix (gI mi_t 116 57) = 0 from by decide +kernel]; omega))
  · exact (fun r hr => absurd hr (by rw [show ix (gI mi_t 116 58) = 0 from by decide +kernel]; omega))
theorem mi_money : J_money mi_t := by
  unfold J_money
  refine ⟨?_, ?_, ?_⟩
  · exact (by decide +kernel)
  · exact (by decide +kernel)
  · exact (by decide +kernel)
theorem mi_tape : J_tape mi_t := by
  unfold J_tape
  refine ⟨?_, ?_, ?_, ?_, ?_, ?_⟩
  · exact mc_eqt 32 (by decide +kernel)
  · exact (by decide +kernel)
  · exact (by decide +kernel)
  · exact (by decide +kernel)
  · exact (by decide +kernel)
  · exact (by decide +kernel)
theorem mi_impr : J_impr mi_t := by
  unfold J_impr
  refine ⟨?_, ?_, ?_, ?_, ?_, ?_, ?_, ?_⟩
  · exact mc_eqt 32 (by decide +kernel)
  · exact mc_eqt 32 (by decide +kernel)
  · exact mc_eqt 32 (by decide +kernel)
  · exact (by decide +kernel)
  · exact (by decide +kernel)
  · exact (by decide +kernel)
  · exact (fun r hr => absurd hr (by rw [show ix (gI mi_t 116 103) = 0 from by decide +kernel]; omega))
  · exact (fun j => of_decide_eq_true (mc_allt (c := 178) 32 (p := fun x => decide (0 ≤ x ∧ x ≤ 999)) (by decide +kernel) j))
theorem mi_eyes : J_eyes mi_t := by
  unfold J_eyes
  refine ⟨?_, ?_⟩
  · exact mc_eqt 32 (by decide +kernel)
  · exact (fun j => of_decide_eq_true (mc_allt (c := 174) 32 (p := fun x => decide (-1 ≤ x ∧ x ≤ 1)) (by decide +kernel) j))
theorem mi_share : J_share mi_t := by
  intro i
  by_cases h : i < 32
  · exact (by decide +kernel : ∀ i, i < 32 → gI mi_t 117 i = mm_parts.getD i 0) i h
  · have hl : mm_parts.length ≤ 32 := by decide +kernel
    rw [mi_far (c := 117) 32 (by decide +kernel) (by omega), List.getD_eq_getElem?_getD, List.getElem?_eq_none (by omega)]
    rfl
theorem mi_acts : J_acts mi_t := by
  refine ⟨fun _ => none, fun k _ d Ls h => (by cases h), ⟨fun j => ?_, fun i j hi hj => ?_, ?_, fun k _ d Ls h => (by cases h)⟩, ⟨?_, fun k _ d Ls h => (by cases h)⟩⟩
  · show mq_A (mi_P2 j)
    unfold mq_A mi_P2
    match j with
    | 0 => simp
    | 1 => simp
    | 2 => simp
    | 3 => simp
    | n + 4 => simp
  · exact (by decide +kernel : ∀ i, i < 5 → ∀ j, j < 5 → gP mi_t i = gP mi_t j → i = j) i hi j hj
  · intro k hk _
    exact (by decide +kernel : ∀ k, k < 4 → gI mi_t (gP mi_t k) 10 = 0) k hk
  · intro k hk _
    exact (by decide +kernel : ∀ k, k < 4 → gI mi_t 157 k = -1) k hk
theorem mi_found : J_found mi_t := Or.inl (by decide +kernel)
theorem mi_cred : J_cred 0 mi_t := fun t => of_decide_eq_true (mc_allt (c := 136) 32 (p := fun x => decide (0 ≤ x ∧ x ≤ Int32.ofNat (5000 * 0))) (by decide +kernel) t)
theorem mi_J : J_at 0 mi_t := ⟨mi_sky, mi_coal, mi_bench, mi_level, mi_yard, mi_gen, mi_things, mi_net, mi_was, mi_books, mi_money, mi_tape, mi_impr, mi_eyes, mi_share, mi_acts, mi_found, mi_cred⟩
theorem law_run {L : Nat} {xs : Nat → Int32} (hL : L ≤ 3072) : ∃ (d : Nat) (τ : mm_S), d ≤ 1000 ∧ mm_call (mm_X L xs) mm_Y (d + 1) 251 [.ref 1000001] ml_empty = some (some (.int 1), τ) ∧ τ.1.length ≤ 600000 ∧ mm_sz τ.1 ≤ 7302250 := by
  have q := law_ok (xs := xs) hL mi_t mi_J
  obtain ⟨τ, r, h⟩ := m_law (len := L) (xs := xs) 0 mi_mT q.1
  rw [q.2] at r
  refine ⟨70, τ, by omega, r, ?_, ?_⟩
  · rw [h.2.1]
    show mm_K0.length ≤ 600000
    decide +kernel
  · rw [h.2.2.2.2.2.2]
    show mm_sz mm_K0 ≤ 7302250
    decide +kernel
theorem whole_start {p : Program} {e : Env} {s : State} {m : MethodId} {below : List Frame} {meth : Method} {c : Code} (l : Launch) (_hflags : l.flags = flags0) {b L : Nat} {xs : Nat → Int32} (hL : L ≤ 3072) (C0 : lw_At p s m meth c b L xs) : W p l e room_1 s m #[Value.ref b] below meth c s.heap [] 0 0 (lw_Z below #[Value.ref b] s) (entryFrame m ([Value.ref b] : List Value).toArray 4) := whole_of_run l hL C0 (law_run hL)
