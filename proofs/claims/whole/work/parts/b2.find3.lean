/-! FIND: the class's numbers. -/
def ey_enc (x : Option (Nat × Nat × Nat)) (c w : Int32) (e : Nat) : Prop := c = Int32.ofNat (ey_C x) ∧ w = Int32.ofNat (ey_W x) ∧ (x = none ∨ (ey_C x ≤ e ∧ 1 ≤ ey_W x ∧ ey_W x ≤ 2 ^ e))
theorem ey_pw (e : Nat) : 1 ≤ 2 ^ e := Nat.one_le_two_pow
theorem ey_pw1 (e : Nat) : 2 ^ (e + 1) = 2 ^ e + 2 ^ e := by rw [Nat.pow_succ]; omega
theorem ey_weigh {la bu zz : Bool} {B : Option (Nat × Nat × Nat)} {k n e : Nat} {lac buc told c w : Int32} (hla : lac = if la then 1 else 0) (hbu : buc = if bu then 1 else 0) (hz : zz = decide (told = 0)) (henc : ey_enc B c w e) (he : e ≤ 15) (hinv : la = false → zz = false ∧ B = ey_1) (own beh cost : Int32) (eo : own = if lac = 0 then 1000 else if buc = 0 then 1 else 1000) (eb : beh = if told = 0 then 1000 else c) (ec : cost = if beh < own then beh else own) :
    ey_enc (ey_a (if zz then none else B) (if bu then none else ey_t k n)) cost (if 1000 ≤ cost then 0 else (if own = cost then 1 else 0) + (if beh = cost then w else 0)) (e + 1) := by
  obtain ⟨h1, h2, h3⟩ := henc
  have p := ey_pw e
  have p1 := ey_pw1 e
  have n10 : ¬ (1 : Int32) = 0 := by decide
  have beh_of : zz = false → ¬ told = 0 := fun q r => by
    rw [hz, r] at q
    exact absurd q (by decide)
  have beh_z : zz = true → told = 0 := fun q => by
    rw [hz] at q
    exact of_decide_eq_true q
  cases la with
  | false =>
    obtain ⟨i1, i2⟩ := hinv rfl
    have t0 := beh_of i1
    rw [i2] at h1 h2
    have h1 : c = 0 := h1
    have h2 : w = 1 := h2
    have eo : own = 1000 := by
      rw [eo, hla]
      rfl
    have eb : beh = 0 := by rw [eb, if_neg t0, h1]
    have ec : cost = 0 := by
      rw [ec, eo, eb]
      rfl
    have eA : ey_a (if zz then none else B) (if bu then none else ey_t k n) = ey_1 := by
      rw [i1, i2]
      cases bu <;> rfl
    rw [eA, ec, eo, eb, h2]
    exact ⟨rfl, by decide, Or.inr ⟨Nat.zero_le _, Nat.le_refl 1, by
      show 1 ≤ _
      omega⟩⟩
  | true =>
    have hla : lac = 1 := hla
    rw [hla, if_neg n10] at eo
    cases bu with
    | true =>
      have hbu : buc = 1 := hbu
      rw [hbu, if_neg n10] at eo
      cases hzz : zz with
      | true =>
        rw [beh_z hzz, if_pos rfl] at eb
        have ec : cost = 1000 := by
          rw [ec, eo, eb]
          rfl
        show ey_enc none _ _ _
        rw [ec]
        exact ⟨rfl, rfl, Or.inl rfl⟩
      | false =>
        rw [if_neg (beh_of hzz)] at eb
        show ey_enc (ey_a B none) _ _ _
        rw [ey_a_n]
        cases B with
        | none =>
          have h1 : c = 1000 := h1
          have ec : cost = 1000 := by
            rw [ec, eo, eb, h1]
            rfl
          rw [ec]
          exact ⟨rfl, rfl, Or.inl rfl⟩
        | some b =>
          have h1 : c = Int32.ofNat b.1 := h1
          have h2 : w = Int32.ofNat b.2.1 := h2
          have h3 : b.1 ≤ e ∧ 1 ≤ b.2.1 ∧ b.2.1 ≤ 2 ^ e := h3.resolve_left (by simp)
          have lt : Int32.ofNat b.1 < 1000 := (ofNat_lt (b := 1000) (by omega) (by omega)).mpr (by omega)
          have ec : cost = Int32.ofNat b.1 := by rw [ec, eo, eb, h1, if_pos lt]
          have ne : ¬ (1000 : Int32) = Int32.ofNat b.1 := fun q => absurd ((ofNat_inj (a := 1000) (by omega) (by omega)).mp q) (by omega)
          rw [ec, eo, eb, h1, if_neg (Int32.not_le.mpr lt), if_neg ne, if_pos rfl, h2, Int32.zero_add]
          exact ⟨rfl, rfl, Or.inr ⟨Nat.le_succ_of_le h3.1, h3.2.1, by
            show b.2.1 ≤ _
            omega⟩⟩
    | false =>
      have hbu : buc = 0 := hbu
      rw [hbu, if_pos rfl] at eo
      have one : cost = 1 → (if beh = (1 : Int32) then w else 0) = 0 → ey_enc (some (1, 1, if n = k then 1 else 0)) cost (if 1000 ≤ cost then 0 else (if own = cost then 1 else 0) + (if beh = cost then w else 0)) (e + 1) := fun q r => by
        rw [q, eo, r]
        exact ⟨rfl, rfl, Or.inr ⟨Nat.succ_le_succ (Nat.zero_le e), Nat.le_refl 1, by
          show 1 ≤ _
          omega⟩⟩
      cases hzz : zz with
      | true =>
        rw [beh_z hzz, if_pos rfl] at eb
        show ey_enc (some (1, 1, if n = k then 1 else 0)) _ _ _
        refine one ?_ ?_
        · rw [ec, eo, eb]
          rfl
        · rw [eb]
          rfl
      | false =>
        rw [if_neg (beh_of hzz)] at eb
        show ey_enc (ey_a B (some (1, 1, if n = k then 1 else 0))) _ _ _
        cases B with
        | none =>
          have h1 : c = 1000 := h1
          refine one ?_ ?_
          · rw [ec, eo, eb, h1]
            rfl
          · rw [eb, h1]
            rfl
        | some b =>
          have h1 : c = Int32.ofNat b.1 := h1
          have h2 : w = Int32.ofNat b.2.1 := h2
          have h3 : b.1 ≤ e ∧ 1 ≤ b.2.1 ∧ b.2.1 ≤ 2 ^ e := h3.resolve_left (by simp)
          rcases Nat.lt_trichotomy b.1 1 with h | h | h
          · rw [ey_lt (y := (1, 1, if n = k then 1 else 0)) h]
            have c0 : c = 0 := by
              rw [h1, show b.1 = 0 by omega]
              rfl
            have e1 : cost = 0 := by
              rw [ec, eo, eb, c0]
              rfl
            rw [e1, eo, eb, c0, h2]
            refine ⟨?_, ?_, Or.inr ⟨Nat.le_succ_of_le h3.1, h3.2.1, ?_⟩⟩
            · show (0 : Int32) = Int32.ofNat b.1
              rw [show b.1 = 0 by omega]
              rfl
            · show (if (1000 : Int32) ≤ 0 then (0 : Int32) else (if (1 : Int32) = 0 then 1 else 0) + (if (0 : Int32) = 0 then Int32.ofNat b.2.1 else 0)) = Int32.ofNat b.2.1
              rw [if_neg (by decide), if_neg (by decide), if_pos rfl, Int32.zero_add]
            · show b.2.1 ≤ _
              omega
          · rw [ey_eq (y := (1, 1, if n = k then 1 else 0)) h]
            have c1 : c = 1 := by
              rw [h1, h]
              rfl
            have e1 : cost = 1 := by
              rw [ec, eo, eb, c1]
              rfl
            rw [e1, eo, eb, c1, h2]
            refine ⟨?_, ?_, Or.inr ⟨Nat.le_succ_of_le h3.1, ?_, ?_⟩⟩
            · show (1 : Int32) = Int32.ofNat b.1
              rw [h]
              rfl
            · show (if (1000 : Int32) ≤ 1 then (0 : Int32) else (if (1 : Int32) = 1 then 1 else 0) + (if (1 : Int32) = 1 then Int32.ofNat b.2.1 else 0)) = Int32.ofNat (b.2.1 + 1)
              rw [if_neg (by decide), if_pos rfl, if_pos rfl, ← ofNat_succ, Int32.add_comm]
            · show 1 ≤ b.2.1 + 1
              omega
            · show b.2.1 + 1 ≤ _
              omega
          · rw [ey_gt (y := (1, 1, if n = k then 1 else 0)) h]
            have lt : ¬ Int32.ofNat b.1 < 1 := Int32.not_lt.mpr ((ofNat_le (a := 1) (by omega) (by omega)).mpr (by omega))
            have ne : ¬ Int32.ofNat b.1 = 1 := fun q => absurd ((ofNat_inj (b := 1) (by omega) (by omega)).mp q) (by omega)
            refine one ?_ ?_
            · rw [ec, eo, eb, h1, if_neg lt]
            · rw [eb, h1, if_neg ne]
theorem ey_enc_C {x : Option (Nat × Nat × Nat)} {c w : Int32} {e : Nat} (h : ey_enc x c w e) (he : e ≤ 16) : ey_C x ≤ 1000 ∧ (x ≠ none → ey_C x ≤ 16) ∧ ey_W x ≤ 2 ^ 16 := by
  have m : ∀ a, a ≤ 16 → 2 ^ a ≤ 2 ^ 16 := fun a ha => Nat.pow_le_pow_right (by omega) ha
  have := m e he
  obtain ⟨_, _, h3⟩ := h
  rcases h3 with h3 | h3
  · subst h3
    exact ⟨Nat.le_refl 1000, fun q => absurd rfl q, Nat.zero_le _⟩
  · exact ⟨by omega, fun _ => by omega, by omega⟩
theorem ey_times {x y : Option (Nat × Nat × Nat)} {c w c2 w2 : Int32} {e e2 : Nat} (h : ey_enc x c w e) (h2 : ey_enc y c2 w2 e2) (he : e + e2 ≤ 16) : ey_enc (ey_m x y) (if c + c2 < 1000 then c + c2 else 1000) (w * w2) (e + e2) := by
  have k1 := ey_enc_C h (by omega)
  have k2 := ey_enc_C h2 (by omega)
  obtain ⟨a1, a2, a3⟩ := h
  obtain ⟨b1, b2, b3⟩ := h2
  have sm : c + c2 = Int32.ofNat (ey_C x + ey_C y) := by rw [a1, b1, Int32.ofNat_add]
  have pr : w * w2 = Int32.ofNat (ey_W x * ey_W y) := by rw [a2, b2, Int32.ofNat_mul]
  have lt : Int32.ofNat (ey_C x + ey_C y) < 1000 ↔ ey_C x + ey_C y < 1000 := ofNat_lt (b := 1000) (by omega) (by omega)
  rw [sm, pr]
  cases x with
  | none =>
    have l : ¬ ey_C none + ey_C y < 1000 := by
      show ¬ 1000 + ey_C y < 1000
      omega
    rw [if_neg (fun q => l (lt.mp q))]
    refine ⟨rfl, ?_, Or.inl rfl⟩
    show Int32.ofNat (0 * ey_W y) = Int32.ofNat 0
    rw [Nat.zero_mul]
  | some x =>
    cases y with
    | none =>
      have l : ¬ ey_C (some x) + ey_C none < 1000 := by
        show ¬ ey_C (some x) + 1000 < 1000
        omega
      rw [if_neg (fun q => l (lt.mp q))]
      refine ⟨rfl, ?_, Or.inl rfl⟩
      show Int32.ofNat (ey_W (some x) * 0) = Int32.ofNat 0
      rw [Nat.mul_zero]
    | some y =>
      have a3 : ey_C (some x) ≤ e ∧ 1 ≤ ey_W (some x) ∧ ey_W (some x) ≤ 2 ^ e := a3.resolve_left (by simp)
      have b3 : ey_C (some y) ≤ e2 ∧ 1 ≤ ey_W (some y) ∧ ey_W (some y) ≤ 2 ^ e2 := b3.resolve_left (by simp)
      rw [if_pos (lt.mpr (by omega))]
      refine ⟨rfl, rfl, Or.inr ⟨?_, ?_, ?_⟩⟩
      · show ey_C (some x) + ey_C (some y) ≤ e + e2
        omega
      · show 1 ≤ ey_W (some x) * ey_W (some y)
        exact Nat.mul_le_mul a3.2.1 b3.2.1
      · show ey_W (some x) * ey_W (some y) ≤ 2 ^ (e + e2)
        rw [Nat.pow_add]
        exact Nat.mul_le_mul a3.2.2 b3.2.2
/-- who lacks; how many are behind -/
def ey_L (pn : Nat → Nat) (la0 : Nat → Bool) (N : Nat) : Nat → Nat → Bool
  | 0 => la0
  | d + 1 => up (ey_L pn la0 N d) (pn (N - 1 - d)) (ey_L pn la0 N d (pn (N - 1 - d)) || ey_L pn la0 N d (N - 1 - d))
def ey_e (pn : Nat → Nat) (N : Nat) : Nat → Nat → Nat
  | 0 => fun _ => 0
  | d + 1 => up (ey_e pn N d) (pn (N - 1 - d)) (ey_e pn N d (pn (N - 1 - d)) + (ey_e pn N d (N - 1 - d) + 1))
def ey_sm (f : Nat → Nat) : Nat → Nat
  | 0 => 0
  | n + 1 => ey_sm f n + f n
theorem ey_sm_c {f g : Nat → Nat} : ∀ {n}, (∀ i, i < n → f i = g i) → ey_sm f n = ey_sm g n
  | 0, _ => rfl
  | n + 1, h => by
    show ey_sm f n + f n = ey_sm g n + g n
    rw [ey_sm_c (fun i hi => h i (by omega)), h n (by omega)]
theorem ey_sm_up {f : Nat → Nat} {p x : Nat} : ∀ {n}, p < n → ey_sm (up f p (f p + x)) n = ey_sm f n + x
  | 0, h => absurd h (by omega)
  | n + 1, h => by
    show ey_sm (up f p (f p + x)) n + up f p (f p + x) n = ey_sm f n + f n + x
    by_cases e : p = n
    · subst e
      rw [up_self, ey_sm_c (g := f) (fun i hi => up_ne (by omega))]
      omega
    · rw [ey_sm_up (by omega), up_ne (fun c => e c.symm)]
      omega
theorem ey_sm_le {f : Nat → Nat} {j : Nat} : ∀ {n}, j < n → f j ≤ ey_sm f n
  | 0, h => absurd h (by omega)
  | n + 1, h => by
    show f j ≤ ey_sm f n + f n
    by_cases e : j = n
    · rw [e]
      omega
    · have := ey_sm_le (f := f) (j := j) (n := n) (by omega)
      omega
theorem ey_e_sum (pn : Nat → Nat) (hp : ∀ j, 1 ≤ j → pn j < j) (N : Nat) (hN : 1 ≤ N) : ∀ d, d + 1 ≤ N → ey_sm (ey_e pn N d) (N - d) + (N - d) = N
  | 0, _ => by
    have : ∀ n, ey_sm (fun _ => 0) n = 0 := fun n => by
      induction n with
      | zero => rfl
      | succ n ih => exact ih
    show ey_sm (fun _ => 0) N + N = N
    rw [this]
    omega
  | d + 1, h => by
    have i := ey_e_sum pn hp N hN d (by omega)
    obtain ⟨n, hn⟩ : ∃ n, N - d = n + 1 := ⟨N - d - 1, by omega⟩
    have hl := hp (N - 1 - d) (by omega)
    have e1 : N - 1 - d = n := by omega
    have e2 : N - (d + 1) = n := by omega
    rw [hn] at i
    have i : ey_sm (ey_e pn N d) n + ey_e pn N d n + (n + 1) = N := i
    rw [e2]
    show ey_sm (up (ey_e pn N d) (pn (N - 1 - d)) (ey_e pn N d (pn (N - 1 - d)) + (ey_e pn N d (N - 1 - d) + 1))) n + n = N
    rw [e1] at hl ⊢
    rw [ey_sm_up hl]
    omega
theorem ey_e_le (pn : Nat → Nat) (hp : ∀ j, 1 ≤ j → pn j < j) (N : Nat) (hN : 1 ≤ N) (d : Nat) (hd : d + 1 ≤ N) {j : Nat} (hj : j < N - d) : ey_e pn N d j + (N - d) ≤ N := by
  have := ey_e_sum pn hp N hN d hd
  have := ey_sm_le (f := ey_e pn N d) hj
  omega
/-- who doesn't lack, has nothing to choose -/
theorem ey_noL (pn : Nat → Nat) (k : Nat) (hp : ∀ j, 1 ≤ j → pn j < j) (z bu0 la0 : Nat → Bool) (N : Nat) (h0 : ∀ j, la0 j = false → z j = false) : ∀ d, d + 1 ≤ N → ∀ j, ey_L pn la0 N d j = false → z j = false ∧ (ey_D pn k z bu0 N d).2 j = ey_1
  | 0, _, j, h => ⟨h0 j h, rfl⟩
  | d + 1, hd, j, h => by
    have i := ey_noL pn k hp z bu0 la0 N h0 d (by omega)
    have h : up (ey_L pn la0 N d) (pn (N - 1 - d)) (ey_L pn la0 N d (pn (N - 1 - d)) || ey_L pn la0 N d (N - 1 - d)) j = false := h
    show z j = false ∧ up (ey_D pn k z bu0 N d).2 (pn (N - 1 - d)) (ey_m ((ey_D pn k z bu0 N d).2 (pn (N - 1 - d))) (ey_A k z (ey_D pn k z bu0 N d).1 (ey_D pn k z bu0 N d).2 (N - 1 - d))) j = ey_1
    by_cases e : j = pn (N - 1 - d)
    · rw [e, up_self] at h
      rw [e, up_self]
      have h1 : ey_L pn la0 N d (pn (N - 1 - d)) = false := by
        cases q : ey_L pn la0 N d (pn (N - 1 - d)) with
        | false => rfl
        | true =>
          rw [q] at h
          exact h
      have h2 : ey_L pn la0 N d (N - 1 - d) = false := by
        rw [h1] at h
        exact h
      have i1 := i _ h1
      have i2 := i _ h2
      refine ⟨i1.1, ?_⟩
      unfold ey_A
      rw [i1.2, i2.1, i2.2]
      cases (ey_D pn k z bu0 N d).1 (N - 1 - d) <;> rfl
    · rw [up_ne e] at h
      rw [up_ne e]
      exact i j h
