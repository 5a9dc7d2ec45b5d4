theorem ey_bit (S j : Nat) (hS : S < 65536) (hj : j < 16) : ((Int32.ofNat S >>> (Int32.ofNat j &&& 31)) &&& 1) = if S.testBit j then 1 else 0 := by
  have e : ∀ j, j < 16 → (Int32.ofNat j &&& 31).toBitVec.smod 32 = BitVec.ofNat 32 j := by decide
  rw [← Int32.toBitVec_inj]
  rw [Int32.toBitVec_and, Int32.toBitVec_shiftRight, e j hj]
  have m : (Int32.ofNat S).toBitVec = BitVec.ofNat 32 S := rfl
  rw [m]
  have h0 : (BitVec.ofNat 32 S).msb = false := by
    rw [BitVec.msb_eq_decide]
    simp
    omega
  show (BitVec.ofNat 32 S).sshiftRight (BitVec.ofNat 32 j).toNat &&& (1#32) = _
  rw [BitVec.sshiftRight_eq_of_msb_false h0]
  apply BitVec.eq_of_toNat_eq
  rw [BitVec.toNat_and, BitVec.toNat_ushiftRight, BitVec.toNat_ofNat, BitVec.toNat_ofNat, Nat.mod_eq_of_lt (by omega), Nat.mod_eq_of_lt (by omega : j < 2 ^ 32)]
  show (S >>> j) &&& 1 = _
  rw [Nat.testBit_eq_decide_div_mod_eq, Nat.and_one_is_mod, Nat.shiftRight_eq_div_pow]
  rcases Nat.mod_two_eq_zero_or_one (S / 2 ^ j) with h | h
  · rw [h]
    rfl
  · rw [h]
    rfl
/-! FIND: the model's search. -/
theorem ey_bitP (S j : Nat) (hS : S < 65536) (hj : j < 16) : (((Int32.ofNat S >>> (Int32.ofNat j &&& 31)) &&& 1) = 1) = (S.testBit j = true) := by
  rw [ey_bit S j hS hj]
  apply propext
  by_cases h : S.testBit j = true
  · rw [if_pos h]
    exact ⟨fun _ => h, fun _ => rfl⟩
  · rw [if_neg h]
    exact ⟨fun q => absurd q (by decide), fun q => absurd q h⟩
theorem ey_pc_le (S : Nat) : ∀ n, ey_pc S n ≤ n
  | 0 => Nat.le_refl 0
  | n + 1 => by
    have := ey_pc_le S n
    show ey_pc S n + (if S.testBit n then 1 else 0) ≤ n + 1
    split <;> omega
theorem ey_pc_hi (S N : Nat) (h : S < 2 ^ N) : ∀ e, ey_pc S (N + e) = ey_pc S N
  | 0 => rfl
  | e + 1 => by
    show ey_pc S (N + e) + (if S.testBit (N + e) then 1 else 0) = ey_pc S N
    have : S.testBit (N + e) = false := Nat.testBit_lt_two_pow (Nat.lt_of_lt_of_le h (Nat.pow_le_pow_right (by omega) (by omega)))
    rw [this, ey_pc_hi S N h e]
    rfl
theorem M_bits (S : Nat) (hS : S < 65536) (s : mS) : f_M_bits (Int32.ofNat S) s = Int32.ofNat (ey_pc S 16) ∧ ok_M_bits (Int32.ofNat S) s := by
  have A := lp_sum (L := lp_M_bits_4 (Int32.ofNat S) s) (OK := okl_M_bits_4 (Int32.ofNat S) s) 16 (by omega) (fun i => ((Int32.ofNat S >>> (Int32.ofNat i &&& 31)) &&& 1))
    (fun n i acc hi => by
      have e0 : ¬ (16 : Int32) ≤ Int32.ofNat i := fl_lit (a := 16) rfl (by omega) (by omega) hi
      have e3 : Int32.ofNat i + 1 = Int32.ofNat (i + 1) := ofNat_succ i
      constructor
      · simp only [lp_M_bits_4, e0, if_false, e3]
      · intro q
        simp only [okl_M_bits_4, e0, if_false, e3]
        exact q)
    (fun n acc => by
      have e0 : (16 : Int32) ≤ Int32.ofNat 16 := by decide
      constructor
      · simp only [lp_M_bits_4, e0, if_true]
      · simp only [okl_M_bits_4, e0, if_true])
  have B : ∀ n, n ≤ 16 → smI (fun i => ((Int32.ofNat S >>> (Int32.ofNat i &&& 31)) &&& 1)) n = Int32.ofNat (ey_pc S n) := by
    intro n
    induction n with
    | zero => exact fun _ => rfl
    | succ n ih =>
      intro h
      show smI _ n + ((Int32.ofNat S >>> (Int32.ofNat n &&& 31)) &&& 1) = Int32.ofNat (ey_pc S n + (if S.testBit n then 1 else 0))
      rw [ih (by omega), ey_bit S n hS (by omega), Int32.ofNat_add]
      congr 1
      split <;> rfl
  constructor
  · unfold f_M_bits
    rw [mq_let_e, A.1]
    exact B 16 (Nat.le_refl 16)
  · unfold ok_M_bits
    exact ⟨A.2, trivial⟩
theorem M_wet {s : mS} {N S : Nat} {x2 : Int32} (hN : gI s 116 7 = Int32.ofNat N) (hN2 : N ≤ 16) (hpa : nt_paOK N (gI s 127)) (hS : S < 65536) : ∀ j, j < N → ∀ n, j < n → ∀ b : Bool, (lp_M_explains_15 (Int32.ofNat S) x2 s n (ey_b b) (Int32.ofNat j)).1 = ey_b (b || ey_w (ey_pn s) S (j + 1) j) ∧ okl_M_explains_15 (Int32.ofNat S) x2 s n (ey_b b) (Int32.ofNat j) := by
  have hp := ey_pn_lt hN hN2 hpa
  intro j
  induction j using Nat.strongRecOn with
  | _ j ih =>
    intro hj n hn b
    obtain ⟨n', rfl⟩ : ∃ n', n = n' + 1 := ⟨n - 1, by omega⟩
    by_cases j0 : j = 0
    · subst j0
      have e0 : Int32.ofNat 0 ≤ 0 := by decide
      rw [ey_w_0, Bool.or_false]
      constructor
      · simp only [lp_M_explains_15, e0, if_true]
      · simp only [okl_M_explains_15, e0, if_true]
    · have e0 : ¬ Int32.ofNat j ≤ 0 := by
        rw [show (0 : Int32) = Int32.ofNat 0 from rfl, ofNat_le (by omega) (by omega)]
        omega
      have e2 : ix (Int32.ofNat j) = j := ix_ofNat (by omega)
      have b1 : mm_inb (Int32.ofNat j) 16 = true := inb_ofNat (by decide) (by omega)
      have pj := hp j (by omega)
      have epn : gI s 127 j = Int32.ofNat (ey_pn s j) := by
        unfold ey_pn
        rw [hN, ix_ofNat (by omega), if_pos ⟨by omega, hj⟩]
        exact (ofNat_ix (hpa j (by omega) hj).1).symm
      have I := fun b => ih (ey_pn s j) pj (by omega) n' (by omega) b
      rw [ey_w_s (ey_pn s) hp S (by omega)]
      have bt := ey_bitP S j hS (by omega)
      cases b with
      | true =>
        have n1 : ¬ ey_b true = 0 := by decide
        have i := I true
        constructor
        · simp only [lp_M_explains_15, e0, if_false, n1, e2, epn]
          exact i.1
        · simp only [okl_M_explains_15, e0, if_false, n1, e2, epn, b1, true_and]
          exact i.2
      | false =>
        have n1 : ey_b false = 0 := rfl
        by_cases q : S.testBit j = true
        · have i := I true
          rw [q]
          constructor
          · simp only [lp_M_explains_15, e0, if_false, n1, if_true, bt, q, e2, epn]
            exact i.1
          · simp only [okl_M_explains_15, e0, if_false, n1, if_true, bt, q, e2, epn, b1, true_and]
            exact i.2
        · have i := I false
          have q' : S.testBit j = false := by
            cases h : S.testBit j with
            | false => rfl
            | true => exact absurd h q
          rw [q', Bool.false_or, Bool.false_or]
          rw [Bool.false_or] at i
          constructor
          · simp only [lp_M_explains_15, e0, if_false, n1, if_true, bt, q, e2, epn]
            exact i.1
          · simp only [okl_M_explains_15, e0, if_false, n1, if_true, bt, q, e2, epn, b1, true_and]
            exact i.2
theorem ey_X_f (pn : Nat → Nat) (z bu : Nat → Bool) (S : Nat) {i : Nat} (h : ey_X pn z bu S i = false) : ∀ e, ey_X pn z bu S (i + e) = false
  | 0 => h
  | e + 1 => by
    show (ey_X pn z bu S (i + e) && _) = false
    rw [ey_X_f pn z bu S h e]
    rfl
theorem M_explains {s : mS} {N S : Nat} (hN : gI s 116 7 = Int32.ofNat N) (hN1 : 1 ≤ N) (hN2 : N ≤ 16) (hpa : nt_paOK N (gI s 127)) (hS : S < 65536) : f_M_explains (Int32.ofNat S) s = ey_b (ey_X (ey_pn s) (ey_z s) (ey_bu s) S N) ∧ ok_M_explains (Int32.ofNat S) s := by
  have LP : ∀ r i n, i + r = N → r < n → 1 ≤ i → ey_X (ey_pn s) (ey_z s) (ey_bu s) S i = true → mq_el (lp_M_explains_2 (Int32.ofNat S) s n (Int32.ofNat i)).1 (fun v => v) 1 = ey_b (ey_X (ey_pn s) (ey_z s) (ey_bu s) S N) ∧ okl_M_explains_2 (Int32.ofNat S) s n (Int32.ofNat i) := by
    intro r
    induction r with
    | zero =>
      intro i n h1 h2 h3 h4
      obtain ⟨n', rfl⟩ : ∃ n', n = n' + 1 := ⟨n - 1, by omega⟩
      have e : i = N := by omega
      subst e
      have e0 := fl_lit' hN
      rw [h4]
      constructor
      · simp only [lp_M_explains_2, e0, if_true]
        rfl
      · simp only [okl_M_explains_2, e0, if_true]
    | succ r ih =>
      intro i n h1 h2 h3 h4
      obtain ⟨n', rfl⟩ : ∃ n', n = n' + 1 := ⟨n - 1, by omega⟩
      have e0 := fl_lit hN (by omega) (by omega) (show i < N by omega)
      have e2 : ix (Int32.ofNat i) = i := ix_ofNat (by omega)
      have e3 : Int32.ofNat i + 1 = Int32.ofNat (i + 1) := ofNat_succ i
      have b1 : mm_inb (Int32.ofNat i) 16 = true := inb_ofNat (by decide) (by omega)
      have W := M_wet (x2 := Int32.ofNat i) hN hN2 hpa hS i (by omega) mm_N (by rw [mm_Ns]; omega) false
      rw [Bool.false_or] at W
      have W1 : (lp_M_explains_15 (Int32.ofNat S) (Int32.ofNat i) s mm_N 0 (Int32.ofNat i)).1 = ey_b (ey_w (ey_pn s) S (i + 1) i) := W.1
      have W2 : okl_M_explains_15 (Int32.ofNat S) (Int32.ofNat i) s mm_N 0 (Int32.ofNat i) := W.2
      have zz : ey_z s i = decide (gI s 174 i = 0) := by
        unfold ey_z
        have : Nat.beq i 0 = false := by
          cases i with
          | zero => omega
          | succ p => rfl
        rw [this]
        rfl
      have step : ey_X (ey_pn s) (ey_z s) (ey_bu s) S (i + 1) = (if ey_w (ey_pn s) S (i + 1) i then !(ey_bu s i) else !(ey_z s i)) := by
        show (ey_X (ey_pn s) (ey_z s) (ey_bu s) S i && _) = _
        rw [h4]
        rfl
      have bad : ey_X (ey_pn s) (ey_z s) (ey_bu s) S (i + 1) = false → ey_b (ey_X (ey_pn s) (ey_z s) (ey_bu s) S N) = 0 := fun q => by
        have := ey_X_f (ey_pn s) (ey_z s) (ey_bu s) S q (N - (i + 1))
        rw [show i + 1 + (N - (i + 1)) = N by omega] at this
        rw [this]
        rfl
      have nb : ey_bu s i = decide (gI s 174 i = 1) := rfl
      have n01 : ¬ (0 : Int32) = 1 := by decide
      have good := fun q => ih (i + 1) n' (by omega) (by omega) (by omega) q
      cases hw : ey_w (ey_pn s) S (i + 1) i with
      | true =>
        rw [hw] at W1 step
        have W1 : (lp_M_explains_15 (Int32.ofNat S) (Int32.ofNat i) s mm_N 0 (Int32.ofNat i)).1 = 1 := W1
        have n10 : ¬ (1 : Int32) = 0 := by decide
        rw [if_pos rfl, nb] at step
        by_cases c1 : gI s 174 i = 1
        · rw [decide_eq_true c1] at step
          rw [bad step]
          have c0 : ¬ gI s 174 i = 0 := fun q => by rw [c1] at q; exact n10 q
          constructor
          · simp only [lp_M_explains_2, mq_let_e, e0, if_false, e2, if_neg c0, if_pos c1, W1, n10]
            rfl
          · simp only [okl_M_explains_2, mq_letP_e, e0, if_false, e2, if_neg c0, if_pos c1, W1, W2, n10, b1, true_and]
        · rw [decide_eq_false c1] at step
          have g := good step
          by_cases c0 : gI s 174 i = 0
          · constructor
            · simp only [lp_M_explains_2, mq_let_e, e0, if_false, e2, if_pos c0, if_neg c1, W1, n10, e3]
              exact g.1
            · simp only [okl_M_explains_2, mq_letP_e, e0, if_false, e2, if_pos c0, if_neg c1, W1, W2, n10, b1, true_and, e3]
              exact g.2
          · constructor
            · simp only [lp_M_explains_2, mq_let_e, e0, if_false, e2, if_neg c0, if_neg c1, W1, n10, e3]
              exact g.1
            · simp only [okl_M_explains_2, mq_letP_e, e0, if_false, e2, if_neg c0, if_neg c1, W1, W2, n10, b1, true_and, e3]
              exact g.2
      | false =>
        rw [hw] at W1 step
        have W1 : (lp_M_explains_15 (Int32.ofNat S) (Int32.ofNat i) s mm_N 0 (Int32.ofNat i)).1 = 0 := W1
        rw [if_neg (by decide), zz] at step
        by_cases c0 : gI s 174 i = 0
        · rw [decide_eq_true c0] at step
          rw [bad step]
          constructor
          · simp only [lp_M_explains_2, mq_let_e, e0, if_false, e2, if_pos c0, W1, if_true]
            rfl
          · simp only [okl_M_explains_2, mq_letP_e, e0, if_false, e2, if_pos c0, W1, W2, if_true, b1, true_and]
        · rw [decide_eq_false c0] at step
          have g := good step
          by_cases c1 : gI s 174 i = 1
          · constructor
            · simp only [lp_M_explains_2, mq_let_e, e0, if_false, e2, if_neg c0, if_pos c1, W1, if_true, e3]
              exact g.1
            · simp only [okl_M_explains_2, mq_letP_e, e0, if_false, e2, if_neg c0, if_pos c1, W1, W2, if_true, b1, true_and, e3]
              exact g.2
          · constructor
            · simp only [lp_M_explains_2, mq_let_e, e0, if_false, e2, if_neg c0, if_neg c1, W1, e3]
              exact g.1
            · simp only [okl_M_explains_2, mq_letP_e, e0, if_false, e2, if_neg c0, if_neg c1, W1, W2, b1, true_and, e3]
              exact g.2
  have st : ey_X (ey_pn s) (ey_z s) (ey_bu s) S 1 = true := by
    show (true && (if ey_w (ey_pn s) S 1 0 then !(ey_bu s 0) else !(ey_z s 0))) = true
    rw [ey_w_0]
    rfl
  have A := LP (N - 1) 1 mm_N (by omega) (by rw [mm_Ns]; omega) (Nat.le_refl 1) st
  constructor
  · unfold f_M_explains
    rw [mq_let_e]
    exact A.1
  · unfold ok_M_explains
    refine ⟨A.2, ?_⟩
    rw [mq_letP_e]
    generalize (lp_M_explains_2 (Int32.ofNat S) s mm_N 1).1 = o
    cases o <;> trivial
