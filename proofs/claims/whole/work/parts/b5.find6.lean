/-! FIND: the class's answers, as they are meant. -/
def ey_sh (v W : Nat) : Int32 := if v = W then 2 else if v = 0 then 0 else 1
theorem ey_none {s : mS} {N : Nat} {k : Nat} {c w : Int32} {e : Nat} (he : e ≤ 16) (h : ey_enc (ey_BB s N k 0) c w e) : (ey_BB s N k 0 = none ↔ ¬ c < 1000) := by
  have k1 := ey_enc_C h he
  rw [h.1, show (1000 : Int32) = Int32.ofNat 1000 from rfl, ofNat_lt (by omega) (by omega)]
  constructor
  · intro q
    rw [q]
    show ¬ 1000 < 1000
    omega
  · intro q
    apply Classical.byContradiction
    intro r
    have := k1.2.1 r
    omega
theorem G_eyes {s : mS} {N : Nat} (hN : gI s 116 7 = Int32.ofNat N) (hN1 : 1 ≤ N) (hN2 : N ≤ 16) (hpa : nt_paOK N (gI s 127)) (h26 : gI s 26 = gI s 127) (h25 : gI s 25 10 = gI s 116 7) (h103 : gI s 103 = gI s 174) : ok_Eyes_explain s ∧ (((f_Eyes_explain s).1 = 0 ∧ ∀ k, ey_BB s N k 0 = none) ∨ ((f_Eyes_explain s).1 = 1 ∧ ∃ c W, 1 ≤ W ∧ W ≤ 65536 ∧ c ≤ 16 ∧ gI (f_Eyes_explain s).2 106 0 = Int32.ofNat c ∧ gI (f_Eyes_explain s).2 107 0 = Int32.ofNat W ∧ (∀ k, ∃ v, v ≤ W ∧ ey_BB s N k 0 = some (c, W, v)) ∧ ∀ n, 1 ≤ n → n < N → f_Eyes_sharePipe (Int32.ofNat n) (f_Eyes_explain s).2 = ey_sh (ey_V (ey_BB s N n 0)) W ∧ ok_Eyes_sharePipe (Int32.ofNat n) (f_Eyes_explain s).2)) := by
  have hp := ey_pn_lt hN hN2 hpa
  have hq := ey_pn_le hN hN2 hpa
  have pw16 : (2 : Nat) ^ 16 = 65536 := by decide
  obtain ⟨w0, a1, a2, a3⟩ := G_exp2 hN2 h103
  obtain ⟨w, b1, b2, b3⟩ := G_exp72 hN hN1 hN2 hpa h26 h25 h103 a3
  obtain ⟨r1, r2, r3⟩ := G_reach hN hN1 hN2 hpa h26 h25 h103 b3
  obtain ⟨hf, hA, hB⟩ := b3
  have h0 := hA 0 (by omega)
  have en : ∀ k, ey_enc (ey_BB s N k 0) (gI w 106 0) (gI w 107 0) 16 := fun k => by
    have q := (h0.2.2 k).2
    have m : 2 ^ ey_e (ey_pn s) N (N - 1 - 0) 0 ≤ 2 ^ 16 := Nat.pow_le_pow_right (by omega) (Nat.le_succ_of_le h0.2.1)
    have l := h0.2.1
    refine ⟨q.1, q.2.1, q.2.2.elim Or.inl (fun q => Or.inr ⟨?_, q.2.1, ?_⟩)⟩
    · exact Nat.le_trans q.1 (Nat.le_succ_of_le l)
    · exact Nat.le_trans q.2.2 m
  have vw : ∀ k, ey_V (ey_BB s N k 0) ≤ ey_W (ey_BB s N k 0) := fun k => by
    have al := ey_all (ey_pn s) k hp (ey_z s) (ey_bu s) N hN1 rfl
    unfold ey_BB
    rw [← al]
    refine ey_vw_S (fun m => ?_) _
    rw [ey_set]
    split
    · show (if _ then 1 else 0) ≤ 1
      split <;> omega
    · exact Nat.le_refl 0
  by_cases c : gI w 106 0 < 1000
  · have e1 : f_Eyes_explain s = (1, f_Eyes_reach w) := by
      unfold f_Eyes_explain
      simp only [mq_let_e, a1, b1, c, if_true]
    have e2 : ok_Eyes_explain s := by
      unfold ok_Eyes_explain
      simp only [mq_letP_e, a1, a2, b1, b2, c, if_true, r1, and_self]
    rw [e1]
    refine ⟨e2, Or.inr ⟨rfl, ey_C (ey_BB s N 0 0), ey_W (ey_BB s N 0 0), ?_⟩⟩
    have nn : ∀ k, ey_BB s N k 0 ≠ none := fun k q => ((ey_none (Nat.le_refl 16) (en k)).mp q) c
    have kk := fun k => ey_enc_C (en k) (Nat.le_refl 16)
    have sC : ∀ k, ey_C (ey_BB s N k 0) = ey_C (ey_BB s N 0 0) := fun k => by
      have q : Int32.ofNat (ey_C (ey_BB s N k 0)) = Int32.ofNat (ey_C (ey_BB s N 0 0)) := by rw [← (en k).1, ← (en 0).1]
      have l1 := (kk k).1
      have l2 := (kk 0).1
      exact (ofNat_inj (by omega) (by omega)).mp q
    have sW : ∀ k, ey_W (ey_BB s N k 0) = ey_W (ey_BB s N 0 0) := fun k => by
      have q : Int32.ofNat (ey_W (ey_BB s N k 0)) = Int32.ofNat (ey_W (ey_BB s N 0 0)) := by rw [← (en k).2.1, ← (en 0).2.1]
      have l1 := (kk k).2.2
      have l2 := (kk 0).2.2
      exact (ofNat_inj (by omega) (by omega)).mp q
    have W1 := ((en 0).2.2.resolve_left (nn 0)).2.1
    have W2 : ey_W (ey_BB s N 0 0) ≤ 65536 := by
      have := (kk 0).2.2
      omega
    have g106 : gI (f_Eyes_reach w) 106 = gI w 106 := (fpA r2 (by decide)).1
    have g107 : gI (f_Eyes_reach w) 107 = gI w 107 := (fpA r2 (by decide)).1
    have g104 : gI (f_Eyes_reach w) 104 = gI w 104 := (fpA r2 (by decide)).1
    have g105 : gI (f_Eyes_reach w) 105 = gI w 105 := (fpA r2 (by decide)).1
    have g108 : gI (f_Eyes_reach w) 108 = gI w 108 := (fpA r2 (by decide)).1
    refine ⟨W1, W2, (kk 0).2.1 (nn 0), ?_, ?_, fun k => ?_, fun n n1 n2 => ?_⟩
    · rw [g106]
      exact (en 0).1
    · rw [g107]
      exact (en 0).2.1
    · have v := vw k
      have c1 := sC k
      have w1 := sW k
      have k0 := nn k
      cases hb : ey_BB s N k 0 with
      | none => exact absurd hb k0
      | some b =>
        rw [hb] at v c1 w1
        have v : b.2.2 ≤ b.2.1 := v
        have c1 : b.1 = _ := c1
        have w1 : b.2.1 = _ := w1
        refine ⟨b.2.2, ?_, ?_⟩
        · omega
        · rw [← c1, ← w1]
    · have An := hA n n2
      obtain ⟨e, he, hc⟩ := hB n (by omega) n2 n
      have hc : ey_enc (ey_AS s N n n) (gI w 108 n) (gI w 109 n) e := hc
      have kc := ey_enc_C hc he
      have way := ey_way (ey_pn s) n hp hq (ey_z s) (ey_bu s) N (fun m m1 m2 mw => by
        obtain ⟨e', _, hc'⟩ := hB m (by omega) m2 n
        exact hc'.2.2.elim (fun q => q) (fun q => absurd mw (by
          have := q.2.1
          omega))) n n1 n2 ⟨0, rfl⟩
      have way : ey_V (ey_BB s N n 0) = ey_RS s N n n * ey_V (ey_AS s N n n) := way
      have own := ey_own (ey_pn s) n hp hq (ey_z s) (ey_bu s) N n1 n2
      have own : ey_V (ey_AS s N n n) = if (ey_DS s N n (N - 1 - 0)).1 n = false ∧ ey_C (ey_AS s N n n) = 1 then 1 else 0 := own
      have t1 : ¬ Int32.ofNat n < 1 := Int32.not_lt.mpr ((ofNat_le (a := 1) (by omega) (by omega)).mpr n1)
      have t2 : ¬ (16 : Int32) ≤ Int32.ofNat n := fl_lit (a := 16) rfl (by omega) (by omega) (by omega)
      have e2 : ix (Int32.ofNat n) = n := ix_ofNat (by omega)
      have bb : mm_inb (Int32.ofNat n) 16 = true := inb_ofNat (by decide) (by omega)
      have zero : ey_V (ey_BB s N n 0) = 0 → ey_sh (ey_V (ey_BB s N n 0)) (ey_W (ey_BB s N 0 0)) = 0 := fun q => by
        rw [q]
        unfold ey_sh
        rw [if_neg (by omega), if_pos rfl]
      have okk : ok_Eyes_sharePipe (Int32.ofNat n) (f_Eyes_reach w) := by
        unfold ok_Eyes_sharePipe
        simp only [t1, t2, if_false, bb, true_and, ite_self, and_self]
      refine ⟨?_, okk⟩
      unfold f_Eyes_sharePipe
      simp only [t1, t2, if_false, e2, g104, g105, g107, g108, An.1, (An.2.2 n).1]
      cases hL : ey_L (ey_pn s) (ey_la s) N (N - 1 - 0) n with
      | false =>
        have z := ey_noL (ey_pn s) n hp (ey_z s) (ey_bu s) (ey_la s) N (fun j hj => by
          unfold ey_z
          have hj : decide (gI s 174 j = 0) = false := hj
          rw [hj, Bool.and_false]) (N - 1) (by omega) n hL
        have a1' : ey_AS s N n n = ey_1 := by
          show ey_a (if ey_z s n then none else (ey_D (ey_pn s) n (ey_z s) (ey_bu s) N (N - 1)).2 n) (if (ey_D (ey_pn s) n (ey_z s) (ey_bu s) N (N - 1)).1 n then none else ey_t n n) = ey_1
          rw [z.1, z.2]
          cases (ey_D (ey_pn s) n (ey_z s) (ey_bu s) N (N - 1)).1 n <;> rfl
        rw [if_pos (show ey_b false = 0 from rfl), zero (by rw [way, a1']; rfl)]
      | true =>
        rw [if_neg (show ¬ ey_b true = 0 by decide)]
        cases hbu : (ey_DS s N n (N - 1 - 0)).1 n with
        | true =>
          rw [if_neg (show ¬ ey_b true = 0 by decide), zero (by rw [way, own, if_neg (fun q => by rw [hbu] at q; exact absurd q.1 (by decide))]; rfl)]
        | false =>
          rw [if_pos (show ey_b false = 0 from rfl)]
          have c108 : (gI w 108 n = 1) = (ey_C (ey_AS s N n n) = 1) := by
            rw [hc.1]
            apply propext
            exact ofNat_inj (b := 1) (by
              have := kc.1
              omega) (by omega)
          simp only [c108]
          by_cases q : ey_C (ey_AS s N n n) = 1
          · rw [if_pos q]
            have e3 : ey_V (ey_BB s N n 0) = ey_RS s N n n := by rw [way, own, if_pos ⟨hbu, q⟩, Nat.mul_one]
            have l1 : ey_RS s N n n ≤ 65536 := by
              have := vw n
              have := sW n
              omega
            have c110 : (gI (f_Eyes_reach w) 110 n = 0) = (ey_RS s N n n = 0) := by
              rw [r3 n n2 n]
              apply propext
              exact ofNat_inj (b := 0) (by omega) (by omega)
            have c107 : (gI (f_Eyes_reach w) 110 n = gI w 107 0) = (ey_RS s N n n = ey_W (ey_BB s N 0 0)) := by
              rw [r3 n n2 n, (en 0).2.1]
              apply propext
              exact ofNat_inj (by omega) (by omega)
            simp only [c110, c107, e3]
            unfold ey_sh
            by_cases u : ey_RS s N n n = 0
            · rw [if_pos u, if_neg (by omega), if_pos u]
            · rw [if_neg u, if_neg u]
          · rw [if_neg q, zero (by rw [way, own, if_neg (fun r => q r.2)]; rfl)]
  · have e1 : f_Eyes_explain s = (0, w) := by
      unfold f_Eyes_explain
      simp only [mq_let_e, a1, b1, c, if_false]
    have e2 : ok_Eyes_explain s := by
      unfold ok_Eyes_explain
      simp only [mq_letP_e, a1, a2, b1, b2, c, if_false, and_self]
    rw [e1]
    exact ⟨e2, Or.inl ⟨rfl, fun k => (ey_none (Nat.le_refl 16) (en k)).mpr c⟩⟩
