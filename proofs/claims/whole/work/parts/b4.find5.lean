/-! FIND: the class's answer. -/
theorem ofNat_div {a b : Nat} (ha : a < 2147483648) (hb : b < 2147483648) (h : 0 < b) : Int32.ofNat a / Int32.ofNat b = Int32.ofNat (a / b) := by
  have l : a / b ≤ a := Nat.div_le_self a b
  apply Int32.toInt_inj.mp
  rw [div_nn ((ofNat_le (a := 0) (by omega) (by omega)).mpr (Nat.zero_le a)) ((ofNat_lt (a := 0) (by omega) (by omega)).mpr h), toInt_ofNat ha, toInt_ofNat hb, toInt_ofNat (by omega)]
  rfl
theorem G_exp2 {s : mS} {N : Nat} (hN2 : N ≤ 16) (h103 : gI s 103 = gI s 174) : ∃ w, lp_Eyes_explain_2 mm_N 0 s = (Int32.ofNat 16, w) ∧ okl_Eyes_explain_2 mm_N 0 s ∧ ey_P1 s N 15 w := by
  have A := lp_up0 (L := lp_Eyes_explain_2) (OK := okl_Eyes_explain_2) (fun i w => fp [104, 105, 106, 107] [] false s w ∧ ∀ j, j < i → gI w 104 j = ey_b (ey_la s j) ∧ gI w 105 j = ey_b (ey_bu s j) ∧ gI w 106 j = 0 ∧ gI w 107 j = 1) 16 (by omega) s ⟨fp_r, fun j hj => absurd hj (by omega)⟩
    (fun n i w hi hP => by
      obtain ⟨hf, hA⟩ := hP
      have e0 : ¬ (16 : Int32) ≤ Int32.ofNat i := fl_lit (a := 16) rfl (by omega) (by omega) hi
      have e2 : ix (Int32.ofNat i) = i := ix_ofNat (by omega)
      have e3 : Int32.ofNat i + 1 = Int32.ofNat (i + 1) := ofNat_succ i
      have b1 : mm_inb (Int32.ofNat i) 16 = true := inb_ofNat (by decide) hi
      have w103 : gI w 103 i = gI s 174 i := by rw [(fpA hf (by decide)).1, h103]
      have x1 : (if gI w 103 i = 0 then (1 : Int32) else 0) = ey_b (ey_la s i) := by
        rw [w103]
        exact (ey_b_d _).symm
      have x2 : (if gI w 103 i = 1 then (1 : Int32) else 0) = ey_b (ey_bu s i) := by
        rw [w103]
        exact (ey_b_d _).symm
      have y2 : gI (sI w 104 i (ey_b (ey_la s i))) 103 i = gI w 103 i := by rw [gI_sI, if_neg (fun q => absurd q.1 (by decide))]
      have o1 : mm_bit (ey_b (ey_la s i)) = true := by cases ey_la s i <;> rfl
      have o2 : mm_bit (ey_b (ey_bu s i)) = true := by cases ey_bu s i <;> rfl
      refine ⟨sI (sI (sI (sI w 104 i (ey_b (ey_la s i))) 105 i (ey_b (ey_bu s i))) 106 i 0) 107 i 1, ?_, ?_, fp_IA (fp_IA (fp_IA (fp_IA hf (by decide)) (by decide)) (by decide)) (by decide), fun j hj => ?_⟩
      · simp only [lp_Eyes_explain_2, mq_let_e, e0, if_false, e2, e3, y2, x1, x2]
      · intro q
        simp only [okl_Eyes_explain_2, mq_letP_e, e0, if_false, e2, e3, y2, x1, x2, b1, o1, o2, Bool.and_self, true_and]
        exact q
      · by_cases e : j = i
        · subst e
          refine ⟨?_, ?_, ?_, ?_⟩
          · rw [gI_sI, if_neg (fun q => absurd q.1 (by decide)), gI_sI, if_neg (fun q => absurd q.1 (by decide)), gI_sI, if_neg (fun q => absurd q.1 (by decide)), gI_sI, if_pos ⟨rfl, rfl⟩]
          · rw [gI_sI, if_neg (fun q => absurd q.1 (by decide)), gI_sI, if_neg (fun q => absurd q.1 (by decide)), gI_sI, if_pos ⟨rfl, rfl⟩]
          · rw [gI_sI, if_neg (fun q => absurd q.1 (by decide)), gI_sI, if_pos ⟨rfl, rfl⟩]
          · rw [gI_sI, if_pos ⟨rfl, rfl⟩]
        · have h := hA j (by omega)
          refine ⟨?_, ?_, ?_, ?_⟩
          · rw [gI_sI, if_neg (fun q => e q.2), gI_sI, if_neg (fun q => e q.2), gI_sI, if_neg (fun q => e q.2), gI_sI, if_neg (fun q => e q.2)]
            exact h.1
          · rw [gI_sI, if_neg (fun q => e q.2), gI_sI, if_neg (fun q => e q.2), gI_sI, if_neg (fun q => e q.2), gI_sI, if_neg (fun q => e q.2)]
            exact h.2.1
          · rw [gI_sI, if_neg (fun q => e q.2), gI_sI, if_neg (fun q => e q.2), gI_sI, if_neg (fun q => e q.2), gI_sI, if_neg (fun q => e q.2)]
            exact h.2.2.1
          · rw [gI_sI, if_neg (fun q => e q.2), gI_sI, if_neg (fun q => e q.2), gI_sI, if_neg (fun q => e q.2), gI_sI, if_neg (fun q => e q.2)]
            exact h.2.2.2)
    (fun n w hP => by
      have e0 : (16 : Int32) ≤ Int32.ofNat 16 := by decide
      constructor
      · simp only [lp_Eyes_explain_2, e0, if_true]
      · simp only [okl_Eyes_explain_2, e0, if_true])
  obtain ⟨w, A1, A2, A3, A4⟩ := A
  refine ⟨w, A1, A2, fp_m A3 (by decide) (by decide) (fun h => h), fun j hj => ?_, fun j h1 h2 => absurd h2 (by omega)⟩
  have h := A4 j (by omega)
  have ed : N - 1 - 15 = 0 := by omega
  rw [ed, h.2.2.1, h.2.2.2]
  exact ⟨h.1, Nat.zero_le 15, fun k => ⟨h.2.1, rfl, rfl, Or.inr ⟨Nat.le_refl 0, Nat.le_refl 1, Nat.le_refl 1⟩⟩⟩
def ey_BB (s : mS) (N k j : Nat) : Option (Nat × Nat × Nat) := (ey_D (ey_pn s) k (ey_z s) (ey_bu s) N (N - 1)).2 j
def ey_AS (s : mS) (N k j : Nat) : Option (Nat × Nat × Nat) := ey_AA (ey_pn s) k (ey_z s) (ey_bu s) N j
def ey_RS (s : mS) (N k j : Nat) : Nat := ey_R (ey_pn s) k (ey_z s) (ey_bu s) N (j + 1) j
theorem G_reach {s w : mS} {N : Nat} (hN : gI s 116 7 = Int32.ofNat N) (hN1 : 1 ≤ N) (hN2 : N ≤ 16) (hpa : nt_paOK N (gI s 127)) (h26 : gI s 26 = gI s 127) (h25 : gI s 25 10 = gI s 116 7) (h103 : gI s 103 = gI s 174) (h : ey_P1 s N 0 w) : ok_Eyes_reach w ∧ fp [110] [] false w (f_Eyes_reach w) ∧ ∀ j, j < N → ∀ k, gI (f_Eyes_reach w) 110 j = Int32.ofNat (ey_RS s N k j) := by
  have hp := ey_pn_lt hN hN2 hpa
  obtain ⟨hf, hA, hB⟩ := h
  have pw16 : (2 : Nat) ^ 16 = 65536 := by decide
  have w25 : gI w 25 10 = Int32.ofNat N := by rw [(fpF hf (by decide)).1, h25, hN]
  have w26 : gI w 26 = gI s 127 := by rw [(fpA hf (by decide)).1, h26]
  have w103 : gI w 103 = gI s 174 := by rw [(fpA hf (by decide)).1, h103]
  have eB : ∀ j k, j < N → ∃ e, e ≤ 16 ∧ ey_enc (ey_BB s N k j) (gI w 106 j) (gI w 107 j) e := fun j k hj => by
    have h := hA j hj
    exact ⟨_, Nat.le_succ_of_le h.2.1, (h.2.2 k).2⟩
  have A := lp_upN (L := lp_Eyes_reach_9) (OK := okl_Eyes_reach_9) (fun i t => 1 ≤ i ∧ fp [110] [] false w t ∧ ∀ j, j < i → j < N → ∀ k, gI t 110 j = Int32.ofNat (ey_RS s N k j)) 16 (by omega)
    (fun n i t hi hP => by
      obtain ⟨hi1, ht, hC⟩ := hP
      have e0 : ¬ (16 : Int32) ≤ Int32.ofNat i := fl_lit (a := 16) rfl (by omega) (by omega) hi
      have e2 : ix (Int32.ofNat i) = i := ix_ofNat (by omega)
      have e3 : Int32.ofNat i + 1 = Int32.ofNat (i + 1) := ofNat_succ i
      have b1 : mm_inb (Int32.ofNat i) 16 = true := inb_ofNat (by decide) hi
      have hs1 : fp [110] [] false w (sI t 110 i 0) := fp_IA ht (by decide)
      have s25 : gI (sI t 110 i 0) 25 10 = Int32.ofNat N := by rw [(fpF hs1 (by decide)).1, w25]
      have zp : (f_Net_hasPipe (Int32.ofNat i) (sI t 110 i 0) = 0) = ¬ (i < N) := by
        rw [z_pipe, s25]
        apply propext
        refine not_congr ⟨fun q => (ofNat_lt (by omega) (by omega)).mp q.2.1, fun q => ⟨(ofNat_lt (a := 0) (by omega) (by omega)).mpr (by omega), (ofNat_lt (by omega) (by omega)).mpr q, (ofNat_lt (b := 16) (by omega) (by omega)).mpr (by omega)⟩⟩
      have zero : (∀ k, i < N → ey_RS s N k i = 0) → ∀ j, j < i + 1 → j < N → ∀ k, gI (sI t 110 i 0) 110 j = Int32.ofNat (ey_RS s N k j) := fun z j h1 h2 k => by
        rw [gI_sI]
        by_cases e : j = i
        · rw [if_pos ⟨rfl, e⟩, e, z k (by omega)]
          rfl
        · rw [if_neg (fun q => e q.2)]
          exact hC j (by omega) h2 k
      by_cases hn : i < N
      · have zp' : ¬ f_Net_hasPipe (Int32.ofNat i) (sI t 110 i 0) = 0 := by
          rw [zp]
          exact fun q => q hn
        have pa := hpa i hi1 hn
        have epn : ey_pn s i = ix (gI s 127 i) := by
          unfold ey_pn
          rw [hN, ix_ofNat (by omega), if_pos ⟨hi1, hn⟩]
        have ppn := hp i hi1
        obtain ⟨p, hpp⟩ : ∃ p, ey_pn s i = p := ⟨_, rfl⟩
        rw [hpp] at epn ppn
        have epar : gI t 26 i = Int32.ofNat p := by
          rw [(fpA ht (by decide)).1, w26, epn]
          exact (ofNat_ix pa.1).symm
        have e4 : ix (Int32.ofNat p) = p := ix_ofNat (by omega)
        have b2 : mm_inb (Int32.ofNat p) 16 = true := inb_ofNat (by decide) (by omega)
        have zh : ¬ f_Net_has (Int32.ofNat p) (sI t 110 i 0) = 0 := by
          rw [z_has, s25]
          refine fun q => q ⟨(ofNat_le (a := 0) (by omega) (by omega)).mpr (Nat.zero_le p), (ofNat_lt (by omega) (by omega)).mpr (by omega), (ofNat_lt (b := 16) (by omega) (by omega)).mpr (by omega)⟩
        have t109 : gI t 109 i = gI w 109 i := by rw [(fpA ht (by decide)).1]
        have cA := fun k => hB i (by omega) hn k
        have c109 : ∀ k, (gI t 109 i = 0) = (ey_W (ey_AS s N k i) = 0) := fun k => by
          obtain ⟨e, he, hc⟩ := cA k
          have k1 := ey_enc_C hc he
          rw [t109, hc.2.1]
          apply propext
          exact ofNat_inj (b := 0) (by
            have := k1.2.2
            omega) (by omega)
        have RS : ∀ k, ey_RS s N k i = if ey_W (ey_AS s N k i) = 0 then 0 else if p = 0 ∨ (ey_z s p = false ∧ ey_C (ey_BB s N k p) = ey_C (ey_AS s N k p)) then ey_RS s N k p * (ey_W (ey_BB s N k p) / ey_W (ey_AS s N k i)) else 0 := fun k => by
          have r := ey_R_s (ey_pn s) k hp (ey_z s) (ey_bu s) N (n := i) hi1
          rw [hpp] at r
          exact r
        by_cases c : gI t 109 i = 0
        · refine ⟨sI t 110 i 0, ?_, ?_, by omega, hs1, zero (fun k _ => by
            rw [RS k, if_pos ((c109 k).mp c)])⟩
          · simp only [lp_Eyes_reach_9, mq_let_e, e0, zp', if_false, e2, epar, zh, c, if_true, e3]
          · intro q
            simp only [okl_Eyes_reach_9, mq_letP_e, e0, zp', if_false, e2, epar, zh, c, if_true, e3, b1, true_and]
            exact q
        · have i0 : (Int32.ofNat p = 0) = (p = 0) := by
            apply propext
            exact ofNat_inj (b := 0) (by omega) (by omega)
          have g103 : gI t 103 p = gI s 174 p := by rw [(fpA ht (by decide)).1, w103]
          have g106 : gI t 106 p = gI w 106 p := by rw [(fpA ht (by decide)).1]
          have g107 : gI t 107 p = gI w 107 p := by rw [(fpA ht (by decide)).1]
          have g108 : gI t 108 p = gI w 108 p := by rw [(fpA ht (by decide)).1]
          have cnd : ∀ k, (if Int32.ofNat p = 0 then (1 : Int32) else if gI t 103 p = 0 then 0 else if gI t 106 p = gI t 108 p then 1 else 0) = if p = 0 ∨ (ey_z s p = false ∧ ey_C (ey_BB s N k p) = ey_C (ey_AS s N k p)) then 1 else 0 := fun k => by
            simp only [i0]
            by_cases p0 : p = 0
            · rw [if_pos p0, if_pos (Or.inl p0)]
            · rw [if_neg p0]
              have zz : ey_z s p = decide (gI s 174 p = 0) := by
                unfold ey_z
                have : Nat.beq p 0 = false := by
                  cases p with
                  | zero => exact absurd rfl p0
                  | succ p => rfl
                rw [this]
                rfl
              rw [g103, g106, g108]
              obtain ⟨e1, he1, hc1⟩ := eB p k (by omega)
              obtain ⟨e2', he2, hc2⟩ := hB p (by omega) (by omega) k
              have k1 := ey_enc_C hc1 he1
              have k2 := ey_enc_C hc2 he2
              have hc2' : gI w 108 p = Int32.ofNat (ey_C (ey_AS s N k p)) := hc2.1
              have k2' : ey_C (ey_AS s N k p) ≤ 1000 := k2.1
              have ee : (gI w 106 p = gI w 108 p) = (ey_C (ey_BB s N k p) = ey_C (ey_AS s N k p)) := by
                rw [hc1.1, hc2']
                apply propext
                exact ofNat_inj (by
                  have := k1.1
                  omega) (by omega)
              simp only [ee, zz]
              by_cases q : gI s 174 p = 0
              · rw [if_pos q, if_neg (fun r => r.elim p0 (fun r => by
                  have := r.1
                  rw [decide_eq_true q] at this
                  exact absurd this (by decide)))]
              · rw [if_neg q]
                by_cases r : ey_C (ey_BB s N k p) = ey_C (ey_AS s N k p)
                · rw [if_pos r, if_pos (Or.inr ⟨decide_eq_false q, r⟩)]
                · rw [if_neg r, if_neg (fun x => x.elim p0 (fun x => r x.2))]
          have t110 : ∀ k, gI (sI t 110 i 0) 110 p = Int32.ofNat (ey_RS s N k p) := fun k => by
            rw [gI_sI, if_neg (fun q => by omega)]
            exact hC p (by omega) (by omega) k
          have val : ∀ k, (if (if p = 0 ∨ (ey_z s p = false ∧ ey_C (ey_BB s N k p) = ey_C (ey_AS s N k p)) then (1 : Int32) else 0) = 0 then 0 else gI (sI t 110 i 0) 110 p * (gI t 107 p / gI t 109 i)) = Int32.ofNat (ey_RS s N k i) := fun k => by
            have c' : ¬ ey_W (ey_AS s N k i) = 0 := fun q => c ((c109 k).mpr q)
            rw [RS k, if_neg c']
            by_cases q : p = 0 ∨ (ey_z s p = false ∧ ey_C (ey_BB s N k p) = ey_C (ey_AS s N k p))
            · rw [if_pos q, if_pos q, if_neg (by decide), t110 k]
              obtain ⟨e1, he1, hc1⟩ := eB p k (by omega)
              obtain ⟨e2', he2, hc2⟩ := cA k
              have k1 := (ey_enc_C hc1 he1).2.2
              have k2 := (ey_enc_C hc2 he2).2.2
              have k2 : ey_W (ey_AS s N k i) ≤ 2 ^ 16 := k2
              have hc2' : gI w 109 i = Int32.ofNat (ey_W (ey_AS s N k i)) := hc2.2.1
              rw [g107, t109, hc1.2.1, hc2', ofNat_div (by omega) (by omega) (by omega), Int32.ofNat_mul]
            · rw [if_neg q, if_neg q]
              rfl
          have okc : (if Int32.ofNat p = 0 then True else mm_inb (Int32.ofNat p) 16 = true ∧ (if gI t 103 p = 0 then True else mm_inb (Int32.ofNat p) 16 = true ∧ mm_inb (Int32.ofNat p) 16 = true ∧ True)) := by
            simp only [b2, true_and, ite_self]
          refine ⟨sI (sI t 110 i 0) 110 i (Int32.ofNat (ey_RS s N 0 i)), ?_, ?_, by omega, fp_IA hs1 (by decide), fun j h1 h2 k => ?_⟩
          · simp only [lp_Eyes_reach_9, mq_let_e, e0, zp', if_false, e2, epar, zh, c, e3, e4, cnd 0, val 0]
          · intro q
            simp only [okl_Eyes_reach_9, mq_letP_e, e0, zp', if_false, e2, epar, zh, c, e3, e4, cnd 0, val 0, b1, b2, true_and, ite_self, decide_false, Bool.not_false, and_true]
            exact q
          · rw [gI_sI]
            by_cases e : j = i
            · rw [if_pos ⟨rfl, e⟩, e, ← val 0, ← cnd 0, cnd k, val k]
            · rw [if_neg (fun q => e q.2), gI_sI, if_neg (fun q => e q.2)]
              exact hC j (by omega) h2 k
      · have zp' : f_Net_hasPipe (Int32.ofNat i) (sI t 110 i 0) = 0 := by
          rw [zp]
          exact hn
        refine ⟨sI t 110 i 0, ?_, ?_, by omega, hs1, zero (fun k q => absurd q hn)⟩
        · simp only [lp_Eyes_reach_9, mq_let_e, e0, zp', if_false, if_true, e2, e3]
        · intro q
          simp only [okl_Eyes_reach_9, mq_letP_e, e0, zp', if_false, if_true, e2, e3, b1, true_and]
          exact q)
    (fun n t hP => by
      have e0 : (16 : Int32) ≤ Int32.ofNat 16 := by decide
      constructor
      · simp only [lp_Eyes_reach_9, e0, if_true]
      · simp only [okl_Eyes_reach_9, e0, if_true])
    1 (sI w 110 0 1) (by omega) ⟨Nat.le_refl 1, fp_IA fp_r (by decide), fun j h1 h2 k => by
      have e : j = 0 := by omega
      rw [e, gI_sI, if_pos ⟨rfl, rfl⟩]
      rfl⟩
  obtain ⟨t, A1, A2, _, A4, A5⟩ := A
  have e1 : (1 : Int32) = Int32.ofNat 1 := rfl
  have ef : f_Eyes_reach w = t := by
    unfold f_Eyes_reach
    rw [mq_let_e]
    exact congrArg Prod.snd A1
  rw [ef]
  exact ⟨⟨A2, trivial⟩, A4, fun j hj k => A5 j (by omega) hj k⟩
