/-! FIND: the class's way through the nodes. -/
def ey_b (b : Bool) : Int32 := if b then 1 else 0
theorem ey_b_or (a b : Bool) : ey_b (a || b) = (if ey_b a = 0 then (if ey_b b = 0 then 0 else 1) else 1) ∧ mm_bit (ey_b (a || b)) = true := by
  cases a <;> cases b <;> exact ⟨rfl, rfl⟩
theorem ey_b_d (p : Prop) [Decidable p] : ey_b (decide p) = if p then 1 else 0 := by
  unfold ey_b
  by_cases h : p
  · rw [if_pos h, if_pos (decide_eq_true h)]
  · rw [if_neg h, if_neg (by rw [decide_eq_false h]; decide)]
theorem G_eyw {w : mS} {n : Nat} (hn : n < 16) {own beh cost ways : Int32} (eo : own = if gI w 104 n = 0 then 1000 else if gI w 105 n = 0 then 1 else 1000) (eb : beh = if gI w 103 n = 0 then 1000 else gI w 106 n) (ec : cost = if beh < own then beh else own) (ew : ways = if 1000 ≤ cost then 0 else (if own = cost then 1 else 0) + (if beh = cost then gI w 107 n else 0)) : ∃ w1, f_Eyes_weigh (Int32.ofNat n) w = w1 ∧ ok_Eyes_weigh (Int32.ofNat n) w ∧ fp [108, 109] [] false w w1 ∧ gI w1 108 = up (gI w 108) n cost ∧ gI w1 109 = up (gI w 109) n ways := by
  have e2 : ix (Int32.ofNat n) = n := ix_ofNat (by omega)
  have b1 : mm_inb (Int32.ofNat n) 16 = true := inb_ofNat (by decide) hn
  by_cases c : 1000 ≤ cost
  · rw [if_pos c] at ew
    refine ⟨sI (sI w 108 n cost) 109 n 0, ?_, ?_, fp_IA (fp_IA fp_r (by decide)) (by decide), ?_, ?_⟩
    · simp only [f_Eyes_weigh, mq_let_e, e2, ← eo, ← eb, ← ec, gI_sI, and_self, if_true, c]
    · simp only [ok_Eyes_weigh, mq_letP_e, e2, b1, ← eo, ← eb, ← ec, gI_sI, and_self, if_true, c, ite_self, true_and, and_true]
    · rw [fI_sI, if_neg (by decide), fI_sI, if_pos rfl]
    · rw [fI_sI, if_pos rfl, fI_sI, if_neg (by decide), ew]
  · rw [if_neg c] at ew
    refine ⟨sI (sI (sI w 108 n cost) 109 n 0) 109 n ways, ?_, ?_, fp_IA (fp_IA (fp_IA fp_r (by decide)) (by decide)) (by decide), ?_, ?_⟩
    · simp only [f_Eyes_weigh, mq_let_e, e2, ← eo, ← eb, ← ec, gI_sI, and_self, if_true, c, if_false, ← ew]
    · simp only [ok_Eyes_weigh, mq_letP_e, e2, b1, ← eo, ← eb, ← ec, gI_sI, and_self, if_true, c, if_false, ite_self, true_and, and_true]
    · rw [fI_sI, if_neg (by decide), fI_sI, if_neg (by decide), fI_sI, if_pos rfl]
    · rw [fI_sI, if_pos rfl, fI_sI, if_pos rfl, up_up, fI_sI, if_neg (by decide)]
/-- the nodes' fathers -/
def ey_pn (s : mS) (j : Nat) : Nat := if 1 ≤ j ∧ j < ix (gI s 116 7) then ix (gI s 127 j) else 0
def ey_z (s : mS) (j : Nat) : Bool := !(Nat.beq j 0) && decide (gI s 174 j = 0)
def ey_bu (s : mS) (j : Nat) : Bool := decide (gI s 174 j = 1)
def ey_la (s : mS) (j : Nat) : Bool := decide (gI s 174 j = 0)
theorem ey_pn_lt {s : mS} {N : Nat} (hN : gI s 116 7 = Int32.ofNat N) (hN2 : N ≤ 16) (hpa : nt_paOK N (gI s 127)) : ∀ j, 1 ≤ j → ey_pn s j < j := fun j hj => by
  unfold ey_pn
  rw [hN, ix_ofNat (by omega)]
  by_cases c : 1 ≤ j ∧ j < N
  · rw [if_pos c]
    exact (hpa j c.1 c.2).2
  · rw [if_neg c]
    omega
theorem ey_pn_le {s : mS} {N : Nat} (hN : gI s 116 7 = Int32.ofNat N) (hN2 : N ≤ 16) (hpa : nt_paOK N (gI s 127)) : ∀ j, ey_pn s j ≤ j := fun j => by
  by_cases c : 1 ≤ j
  · exact Nat.le_of_lt (ey_pn_lt hN hN2 hpa j c)
  · unfold ey_pn
    rw [if_neg (fun q => c q.1)]
    exact Nat.zero_le j
def ey_DS (s : mS) (N k d : Nat) : (Nat → Bool) × (Nat → Option (Nat × Nat × Nat)) := ey_D (ey_pn s) k (ey_z s) (ey_bu s) N d
/-- the class's arrays when so many nodes are done -/
def ey_P1 (s : mS) (N i : Nat) (w : mS) : Prop := fp [104, 105, 106, 107, 108, 109] [] false s w ∧ (∀ j, j < N → gI w 104 j = ey_b (ey_L (ey_pn s) (ey_la s) N (N - 1 - i) j) ∧ ey_e (ey_pn s) N (N - 1 - i) j ≤ 15 ∧ ∀ k, gI w 105 j = ey_b ((ey_DS s N k (N - 1 - i)).1 j) ∧ ey_enc ((ey_DS s N k (N - 1 - i)).2 j) (gI w 106 j) (gI w 107 j) (ey_e (ey_pn s) N (N - 1 - i) j)) ∧ ∀ j, i < j → j < N → ∀ k, ∃ e, e ≤ 16 ∧ ey_enc (ey_AA (ey_pn s) k (ey_z s) (ey_bu s) N j) (gI w 108 j) (gI w 109 j) e
theorem G_exp72 {s w0 : mS} {N : Nat} (hN : gI s 116 7 = Int32.ofNat N) (hN1 : 1 ≤ N) (hN2 : N ≤ 16) (hpa : nt_paOK N (gI s 127)) (h26 : gI s 26 = gI s 127) (h25 : gI s 25 10 = gI s 116 7) (h103 : gI s 103 = gI s 174) (h0 : ey_P1 s N 15 w0) : ∃ w, lp_Eyes_explain_72 mm_N 15 w0 = (0, w) ∧ okl_Eyes_explain_72 mm_N 15 w0 ∧ ey_P1 s N 0 w := by
  have hp := ey_pn_lt hN hN2 hpa
  have A := lp_dn (L := lp_Eyes_explain_72) (OK := okl_Eyes_explain_72) (fun i w => i ≤ 15 ∧ ey_P1 s N i w)
    (fun n i w hP hi => by
      obtain ⟨hi15, hf, hA, hB⟩ := hP
      have e0 : ¬ Int32.ofNat (i + 1) ≤ 0 := by
        rw [show (0 : Int32) = Int32.ofNat 0 from rfl, ofNat_le (by omega) (by omega)]
        omega
      have e2 : ix (Int32.ofNat (i + 1)) = i + 1 := ix_ofNat (by omega)
      have e3 : Int32.ofNat (i + 1) + (-1) = Int32.ofNat i := ofNat_pred i hi
      have b1 : mm_inb (Int32.ofNat (i + 1)) 16 = true := inb_ofNat (by decide) (by omega)
      have w25 : gI w 25 10 = Int32.ofNat N := by rw [(fpF hf (by decide)).1, h25, hN]
      have w26 : gI w 26 = gI s 127 := by rw [(fpA hf (by decide)).1, h26]
      have zp : (f_Net_hasPipe (Int32.ofNat (i + 1)) w = 0) = ¬ (i + 1 < N) := by
        rw [z_pipe, w25]
        apply propext
        refine not_congr ⟨fun q => (ofNat_lt (by omega) (by omega)).mp q.2.1, fun q => ⟨(ofNat_lt (a := 0) (by omega) (by omega)).mpr (by omega), (ofNat_lt (by omega) (by omega)).mpr q, (ofNat_lt (b := 16) (by omega) (by omega)).mpr (by omega)⟩⟩
      by_cases hn : i + 1 < N
      · have zp' : ¬ f_Net_hasPipe (Int32.ofNat (i + 1)) w = 0 := by
          rw [zp]
          exact fun q => q hn
        have pa := hpa (i + 1) (by omega) hn
        have epn : ey_pn s (i + 1) = ix (gI s 127 (i + 1)) := by
          unfold ey_pn
          rw [hN, ix_ofNat (by omega), if_pos ⟨by omega, hn⟩]
        have ppn := hp (i + 1) (by omega)
        obtain ⟨p, hpp⟩ : ∃ p, ey_pn s (i + 1) = p := ⟨_, rfl⟩
        rw [hpp] at epn ppn
        have epar : gI s 127 (i + 1) = Int32.ofNat p := by
          rw [epn]
          exact (ofNat_ix pa.1).symm
        have w26p : gI w 26 (i + 1) = Int32.ofNat p := by rw [w26, epar]
        have e4 : ix (Int32.ofNat p) = p := ix_ofNat (by omega)
        have b2 : mm_inb (Int32.ofNat p) 16 = true := inb_ofNat (by decide) (by omega)
        have zh : ¬ f_Net_has (Int32.ofNat p) w = 0 := by
          rw [z_has, w25]
          refine fun q => q ⟨(ofNat_le (a := 0) (by omega) (by omega)).mpr (Nat.zero_le p), (ofNat_lt (by omega) (by omega)).mpr (by omega), (ofNat_lt (b := 16) (by omega) (by omega)).mpr (by omega)⟩
        have ed : N - 1 - i = (N - 1 - (i + 1)) + 1 := by omega
        have en : N - 1 - (N - 1 - (i + 1)) = i + 1 := by omega
        generalize hd : N - 1 - (i + 1) = d at hA ed en
        have hd1 : d + 2 ≤ N := by omega
        obtain ⟨w1, g1, g2, g3, g4, g5⟩ := G_eyw (w := w) (n := i + 1) (by omega) rfl rfl rfl rfl
        have An := hA (i + 1) hn
        have Ap := hA p (by omega)
        have w103 : gI w 103 (i + 1) = gI s 174 (i + 1) := by rw [(fpA hf (by decide)).1, h103]
        have zn : ey_z s (i + 1) = decide (gI w 103 (i + 1) = 0) := by
          rw [w103]
          rfl
        have le1 := ey_e_le (ey_pn s) hp N hN1 d (by omega) (j := i + 1) (by omega)
        have le2 := ey_e_le (ey_pn s) hp N hN1 (d + 1) (by omega) (j := p) (by omega)
        have le3 : ey_e (ey_pn s) N (d + 1) p = ey_e (ey_pn s) N d p + (ey_e (ey_pn s) N d (i + 1) + 1) := by
          show up (ey_e (ey_pn s) N d) (ey_pn s (N - 1 - d)) (ey_e (ey_pn s) N d (ey_pn s (N - 1 - d)) + (ey_e (ey_pn s) N d (N - 1 - d) + 1)) p = _
          rw [en, hpp, up_self]
        have encA : ∀ k, ey_enc (ey_AA (ey_pn s) k (ey_z s) (ey_bu s) N (i + 1)) (gI w1 108 (i + 1)) (gI w1 109 (i + 1)) (ey_e (ey_pn s) N d (i + 1) + 1) := fun k => by
          have W := ey_weigh (la := ey_L (ey_pn s) (ey_la s) N d (i + 1)) (bu := (ey_DS s N k d).1 (i + 1)) (zz := ey_z s (i + 1)) (B := (ey_DS s N k d).2 (i + 1)) (k := k) (n := i + 1) (e := ey_e (ey_pn s) N d (i + 1)) An.1 (An.2.2 k).1 zn (An.2.2 k).2 (by omega) (fun q => ey_noL (ey_pn s) k hp (ey_z s) (ey_bu s) (ey_la s) N (fun j hj => by
            unfold ey_z
            have hj : decide (gI s 174 j = 0) = false := hj
            rw [hj, Bool.and_false]) d (by omega) (i + 1) q) _ _ _ rfl rfl rfl
          have at_ := ey_AA_at (ey_pn s) k hp (ey_z s) (ey_bu s) N d (by omega)
          rw [en] at at_
          rw [← at_, g4, g5, up_self, up_self]
          exact W
        have f1 : gI w1 104 = gI w 104 := (fpA g3 (by decide)).1
        have f2 : gI w1 105 = gI w 105 := (fpA g3 (by decide)).1
        have f3 : gI w1 106 = gI w 106 := (fpA g3 (by decide)).1
        have f4 : gI w1 107 = gI w 107 := (fpA g3 (by decide)).1
        have o4 := ey_b_or (ey_L (ey_pn s) (ey_la s) N d p) (ey_L (ey_pn s) (ey_la s) N d (i + 1))
        have o5 := ey_b_or ((ey_DS s N 0 d).1 p) ((ey_DS s N 0 d).1 (i + 1))
        have x4 : (if gI w1 104 p = 0 then (if gI w1 104 (i + 1) = 0 then (0 : Int32) else 1) else 1) = ey_b (ey_L (ey_pn s) (ey_la s) N d p || ey_L (ey_pn s) (ey_la s) N d (i + 1)) := by
          rw [f1, An.1, Ap.1]
          exact o4.1.symm
        have x5 : ∀ k, (if gI w1 105 p = 0 then (if gI w1 105 (i + 1) = 0 then (0 : Int32) else 1) else 1) = ey_b ((ey_DS s N k d).1 p || (ey_DS s N k d).1 (i + 1)) := fun k => by
          rw [f2, (An.2.2 k).1, (Ap.2.2 k).1]
          exact (ey_b_or _ _).1.symm
        have hs1 : fp [104, 105, 106, 107, 108, 109] [] false s w1 := fp_t hf (fp_m g3 (by decide) (by decide) (fun h => h))
        refine ⟨sI (sI (sI (sI w1 104 p (ey_b (ey_L (ey_pn s) (ey_la s) N d p || ey_L (ey_pn s) (ey_la s) N d (i + 1)))) 105 p (ey_b ((ey_DS s N 0 d).1 p || (ey_DS s N 0 d).1 (i + 1)))) 106 p (if gI w1 106 p + gI w1 108 (i + 1) < 1000 then gI w1 106 p + gI w1 108 (i + 1) else 1000)) 107 p (gI w1 107 p * gI w1 109 (i + 1)), ?_, ?_, by omega, fp_IA (fp_IA (fp_IA (fp_IA hs1 (by decide)) (by decide)) (by decide)) (by decide), fun j hj => ?_, fun j h1 h2 k => ?_⟩
        · simp only [lp_Eyes_explain_72, mq_let_e, e0, zp', if_false, e2, w26p, zh, g1, e4, x4, x5 0, e3]
        · intro q
          simp only [okl_Eyes_explain_72, mq_letP_e, e0, zp', if_false, e2, w26p, zh, g1, g2, e4, x4, x5 0, e3, b1, b2, o4.2, o5.2, Bool.and_self, ite_self, true_and, and_true]
          exact q
        · rw [ed]
          have r4 : gI (sI (sI (sI (sI w1 104 p (ey_b (ey_L (ey_pn s) (ey_la s) N d p || ey_L (ey_pn s) (ey_la s) N d (i + 1)))) 105 p (ey_b ((ey_DS s N 0 d).1 p || (ey_DS s N 0 d).1 (i + 1)))) 106 p (if gI w1 106 p + gI w1 108 (i + 1) < 1000 then gI w1 106 p + gI w1 108 (i + 1) else 1000)) 107 p (gI w1 107 p * gI w1 109 (i + 1))) 104 j = up (gI w 104) p (ey_b (ey_L (ey_pn s) (ey_la s) N d p || ey_L (ey_pn s) (ey_la s) N d (i + 1))) j := by
            rw [fI_sI, if_neg (by decide), fI_sI, if_neg (by decide), fI_sI, if_neg (by decide), fI_sI, if_pos rfl, f1]
          have r5 : gI (sI (sI (sI (sI w1 104 p (ey_b (ey_L (ey_pn s) (ey_la s) N d p || ey_L (ey_pn s) (ey_la s) N d (i + 1)))) 105 p (ey_b ((ey_DS s N 0 d).1 p || (ey_DS s N 0 d).1 (i + 1)))) 106 p (if gI w1 106 p + gI w1 108 (i + 1) < 1000 then gI w1 106 p + gI w1 108 (i + 1) else 1000)) 107 p (gI w1 107 p * gI w1 109 (i + 1))) 105 j = up (gI w 105) p (ey_b ((ey_DS s N 0 d).1 p || (ey_DS s N 0 d).1 (i + 1))) j := by
            rw [fI_sI, if_neg (by decide), fI_sI, if_neg (by decide), fI_sI, if_pos rfl, fI_sI, if_neg (by decide), f2]
          have r6 : gI (sI (sI (sI (sI w1 104 p (ey_b (ey_L (ey_pn s) (ey_la s) N d p || ey_L (ey_pn s) (ey_la s) N d (i + 1)))) 105 p (ey_b ((ey_DS s N 0 d).1 p || (ey_DS s N 0 d).1 (i + 1)))) 106 p (if gI w1 106 p + gI w1 108 (i + 1) < 1000 then gI w1 106 p + gI w1 108 (i + 1) else 1000)) 107 p (gI w1 107 p * gI w1 109 (i + 1))) 106 j = up (gI w 106) p (if gI w1 106 p + gI w1 108 (i + 1) < 1000 then gI w1 106 p + gI w1 108 (i + 1) else 1000) j := by
            rw [fI_sI, if_neg (by decide), fI_sI, if_pos rfl, fI_sI, if_neg (by decide), fI_sI, if_neg (by decide), f3]
          have r7 : gI (sI (sI (sI (sI w1 104 p (ey_b (ey_L (ey_pn s) (ey_la s) N d p || ey_L (ey_pn s) (ey_la s) N d (i + 1)))) 105 p (ey_b ((ey_DS s N 0 d).1 p || (ey_DS s N 0 d).1 (i + 1)))) 106 p (if gI w1 106 p + gI w1 108 (i + 1) < 1000 then gI w1 106 p + gI w1 108 (i + 1) else 1000)) 107 p (gI w1 107 p * gI w1 109 (i + 1))) 107 j = up (gI w 107) p (gI w1 107 p * gI w1 109 (i + 1)) j := by
            rw [fI_sI, if_pos rfl, fI_sI, if_neg (by decide), fI_sI, if_neg (by decide), fI_sI, if_neg (by decide), f4]
          have dL : ey_L (ey_pn s) (ey_la s) N (d + 1) j = up (ey_L (ey_pn s) (ey_la s) N d) p (ey_L (ey_pn s) (ey_la s) N d p || ey_L (ey_pn s) (ey_la s) N d (i + 1)) j := by
            show up (ey_L (ey_pn s) (ey_la s) N d) (ey_pn s (N - 1 - d)) (ey_L (ey_pn s) (ey_la s) N d (ey_pn s (N - 1 - d)) || ey_L (ey_pn s) (ey_la s) N d (N - 1 - d)) j = _
            rw [en, hpp]
          have dE : ey_e (ey_pn s) N (d + 1) j = up (ey_e (ey_pn s) N d) p (ey_e (ey_pn s) N d p + (ey_e (ey_pn s) N d (i + 1) + 1)) j := by
            show up (ey_e (ey_pn s) N d) (ey_pn s (N - 1 - d)) (ey_e (ey_pn s) N d (ey_pn s (N - 1 - d)) + (ey_e (ey_pn s) N d (N - 1 - d) + 1)) j = _
            rw [en, hpp]
          have dD : ∀ k, ey_DS s N k (d + 1) = (up (ey_DS s N k d).1 p ((ey_DS s N k d).1 p || (ey_DS s N k d).1 (i + 1)), up (ey_DS s N k d).2 p (ey_m ((ey_DS s N k d).2 p) (ey_AA (ey_pn s) k (ey_z s) (ey_bu s) N (i + 1)))) := fun k => by
            have at_ := ey_AA_at (ey_pn s) k hp (ey_z s) (ey_bu s) N d (by omega)
            rw [en] at at_
            unfold ey_DS
            rw [ey_D_s (ey_pn s) k (ey_z s) (ey_bu s) N d (i + 1) en, hpp, at_]
          rw [r4, r5, r6, r7, dL, dE]
          by_cases e : j = p
          · subst e
            rw [up_self, up_self, up_self, up_self, up_self, up_self]
            refine ⟨rfl, by omega, fun k => ?_⟩
            rw [dD k]
            show _ = ey_b (up _ j _ j) ∧ ey_enc (up _ j _ j) _ _ _
            rw [up_self, up_self]
            refine ⟨?_, ?_⟩
            · rw [← x5 0, x5 k]
            · have T := ey_times (Ap.2.2 k).2 (encA k) (by omega)
              rw [f3, f4]
              exact T
          · rw [up_ne e, up_ne e, up_ne e, up_ne e, up_ne e, up_ne e]
            refine ⟨(hA j hj).1, (hA j hj).2.1, fun k => ?_⟩
            rw [dD k]
            show _ = ey_b (up _ p _ j) ∧ ey_enc (up _ p _ j) _ _ _
            rw [up_ne e, up_ne e]
            exact (hA j hj).2.2 k
        · have r8 : gI (sI (sI (sI (sI w1 104 p (ey_b (ey_L (ey_pn s) (ey_la s) N d p || ey_L (ey_pn s) (ey_la s) N d (i + 1)))) 105 p (ey_b ((ey_DS s N 0 d).1 p || (ey_DS s N 0 d).1 (i + 1)))) 106 p (if gI w1 106 p + gI w1 108 (i + 1) < 1000 then gI w1 106 p + gI w1 108 (i + 1) else 1000)) 107 p (gI w1 107 p * gI w1 109 (i + 1))) 108 = gI w1 108 := by
            rw [fI_sI, if_neg (by decide), fI_sI, if_neg (by decide), fI_sI, if_neg (by decide), fI_sI, if_neg (by decide)]
          have r9 : gI (sI (sI (sI (sI w1 104 p (ey_b (ey_L (ey_pn s) (ey_la s) N d p || ey_L (ey_pn s) (ey_la s) N d (i + 1)))) 105 p (ey_b ((ey_DS s N 0 d).1 p || (ey_DS s N 0 d).1 (i + 1)))) 106 p (if gI w1 106 p + gI w1 108 (i + 1) < 1000 then gI w1 106 p + gI w1 108 (i + 1) else 1000)) 107 p (gI w1 107 p * gI w1 109 (i + 1))) 109 = gI w1 109 := by
            rw [fI_sI, if_neg (by decide), fI_sI, if_neg (by decide), fI_sI, if_neg (by decide), fI_sI, if_neg (by decide)]
          rw [r8, r9]
          by_cases e : j = i + 1
          · rw [e]
            exact ⟨_, by omega, encA k⟩
          · rw [g4, g5, up_ne e, up_ne e]
            exact hB j (by omega) h2 k
      · have zp' : f_Net_hasPipe (Int32.ofNat (i + 1)) w = 0 := by
          rw [zp]
          exact hn
        refine ⟨w, ?_, ?_, by omega, hf, fun j hj => ?_, fun j h1 h2 => absurd h2 (by omega)⟩
        · simp only [lp_Eyes_explain_72, mq_let_e, e0, zp', if_false, if_true, e3]
        · intro q
          simp only [okl_Eyes_explain_72, mq_letP_e, e0, zp', if_false, if_true, e3, b1, true_and]
          exact q
        · have h := hA j hj
          rw [show N - 1 - (i + 1) = N - 1 - i by omega] at h
          exact h)
    (fun n w hP => by
      have e0 : (0 : Int32) ≤ 0 := by decide
      constructor
      · simp only [lp_Eyes_explain_72, e0, if_true]
      · simp only [okl_Eyes_explain_72, e0, if_true])
    15 mm_N w0 (by rw [mm_Ns]; omega) (by omega) ⟨Nat.le_refl 15, h0⟩
  obtain ⟨w, A1, A2, A3⟩ := A
  exact ⟨w, A1, A2, A3.2⟩
