/-! BEST: both alike. -/
theorem bs_D_max2 {C : Nat → (Nat → Int32) → Nat} {L : Nat → (Nat → Int32) → Int32 → Int32} (hC : ∀ p x, p < 8 → (∀ q, q < p → 0 ≤ x q ∧ x q ≤ 6) → C p x ≤ 6) : ∀ k, k ≤ 8 → ∀ x lv left, (∀ q, q < 8 - k → 0 ≤ x q ∧ x q ≤ 6) → 6 * k < left → bs_D C L k x lv left = none
  | 0, _, x, lv, left, _, h => if_neg (by omega)
  | k + 1, hk, x, lv, left, hx, h => by
    show bs_F _ _ = none
    refine bs_F_none (fun n hn => ?_)
    have c := hC (7 - k) x (by omega) (fun q hq => hx q (by omega))
    split
    · rfl
    · refine bs_D_max2 hC k (by omega) _ _ _ (fun q hq => ?_) (by omega)
      by_cases e : q = 7 - k
      · rw [e, up_self]
        exact ⟨(ofNat_le (a := 0) (by omega) (by omega)).mpr (Nat.zero_le _), (ofNat_le (b := 6) (by omega) (by omega)).mpr (by omega)⟩
      · rw [up_ne e]
        exact hx q (by omega)
theorem bs_C6 {most cold : Nat → Int32} (hc : ∀ p, p < 8 → 0 ≤ cold p ∧ cold p ≤ 6) : ∀ p x, p < 8 → (∀ q, q < p → 0 ≤ x q ∧ x q ≤ 6) → bs_C most cold p x ≤ 6 := fun p x hp hx => by
  have z0 := toInt_0
  have t6 : (6 : Int32).toInt = 6 := by decide
  have st := smI_rng (w := fun q => if p ≤ q + 3 then x q else 0) (b := p) (M := 6) (fun q hq => by
    show 0 ≤ (if p ≤ q + 3 then x q else 0) ∧ (if p ≤ q + 3 then x q else 0) ≤ Int32.ofNat 6
    split
    · exact hx q hq
    · decide) (by omega) (by omega)
  have st : 0 ≤ bs_still p x ∧ bs_still p x ≤ Int32.ofNat (p * 6) := st
  have c := hc p hp
  rw [le_toInt, le_toInt, toInt_ofNat (by omega)] at st
  rw [le_toInt, le_toInt] at c
  rw [z0] at st c
  rw [t6] at c
  have d : (cold p - bs_still p x).toInt = (cold p).toInt - (bs_still p x).toInt := sub_nn (by omega) (by omega)
  have top : bs_c most cold p x ≤ cold p - bs_still p x := by
    unfold bs_c
    split
    · exact Int32.le_refl _
    · next k => exact Int32.not_lt.mp k
  unfold bs_C
  by_cases k : 0 < bs_c most cold p x
  · rw [if_pos k]
    have l : ix (bs_c most cold p x) < 7 := ix_lt (by omega) (Int32.le_of_lt k) (by
      rw [le_toInt] at top
      rw [lt_toInt, toInt_ofNat (by omega)]
      omega)
    omega
  · rw [if_neg k]
    exact Nat.zero_le 6
theorem b_cold_rng {x8 : Nat → Int32} {B : Nat} (hB6 : B ≤ 6) (p : Nat) : 0 ≤ b_cold x8 B p ∧ b_cold x8 B p ≤ 6 := by
  have k := smI_rng (w := fun b => if Int32.ofNat (4 * p) < x8 b then 0 else 1) (b := B) (M := 1) (fun q hq => by
    show 0 ≤ (if Int32.ofNat (4 * p) < x8 q then (0 : Int32) else 1) ∧ (if Int32.ofNat (4 * p) < x8 q then (0 : Int32) else 1) ≤ Int32.ofNat 1
    split <;> decide) (by omega) (by omega)
  refine ⟨k.1, Int32.le_trans k.2 ?_⟩
  exact (ofNat_le (b := 6) (by omega) (by omega)).mpr (by omega)
theorem M_best53 {w : mS} {B T : Nat} {a1 a2 a3 a4 : Int32} (h_gen : J_gen w) (hB : gI w 116 4 = Int32.ofNat B) (hB6 : B ≤ 6) (hT : gI w 116 8 = Int32.ofNat T) (hT2 : T ≤ 40) : ∃ w', lp_M_best_53 a1 a2 a3 a4 mm_N 0 w = (Int32.ofNat 32, w') ∧ okl_M_best_53 a1 a2 a3 a4 mm_N 0 w ∧ fp [172, 173] [] false w w' ∧ (∀ j, j < 32 → gI w' 172 j = bG w B j) ∧ ∀ j, j < 32 → gI w' 173 j = bW w T j := by
  have kg := h_gen
  unfold J_gen at kg
  exact lp_up0 (L := lp_M_best_53 a1 a2 a3 a4) (OK := okl_M_best_53 a1 a2 a3 a4) (fun i st => fp [172, 173] [] false w st ∧ (∀ j, j < i → gI st 172 j = bG w B j) ∧ ∀ j, j < i → gI st 173 j = bW w T j) 32 (by omega) w ⟨fp_r, fun j hj => absurd hj (by omega), fun j hj => absurd hj (by omega)⟩
    (fun n i st hi hp => by
      obtain ⟨hf, h172, h173⟩ := hp
      have e1 : ¬ (32 : Int32) ≤ Int32.ofNat i := fl_lit (a := 32) rfl (by omega) (by omega) hi
      have e2 : ix (Int32.ofNat i) = i := ix_ofNat (by omega)
      have e3 : Int32.ofNat i + 1 = Int32.ofNat (i + 1) := ofNat_succ i
      have b1 : mm_inb (Int32.ofNat i) 32 = true := inb_ofNat (by decide) (by omega)
      have hr := hour_in kg.2.1 kg.2.2.1 (i := i) (by omega)
      have sm := stillMakes_eq (s := st) (by rw [(fpF hf (by decide)).1, hB]) hB6 (Int32.ofNat i)
      have eg : smI (wk_g st (Int32.ofNat i)) B = bG w B i := by
        rw [wk_g_c (s := w) (fpA hf (by decide)).1 (fpA hf (by decide)).1 (fpA hf (by decide)).1]
        rfl
      rw [eg] at sm
      have h1 : gI st 116 1 = gI w 116 1 := (fpF hf (by decide)).1
      have hf2 : fp [172, 173] [] false w (sI st 172 i (bG w B i)) := fp_IA hf (by decide)
      have wi := wantsIn_eq (s := sI st 172 i (bG w B i)) (T := T) (by rw [(fpF hf2 (by decide)).1, hT]) hT2 hr.1 hr.2
      have ew : smI (fun t => f_M_wants (Int32.ofNat t) (gI w 116 1 + Int32.ofNat i) (sI st 172 i (bG w B i))) T = bW w T i := smI_c (fun t _ => M_wants_c ⟨(fpA hf2 (by decide)).1, (fpA hf2 (by decide)).1, (fpA hf2 (by decide)).1, (fpA hf2 (by decide)).1, (fpA hf2 (by decide)).1, (fpA hf2 (by decide)).1, (fpF hf2 (by decide)).1, (fpF hf2 (by decide)).1⟩ _ _)
      rw [ew] at wi
      refine ⟨sI (sI st 172 i (bG w B i)) 173 i (bW w T i), ?_, ?_, fp_IA hf2 (by decide), fun j hj => ?_, fun j hj => ?_⟩
      · simp only [lp_M_best_53, mq_let_e, e1, if_false, e2, e3, sm.1, h1, wi.1]
      · intro q
        simp only [okl_M_best_53, mq_letP_e, e1, if_false, e2, e3, sm.1, sm.2, h1, wi.1, wi.2, b1, true_and]
        exact q
      · rw [gI_sI, if_neg (fun q => absurd q.1 (by decide)), gI_sI]
        by_cases e : j = i
        · rw [if_pos ⟨rfl, e⟩, e]
        · rw [if_neg (fun q => e q.2)]
          exact h172 j (by omega)
      · rw [gI_sI]
        by_cases e : j = i
        · rw [if_pos ⟨rfl, e⟩, e]
        · rw [if_neg (fun q => e q.2), gI_sI, if_neg (fun q => absurd q.1 (by decide))]
          exact h173 j (by omega))
    (fun n st hp => by
      have e1 : (32 : Int32) ≤ Int32.ofNat 32 := by decide
      constructor
      · simp only [lp_M_best_53, e1, if_true]
      · simp only [okl_M_best_53, e1, if_true])
def bm_A (a3 : Int32) : Option (Nat × (Nat → Int32)) → Int32
  | none => -1
  | some r => if a3 = 0 then Int32.ofNat r.1 else r.2 (ix (a3 - 1))
def b_E (w : mS) (B T : Nat) (V : Int32) (x0 : Nat → Int32) (v : Nat) : Option (Nat → Int32) := bs_E (fun i => f_M_inStep V i w) (bG w B) (bW w T) (gI w 116 5) (b_Cap w B) (gI w 116 6) 8 x0 v
theorem fillA_fillA (b : Nat) (f g : Nat → Int32) : fillA b f (fillA b f g) = fillA b f g := by
  funext j
  unfold fillA
  split <;> rfl
theorem M_best110 {a1 a2 a3 a4 a5 : Int32} (s : mS) : lp_M_best_110 a1 a2 a3 a4 a5 mm_N 0 s = (Int32.ofNat 8, sA s 170 (fillA 8 (fun _ => 0) (gI s 170))) ∧ okl_M_best_110 a1 a2 a3 a4 a5 mm_N 0 s :=
  lp_map (L := lp_M_best_110 a1 a2 a3 a4 a5) (OK := okl_M_best_110 a1 a2 a3 a4 a5) 170 8 (by omega) s (fun _ => 0)
    (fun n i g hi => by
      have e1 : ¬ (8 : Int32) ≤ Int32.ofNat i := fl_lit (a := 8) rfl (by omega) (by omega) hi
      have e2 : ix (Int32.ofNat i) = i := ix_ofNat (by omega)
      have e3 : Int32.ofNat i + 1 = Int32.ofNat (i + 1) := ofNat_succ i
      have b1 : mm_inb (Int32.ofNat i) 8 = true := inb_ofNat (by decide) (by omega)
      constructor
      · simp only [lp_M_best_110, e1, if_false, e2, e3, sI_sA]
      · intro q
        simp only [okl_M_best_110, e1, if_false, e2, e3, sI_sA, b1, true_and]
        exact q)
    (fun n g => by
      have e1 : (8 : Int32) ≤ Int32.ofNat 8 := by decide
      constructor
      · simp only [lp_M_best_110, e1, if_true]
      · simp only [okl_M_best_110, e1, if_true])
theorem M_bestE {w : mS} {B T S : Nat} {a1 a2 a3 V : Int32} (h_sky : J_sky w) (h_things : J_things w) (h_gen : J_gen w) (h_bench : J_bench w) (h_share : J_share w) (h_level : J_level w) (hc : ∀ t, 0 ≤ gI w 136 t) (hB : gI w 116 4 = Int32.ofNat B) (hB6 : B ≤ 6) (hT : gI w 116 8 = Int32.ofNat T) (hT2 : T ≤ 40) (c0 : 0 ≤ a1 ∧ a1 ≤ 2) (c1 : 1 ≤ a2 ∧ a2 ≤ 9) (c2 : 0 ≤ a3 ∧ a3 ≤ 8) (hV : a2 * gI w 118 (ix a1) = V) (hV0 : 0 ≤ V) (hV1 : V ≤ 1800) (hS : gI w 121 (ix a1) / a2 = Int32.ofNat S) (hS9 : S ≤ 9999) : ok_M_best a1 a2 a3 w ∧ (f_M_best a1 a2 a3 w).1 = bm_A a3 (fst_o (b_E w B T V (fillA 8 (fun _ => 0) (gI w 170))) (min S 48 + 1)) := by
  have kl := h_level
  unfold J_level at kl
  have sc : ¬ f_M_isCoal a1 w = 0 := by
    rw [z_mcoal]
    exact fun q => q c0
  have k3 : mm_inb a1 3 = true := inb_3 c0.1 (by grind)
  have a20 : ¬ a2 = 0 := by
    have := c1.1
    grind
  obtain ⟨w', A1, A2, A3, A4, A5⟩ := M_best53 (a1 := a1) (a2 := a2) (a3 := a3) (a4 := Int32.ofNat (min S 48)) h_gen hB hB6 hT hT2
  have m48 : (if Int32.ofNat S ≤ 48 then Int32.ofNat S else 48) = Int32.ofNat (min S 48) := by
    have q : Int32.ofNat S ≤ 48 ↔ S ≤ 48 := ofNat_le (b := 48) (by omega) (by omega)
    by_cases c : S ≤ 48
    · rw [if_pos (q.mpr c), Nat.min_eq_left c]
    · rw [if_neg (fun k => c (q.mp k)), Nat.min_eq_right (by omega)]
      rfl
  have wr : ∀ i, 0 ≤ bW w T i ∧ bW w T i ≤ 100000 := fun i => by
    have k := smI_rng (w := fun t => f_M_wants (Int32.ofNat t) (gI w 116 1 + Int32.ofNat i) w) (b := T) (M := 495) (fun j _ => want_rng h_sky h_things hc _ _) (by omega) (by omega)
    refine ⟨k.1, Int32.le_trans k.2 ?_⟩
    rw [show (100000 : Int32) = Int32.ofNat 100000 from rfl, ofNat_le (by omega) (by omega)]
    omega
  have hK : bmK w' V (fun i => f_M_inStep V i w) (bG w B) (bW w T) (gI w 116 5) (gI w 116 6) (b_most w) (b_cold (gI w 8) B) B := by
    refine ⟨A4, A5, fun j => ?_, fun j => inStep_rng h_share hV0 hV1 j, fun i _ => ?_, fun i _ => wr i, kl.2.2.2.2.1, (fpF A3 (by decide)).1, (fpF A3 (by decide)).1, kl.2.2.1, kl.2.2.2.1, hB6, by rw [(fpF A3 (by decide)).1, hB], fun p hp => ?_, fun p hp => ?_⟩
    · unfold f_M_inStep
      simp only [mq_let_e, z_isIn, (fpA (c := 117) A3 (by decide)).1]
    · have gr := wk_tot h_share h_bench (Int32.ofNat i)
      rw [wk_sum h_bench hB hB6] at gr
      exact gr
    · have e : b_busy w' B p = b_busy w B p := by
        unfold b_busy
        rw [(fpA A3 (by decide)).1]
      rw [e]
      exact b_cb h_bench hB6 hp
    · rw [(fpF A3 (by decide)).1, (fpF A3 (by decide)).1]
      unfold b_most
      by_cases e : p = 0
      · rw [if_pos e, if_pos e]
      · rw [if_neg e, if_neg e]
        grind
  have x170 : gI w' 170 = gI w 170 := (fpA A3 (by decide)).1
  have w118 : gI w' 118 = gI w 118 := (fpA A3 (by decide)).1
  generalize hx0 : fillA 8 (fun _ => 0) (gI w 170) = x0
  have xx : ∀ q, q < 8 → x0 q = 0 := fun q hq => by
    rw [← hx0]
    exact fillA_lt hq
  have LP : ∀ r v n z, v + r = min S 48 + 1 → r < n → fillA 8 (fun _ => 0) z = x0 → (∀ u, u < v → b_E w B T V x0 u = none) → okl_M_best_100 a1 a2 a3 (Int32.ofNat (min S 48)) n (Int32.ofNat v) (sA w' 170 z) ∧ (mq_el (lp_M_best_100 a1 a2 a3 (Int32.ofNat (min S 48)) n (Int32.ofNat v) (sA w' 170 z)).1 (fun u => (u, (lp_M_best_100 a1 a2 a3 (Int32.ofNat (min S 48)) n (Int32.ofNat v) (sA w' 170 z)).2.2)) (-1, (lp_M_best_100 a1 a2 a3 (Int32.ofNat (min S 48)) n (Int32.ofNat v) (sA w' 170 z)).2.2)).1 = bm_A a3 (fst_o (b_E w B T V x0) (min S 48 + 1)) := by
    intro r
    induction r with
    | zero =>
      intro v n z h1 h2 h3 h4
      obtain ⟨n', rfl⟩ : ∃ n', n = n' + 1 := ⟨n - 1, by omega⟩
      have ev : v = min S 48 + 1 := by omega
      subst ev
      have e0 : Int32.ofNat (min S 48) < Int32.ofNat (min S 48 + 1) := (ofNat_lt (by omega) (by omega)).mpr (by omega)
      rw [fst_none.mpr h4]
      constructor
      · simp only [okl_M_best_100, e0, if_true]
      · simp only [lp_M_best_100, e0, if_true]
        rfl
    | succ r ih =>
      intro v n z h1 h2 h3 h4
      obtain ⟨n', rfl⟩ : ∃ n', n = n' + 1 := ⟨n - 1, by omega⟩
      have e0 : ¬ Int32.ofNat (min S 48) < Int32.ofNat v := by
        rw [ofNat_lt (by omega) (by omega)]
        omega
      have e3 : Int32.ofNat v + 1 = Int32.ofNat (v + 1) := ofNat_succ v
      have Z := M_best110 (a1 := a1) (a2 := a2) (a3 := a3) (a4 := Int32.ofNat (min S 48)) (a5 := Int32.ofNat v) (sA w' 170 z)
      have ez : sA (sA w' 170 z) 170 (fillA 8 (fun _ => 0) (gI (sA w' 170 z) 170)) = sA w' 170 x0 := by
        rw [sA_sA, fI_sA, if_pos rfl, h3]
      rw [ez] at Z
      have P := M_plans hK 8 (Nat.le_refl 8) x0 v (by omega) (fun q hq => by
        rw [xx q hq]
        decide) (fun q _ hq => xx q hq)
      obtain ⟨P1, P2⟩ := P
      have P1 : ok_M_plansT 0 (Int32.ofNat v) V (sA w' 170 x0) := P1
      have P2 : f_M_plansT 0 (Int32.ofNat v) V (sA w' 170 x0) = bm_R w' x0 (b_E w B T V x0 v) := P2
      have eV : a2 * gI (sA w' 170 x0) 118 (ix a1) = V := by
        rw [gI_sA, if_neg (by decide), w118, hV]
      cases hf : b_E w B T V x0 v with
      | some y =>
        rw [hf] at P2
        have P2 : f_M_plansT 0 (Int32.ofNat v) V (sA w' 170 x0) = (1, sA w' 170 y) := P2
        have n1 : ¬ (1 : Int32) = 0 := by decide
        rw [fst_some.mpr ⟨(by omega : v < min S 48 + 1), hf, h4⟩]
        by_cases d : a3 = 0
        · constructor
          · simp only [okl_M_best_100, mq_letP_e, e0, if_false, Z.1, Z.2, eV, k3, P1, P2, n1, if_pos d, true_and]
          · simp only [lp_M_best_100, mq_let_e, e0, if_false, Z.1, eV, P2, n1, if_pos d]
            show Int32.ofNat v = if a3 = 0 then Int32.ofNat v else _
            rw [if_pos d]
        · have bd : mm_inb (a3 - 1) 8 = true := by
            have := c2.1
            have := c2.2
            exact inb_8 (by grind) (by grind)
          constructor
          · simp only [okl_M_best_100, mq_letP_e, e0, if_false, Z.1, Z.2, eV, k3, P1, P2, n1, if_neg d, bd, true_and]
          · simp only [lp_M_best_100, mq_let_e, e0, if_false, Z.1, eV, P2, n1, if_neg d]
            show gI (sA w' 170 y) 170 (ix (a3 - 1)) = if a3 = 0 then Int32.ofNat v else y (ix (a3 - 1))
            rw [if_neg d, gI_sA, if_pos rfl]
      | none =>
        rw [hf] at P2
        have P2 : f_M_plansT 0 (Int32.ofNat v) V (sA w' 170 x0) = (0, sA w' 170 x0) := P2
        have I := ih (v + 1) n' x0 (by omega) (by omega) (by rw [← hx0, fillA_fillA]) (fun u hu => by
          by_cases e : u = v
          · rw [e, hf]
          · exact h4 u (by omega))
        constructor
        · simp only [okl_M_best_100, mq_letP_e, e0, if_false, Z.1, Z.2, eV, k3, P1, P2, if_true, e3, true_and]
          exact I.1
        · simp only [lp_M_best_100, mq_let_e, e0, if_false, Z.1, eV, P2, if_true, e3]
          exact I.2
  have L := LP (min S 48 + 1) 0 mm_N (gI w' 170) (by omega) (by rw [mm_Ns]; omega) (by rw [x170, hx0]) (fun u hu => absurd hu (by omega))
  rw [sA_id] at L
  obtain ⟨L1, L2⟩ := L
  have okc : ok_M_isCoal a1 w := o_mcoal a1 w
  constructor
  · simp only [ok_M_best, mq_letP_e, sc, if_false, z_isIn, ite_not, c1, c2, and_self, if_true, k3, hS, m48, A1, A2, true_and, okc, a20, decide_false, Bool.not_false]
    refine ⟨L1, ?_⟩
    generalize (lp_M_best_100 a1 a2 a3 (Int32.ofNat (min S 48)) mm_N 0 w').1 = o
    cases o <;> trivial
  · simp only [f_M_best, mq_let_e, sc, if_false, z_isIn, ite_not, c1, c2, and_self, if_true, hS, m48, A1]
    exact L2
theorem op_best (a1 a2 a3 : Int32) (s : mS) (h_sky : J_sky s) (h_things : J_things s) (h_gen : J_gen s) (h_bench : J_bench s) (h_share : J_share s) (h_coal : J_coal s) (h_level : J_level s) (hc : ∀ t, 0 ≤ gI s 136 t) : ok_G_best a1 a2 a3 s ∧ ok_M_best a1 a2 a3 (f_G_best a1 a2 a3 s).2 ∧ (f_G_best a1 a2 a3 s).1 = (f_M_best a1 a2 a3 (f_G_best a1 a2 a3 s).2).1 := by
  have okc : ∀ w, ok_M_isCoal a1 w := fun w => o_mcoal a1 w
  by_cases c0 : 0 ≤ a1 ∧ a1 ≤ 2
  rotate_left
  · have e1 : f_Works_isCoal a1 s = 0 := by
      rw [z_wcoal]
      exact c0
    have e2 : f_M_isCoal a1 s = 0 := by
      rw [z_mcoal]
      exact c0
    refine ⟨?_, ?_, ?_⟩ <;> simp only [f_G_best, f_M_best, ok_G_best, ok_M_best, mq_let_e, mq_letP_e, e1, e2, okc, if_true, true_and]
  have e1 : ¬ f_Works_isCoal a1 s = 0 := by
    rw [z_wcoal]
    exact fun q => q c0
  have e2 : ¬ f_M_isCoal a1 s = 0 := by
    rw [z_mcoal]
    exact fun q => q c0
  by_cases c1 : 1 ≤ a2 ∧ a2 ≤ 9
  rotate_left
  · refine ⟨?_, ?_, ?_⟩ <;> simp only [f_G_best, f_M_best, ok_G_best, ok_M_best, mq_let_e, mq_letP_e, e1, e2, okc, z_within, z_isIn, ite_not, c1, if_false, true_and]
  by_cases c2 : 0 ≤ a3 ∧ a3 ≤ 8
  rotate_left
  · refine ⟨?_, ?_, ?_⟩ <;> simp only [f_G_best, f_M_best, ok_G_best, ok_M_best, mq_let_e, mq_letP_e, e1, e2, okc, z_within, z_isIn, ite_not, c1, c2, and_self, if_true, if_false, true_and]
  have kc := h_coal
  unfold J_coal at kc
  have kb := h_bench
  unfold J_bench at kb
  have kt := h_things
  unfold J_things at kt
  have kl := h_level
  unfold J_level at kl
  obtain ⟨B, hB⟩ : ∃ B, gI s 116 4 = Int32.ofNat B ∧ ix (gI s 116 4) = B := ⟨ix (gI s 116 4), (ofNat_ix kb.2.2.2.2.2.2.2.2.2.1).symm, rfl⟩
  have hB6 : B ≤ 6 := by
    have q : ix (gI s 116 4) < 7 := ix_lt (by decide) kb.2.2.2.2.2.2.2.2.2.1 (Int32.lt_of_le_of_lt kb.2.2.2.2.2.2.2.2.2.2.1 (by decide))
    omega
  obtain ⟨T, hT, hT2⟩ : ∃ T, gI s 116 8 = Int32.ofNat T ∧ T ≤ 40 := by
    have h1 := kt.2.2.2.2.2.2.2.2.2.2.2.1
    have h2 := kt.2.2.2.2.2.2.2.2.2.2.2.2.1
    refine ⟨ix (gI s 116 8), (ofNat_ix h1).symm, ?_⟩
    have h3 : ix (gI s 116 8) < 41 := ix_lt (by decide) h1 (by
      have : Int32.ofNat 41 = 41 := rfl
      grind)
    omega
  have z0 := toInt_0
  have i3 : ix a1 < 3 := ixl_3 c0.1 (by grind)
  have k118 := kc.2.2.2.2.1 (ix a1)
  have k121 := kc.2.2.2.2.2.2.2 (ix a1)
  have t9 : (9 : Int32).toInt = 9 := by decide
  have t1 : (1 : Int32).toInt = 1 := by decide
  have t200 : (200 : Int32).toInt = 200 := by decide
  have t1800 : (1800 : Int32).toInt = 1800 := by decide
  have t9999 : (9999 : Int32).toInt = 9999 := by decide
  have c1' := c1
  simp only [le_toInt, z0, t9, t1, t200, t9999] at c1' k118 k121
  have lo : 0 ≤ a2.toInt * (gI s 118 (ix a1)).toInt := Int.mul_nonneg (by omega) k118.1
  have hi : a2.toInt * (gI s 118 (ix a1)).toInt ≤ 9 * 200 := Int.mul_le_mul c1'.2 k118.2 k118.1 (by decide)
  have mV := mul_nn (a := a2) (b := gI s 118 (ix a1)) (by omega) (by omega)
  have hV0 : 0 ≤ a2 * gI s 118 (ix a1) := by
    rw [le_toInt, mV, z0]
    exact lo
  have hV1 : a2 * gI s 118 (ix a1) ≤ 1800 := by
    rw [le_toInt, mV, t1800]
    omega
  have dS := div_nn (a := gI s 121 (ix a1)) (b := a2) (by rw [le_toInt, z0]; exact k121.1) (by rw [lt_toInt, z0]; omega)
  have dS0 : 0 ≤ (gI s 121 (ix a1)).toInt / a2.toInt := Int.ediv_nonneg k121.1 (by omega)
  have dS1 : (gI s 121 (ix a1)).toInt / a2.toInt ≤ 9999 := Int.le_trans (Int.ediv_le_self _ k121.1) k121.2
  have sS0 : 0 ≤ gI s 121 (ix a1) / a2 := by
    rw [le_toInt, dS, z0]
    exact dS0
  obtain ⟨S, hS, eS⟩ : ∃ S, gI s 121 (ix a1) / a2 = Int32.ofNat S ∧ ix (gI s 121 (ix a1) / a2) = S := ⟨_, (ofNat_ix sS0).symm, rfl⟩
  have hS9 : S ≤ 9999 := by
    have q : ix (gI s 121 (ix a1) / a2) < 10000 := ix_lt (by decide) sS0 (by
      rw [lt_toInt, dS, toInt_ofNat (by omega)]
      omega)
    omega
  generalize hV : a2 * gI s 118 (ix a1) = V at hV0 hV1
  obtain ⟨G1, old, G2⟩ := G_bestE (S := S) (V := V) (fillA 8 (fun _ => 0) (gI s 170)) h_sky h_things h_gen h_bench h_share h_coal h_level hB.1 hB6 hT hT2 c0 c1 c2 hV.symm hS hS9
  have hf := fr_G_best a1 a2 a3 s
  generalize hw : (f_G_best a1 a2 a3 s).2 = w at hf
  have M := M_bestE (w := w) (B := B) (T := T) (S := S) (a1 := a1) (a2 := a2) (a3 := a3) (V := V) (jf_sky hf (by decide) h_sky) (jf_things hf (by decide) h_things) (jf_gen hf (by decide) h_gen) (jf_bench hf (by decide) h_bench) (jf_share hf (by decide) h_share) (jf_level hf (by decide) h_level) (by
    rw [(fpA hf (by decide)).1]
    exact hc) (by rw [(fpF hf (by decide)).1, hB.1]) hB6 (by rw [(fpF hf (by decide)).1, hT]) hT2 c0 c1 c2 (by rw [(fpA hf (by decide)).1, hV]) hV0 hV1 (by rw [(fpA hf (by decide)).1, hS]) hS9
  refine ⟨G1, M.1, ?_⟩
  rw [G2, M.2]
  have eG : bG w B = bG s B := by
    funext i
    unfold bG
    rw [wk_g_c (s := s) (fpA hf (by decide)).1 (fpA hf (by decide)).1 (fpA hf (by decide)).1]
  have eW : bW w T = bW s T := by
    funext i
    unfold bW
    rw [(fpF hf (by decide)).1]
    exact smI_c (fun t _ => M_wants_c ⟨(fpA hf (by decide)).1, (fpA hf (by decide)).1, (fpA hf (by decide)).1, (fpA hf (by decide)).1, (fpA hf (by decide)).1, (fpA hf (by decide)).1, (fpF hf (by decide)).1, (fpF hf (by decide)).1⟩ _ _)
  have eI : (fun i => f_M_inStep V i w) = fun i => f_M_inStep V i s := by
    funext i
    unfold f_M_inStep
    simp only [mq_let_e, z_isIn, (fpA (c := 117) hf (by decide)).1]
  have eC : b_Cap w B = b_Cap s B := by
    unfold b_Cap
    have e1 : b_most w = b_most s := by
      funext p
      unfold b_most
      rw [(fpF hf (by decide)).1, (fpF hf (by decide)).1]
    rw [e1, (fpA hf (by decide)).1]
  have e170 : gI w 170 = gI s 170 := (fpA hf (by decide)).1
  rw [e170]
  generalize hx0 : fillA 8 (fun _ => 0) (gI s 170) = x0
  have xx : ∀ q, q < 8 → x0 q = 0 := fun q hq => by
    rw [← hx0]
    exact fillA_lt hq
  have eE : ∀ v, b_E w B T V x0 v = bs_D (b_Cap s B) (b_L s B T V) 8 x0 (gI s 116 6) v := fun v => by
    unfold b_E
    rw [eI, eG, eW, eC, (fpF (c := 116) (j := 5) hf (by decide)).1, (fpF (c := 116) (j := 6) hf (by decide)).1]
    exact (bs_ED (fun i => f_M_inStep V i s) (bG s B) (bW s T) (gI s 116 5) (b_Cap s B) (gI s 116 6) (inS_neg V s) kl.2.2.1 8 (Nat.le_refl 8) x0 v).1 kl.2.2.1
  have big : ∀ v, 48 < v → bs_D (b_Cap s B) (b_L s B T V) 8 x0 (gI s 116 6) v = none := fun v hv => bs_D_max2 (bs_C6 (fun p _ => b_cold_rng hB6 p)) 8 (Nat.le_refl 8) x0 _ v (fun q hq => absurd hq (by omega)) (by omega)
  rw [bs_SD _ _ S 8 x0 0 (gI s 116 6) 1000 old (Nat.zero_le S)]
  have gE : ∀ v, v ≤ S → bs_g (b_Cap s B) (b_L s B T V) S 8 x0 0 (gI s 116 6) v = b_E w B T V x0 v := fun v hv => by
    rw [eE v]
    unfold bs_g
    rw [if_pos ⟨Nat.zero_le v, hv⟩]
    rfl
  have gN : ∀ v, S < v → bs_g (b_Cap s B) (b_L s B T V) S 8 x0 0 (gI s 116 6) v = none := fun v hv => if_neg (by omega)
  cases hr : fst_o (b_E w B T V x0) (min S 48 + 1) with
  | none =>
    have k := fst_none.mp hr
    have k2 : fst_o (bs_g (b_Cap s B) (b_L s B T V) S 8 x0 0 (gI s 116 6)) 1000 = none := fst_none.mpr (fun v hv => by
      by_cases q : v ≤ S
      · rw [gE v q]
        by_cases q2 : v ≤ 48
        · exact k v (by omega)
        · rw [eE v]
          exact big v (by omega)
      · exact gN v (by omega))
    rw [k2]
    show (if 1000 ≤ 1000 then (-1 : Int32) else _) = -1
    rw [if_pos (Nat.le_refl _)]
  | some r =>
    obtain ⟨m, y⟩ := r
    have k := fst_some.mp hr
    have k2 : fst_o (bs_g (b_Cap s B) (b_L s B T V) S 8 x0 0 (gI s 116 6)) 1000 = some (m, y) := fst_some.mpr ⟨by omega, by rw [gE m (by omega), k.2.1], fun v hv => by rw [gE v (by omega)]; exact k.2.2 v hv⟩
    rw [k2]
    show (if 1000 ≤ m then (-1 : Int32) else if a3 = 0 then Int32.ofNat m else y (ix (a3 - 1))) = if a3 = 0 then Int32.ofNat m else y (ix (a3 - 1))
    rw [if_neg (by omega)]
