/-! CHOICE: all the sets. -/
def chF (s : mS) (N T c : Nat) (x purse : Int32) (k : Nat) : Int32 × Int32 × Int32 := ch_f (fun k => ch_P s c (Int32.ofNat k)) (fun k => ch_B s N T c x (Int32.ofNat k)) purse k
theorem chF_s (s : mS) (N T c : Nat) (x purse : Int32) (k : Nat) : chF s N T c x purse (k + 1) = if ch_P s c (Int32.ofNat k) ≤ purse then (if (chF s N T c x purse k).2.1 < ch_B s N T c x (Int32.ofNat k) then (Int32.ofNat k, ch_B s N T c x (Int32.ofNat k), ch_P s c (Int32.ofNat k)) else if ch_B s N T c x (Int32.ofNat k) = (chF s N T c x purse k).2.1 then (if (chF s N T c x purse k).2.2 ≤ ch_P s c (Int32.ofNat k) then chF s N T c x purse k else (Int32.ofNat k, ch_B s N T c x (Int32.ofNat k), ch_P s c (Int32.ofNat k))) else chF s N T c x purse k) else chF s N T c x purse k := rfl
/-- what the class keeps while it tries -/
def chG (s : mS) (N T c : Nat) (x purse : Int32) (k : Nat) (w : mS) : Prop := fp [23, 24, 30, 31, 115] [(111, 5), (111, 6), (111, 7)] false s w ∧ (∀ t, t < T → gI w 23 t = f_M_wants (Int32.ofNat t) x s) ∧ gI w 111 6 = (chF s N T c x purse k).2.1 ∧ ((chF s N T c x purse k).1 ≠ -1 → gI w 111 5 = (chF s N T c x purse k).1 ∧ gI w 111 7 = (chF s N T c x purse k).2.2)
theorem G_chs {s w : mS} {N T c : Nat} {x purse : Int32} (h_net : J_net s) (h_things : J_things s) (h_impr : J_impr s) (hN : gI s 116 7 = Int32.ofNat N) (hN1 : 1 ≤ N) (hN2 : N ≤ 16) (hT : gI s 116 8 = Int32.ofNat T) (hT2 : T ≤ 40) (hnd : nt_ndOK N T (gI s 132)) (hpa : nt_paOK N (gI s 127)) (hc : gI s 116 103 = Int32.ofNat c) (hc8 : c ≤ 8) (h0 : chG s N T c x purse 0 w) :
    ∃ w', lp_Improvements_choose_8 purse mm_N 0 w = (Int32.ofNat (2 ^ c), w') ∧ okl_Improvements_choose_8 purse mm_N 0 w ∧ chG s N T c x purse (2 ^ c) w' := by
  have ki := h_impr
  unfold J_impr at ki
  have hb : 2 ^ c ≤ 256 := by
    have : ∀ c, c ≤ 8 → 2 ^ c ≤ 256 := by decide
    exact this c hc8
  refine lp_up0 (L := lp_Improvements_choose_8 purse) (OK := okl_Improvements_choose_8 purse) (chG s N T c x purse) (2 ^ c) (by omega) w h0 (fun n k w hk hp => ?_) (fun n w hp => ?_)
  · obtain ⟨hf, hw, h6, h57⟩ := hp
    have w4 : gI w 111 4 = Int32.ofNat c := by rw [(fpF hf (by decide)).1, ki.2.2.2.1, hc]
    have e1 : ¬ (1 : Int32) <<< (gI w 111 4 &&& 31) ≤ Int32.ofNat k := by
      rw [w4, sh_one hc8]
      exact fl_lit (a := 2 ^ c) rfl (by omega) (by omega) hk
    have e3 : Int32.ofNat k + 1 = Int32.ofNat (k + 1) := ofNat_succ k
    obtain ⟨p1, p2⟩ := G_price (s := w) (c := c) w4 hc8 (by rw [(fpA (c := 114) hf (by decide)).1, (fpA (c := 178) hf (by decide)).1, ki.2.2.1]) (Int32.ofNat k)
    rw [ch_P_c (fpA hf (by decide)).1] at p1
    obtain ⟨q1, q2, q3, q4, q5⟩ := G_set h_net h_things h_impr hN hN1 hN2 hT hT2 hnd hpa hc hc8 hf hw (Int32.ofNat k)
    have hB : 0 ≤ ch_B s N T c x (Int32.ofNat k) := ch_B_nn s N T c hT2 x _
    have hs := chF_s s N T c x purse k
    have hkn : Int32.ofNat k ≠ -1 := ofNat_ne1 (by omega)
    generalize hw2 : (f_Net_settle_115 (f_Improvements_putIn (Int32.ofNat k) w)).2 = w2 at q3 q4 q5
    have g6 : gI w2 111 6 = (chF s N T c x purse k).2.1 := by rw [(fpF q5 (by decide)).1, h6]
    have keep : fp [23, 24, 30, 31, 115] [(111, 5), (111, 6), (111, 7)] false s w2 := fp_t hf (fp_m q5 (by decide) (by decide) (fun h => h))
    have keepw : ∀ t, t < T → gI w2 23 t = f_M_wants (Int32.ofNat t) x s := fun t ht => by
      rw [(fpA q5 (by decide)).1]
      exact hw t ht
    by_cases c1 : ch_P s c (Int32.ofNat k) ≤ purse
    · rw [if_pos c1] at hs
      have new : chF s N T c x purse (k + 1) = (Int32.ofNat k, ch_B s N T c x (Int32.ofNat k), ch_P s c (Int32.ofNat k)) → chG s N T c x purse (k + 1) (sI (sI (sI w2 111 5 (Int32.ofNat k)) 111 6 (ch_B s N T c x (Int32.ofNat k))) 111 7 (ch_P s c (Int32.ofNat k))) := fun e => by
        refine ⟨fp_t keep ?_, fun t ht => ?_, ?_, fun _ => ⟨?_, ?_⟩⟩
        · exact fp_IF (fp_IF (fp_IF fp_r (by decide)) (by decide)) (by decide)
        · simp only [gI_sI, Nat.reduceEqDiff, false_and, if_false]
          exact keepw t ht
        · rw [e]
          simp [gI_sI]
        · rw [e]
          simp [gI_sI]
        · rw [e]
          simp [gI_sI]
      have old : chF s N T c x purse (k + 1) = chF s N T c x purse k → chG s N T c x purse (k + 1) w2 := fun e => by
        refine ⟨keep, keepw, by rw [e, g6], fun q => ?_⟩
        rw [e] at q ⊢
        obtain ⟨a, b⟩ := h57 q
        exact ⟨by rw [(fpF q5 (by decide)).1, a], by rw [(fpF q5 (by decide)).1, b]⟩
      by_cases c2 : (chF s N T c x purse k).2.1 < ch_B s N T c x (Int32.ofNat k)
      · rw [if_pos c2] at hs
        refine ⟨_, ?_, ?_, new hs⟩
        · simp only [lp_Improvements_choose_8, mq_let_e, e1, if_false, p1, c1, if_true, hw2, q4, g6, c2, e3]
        · intro q
          simp only [okl_Improvements_choose_8, mq_letP_e, e1, if_false, p1, p2, c1, if_true, q1, q2, hw2, q3, q4, g6, c2, e3, true_and]
          exact q
      · rw [if_neg c2] at hs
        by_cases c3 : ch_B s N T c x (Int32.ofNat k) = (chF s N T c x purse k).2.1
        · rw [if_pos c3] at hs
          have some : (chF s N T c x purse k).1 ≠ -1 := by
            rcases ch_inv (P := fun k => ch_P s c (Int32.ofNat k)) (B := fun k => ch_B s N T c x (Int32.ofNat k)) (purse := purse) (fun k => ch_B_nn s N T c hT2 x _) k with h | ⟨j, h1, h2, h3⟩
            · exfalso
              have h2 : (chF s N T c x purse k).2.1 = -1 := h.2
              rw [c3, h2] at hB
              exact absurd hB (by decide)
            · have h2 : (chF s N T c x purse k).1 = Int32.ofNat j := h2
              rw [h2]
              exact ofNat_ne1 (by omega)
          have g7 : gI w2 111 7 = (chF s N T c x purse k).2.2 := by rw [(fpF q5 (by decide)).1, (h57 some).2]
          by_cases c4 : (chF s N T c x purse k).2.2 ≤ ch_P s c (Int32.ofNat k)
          · rw [if_pos c4] at hs
            refine ⟨_, ?_, ?_, old hs⟩
            · simp only [lp_Improvements_choose_8, mq_let_e, e1, if_false, p1, c1, if_true, hw2, q4, g6, g7, c2, c3, c4, e3]
              simp only [Int32.lt_irrefl, if_false]
            · intro q
              simp only [okl_Improvements_choose_8, mq_letP_e, e1, if_false, p1, p2, c1, if_true, q1, q2, hw2, q3, q4, g6, g7, c2, c3, c4, e3, true_and]
              simp only [Int32.lt_irrefl, if_false]
              exact q
          · rw [if_neg c4] at hs
            refine ⟨_, ?_, ?_, new hs⟩
            · simp only [lp_Improvements_choose_8, mq_let_e, e1, if_false, p1, c1, if_true, hw2, q4, g6, g7, c2, c3, c4, e3]
              simp only [Int32.lt_irrefl, if_false]
            · intro q
              simp only [okl_Improvements_choose_8, mq_letP_e, e1, if_false, p1, p2, c1, if_true, q1, q2, hw2, q3, q4, g6, g7, c2, c3, c4, e3, true_and]
              simp only [Int32.lt_irrefl, if_false]
              rw [c3] at q
              exact q
        · rw [if_neg c3] at hs
          refine ⟨_, ?_, ?_, old hs⟩
          · simp only [lp_Improvements_choose_8, mq_let_e, e1, if_false, p1, c1, if_true, hw2, q4, g6, c2, c3, e3]
          · intro q
            simp only [okl_Improvements_choose_8, mq_letP_e, e1, if_false, p1, p2, c1, if_true, q1, q2, hw2, q3, q4, g6, c2, c3, e3, true_and]
            exact q
    · rw [if_neg c1] at hs
      refine ⟨w, ?_, ?_, hf, hw, by rw [hs, h6], by rw [hs]; exact h57⟩
      · simp only [lp_Improvements_choose_8, mq_let_e, e1, if_false, p1, c1, e3]
      · intro q
        simp only [okl_Improvements_choose_8, mq_letP_e, e1, if_false, p1, p2, c1, e3, true_and]
        exact q
  · have w4 : gI w 111 4 = Int32.ofNat c := by rw [(fpF hp.1 (by decide)).1, ki.2.2.2.1, hc]
    have e1 : (1 : Int32) <<< (gI w 111 4 &&& 31) ≤ Int32.ofNat (2 ^ c) := by
      rw [w4, sh_one hc8]
      exact Int32.le_refl _
    constructor
    · simp only [lp_Improvements_choose_8, e1, if_true]
    · simp only [okl_Improvements_choose_8, e1, if_true]
/-- what the model keeps while it tries -/
def chM (s : mS) (N T c : Nat) (x purse : Int32) (k : Nat) (v : Int32 × Int32 × mS) : Prop := fp [142, 143, 144, 145, 146, 147] [] false s v.2.2 ∧ v.1 = (chF s N T c x purse k).1 ∧ ((chF s N T c x purse k).1 ≠ -1 → v.2.1 = (chF s N T c x purse k).2.1)
theorem M_chs {s : mS} {N T c : Nat} {x purse a3 : Int32} (h_net : J_net s) (h_impr : J_impr s) (h0 : 0 ≤ x) (hx : x ≤ 10000) (hN : gI s 116 7 = Int32.ofNat N) (hN1 : 1 ≤ N) (hN2 : N ≤ 16) (hT : gI s 116 8 = Int32.ofNat T) (hT2 : T ≤ 40) (hnd : nt_ndOK N T (gI s 132)) (hpa : nt_paOK N (gI s 127)) (hc : gI s 116 103 = Int32.ofNat c) (hc8 : c ≤ 8) :
    ∃ a b u, lp_M_choice_42 purse x a3 mm_N (-1) 0 0 s = (a, b, Int32.ofNat (2 ^ c), u) ∧ okl_M_choice_42 purse x a3 mm_N (-1) 0 0 s ∧ chM s N T c x purse (2 ^ c) (a, b, u) := by
  have ki := h_impr
  unfold J_impr at ki
  have hb : 2 ^ c ≤ 256 := by
    have : ∀ c, c ≤ 8 → 2 ^ c ≤ 256 := by decide
    exact this c hc8
  have A := lp_up0 (L := fun n i (v : Int32 × Int32 × mS) => ((lp_M_choice_42 purse x a3 n v.1 v.2.1 i v.2.2).2.2.1, (lp_M_choice_42 purse x a3 n v.1 v.2.1 i v.2.2).1, (lp_M_choice_42 purse x a3 n v.1 v.2.1 i v.2.2).2.1, (lp_M_choice_42 purse x a3 n v.1 v.2.1 i v.2.2).2.2.2)) (OK := fun n i v => okl_M_choice_42 purse x a3 n v.1 v.2.1 i v.2.2) (chM s N T c x purse) (2 ^ c) (by omega) (-1, 0, s) ⟨fp_r, rfl, fun h => absurd rfl h⟩ (fun n k v hk hp => ?_) (fun n v hp => ?_)
  · obtain ⟨v', A1, A2, A3⟩ := A
    refine ⟨v'.1, v'.2.1, v'.2.2, ?_, A2, A3⟩
    have e1 := congrArg (fun z => z.1) A1
    have e2 := congrArg (fun z => z.2.1) A1
    have e3 := congrArg (fun z => z.2.2.1) A1
    have e4 := congrArg (fun z => z.2.2.2) A1
    simp only at e1 e2 e3 e4
    rw [← e1, ← e2, ← e3, ← e4]
  · obtain ⟨a, b, u⟩ := v
    obtain ⟨hf, ha, hb'⟩ := hp
    simp only at hf ha hb'
    have u4 : gI u 116 103 = Int32.ofNat c := by rw [(fpF hf (by decide)).1, hc]
    have e1 : ¬ (1 : Int32) <<< (gI u 116 103 &&& 31) ≤ Int32.ofNat k := by
      rw [u4, sh_one hc8]
      exact fl_lit (a := 2 ^ c) rfl (by omega) (by omega) hk
    have e3 : Int32.ofNat k + 1 = Int32.ofNat (k + 1) := ofNat_succ k
    have pr : ∀ u', fp [142, 143, 144, 145, 146, 147] [] false s u' → ∀ set, f_M_coinOf set u' = ch_P s c set ∧ ok_M_coinOf set u' := fun u' hf' set => by
      obtain ⟨p1, p2⟩ := M_price_ch (s := u') (c := c) (by rw [(fpF hf' (by decide)).1, hc]) hc8 set
      rw [ch_P_c (fpA hf' (by decide)).1] at p1
      exact ⟨p1, p2⟩
    obtain ⟨p1, p2⟩ := pr u hf (Int32.ofNat k)
    obtain ⟨q1, q2, q3⟩ := M_set (x := x) h_net h_impr h0 hx hN hN1 hN2 hT hT2 hnd hpa hc hc8 hf (Int32.ofNat k)
    have hs := chF_s s N T c x purse k
    generalize hw2 : (f_M_burning (Int32.ofNat k) x u).2 = u2 at q3
    have keep : fp [142, 143, 144, 145, 146, 147] [] false s u2 := fp_t hf q3
    obtain ⟨r1, r2⟩ := pr u2 keep (Int32.ofNat k)
    obtain ⟨r3, r4⟩ := pr u2 keep a
    have hB : 0 ≤ ch_B s N T c x (Int32.ofNat k) := ch_B_nn s N T c hT2 x _
    have inv := ch_inv (P := fun k => ch_P s c (Int32.ofNat k)) (B := fun k => ch_B s N T c x (Int32.ofNat k)) (purse := purse) (fun k => ch_B_nn s N T c hT2 x _) k
    by_cases c1 : ch_P s c (Int32.ofNat k) ≤ purse
    · rw [if_pos c1] at hs
      have new : chF s N T c x purse (k + 1) = (Int32.ofNat k, ch_B s N T c x (Int32.ofNat k), ch_P s c (Int32.ofNat k)) → chM s N T c x purse (k + 1) (Int32.ofNat k, ch_B s N T c x (Int32.ofNat k), u2) := fun e => by
        refine ⟨keep, ?_, fun _ => ?_⟩
        · rw [e]
        · rw [e]
      have old : chF s N T c x purse (k + 1) = chF s N T c x purse k → chM s N T c x purse (k + 1) (a, b, u2) := fun e => by
        refine ⟨keep, by rw [e]; exact ha, fun q => ?_⟩
        rw [e] at q ⊢
        exact hb' q
      rcases inv with i0 | ⟨j, j1, j2, j3, j4⟩
      · have i1 : (chF s N T c x purse k).1 = -1 := i0.1
        have i2 : (chF s N T c x purse k).2.1 = -1 := i0.2
        have c2 : (chF s N T c x purse k).2.1 < ch_B s N T c x (Int32.ofNat k) := by
          rw [i2]
          grind
        rw [if_pos c2] at hs
        have a1 : a = -1 := by rw [ha, i1]
        refine ⟨_, ?_, ?_, new hs⟩
        · simp only [lp_M_choice_42, mq_let_e, e1, if_false, p1, c1, if_true, hw2, q1, a1, e3]
        · intro q
          simp only [okl_M_choice_42, mq_letP_e, e1, if_false, p1, p2, c1, if_true, q2, hw2, q1, a1, e3, true_and]
          exact q
      · have j2 : (chF s N T c x purse k).1 = Int32.ofNat j := j2
        have j3 : (chF s N T c x purse k).2.2 = ch_P s c (Int32.ofNat j) := j3
        have ja : a = Int32.ofNat j := by rw [ha, j2]
        have a1 : ¬ a = -1 := by
          rw [ja]
          exact ofNat_ne1 (by omega)
        have bb : b = (chF s N T c x purse k).2.1 := hb' (by rw [j2]; exact ofNat_ne1 (by omega))
        have r5 : ch_P s c a = (chF s N T c x purse k).2.2 := by rw [j3, ja]
        rw [r5] at r3
        by_cases c2 : (chF s N T c x purse k).2.1 < ch_B s N T c x (Int32.ofNat k)
        · rw [if_pos c2] at hs
          have d1 : ¬ ch_B s N T c x (Int32.ofNat k) < b := by
            rw [bb]
            grind
          have d2 : ¬ ch_B s N T c x (Int32.ofNat k) = b := by
            rw [bb]
            grind
          refine ⟨_, ?_, ?_, new hs⟩
          · simp only [lp_M_choice_42, mq_let_e, e1, if_false, p1, c1, if_true, hw2, q1, a1, d1, d2, e3]
          · intro q
            simp only [okl_M_choice_42, mq_letP_e, e1, if_false, p1, p2, c1, if_true, q2, hw2, q1, a1, d1, d2, e3, true_and]
            exact q
        · rw [if_neg c2] at hs
          by_cases c3 : ch_B s N T c x (Int32.ofNat k) = (chF s N T c x purse k).2.1
          · rw [if_pos c3] at hs
            have d1 : ¬ ch_B s N T c x (Int32.ofNat k) < b := by
              rw [bb, c3]
              exact Int32.lt_irrefl
            have d2 : ch_B s N T c x (Int32.ofNat k) = b := by rw [bb, c3]
            by_cases c4 : (chF s N T c x purse k).2.2 ≤ ch_P s c (Int32.ofNat k)
            · rw [if_pos c4] at hs
              have d3 : ¬ ch_P s c (Int32.ofNat k) < (chF s N T c x purse k).2.2 := Int32.not_lt.mpr c4
              refine ⟨_, ?_, ?_, old hs⟩
              · simp only [lp_M_choice_42, mq_let_e, e1, if_false, p1, c1, if_true, hw2, q1, a1, d1, d2, d3, r1, r3, e3, Int32.lt_irrefl]
              · intro q
                simp only [okl_M_choice_42, mq_letP_e, e1, if_false, p1, p2, c1, if_true, q2, hw2, q1, a1, d1, d2, d3, r1, r2, r3, r4, e3, true_and, Int32.lt_irrefl]
                exact q
            · rw [if_neg c4] at hs
              have d3 : ch_P s c (Int32.ofNat k) < (chF s N T c x purse k).2.2 := Int32.not_le.mp c4
              refine ⟨_, ?_, ?_, new hs⟩
              · simp only [lp_M_choice_42, mq_let_e, e1, if_false, p1, c1, if_true, hw2, q1, a1, d1, d2, d3, r1, r3, e3, Int32.lt_irrefl]
              · intro q
                simp only [okl_M_choice_42, mq_letP_e, e1, if_false, p1, p2, c1, if_true, q2, hw2, q1, a1, d1, d2, d3, r1, r2, r3, r4, e3, true_and, Int32.lt_irrefl]
                rw [d2] at q
                exact q
          · rw [if_neg c3] at hs
            have d1 : ch_B s N T c x (Int32.ofNat k) < b := by
              rw [bb]
              grind
            refine ⟨_, ?_, ?_, old hs⟩
            · simp only [lp_M_choice_42, mq_let_e, e1, if_false, p1, c1, if_true, hw2, q1, a1, d1, e3]
            · intro q
              simp only [okl_M_choice_42, mq_letP_e, e1, if_false, p1, p2, c1, if_true, q2, hw2, q1, a1, d1, e3, true_and]
              exact q
    · rw [if_neg c1] at hs
      refine ⟨(a, b, u), ?_, ?_, hf, by rw [hs]; exact ha, by rw [hs]; exact hb'⟩
      · simp only [lp_M_choice_42, mq_let_e, e1, if_false, p1, c1, e3]
      · intro q
        simp only [okl_M_choice_42, mq_letP_e, e1, if_false, p1, p2, c1, e3, true_and]
        exact q
  · have u4 : gI v.2.2 116 103 = Int32.ofNat c := by rw [(fpF hp.1 (by decide)).1, hc]
    have e1 : (1 : Int32) <<< (gI v.2.2 116 103 &&& 31) ≤ Int32.ofNat (2 ^ c) := by
      rw [u4, sh_one hc8]
      exact Int32.le_refl _
    constructor
    · simp only [lp_M_choice_42, e1, if_true]
    · simp only [okl_M_choice_42, e1, if_true]
theorem ch_B_c {s u : mS} {N T c : Nat} {x : Int32} (h1 : gI u 140 = gI s 140 ∧ gI u 133 = gI s 133 ∧ gI u 134 = gI s 134 ∧ gI u 135 = gI s 135 ∧ gI u 136 = gI s 136 ∧ gI u 122 = gI s 122 ∧ gI u 116 9 = gI s 116 9 ∧ gI u 116 10 = gI s 116 10) (h2 : gI u 128 = gI s 128 ∧ gI u 176 = gI s 176 ∧ gI u 177 = gI s 177) (h3 : gI u 132 = gI s 132 ∧ gI u 127 = gI s 127 ∧ gI u 130 = gI s 130 ∧ gI u 129 = gI s 129 ∧ gI u 116 11 = gI s 116 11) (set : Int32) : ch_B u N T c x set = ch_B s N T c x set := by
  unfold ch_B
  have e : (fun t => f_M_wants (Int32.ofNat t) x u) = fun t => f_M_wants (Int32.ofNat t) x s := by
    funext t
    exact M_wants_c h1 _ _
  rw [e, ch_r_c h2, h1.2.1, h3.1, h3.2.1, h3.2.2.1, h3.2.2.2.1, h3.2.2.2.2]
theorem ch_P_0 (s : mS) (c : Nat) (hc8 : c ≤ 8) : ch_P s c (Int32.ofNat 0) = 0 := by
  unfold ch_P
  have h : ∀ i, i < c → ch_w s (Int32.ofNat 0) i = 0 := fun i hi => by
    have : ∀ i, i < 8 → ¬ ((Int32.ofNat 0 >>> (Int32.ofNat i &&& 31)) &&& 1) = 1 := by decide
    exact if_neg (this i (by omega))
  exact smI_0 (Nat.zero_le c) (fun i _ h2 => h i h2)
theorem J_sz {s : mS} (h_net : J_net s) (h_things : J_things s) : ∃ N T, gI s 116 7 = Int32.ofNat N ∧ 1 ≤ N ∧ N ≤ 16 ∧ gI s 116 8 = Int32.ofNat T ∧ T ≤ 40 ∧ nt_ndOK N T (gI s 132) ∧ nt_paOK N (gI s 127) := by
  have kn := h_net
  unfold J_net at kn
  have kt := h_things
  unfold J_things at kt
  have n1 : 1 ≤ gI s 116 7 := kn.2.2.2.2.2.1
  have n2 : gI s 116 7 ≤ 16 := kn.2.2.2.2.2.2.1
  have t1 : 0 ≤ gI s 116 8 := kt.2.2.2.2.2.2.2.2.2.2.2.1
  have t2 : gI s 116 8 ≤ 40 := kt.2.2.2.2.2.2.2.2.2.2.2.2.1
  have n0 : 0 ≤ gI s 116 7 := by grind
  have eN : gI s 116 7 = Int32.ofNat (ix (gI s 116 7)) := (ofNat_ix n0).symm
  have eT : gI s 116 8 = Int32.ofNat (ix (gI s 116 8)) := (ofNat_ix t1).symm
  have hN2 : ix (gI s 116 7) < 17 := ix_lt (by decide) n0 (show gI s 116 7 < 17 by grind)
  have hT2 : ix (gI s 116 8) < 41 := ix_lt (by decide) t1 (show gI s 116 8 < 41 by grind)
  refine ⟨ix (gI s 116 7), ix (gI s 116 8), eN, ?_, by omega, eT, by omega, fun t ht => ?_, fun n h1 h2 => ?_⟩
  · rw [eN] at n1
    exact (ofNat_le (by omega) (by omega)).mp n1
  · have := kt.2.2.2.2.2.2.2.2.2.2.2.2.2.2.2.1 t
    exact ⟨this.1, ix_lt (by omega) this.1 (by rw [← eN]; exact this.2)⟩
  · have := kn.2.2.2.2.2.2.2.2.2.2.2.1 n h1 h2
    exact ⟨this.1, ix_lt (by omega) this.1 this.2⟩
theorem op_choice (a1 a2 a3 : Int32) (s : mS) (h_sky : J_sky s) (h_things : J_things s) (h_net : J_net s) (h_impr : J_impr s) : ok_G_choice a1 a2 a3 s ∧ ok_M_choice a1 a2 a3 (f_G_choice a1 a2 a3 s).2 ∧ (f_G_choice a1 a2 a3 s).1 = (f_M_choice a1 a2 a3 (f_G_choice a1 a2 a3 s).2).1 := by
  by_cases c0 : 0 ≤ a1 ∧ a1 ≤ 9999
  rotate_left
  · refine ⟨?_, ?_, ?_⟩ <;> simp only [f_G_choice, f_M_choice, ok_G_choice, ok_M_choice, mq_let_e, mq_letP_e, z_within, z_isIn, ite_not, c0, if_false, true_and]
  by_cases c1 : 0 ≤ a2 ∧ a2 ≤ 3999
  rotate_left
  · refine ⟨?_, ?_, ?_⟩ <;> simp only [f_G_choice, f_M_choice, ok_G_choice, ok_M_choice, mq_let_e, mq_letP_e, z_within, z_isIn, ite_not, c0, c1, and_self, if_true, if_false, true_and]
  by_cases c2 : 0 ≤ a3 ∧ a3 ≤ 2
  rotate_left
  · refine ⟨?_, ?_, ?_⟩ <;> simp only [f_G_choice, f_M_choice, ok_G_choice, ok_M_choice, mq_let_e, mq_letP_e, z_within, z_isIn, ite_not, c0, c1, c2, and_self, if_true, if_false, true_and]
  have kn := h_net
  unfold J_net at kn
  have kt := h_things
  unfold J_things at kt
  have ki := h_impr
  unfold J_impr at ki
  obtain ⟨N, T, hN, hN1, hN2, hT, hT2, hnd, hpa⟩ := J_sz h_net h_things
  obtain ⟨c, hc, ec⟩ : ∃ c, gI s 116 103 = Int32.ofNat c ∧ ix (gI s 116 103) = c := ⟨ix (gI s 116 103), (ofNat_ix ki.2.2.2.2.1).symm, rfl⟩
  have hc8 : c ≤ 8 := by
    have := ki.2.2.2.2.2.1
    have q : ix (gI s 116 103) < 9 := ix_lt (by decide) ki.2.2.2.2.1 (show gI s 116 103 < 9 by grind)
    omega
  have ha : a2 ≤ 10000 := by grind
  obtain ⟨g, A1, A2, A3, A4⟩ := G_ask h_sky h_things hT hT2 c1.1 ha
  have hb : 2 ^ c ≤ 256 := by
    have : ∀ c, c ≤ 8 → 2 ^ c ≤ 256 := by decide
    exact this c hc8
  have hb0 : ∃ m, 2 ^ c = m + 1 := ⟨2 ^ c - 1, by have := Nat.two_pow_pos c; omega⟩
  obtain ⟨m, hm⟩ := hb0
  obtain ⟨w', B1, B2, B3, B4, B5, B6⟩ := G_chs (s := s) (w := sI (sA s 23 g) 111 6 (-1)) (x := a2) (purse := a1) h_net h_things h_impr hN hN1 hN2 hT hT2 hnd hpa hc hc8 (by
    refine ⟨fp_IF (by rw [← A1]; exact fp_m (fr_Things_askAll a2 s) (by decide) (by decide) (fun h => h)) (by decide), fun t ht => ?_, ?_, fun h => absurd rfl h⟩
    · simp only [gI_sI, gI_sA, Nat.reduceEqDiff, false_and, if_false, if_true]
      exact A3 t ht
    · simp only [gI_sI, and_self, if_true]
      rfl)
  obtain ⟨j, j1, j2, j3, j4⟩ := ch_some (P := fun k => ch_P s c (Int32.ofNat k)) (B := fun k => ch_B s N T c a2 (Int32.ofNat k)) (purse := a1) (fun k => ch_B_nn s N T c hT2 a2 _) (by
    show ch_P s c (Int32.ofNat 0) ≤ a1
    rw [ch_P_0 s c hc8]
    exact c0.1) m
  have j2 : (chF s N T c a2 a1 (2 ^ c)).1 = Int32.ofNat j := by rw [hm]; exact j2
  have j3 : (chF s N T c a2 a1 (2 ^ c)).2.2 = ch_P s c (Int32.ofNat j) := by rw [hm]; exact j3
  have j5 : (chF s N T c a2 a1 (2 ^ c)).1 ≠ -1 := by rw [j2]; exact ofNat_ne1 (by omega)
  have G0 : f_Improvements_choose a1 (f_Things_askAll a2 s) = w' := by
    unfold f_Improvements_choose
    rw [A1, mq_let_e, B1]
  have qG : f_G_choice a1 a2 a3 s = (if a3 = 0 then gI w' 111 5 else if a3 = 1 then gI w' 111 6 else gI w' 111 7, w') := by
    simp only [f_G_choice, mq_let_e, z_within, ite_not, c0, c1, c2, and_self, if_true, G0]
    split
    · rfl
    · split <;> rfl
  have oG : ok_G_choice a1 a2 a3 s := by
    simp only [ok_G_choice, mq_letP_e, z_within, ite_not, c0, c1, c2, and_self, if_true, true_and, and_true]
    refine ⟨A2, ?_⟩
    unfold ok_Improvements_choose
    rw [A1]
    exact ⟨B2, trivial⟩
  have cB : chF w' N T c a2 a1 = chF s N T c a2 a1 := by
    funext k
    unfold chF
    have e1 : (fun k => ch_P w' c (Int32.ofNat k)) = fun k => ch_P s c (Int32.ofNat k) := by
      funext k
      exact ch_P_c (fpA B3 (by decide)).1 c _
    have e2 : (fun k => ch_B w' N T c a2 (Int32.ofNat k)) = fun k => ch_B s N T c a2 (Int32.ofNat k) := by
      funext k
      exact ch_B_c ⟨(fpA B3 (by decide)).1, (fpA B3 (by decide)).1, (fpA B3 (by decide)).1, (fpA B3 (by decide)).1, (fpA B3 (by decide)).1, (fpA B3 (by decide)).1, (fpF B3 (by decide)).1, (fpF B3 (by decide)).1⟩ ⟨(fpA B3 (by decide)).1, (fpA B3 (by decide)).1, (fpA B3 (by decide)).1⟩ ⟨(fpA B3 (by decide)).1, (fpA B3 (by decide)).1, (fpA B3 (by decide)).1, (fpA B3 (by decide)).1, (fpF B3 (by decide)).1⟩ _
    rw [e1, e2]
  have k_net : J_net w' := jf_net B3 (by decide) h_net
  have k_things : J_things w' := jf_things B3 (by decide) h_things
  have k_impr : J_impr w' := jf_impr B3 (by decide) h_impr
  obtain ⟨a, b, u, C1, C2, C3, C4, C5⟩ := M_chs (s := w') (N := N) (T := T) (c := c) (x := a2) (purse := a1) (a3 := a3) k_net k_impr c1.1 ha (by rw [(fpF B3 (by decide)).1, hN]) hN1 hN2 (by rw [(fpF B3 (by decide)).1, hT]) hT2 (by rw [(fpA (c := 132) B3 (by decide)).1]; exact hnd) (by rw [(fpA (c := 127) B3 (by decide)).1]; exact hpa) (by rw [(fpF B3 (by decide)).1, hc]) hc8
  simp only [cB] at C3 C4 C5
  have C3 : fp [142, 143, 144, 145, 146, 147] [] false w' u := C3
  have pr : f_M_coinOf a u = (chF s N T c a2 a1 (2 ^ c)).2.2 ∧ ok_M_coinOf a u := by
    obtain ⟨p1, p2⟩ := M_price_ch (s := u) (c := c) (by rw [(fpF C3 (by decide)).1, (fpF B3 (by decide)).1, hc]) hc8 a
    have ea : a = Int32.ofNat j := by rw [C4, j2]
    rw [ch_P_c (s := s) (((fpA C3 (by decide)).1).trans (fpA B3 (by decide)).1)] at p1
    exact ⟨by rw [p1, j3, ea], p2⟩
  rw [qG]
  refine ⟨oG, ?_, ?_⟩
  · simp only [ok_M_choice, mq_letP_e, z_isIn, ite_not, c0, c1, c2, and_self, if_true, true_and, and_true, C1]
    refine ⟨C2, ?_⟩
    split
    · trivial
    · split
      · trivial
      · exact pr.2
  · simp only [f_M_choice, mq_let_e, z_isIn, ite_not, c0, c1, c2, and_self, if_true, C1]
    by_cases d0 : a3 = 0
    · simp only [d0, if_true]
      rw [(B6 j5).1, C4]
    · by_cases d1 : a3 = 1
      · simp only [d0, d1, if_true, if_false]
        rw [B5, C5 j5]
        rw [if_neg (by decide), if_neg (by decide)]
      · simp only [d0, d1, if_false]
        rw [(B6 j5).2, pr.1]
