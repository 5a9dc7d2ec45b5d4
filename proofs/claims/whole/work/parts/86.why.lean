/-! WHY. -/
/-- a loop in steps -/
theorem lp_it {σ ρ : Type} {L : Nat → σ → ρ} {OK : Nat → σ → Prop} (P : Nat → σ → Prop) (R : ρ → Prop) (b : Nat)
    (hs : ∀ n i s, i < b → P i s → ∃ s', L (n + 1) s = L n s' ∧ (OK n s' → OK (n + 1) s) ∧ P (i + 1) s')
    (he : ∀ n s, P b s → R (L (n + 1) s) ∧ OK (n + 1) s) : ∀ d i n s, i + d = b → d < n → P i s → R (L n s) ∧ OK n s := by
  intro d
  induction d with
  | zero =>
    intro i n s h1 h2 h3
    obtain ⟨n', rfl⟩ : ∃ n', n = n' + 1 := ⟨n - 1, by omega⟩
    have : i = b := by omega
    subst this
    exact he n' s h3
  | succ d ih =>
    intro i n s h1 h2 h3
    obtain ⟨n', rfl⟩ : ∃ n', n = n' + 1 := ⟨n - 1, by omega⟩
    obtain ⟨s', e1, e2, e3⟩ := hs n' i s (by omega) h3
    have q := ih (i + 1) n' s' (by omega) (by omega) e3
    rw [e1]
    exact ⟨q.1, e2 q.2⟩
/-- the way from a node to the works -/
def pv (par : Nat → Int32) (x : Int32) : Nat → Int32
  | 0 => x
  | k + 1 => par (ix (pv par x k))
theorem pv_s (par : Nat → Int32) (x : Int32) (k : Nat) : pv par (par (ix x)) k = pv par x (k + 1) := by
  induction k with
  | zero => rfl
  | succ k ih => exact congrArg (fun z => par (ix z)) ih
/-- the way's nodes: m of them, then the works -/
def pw (N : Nat) (par : Nat → Int32) (x : Int32) (m : Nat) : Prop := m < N ∧ (∀ k, k < m → 0 < pv par x k ∧ ix (pv par x k) < N) ∧ pv par x m = 0
theorem pw_ex {N : Nat} {par : Nat → Int32} (hp : nt_paOK N par) (hN : N ≤ 16) : ∀ n x, 0 ≤ x → ix x = n → n < N → ∃ m, m ≤ n ∧ (∀ k, k < m → 0 < pv par x k ∧ ix (pv par x k) < N) ∧ pv par x m = 0 := by
  intro n
  induction n using Nat.strongRecOn with
  | _ n ih =>
    intro x h0 hx hn
    by_cases q : n = 0
    · refine ⟨0, Nat.zero_le _, fun k hk => absurd hk (by omega), ?_⟩
      show x = 0
      rw [← ofNat_ix h0, hx, q]
      rfl
    · have hq := hp n (by omega) hn
      obtain ⟨m, m1, m2, m3⟩ := ih (ix (par n)) hq.2 (par n) hq.1 rfl (by omega)
      refine ⟨m + 1, by omega, fun k hk => ?_, ?_⟩
      · cases k with
        | zero =>
          refine ⟨?_, by show ix x < N; omega⟩
          show 0 < x
          rw [← ofNat_ix h0, hx]
          exact (ofNat_lt (a := 0) (by omega) (by omega)).mpr (by omega)
        | succ k =>
          rw [← pv_s, hx]
          exact m2 k (by omega)
      · rw [← pv_s, hx]
        exact m3
/-- the wet pipe nearest the works; the pipe of greatest loss -/
def wy_w (wet : Nat → Int32) (p : Nat → Int32) : Nat → Int32
  | 0 => -1
  | k + 1 => if wet (ix (p k)) = 0 then wy_w wet p k else p k
def wy_l (loss : Nat → Int32) (p : Nat → Int32) : Nat → Int32
  | 0 => -1
  | k + 1 => if wy_l loss p k = -1 then p k else if loss (ix (p k)) < loss (ix (wy_l loss p k)) then wy_l loss p k else p k
theorem wy_l_ch {loss : Nat → Int32} {p : Nat → Int32} : ∀ k, (∀ i, i < k + 1 → 0 < p i) → ∃ j, j < k + 1 ∧ wy_l loss p (k + 1) = p j ∧ (∀ i, i < k + 1 → loss (ix (p i)) ≤ loss (ix (p j))) ∧ ∀ i, j < i → i < k + 1 → loss (ix (p i)) < loss (ix (p j)) := by
  intro k
  induction k with
  | zero =>
    intro h
    refine ⟨0, by omega, rfl, fun i hi => ?_, fun i h1 h2 => by omega⟩
    have : i = 0 := by omega
    rw [this]
    exact Int32.le_refl _
  | succ k ih =>
    intro h
    obtain ⟨j, h1, h2, h3, h4⟩ := ih (fun i hi => h i (by omega))
    have hj : ¬ wy_l loss p (k + 1) = -1 := by
      rw [h2]
      have := h j (by omega)
      grind
    rw [wy_l, if_neg hj, h2]
    by_cases c : loss (ix (p (k + 1))) < loss (ix (p j))
    · rw [if_pos c]
      refine ⟨j, by omega, rfl, fun i hi => ?_, fun i i1 i2 => ?_⟩
      · by_cases e : i = k + 1
        · rw [e]
          exact Int32.le_of_lt c
        · exact h3 i (by omega)
      · by_cases e : i = k + 1
        · rw [e]
          exact c
        · exact h4 i i1 (by omega)
    · rw [if_neg c]
      refine ⟨k + 1, by omega, rfl, fun i hi => ?_, fun i i1 i2 => by omega⟩
      have c := Int32.not_lt.mp c
      by_cases e : i = k + 1
      · rw [e]
        exact Int32.le_refl _
      · exact Int32.le_trans (h3 i (by omega)) c
/-- the model's walk -/
theorem M_walk {s : mS} {N m : Nat} {x a2 : Int32} (hN : N ≤ 16) (h : pw N (gI s 127) x m) : (lp_M_why_34 x a2 s mm_N (-1) (-1) x).1 = wy_w (gI s 131) (pv (gI s 127) x) m ∧ (lp_M_why_34 x a2 s mm_N (-1) (-1) x).2.1 = wy_l (fun j => gI s 128 j * gI s 148 j / 100) (pv (gI s 127) x) m ∧ okl_M_why_34 x a2 s mm_N (-1) (-1) x := by
  obtain ⟨h1, h2, h3⟩ := h
  have A := lp_it (L := fun n (v : Int32 × Int32 × Int32) => lp_M_why_34 x a2 s n v.1 v.2.1 v.2.2) (OK := fun n v => okl_M_why_34 x a2 s n v.1 v.2.1 v.2.2)
    (fun k v => v = (wy_w (gI s 131) (pv (gI s 127) x) k, wy_l (fun j => gI s 128 j * gI s 148 j / 100) (pv (gI s 127) x) k, pv (gI s 127) x k))
    (fun r => r.1 = wy_w (gI s 131) (pv (gI s 127) x) m ∧ r.2.1 = wy_l (fun j => gI s 128 j * gI s 148 j / 100) (pv (gI s 127) x) m) m
    (fun n k v hk hv => by
      subst hv
      obtain ⟨q1, q2⟩ := h2 k hk
      have e1 : ¬ pv (gI s 127) x k ≤ 0 := Int32.not_le.mpr q1
      have b1 : mm_inb (pv (gI s 127) x k) 16 = true := inb_ix (Int32.le_of_lt q1) (by omega)
      have w : (if gI s 131 (ix (pv (gI s 127) x k)) = 0 then wy_w (gI s 131) (pv (gI s 127) x) k else pv (gI s 127) x k) = wy_w (gI s 131) (pv (gI s 127) x) (k + 1) := rfl
      have pn : gI s 127 (ix (pv (gI s 127) x k)) = pv (gI s 127) x (k + 1) := rfl
      refine ⟨_, ?_, ?_, rfl⟩
      · by_cases c1 : wy_l (fun j => gI s 128 j * gI s 148 j / 100) (pv (gI s 127) x) k = -1
        · have l : wy_l (fun j => gI s 128 j * gI s 148 j / 100) (pv (gI s 127) x) (k + 1) = pv (gI s 127) x k := if_pos c1
          simp only [lp_M_why_34, mq_let_e, e1, if_false, w, c1, if_true, pn, l]
        · by_cases c2 : f_M_loss (pv (gI s 127) x k) s < f_M_loss (wy_l (fun j => gI s 128 j * gI s 148 j / 100) (pv (gI s 127) x) k) s
          · have l : wy_l (fun j => gI s 128 j * gI s 148 j / 100) (pv (gI s 127) x) (k + 1) = wy_l (fun j => gI s 128 j * gI s 148 j / 100) (pv (gI s 127) x) k := by
              rw [wy_l, if_neg c1]
              exact if_pos c2
            simp only [lp_M_why_34, mq_let_e, e1, if_false, w, c1, c2, if_true, pn, l]
          · have l : wy_l (fun j => gI s 128 j * gI s 148 j / 100) (pv (gI s 127) x) (k + 1) = pv (gI s 127) x k := by
              rw [wy_l, if_neg c1]
              exact if_neg c2
            simp only [lp_M_why_34, mq_let_e, e1, if_false, w, c1, c2, pn, l]
      · intro q
        by_cases c1 : wy_l (fun j => gI s 128 j * gI s 148 j / 100) (pv (gI s 127) x) k = -1
        · have l : wy_l (fun j => gI s 128 j * gI s 148 j / 100) (pv (gI s 127) x) (k + 1) = pv (gI s 127) x k := if_pos c1
          simp only [okl_M_why_34, mq_letP_e, e1, if_false, w, c1, if_true, pn, b1, true_and]
          rw [l] at q
          exact q
        · have b2 : ok_M_loss (wy_l (fun j => gI s 128 j * gI s 148 j / 100) (pv (gI s 127) x) k) s := by
            cases k with
            | zero => exact absurd rfl c1
            | succ k =>
              obtain ⟨j, j1, j2, _⟩ := wy_l_ch (loss := fun j => gI s 128 j * gI s 148 j / 100) (p := pv (gI s 127) x) k (fun i hi => (h2 i (by omega)).1)
              have := h2 j (by omega)
              have b : mm_inb (wy_l (fun j => gI s 128 j * gI s 148 j / 100) (pv (gI s 127) x) (k + 1)) 16 = true := by
                rw [j2]
                exact inb_ix (Int32.le_of_lt this.1) (by omega)
              exact ⟨b, b, trivial⟩
          by_cases c2 : f_M_loss (pv (gI s 127) x k) s < f_M_loss (wy_l (fun j => gI s 128 j * gI s 148 j / 100) (pv (gI s 127) x) k) s
          · have l : wy_l (fun j => gI s 128 j * gI s 148 j / 100) (pv (gI s 127) x) (k + 1) = wy_l (fun j => gI s 128 j * gI s 148 j / 100) (pv (gI s 127) x) k := by
              rw [wy_l, if_neg c1]
              exact if_pos c2
            simp only [okl_M_why_34, mq_letP_e, e1, if_false, w, c1, c2, if_true, pn, b1, b2, true_and]
            rw [l] at q
            exact ⟨⟨b1, b1, trivial⟩, q⟩
          · have l : wy_l (fun j => gI s 128 j * gI s 148 j / 100) (pv (gI s 127) x) (k + 1) = pv (gI s 127) x k := by
              rw [wy_l, if_neg c1]
              exact if_neg c2
            simp only [okl_M_why_34, mq_letP_e, e1, if_false, w, c1, c2, pn, b1, b2, true_and]
            rw [l] at q
            exact ⟨⟨b1, b1, trivial⟩, q⟩)
    (fun n v hv => by
      subst hv
      have e1 : pv (gI s 127) x m ≤ 0 := by
        rw [h3]
        decide
      refine ⟨⟨?_, ?_⟩, ?_⟩
      · simp only [lp_M_why_34, e1, if_true]
      · simp only [lp_M_why_34, e1, if_true]
      · simp only [okl_M_why_34, e1, if_true])
    m 0 mm_N (-1, -1, x) (by omega) (by rw [mm_Ns]; omega) rfl
  exact ⟨A.1.1, A.1.2, A.2⟩
/-- the class's walk -/
theorem G_walk {s : mS} {N m : Nat} {x : Int32} (hN : N ≤ 16) (hs : gI s 25 10 = Int32.ofNat N) (h : pw N (gI s 26) x m) : ∃ g, f_Net_walkTo x s = (Int32.ofNat m, sA s 35 g) ∧ ok_Net_walkTo x s ∧ ∀ k, k < m → g (m - 1 - k) = pv (gI s 26) x k := by
  obtain ⟨h1, h2, h3⟩ := h
  have pip : ∀ s', gI s' 25 10 = Int32.ofNat N → ∀ k, k < m → ¬ f_Net_hasPipe (pv (gI s 26) x k) s' = 0 := fun s' hs' k hk => by
    rw [z_pipe]
    have q := h2 k hk
    have q1 : pv (gI s 26) x k < Int32.ofNat N := lt_of_ix (by omega) (Int32.le_of_lt q.1) q.2
    have q2 : pv (gI s 26) x k < Int32.ofNat 16 := lt_of_ix (by omega) (Int32.le_of_lt q.1) (by omega)
    rw [hs']
    exact fun f => f ⟨q.1, q1, q2⟩
  have pip0 : ∀ s', f_Net_hasPipe (pv (gI s 26) x m) s' = 0 := fun s' => by
    rw [z_pipe, h3]
    intro f
    exact absurd f.1 (by decide)
  have A := lp_it (L := fun n (v : Int32 × Int32 × Int32) => lp_Net_walkTo_7 x s n v.1 v.2.1 v.2.2) (OK := fun n v => okl_Net_walkTo_7 x s n v.1 v.2.1 v.2.2)
    (fun k v => v = (Int32.ofNat k, pv (gI s 26) x k, Int32.ofNat k)) (fun r => r = (Int32.ofNat m, pv (gI s 26) x m, Int32.ofNat m)) m
    (fun n k v hk hv => by
      subst hv
      have e1 : ¬ (16 : Int32) ≤ Int32.ofNat k := fl_lit (a := 16) rfl (by omega) (by omega) (by omega)
      have e2 := pip s hs k hk
      have b1 : mm_inb (pv (gI s 26) x k) 16 = true := inb_ix (Int32.le_of_lt (h2 k hk).1) (by have := (h2 k hk).2; omega)
      refine ⟨_, ?_, ?_, rfl⟩
      · simp only [lp_Net_walkTo_7, mq_let_e, e1, e2, if_false, ofNat_succ]
        rfl
      · intro q
        simp only [okl_Net_walkTo_7, mq_letP_e, e1, e2, if_false, ofNat_succ, b1, true_and]
        exact q)
    (fun n v hv => by
      subst hv
      have e1 : ¬ (16 : Int32) ≤ Int32.ofNat m := fl_lit (a := 16) rfl (by omega) (by omega) (by omega)
      have e2 := pip0 s
      constructor
      · simp only [lp_Net_walkTo_7, mq_let_e, e1, e2, if_false, if_true]
      · simp only [okl_Net_walkTo_7, mq_letP_e, e1, e2, if_false, if_true, true_and])
    m 0 mm_N (0, x, 0) (by omega) (by rw [mm_Ns]; omega) rfl
  have A1 : lp_Net_walkTo_7 x s mm_N 0 x 0 = (Int32.ofNat m, pv (gI s 26) x m, Int32.ofNat m) := A.1
  have B := lp_it (L := fun n (v : Int32 × Int32 × mS) => (lp_Net_walkTo_45 (Int32.ofNat m) n v.1 v.2.1 v.2.2).2.2) (OK := fun n v => okl_Net_walkTo_45 (Int32.ofNat m) n v.1 v.2.1 v.2.2)
    (fun k v => v.1 = pv (gI s 26) x k ∧ v.2.1 = Int32.ofNat (m - k) - 1 ∧ ∃ g, v.2.2 = sA s 35 g ∧ ∀ i, i < k → g (m - 1 - i) = pv (gI s 26) x i) (fun r => ∃ g, r = sA s 35 g ∧ ∀ i, i < m → g (m - 1 - i) = pv (gI s 26) x i) m
    (fun n k v hk hv => by
      obtain ⟨v1, v2, v3⟩ := v
      obtain ⟨k1, k2, g, k3, k4⟩ := hv
      simp only at k1 k2 k3
      subst k1 k2 k3
      have e0 : Int32.ofNat (m - k) - 1 = Int32.ofNat (m - 1 - k) := by
        have : m - k = m - 1 - k + 1 := by omega
        rw [this, Int32.sub_eq_add_neg]
        exact ofNat_pred _ (by omega)
      have e1 : ¬ Int32.ofNat (m - 1 - k) < 0 := Int32.not_lt.mpr ((ofNat_le (a := 0) (by omega) (by omega)).mpr (Nat.zero_le _))
      have e2 := pip (sA s 35 g) hs k hk
      have b1 : mm_inb (pv (gI s 26) x k) 16 = true := inb_ix (Int32.le_of_lt (h2 k hk).1) (by have := (h2 k hk).2; omega)
      have b2 : mm_inb (Int32.ofNat (m - 1 - k)) 16 = true := inb_ofNat (by decide) (by omega)
      have e3 : ix (Int32.ofNat (m - 1 - k)) = m - 1 - k := ix_ofNat (by omega)
      have pn : gI s 26 (ix (pv (gI s 26) x k)) = pv (gI s 26) x (k + 1) := rfl
      have e4 : Int32.ofNat (m - 1 - k) + -1 = Int32.ofNat (m - (k + 1)) - 1 := by
        have : m - 1 - k = m - (k + 1) := by omega
        rw [this, Int32.sub_eq_add_neg]
      refine ⟨(pv (gI s 26) x (k + 1), Int32.ofNat (m - (k + 1)) - 1, sA s 35 (up g (m - 1 - k) (pv (gI s 26) x k))), ?_, ?_, rfl, rfl, _, rfl, fun i hi => ?_⟩
      · simp only [lp_Net_walkTo_45, mq_let_e, e0, e1, e2, e3, e4, if_false, gI_sA, Nat.reduceEqDiff, sI_sA]
        exact congrArg (fun z => (lp_Net_walkTo_45 (Int32.ofNat m) n z (Int32.ofNat (m - (k + 1)) - 1) (sA s 35 (up g (m - 1 - k) (pv (gI s 26) x k)))).2.2) pn
      · intro q
        simp only [okl_Net_walkTo_45, mq_letP_e, e0, e1, e2, e3, e4, if_false, gI_sA, Nat.reduceEqDiff, sI_sA, b1, b2, true_and]
        exact q
      · by_cases e : i = k
        · rw [e, up_self]
        · rw [up_ne (by omega)]
          exact k4 i (by omega))
    (fun n v hv => by
      obtain ⟨v1, v2, v3⟩ := v
      obtain ⟨k1, k2, g, k3, k4⟩ := hv
      simp only at k1 k2 k3
      subst k1 k2 k3
      have e1 : Int32.ofNat (m - m) - 1 < 0 := by
        rw [Nat.sub_self]
        decide
      constructor
      · refine ⟨g, ?_, k4⟩
        simp only [lp_Net_walkTo_45, e1, if_true]
      · simp only [okl_Net_walkTo_45, e1, if_true])
    m 0 mm_N (x, Int32.ofNat m - 1, s) (by omega) (by rw [mm_Ns]; omega) ⟨rfl, rfl, gI s 35, (sA_id s 35).symm, fun i hi => by omega⟩
  obtain ⟨⟨g, B1, B2⟩, B3⟩ := B
  refine ⟨g, ?_, ?_, B2⟩
  · unfold f_Net_walkTo
    simp only [mq_let_e, A1]
    exact congrArg (fun z => (Int32.ofNat m, z)) B1
  · unfold ok_Net_walkTo
    simp only [mq_letP_e, A1]
    exact ⟨A.2, B3, trivial⟩
theorem G_wet {s : mS} {N m : Nat} {par g : Nat → Int32} {x : Int32} (hN : N ≤ 16) (hs : gI s 25 10 = Int32.ofNat N) (h : pw N par x m) (hg : ∀ k, k < m → gI s 35 (m - 1 - k) = pv par x k) : ∀ d n, d ≤ m → d < n → (lp_Net_firstWetOnWay_8 (Int32.ofNat m) s n (Int32.ofNat (m - d))).1 = (if wy_w (gI s 34) (pv par x) d = -1 then none else some (wy_w (gI s 34) (pv par x) d)) ∧ okl_Net_firstWetOnWay_8 (Int32.ofNat m) s n (Int32.ofNat (m - d)) := by
  obtain ⟨h1, h2, h3⟩ := h
  intro d
  induction d with
  | zero =>
    intro n _ hn
    obtain ⟨n', rfl⟩ : ∃ n', n = n' + 1 := ⟨n - 1, by omega⟩
    rw [Nat.sub_zero]
    constructor
    · simp only [lp_Net_firstWetOnWay_8, Int32.le_refl, if_true, wy_w]
    · simp only [okl_Net_firstWetOnWay_8, Int32.le_refl, if_true]
  | succ d ih =>
    intro n hd hn
    obtain ⟨n', rfl⟩ : ∃ n', n = n' + 1 := ⟨n - 1, by omega⟩
    have r := ih n' (by omega) (by omega)
    have e0 : ¬ Int32.ofNat m ≤ Int32.ofNat (m - (d + 1)) := fl_lit (a := m) rfl (by omega) (by omega) (by omega)
    have e1 : ¬ (16 : Int32) ≤ Int32.ofNat (m - (d + 1)) := fl_lit (a := 16) rfl (by omega) (by omega) (by omega)
    have e2 : ix (Int32.ofNat (m - (d + 1))) = m - 1 - d := by
      rw [ix_ofNat (by omega)]
      omega
    have b1 : mm_inb (Int32.ofNat (m - (d + 1))) 16 = true := inb_ofNat (by decide) (by omega)
    have e3 : Int32.ofNat (m - (d + 1)) + 1 = Int32.ofNat (m - d) := by
      rw [ofNat_succ]
      congr 1
      omega
    obtain ⟨q1, q2⟩ := h2 d (by omega)
    have e4 : ¬ f_Net_has (pv par x d) s = 0 := by
      rw [z_has, hs]
      have q3 : pv par x d < Int32.ofNat N := lt_of_ix (by omega) (Int32.le_of_lt q1) q2
      have q4 : pv par x d < Int32.ofNat 16 := lt_of_ix (by omega) (Int32.le_of_lt q1) (by omega)
      exact fun f => f ⟨Int32.le_of_lt q1, q3, q4⟩
    have b2 : mm_inb (pv par x d) 16 = true := inb_ix (Int32.le_of_lt q1) (by omega)
    have q5 : ¬ pv par x d = -1 := by grind
    have e5 := hg d (by omega)
    by_cases c : gI s 34 (ix (pv par x d)) = 0
    · have w : wy_w (gI s 34) (pv par x) (d + 1) = wy_w (gI s 34) (pv par x) d := if_pos c
      rw [w]
      constructor
      · simp only [lp_Net_firstWetOnWay_8, mq_let_e, e0, e1, e2, e3, e4, e5, c, if_false, if_true]
        exact r.1
      · simp only [okl_Net_firstWetOnWay_8, mq_letP_e, e0, e1, e2, e3, e4, e5, c, if_false, if_true, b1, b2, true_and]
        exact r.2
    · have w : wy_w (gI s 34) (pv par x) (d + 1) = pv par x d := if_neg c
      rw [w]
      constructor
      · simp only [lp_Net_firstWetOnWay_8, mq_let_e, e0, e1, e2, e3, e4, e5, c, if_false, q5]
      · simp only [okl_Net_firstWetOnWay_8, mq_letP_e, e0, e1, e2, e3, e4, e5, c, if_false, b1, b2, true_and]
/-- what the class keeps of the pipes seen -/
def wy_i (loss p : Nat → Int32) (m d : Nat) (v3 v4 : Int32) : Prop := (d = m ∧ v3 = -1 ∧ v4 = -1) ∨ ∃ j, d ≤ j ∧ j < m ∧ v4 = p j ∧ v3 = loss (ix (p j)) ∧ ∀ i, d ≤ i → i < m → loss (ix (p i)) ≤ loss (ix (p j)) ∧ (j < i → loss (ix (p i)) < loss (ix (p j)))
theorem wy_i_0 {loss p : Nat → Int32} {m : Nat} {v3 v4 : Int32} (hp : ∀ i, i < m → 0 < p i) (h : wy_i loss p m 0 v3 v4) : v4 = wy_l loss p m := by
  cases m with
  | zero =>
    rcases h with h | ⟨j, _, h, _⟩
    · exact h.2.2
    · omega
  | succ m =>
    obtain ⟨j, j1, j2, j3, j4⟩ := wy_l_ch (loss := loss) m hp
    rcases h with h | ⟨i, i1, i2, i3, i4, i5⟩
    · omega
    · have : i = j := by
        rcases Nat.lt_trichotomy i j with q | q | q
        · have a := (i5 j (Nat.zero_le _) j1).2 q
          have b := j3 i i2
          exact absurd a (Int32.not_lt.mpr b)
        · exact q
        · have a := j4 i q i2
          have b := (i5 j (Nat.zero_le _) j1).1
          exact absurd a (Int32.not_lt.mpr b)
      rw [i3, j2, this]
theorem G_loss {s : mS} {N m : Nat} {par : Nat → Int32} {x : Int32} (hN : N ≤ 16) (hs : gI s 25 10 = Int32.ofNat N) (h : pw N par x m) (hg : ∀ k, k < m → gI s 35 (m - 1 - k) = pv par x k) (hl : ∀ j, 0 ≤ gI s 27 j * gI s 33 j / 100) : ∀ d n v3 v4, d ≤ m → d < n → wy_i (fun j => gI s 27 j * gI s 33 j / 100) (pv par x) m d v3 v4 → (lp_Net_greatestLossOnWay_14 (Int32.ofNat m) s n v3 v4 (Int32.ofNat (m - d))).2.1 = wy_l (fun j => gI s 27 j * gI s 33 j / 100) (pv par x) m ∧ okl_Net_greatestLossOnWay_14 (Int32.ofNat m) s n v3 v4 (Int32.ofNat (m - d)) := by
  obtain ⟨h1, h2, h3⟩ := h
  intro d
  induction d with
  | zero =>
    intro n v3 v4 _ hn hi
    obtain ⟨n', rfl⟩ : ∃ n', n = n' + 1 := ⟨n - 1, by omega⟩
    rw [Nat.sub_zero]
    constructor
    · simp only [lp_Net_greatestLossOnWay_14, Int32.le_refl, if_true]
      exact wy_i_0 (fun i hi => (h2 i hi).1) hi
    · simp only [okl_Net_greatestLossOnWay_14, Int32.le_refl, if_true]
  | succ d ih =>
    intro n v3 v4 hd hn hi
    obtain ⟨n', rfl⟩ : ∃ n', n = n' + 1 := ⟨n - 1, by omega⟩
    have e0 : ¬ Int32.ofNat m ≤ Int32.ofNat (m - (d + 1)) := fl_lit (a := m) rfl (by omega) (by omega) (by omega)
    have e1 : ¬ (16 : Int32) ≤ Int32.ofNat (m - (d + 1)) := fl_lit (a := 16) rfl (by omega) (by omega) (by omega)
    have e2 : ix (Int32.ofNat (m - (d + 1))) = m - 1 - d := by
      rw [ix_ofNat (by omega)]
      omega
    have b1 : mm_inb (Int32.ofNat (m - (d + 1))) 16 = true := inb_ofNat (by decide) (by omega)
    have e3 : Int32.ofNat (m - (d + 1)) + 1 = Int32.ofNat (m - d) := by
      rw [ofNat_succ]
      congr 1
      omega
    obtain ⟨q1, q2⟩ := h2 d (by omega)
    have e4 : ¬ f_Net_has (pv par x d) s = 0 := by
      rw [z_has, hs]
      have q3 : pv par x d < Int32.ofNat N := lt_of_ix (by omega) (Int32.le_of_lt q1) q2
      have q4 : pv par x d < Int32.ofNat 16 := lt_of_ix (by omega) (Int32.le_of_lt q1) (by omega)
      exact fun f => f ⟨Int32.le_of_lt q1, q3, q4⟩
    have b2 : mm_inb (pv par x d) 16 = true := inb_ix (Int32.le_of_lt q1) (by omega)
    have e5 := hg d (by omega)
    by_cases c : gI s 27 (ix (pv par x d)) * gI s 33 (ix (pv par x d)) / 100 ≤ v3
    · have r := ih n' v3 v4 (by omega) (by omega) (by
        rcases hi with ⟨_, hi, _⟩ | ⟨j, i1, i2, i3, i4, i5⟩
        · exfalso
          rw [hi] at c
          have := hl (ix (pv par x d))
          grind
        · refine Or.inr ⟨j, by omega, i2, i3, i4, fun i u1 u2 => ?_⟩
          by_cases e : i = d
          · rw [e]
            exact ⟨by rw [← i4]; exact c, fun w => by omega⟩
          · exact i5 i (by omega) u2)
      constructor
      · simp only [lp_Net_greatestLossOnWay_14, mq_let_e, e0, e1, e2, e3, e4, e5, c, if_false, if_true]
        exact r.1
      · simp only [okl_Net_greatestLossOnWay_14, mq_letP_e, e0, e1, e2, e3, e4, e5, c, if_false, if_true, b1, b2, true_and]
        exact r.2
    · have r := ih n' (gI s 27 (ix (pv par x d)) * gI s 33 (ix (pv par x d)) / 100) (pv par x d) (by omega) (by omega) (by
        have c := Int32.not_le.mp c
        refine Or.inr ⟨d, by omega, by omega, rfl, rfl, fun i u1 u2 => ?_⟩
        by_cases e : i = d
        · rw [e]
          exact ⟨Int32.le_refl _, fun w => by omega⟩
        · have lt : gI s 27 (ix (pv par x i)) * gI s 33 (ix (pv par x i)) / 100 < gI s 27 (ix (pv par x d)) * gI s 33 (ix (pv par x d)) / 100 := by
            rcases hi with ⟨hi, _⟩ | ⟨j, i1, i2, i3, i4, i5⟩
            · omega
            · have a := (i5 i (by omega) u2).1
              rw [i4] at c
              exact Int32.lt_of_le_of_lt a c
          exact ⟨Int32.le_of_lt lt, fun _ => lt⟩)
      constructor
      · simp only [lp_Net_greatestLossOnWay_14, mq_let_e, e0, e1, e2, e3, e4, e5, c, if_false]
        exact r.1
      · simp only [okl_Net_greatestLossOnWay_14, mq_letP_e, e0, e1, e2, e3, e4, e5, c, if_false, b1, b2, true_and]
        exact r.2
theorem loss_nn {a b : Int32} (h1 : 0 ≤ a) (h2 : a ≤ 9) (h3 : 0 ≤ b) (h4 : b ≤ 1000000) : 0 ≤ a * b / 100 := by
  rw [Int32.le_iff_toInt_le, toInt_0] at h1 h3 ⊢
  rw [Int32.le_iff_toInt_le] at h2 h4
  have e9 : (9 : Int32).toInt = 9 := by decide
  have e6 : (1000000 : Int32).toInt = 1000000 := by decide
  rw [e9] at h2
  rw [e6] at h4
  have p : a.toInt * b.toInt ≤ 9 * 1000000 := Int.mul_le_mul h2 h4 h3 (by decide)
  have p0 : 0 ≤ a.toInt * b.toInt := Int.mul_nonneg h1 h3
  have m : (a * b).toInt = a.toInt * b.toInt := mul_nn (by omega) (by omega)
  have d : (a * b / 100).toInt = (a * b).toInt / (100 : Int32).toInt := div_nn (by rw [Int32.le_iff_toInt_le, toInt_0, m]; exact p0) (by decide)
  rw [d, m]
  exact Int.ediv_nonneg p0 (by decide)
theorem op_why (a1 a2 : Int32) (s : mS) (h_net : J_net s) (h_things : J_things s) (h_was : J_was s) (h_gen : J_gen s) : ok_G_why a1 a2 s ∧ ok_M_why a1 a2 (f_G_why a1 a2 s).2 ∧ (f_G_why a1 a2 s).1 = f_M_why a1 a2 (f_G_why a1 a2 s).2 := by
  have kn := h_net
  unfold J_net at kn
  have kw := h_was
  unfold J_was at kw
  have kg := h_gen
  unfold J_gen at kg
  obtain ⟨N, T, hN, hN1, hN2, hT, hT2, hnd, hpa⟩ := J_sz h_net h_things
  have g09 : gI s 0 9 = gI s 116 1 := kg.1
  have g014 : gI s 0 14 = gI s 116 56 := kg.2.2.2.2.2.2.1
  have g25 : gI s 25 10 = gI s 116 7 := kn.2.2.2.2.1
  have bad : ∀ t : mS, (f_G_why a1 a2 s) = (-1, s) → ok_G_why a1 a2 s → ok_M_why a1 a2 s → f_M_why a1 a2 s = -1 → ok_G_why a1 a2 s ∧ ok_M_why a1 a2 (f_G_why a1 a2 s).2 ∧ (f_G_why a1 a2 s).1 = f_M_why a1 a2 (f_G_why a1 a2 s).2 := fun _ h1 h2 h3 h4 => by
    rw [h1]
    exact ⟨h2, h3, h4.symm⟩
  by_cases c0 : gI s 116 1 = 0
  · refine bad s ?_ ?_ ?_ ?_
    · simp only [f_G_why, g09, c0, if_true]
    · simp only [ok_G_why, g09, c0, if_true]
    · simp only [ok_M_why, mq_letP_e, c0, if_true, o_node, true_and, ite_self]
    · simp only [f_M_why, mq_let_e, c0, if_true, ite_self]
  by_cases c1 : 0 ≤ a1 ∧ a1 ≤ gI s 116 7 - 1
  rotate_left
  · have c1' : ¬ (0 ≤ a1 ∧ a1 < gI s 25 10 ∧ a1 < 16) := by
      have := kn.2.2.2.2.2.1
      have := kn.2.2.2.2.2.2.1
      rw [g25]
      grind
    refine bad s ?_ ?_ ?_ ?_
    · simp only [f_G_why, mq_let_e, g09, c0, if_false, z_has, ite_not, c1']
    · simp only [ok_G_why, mq_letP_e, g09, c0, if_false, z_has, ite_not, c1', true_and]
    · simp only [ok_M_why, mq_letP_e, z_node, ite_not, c1, if_false, o_node, true_and]
    · simp only [f_M_why, mq_let_e, z_node, ite_not, c1, if_false]
  have c1' : 0 ≤ a1 ∧ a1 < gI s 25 10 ∧ a1 < 16 := by
    have := kn.2.2.2.2.2.1
    have := kn.2.2.2.2.2.2.1
    rw [g25]
    grind
  by_cases c2 : 0 ≤ a2 ∧ a2 ≤ 1
  rotate_left
  · refine bad s ?_ ?_ ?_ ?_
    · simp only [f_G_why, mq_let_e, g09, c0, if_false, z_has, z_within, ite_not, c1', c2, and_self, if_true]
    · simp only [ok_G_why, mq_letP_e, g09, c0, if_false, z_has, z_within, ite_not, c1', c2, and_self, if_true, true_and]
    · simp only [ok_M_why, mq_letP_e, z_node, z_isIn, ite_not, c0, c1, c2, and_self, if_true, if_false, o_node, true_and]
    · simp only [f_M_why, mq_let_e, z_node, z_isIn, ite_not, c0, c1, c2, and_self, if_true, if_false]
  have i16 : mm_inb a1 16 = true := inb_16 c1'.1 c1'.2.2
  have hN25 : gI s 25 10 = Int32.ofNat N := by rw [g25, hN]
  have hx : ix a1 < N := ix_lt (by omega) c1'.1 (by rw [← hN25]; exact c1'.2.1)
  obtain ⟨m, m1, m2, m3⟩ := pw_ex hpa hN2 (ix a1) a1 c1'.1 rfl hx
  have P : pw N (gI s 127) a1 m := ⟨by omega, m2, m3⟩
  have e26 : gI s 26 = gI s 127 := kn.1
  have e27 : gI s 27 = gI s 128 := kn.2.1
  have e32 : gI s 32 = gI s 149 := kw.1
  have e33 : gI s 33 = gI s 148 := kw.2.1
  have e34 : gI s 34 = gI s 131 := kw.2.2.1
  have hl : ∀ j, 0 ≤ gI s 128 j * gI s 148 j / 100 := fun j => by
    have a := kn.2.2.2.2.2.2.2.2.2.2.2.2.1 j
    have b := kw.2.2.2.2.2.2 j
    exact loss_nn a.1 a.2 b.1 b.2
  obtain ⟨M1, M2, M3⟩ := M_walk (s := s) (a2 := a2) hN2 P
  obtain ⟨g, W1, W2, W3⟩ := G_walk (s := s) hN2 hN25 (by rw [e26]; exact P)
  rw [e26] at W3
  have F := G_wet (s := sA s 35 g) (g := g) hN2 hN25 P (fun k hk => by
    rw [gI_sA, if_pos rfl]
    exact W3 k hk) m mm_N (Nat.le_refl m) (by rw [mm_Ns]; omega)
  rw [Nat.sub_self] at F
  simp only [fI_sA, Nat.reduceEqDiff, if_false, e34] at F
  have hF : f_Net_firstWetOnWay a1 s = (wy_w (gI s 131) (pv (gI s 127) a1) m, sA s 35 g) ∧ ok_Net_firstWetOnWay a1 s := by
    have F1 : (lp_Net_firstWetOnWay_8 (Int32.ofNat m) (sA s 35 g) mm_N 0).1 = _ := F.1
    constructor
    · unfold f_Net_firstWetOnWay
      simp only [mq_let_e, W1, F1]
      by_cases q : wy_w (gI s 131) (pv (gI s 127) a1) m = -1
      · rw [if_pos q, q]
        rfl
      · rw [if_neg q]
        rfl
    · unfold ok_Net_firstWetOnWay
      simp only [mq_letP_e, W1]
      refine ⟨W2, F.2, ?_⟩
      generalize (lp_Net_firstWetOnWay_8 (Int32.ofNat m) (sA s 35 g) mm_N 0).1 = o
      cases o <;> trivial
  obtain ⟨g', V1, V2, V3⟩ := G_walk (s := sA s 35 g) hN2 hN25 (by
    simp only [fI_sA, Nat.reduceEqDiff, if_false, e26]
    exact P)
  simp only [fI_sA, Nat.reduceEqDiff, if_false, e26, sA_sA] at V1 V3
  have Ls := G_loss (s := sA s 35 g') hN2 hN25 P (fun k hk => by
    rw [gI_sA, if_pos rfl]
    exact V3 k hk) (fun j => by
    simp only [gI_sA, Nat.reduceEqDiff, if_false, e27, e33]
    exact hl j) m mm_N (-1) (-1) (Nat.le_refl m) (by rw [mm_Ns]; omega) (Or.inl ⟨rfl, rfl, rfl⟩)
  rw [Nat.sub_self] at Ls
  simp only [fI_sA, Nat.reduceEqDiff, if_false, e27, e33] at Ls
  have hL : f_Net_greatestLossOnWay a1 (sA s 35 g) = (wy_l (fun j => gI s 128 j * gI s 148 j / 100) (pv (gI s 127) a1) m, sA s 35 g') ∧ ok_Net_greatestLossOnWay a1 (sA s 35 g) := by
    have L1 : (lp_Net_greatestLossOnWay_14 (Int32.ofNat m) (sA s 35 g') mm_N (-1) (-1) 0).2.1 = _ := Ls.1
    constructor
    · unfold f_Net_greatestLossOnWay
      simp only [mq_let_e, V1, L1]
    · unfold ok_Net_greatestLossOnWay
      simp only [mq_letP_e, V1]
      exact ⟨V2, Ls.2, trivial⟩
  have fG := fr_G_why a1 a2 s
  have oG : ok_G_why a1 a2 s := by
    simp only [ok_G_why, mq_letP_e, g09, c0, if_false, z_has, z_within, ite_not, c1', c2, and_self, if_true, true_and, and_true, i16, hF.1, hF.2, hL.1, hL.2, ite_self]
  have MM : ∀ t, fp [35] [] false s t → ok_M_why a1 a2 t ∧ f_M_why a1 a2 t = (if gI s 149 (ix a1) < 20 then (if gI s 116 56 = 0 then (if wy_w (gI s 131) (pv (gI s 127) a1) m = -1 then (if a2 = 0 then 3 else wy_l (fun j => gI s 128 j * gI s 148 j / 100) (pv (gI s 127) a1) m) else (if a2 = 0 then 2 else wy_w (gI s 131) (pv (gI s 127) a1) m)) else (if a2 = 0 then 1 else -1)) else (if a2 = 0 then 0 else -1)) := fun t ht => by
    have t127 : gI t 127 = gI s 127 := (fpA ht (by decide)).1
    have t131 : gI t 131 = gI s 131 := (fpA ht (by decide)).1
    have t128 : gI t 128 = gI s 128 := (fpA ht (by decide)).1
    have t148 : gI t 148 = gI s 148 := (fpA ht (by decide)).1
    have t149 : gI t 149 = gI s 149 := (fpA ht (by decide)).1
    have t1 : gI t 116 1 = gI s 116 1 := (fpF ht (by decide)).1
    have t7 : gI t 116 7 = gI s 116 7 := (fpF ht (by decide)).1
    have t56 : gI t 116 56 = gI s 116 56 := (fpF ht (by decide)).1
    obtain ⟨M1, M2, M3⟩ := M_walk (s := t) (a2 := a2) hN2 (by rw [t127]; exact P)
    rw [t127, t131] at M1
    rw [t127, t128, t148] at M2
    constructor
    · simp only [ok_M_why, mq_letP_e, z_node, z_isIn, ite_not, t1, t7, c0, c1, c2, and_self, if_true, if_false, o_node, true_and, and_true, i16, M3]
    · simp only [f_M_why, mq_let_e, z_node, z_isIn, ite_not, t1, t7, t56, t149, c0, c1, c2, and_self, if_true, if_false, M1, M2]
      by_cases d1 : gI s 149 (ix a1) < 20
      · simp only [if_pos d1]
        by_cases d2 : gI s 116 56 = 0
        · simp only [if_pos d2]
          by_cases d3 : wy_w (gI s 131) (pv (gI s 127) a1) m = -1
          · simp only [if_pos d3]
            rw [if_neg (by decide : ¬ (3 : Int32) = 2), if_pos trivial]
          · simp only [if_neg d3]
            rw [if_pos trivial]
        · simp only [if_neg d2]
          rw [if_neg (by decide : ¬ (1 : Int32) = 2), if_neg (by decide : ¬ (1 : Int32) = 3)]
      · simp only [if_neg d1]
        rw [if_neg (by decide : ¬ (0 : Int32) = 2), if_neg (by decide : ¬ (0 : Int32) = 3)]
  obtain ⟨X1, X2⟩ := MM _ (fp_m fG (by decide) (by decide) (fun h => h))
  refine ⟨oG, X1, ?_⟩
  rw [X2]
  simp only [f_G_why, mq_let_e, g09, c0, if_false, z_has, z_within, ite_not, c1', c2, and_self, if_true, e32, g014, hF.1, hL.1]
  split
  · split
    · split
      · split <;> rfl
      · split <;> rfl
    · split <;> rfl
  · split <;> rfl
