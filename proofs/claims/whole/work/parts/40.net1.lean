/-! THE NET: what flows, pressures and takings are, as arrays. -/
def nt_in (node take : Nat → Int32) (f : Nat → Int32) : Nat → (Nat → Int32)
  | 0 => f
  | t + 1 => up (nt_in node take f t) (ix (node t)) (nt_in node take f t (ix (node t)) + take t)
def nt_up (par : Nat → Int32) : Nat → (Nat → Int32) → (Nat → Int32)
  | 0, f => f
  | k + 1, f => nt_up par k (up f (ix (par (k + 1))) (f (ix (par (k + 1))) + f (k + 1)))
def nt_flow (N T : Nat) (par node take : Nat → Int32) : Nat → Int32 := nt_up par (N - 1) (nt_in node take (fun _ => 0) T)
def nt_pv (par wat hgt rs fl pr : Nat → Int32) (n : Nat) : Int32 := if wat n = 0 then (if pr (ix (par n)) = 0 then 0 else (if (0 : Int32) ≤ (((pr (ix (par n)) - ((rs n * fl n) / 100)) + hgt n) - hgt (ix (par n))) then (((pr (ix (par n)) - ((rs n * fl n) / 100)) + hgt n) - hgt (ix (par n))) else 0)) else 0
def nt_pr (par wat hgt rs fl : Nat → Int32) (gate : Int32) : Nat → (Nat → Int32)
  | 0 => up (fun _ => 0) 0 gate
  | k + 1 => up (nt_pr par wat hgt rs fl gate k) (k + 1) (nt_pv par wat hgt rs fl (nt_pr par wat hgt rs fl gate k) (k + 1))
/-- the pressure of each node -/
def nt_PR (par wat hgt rs fl : Nat → Int32) (gate : Int32) (n : Nat) : Int32 := nt_pr par wat hgt rs fl gate n n
def nt_tk (node kind want PR : Nat → Int32) (t : Nat) : Int32 := if kind t = 3 then (want t * PR (ix (node t))) / 20 else (if (20 : Int32) ≤ PR (ix (node t)) then want t else (want t * PR (ix (node t))) / 20)
def nt_swp (N T : Nat) (par wat hgt rs node kind want : Nat → Int32) (gate : Int32) : Nat → Nat → (Nat → Int32) → (Nat → Int32) → Bool × (Nat → Int32) × (Nat → Int32)
  | 0, _, tk, pr => (false, tk, pr)
  | r + 1, k, tk, pr => if 0 < k ∧ ∀ j, j < N → nt_PR par wat hgt rs (nt_flow N T par node tk) gate j = pr j then (true, nt_tk node kind want (nt_PR par wat hgt rs (nt_flow N T par node tk) gate), nt_PR par wat hgt rs (nt_flow N T par node tk) gate) else nt_swp N T par wat hgt rs node kind want gate r (k + 1) (nt_tk node kind want (nt_PR par wat hgt rs (nt_flow N T par node tk) gate)) (nt_PR par wat hgt rs (nt_flow N T par node tk) gate)
def nt_settle (N T : Nat) (par wat hgt rs node kind want : Nat → Int32) (gate : Int32) : Bool × (Nat → Int32) × (Nat → Int32) := nt_swp N T par wat hgt rs node kind want gate 12 0 want (fun _ => 0)
def nt_ndOK (N T : Nat) (node : Nat → Int32) : Prop := ∀ t, t < T → 0 ≤ node t ∧ ix (node t) < N
def nt_paOK (N : Nat) (par : Nat → Int32) : Prop := ∀ n, 1 ≤ n → n < N → 0 ≤ par n ∧ ix (par n) < n
theorem nt_in_c {N T : Nat} {node take take' f f' : Nat → Int32} (hf : ∀ j, j < N → f j = f' j) (hn : nt_ndOK N T node) (ht : ∀ t, t < T → take t = take' t) : ∀ j, j < N → nt_in node take f T j = nt_in node take' f' T j := by
  induction T with
  | zero => exact hf
  | succ T ih =>
    have ih := ih (fun t h => hn t (by omega)) (fun t h => ht t (by omega))
    intro j hj
    simp only [nt_in, up]
    rw [ih _ (hn T (by omega)).2, ht T (by omega), ih j hj]
theorem nt_up_c {N : Nat} {par : Nat → Int32} {k : Nat} (hk : k < N) (hp : nt_paOK N par) : ∀ {f f' : Nat → Int32}, (∀ j, j < N → f j = f' j) → ∀ j, j < N → nt_up par k f j = nt_up par k f' j := by
  induction k with
  | zero => intro f f' h; exact h
  | succ k ih =>
    intro f f' h
    refine ih (by omega) ?_
    intro j hj
    have h1 := (hp (k + 1) (by omega) hk).2
    simp only [up]
    rw [h _ (by omega), h _ hk, h j hj]
theorem nt_flow_c {N T : Nat} {par node take take' f : Nat → Int32} (hN : 1 ≤ N) (hf : ∀ j, j < N → f j = 0) (hn : nt_ndOK N T node) (hp : nt_paOK N par) (ht : ∀ t, t < T → take t = take' t) : ∀ j, j < N → nt_up par (N - 1) (nt_in node take f T) j = nt_flow N T par node take' j := nt_up_c (by omega) hp (nt_in_c hf hn ht)
theorem nt_flow_t {N T : Nat} {par node take take' : Nat → Int32} (hN : 1 ≤ N) (hn : nt_ndOK N T node) (hp : nt_paOK N par) (ht : ∀ t, t < T → take t = take' t) : ∀ j, j < N → nt_flow N T par node take j = nt_flow N T par node take' j := nt_flow_c hN (fun _ _ => rfl) hn hp ht
section
variable {par wat hgt rs fl : Nat → Int32} {gate : Int32}
theorem nt_pr_st (k j : Nat) (h : j ≤ k) : nt_pr par wat hgt rs fl gate k j = nt_PR par wat hgt rs fl gate j := by
  induction k with
  | zero =>
    have : j = 0 := by omega
    subst this
    rfl
  | succ k ih =>
    by_cases hj : j = k + 1
    · subst hj
      rfl
    · show up _ _ _ j = _
      rw [up_ne hj]
      exact ih (by omega)
theorem nt_PR_0 : nt_PR par wat hgt rs fl gate 0 = gate := rfl
theorem nt_PR_s {n : Nat} (h1 : 1 ≤ n) (hp : ix (par n) < n) : nt_PR par wat hgt rs fl gate n = nt_pv par wat hgt rs fl (nt_PR par wat hgt rs fl gate) n := by
  match n, h1 with
  | k + 1, _ =>
    show up _ _ _ (k + 1) = _
    rw [up_self]
    unfold nt_pv
    rw [nt_pr_st k (ix (par (k + 1))) (by omega)]
theorem nt_pv_c {fl' pr pr' : Nat → Int32} {n : Nat} (h : fl n = fl' n) (h2 : pr (ix (par n)) = pr' (ix (par n))) : nt_pv par wat hgt rs fl pr n = nt_pv par wat hgt rs fl' pr' n := by
  unfold nt_pv
  rw [h, h2]
theorem nt_PR_c {N : Nat} {fl' : Nat → Int32} (hp : nt_paOK N par) (hf : ∀ j, j < N → fl j = fl' j) : ∀ j, j < N → nt_PR par wat hgt rs fl gate j = nt_PR par wat hgt rs fl' gate j := by
  intro j
  induction j using Nat.strongRecOn with
  | _ j ih =>
    intro hj
    by_cases h0 : j = 0
    · subst h0
      rfl
    · have h1 := hp j (by omega) hj
      rw [nt_PR_s (by omega) h1.2, nt_PR_s (by omega) h1.2]
      exact nt_pv_c (hf j hj) (ih _ h1.2 (by omega))
theorem nt_tk_c {N T : Nat} {node kind want PR PR' : Nat → Int32} (hn : nt_ndOK N T node) (h : ∀ j, j < N → PR j = PR' j) : ∀ t, t < T → nt_tk node kind want PR t = nt_tk node kind want PR' t := by
  intro t ht
  unfold nt_tk
  rw [h _ (hn t ht).2]
end
/-- a counting loop downwards -/
theorem ofNat_pred (k : Nat) (h : k < 90000) : Int32.ofNat (k + 1) + (-1) = Int32.ofNat k := by
  have h1 : Int32.ofNat k + 1 = Int32.ofNat (k + 1) := ofNat_succ k
  rw [← h1]
  grind
theorem ofNat_pos {k : Nat} (h : k < 90000) : ¬ (Int32.ofNat (k + 1) ≤ 0) := by
  rw [show (0 : Int32) = Int32.ofNat 0 from rfl, ofNat_le (by omega) (by omega)]
  omega
theorem lp_dn {σ : Type} {L : Nat → Int32 → σ → Int32 × σ} {OK : Nat → Int32 → σ → Prop} (P : Nat → σ → Prop)
    (hs : ∀ n i s, P (i + 1) s → i < 90000 → ∃ s', L (n + 1) (Int32.ofNat (i + 1)) s = L n (Int32.ofNat i) s' ∧ (OK n (Int32.ofNat i) s' → OK (n + 1) (Int32.ofNat (i + 1)) s) ∧ P i s')
    (he : ∀ n s, P 0 s → L (n + 1) 0 s = (0, s) ∧ OK (n + 1) 0 s) :
    ∀ i n s, i < n → i < 90000 → P i s → ∃ s', L n (Int32.ofNat i) s = (0, s') ∧ OK n (Int32.ofNat i) s ∧ P 0 s' := by
  intro i
  induction i with
  | zero =>
    intro n s h1 _ h3
    match n, h1 with
    | n + 1, _ => exact ⟨s, (he n s h3).1, (he n s h3).2, h3⟩
  | succ i ih =>
    intro n s h1 h2 h3
    match n, h1 with
    | n + 1, h1 =>
      obtain ⟨s', e, ok, p⟩ := hs n i s h3 (by omega)
      obtain ⟨s'', e2, ok2, p2⟩ := ih n s' (by omega) (by omega) p
      exact ⟨s'', by rw [e, e2], ok ok2, p2⟩
theorem inb_ix {i : Int32} {n : Nat} (h0 : 0 ≤ i) (h : ix i < n) : mm_inb i n = true := by
  have h2 : ¬ i < 0 := by
    rw [lt_toInt]
    rw [le_toInt] at h0
    omega
  unfold mm_inb
  simp only [h2, decide_false, Bool.not_false, Bool.true_and]
  exact Nat.ble_eq.mpr h
theorem lt_of_ix {i : Int32} {n : Nat} (hn : n < 90000) (h0 : 0 ≤ i) (h : ix i < n) : i < Int32.ofNat n := by
  rw [lt_toInt, toInt_ofNat (by omega)]
  rw [le_toInt] at h0
  rw [ix_def] at h
  have h4 : (0 : Int32).toInt = 0 := rfl
  omega
theorem has_ne {a : Int32} {s : mS} {N : Nat} (hN : gI s 25 10 = Int32.ofNat N) (h16 : N ≤ 16) (h0 : 0 ≤ a) (h : ix a < N) : ¬ f_Net_has a s = 0 := by
  rw [z_has, hN]
  intro h2
  refine h2 ⟨h0, lt_of_ix (by omega) h0 h, ?_⟩
  exact lt_of_ix (n := 16) (by omega) h0 (by omega)
