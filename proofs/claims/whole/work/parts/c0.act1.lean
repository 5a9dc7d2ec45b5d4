/-! ACT: a text as tokens; the two ways to read it. -/
abbrev tkT : Type := Nat → Nat × Int32 × Nat × Nat
def tK (tk : tkT) (p : Nat) : Nat := (tk p).1
def tV (tk : tkT) (p : Nat) : Int32 := (tk p).2.1
def tA (tk : tkT) (p : Nat) : Nat := (tk p).2.2.1
def tN (tk : tkT) (p : Nat) : Nat := (tk p).2.2.2
abbrev rpR : Type := (Nat × Nat) ⊕ (Nat × Int32 × List cI)
def rp_v (tk : tkT) (v : Int32) (p : Nat) : Int32 := if tK tk p = 2 then tV tk p else v
def rp_leaf (k : Nat) : Bool := k == 2 || k == 5 || (8 ≤ k && k ≤ 11)
def rp_lc (k : Nat) : Int32 := if k = 2 then 0 else if k = 5 then 4 else if k = 8 then 1 else if k = 9 then 2 else if k = 10 then 3 else 5
def rp_b (r : rpR) (f : Nat → Int32 → rpR) : rpR := match r with
  | .inl e => .inl e
  | .inr x => match f x.1 x.2.1 with
    | .inl e => .inl e
    | .inr y => .inr (y.1, y.2.1, x.2.2 ++ y.2.2)
def rp_lay (i : cI) (p : Nat) (v : Int32) : rpR := .inr (p, v, [i])
/-- reading down from the top -/
def rp_unit (tk : tkT) (p : Nat) (v : Int32) : rpR := if rp_leaf (tK tk p) then .inr (tN tk p, rp_v tk v (tN tk p), [(rp_lc (tK tk p), v)]) else .inl (1, tA tk p)
def rp_div (tk : tkT) (p : Nat) (v : Int32) : rpR := if tK tk p = 2 then (if v = 0 then .inl (2, tA tk p) else .inr (tN tk p, rp_v tk v (tN tk p), [(9, v)])) else .inl (1, tA tk p)
def rp_pl (tk : tkT) : Nat → Nat → Int32 → rpR
  | 0, p, v => .inr (p, v, [])
  | n + 1, p, v => if tK tk p = 19 then rp_b (rp_b (rp_unit tk (tN tk p) (rp_v tk v (tN tk p))) (rp_lay (8, 0))) (rp_pl tk n) else if tK tk p = 20 then rp_b (rp_div tk (tN tk p) (rp_v tk v (tN tk p))) (rp_pl tk n) else .inr (p, v, [])
def rp_prod (tk : tkT) (M p : Nat) (v : Int32) : rpR := rp_b (rp_unit tk p v) (rp_pl tk M)
def rp_sl (tk : tkT) (M : Nat) : Nat → Nat → Int32 → rpR
  | 0, p, v => .inr (p, v, [])
  | n + 1, p, v => if tK tk p = 17 ∨ tK tk p = 18 then rp_b (rp_b (rp_prod tk M (tN tk p) (rp_v tk v (tN tk p))) (rp_lay (if tK tk p = 17 then 6 else 7, 0))) (rp_sl tk M n) else .inr (p, v, [])
def rp_sum (tk : tkT) (M p : Nat) (v : Int32) : rpR := rp_b (rp_prod tk M p v) (rp_sl tk M M)
def rp_el (tk : tkT) (rf : Nat → Int32 → rpR) : Nat → Nat → Int32 → rpR
  | 0, p, v => .inr (p, v, [])
  | n + 1, p, v => if tK tk p = 14 then rp_b (rp_b (rf (tN tk p) (rp_v tk v (tN tk p))) (rp_lay (14, 0))) (rp_el tk rf n) else .inr (p, v, [])
def rp_every (tk : tkT) (M : Nat) (rf : Nat → Int32 → rpR) (p : Nat) (v : Int32) : rpR := rp_b (rf p v) (rp_el tk rf M)
def rp_al (tk : tkT) (M : Nat) (rf : Nat → Int32 → rpR) : Nat → Nat → Int32 → rpR
  | 0, p, v => .inr (p, v, [])
  | n + 1, p, v => if tK tk p = 13 then rp_b (rp_b (rp_every tk M rf (tN tk p) (rp_v tk v (tN tk p))) (rp_lay (15, 0))) (rp_al tk M rf n) else .inr (p, v, [])
def rp_any (tk : tkT) (M : Nat) (rf : Nat → Int32 → rpR) (p : Nat) (v : Int32) : rpR := rp_b (rp_every tk M rf p v) (rp_al tk M rf M)
def rp_need (tk : tkT) (k p : Nat) (v : Int32) : rpR := if tK tk p = k then .inr (tN tk p, rp_v tk v (tN tk p), []) else .inl (1, tA tk p)
def rp_cmp (tk : tkT) (M p : Nat) (v : Int32) : rpR := if tK tk p = 23 ∨ tK tk p = 24 ∨ tK tk p = 25 then rp_b (rp_sum tk M (tN tk p) (rp_v tk v (tN tk p))) (rp_lay (if tK tk p = 23 then 10 else if tK tk p = 24 then 11 else 12, 0)) else .inl (1, tA tk p)
def rp_one (tk : tkT) (M : Nat) : Nat → Nat → Int32 → rpR
  | 0, _, _ => .inl (0, 0)
  | n + 1, p, v => if tK tk p = 15 then (if n = 0 then .inl (3, tA tk p) else rp_b (rp_one tk M n (tN tk p) (rp_v tk v (tN tk p))) (rp_lay (13, 0))) else if tK tk p = 21 then (if n = 0 then .inl (3, tA tk p) else rp_b (rp_any tk M (rp_one tk M n) (tN tk p) (rp_v tk v (tN tk p))) (rp_need tk 22)) else rp_b (rp_sum tk M p v) (rp_cmp tk M)
/-- reading with signs put aside -/
def ks_rank (k : Nat) : Nat := if k = 21 then 0 else if k = 13 then 1 else if k = 14 then 2 else if k = 15 then 3 else if k = 23 ∨ k = 24 ∨ k = 25 then 4 else if k = 17 ∨ k = 18 then 5 else 6
def ks_un (r : Nat) : List Nat → List cI × List Nat
  | [] => ([], [])
  | k :: W => if r ≤ ks_rank k then ((Int32.ofNat k, 0) :: (ks_un r W).1, (ks_un r W).2) else ([], k :: W)
def ks_open : List Nat → Nat
  | [] => 0
  | k :: W => (if k = 15 ∨ k = 21 then 1 else 0) + ks_open W
/-- where a condition begins; a line's subject and beginning; the lines behind -/
abbrev ksX : Type := Nat × Nat × Nat × List (Nat × Nat × Nat × Nat)
/-- where it stands; what stands next; what it would stand behind; the signs put aside; the code -/
abbrev ksT : Type := Nat × Nat × Nat × List Nat × List cI × ksX
def ks_part (tk : tkT) (p σ : Nat) (W : List Nat) (o : List cI) (x : ksX) : (Nat × Nat) ⊕ ksT := if rp_leaf (tK tk p) then .inr (tN tk p, 4, σ, W, o ++ [(Int32.ofNat (tK tk p), tV tk p)], x) else .inl (1, tA tk p)
def ks_op (tk : tkT) (p σ σ' m : Nat) (W : List Nat) (o : List cI) (x : ksX) : (Nat × Nat) ⊕ ksT := .inr (tN tk p, m, σ', tK tk p :: (ks_un (ks_rank (tK tk p)) W).2, o ++ (ks_un (ks_rank (tK tk p)) W).1, x)
def ks_l (tk : tkT) (p σ : Nat) (W : List Nat) (o : List cI) (x : ksX) : (Nat × Nat) ⊕ ksT := if tK tk p = 0 then .inr (p, 0, σ, W, o, x) else if 3 ≤ tK tk p ∧ tK tk p ≤ 7 then (if 24 ≤ x.2.2.2.length then .inl (3, tA tk p) else .inr (tN tk p, 1, 0, [], o, (x.1, tK tk p - 3, o.length, x.2.2.2))) else .inl (1, tA tk p)
def ks_d (tk : tkT) (p σ : Nat) (W : List Nat) (o : List cI) (x : ksX) : (Nat × Nat) ⊕ ksT := if tK tk p = 2 then (if tV tk p = 0 then .inl (2, tA tk p) else ks_part tk p σ W o x) else .inl (1, tA tk p)
def ks_t (tk : tkT) (p σ : Nat) (W : List Nat) (o : List cI) (x : ksX) : (Nat × Nat) ⊕ ksT := if tK tk p = 15 ∨ tK tk p = 21 then (if ks_open W < 8 then .inr (tN tk p, 3, σ, tK tk p :: W, o, x) else .inl (3, tA tk p)) else ks_part tk p 1 W o x
def ks_cl (tk : tkT) (p : Nat) (o : List cI) (x : ksX) (u : List cI × List Nat) : (Nat × Nat) ⊕ ksT := match u.2 with
  | [] => .inl (1, tA tk p)
  | _ :: W' => .inr (tN tk p, 4, 3, W', o ++ u.1, x)
def ks_en (tk : tkT) (p σ : Nat) (o : List cI) (x : ksX) (u : List cI × List Nat) : (Nat × Nat) ⊕ ksT := match u.2 with
  | [] => .inr (tN tk p, 0, σ, [], o ++ u.1, (x.1, x.2.1, x.2.2.1, x.2.2.2 ++ [(x.2.1, x.2.2.1, (if σ = 0 then o.length + u.1.length else x.1), o.length + u.1.length)]))
  | _ :: _ => .inl (1, tA tk p)
def ks_b (tk : tkT) (p σ : Nat) (W : List Nat) (o : List cI) (x : ksX) : (Nat × Nat) ⊕ ksT :=
  if (17 ≤ tK tk p ∧ tK tk p ≤ 20) ∧ σ ≠ 3 then ks_op tk p σ σ (if tK tk p = 20 then 2 else 1) W o x
  else if (23 ≤ tK tk p ∧ tK tk p ≤ 25) ∧ σ = 1 then ks_op tk p σ 2 1 W o x
  else if (tK tk p = 14 ∨ tK tk p = 13) ∧ (σ = 2 ∨ σ = 3) then ks_op tk p σ σ 3 W o x
  else if tK tk p = 22 ∧ (σ = 2 ∨ σ = 3) then ks_cl tk p o x (ks_un 1 W)
  else if tK tk p = 12 ∧ σ = 0 then .inr (tN tk p, 3, σ, (ks_un 1 W).2, o ++ (ks_un 1 W).1, (o.length + (ks_un 1 W).1.length, x.2))
  else if tK tk p = 16 ∧ σ ≠ 1 then ks_en tk p σ o x (ks_un 1 W)
  else .inl (1, tA tk p)
def ks_1 (tk : tkT) : ksT → (Nat × Nat) ⊕ ksT
  | (p, m, σ, W, o, x) => if m = 0 then ks_l tk p σ W o x else if m = 1 then ks_part tk p σ W o x else if m = 2 then ks_d tk p σ W o x else if m = 3 then ks_t tk p σ W o x else ks_b tk p σ W o x
def ks_n (tk : tkT) : Nat → ksT → (Nat × Nat) ⊕ ksT
  | 0, g => .inr g
  | n + 1, g => match ks_1 tk g with
    | .inl e => .inl e
    | .inr g' => ks_n tk n g'
def ks_to (tk : tkT) (g : ksT) (y : (Nat × Nat) ⊕ ksT) : Prop := ∃ n, ks_n tk n g = y
theorem ks_tr {tk : tkT} {g g' : ksT} {y : (Nat × Nat) ⊕ ksT} (h : ks_to tk g (.inr g')) (h' : ks_to tk g' y) : ks_to tk g y := by
  obtain ⟨n, hn⟩ := h
  obtain ⟨m, hm⟩ := h'
  refine ⟨n + m, ?_⟩
  induction n generalizing g with
  | zero =>
    have e : g = g' := Sum.inr.inj hn
    rw [e, Nat.zero_add]
    exact hm
  | succ n ih =>
    rw [Nat.succ_add]
    show (match ks_1 tk g with | .inl e => (.inl e : (Nat × Nat) ⊕ ksT) | .inr g' => ks_n tk (n + m) g') = y
    have hn : (match ks_1 tk g with | .inl e => (.inl e : (Nat × Nat) ⊕ ksT) | .inr g' => ks_n tk n g') = .inr g' := hn
    cases h1 : ks_1 tk g with
    | inl e =>
      rw [h1] at hn
      cases hn
    | inr g1 =>
      rw [h1] at hn
      exact ih hn
theorem ks_s1 {tk : tkT} {g : ksT} {y : (Nat × Nat) ⊕ ksT} (h : ks_1 tk g = y) : ks_to tk g y := by
  refine ⟨1, ?_⟩
  show (match ks_1 tk g with | .inl e => (.inl e : (Nat × Nat) ⊕ ksT) | .inr g' => ks_n tk 0 g') = y
  rw [h]
  cases y <;> rfl
/-- the one does what the other says -/
def ksM (tk : tkT) (r : rpR) (g : ksT) (post : Nat → Int32 → List cI → ksT → Prop) : Prop := match r with
  | .inl e => ks_to tk g (.inl e)
  | .inr x => ∃ g', ks_to tk g (.inr g') ∧ post x.1 x.2.1 x.2.2 g'
theorem ksM_b {tk : tkT} {r : rpR} {f : Nat → Int32 → rpR} {g : ksT} {post post' : Nat → Int32 → List cI → ksT → Prop} (h1 : ksM tk r g post') (h2 : ∀ q v c g', post' q v c g' → ksM tk (f q v) g' (fun q' v' c' g'' => post q' v' (c ++ c') g'')) : ksM tk (rp_b r f) g post := by
  cases r with
  | inl e => exact h1
  | inr x =>
    obtain ⟨q, v, c⟩ := x
    obtain ⟨g', t, p1⟩ := h1
    have k := h2 q v c g' p1
    show ksM tk (match f q v with | .inl e => (.inl e : rpR) | .inr y => .inr (y.1, y.2.1, c ++ y.2.2)) g post
    cases hf : f q v with
    | inl e =>
      rw [hf] at k
      exact ks_tr t k
    | inr y =>
      rw [hf] at k
      obtain ⟨g'', t', p2⟩ := k
      exact ⟨g'', ks_tr t t', p2⟩
theorem ksM_w {tk : tkT} {r : rpR} {g : ksT} {post post' : Nat → Int32 → List cI → ksT → Prop} (h1 : ksM tk r g post') (h2 : ∀ q v c g', post' q v c g' → post q v c g') : ksM tk r g post := by
  cases r with
  | inl e => exact h1
  | inr x =>
    obtain ⟨g', t, p1⟩ := h1
    exact ⟨g', t, h2 _ _ _ _ p1⟩
theorem ksM_s {tk : tkT} {r : rpR} {g g' : ksT} {post : Nat → Int32 → List cI → ksT → Prop} (h : ks_1 tk g = .inr g') (h1 : ksM tk r g' post) : ksM tk r g post := by
  cases r with
  | inl e => exact ks_tr (ks_s1 h) h1
  | inr x =>
    obtain ⟨g'', t, p1⟩ := h1
    exact ⟨g'', ks_tr (ks_s1 h) t, p1⟩
theorem ksM_r {tk : tkT} {g : ksT} {q : Nat} {v : Int32} {c : List cI} {post : Nat → Int32 → List cI → ksT → Prop} (h : post q v c g) : ksM tk (.inr (q, v, c)) g post := ⟨g, ⟨0, rfl⟩, h⟩
/-- the text ends -/
def tkE (tk : tkT) (L : Nat) : Prop := (∀ p, tK tk p ≠ 0 → p < tN tk p ∧ p < L) ∧ ∀ p, tK tk p ≠ 2 → tV tk p = 0
def tkV (tk : tkT) (p : Nat) (v : Int32) : Prop := tK tk p = 2 → v = tV tk p
theorem tkV_v (tk : tkT) (v : Int32) (p : Nat) : tkV tk p (rp_v tk v p) := fun h => if_pos h
def ks_em (P : List Nat) : List cI := P.map (fun k => (Int32.ofNat k, 0))
theorem ks_em_app (P Q : List Nat) : ks_em (P ++ Q) = ks_em P ++ ks_em Q := List.map_append
def ks_lo (r : Nat) : List Nat → Prop
  | [] => True
  | k :: _ => ks_rank k < r
theorem ks_un_app {r : Nat} {W : List Nat} (hW : ks_lo r W) : ∀ {P : List Nat}, (∀ k ∈ P, r ≤ ks_rank k) → ks_un r (P ++ W) = (ks_em P, W)
  | [], _ => by
    cases W with
    | nil => rfl
    | cons k W =>
      show (if r ≤ ks_rank k then _ else ([], k :: W)) = ([], k :: W)
      rw [if_neg (Nat.not_le.mpr hW)]
  | k :: P, h => by
    have i := ks_un_app (P := P) hW (fun k hk => h k (List.mem_cons_of_mem _ hk))
    show (if r ≤ ks_rank k then ((Int32.ofNat k, 0) :: (ks_un r (P ++ W)).1, (ks_un r (P ++ W)).2) else ([], k :: (P ++ W))) = _
    rw [if_pos (h k List.mem_cons_self), i]
    rfl
theorem c_xs_app : ∀ a b : List cI, c_xs (a ++ b) = c_xs a ++ c_xs b
  | [], b => rfl
  | i :: a, b => by
    show c_x i ++ c_xs (a ++ b) = c_x i ++ c_xs a ++ c_xs b
    rw [c_xs_app a b, List.append_assoc]
theorem rp_leaf_k {k : Nat} (h : rp_leaf k = true) : k = 2 ∨ k = 5 ∨ k = 8 ∨ k = 9 ∨ k = 10 ∨ k = 11 := by
  unfold rp_leaf at h
  simp only [Bool.or_eq_true, beq_iff_eq, Bool.and_eq_true, decide_eq_true_eq] at h
  omega
theorem leaf_x {k : Nat} (h : rp_leaf k = true) {v w : Int32} (hv : k = 2 → v = w) (hw : k ≠ 2 → w = 0) : c_xs [(rp_lc k, v)] = [(Int32.ofNat k, w)] := by
  rcases rp_leaf_k h with e | e | e | e | e | e <;> subst e
  · rw [hv rfl]
    rfl
  all_goals
    rw [hw (by decide)]
    rfl
def ps_unit (tk : tkT) (p σ : Nat) (W : List Nat) (o : List cI) (x : ksX) (q : Nat) (v : Int32) (c : List cI) (g' : ksT) : Prop := g' = (q, 4, σ, W, o ++ c_xs c, x) ∧ p < q ∧ tkV tk q v
theorem S_unit {tk : tkT} {L : Nat} (hE : tkE tk L) {p σ : Nat} {W : List Nat} {o : List cI} {x : ksX} {v : Int32} (hv : tkV tk p v) {g : ksT} (hg : ks_1 tk g = ks_part tk p σ W o x) : ksM tk (rp_unit tk p v) g (ps_unit tk p σ W o x) := by
  unfold rp_unit
  by_cases h : rp_leaf (tK tk p) = true
  · rw [if_pos h]
    have ne : tK tk p ≠ 0 := fun e => by
      rw [e] at h
      exact absurd h (by decide)
    refine ⟨_, ks_s1 hg |> fun t => by
      unfold ks_part at t
      rw [if_pos h] at t
      exact t, ?_, (hE.1 p ne).1, tkV_v tk v _⟩
    rw [leaf_x h hv (hE.2 p)]
  · rw [if_neg h]
    show ks_to tk g (.inl (1, tA tk p))
    refine ks_s1 ?_
    rw [hg]
    unfold ks_part
    rw [if_neg h]
def ps_pl (tk : tkT) (p σ : Nat) (M W : List Nat) (o : List cI) (x : ksX) (q : Nat) (v : Int32) (c : List cI) (g' : ksT) : Prop := ∃ M' o', g' = (q, 4, σ, M' ++ W, o', x) ∧ p ≤ q ∧ tkV tk q v ∧ tK tk q ≠ 19 ∧ tK tk q ≠ 20 ∧ (∀ k ∈ M', 6 ≤ ks_rank k) ∧ o' ++ ks_em M' = o ++ ks_em M ++ c_xs c
theorem S_pl {tk : tkT} {L : Nat} (hE : tkE tk L) {σ : Nat} (hσ : σ ≠ 3) {W : List Nat} (hW : ks_lo 6 W) {x : ksX} : ∀ n p v M o, L < n + p → tkV tk p v → (∀ k ∈ M, 6 ≤ ks_rank k) → ksM tk (rp_pl tk n p v) (p, 4, σ, M ++ W, o, x) (ps_pl tk p σ M W o x) := by
  intro n
  induction n with
  | zero =>
    intro p v M o h1 h2 h3
    have k0 : tK tk p = 0 := Classical.byContradiction (fun e => by
      have := (hE.1 p e).2
      omega)
    refine ksM_r ⟨M, o, rfl, Nat.le_refl p, h2, by omega, by omega, h3, ?_⟩
    show _ = _ ++ []
    rw [List.append_nil]
  | succ n ih =>
    intro p v M o h1 h2 h3
    unfold rp_pl
    by_cases k19 : tK tk p = 19
    · rw [if_pos k19]
      have np := (hE.1 p (by omega)).1
      refine ksM_s (g' := (tN tk p, 1, σ, 19 :: W, o ++ ks_em M, x)) ?_ ?_
      · show ks_b tk p σ (M ++ W) o x = _
        unfold ks_b
        rw [if_pos ⟨⟨by omega, by omega⟩, hσ⟩, if_neg (by omega)]
        unfold ks_op
        rw [k19, ks_un_app (show ks_lo (ks_rank 19) W from hW) h3]
      · refine ksM_b (ksM_b (S_unit hE (p := tN tk p) (tkV_v tk v _) (σ := σ) (W := 19 :: W) (o := o ++ ks_em M) (x := x) (g := (tN tk p, 1, σ, 19 :: W, o ++ ks_em M, x)) rfl) (post := fun q v c g' => g' = (q, 4, σ, 19 :: W, o ++ ks_em M ++ c_xs (c.dropLast), x) ∧ p < q ∧ tkV tk q v ∧ c = c.dropLast ++ [(8, 0)]) (fun q v c g' hp => ?_)) (fun q v c g' hp => ?_)
        · obtain ⟨a1, a2, a3⟩ := hp
          refine ksM_r ⟨?_, by omega, a3, ?_⟩
          · rw [List.dropLast_concat]
            exact a1
          · rw [List.dropLast_concat]
        · obtain ⟨a1, a2, a3, a4⟩ := hp
          subst a1
          refine ksM_w (ih q v [19] _ (by omega) a3 (fun k hk => by
            rw [List.mem_singleton.mp hk]
            decide)) (fun q' v' c' g'' hp' => ?_)
          obtain ⟨M', o', b1, b2, b3, b4, b5, b6, b7⟩ := hp'
          refine ⟨M', o', b1, by omega, b3, b4, b5, b6, ?_⟩
          rw [b7, c_xs_app, a4, c_xs_app, List.dropLast_concat]
          show _ ++ [(Int32.ofNat 19, 0)] ++ _ = _ ++ (_ ++ [(19, 0)] ++ _)
          simp only [List.append_assoc]
          rfl
    · rw [if_neg k19]
      by_cases k20 : tK tk p = 20
      · rw [if_pos k20]
        have np := (hE.1 p (by omega)).1
        refine ksM_s (g' := (tN tk p, 2, σ, 20 :: W, o ++ ks_em M, x)) ?_ ?_
        · show ks_b tk p σ (M ++ W) o x = _
          unfold ks_b
          rw [if_pos ⟨⟨by omega, by omega⟩, hσ⟩, if_pos k20]
          unfold ks_op
          rw [k20, ks_un_app (show ks_lo (ks_rank 20) W from hW) h3]
        · refine ksM_b (post' := fun q v c g' => ∃ w, c = [(9, w)] ∧ g' = (q, 4, σ, 20 :: W, o ++ ks_em M ++ [(2, w)], x) ∧ p < q ∧ tkV tk q v) ?_ (fun q v c g' hp => ?_)
          · have vv := tkV_v tk v (tN tk p)
            unfold rp_div
            by_cases k2 : tK tk (tN tk p) = 2
            · rw [if_pos k2, vv k2]
              by_cases z : tV tk (tN tk p) = 0
              · rw [if_pos z]
                refine ks_s1 ?_
                show ks_d tk (tN tk p) σ (20 :: W) (o ++ ks_em M) x = _
                unfold ks_d
                rw [if_pos k2, if_pos z]
              · rw [if_neg z]
                have np2 := (hE.1 (tN tk p) (by omega)).1
                refine ⟨_, ks_s1 (y := .inr (tN tk (tN tk p), 4, σ, 20 :: W, o ++ ks_em M ++ [(2, tV tk (tN tk p))], x)) ?_, tV tk (tN tk p), rfl, rfl, by
                  show p < tN tk (tN tk p)
                  omega, tkV_v tk _ _⟩
                show ks_d tk (tN tk p) σ (20 :: W) (o ++ ks_em M) x = _
                unfold ks_d
                rw [if_pos k2, if_neg z]
                unfold ks_part
                rw [k2]
                rfl
            · rw [if_neg k2]
              refine ks_s1 ?_
              show ks_d tk (tN tk p) σ (20 :: W) (o ++ ks_em M) x = _
              unfold ks_d
              rw [if_neg k2]
          · obtain ⟨w, a0, a1, a2, a3⟩ := hp
            subst a1
            refine ksM_w (ih q v [20] _ (by omega) a3 (fun k hk => by
              rw [List.mem_singleton.mp hk]
              decide)) (fun q' v' c' g'' hp' => ?_)
            obtain ⟨M', o', b1, b2, b3, b4, b5, b6, b7⟩ := hp'
            refine ⟨M', o', b1, by omega, b3, b4, b5, b6, ?_⟩
            rw [b7, a0, c_xs_app]
            show o ++ ks_em M ++ [(2, w)] ++ [(Int32.ofNat 20, 0)] ++ _ = _ ++ ([(2, w), (20, 0)] ++ _)
            simp only [List.append_assoc]
            rfl
      · rw [if_neg k20]
        refine ksM_r ⟨M, o, rfl, Nat.le_refl p, h2, k19, k20, h3, ?_⟩
        show _ = _ ++ []
        rw [List.append_nil]
