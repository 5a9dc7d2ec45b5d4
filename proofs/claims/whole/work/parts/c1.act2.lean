/-! ACT: sums, comparisons, conditions. -/
theorem S_prod {tk : tkT} {L N : Nat} (hE : tkE tk L) (hN : L < N) {p σ : Nat} (hσ : σ ≠ 3) {W : List Nat} (hW : ks_lo 6 W) {o : List cI} {x : ksX} {v : Int32} (hv : tkV tk p v) {g : ksT} (hg : ks_1 tk g = ks_part tk p σ W o x) : ksM tk (rp_prod tk N p v) g (fun q v' c g' => p < q ∧ ps_pl tk p σ [] W o x q v' c g') := by
  unfold rp_prod
  refine ksM_b (S_unit hE hv hg) (fun q v c g' hp => ?_)
  obtain ⟨a1, a2, a3⟩ := hp
  subst a1
  refine ksM_w (S_pl hE hσ hW N q v [] (o ++ c_xs c) (by omega) a3 (fun k hk => absurd hk (by simp))) (fun q' v' c' g'' hp' => ?_)
  obtain ⟨M', o', b1, b2, b3, b4, b5, b6, b7⟩ := hp'
  refine ⟨by omega, M', o', b1, by omega, b3, b4, b5, b6, ?_⟩
  rw [b7, c_xs_app]
  simp only [List.append_assoc]
  rfl
def ps_sl (tk : tkT) (p σ : Nat) (M W : List Nat) (o : List cI) (x : ksX) (q : Nat) (v : Int32) (c : List cI) (g' : ksT) : Prop := ∃ M' o', g' = (q, 4, σ, M' ++ W, o', x) ∧ p ≤ q ∧ tkV tk q v ∧ (tK tk q < 17 ∨ 20 < tK tk q) ∧ (∀ k ∈ M', 5 ≤ ks_rank k) ∧ o' ++ ks_em M' = o ++ ks_em M ++ c_xs c
theorem ks_lo_m {r r' : Nat} (h : r ≤ r') {W : List Nat} (hW : ks_lo r W) : ks_lo r' W := by
  cases W with
  | nil => trivial
  | cons k W => exact Nat.lt_of_lt_of_le hW h
theorem S_sl {tk : tkT} {L N : Nat} (hE : tkE tk L) (hN : L < N) {σ : Nat} (hσ : σ ≠ 3) {W : List Nat} (hW : ks_lo 5 W) {x : ksX} : ∀ n p v M o, L < n + p → tkV tk p v → tK tk p ≠ 19 → tK tk p ≠ 20 → (∀ k ∈ M, 5 ≤ ks_rank k) → ksM tk (rp_sl tk N n p v) (p, 4, σ, M ++ W, o, x) (ps_sl tk p σ M W o x) := by
  intro n
  induction n with
  | zero =>
    intro p v M o h1 h2 _ _ h3
    have k0 : tK tk p = 0 := Classical.byContradiction (fun e => by
      have := (hE.1 p e).2
      omega)
    refine ksM_r ⟨M, o, rfl, Nat.le_refl p, h2, by omega, h3, ?_⟩
    show _ = _ ++ []
    rw [List.append_nil]
  | succ n ih =>
    intro p v M o h1 h2 k19 k20 h3
    unfold rp_sl
    by_cases k17 : tK tk p = 17 ∨ tK tk p = 18
    · rw [if_pos k17]
      have np := (hE.1 p (by omega)).1
      have rk : ks_rank (tK tk p) = 5 := by
        rcases k17 with e | e <;> rw [e] <;> rfl
      refine ksM_s (g' := (tN tk p, 1, σ, tK tk p :: W, o ++ ks_em M, x)) ?_ ?_
      · show ks_b tk p σ (M ++ W) o x = _
        unfold ks_b
        rw [if_pos ⟨⟨by omega, by omega⟩, hσ⟩, if_neg (by omega)]
        unfold ks_op
        rw [rk, ks_un_app hW h3]
      · have hW2 : ks_lo 6 (tK tk p :: W) := by
          show ks_rank (tK tk p) < 6
          omega
        refine ksM_b (ksM_b (S_prod hE hN hσ hW2 (p := tN tk p) (tkV_v tk v _) (o := o ++ ks_em M) (x := x) (g := (tN tk p, 1, σ, tK tk p :: W, o ++ ks_em M, x)) rfl) (post := fun q v c g' => ∃ M' o', g' = (q, 4, σ, M' ++ W, o', x) ∧ p < q ∧ tkV tk q v ∧ tK tk q ≠ 19 ∧ tK tk q ≠ 20 ∧ (∀ k ∈ M', 5 ≤ ks_rank k) ∧ o' ++ ks_em M' = o ++ ks_em M ++ c_xs c) (fun q v c g' hp => ?_)) (fun q v c g' hp => ?_)
        · obtain ⟨a0, M', o', a1, a2, a3, a4, a5, a6, a7⟩ := hp
          refine ksM_r ⟨M' ++ [tK tk p], o', ?_, by omega, a3, a4, a5, fun k hk => ?_, ?_⟩
          · rw [a1, List.append_assoc]
            rfl
          · rcases List.mem_append.mp hk with q | q
            · exact Nat.le_of_lt (a6 k q)
            · rw [List.mem_singleton.mp q]
              omega
          · have lx : c_xs [((if tK tk p = 17 then 6 else 7 : Int32), (0 : Int32))] = ks_em [tK tk p] := by
              rcases k17 with e | e <;> rw [e] <;> rfl
            rw [ks_em_app, ← List.append_assoc, a7, c_xs_app, lx]
            simp only [List.append_assoc]
            rfl
        · obtain ⟨M', o', a1, a2, a3, a4, a5, a6, a7⟩ := hp
          subst a1
          refine ksM_w (ih q v M' o' (by omega) a3 a4 a5 a6) (fun q' v' c' g'' hp' => ?_)
          obtain ⟨M'', o'', b1, b2, b3, b4, b6, b7⟩ := hp'
          refine ⟨M'', o'', b1, by omega, b3, b4, b6, ?_⟩
          rw [b7, a7, c_xs_app]
          simp only [List.append_assoc]
    · rw [if_neg k17]
      refine ksM_r ⟨M, o, rfl, Nat.le_refl p, h2, by omega, h3, ?_⟩
      show _ = _ ++ []
      rw [List.append_nil]
theorem S_sum {tk : tkT} {L N : Nat} (hE : tkE tk L) (hN : L < N) {p σ : Nat} (hσ : σ ≠ 3) {W : List Nat} (hW : ks_lo 5 W) {o : List cI} {x : ksX} {v : Int32} (hv : tkV tk p v) {g : ksT} (hg : ks_1 tk g = ks_part tk p σ W o x) : ksM tk (rp_sum tk N p v) g (fun q v' c g' => p < q ∧ ps_sl tk p σ [] W o x q v' c g') := by
  unfold rp_sum
  refine ksM_b (S_prod hE hN hσ (ks_lo_m (by omega) hW) hv hg) (fun q v c g' hp => ?_)
  obtain ⟨a0, M', o', a1, a2, a3, a4, a5, a6, a7⟩ := hp
  subst a1
  refine ksM_w (S_sl hE hN hσ hW N q v M' o' (by omega) a3 a4 a5 (fun k hk => Nat.le_of_lt (a6 k hk))) (fun q' v' c' g'' hp' => ?_)
  obtain ⟨M'', o'', b1, b2, b3, b4, b6, b7⟩ := hp'
  refine ⟨by omega, M'', o'', b1, by omega, b3, b4, b6, ?_⟩
  rw [b7, a7, c_xs_app]
  simp only [List.append_assoc]
/-- behind a comparison or a bracket -/
def ps_one (tk : tkT) (r p : Nat) (P W : List Nat) (o : List cI) (x : ksX) (q : Nat) (v : Int32) (c : List cI) (g' : ksT) : Prop := ∃ σ' P' o', g' = (q, 4, σ', P' ++ W, o', x) ∧ p < q ∧ tkV tk q v ∧ (σ' = 3 ∨ (σ' = 2 ∧ (tK tk q < 17 ∨ 20 < tK tk q))) ∧ (∀ k ∈ P', r ≤ ks_rank k) ∧ o' ++ ks_em P' = o ++ ks_em P ++ c_xs c
theorem S_cmp {tk : tkT} {L N : Nat} (hE : tkE tk L) (hN : L < N) {p : Nat} {W : List Nat} (hW : ks_lo 4 W) {o : List cI} {x : ksX} {v : Int32} (hv : tkV tk p v) {g : ksT} (hg : ks_1 tk g = ks_part tk p 1 W o x) : ksM tk (rp_b (rp_sum tk N p v) (rp_cmp tk N)) g (ps_one tk 4 p [] W o x) := by
  refine ksM_b (S_sum hE hN (by decide) (ks_lo_m (by omega) hW) hv hg) (fun q v c g' hp => ?_)
  obtain ⟨a0, M', o', a1, a2, a3, a4, a6, a7⟩ := hp
  subst a1
  unfold rp_cmp
  by_cases h : tK tk q = 23 ∨ tK tk q = 24 ∨ tK tk q = 25
  · rw [if_pos h]
    have nq := (hE.1 q (by omega)).1
    have rk : ks_rank (tK tk q) = 4 := by
      rcases h with e | e | e <;> rw [e] <;> rfl
    refine ksM_s (g' := (tN tk q, 1, 2, tK tk q :: W, o' ++ ks_em M', x)) ?_ ?_
    · show ks_b tk q 1 (M' ++ W) o' x = _
      unfold ks_b
      rw [if_neg (fun z => by omega), if_pos ⟨⟨by omega, by omega⟩, rfl⟩]
      unfold ks_op
      rw [rk, ks_un_app hW (fun k hk => Nat.le_of_lt (a6 k hk))]
    · have hW2 : ks_lo 5 (tK tk q :: W) := by
        show ks_rank (tK tk q) < 5
        omega
      refine ksM_b (S_sum hE hN (by decide) hW2 (p := tN tk q) (tkV_v tk v _) (σ := 2) (o := o' ++ ks_em M') (x := x) (g := (tN tk q, 1, 2, tK tk q :: W, o' ++ ks_em M', x)) rfl) (fun q' v' c' g'' hp' => ?_)
      obtain ⟨b0, M'', o'', b1, b2, b3, b4, b6, b7⟩ := hp'
      have lx : c_xs [((if tK tk q = 23 then 10 else if tK tk q = 24 then 11 else 12 : Int32), (0 : Int32))] = ks_em [tK tk q] := by
        rcases h with e | e | e <;> rw [e] <;> rfl
      refine ksM_r ⟨2, M'' ++ [tK tk q], o'', ?_, by omega, b3, Or.inr ⟨rfl, b4⟩, fun k hk => ?_, ?_⟩
      · rw [b1, List.append_assoc]
        rfl
      · rcases List.mem_append.mp hk with z | z
        · exact Nat.le_of_lt (b6 k z)
        · rw [List.mem_singleton.mp z]
          omega
      · rw [ks_em_app, ← List.append_assoc, b7, c_xs_app, c_xs_app, lx, a7]
        simp only [List.append_assoc]
        rfl
  · rw [if_neg h]
    refine ks_s1 ?_
    show ks_b tk q 1 (M' ++ W) o' x = _
    unfold ks_b
    rw [if_neg (fun z => by omega), if_neg (fun z => by omega), if_neg (fun z => by omega), if_neg (fun z => by omega), if_neg (fun z => by omega), if_neg (fun z => absurd rfl z.2)]
/-- what one condition does at a depth -/
def S_oneH (tk : tkT) (N n : Nat) : Prop := ∀ p v σ W o x, tkV tk p v → ks_lo 4 W → ks_open W + n = 9 → ksM tk (rp_one tk N n p v) (p, 3, σ, W, o, x) (ps_one tk 3 p [] W o x)
theorem ks_open_op {k : Nat} (h : k ≠ 15 ∧ k ≠ 21) (W : List Nat) : ks_open (k :: W) = ks_open W := by
  show (if k = 15 ∨ k = 21 then 1 else 0) + ks_open W = ks_open W
  rw [if_neg (by omega), Nat.zero_add]
theorem S_el {tk : tkT} {L N n : Nat} (hE : tkE tk L) (hI : S_oneH tk N n) {W : List Nat} (hW : ks_lo 2 W) (hO : ks_open W + n = 9) {x : ksX} : ∀ m p v σ P o, L < m + p → tkV tk p v → (σ = 3 ∨ (σ = 2 ∧ (tK tk p < 17 ∨ 20 < tK tk p))) → (∀ k ∈ P, 2 ≤ ks_rank k) → ksM tk (rp_el tk (rp_one tk N n) m p v) (p, 4, σ, P ++ W, o, x) (fun q v' c g' => tK tk q ≠ 14 ∧ ∃ σ' P' o', g' = (q, 4, σ', P' ++ W, o', x) ∧ p ≤ q ∧ tkV tk q v' ∧ (σ' = 3 ∨ (σ' = 2 ∧ (tK tk q < 17 ∨ 20 < tK tk q))) ∧ (∀ k ∈ P', 2 ≤ ks_rank k) ∧ o' ++ ks_em P' = o ++ ks_em P ++ c_xs c) := by
  intro m
  induction m with
  | zero =>
    intro p v σ P o h1 h2 h3 h4
    have k0 : tK tk p = 0 := Classical.byContradiction (fun e => by
      have := (hE.1 p e).2
      omega)
    refine ksM_r ⟨by omega, σ, P, o, rfl, Nat.le_refl p, h2, h3, h4, ?_⟩
    show _ = _ ++ []
    rw [List.append_nil]
  | succ m ih =>
    intro p v σ P o h1 h2 h3 h4
    unfold rp_el
    by_cases k14 : tK tk p = 14
    · rw [if_pos k14]
      have np := (hE.1 p (by omega)).1
      refine ksM_s (g' := (tN tk p, 3, σ, 14 :: W, o ++ ks_em P, x)) ?_ ?_
      · show ks_b tk p σ (P ++ W) o x = _
        unfold ks_b
        rw [if_neg (fun z => by omega), if_neg (fun z => by omega), if_pos ⟨Or.inl k14, by omega⟩]
        unfold ks_op
        rw [k14, ks_un_app (show ks_lo (ks_rank 14) W from hW) h4]
      · refine ksM_b (ksM_b (hI (tN tk p) _ σ (14 :: W) (o ++ ks_em P) x (tkV_v tk v _) (by
          show ks_rank 14 < 4
          decide) (by rw [ks_open_op (by decide)]; exact hO)) (post := fun q v c g' => ∃ σ' P' o', g' = (q, 4, σ', P' ++ W, o', x) ∧ p < q ∧ tkV tk q v ∧ (σ' = 3 ∨ (σ' = 2 ∧ (tK tk q < 17 ∨ 20 < tK tk q))) ∧ (∀ k ∈ P', 2 ≤ ks_rank k) ∧ o' ++ ks_em P' = o ++ ks_em P ++ c_xs c) (fun q v c g' hp => ?_)) (fun q v c g' hp => ?_)
        · obtain ⟨σ', P', o', a1, a2, a3, a4, a5, a6⟩ := hp
          refine ksM_r ⟨σ', P' ++ [14], o', ?_, by omega, a3, a4, fun k hk => ?_, ?_⟩
          · rw [a1, List.append_assoc]
            rfl
          · rcases List.mem_append.mp hk with z | z
            · exact Nat.le_of_lt (a5 k z)
            · rw [List.mem_singleton.mp z]
              decide
          · rw [ks_em_app, ← List.append_assoc, a6, c_xs_app]
            simp only [List.append_assoc]
            rfl
        · obtain ⟨σ', P', o', a1, a2, a3, a4, a5, a6⟩ := hp
          subst a1
          refine ksM_w (ih q v σ' P' o' (by omega) a3 a4 a5) (fun q' v' c' g'' hp' => ?_)
          obtain ⟨b0, σ'', P'', o'', b1, b2, b3, b4, b5, b6⟩ := hp'
          refine ⟨b0, σ'', P'', o'', b1, by omega, b3, b4, b5, ?_⟩
          rw [b6, a6, c_xs_app]
          simp only [List.append_assoc]
    · rw [if_neg k14]
      refine ksM_r ⟨k14, σ, P, o, rfl, Nat.le_refl p, h2, h3, h4, ?_⟩
      show _ = _ ++ []
      rw [List.append_nil]
theorem S_every {tk : tkT} {L N n : Nat} (hE : tkE tk L) (hN : L < N) (hI : S_oneH tk N n) {W : List Nat} (hW : ks_lo 2 W) (hO : ks_open W + n = 9) {x : ksX} {p σ : Nat} {v : Int32} (hv : tkV tk p v) {o : List cI} : ksM tk (rp_every tk N (rp_one tk N n) p v) (p, 3, σ, W, o, x) (fun q v' c g' => tK tk q ≠ 14 ∧ ps_one tk 2 p [] W o x q v' c g') := by
  unfold rp_every
  refine ksM_b (hI p v σ W o x hv (ks_lo_m (by omega) hW) hO) (fun q v c g' hp => ?_)
  obtain ⟨σ', P', o', a1, a2, a3, a4, a5, a6⟩ := hp
  subst a1
  refine ksM_w (S_el hE hI hW hO N q v σ' P' o' (by omega) a3 a4 (fun k hk => Nat.le_of_lt (a5 k hk))) (fun q' v' c' g'' hp' => ?_)
  obtain ⟨b0, σ'', P'', o'', b1, b2, b3, b4, b5, b6⟩ := hp'
  refine ⟨b0, σ'', P'', o'', b1, by omega, b3, b4, b5, ?_⟩
  rw [b6, a6, c_xs_app]
  simp only [List.append_assoc]
theorem S_al {tk : tkT} {L N n : Nat} (hE : tkE tk L) (hN : L < N) (hI : S_oneH tk N n) {W : List Nat} (hW : ks_lo 1 W) (hO : ks_open W + n = 9) {x : ksX} : ∀ m p v σ P o, L < m + p → tkV tk p v → tK tk p ≠ 14 → (σ = 3 ∨ (σ = 2 ∧ (tK tk p < 17 ∨ 20 < tK tk p))) → (∀ k ∈ P, 1 ≤ ks_rank k) → ksM tk (rp_al tk N (rp_one tk N n) m p v) (p, 4, σ, P ++ W, o, x) (fun q v' c g' => tK tk q ≠ 14 ∧ tK tk q ≠ 13 ∧ ∃ σ' P' o', g' = (q, 4, σ', P' ++ W, o', x) ∧ p ≤ q ∧ tkV tk q v' ∧ (σ' = 3 ∨ (σ' = 2 ∧ (tK tk q < 17 ∨ 20 < tK tk q))) ∧ (∀ k ∈ P', 1 ≤ ks_rank k) ∧ o' ++ ks_em P' = o ++ ks_em P ++ c_xs c) := by
  intro m
  induction m with
  | zero =>
    intro p v σ P o h1 h2 _ h3 h4
    have k0 : tK tk p = 0 := Classical.byContradiction (fun e => by
      have := (hE.1 p e).2
      omega)
    refine ksM_r ⟨by omega, by omega, σ, P, o, rfl, Nat.le_refl p, h2, h3, h4, ?_⟩
    show _ = _ ++ []
    rw [List.append_nil]
  | succ m ih =>
    intro p v σ P o h1 h2 h14 h3 h4
    unfold rp_al
    by_cases k13 : tK tk p = 13
    · rw [if_pos k13]
      have np := (hE.1 p (by omega)).1
      refine ksM_s (g' := (tN tk p, 3, σ, 13 :: W, o ++ ks_em P, x)) ?_ ?_
      · show ks_b tk p σ (P ++ W) o x = _
        unfold ks_b
        rw [if_neg (fun z => by omega), if_neg (fun z => by omega), if_pos ⟨Or.inr k13, by omega⟩]
        unfold ks_op
        rw [k13, ks_un_app (show ks_lo (ks_rank 13) W from hW) h4]
      · refine ksM_b (ksM_b (S_every hE hN hI (W := 13 :: W) (by
          show ks_rank 13 < 2
          decide) (by rw [ks_open_op (by decide)]; exact hO) (p := tN tk p) (σ := σ) (o := o ++ ks_em P) (x := x) (tkV_v tk v _)) (post := fun q v c g' => tK tk q ≠ 14 ∧ ∃ σ' P' o', g' = (q, 4, σ', P' ++ W, o', x) ∧ p < q ∧ tkV tk q v ∧ (σ' = 3 ∨ (σ' = 2 ∧ (tK tk q < 17 ∨ 20 < tK tk q))) ∧ (∀ k ∈ P', 1 ≤ ks_rank k) ∧ o' ++ ks_em P' = o ++ ks_em P ++ c_xs c) (fun q v c g' hp => ?_)) (fun q v c g' hp => ?_)
        · obtain ⟨a0, σ', P', o', a1, a2, a3, a4, a5, a6⟩ := hp
          refine ksM_r ⟨a0, σ', P' ++ [13], o', ?_, by omega, a3, a4, fun k hk => ?_, ?_⟩
          · rw [a1, List.append_assoc]
            rfl
          · rcases List.mem_append.mp hk with z | z
            · exact Nat.le_of_lt (a5 k z)
            · rw [List.mem_singleton.mp z]
              decide
          · rw [ks_em_app, ← List.append_assoc, a6, c_xs_app]
            simp only [List.append_assoc]
            rfl
        · obtain ⟨a0, σ', P', o', a1, a2, a3, a4, a5, a6⟩ := hp
          subst a1
          refine ksM_w (ih q v σ' P' o' (by omega) a3 a0 a4 a5) (fun q' v' c' g'' hp' => ?_)
          obtain ⟨b0, b00, σ'', P'', o'', b1, b2, b3, b4, b5, b6⟩ := hp'
          refine ⟨b0, b00, σ'', P'', o'', b1, by omega, b3, b4, b5, ?_⟩
          rw [b6, a6, c_xs_app]
          simp only [List.append_assoc]
    · rw [if_neg k13]
      refine ksM_r ⟨h14, k13, σ, P, o, rfl, Nat.le_refl p, h2, h3, h4, ?_⟩
      show _ = _ ++ []
      rw [List.append_nil]
theorem S_any {tk : tkT} {L N n : Nat} (hE : tkE tk L) (hN : L < N) (hI : S_oneH tk N n) {W : List Nat} (hW : ks_lo 1 W) (hO : ks_open W + n = 9) {x : ksX} {p σ : Nat} {v : Int32} (hv : tkV tk p v) {o : List cI} : ksM tk (rp_any tk N (rp_one tk N n) p v) (p, 3, σ, W, o, x) (fun q v' c g' => tK tk q ≠ 14 ∧ tK tk q ≠ 13 ∧ ps_one tk 1 p [] W o x q v' c g') := by
  unfold rp_any
  refine ksM_b (S_every hE hN hI (ks_lo_m (by omega) hW) hO hv) (fun q v c g' hp => ?_)
  obtain ⟨a0, σ', P', o', a1, a2, a3, a4, a5, a6⟩ := hp
  subst a1
  refine ksM_w (S_al hE hN hI hW hO N q v σ' P' o' (by omega) a3 a0 a4 (fun k hk => Nat.le_of_lt (a5 k hk))) (fun q' v' c' g'' hp' => ?_)
  obtain ⟨b0, b00, σ'', P'', o'', b1, b2, b3, b4, b5, b6⟩ := hp'
  refine ⟨b0, b00, σ'', P'', o'', b1, by omega, b3, b4, b5, ?_⟩
  rw [b6, a6, c_xs_app]
  simp only [List.append_assoc]
theorem S_one {tk : tkT} {L N : Nat} (hE : tkE tk L) (hN : L < N) : ∀ n, 1 ≤ n → S_oneH tk N n := by
  intro n
  induction n with
  | zero => exact fun h => absurd h (by omega)
  | succ n ih =>
    intro _ p v σ W o x hv hW hO
    unfold rp_one
    by_cases k15 : tK tk p = 15
    · rw [if_pos k15]
      have np := (hE.1 p (by omega)).1
      by_cases n0 : n = 0
      · rw [if_pos n0]
        refine ks_s1 ?_
        show ks_t tk p σ W o x = _
        unfold ks_t
        rw [if_pos (Or.inl k15), if_neg (by omega)]
      · rw [if_neg n0]
        refine ksM_s (g' := (tN tk p, 3, σ, 15 :: W, o, x)) ?_ ?_
        · show ks_t tk p σ W o x = _
          unfold ks_t
          rw [if_pos (Or.inl k15), if_pos (by omega), k15]
        · refine ksM_b (ih (by omega) (tN tk p) _ σ (15 :: W) o x (tkV_v tk v _) (by
            show ks_rank 15 < 4
            decide) (by
            show (if 15 = 15 ∨ 15 = 21 then 1 else 0) + ks_open W + n = 9
            rw [if_pos (Or.inl rfl)]
            omega)) (fun q v c g' hp => ?_)
          obtain ⟨σ', P', o', a1, a2, a3, a4, a5, a6⟩ := hp
          refine ksM_r ⟨σ', P' ++ [15], o', ?_, by omega, a3, a4, fun k hk => ?_, ?_⟩
          · rw [a1, List.append_assoc]
            rfl
          · rcases List.mem_append.mp hk with z | z
            · exact a5 k z
            · rw [List.mem_singleton.mp z]
              decide
          · rw [ks_em_app, ← List.append_assoc, a6, c_xs_app]
            simp only [List.append_assoc]
            rfl
    · rw [if_neg k15]
      by_cases k21 : tK tk p = 21
      · rw [if_pos k21]
        have np := (hE.1 p (by omega)).1
        by_cases n0 : n = 0
        · rw [if_pos n0]
          refine ks_s1 ?_
          show ks_t tk p σ W o x = _
          unfold ks_t
          rw [if_pos (Or.inr k21), if_neg (by omega)]
        · rw [if_neg n0]
          refine ksM_s (g' := (tN tk p, 3, σ, 21 :: W, o, x)) ?_ ?_
          · show ks_t tk p σ W o x = _
            unfold ks_t
            rw [if_pos (Or.inr k21), if_pos (by omega), k21]
          · refine ksM_b (S_any hE hN (ih (by omega)) (W := 21 :: W) (by
              show ks_rank 21 < 1
              decide) (by
              show (if 21 = 15 ∨ 21 = 21 then 1 else 0) + ks_open W + n = 9
              rw [if_pos (Or.inr rfl)]
              omega) (p := tN tk p) (σ := σ) (o := o) (x := x) (tkV_v tk v _)) (fun q v c g' hp => ?_)
            obtain ⟨b0, b00, σ', P', o', a1, a2, a3, a4, a5, a6⟩ := hp
            subst a1
            have un : ks_un 1 (P' ++ 21 :: W) = (ks_em P', 21 :: W) := ks_un_app (W := 21 :: W) (by
              show ks_rank 21 < 1
              decide) a5
            unfold rp_need
            by_cases k22 : tK tk q = 22
            · rw [if_pos k22]
              have nq := (hE.1 q (by omega)).1
              refine ksM_s (g' := (tN tk q, 4, 3, W, o' ++ ks_em P', x)) ?_ (ksM_r ⟨3, [], o' ++ ks_em P', rfl, by omega, tkV_v tk v _, Or.inl rfl, fun k hk => absurd hk (by simp), ?_⟩)
              · show ks_b tk q σ' (P' ++ 21 :: W) o' x = _
                unfold ks_b
                rw [if_neg (fun z => by omega), if_neg (fun z => by omega), if_neg (fun z => by omega), if_pos ⟨k22, by omega⟩, un]
                rfl
              · rw [a6, c_xs_app]
                simp only [List.append_assoc]
                rfl
            · rw [if_neg k22]
              refine ks_s1 ?_
              show ks_b tk q σ' (P' ++ 21 :: W) o' x = _
              unfold ks_b
              rw [if_neg (fun z => by omega), if_neg (fun z => by omega), if_neg (fun z => by omega), if_neg (fun z => by omega), if_neg (fun z => by omega)]
              by_cases k16 : tK tk q = 16 ∧ σ' ≠ 1
              · rw [if_pos k16, un]
                rfl
              · rw [if_neg k16]
      · rw [if_neg k21]
        refine ksM_w (S_cmp hE hN hW (o := o) (x := x) hv (g := (p, 3, σ, W, o, x)) (by
          show ks_t tk p σ W o x = _
          unfold ks_t
          rw [if_neg (by omega)])) (fun q v c g' hp => ?_)
        obtain ⟨σ', P', o', a1, a2, a3, a4, a5, a6⟩ := hp
        exact ⟨σ', P', o', a1, a2, a3, a4, fun k hk => Nat.le_of_lt (a5 k hk), a6⟩
