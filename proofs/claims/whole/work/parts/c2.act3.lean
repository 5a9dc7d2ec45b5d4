/-! ACT: lines, and all of a text. -/
abbrev rlL : Type := Nat × List cI × List cI
def rl_end (tk : tkT) (sub : Nat) (c1 c2 : List cI) (p : Nat) (v : Int32) : (Nat × Nat) ⊕ (Nat × Int32 × rlL) := match rp_need tk 16 p v with
  | .inl e => .inl e
  | .inr z => .inr (z.1, z.2.1, sub, c1, c2)
def rl_when (tk : tkT) (N sub : Nat) (c1 : List cI) (p : Nat) (v : Int32) : (Nat × Nat) ⊕ (Nat × Int32 × rlL) := if tK tk p = 12 then (match rp_any tk N (rp_one tk N 9) (tN tk p) (rp_v tk v (tN tk p)) with
  | .inl e => .inl e
  | .inr y => rl_end tk sub c1 y.2.2 y.1 y.2.1) else rl_end tk sub c1 [] p v
def rp_line (tk : tkT) (N l p : Nat) (v : Int32) : (Nat × Nat) ⊕ (Nat × Int32 × rlL) := if 3 ≤ tK tk p ∧ tK tk p ≤ 7 then (if l = 24 then .inl (3, tA tk p) else match rp_sum tk N (tN tk p) (rp_v tk v (tN tk p)) with
  | .inl e => .inl e
  | .inr x => rl_when tk N (tK tk p - 3) x.2.2 x.1 x.2.1) else .inl (1, tA tk p)
def rp_act (tk : tkT) (N : Nat) : Nat → Nat → Nat → Int32 → (Nat × Nat) ⊕ List rlL
  | 0, _, _, _ => .inr []
  | n + 1, l, p, v => if tK tk p = 0 then .inr [] else match rp_line tk N l p v with
    | .inl e => .inl e
    | .inr y => match rp_act tk N n (l + 1) y.1 y.2.1 with
      | .inl e => .inl e
      | .inr Ls => .inr (y.2.2 :: Ls)
def ks_tab : Nat → List rlL → List (Nat × Nat × Nat × Nat)
  | _, [] => []
  | b, l :: Ls => (l.1, b, b + (c_xs l.2.1).length, b + (c_xs l.2.1).length + (c_xs l.2.2).length) :: ks_tab (b + (c_xs l.2.1).length + (c_xs l.2.2).length) Ls
def ks_flat : List rlL → List cI
  | [] => []
  | l :: Ls => c_xs l.2.1 ++ c_xs l.2.2 ++ ks_flat Ls
def ps_line (p : Nat) (tk : tkT) (o : List cI) (ls : List (Nat × Nat × Nat × Nat)) (q : Nat) (v : Int32) (l : rlL) (g' : ksT) : Prop := ∃ σ' a b c, g' = (q, 0, σ', [], o ++ c_xs l.2.1 ++ c_xs l.2.2, (a, b, c, ls ++ [(l.1, o.length, o.length + (c_xs l.2.1).length, o.length + (c_xs l.2.1).length + (c_xs l.2.2).length)])) ∧ p < q ∧ tkV tk q v
def ksL (tk : tkT) (r : (Nat × Nat) ⊕ (Nat × Int32 × rlL)) (g : ksT) (post : Nat → Int32 → rlL → ksT → Prop) : Prop := match r with
  | .inl e => ks_to tk g (.inl e)
  | .inr x => ∃ g', ks_to tk g (.inr g') ∧ post x.1 x.2.1 x.2.2 g'
theorem ksL_s {tk : tkT} {r : (Nat × Nat) ⊕ (Nat × Int32 × rlL)} {g g' : ksT} {post : Nat → Int32 → rlL → ksT → Prop} (h : ks_to tk g (.inr g')) (h1 : ksL tk r g' post) : ksL tk r g post := by
  cases r with
  | inl e => exact ks_tr h h1
  | inr x =>
    obtain ⟨g'', t, p1⟩ := h1
    exact ⟨g'', ks_tr h t, p1⟩
theorem S_end {tk : tkT} {L : Nat} (hE : tkE tk L) {p0 p sub f cd : Nat} {v : Int32} {σ : Nat} {P : List Nat} {o o0 : List cI} {c1 c2 : List cI} {ls : List (Nat × Nat × Nat × Nat)} (hp : p0 < p) (hP : ∀ k ∈ P, 1 ≤ ks_rank k) (hnot : (σ = 0 ∧ (tK tk p < 17 ∨ 20 < tK tk p) ∧ tK tk p ≠ 12 ∧ c2 = []) ∨ ((σ = 3 ∨ (σ = 2 ∧ (tK tk p < 17 ∨ 20 < tK tk p))) ∧ tK tk p ≠ 14 ∧ tK tk p ≠ 13 ∧ cd = o0.length + (c_xs c1).length)) (hf : f = o0.length) (ho : o ++ ks_em P = o0 ++ c_xs c1 ++ c_xs c2) : ksL tk (rl_end tk sub c1 c2 p v) (p, 4, σ, P, o, (cd, sub, f, ls)) (ps_line p0 tk o0 ls) := by
  have un : ks_un 1 P = (ks_em P, []) := by
    have := ks_un_app (r := 1) (W := []) trivial hP
    rw [List.append_nil] at this
    exact this
  unfold rl_end rp_need
  by_cases k16 : tK tk p = 16
  · rw [if_pos k16]
    have np := (hE.1 p (by omega)).1
    have len : o.length + (ks_em P).length = o0.length + (c_xs c1).length + (c_xs c2).length := by
      rw [← List.length_append, ho, List.length_append, List.length_append]
    refine ⟨(tN tk p, 0, σ, [], o ++ ks_em P, (cd, sub, f, ls ++ [(sub, f, (if σ = 0 then o.length + (ks_em P).length else cd), o.length + (ks_em P).length)])), ks_s1 ?_, σ, cd, sub, f, ?_, by
      show p0 < tN tk p
      omega, tkV_v tk v _⟩
    · show ks_b tk p σ P o (cd, sub, f, ls) = _
      unfold ks_b
      rw [if_neg (fun z => by omega), if_neg (fun z => by omega), if_neg (fun z => by omega), if_neg (fun z => by omega), if_neg (fun z => by omega), if_pos ⟨k16, by omega⟩, un]
      rfl
    · have e2 : (if σ = 0 then o.length + (ks_em P).length else cd) = o0.length + (c_xs c1).length := by
        rcases hnot with h | h
        · rw [if_pos h.1, len, h.2.2.2]
          rfl
        · rw [if_neg (by omega), h.2.2.2]
      rw [e2, len, hf, ho]
  · rw [if_neg k16]
    refine ks_s1 ?_
    show ks_b tk p σ P o (cd, sub, f, ls) = _
    unfold ks_b
    rw [if_neg (fun z => by omega), if_neg (fun z => by omega), if_neg (fun z => by omega)]
    by_cases k22 : tK tk p = 22 ∧ (σ = 2 ∨ σ = 3)
    · rw [if_pos k22, un]
      rfl
    · rw [if_neg k22, if_neg (fun z => by omega), if_neg (fun z => k16 z.1)]
theorem S_line {tk : tkT} {L N : Nat} (hE : tkE tk L) (hN : L < N) {p σ l a b c : Nat} {W : List Nat} {o : List cI} {ls : List (Nat × Nat × Nat × Nat)} {v : Int32} (hl : ls.length = l) (hl2 : l ≤ 24) (h0 : tK tk p ≠ 0) : ksL tk (rp_line tk N l p v) (p, 0, σ, W, o, (a, b, c, ls)) (ps_line p tk o ls) := by
  unfold rp_line
  by_cases h : 3 ≤ tK tk p ∧ tK tk p ≤ 7
  · rw [if_pos h]
    by_cases h24 : l = 24
    · rw [if_pos h24]
      refine ks_s1 ?_
      show ks_l tk p σ W o (a, b, c, ls) = _
      unfold ks_l
      rw [if_neg h0, if_pos h, if_pos (by
        show 24 ≤ ls.length
        omega)]
    · rw [if_neg h24]
      have np := (hE.1 p h0).1
      refine ksL_s (g' := (tN tk p, 1, 0, [], o, (a, tK tk p - 3, o.length, ls))) (ks_s1 ?_) ?_
      · show ks_l tk p σ W o (a, b, c, ls) = _
        unfold ks_l
        rw [if_neg h0, if_pos h, if_neg (by
          show ¬ 24 ≤ ls.length
          omega)]
      · have S := S_sum hE hN (by decide) (W := []) trivial (p := tN tk p) (tkV_v tk v _) (σ := 0) (o := o) (x := (a, tK tk p - 3, o.length, ls)) (g := (tN tk p, 1, 0, [], o, (a, tK tk p - 3, o.length, ls))) rfl
        cases hr : rp_sum tk N (tN tk p) (rp_v tk v (tN tk p)) with
        | inl e =>
          rw [hr] at S
          exact S
        | inr x =>
          rw [hr] at S
          obtain ⟨q, v1, c1⟩ := x
          obtain ⟨g', t, a0, M', o', a1, a2, a3, a4, a6, a7⟩ := S
          have a0 : tN tk p < q := a0
          have a4 : tK tk q < 17 ∨ 20 < tK tk q := a4
          have a1 : g' = (q, 4, 0, M', o', (a, tK tk p - 3, o.length, ls)) := by
            rw [a1, List.append_nil]
          subst a1
          have a7 : o' ++ ks_em M' = o ++ c_xs c1 := by
            rw [a7]
            show o ++ [] ++ c_xs c1 = _
            rw [List.append_nil]
          refine ksL_s t ?_
          show ksL tk (rl_when tk N (tK tk p - 3) c1 q v1) _ _
          unfold rl_when
          by_cases k12 : tK tk q = 12
          · rw [if_pos k12]
            have nq := (hE.1 q (by omega)).1
            have un : ks_un 1 M' = (ks_em M', []) := by
              have := ks_un_app (r := 1) (W := []) trivial (P := M') (fun k hk => by
                have := a6 k hk
                omega)
              rw [List.append_nil] at this
              exact this
            have len : o'.length + (ks_em M').length = o.length + (c_xs c1).length := by
              rw [← List.length_append, a7, List.length_append]
            refine ksL_s (g' := (tN tk q, 3, 0, [], o ++ c_xs c1, (o.length + (c_xs c1).length, tK tk p - 3, o.length, ls))) (ks_s1 ?_) ?_
            · show ks_b tk q 0 M' o' (a, tK tk p - 3, o.length, ls) = _
              unfold ks_b
              rw [if_neg (fun z => by omega), if_neg (fun z => by omega), if_neg (fun z => by omega), if_neg (fun z => by omega), if_pos ⟨k12, rfl⟩, un]
              show Sum.inr (tN tk q, 3, 0, [], o' ++ ks_em M', (o'.length + (ks_em M').length, tK tk p - 3, o.length, ls)) = _
              rw [a7, len]
            · have A := S_any hE hN (S_one hE hN 9 (by omega)) (W := []) trivial rfl (p := tN tk q) (σ := 0) (o := o ++ c_xs c1) (x := (o.length + (c_xs c1).length, tK tk p - 3, o.length, ls)) (tkV_v tk v1 _)
              cases hr2 : rp_any tk N (rp_one tk N 9) (tN tk q) (rp_v tk v1 (tN tk q)) with
              | inl e =>
                rw [hr2] at A
                exact A
              | inr y =>
                rw [hr2] at A
                obtain ⟨q2, v2, c2⟩ := y
                obtain ⟨g'', t2, b0, b00, σ', P', o'', b1, b2, b3, b4, b5, b6⟩ := A
                have b2 : tN tk q < q2 := b2
                have b0 : tK tk q2 ≠ 14 := b0
                have b00 : tK tk q2 ≠ 13 := b00
                have b4 : σ' = 3 ∨ (σ' = 2 ∧ (tK tk q2 < 17 ∨ 20 < tK tk q2)) := b4
                have b1 : g'' = (q2, 4, σ', P', o'', (o.length + (c_xs c1).length, tK tk p - 3, o.length, ls)) := by
                  rw [b1, List.append_nil]
                subst b1
                have b6 : o'' ++ ks_em P' = o ++ c_xs c1 ++ c_xs c2 := by
                  rw [b6]
                  show o ++ c_xs c1 ++ [] ++ c_xs c2 = _
                  rw [List.append_nil]
                refine ksL_s t2 ?_
                show ksL tk (rl_end tk (tK tk p - 3) c1 c2 q2 v2) _ _
                exact S_end hE (by omega) b5 (Or.inr ⟨b4, b0, b00, rfl⟩) rfl b6
          · rw [if_neg k12]
            exact S_end hE (by omega) (fun k hk => by
              have := a6 k hk
              omega) (Or.inl ⟨rfl, a4, k12, rfl⟩) rfl (by rw [a7]; exact (List.append_nil _).symm)
  · rw [if_neg h]
    refine ks_s1 ?_
    show ks_l tk p σ W o (a, b, c, ls) = _
    unfold ks_l
    rw [if_neg h0, if_neg h]
def ksA (tk : tkT) (r : (Nat × Nat) ⊕ List rlL) (g : ksT) (o : List cI) (ls : List (Nat × Nat × Nat × Nat)) : Prop := match r with
  | .inl e => ks_to tk g (.inl e)
  | .inr Ls => ∃ q σ a b c W, ks_to tk g (.inr (q, 0, σ, W, o ++ ks_flat Ls, (a, b, c, ls ++ ks_tab o.length Ls))) ∧ tK tk q = 0 ∧ ls.length + Ls.length ≤ 24
theorem ksA_s {tk : tkT} {r : (Nat × Nat) ⊕ List rlL} {g g' : ksT} {o : List cI} {ls : List (Nat × Nat × Nat × Nat)} (h : ks_to tk g (.inr g')) (h1 : ksA tk r g' o ls) : ksA tk r g o ls := by
  cases r with
  | inl e => exact ks_tr h h1
  | inr x =>
    obtain ⟨q, σ, a, b, c, W, t, p1⟩ := h1
    exact ⟨q, σ, a, b, c, W, ks_tr h t, p1⟩
theorem rp_line_24 {tk : tkT} {N l p : Nat} {v : Int32} {y : Nat × Int32 × rlL} (h : rp_line tk N l p v = .inr y) : l ≠ 24 := fun e => by
  unfold rp_line at h
  by_cases c : 3 ≤ tK tk p ∧ tK tk p ≤ 7
  · rw [if_pos c, if_pos e] at h
    cases h
  · rw [if_neg c] at h
    cases h
theorem S_act {tk : tkT} {L N : Nat} (hE : tkE tk L) (hN : L < N) : ∀ n l p v σ W o a b c ls, L < n + p → ls.length = l → l ≤ 24 → ksA tk (rp_act tk N n l p v) (p, 0, σ, W, o, (a, b, c, ls)) o ls := by
  intro n
  induction n with
  | zero =>
    intro l p v σ W o a b c ls h1 h2 h3
    have k0 : tK tk p = 0 := Classical.byContradiction (fun e => by
      have := (hE.1 p e).2
      omega)
    refine ⟨p, σ, a, b, c, W, ⟨0, ?_⟩, k0, by
      show ls.length + 0 ≤ 24
      omega⟩
    show Sum.inr (p, 0, σ, W, o, (a, b, c, ls)) = Sum.inr (p, 0, σ, W, o ++ [], (a, b, c, ls ++ []))
    rw [List.append_nil, List.append_nil]
  | succ n ih =>
    intro l p v σ W o a b c ls h1 h2 h3
    unfold rp_act
    by_cases h0 : tK tk p = 0
    · rw [if_pos h0]
      refine ⟨p, σ, a, b, c, W, ⟨0, ?_⟩, h0, by
        show ls.length + 0 ≤ 24
        omega⟩
      show Sum.inr (p, 0, σ, W, o, (a, b, c, ls)) = Sum.inr (p, 0, σ, W, o ++ [], (a, b, c, ls ++ []))
      rw [List.append_nil, List.append_nil]
    · rw [if_neg h0]
      have S := S_line hE hN (σ := σ) (a := a) (b := b) (c := c) (W := W) (o := o) (v := v) h2 h3 h0
      cases hr : rp_line tk N l p v with
      | inl e =>
        rw [hr] at S
        exact S
      | inr y =>
        have l24 := rp_line_24 hr
        rw [hr] at S
        obtain ⟨q, v1, li⟩ := y
        obtain ⟨g', t, σ', a', b', c', e1, e2, e3⟩ := S
        have e2 : p < q := e2
        subst e1
        refine ksA_s t ?_
        have I := ih (l + 1) q v1 σ' [] (o ++ c_xs li.2.1 ++ c_xs li.2.2) a' b' c' (ls ++ [(li.1, o.length, o.length + (c_xs li.2.1).length, o.length + (c_xs li.2.1).length + (c_xs li.2.2).length)]) (by omega) (by rw [List.length_append, h2]; rfl) (by omega)
        show ksA tk (match rp_act tk N n (l + 1) q v1 with | .inl e => (.inl e : (Nat × Nat) ⊕ List rlL) | .inr Ls => .inr (li :: Ls)) _ o ls
        cases hr2 : rp_act tk N n (l + 1) q v1 with
        | inl e =>
          rw [hr2] at I
          exact I
        | inr Ls =>
          rw [hr2] at I
          obtain ⟨q2, σ2, a2, b2, c2, W2, t2, k2, m2⟩ := I
          refine ⟨q2, σ2, a2, b2, c2, W2, ?_, k2, ?_⟩
          · have eo : o ++ c_xs li.2.1 ++ c_xs li.2.2 ++ ks_flat Ls = o ++ ks_flat (li :: Ls) := by
              show _ = o ++ (c_xs li.2.1 ++ c_xs li.2.2 ++ ks_flat Ls)
              simp only [List.append_assoc]
            have et : ls ++ [(li.1, o.length, o.length + (c_xs li.2.1).length, o.length + (c_xs li.2.1).length + (c_xs li.2.2).length)] ++ ks_tab (o ++ c_xs li.2.1 ++ c_xs li.2.2).length Ls = ls ++ ks_tab o.length (li :: Ls) := by
              rw [List.append_assoc]
              congr 1
              show _ = _ :: ks_tab _ Ls
              rw [List.length_append, List.length_append]
              rfl
            rw [eo, et] at t2
            exact t2
          · rw [List.length_append] at m2
            have m2 : ls.length + 1 + Ls.length ≤ 24 := m2
            show ls.length + (Ls.length + 1) ≤ 24
            omega
/-! what is read is good code -/
def rpG (r : rpR) (P : List cI → Prop) : Prop := match r with
  | .inl _ => True
  | .inr x => P x.2.2
theorem rpG_b {r : rpR} {f : Nat → Int32 → rpR} {P Q R : List cI → Prop} (h1 : rpG r P) (h2 : ∀ q v, rpG (f q v) Q) (h : ∀ c c', P c → Q c' → R (c ++ c')) : rpG (rp_b r f) R := by
  cases r with
  | inl e => trivial
  | inr x =>
    obtain ⟨q, v, c⟩ := x
    have k := h2 q v
    show rpG (match f q v with | .inl e => (.inl e : rpR) | .inr y => .inr (y.1, y.2.1, c ++ y.2.2)) R
    cases hf : f q v with
    | inl e => trivial
    | inr y =>
      rw [hf] at k
      exact h c y.2.2 h1 k
def gd (b : Nat) (c : List cI) : Prop := (∀ h, h ≤ b → c_hts c h = some (h + 1)) ∧ ∀ F st, ∃ a, c_exs F c st = a :: st
def gl (b : Nat) (c : List cI) : Prop := (∀ h, h ≤ b → c_hts c (h + 1) = some (h + 1)) ∧ ∀ F a st, ∃ a', c_exs F c (a :: st) = a' :: st
def g2 (b : Nat) (i : cI) : Prop := (∀ h, h ≤ b → c_hts [i] (h + 2) = some (h + 1)) ∧ ∀ F a a' st, ∃ a'', c_exs F [i] (a :: a' :: st) = a'' :: st
def gb (b : Nat) (c : List cI) : Prop := (∀ h, h ≤ b → c_hts c h = some (h + 1)) ∧ ∀ F st, ∃ a, (a = 0 ∨ a = 1) ∧ c_exs F c st = a :: st
def gbl (b : Nat) (c : List cI) : Prop := (∀ h, h ≤ b → c_hts c (h + 1) = some (h + 1)) ∧ ∀ F a st, (a = 0 ∨ a = 1) → ∃ a', (a' = 0 ∨ a' = 1) ∧ c_exs F c (a :: st) = a' :: st
theorem c_hts_app : ∀ (c c' : List cI) (d : Nat), c_hts (c ++ c') d = (c_hts c d).bind (c_hts c')
  | [], c', d => rfl
  | i :: c, c', d => by
    show (c_ht i d).bind (c_hts (c ++ c')) = ((c_ht i d).bind (c_hts c)).bind (c_hts c')
    cases c_ht i d with
    | none => rfl
    | some e => exact c_hts_app c c' e
theorem c_exs_app (F : Nat → Int32) : ∀ (c c' : List cI) (st : List Int32), c_exs F (c ++ c') st = c_exs F c' (c_exs F c st)
  | [], _, _ => rfl
  | i :: c, c', st => c_exs_app F c c' (c_ex F i st)
theorem gd_gl {b b' : Nat} {c c' : List cI} (h : gd b c) (h' : gl b' c') (hb : b' ≤ b) : gd b' (c ++ c') := by
  refine ⟨fun k hk => ?_, fun F st => ?_⟩
  · rw [c_hts_app, h.1 k (by omega)]
    exact h'.1 k hk
  · obtain ⟨a, ea⟩ := h.2 F st
    rw [c_exs_app, ea]
    exact h'.2 F a st
theorem gl_nil (b : Nat) : gl b [] := ⟨fun _ _ => rfl, fun _ a _ => ⟨a, rfl⟩⟩
theorem gbl_nil (b : Nat) : gbl b [] := ⟨fun _ _ => rfl, fun _ a _ h => ⟨a, h, rfl⟩⟩
theorem gl_gl {b : Nat} {c c' : List cI} (h : gl b c) (h' : gl b c') : gl b (c ++ c') := by
  refine ⟨fun k hk => ?_, fun F a st => ?_⟩
  · rw [c_hts_app, h.1 k hk]
    exact h'.1 k hk
  · obtain ⟨a', ea⟩ := h.2 F a st
    rw [c_exs_app, ea]
    exact h'.2 F a' st
theorem gd_op {b : Nat} {c : List cI} {i : cI} (h : gd (b + 1) c) (h' : g2 b i) : gl b (c ++ [i]) := by
  refine ⟨fun k hk => ?_, fun F a st => ?_⟩
  · rw [c_hts_app, h.1 (k + 1) (by omega)]
    exact h'.1 k hk
  · obtain ⟨a', ea⟩ := h.2 F (a :: st)
    rw [c_exs_app, ea]
    exact h'.2 F a' a st
theorem g2_op {k w : Int32} (h : k = 6 ∨ k = 7 ∨ k = 8 ∨ k = 10 ∨ k = 11 ∨ k = 12 ∨ k = 14 ∨ k = 15) (b : Nat) : g2 b (k, w) := by
  refine ⟨fun d _ => ?_, fun F a a' st => ?_⟩
  · have nk : ¬ (0 ≤ k ∧ k < 6) ∧ ¬ k = 9 ∧ ¬ k = 13 ∧ (6 ≤ k ∧ k ≤ 15) := by
      rcases h with e | e | e | e | e | e | e | e <;> subst e <;> decide
    have e : c_ht (k, w) (d + 2) = some (d + 1) := by
      unfold c_ht
      simp only [nk.1, nk.2.1, nk.2.2.1, nk.2.2.2, and_self, if_true, if_false]
      rw [if_pos (by omega)]
      rfl
    show (c_ht (k, w) (d + 2)).bind (c_hts []) = _
    rw [e]
    rfl
  · refine ⟨c_both k a' a, ?_⟩
    show c_ex F (k, w) (a :: a' :: st) = _
    unfold c_ex
    rcases h with e | e | e | e | e | e | e | e <;> subst e <;> rfl
theorem gR_unit (tk : tkT) (p : Nat) (v : Int32) : rpG (rp_unit tk p v) (gd 63) := by
  unfold rp_unit
  by_cases h : rp_leaf (tK tk p) = true
  · rw [if_pos h]
    show gd 63 [(rp_lc (tK tk p), v)]
    generalize tK tk p = k at h
    have r : 0 ≤ rp_lc k ∧ rp_lc k < 6 := by
      rcases rp_leaf_k h with e | e | e | e | e | e <;> subst e <;> decide
    refine ⟨fun d hd => ?_, fun F st => ?_⟩
    · show (c_ht (rp_lc k, v) d).bind (c_hts []) = _
      unfold c_ht
      rw [if_pos r, if_pos (by omega)]
      rfl
    · refine ⟨if rp_lc k = 0 then v else F (ix (rp_lc k)), ?_⟩
      show c_ex F (rp_lc k, v) st = _
      unfold c_ex
      rw [if_pos r.2]
  · rw [if_neg h]
    trivial
theorem gR_div (tk : tkT) (p : Nat) (v : Int32) : rpG (rp_div tk p v) (gl 62) := by
  unfold rp_div
  by_cases h : tK tk p = 2
  · rw [if_pos h]
    by_cases z : v = 0
    · rw [if_pos z]
      trivial
    · rw [if_neg z]
      show gl 62 [(9, v)]
      refine ⟨fun d hd => ?_, fun F a st => ⟨a / v, rfl⟩⟩
      show (c_ht (9, v) (d + 1)).bind (c_hts []) = _
      unfold c_ht
      rw [if_neg (fun z => absurd z.2 (show ¬ ((9 : Int32) < 6) by decide)), if_pos rfl, if_pos ⟨by omega, by omega, z⟩]
      rfl
  · rw [if_neg h]
    trivial
theorem gR_pl (tk : tkT) : ∀ n p v, rpG (rp_pl tk n p v) (gl 62) := by
  intro n
  induction n with
  | zero => exact fun p v => gl_nil 62
  | succ n ih =>
    intro p v
    unfold rp_pl
    by_cases h : tK tk p = 19
    · rw [if_pos h]
      exact rpG_b (rpG_b (gR_unit tk _ _) (fun q w => (rfl : ([((8 : Int32), (0 : Int32))] : List cI) = [((8 : Int32), (0 : Int32))])) (Q := fun c => c = [((8 : Int32), (0 : Int32))]) (R := gl 62) (fun c c' h1 h2 => by
        rw [h2]
        exact gd_op h1 (g2_op (by decide) 62))) (fun q w => ih q w) (fun c c' h1 h2 => gl_gl h1 h2)
    · rw [if_neg h]
      by_cases h2 : tK tk p = 20
      · rw [if_pos h2]
        exact rpG_b (gR_div tk _ _) (fun q w => ih q w) (fun c c' h1 h2 => gl_gl h1 h2)
      · rw [if_neg h2]
        exact gl_nil 62
theorem gR_prod (tk : tkT) (N p : Nat) (v : Int32) : rpG (rp_prod tk N p v) (gd 62) := rpG_b (gR_unit tk p v) (fun q w => gR_pl tk N q w) (fun _ _ h1 h2 => gd_gl h1 h2 (by omega))
theorem gR_sl (tk : tkT) (N : Nat) : ∀ n p v, rpG (rp_sl tk N n p v) (gl 61) := by
  intro n
  induction n with
  | zero => exact fun p v => gl_nil 61
  | succ n ih =>
    intro p v
    unfold rp_sl
    by_cases h : tK tk p = 17 ∨ tK tk p = 18
    · rw [if_pos h]
      refine rpG_b (rpG_b (gR_prod tk N _ _) (fun q w => (rfl : ([((if tK tk p = 17 then 6 else 7 : Int32), (0 : Int32))] : List cI) = [((if tK tk p = 17 then 6 else 7 : Int32), (0 : Int32))])) (Q := fun c => c = [((if tK tk p = 17 then 6 else 7 : Int32), (0 : Int32))]) (R := gl 61) (fun c c' h1 h2 => ?_)) (fun q w => ih q w) (fun c c' h1 h2 => gl_gl h1 h2)
      rw [h2]
      refine gd_op h1 (g2_op ?_ 61)
      split
      · exact Or.inl rfl
      · exact Or.inr (Or.inl rfl)
    · rw [if_neg h]
      exact gl_nil 61
theorem gR_sum (tk : tkT) (N p : Nat) (v : Int32) : rpG (rp_sum tk N p v) (gd 61) := rpG_b (gR_prod tk N p v) (fun q w => gR_sl tk N N q w) (fun _ _ h1 h2 => gd_gl h1 h2 (by omega))
theorem gb_op {b : Nat} {c : List cI} {i : cI} (h : gb (b + 1) c) (h' : g2 b i) (hv : ∀ F a a' st, (a = 0 ∨ a = 1) → (a' = 0 ∨ a' = 1) → ∃ a'', (a'' = 0 ∨ a'' = 1) ∧ c_exs F [i] (a :: a' :: st) = a'' :: st) : gbl b (c ++ [i]) := by
  refine ⟨fun k hk => ?_, fun F a st ha => ?_⟩
  · rw [c_hts_app, h.1 (k + 1) (by omega)]
    exact h'.1 k hk
  · obtain ⟨a', ha', ea⟩ := h.2 F (a :: st)
    rw [c_exs_app, ea]
    exact hv F a' a st ha' ha
theorem gb_gbl {b b' : Nat} {c c' : List cI} (h : gb b c) (h' : gbl b' c') (hb : b' ≤ b) : gb b' (c ++ c') := by
  refine ⟨fun k hk => ?_, fun F st => ?_⟩
  · rw [c_hts_app, h.1 k (by omega)]
    exact h'.1 k hk
  · obtain ⟨a, ha, ea⟩ := h.2 F st
    rw [c_exs_app, ea]
    exact h'.2 F a st ha
theorem gbl_gbl {b : Nat} {c c' : List cI} (h : gbl b c) (h' : gbl b c') : gbl b (c ++ c') := by
  refine ⟨fun k hk => ?_, fun F a st ha => ?_⟩
  · rw [c_hts_app, h.1 k hk]
    exact h'.1 k hk
  · obtain ⟨a', ha', ea⟩ := h.2 F a st ha
    rw [c_exs_app, ea]
    exact h'.2 F a' st ha'
theorem gR_cmp (tk : tkT) (N p : Nat) (v : Int32) : rpG (rp_b (rp_sum tk N p v) (rp_cmp tk N)) (gb 60) := by
  refine rpG_b (gR_sum tk N p v) (Q := fun c' => ∃ c i, c' = c ++ [i] ∧ gd 61 c ∧ (i = (10, 0) ∨ i = (11, 0) ∨ i = ((12 : Int32), (0 : Int32)))) (fun q w => ?_) (fun c c' h1 h2 => ?_)
  · unfold rp_cmp
    by_cases h : tK tk q = 23 ∨ tK tk q = 24 ∨ tK tk q = 25
    · rw [if_pos h]
      refine rpG_b (gR_sum tk N _ _) (Q := fun c => c = [((if tK tk q = 23 then 10 else if tK tk q = 24 then 11 else 12 : Int32), (0 : Int32))]) (fun q w => rfl) (fun c c' h1 h2 => ⟨c, ((if tK tk q = 23 then 10 else if tK tk q = 24 then 11 else 12 : Int32), (0 : Int32)), congrArg (fun z => c ++ z) h2, h1, ?_⟩)
      split
      · exact Or.inl rfl
      · split
        · exact Or.inr (Or.inl rfl)
        · exact Or.inr (Or.inr rfl)
    · rw [if_neg h]
      trivial
  · obtain ⟨c2, i, e, g, hi⟩ := h2
    rw [e, ← List.append_assoc]
    have g2i : g2 60 i := by
      rcases hi with e | e | e <;> rw [e] <;> exact g2_op (by decide) 60
    refine ⟨fun k hk => ?_, fun F st => ?_⟩
    · rw [c_hts_app, c_hts_app, h1.1 k (by omega)]
      show ((c_hts c2 (k + 1)).bind _) = _
      rw [g.1 (k + 1) (by omega)]
      exact g2i.1 k hk
    · obtain ⟨a, ea⟩ := h1.2 F st
      obtain ⟨a', ea'⟩ := g.2 F (a :: st)
      rw [c_exs_app, c_exs_app, ea, ea']
      rcases hi with e | e | e <;> rw [e]
      · refine ⟨if a' ≤ a then 0 else 1, ?_, rfl⟩
        split
        · exact Or.inl rfl
        · exact Or.inr rfl
      · refine ⟨if a = a' then 1 else 0, ?_, rfl⟩
        split
        · exact Or.inr rfl
        · exact Or.inl rfl
      · refine ⟨if a ≤ a' then 0 else 1, ?_, rfl⟩
        split
        · exact Or.inl rfl
        · exact Or.inr rfl
theorem gR_el (tk : tkT) {b : Nat} {rf : Nat → Int32 → rpR} (hr : ∀ p v, rpG (rf p v) (gb (b + 1))) : ∀ n p v, rpG (rp_el tk rf n p v) (gbl b) := by
  intro n
  induction n with
  | zero => exact fun p v => gbl_nil b
  | succ n ih =>
    intro p v
    unfold rp_el
    by_cases h : tK tk p = 14
    · rw [if_pos h]
      refine rpG_b (rpG_b (hr _ _) (Q := fun c => c = [((14 : Int32), (0 : Int32))]) (R := gbl b) (fun q w => rfl) (fun c c' h1 h2 => ?_)) (fun q w => ih q w) (fun c c' h1 h2 => gbl_gbl h1 h2)
      rw [h2]
      refine gb_op h1 (g2_op (by decide) b) (fun F a a' st ha ha' => ⟨a' &&& a, ?_, rfl⟩)
      rcases ha with e | e <;> rcases ha' with e' | e' <;> subst e e' <;> decide
    · rw [if_neg h]
      exact gbl_nil b
theorem gR_every (tk : tkT) (N : Nat) {b : Nat} {rf : Nat → Int32 → rpR} (hr : ∀ p v, rpG (rf p v) (gb (b + 1))) (p : Nat) (v : Int32) : rpG (rp_every tk N rf p v) (gb b) := rpG_b (hr p v) (fun q w => gR_el tk hr N q w) (fun _ _ h1 h2 => gb_gbl h1 h2 (by omega))
theorem gR_al (tk : tkT) (N : Nat) {b : Nat} {rf : Nat → Int32 → rpR} (hr : ∀ p v, rpG (rf p v) (gb (b + 2))) : ∀ n p v, rpG (rp_al tk N rf n p v) (gbl b) := by
  intro n
  induction n with
  | zero => exact fun p v => gbl_nil b
  | succ n ih =>
    intro p v
    unfold rp_al
    by_cases h : tK tk p = 13
    · rw [if_pos h]
      refine rpG_b (rpG_b (gR_every tk N hr _ _) (Q := fun c => c = [((15 : Int32), (0 : Int32))]) (R := gbl b) (fun q w => rfl) (fun c c' h1 h2 => ?_)) (fun q w => ih q w) (fun c c' h1 h2 => gbl_gbl h1 h2)
      rw [h2]
      refine gb_op h1 (g2_op (by decide) b) (fun F a a' st ha ha' => ⟨a' ||| a, ?_, rfl⟩)
      rcases ha with e | e <;> rcases ha' with e' | e' <;> subst e e' <;> decide
    · rw [if_neg h]
      exact gbl_nil b
theorem gR_any (tk : tkT) (N : Nat) {b : Nat} {rf : Nat → Int32 → rpR} (hr : ∀ p v, rpG (rf p v) (gb (b + 2))) (p : Nat) (v : Int32) : rpG (rp_any tk N rf p v) (gb b) := rpG_b (gR_every tk N (b := b + 1) hr p v) (fun q w => gR_al tk N hr N q w) (fun _ _ h1 h2 => gb_gbl h1 h2 (by omega))
theorem gR_one (tk : tkT) (N : Nat) : ∀ n, n ≤ 9 → ∀ p v, rpG (rp_one tk N n p v) (gb (62 - 2 * n)) := by
  intro n
  induction n with
  | zero => exact fun _ p v => trivial
  | succ n ih =>
    intro hn p v
    unfold rp_one
    by_cases k15 : tK tk p = 15
    · rw [if_pos k15]
      by_cases n0 : n = 0
      · rw [if_pos n0]
        trivial
      · rw [if_neg n0]
        refine rpG_b (ih (by omega) _ _) (Q := fun c => c = [((13 : Int32), (0 : Int32))]) (fun q w => rfl) (fun c c' h1 h2 => ?_)
        rw [h2]
        refine ⟨fun k hk => ?_, fun F st => ?_⟩
        · rw [c_hts_app, h1.1 k (by omega)]
          show (c_ht (13, 0) (k + 1)).bind (c_hts []) = _
          unfold c_ht
          rw [if_neg (fun z => absurd z.2 (show ¬ ((13 : Int32) < 6) by decide)), if_neg (show ¬ ((13 : Int32) = 9) by decide), if_pos rfl, if_pos (by omega)]
          rfl
        · obtain ⟨a, ha, ea⟩ := h1.2 F st
          rw [c_exs_app, ea]
          refine ⟨1 - a, ?_, rfl⟩
          rcases ha with e | e <;> subst e <;> decide
    · rw [if_neg k15]
      by_cases k21 : tK tk p = 21
      · rw [if_pos k21]
        by_cases n0 : n = 0
        · rw [if_pos n0]
          trivial
        · rw [if_neg n0]
          refine rpG_b (gR_any tk N (b := 62 - 2 * (n + 1)) (fun p v => by
            have := ih (by omega) p v
            rw [show 62 - 2 * n = 62 - 2 * (n + 1) + 2 by omega] at this
            exact this) _ _) (Q := fun c => c = []) (fun q w => ?_) (fun c c' h1 h2 => by
            rw [h2, List.append_nil]
            exact h1)
          unfold rp_need
          split
          · exact rfl
          · trivial
      · rw [if_neg k21]
        have g := gR_cmp tk N p v
        cases hr : rp_b (rp_sum tk N p v) (rp_cmp tk N) with
        | inl e => trivial
        | inr x =>
          rw [hr] at g
          have g : gb 60 x.2.2 := g
          exact ⟨fun k hk => g.1 k (by omega), g.2⟩
/-- a line that is read is a good line -/
def rl_W (l : rlL) : Prop := c_hts l.2.1 0 = some 1 ∧ (l.2.2 = [] ∨ (c_hts l.2.2 0 = some 1 ∧ ∀ F, c_val F l.2.2 = 0 ∨ c_val F l.2.2 = 1)) ∧ l.1 ≤ 4
theorem gR_line {tk : tkT} {N l p : Nat} {v : Int32} {y : Nat × Int32 × rlL} (h : rp_line tk N l p v = .inr y) : rl_W y.2.2 := by
  unfold rp_line at h
  by_cases h1 : 3 ≤ tK tk p ∧ tK tk p ≤ 7
  · rw [if_pos h1] at h
    by_cases h2 : l = 24
    · rw [if_pos h2] at h
      cases h
    · rw [if_neg h2] at h
      have gs := gR_sum tk N (tN tk p) (rp_v tk v (tN tk p))
      cases hr : rp_sum tk N (tN tk p) (rp_v tk v (tN tk p)) with
      | inl e =>
        rw [hr] at h
        cases h
      | inr x =>
        rw [hr] at h gs
        have gs : gd 61 x.2.2 := gs
        have s1 : c_hts x.2.2 0 = some 1 := gs.1 0 (by omega)
        have fin : ∀ c2 q w, (c2 = [] ∨ (c_hts c2 0 = some 1 ∧ ∀ F, c_val F c2 = 0 ∨ c_val F c2 = 1)) → rl_end tk (tK tk p - 3) x.2.2 c2 q w = .inr y → rl_W y.2.2 := fun c2 q w hc he => by
          unfold rl_end at he
          cases hn : rp_need tk 16 q w with
          | inl e =>
            rw [hn] at he
            cases he
          | inr z =>
            rw [hn] at he
            have he : (Sum.inr (z.1, z.2.1, tK tk p - 3, x.2.2, c2) : (Nat × Nat) ⊕ (Nat × Int32 × rlL)) = .inr y := he
            have e := Sum.inr.inj he
            rw [← e]
            exact ⟨s1, hc, by
              show tK tk p - 3 ≤ 4
              omega⟩
        have h : rl_when tk N (tK tk p - 3) x.2.2 x.1 x.2.1 = .inr y := h
        unfold rl_when at h
        by_cases k12 : tK tk x.1 = 12
        · rw [if_pos k12] at h
          have ga := gR_any tk N (b := 42) (fun p v => gR_one tk N 9 (by omega) p v) (tN tk x.1) (rp_v tk x.2.1 (tN tk x.1))
          cases hr2 : rp_any tk N (rp_one tk N 9) (tN tk x.1) (rp_v tk x.2.1 (tN tk x.1)) with
          | inl e =>
            rw [hr2] at h
            cases h
          | inr z =>
            rw [hr2] at h ga
            have ga : gb 42 z.2.2 := ga
            refine fin z.2.2 z.1 z.2.1 (Or.inr ⟨ga.1 0 (by omega), fun F => ?_⟩) h
            obtain ⟨a, ha, ea⟩ := ga.2 F []
            unfold c_val
            rw [ea]
            exact ha
        · rw [if_neg k12] at h
          exact fin [] x.1 x.2.1 (Or.inl rfl) h
  · rw [if_neg h1] at h
    cases h
theorem gR_act_W {tk : tkT} {N : Nat} : ∀ n l p v Ls, rp_act tk N n l p v = .inr Ls → ∀ y ∈ Ls, rl_W y := by
  intro n
  induction n with
  | zero =>
    intro l p v Ls h y hy
    have e := Sum.inr.inj (show (Sum.inr [] : (Nat × Nat) ⊕ List rlL) = .inr Ls from h)
    rw [← e] at hy
    exact absurd hy (by simp)
  | succ n ih =>
    intro l p v Ls h y hy
    unfold rp_act at h
    by_cases h0 : tK tk p = 0
    · rw [if_pos h0] at h
      have e := Sum.inr.inj h
      rw [← e] at hy
      exact absurd hy (by simp)
    · rw [if_neg h0] at h
      cases hr : rp_line tk N l p v with
      | inl e =>
        rw [hr] at h
        cases h
      | inr x =>
        rw [hr] at h
        have h : (match rp_act tk N n (l + 1) x.1 x.2.1 with | .inl e => (.inl e : (Nat × Nat) ⊕ List rlL) | .inr Ls => .inr (x.2.2 :: Ls)) = .inr Ls := h
        cases hr2 : rp_act tk N n (l + 1) x.1 x.2.1 with
        | inl e =>
          rw [hr2] at h
          cases h
        | inr Ls' =>
          rw [hr2] at h
          have e := Sum.inr.inj h
          rw [← e] at hy
          rcases List.mem_cons.mp hy with q | q
          · rw [q]
            exact gR_line hr
          · exact ih (l + 1) x.1 x.2.1 Ls' hr2 y q
