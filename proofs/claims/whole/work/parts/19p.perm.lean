/-! OTHER NAMES FOR THE CELLS: a run of the small machine is one too when its cells bear other names. -/
def rn_v (π : Nat → Nat) : Value → Value
  | .ref x => .ref (π x)
  | v => v
def rn_R (π : Nat → Nat) (n0 : Nat) (σ τ : mm_S) : Prop := n0 ≤ σ.1.length ∧ τ.1.length = σ.1.length ∧ (∀ x, mm_kd τ.1 (π x) = mm_kd σ.1 x) ∧ (∀ x j, τ.2.1 (π x) j = σ.2.1 x j) ∧ (∀ x j, τ.2.2.1 (π x) j = σ.2.2.1 x j) ∧ (∀ x j, τ.2.2.2 (π x) j = (σ.2.2.2 x j).map π) ∧ mm_sz τ.1 = mm_sz σ.1
def rn_C (π : Nat → Nat) (n0 : Nat) (c d : mm_C) : Prop := d.1 = c.1 ∧ d.2.1 = c.2.1.map (Option.map (rn_v π)) ∧ d.2.2.1 = c.2.2.1.map (rn_v π) ∧ rn_R π n0 c.2.2.2 d.2.2.2
def rn_A (π : Nat → Nat) (n0 : Nat) (r q : mm_R) : Prop := q.1 = r.1.map (rn_v π) ∧ rn_R π n0 r.2 q.2
def rn_O (π : Nat → Nat) (n0 : Nat) : mm_C ⊕ (mm_R ⊕ (Nat × List Value × mm_C)) → mm_C ⊕ (mm_R ⊕ (Nat × List Value × mm_C)) → Prop
  | .inl c, .inl d => rn_C π n0 c d
  | .inr (.inl r), .inr (.inl q) => rn_A π n0 r q
  | .inr (.inr (i, as, c)), .inr (.inr (i', as', d)) => i' = i ∧ as' = as.map (rn_v π) ∧ rn_C π n0 c d
  | _, _ => False
/-- names that are another's, those from n0 on their own -/
def rn_P (π : Nat → Nat) (n0 : Nat) : Prop := (∀ a b, π a = π b → a = b) ∧ (∀ a, n0 ≤ a → π a = a) ∧ (∀ a, a < n0 → π a < n0) ∧ n0 ≤ 1000000
section RN
variable {π : Nat → Nat} {n0 : Nat} {X : Nat → Nat × (Nat → Int32)} {Y : Nat → List Int32}
theorem rn_blt (hP : rn_P π n0) (x : Nat) : Nat.blt (π x) 1000000 = Nat.blt x 1000000 := by
  obtain ⟨h1, h2, h3, h4⟩ := hP
  rcases Nat.lt_or_ge x n0 with h | h
  · have := h3 x h
    rw [(Nat.blt_eq).mpr (show π x < 1000000 by omega), (Nat.blt_eq).mpr (show x < 1000000 by omega)]
  · rw [h2 x h]
theorem rn_big (hP : rn_P π n0) {x : Nat} (h : Nat.blt x 1000000 = false) : π x = x := by
  refine hP.2.1 x ?_
  have h4 := hP.2.2.2
  rcases Nat.lt_or_ge x 1000000 with q | q
  · rw [(Nat.blt_eq).mpr q] at h; cases h
  · omega
theorem rn_two (hP : rn_P π n0) {x : Nat} (h : Nat.ble 2000000 x = true) : π x = x := by
  refine hP.2.1 x ?_
  have h4 := hP.2.2.2
  have := Nat.le_of_ble_eq_true h
  omega
theorem rn_arr (hP : rn_P π n0) {σ τ : mm_S} (hR : rn_R π n0 σ τ) (x t : Nat) : mm_arr τ.1 (π x) t = mm_arr σ.1 x t := by
  unfold mm_arr
  rw [rn_blt hP, hR.2.2.1]
theorem rn_obj (hP : rn_P π n0) {σ τ : mm_S} (hR : rn_R π n0 σ τ) (x t : Nat) : mm_obj τ.1 (π x) t = mm_obj σ.1 x t := by
  unfold mm_obj
  rw [rn_blt hP, hR.2.2.1]
theorem rn_head (hP : rn_P π n0) {σ τ : mm_S} (hR : rn_R π n0 σ τ) (t k : Nat) (as : List Value) : mm_head t k τ.1 (as.map (rn_v π)) = mm_head t k σ.1 as := by
  unfold mm_head
  split
  · rcases as with _ | ⟨v, r⟩
    · rfl
    · cases v <;> try rfl
      rename_i x
      show (Nat.blt (π x) 1000000 && (match mm_kd τ.1 (π x) with
        | some (.inl ci) => Nat.beq ci k
        | _ => false)) = _
      rw [rn_blt hP, hR.2.2.1]
      rfl
  · rfl
  · rfl
  · rcases as with _ | ⟨v, r⟩
    · rfl
    · cases v <;> rfl
theorem rn_cat (v : Value) : mm_cat (rn_v π v) = mm_cat v := by cases v <;> rfl
theorem rn_cats : ∀ (l : List Value), mm_cats (l.map (rn_v π)) = mm_cats l
  | [] => rfl
  | v :: r => by
    show mm_cat (rn_v π v) + mm_cats (r.map (rn_v π)) = mm_cat v + mm_cats r
    rw [rn_cat, rn_cats r]
theorem rn_long (o : Option Value) : mm_long (o.map (rn_v π)) = mm_long o := by
  rcases o with _ | v
  · rfl
  · cases v <;> rfl
theorem rn_cut (o : Option Value) (n : Nat) : mm_cut (o.map (rn_v π)) n = (mm_cut o n).map (rn_v π) := by
  cases n with
  | zero =>
    unfold mm_cut
    rw [rn_long]
    cases mm_long o <;> rfl
  | succ n => rfl
theorem rn_get : ∀ (l : List (Option Value)) (i : Nat), mm_get (l.map (Option.map (rn_v π))) i = (mm_get l i).map (rn_v π)
  | [], i => by cases i <;> rfl
  | a :: r, 0 => rfl
  | a :: r, i + 1 => rn_get r i
theorem rn_set1 : ∀ (l : List (Option Value)) (i : Nat) (v : Value), mm_set1 (l.map (Option.map (rn_v π))) i (rn_v π v) = (mm_set1 l i v).map (Option.map (rn_v π))
  | [], i, v => by cases i <;> rfl
  | a :: r, 0, v => rfl
  | a :: r, i + 1, v => by
    show mm_cut (a.map (rn_v π)) i :: mm_set1 (r.map (Option.map (rn_v π))) i (rn_v π v) = (mm_cut a i).map (rn_v π) :: (mm_set1 r i v).map (Option.map (rn_v π))
    rw [rn_cut, rn_set1 r i v]
theorem rn_set2 : ∀ (l : List (Option Value)) (i : Nat) (v : Value), mm_set2 (l.map (Option.map (rn_v π))) i (rn_v π v) = (mm_set2 l i v).map (Option.map (rn_v π))
  | [], i, v => by cases i <;> rfl
  | [a], 0, v => rfl
  | a :: b :: r, 0, v => rfl
  | [a], i + 1, v => by
    show mm_cut (a.map (rn_v π)) i :: mm_set2 (([] : List (Option Value)).map (Option.map (rn_v π))) i (rn_v π v) = (mm_cut a i).map (rn_v π) :: (mm_set2 [] i v).map (Option.map (rn_v π))
    rw [rn_cut, rn_set2 [] i v]
  | a :: b :: r, i + 1, v => by
    show mm_cut (a.map (rn_v π)) i :: mm_set2 ((b :: r).map (Option.map (rn_v π))) i (rn_v π v) = (mm_cut a i).map (rn_v π) :: (mm_set2 (b :: r) i v).map (Option.map (rn_v π))
    rw [rn_cut, rn_set2 (b :: r) i v]
theorem rn_pops : ∀ (n : Nat) (acc st as rest : List Value), mm_pops n acc st = some (as, rest) → mm_pops n (acc.map (rn_v π)) (st.map (rn_v π)) = some (as.map (rn_v π), rest.map (rn_v π))
  | 0, acc, st, as, rest, h => by
    have h : some (acc, st) = some (as, rest) := by
      cases st <;> exact h
    cases h
    cases st <;> rfl
  | n + 1, acc, [], as, rest, h => by cases h
  | n + 1, acc, v :: st, as, rest, h => rn_pops n (v :: acc) st as rest h
theorem rn_sl : ∀ (l : List Value), mm_sl (l.map (rn_v π)) = (mm_sl l).map (Option.map (rn_v π))
  | [] => rfl
  | v :: r => by
    have e := rn_long (π := π) (some v)
    have ih := rn_sl r
    cases h : mm_long (some v) with
    | true =>
      rw [h] at e
      show mm_sl (rn_v π v :: r.map (rn_v π)) = _
      unfold mm_sl
      rw [show mm_long (some (rn_v π v)) = true from e, h, ih]
      rfl
    | false =>
      rw [h] at e
      show mm_sl (rn_v π v :: r.map (rn_v π)) = _
      unfold mm_sl
      rw [show mm_long (some (rn_v π v)) = false from e, h, ih]
      rfl
theorem rn_ent (n : Nat) (l : List Value) : mm_ent n (l.map (rn_v π)) = (mm_ent n l).map (Option.map (rn_v π)) := by
  unfold mm_ent mm_pad
  rw [rn_sl, List.map_append, List.length_map, List.map_replicate]
  rfl
theorem rn_I (hP : rn_P π n0) {σ τ : mm_S} (hR : rn_R π n0 σ τ) (k j : Nat) (y : Int32) : rn_R π n0 (mm_setI σ k j y) (mm_setI τ (π k) j y) := by
  obtain ⟨h1, h2, h3, h4, h5, h6, h7⟩ := hR
  refine ⟨h1, h2, h3, fun x i => ?_, h5, h6, h7⟩
  show (if π x = π k ∧ i = j then y else τ.2.1 (π x) i) = if x = k ∧ i = j then y else σ.2.1 x i
  by_cases c : x = k ∧ i = j
  · rw [if_pos c, if_pos ⟨by rw [c.1], c.2⟩]
  · rw [if_neg c, if_neg (fun q => c ⟨hP.1 _ _ q.1, q.2⟩), h4]
theorem rn_L (hP : rn_P π n0) {σ τ : mm_S} (hR : rn_R π n0 σ τ) (k j : Nat) (y : Int64) : rn_R π n0 (mm_setL σ k j y) (mm_setL τ (π k) j y) := by
  obtain ⟨h1, h2, h3, h4, h5, h6, h7⟩ := hR
  refine ⟨h1, h2, h3, h4, fun x i => ?_, h6, h7⟩
  show (if π x = π k ∧ i = j then y else τ.2.2.1 (π x) i) = if x = k ∧ i = j then y else σ.2.2.1 x i
  by_cases c : x = k ∧ i = j
  · rw [if_pos c, if_pos ⟨by rw [c.1], c.2⟩]
  · rw [if_neg c, if_neg (fun q => c ⟨hP.1 _ _ q.1, q.2⟩), h5]
theorem rn_W (hP : rn_P π n0) {σ τ : mm_S} (hR : rn_R π n0 σ τ) (k j y : Nat) : rn_R π n0 (mm_setR σ k j (some y)) (mm_setR τ (π k) j (some (π y))) := by
  obtain ⟨h1, h2, h3, h4, h5, h6, h7⟩ := hR
  refine ⟨h1, h2, h3, h4, h5, fun x i => ?_, h7⟩
  show (if π x = π k ∧ i = j then some (π y) else τ.2.2.2 (π x) i) = (if x = k ∧ i = j then some y else σ.2.2.2 x i).map π
  by_cases c : x = k ∧ i = j
  · rw [if_pos c, if_pos ⟨by rw [c.1], c.2⟩]; rfl
  · rw [if_neg c, if_neg (fun q => c ⟨hP.1 _ _ q.1, q.2⟩), h6]
theorem rn_app : ∀ (K : List mm_Kd) (kd : mm_Kd) (x : Nat), mm_kd (K ++ [kd]) x = if x = K.length then some kd else mm_kd K x
  | [], kd, 0 => rfl
  | [], kd, x + 1 => by
    rw [if_neg (show ¬ x + 1 = ([] : List mm_Kd).length from Nat.succ_ne_zero x)]
    rfl
  | a :: K, kd, 0 => by
    rw [if_neg (show ¬ 0 = (a :: K).length from (Nat.succ_ne_zero _).symm)]
    rfl
  | a :: K, kd, x + 1 => by
    show mm_kd (K ++ [kd]) x = if x + 1 = K.length + 1 then some kd else mm_kd K x
    rw [rn_app K kd x]
    by_cases c : x = K.length
    · rw [if_pos c, if_pos (by omega)]
    · rw [if_neg c, if_neg (by omega)]
theorem rn_N (hP : rn_P π n0) {σ τ : mm_S} (hR : rn_R π n0 σ τ) (kd : mm_Kd) : rn_R π n0 (mm_new σ kd) (mm_new τ kd) ∧ π σ.1.length = τ.1.length := by
  obtain ⟨h1, h2, h3, h4, h5, h6, h7⟩ := hR
  have e : π σ.1.length = τ.1.length := by rw [hP.2.1 _ h1, h2]
  have key : ∀ x, (π x = τ.1.length) = (x = σ.1.length) := fun x => propext ⟨fun q => hP.1 _ _ (q.trans e.symm), fun q => by rw [q, e]⟩
  refine ⟨⟨?_, ?_, fun x => ?_, fun x j => ?_, fun x j => ?_, fun x j => ?_, by
    show mm_sz (τ.1 ++ [kd]) = mm_sz (σ.1 ++ [kd])
    rw [mm_sz_app, mm_sz_app, h7]⟩, e⟩
  · show n0 ≤ (σ.1 ++ [kd]).length
    rw [List.length_append]
    omega
  · show (τ.1 ++ [kd]).length = (σ.1 ++ [kd]).length
    rw [List.length_append, List.length_append, h2]
  · show mm_kd (τ.1 ++ [kd]) (π x) = mm_kd (σ.1 ++ [kd]) x
    rw [rn_app, rn_app]
    simp only [key, h3]
  · show (if π x = τ.1.length then 0 else τ.2.1 (π x) j) = if x = σ.1.length then 0 else σ.2.1 x j
    simp only [key, h4]
  · show (if π x = τ.1.length then 0 else τ.2.2.1 (π x) j) = if x = σ.1.length then 0 else σ.2.2.1 x j
    simp only [key, h5]
  · show (if π x = τ.1.length then none else τ.2.2.2 (π x) j) = (if x = σ.1.length then none else σ.2.2.2 x j).map π
    simp only [key, h6]
    by_cases c : x = σ.1.length
    · rw [if_pos c, if_pos c]; rfl
    · rw [if_neg c, if_neg c]
theorem rn_rv (o : Option Nat) : mm_rv (o.map π) = rn_v π (mm_rv o) := by cases o <;> rfl
theorem rn_nx {pc : Nat} {ls : List (Option Value)} {st : List Value} {σ : mm_S} {o} (h : mm_nx pc ls st σ = some o) : o = .inl (pc, ls, st, σ) := (Option.some.inj h).symm
theorem rn_cd {b : Bool} {x : mm_O} {o} (h : cond b x none = some o) : b = true ∧ x = some o := by
  cases b with
  | true => exact ⟨rfl, h⟩
  | false => cases h
/-- the next place: other names, the same -/
theorem rn_go {pc : Nat} {ls ls' : List (Option Value)} {st st' : List Value} {σ τ : mm_S} (h1 : ls' = ls.map (Option.map (rn_v π))) (h2 : st' = st.map (rn_v π)) (hR : rn_R π n0 σ τ) : ∃ o', mm_nx pc ls' st' τ = some o' ∧ rn_O π n0 (.inl (pc, ls, st, σ)) o' := ⟨_, rfl, rfl, h1, h2, hR⟩
theorem rn_gc {b : Bool} {pc : Nat} {ls ls' : List (Option Value)} {st st' : List Value} {σ τ : mm_S} (hb : b = true) (h1 : ls' = ls.map (Option.map (rn_v π))) (h2 : st' = st.map (rn_v π)) (hR : rn_R π n0 σ τ) : ∃ o', cond b (mm_nx pc ls' st' τ) none = some o' ∧ rn_O π n0 (.inl (pc, ls, st, σ)) o' := by
  subst hb
  exact rn_go h1 h2 hR
theorem rn_intr (hP : rn_P π n0) {σ τ : mm_S} (hR : rn_R π n0 σ τ) {k pc : Nat} {ls : List (Option Value)} {st : List Value} {o} (h : mm_intr Y k pc ls st σ = some o) : ∃ o', mm_intr Y k pc (ls.map (Option.map (rn_v π))) (st.map (rn_v π)) τ = some o' ∧ rn_O π n0 o o' := by
  unfold mm_intr at h ⊢
  split at h
  · split at h
    · obtain rfl := rn_nx h; exact rn_go rfl rfl hR
    · cases h
  · split at h
    · obtain rfl := rn_nx h; exact rn_go rfl rfl hR
    · cases h
  · split at h
    · obtain rfl := rn_nx h; exact rn_go rfl rfl hR
    · cases h
  · split at h
    · obtain rfl := rn_nx h; exact rn_go rfl rfl hR
    · cases h
  · split at h
    · rename_i a r
      obtain ⟨hb, h⟩ := rn_cd h
      obtain rfl := rn_nx h
      have e : π a = a := rn_two hP (by rw [Bool.and_eq_true] at hb; exact hb.1)
      show ∃ o', cond (Nat.ble 2000000 (π a) && Nat.blt (π a) 2000013) (mm_nx pc _ (.int (Int32.ofNat (Y (π a - 2000000)).length) :: r.map (rn_v π)) τ) none = some o' ∧ _
      rw [e]
      exact rn_gc hb rfl rfl hR
    · cases h
  · split at h
    · rename_i i a r
      obtain ⟨hb, h⟩ := rn_cd h
      obtain rfl := rn_nx h
      have e : π a = a := rn_two hP (by rw [Bool.and_eq_true, Bool.and_eq_true] at hb; exact hb.1.1)
      show ∃ o', cond (Nat.ble 2000000 (π a) && Nat.blt (π a) 2000013 && mm_inb i (Y (π a - 2000000)).length) (mm_nx pc _ (.int ((Y (π a - 2000000)).getD i.toNatClampNeg 0) :: r.map (rn_v π)) τ) none = some o' ∧ _
      rw [e]
      exact rn_gc hb rfl rfl hR
    · cases h
  · cases h
theorem rn_call1 (hP : rn_P π n0) {σ τ : mm_S} (hR : rn_R π n0 σ τ) {t a b k pc : Nat} {ls : List (Option Value)} {st : List Value} {o} (h : mm_call1 Y t a b k pc ls st σ = some o) : ∃ o', mm_call1 Y t a b k pc (ls.map (Option.map (rn_v π))) (st.map (rn_v π)) τ = some o' ∧ rn_O π n0 o o' := by
  unfold mm_call1 at h ⊢
  cases ht : Nat.ble 10 t with
  | true =>
    rw [ht] at h
    dsimp only at h ⊢
    obtain ⟨hb, h⟩ := rn_cd h
    rw [rn_cats, hb]
    exact rn_intr hP hR h
  | false =>
    rw [ht] at h
    dsimp only at h ⊢
    cases hp : mm_pops b [] st with
    | none => rw [hp] at h; cases h
    | some q =>
      obtain ⟨as, rest⟩ := q
      rw [hp] at h
      dsimp only at h
      obtain ⟨hb, h⟩ := rn_cd h
      have e := rn_pops (π := π) b [] st as rest hp
      rw [List.map_nil] at e
      rw [e]
      dsimp only
      rw [rn_cats, rn_head hP hR, hb]
      obtain rfl := (Option.some.inj h).symm
      exact ⟨_, rfl, rfl, rfl, rfl, rfl, rfl, hR⟩
end RN
