/-! LOOPS: states with whole arrays written, and what counting loops do. -/
def sA (s : mS) (c : Nat) (f : Nat → Int32) : mS := (fun a b => if a = c then f b else s.1 a b, s.2.1, s.2.2)
def sM (s : mS) (c : Nat) (f : Nat → Int64) : mS := (s.1, fun a b => if a = c then f b else s.2.1 a b, s.2.2)
def up {α : Type} (f : Nat → α) (i : Nat) (x : α) : Nat → α := fun j => if j = i then x else f j
theorem gI_sA (s : mS) (c c' j' : Nat) (f : Nat → Int32) : gI (sA s c f) c' j' = if c' = c then f j' else gI s c' j' := id rfl
theorem gL_sA (s : mS) (c c' j' : Nat) (f : Nat → Int32) : gL (sA s c f) c' j' = gL s c' j' := id rfl
theorem gP_sA (s : mS) (c : Nat) (f : Nat → Int32) : gP (sA s c f) = gP s := id rfl
theorem gI_sM (s : mS) (c c' j' : Nat) (f : Nat → Int64) : gI (sM s c f) c' j' = gI s c' j' := id rfl
theorem gL_sM (s : mS) (c c' j' : Nat) (f : Nat → Int64) : gL (sM s c f) c' j' = if c' = c then f j' else gL s c' j' := id rfl
theorem gP_sM (s : mS) (c : Nat) (f : Nat → Int64) : gP (sM s c f) = gP s := id rfl
theorem gI_eq (s : mS) (c : Nat) : gI s c = s.1 c := rfl
theorem fI_sA (s : mS) (c c' : Nat) (f : Nat → Int32) : gI (sA s c f) c' = if c' = c then f else gI s c' := by
  funext j
  rw [gI_sA]
  split <;> rfl
theorem fI_sI (s : mS) (c j c' : Nat) (x : Int32) : gI (sI s c j x) c' = if c' = c then up (gI s c) j x else gI s c' := by
  funext j'
  rw [gI_sI]
  by_cases h : c' = c
  · subst h
    simp only [true_and, if_true, up]
  · simp only [h, false_and, if_false]
theorem up_self {α : Type} (f : Nat → α) (i : Nat) (x : α) : up f i x i = x := if_pos rfl
theorem up_ne {α : Type} {f : Nat → α} {i j : Nat} {x : α} (h : j ≠ i) : up f i x j = f j := if_neg h
theorem sI_up (s : mS) (c i : Nat) (x : Int32) : sI s c i x = sA s c (up (gI s c) i x) := by
  unfold sI sA
  congr 1
  funext a b
  by_cases h : a = c
  · subst h
    simp only [true_and, if_true, up]
    rfl
  · simp only [h, false_and, if_false]
theorem sI_sA (s : mS) (c i : Nat) (f : Nat → Int32) (x : Int32) : sI (sA s c f) c i x = sA s c (up f i x) := by
  unfold sI sA
  congr 1
  funext a b
  by_cases h : a = c
  · subst h
    simp only [true_and, if_true, up]
  · simp only [h, false_and, if_false]
theorem sI_sA_ne (s : mS) (c c' i : Nat) (f : Nat → Int32) (x : Int32) (h : c' ≠ c) : sI (sA s c f) c' i x = sA (sI s c' i x) c f := by
  unfold sI sA
  congr 1
  funext a b
  by_cases h1 : a = c
  · subst h1
    have h2 : ¬ (a = c') := fun e => h e.symm
    simp only [h2, false_and, if_false, if_true]
  · simp only [h1, if_false]
theorem sI_sM (s : mS) (c c' i : Nat) (f : Nat → Int64) (x : Int32) : sI (sM s c f) c' i x = sM (sI s c' i x) c f := rfl
theorem sL_sA (s : mS) (c c' i : Nat) (f : Nat → Int32) (x : Int64) : sL (sA s c f) c' i x = sA (sL s c' i x) c f := rfl
theorem sA_sA (s : mS) (c : Nat) (f g : Nat → Int32) : sA (sA s c f) c g = sA s c g := by
  unfold sA
  congr 1
  funext a b
  by_cases h : a = c
  · simp only [h, if_true]
  · simp only [h, if_false]
theorem sA_id (s : mS) (c : Nat) : sA s c (gI s c) = s := by
  unfold sA gI
  obtain ⟨a, b⟩ := s
  congr 1
  funext x y
  by_cases h : x = c
  · simp only [h, if_true]
  · simp only [h, if_false]
theorem sM_id (s : mS) (c : Nat) : sM s c (gL s c) = s := by
  unfold sM gL
  obtain ⟨a, b, d⟩ := s
  congr 2
  funext x y
  by_cases h : x = c
  · simp only [h, if_true]
  · simp only [h, if_false]
theorem sM_sM (s : mS) (c : Nat) (f g : Nat → Int64) : sM (sM s c f) c g = sM s c g := by
  unfold sM
  congr 2
  funext a b
  by_cases h : a = c
  · simp only [h, if_true]
  · simp only [h, if_false]
theorem sL_up (s : mS) (c i : Nat) (x : Int64) : sL s c i x = sM s c (up (gL s c) i x) := by
  unfold sL sM
  congr 2
  funext a b
  by_cases h : a = c
  · subst h
    simp only [true_and, if_true, up]
    rfl
  · simp only [h, false_and, if_false]
theorem sL_sM (s : mS) (c i : Nat) (f : Nat → Int64) (x : Int64) : sL (sM s c f) c i x = sM s c (up f i x) := by
  unfold sL sM
  congr 2
  funext a b
  by_cases h : a = c
  · subst h
    simp only [true_and, if_true, up]
  · simp only [h, false_and, if_false]
theorem sI_sI (s : mS) (c i : Nat) (x y : Int32) : sI (sI s c i x) c i y = sI s c i y := by
  unfold sI
  congr 1
  funext a b
  by_cases h : a = c ∧ b = i
  · simp only [h, and_self, if_true]
  · simp only [h, if_false]
theorem sI_id (s : mS) (c i : Nat) : sI s c i (gI s c i) = s := by
  unfold sI gI
  obtain ⟨a, b⟩ := s
  congr 1
  funext x y
  by_cases h : x = c ∧ y = i
  · rw [if_pos h, h.1, h.2]
  · rw [if_neg h]
theorem mm_Ns : mm_N = 99999 + 1 := rfl
theorem one_le {i : Nat} (h : i < 90000) {b : Nat} (hb : b < 90000) : (Int32.ofNat b ≤ Int32.ofNat i) ↔ b ≤ i := ofNat_le (by omega) (by omega)
/-- a counting loop upwards: what it keeps -/
theorem lp_up {σ : Type} {L : Nat → Int32 → σ → Int32 × σ} {OK : Nat → Int32 → σ → Prop} (P : Nat → σ → Prop) (b : Nat)
    (hs : ∀ n i s, i < b → P i s → ∃ s', L (n + 1) (Int32.ofNat i) s = L n (Int32.ofNat (i + 1)) s' ∧ (OK n (Int32.ofNat (i + 1)) s' → OK (n + 1) (Int32.ofNat i) s) ∧ P (i + 1) s')
    (he : ∀ n s, P b s → L (n + 1) (Int32.ofNat b) s = (Int32.ofNat b, s) ∧ OK (n + 1) (Int32.ofNat b) s) :
    ∀ n i s, i ≤ b → b - i < n → P i s → ∃ s', L n (Int32.ofNat i) s = (Int32.ofNat b, s') ∧ OK n (Int32.ofNat i) s ∧ P b s' := by
  intro n
  induction n with
  | zero => intro i s _ h2; omega
  | succ n ih =>
    intro i s h1 h2 h3
    by_cases h : i = b
    · subst h
      exact ⟨s, (he n s h3).1, (he n s h3).2, h3⟩
    · obtain ⟨s', e, ok, p⟩ := hs n i s (by omega) h3
      obtain ⟨s'', e2, ok2, p2⟩ := ih (i + 1) s' (by omega) (by omega) p
      exact ⟨s'', by rw [e, e2], ok ok2, p2⟩
theorem lp_upN {σ : Type} {L : Nat → Int32 → σ → Int32 × σ} {OK : Nat → Int32 → σ → Prop} (P : Nat → σ → Prop) (b : Nat) (hb : b < 90000)
    (hs : ∀ n i s, i < b → P i s → ∃ s', L (n + 1) (Int32.ofNat i) s = L n (Int32.ofNat (i + 1)) s' ∧ (OK n (Int32.ofNat (i + 1)) s' → OK (n + 1) (Int32.ofNat i) s) ∧ P (i + 1) s')
    (he : ∀ n s, P b s → L (n + 1) (Int32.ofNat b) s = (Int32.ofNat b, s) ∧ OK (n + 1) (Int32.ofNat b) s) (i : Nat) (s : σ) (hi : i ≤ b) (h : P i s) :
    ∃ s', L mm_N (Int32.ofNat i) s = (Int32.ofNat b, s') ∧ OK mm_N (Int32.ofNat i) s ∧ P b s' := lp_up P b hs he mm_N i s hi (by rw [mm_Ns]; omega) h
/-- an array filled from its first place on -/
def fillA (b : Nat) (w : Nat → Int32) (g : Nat → Int32) : Nat → Int32 := fun j => if j < b then w j else g j
theorem fillA_lt {b : Nat} {w g : Nat → Int32} {j : Nat} (h : j < b) : fillA b w g j = w j := if_pos h
theorem fillA_ge {b : Nat} {w g : Nat → Int32} {j : Nat} (h : b ≤ j) : fillA b w g j = g j := if_neg (by omega)
theorem fillA_0 (w g : Nat → Int32) : fillA 0 w g = g := by
  funext j
  rfl
theorem up_fill (i : Nat) (w g : Nat → Int32) : up (fillA i w g) i (w i) = fillA (i + 1) w g := by
  funext j
  unfold up fillA
  by_cases h : j = i
  · subst h
    rw [if_pos rfl, if_pos (by omega)]
  · rw [if_neg h]
    by_cases h2 : j < i
    · rw [if_pos h2, if_pos (by omega)]
    · rw [if_neg h2, if_neg (by omega)]
theorem lp_map {L : Nat → Int32 → mS → Int32 × mS} {OK : Nat → Int32 → mS → Prop} (c b : Nat) (hb : b < 90000) (s : mS) (w : Nat → Int32)
    (hs : ∀ n i g, i < b → L (n + 1) (Int32.ofNat i) (sA s c g) = L n (Int32.ofNat (i + 1)) (sA s c (up g i (w i))) ∧ (OK n (Int32.ofNat (i + 1)) (sA s c (up g i (w i))) → OK (n + 1) (Int32.ofNat i) (sA s c g)))
    (he : ∀ n g, L (n + 1) (Int32.ofNat b) (sA s c g) = (Int32.ofNat b, sA s c g) ∧ OK (n + 1) (Int32.ofNat b) (sA s c g)) :
    L mm_N 0 s = (Int32.ofNat b, sA s c (fillA b w (gI s c))) ∧ OK mm_N 0 s := by
  have h := lp_upN (L := L) (OK := OK) (fun i s' => s' = sA s c (fillA i w (gI s c))) b hb
    (fun n i s' hi hp => by
      subst hp
      refine ⟨_, (hs n i _ hi).1, (hs n i _ hi).2, ?_⟩
      rw [up_fill])
    (fun n s' hp => by
      subst hp
      exact he n _) 0 s (Nat.zero_le b) (by rw [fillA_0, sA_id])
  obtain ⟨s', h1, h2, h3⟩ := h
  subst h3
  exact ⟨h1, h2⟩
/-- sums -/
def smI (w : Nat → Int32) : Nat → Int32
  | 0 => 0
  | k + 1 => smI w k + w k
theorem smI_c {w w' : Nat → Int32} {b : Nat} (h : ∀ j, j < b → w j = w' j) : smI w b = smI w' b := by
  induction b with
  | zero => rfl
  | succ b ih =>
    show smI w b + w b = smI w' b + w' b
    rw [ih (fun j hj => h j (by omega)), h b (by omega)]
theorem smI_0 {w : Nat → Int32} {b c : Nat} (hbc : b ≤ c) (h : ∀ j, b ≤ j → j < c → w j = 0) : smI w c = smI w b := by
  induction c with
  | zero =>
    have : b = 0 := by omega
    rw [this]
  | succ c ih =>
    by_cases hb : b = c + 1
    · rw [hb]
    · show smI w c + w c = smI w b
      rw [ih (by omega) (fun j h1 h2 => h j h1 (by omega)), h c (by omega) (by omega), Int32.add_zero]
theorem lp_sum {L : Nat → Int32 → Int32 → Int32 × Int32} {OK : Nat → Int32 → Int32 → Prop} (b : Nat) (hb : b < 90000) (w : Nat → Int32)
    (hs : ∀ n i a, i < b → L (n + 1) a (Int32.ofNat i) = L n (a + w i) (Int32.ofNat (i + 1)) ∧ (OK n (a + w i) (Int32.ofNat (i + 1)) → OK (n + 1) a (Int32.ofNat i)))
    (he : ∀ n a, L (n + 1) a (Int32.ofNat b) = (a, Int32.ofNat b) ∧ OK (n + 1) a (Int32.ofNat b)) :
    L mm_N 0 0 = (smI w b, Int32.ofNat b) ∧ OK mm_N 0 0 := by
  have h := lp_upN (L := fun n v a => ((L n a v).2, (L n a v).1)) (OK := fun n v a => OK n a v) (fun i a => a = smI w i) b hb
    (fun n i a hi hp => by
      refine ⟨a + w i, ?_, (hs n i a hi).2, ?_⟩
      · rw [(hs n i a hi).1]
      · rw [hp]
        rfl)
    (fun n a hp => by
      refine ⟨?_, (he n a).2⟩
      rw [(he n a).1]) 0 0 (Nat.zero_le b) rfl
  obtain ⟨s', h1, h2, h3⟩ := h
  subst h3
  refine ⟨?_, h2⟩
  have h4 := congrArg Prod.fst h1
  have h5 := congrArg Prod.snd h1
  exact Prod.ext h5 h4
theorem lp_up0 {σ : Type} {L : Nat → Int32 → σ → Int32 × σ} {OK : Nat → Int32 → σ → Prop} (P : Nat → σ → Prop) (b : Nat) (hb : b < 90000) (s : σ) (h : P 0 s)
    (hs : ∀ n i s, i < b → P i s → ∃ s', L (n + 1) (Int32.ofNat i) s = L n (Int32.ofNat (i + 1)) s' ∧ (OK n (Int32.ofNat (i + 1)) s' → OK (n + 1) (Int32.ofNat i) s) ∧ P (i + 1) s')
    (he : ∀ n s, P b s → L (n + 1) (Int32.ofNat b) s = (Int32.ofNat b, s) ∧ OK (n + 1) (Int32.ofNat b) s) :
    ∃ s', L mm_N 0 s = (Int32.ofNat b, s') ∧ OK mm_N 0 s ∧ P b s' := lp_upN P b hb hs he 0 s (Nat.zero_le b) h
