/-! ACT: what stands behind a part, in short. -/
def kb (k σ : Nat) (s : mS) : mS :=
  if (17 ≤ k ∧ k ≤ 19) ∧ σ ≠ 3 then f_Parser_operate 1 s
  else if k = 20 ∧ σ ≠ 3 then f_Parser_operate 2 s
  else if (23 ≤ k ∧ k ≤ 25) ∧ σ = 1 then sI (f_Parser_operate 1 s) 80 8 2
  else if (k = 14 ∨ k = 13) ∧ (σ = 2 ∨ σ = 3) then f_Parser_operate 3 s
  else if k = 22 ∧ (σ = 2 ∨ σ = 3) then f_Parser_closeBracket s
  else if k = 12 ∧ σ = 0 then sI (f_Act_beginCondition (gP (f_Parser_unwind 1 s) 4) (f_Parser_unwind 1 s)) 80 7 3
  else if k = 16 ∧ σ ≠ 1 then f_Parser_closeLine s
  else f_Parser_fail 1 s
def kbo (k σ : Nat) (s : mS) : Prop :=
  if (17 ≤ k ∧ k ≤ 19) ∧ σ ≠ 3 then ok_Parser_operate 1 s
  else if k = 20 ∧ σ ≠ 3 then ok_Parser_operate 2 s
  else if (23 ≤ k ∧ k ≤ 25) ∧ σ = 1 then ok_Parser_operate 1 s
  else if (k = 14 ∨ k = 13) ∧ (σ = 2 ∨ σ = 3) then ok_Parser_operate 3 s
  else if k = 22 ∧ (σ = 2 ∨ σ = 3) then ok_Parser_closeBracket s
  else if k = 12 ∧ σ = 0 then ok_Parser_unwind 1 s ∧ mq_A (gP (f_Parser_unwind 1 s) 4) ∧ ok_Act_beginCondition (gP (f_Parser_unwind 1 s) 4) (f_Parser_unwind 1 s)
  else if k = 16 ∧ σ ≠ 1 then ok_Parser_closeLine s
  else True
theorem k25 {k : Nat} (h1 : 1 ≤ k) (h2 : k ≤ 25) : k = 1 ∨ k = 2 ∨ k = 3 ∨ k = 4 ∨ k = 5 ∨ k = 6 ∨ k = 7 ∨ k = 8 ∨ k = 9 ∨ k = 10 ∨ k = 11 ∨ k = 12 ∨ k = 13 ∨ k = 14 ∨ k = 15 ∨ k = 16 ∨ k = 17 ∨ k = 18 ∨ k = 19 ∨ k = 20 ∨ k = 21 ∨ k = 22 ∨ k = 23 ∨ k = 24 ∨ k = 25 := by omega
theorem kb_1 {s : mS} {σ : Nat} (hσ : σ ≤ 3) (h3 : gI s 80 3 = 1) (h8 : gI s 80 8 = Int32.ofNat σ) : f_Parser_takeBehind s = kb 1 σ s ∧ (kbo 1 σ s → ok_Parser_takeBehind s) := by
  have s4 : σ = 0 ∨ σ = 1 ∨ σ = 2 ∨ σ = 3 := by omega
  rcases s4 with e | e | e | e <;> subst e
  all_goals
    constructor
    · simp [f_Parser_takeBehind, mq_let_e, h3, h8, kb]
    · intro q
      simp [kbo] at q
      simp [ok_Parser_takeBehind, mq_letP_e, mq_let_e, h3, h8, q]
theorem kb_2 {s : mS} {σ : Nat} (hσ : σ ≤ 3) (h3 : gI s 80 3 = 2) (h8 : gI s 80 8 = Int32.ofNat σ) : f_Parser_takeBehind s = kb 2 σ s ∧ (kbo 2 σ s → ok_Parser_takeBehind s) := by
  have s4 : σ = 0 ∨ σ = 1 ∨ σ = 2 ∨ σ = 3 := by omega
  rcases s4 with e | e | e | e <;> subst e
  all_goals
    constructor
    · simp [f_Parser_takeBehind, mq_let_e, h3, h8, kb]
    · intro q
      simp [kbo] at q
      simp [ok_Parser_takeBehind, mq_letP_e, mq_let_e, h3, h8, q]
theorem kb_3 {s : mS} {σ : Nat} (hσ : σ ≤ 3) (h3 : gI s 80 3 = 3) (h8 : gI s 80 8 = Int32.ofNat σ) : f_Parser_takeBehind s = kb 3 σ s ∧ (kbo 3 σ s → ok_Parser_takeBehind s) := by
  have s4 : σ = 0 ∨ σ = 1 ∨ σ = 2 ∨ σ = 3 := by omega
  rcases s4 with e | e | e | e <;> subst e
  all_goals
    constructor
    · simp [f_Parser_takeBehind, mq_let_e, h3, h8, kb]
    · intro q
      simp [kbo] at q
      simp [ok_Parser_takeBehind, mq_letP_e, mq_let_e, h3, h8, q]
theorem kb_4 {s : mS} {σ : Nat} (hσ : σ ≤ 3) (h3 : gI s 80 3 = 4) (h8 : gI s 80 8 = Int32.ofNat σ) : f_Parser_takeBehind s = kb 4 σ s ∧ (kbo 4 σ s → ok_Parser_takeBehind s) := by
  have s4 : σ = 0 ∨ σ = 1 ∨ σ = 2 ∨ σ = 3 := by omega
  rcases s4 with e | e | e | e <;> subst e
  all_goals
    constructor
    · simp [f_Parser_takeBehind, mq_let_e, h3, h8, kb]
    · intro q
      simp [kbo] at q
      simp [ok_Parser_takeBehind, mq_letP_e, mq_let_e, h3, h8, q]
theorem kb_5 {s : mS} {σ : Nat} (hσ : σ ≤ 3) (h3 : gI s 80 3 = 5) (h8 : gI s 80 8 = Int32.ofNat σ) : f_Parser_takeBehind s = kb 5 σ s ∧ (kbo 5 σ s → ok_Parser_takeBehind s) := by
  have s4 : σ = 0 ∨ σ = 1 ∨ σ = 2 ∨ σ = 3 := by omega
  rcases s4 with e | e | e | e <;> subst e
  all_goals
    constructor
    · simp [f_Parser_takeBehind, mq_let_e, h3, h8, kb]
    · intro q
      simp [kbo] at q
      simp [ok_Parser_takeBehind, mq_letP_e, mq_let_e, h3, h8, q]
theorem kb_6 {s : mS} {σ : Nat} (hσ : σ ≤ 3) (h3 : gI s 80 3 = 6) (h8 : gI s 80 8 = Int32.ofNat σ) : f_Parser_takeBehind s = kb 6 σ s ∧ (kbo 6 σ s → ok_Parser_takeBehind s) := by
  have s4 : σ = 0 ∨ σ = 1 ∨ σ = 2 ∨ σ = 3 := by omega
  rcases s4 with e | e | e | e <;> subst e
  all_goals
    constructor
    · simp [f_Parser_takeBehind, mq_let_e, h3, h8, kb]
    · intro q
      simp [kbo] at q
      simp [ok_Parser_takeBehind, mq_letP_e, mq_let_e, h3, h8, q]
theorem kb_7 {s : mS} {σ : Nat} (hσ : σ ≤ 3) (h3 : gI s 80 3 = 7) (h8 : gI s 80 8 = Int32.ofNat σ) : f_Parser_takeBehind s = kb 7 σ s ∧ (kbo 7 σ s → ok_Parser_takeBehind s) := by
  have s4 : σ = 0 ∨ σ = 1 ∨ σ = 2 ∨ σ = 3 := by omega
  rcases s4 with e | e | e | e <;> subst e
  all_goals
    constructor
    · simp [f_Parser_takeBehind, mq_let_e, h3, h8, kb]
    · intro q
      simp [kbo] at q
      simp [ok_Parser_takeBehind, mq_letP_e, mq_let_e, h3, h8, q]
theorem kb_8 {s : mS} {σ : Nat} (hσ : σ ≤ 3) (h3 : gI s 80 3 = 8) (h8 : gI s 80 8 = Int32.ofNat σ) : f_Parser_takeBehind s = kb 8 σ s ∧ (kbo 8 σ s → ok_Parser_takeBehind s) := by
  have s4 : σ = 0 ∨ σ = 1 ∨ σ = 2 ∨ σ = 3 := by omega
  rcases s4 with e | e | e | e <;> subst e
  all_goals
    constructor
    · simp [f_Parser_takeBehind, mq_let_e, h3, h8, kb]
    · intro q
      simp [kbo] at q
      simp [ok_Parser_takeBehind, mq_letP_e, mq_let_e, h3, h8, q]
theorem kb_9 {s : mS} {σ : Nat} (hσ : σ ≤ 3) (h3 : gI s 80 3 = 9) (h8 : gI s 80 8 = Int32.ofNat σ) : f_Parser_takeBehind s = kb 9 σ s ∧ (kbo 9 σ s → ok_Parser_takeBehind s) := by
  have s4 : σ = 0 ∨ σ = 1 ∨ σ = 2 ∨ σ = 3 := by omega
  rcases s4 with e | e | e | e <;> subst e
  all_goals
    constructor
    · simp [f_Parser_takeBehind, mq_let_e, h3, h8, kb]
    · intro q
      simp [kbo] at q
      simp [ok_Parser_takeBehind, mq_letP_e, mq_let_e, h3, h8, q]
theorem kb_10 {s : mS} {σ : Nat} (hσ : σ ≤ 3) (h3 : gI s 80 3 = 10) (h8 : gI s 80 8 = Int32.ofNat σ) : f_Parser_takeBehind s = kb 10 σ s ∧ (kbo 10 σ s → ok_Parser_takeBehind s) := by
  have s4 : σ = 0 ∨ σ = 1 ∨ σ = 2 ∨ σ = 3 := by omega
  rcases s4 with e | e | e | e <;> subst e
  all_goals
    constructor
    · simp [f_Parser_takeBehind, mq_let_e, h3, h8, kb]
    · intro q
      simp [kbo] at q
      simp [ok_Parser_takeBehind, mq_letP_e, mq_let_e, h3, h8, q]
theorem kb_11 {s : mS} {σ : Nat} (hσ : σ ≤ 3) (h3 : gI s 80 3 = 11) (h8 : gI s 80 8 = Int32.ofNat σ) : f_Parser_takeBehind s = kb 11 σ s ∧ (kbo 11 σ s → ok_Parser_takeBehind s) := by
  have s4 : σ = 0 ∨ σ = 1 ∨ σ = 2 ∨ σ = 3 := by omega
  rcases s4 with e | e | e | e <;> subst e
  all_goals
    constructor
    · simp [f_Parser_takeBehind, mq_let_e, h3, h8, kb]
    · intro q
      simp [kbo] at q
      simp [ok_Parser_takeBehind, mq_letP_e, mq_let_e, h3, h8, q]
theorem kb_12 {s : mS} {σ : Nat} (hσ : σ ≤ 3) (h3 : gI s 80 3 = 12) (h8 : gI s 80 8 = Int32.ofNat σ) : f_Parser_takeBehind s = kb 12 σ s ∧ (kbo 12 σ s → ok_Parser_takeBehind s) := by
  have s4 : σ = 0 ∨ σ = 1 ∨ σ = 2 ∨ σ = 3 := by omega
  rcases s4 with e | e | e | e <;> subst e
  all_goals
    constructor
    · simp [f_Parser_takeBehind, mq_let_e, h3, h8, kb]
    · intro q
      simp [kbo] at q
      simp [ok_Parser_takeBehind, mq_letP_e, mq_let_e, h3, h8, q]
theorem kb_13 {s : mS} {σ : Nat} (hσ : σ ≤ 3) (h3 : gI s 80 3 = 13) (h8 : gI s 80 8 = Int32.ofNat σ) : f_Parser_takeBehind s = kb 13 σ s ∧ (kbo 13 σ s → ok_Parser_takeBehind s) := by
  have s4 : σ = 0 ∨ σ = 1 ∨ σ = 2 ∨ σ = 3 := by omega
  rcases s4 with e | e | e | e <;> subst e
  all_goals
    constructor
    · simp [f_Parser_takeBehind, mq_let_e, h3, h8, kb]
    · intro q
      simp [kbo] at q
      simp [ok_Parser_takeBehind, mq_letP_e, mq_let_e, h3, h8, q]
theorem kb_14 {s : mS} {σ : Nat} (hσ : σ ≤ 3) (h3 : gI s 80 3 = 14) (h8 : gI s 80 8 = Int32.ofNat σ) : f_Parser_takeBehind s = kb 14 σ s ∧ (kbo 14 σ s → ok_Parser_takeBehind s) := by
  have s4 : σ = 0 ∨ σ = 1 ∨ σ = 2 ∨ σ = 3 := by omega
  rcases s4 with e | e | e | e <;> subst e
  all_goals
    constructor
    · simp [f_Parser_takeBehind, mq_let_e, h3, h8, kb]
    · intro q
      simp [kbo] at q
      simp [ok_Parser_takeBehind, mq_letP_e, mq_let_e, h3, h8, q]
theorem kb_15 {s : mS} {σ : Nat} (hσ : σ ≤ 3) (h3 : gI s 80 3 = 15) (h8 : gI s 80 8 = Int32.ofNat σ) : f_Parser_takeBehind s = kb 15 σ s ∧ (kbo 15 σ s → ok_Parser_takeBehind s) := by
  have s4 : σ = 0 ∨ σ = 1 ∨ σ = 2 ∨ σ = 3 := by omega
  rcases s4 with e | e | e | e <;> subst e
  all_goals
    constructor
    · simp [f_Parser_takeBehind, mq_let_e, h3, h8, kb]
    · intro q
      simp [kbo] at q
      simp [ok_Parser_takeBehind, mq_letP_e, mq_let_e, h3, h8, q]
theorem kb_16 {s : mS} {σ : Nat} (hσ : σ ≤ 3) (h3 : gI s 80 3 = 16) (h8 : gI s 80 8 = Int32.ofNat σ) : f_Parser_takeBehind s = kb 16 σ s ∧ (kbo 16 σ s → ok_Parser_takeBehind s) := by
  have s4 : σ = 0 ∨ σ = 1 ∨ σ = 2 ∨ σ = 3 := by omega
  rcases s4 with e | e | e | e <;> subst e
  all_goals
    constructor
    · simp [f_Parser_takeBehind, mq_let_e, h3, h8, kb]
    · intro q
      simp [kbo] at q
      simp [ok_Parser_takeBehind, mq_letP_e, mq_let_e, h3, h8, q]
theorem kb_17 {s : mS} {σ : Nat} (hσ : σ ≤ 3) (h3 : gI s 80 3 = 17) (h8 : gI s 80 8 = Int32.ofNat σ) : f_Parser_takeBehind s = kb 17 σ s ∧ (kbo 17 σ s → ok_Parser_takeBehind s) := by
  have d1 : ¬ gI s 80 3 < 17 := by
    rw [h3]
    decide
  have d2 : ¬ (20 : Int32) < gI s 80 3 := by
    rw [h3]
    decide
  have d4 : (if gI s 80 3 = 20 then (2 : Int32) else 1) = 1 := by
    rw [h3, if_neg (by decide)]
  by_cases c : σ = 3
  · subst c
    have d3 : gI s 80 8 = 3 := h8
    have d5 : gI s 80 3 < 23 := by
      rw [h3]
      decide
    have d6 : ¬ gI s 80 3 = 14 := by
      rw [h3]
      decide
    have d7 : ¬ gI s 80 3 = 13 := by
      rw [h3]
      decide
    have d8 : ¬ gI s 80 3 = 22 := by
      rw [h3]
      decide
    have d9 : ¬ gI s 80 3 = 12 := by
      rw [h3]
      decide
    have d10 : ¬ gI s 80 3 = 16 := by
      rw [h3]
      decide
    constructor
    · unfold kb
      rw [if_neg (by decide), if_neg (by decide), if_neg (by decide), if_neg (by decide), if_neg (by decide), if_neg (by decide), if_neg (by decide)]
      unfold f_Parser_takeBehind
      rw [mq_let_e, if_neg d1, if_neg d2, if_pos d3, if_pos d5, if_neg d6, if_neg d7, if_neg d8, if_neg d9, if_neg d10, mq_let_e]
    · intro _
      unfold ok_Parser_takeBehind
      simp only [mq_letP_e, if_neg d1, if_neg d2, if_pos d3, if_pos d5, if_neg d6, if_neg d7, if_neg d8, if_neg d9, if_neg d10, true_and]
  · have d3 : ¬ gI s 80 8 = 3 := fun q => by
      rw [h8] at q
      exact c ((ofNat_inj (b := 3) (by omega) (by omega)).mp q)
    constructor
    · unfold kb
      rw [if_pos ⟨by decide, c⟩]
      unfold f_Parser_takeBehind
      rw [mq_let_e, if_neg d1, if_neg d2, if_neg d3, mq_let_e, d4, mq_let_e]
    · unfold kbo
      rw [if_pos ⟨by decide, c⟩]
      intro q
      unfold ok_Parser_takeBehind
      rw [mq_letP_e, if_neg d1, if_neg d2, if_neg d3, mq_letP_e, d4]
      exact ⟨trivial, trivial, q, trivial⟩
theorem kb_18 {s : mS} {σ : Nat} (hσ : σ ≤ 3) (h3 : gI s 80 3 = 18) (h8 : gI s 80 8 = Int32.ofNat σ) : f_Parser_takeBehind s = kb 18 σ s ∧ (kbo 18 σ s → ok_Parser_takeBehind s) := by
  have d1 : ¬ gI s 80 3 < 17 := by
    rw [h3]
    decide
  have d2 : ¬ (20 : Int32) < gI s 80 3 := by
    rw [h3]
    decide
  have d4 : (if gI s 80 3 = 20 then (2 : Int32) else 1) = 1 := by
    rw [h3, if_neg (by decide)]
  by_cases c : σ = 3
  · subst c
    have d3 : gI s 80 8 = 3 := h8
    have d5 : gI s 80 3 < 23 := by
      rw [h3]
      decide
    have d6 : ¬ gI s 80 3 = 14 := by
      rw [h3]
      decide
    have d7 : ¬ gI s 80 3 = 13 := by
      rw [h3]
      decide
    have d8 : ¬ gI s 80 3 = 22 := by
      rw [h3]
      decide
    have d9 : ¬ gI s 80 3 = 12 := by
      rw [h3]
      decide
    have d10 : ¬ gI s 80 3 = 16 := by
      rw [h3]
      decide
    constructor
    · unfold kb
      rw [if_neg (by decide), if_neg (by decide), if_neg (by decide), if_neg (by decide), if_neg (by decide), if_neg (by decide), if_neg (by decide)]
      unfold f_Parser_takeBehind
      rw [mq_let_e, if_neg d1, if_neg d2, if_pos d3, if_pos d5, if_neg d6, if_neg d7, if_neg d8, if_neg d9, if_neg d10, mq_let_e]
    · intro _
      unfold ok_Parser_takeBehind
      simp only [mq_letP_e, if_neg d1, if_neg d2, if_pos d3, if_pos d5, if_neg d6, if_neg d7, if_neg d8, if_neg d9, if_neg d10, true_and]
  · have d3 : ¬ gI s 80 8 = 3 := fun q => by
      rw [h8] at q
      exact c ((ofNat_inj (b := 3) (by omega) (by omega)).mp q)
    constructor
    · unfold kb
      rw [if_pos ⟨by decide, c⟩]
      unfold f_Parser_takeBehind
      rw [mq_let_e, if_neg d1, if_neg d2, if_neg d3, mq_let_e, d4, mq_let_e]
    · unfold kbo
      rw [if_pos ⟨by decide, c⟩]
      intro q
      unfold ok_Parser_takeBehind
      rw [mq_letP_e, if_neg d1, if_neg d2, if_neg d3, mq_letP_e, d4]
      exact ⟨trivial, trivial, q, trivial⟩
theorem kb_19 {s : mS} {σ : Nat} (hσ : σ ≤ 3) (h3 : gI s 80 3 = 19) (h8 : gI s 80 8 = Int32.ofNat σ) : f_Parser_takeBehind s = kb 19 σ s ∧ (kbo 19 σ s → ok_Parser_takeBehind s) := by
  have d1 : ¬ gI s 80 3 < 17 := by
    rw [h3]
    decide
  have d2 : ¬ (20 : Int32) < gI s 80 3 := by
    rw [h3]
    decide
  have d4 : (if gI s 80 3 = 20 then (2 : Int32) else 1) = 1 := by
    rw [h3, if_neg (by decide)]
  by_cases c : σ = 3
  · subst c
    have d3 : gI s 80 8 = 3 := h8
    have d5 : gI s 80 3 < 23 := by
      rw [h3]
      decide
    have d6 : ¬ gI s 80 3 = 14 := by
      rw [h3]
      decide
    have d7 : ¬ gI s 80 3 = 13 := by
      rw [h3]
      decide
    have d8 : ¬ gI s 80 3 = 22 := by
      rw [h3]
      decide
    have d9 : ¬ gI s 80 3 = 12 := by
      rw [h3]
      decide
    have d10 : ¬ gI s 80 3 = 16 := by
      rw [h3]
      decide
    constructor
    · unfold kb
      rw [if_neg (by decide), if_neg (by decide), if_neg (by decide), if_neg (by decide), if_neg (by decide), if_neg (by decide), if_neg (by decide)]
      unfold f_Parser_takeBehind
      rw [mq_let_e, if_neg d1, if_neg d2, if_pos d3, if_pos d5, if_neg d6, if_neg d7, if_neg d8, if_neg d9, if_neg d10, mq_let_e]
    · intro _
      unfold ok_Parser_takeBehind
      simp only [mq_letP_e, if_neg d1, if_neg d2, if_pos d3, if_pos d5, if_neg d6, if_neg d7, if_neg d8, if_neg d9, if_neg d10, true_and]
  · have d3 : ¬ gI s 80 8 = 3 := fun q => by
      rw [h8] at q
      exact c ((ofNat_inj (b := 3) (by omega) (by omega)).mp q)
    constructor
    · unfold kb
      rw [if_pos ⟨by decide, c⟩]
      unfold f_Parser_takeBehind
      rw [mq_let_e, if_neg d1, if_neg d2, if_neg d3, mq_let_e, d4, mq_let_e]
    · unfold kbo
      rw [if_pos ⟨by decide, c⟩]
      intro q
      unfold ok_Parser_takeBehind
      rw [mq_letP_e, if_neg d1, if_neg d2, if_neg d3, mq_letP_e, d4]
      exact ⟨trivial, trivial, q, trivial⟩
theorem kb_20 {s : mS} {σ : Nat} (hσ : σ ≤ 3) (h3 : gI s 80 3 = 20) (h8 : gI s 80 8 = Int32.ofNat σ) : f_Parser_takeBehind s = kb 20 σ s ∧ (kbo 20 σ s → ok_Parser_takeBehind s) := by
  have d1 : ¬ gI s 80 3 < 17 := by
    rw [h3]
    decide
  have d2 : ¬ (20 : Int32) < gI s 80 3 := by
    rw [h3]
    decide
  have d4 : (if gI s 80 3 = 20 then (2 : Int32) else 1) = 2 := by
    rw [h3, if_pos rfl]
  by_cases c : σ = 3
  · subst c
    have d3 : gI s 80 8 = 3 := h8
    have d5 : gI s 80 3 < 23 := by
      rw [h3]
      decide
    have d6 : ¬ gI s 80 3 = 14 := by
      rw [h3]
      decide
    have d7 : ¬ gI s 80 3 = 13 := by
      rw [h3]
      decide
    have d8 : ¬ gI s 80 3 = 22 := by
      rw [h3]
      decide
    have d9 : ¬ gI s 80 3 = 12 := by
      rw [h3]
      decide
    have d10 : ¬ gI s 80 3 = 16 := by
      rw [h3]
      decide
    constructor
    · unfold kb
      rw [if_neg (by decide), if_neg (by decide), if_neg (by decide), if_neg (by decide), if_neg (by decide), if_neg (by decide), if_neg (by decide)]
      unfold f_Parser_takeBehind
      rw [mq_let_e, if_neg d1, if_neg d2, if_pos d3, if_pos d5, if_neg d6, if_neg d7, if_neg d8, if_neg d9, if_neg d10, mq_let_e]
    · intro _
      unfold ok_Parser_takeBehind
      simp only [mq_letP_e, if_neg d1, if_neg d2, if_pos d3, if_pos d5, if_neg d6, if_neg d7, if_neg d8, if_neg d9, if_neg d10, true_and]
  · have d3 : ¬ gI s 80 8 = 3 := fun q => by
      rw [h8] at q
      exact c ((ofNat_inj (b := 3) (by omega) (by omega)).mp q)
    constructor
    · unfold kb
      rw [if_neg (fun q => absurd q.1 (by decide)), if_pos ⟨rfl, c⟩]
      unfold f_Parser_takeBehind
      rw [mq_let_e, if_neg d1, if_neg d2, if_neg d3, mq_let_e, d4, mq_let_e]
    · unfold kbo
      rw [if_neg (fun q => absurd q.1 (by decide)), if_pos ⟨rfl, c⟩]
      intro q
      unfold ok_Parser_takeBehind
      rw [mq_letP_e, if_neg d1, if_neg d2, if_neg d3, mq_letP_e, d4]
      exact ⟨trivial, trivial, q, trivial⟩
theorem kb_21 {s : mS} {σ : Nat} (hσ : σ ≤ 3) (h3 : gI s 80 3 = 21) (h8 : gI s 80 8 = Int32.ofNat σ) : f_Parser_takeBehind s = kb 21 σ s ∧ (kbo 21 σ s → ok_Parser_takeBehind s) := by
  have s4 : σ = 0 ∨ σ = 1 ∨ σ = 2 ∨ σ = 3 := by omega
  rcases s4 with e | e | e | e <;> subst e
  all_goals
    constructor
    · simp [f_Parser_takeBehind, mq_let_e, h3, h8, kb]
    · intro q
      simp [kbo] at q
      simp [ok_Parser_takeBehind, mq_letP_e, mq_let_e, h3, h8, q]
theorem kb_22 {s : mS} {σ : Nat} (hσ : σ ≤ 3) (h3 : gI s 80 3 = 22) (h8 : gI s 80 8 = Int32.ofNat σ) : f_Parser_takeBehind s = kb 22 σ s ∧ (kbo 22 σ s → ok_Parser_takeBehind s) := by
  have s4 : σ = 0 ∨ σ = 1 ∨ σ = 2 ∨ σ = 3 := by omega
  rcases s4 with e | e | e | e <;> subst e
  all_goals
    constructor
    · simp [f_Parser_takeBehind, mq_let_e, h3, h8, kb]
    · intro q
      simp [kbo] at q
      simp [ok_Parser_takeBehind, mq_letP_e, mq_let_e, h3, h8, q]
theorem kb_23 {s : mS} {σ : Nat} (hσ : σ ≤ 3) (h3 : gI s 80 3 = 23) (h8 : gI s 80 8 = Int32.ofNat σ) : f_Parser_takeBehind s = kb 23 σ s ∧ (kbo 23 σ s → ok_Parser_takeBehind s) := by
  have s4 : σ = 0 ∨ σ = 1 ∨ σ = 2 ∨ σ = 3 := by omega
  rcases s4 with e | e | e | e <;> subst e
  all_goals
    constructor
    · simp [f_Parser_takeBehind, mq_let_e, h3, h8, kb]
    · intro q
      simp [kbo] at q
      simp [ok_Parser_takeBehind, mq_letP_e, mq_let_e, h3, h8, q]
theorem kb_24 {s : mS} {σ : Nat} (hσ : σ ≤ 3) (h3 : gI s 80 3 = 24) (h8 : gI s 80 8 = Int32.ofNat σ) : f_Parser_takeBehind s = kb 24 σ s ∧ (kbo 24 σ s → ok_Parser_takeBehind s) := by
  have s4 : σ = 0 ∨ σ = 1 ∨ σ = 2 ∨ σ = 3 := by omega
  rcases s4 with e | e | e | e <;> subst e
  all_goals
    constructor
    · simp [f_Parser_takeBehind, mq_let_e, h3, h8, kb]
    · intro q
      simp [kbo] at q
      simp [ok_Parser_takeBehind, mq_letP_e, mq_let_e, h3, h8, q]
theorem kb_25 {s : mS} {σ : Nat} (hσ : σ ≤ 3) (h3 : gI s 80 3 = 25) (h8 : gI s 80 8 = Int32.ofNat σ) : f_Parser_takeBehind s = kb 25 σ s ∧ (kbo 25 σ s → ok_Parser_takeBehind s) := by
  have s4 : σ = 0 ∨ σ = 1 ∨ σ = 2 ∨ σ = 3 := by omega
  rcases s4 with e | e | e | e <;> subst e
  all_goals
    constructor
    · simp [f_Parser_takeBehind, mq_let_e, h3, h8, kb]
    · intro q
      simp [kbo] at q
      simp [ok_Parser_takeBehind, mq_letP_e, mq_let_e, h3, h8, q]
theorem kb_eq {s : mS} {k σ : Nat} (h1 : 1 ≤ k) (h2 : k ≤ 25) (hσ : σ ≤ 3) (h3 : gI s 80 3 = Int32.ofNat k) (h8 : gI s 80 8 = Int32.ofNat σ) : f_Parser_takeBehind s = kb k σ s ∧ (kbo k σ s → ok_Parser_takeBehind s) := by
  rcases k25 h1 h2 with e | e | e | e | e | e | e | e | e | e | e | e | e | e | e | e | e | e | e | e | e | e | e | e | e <;> subst e
  · exact kb_1 hσ h3 h8
  · exact kb_2 hσ h3 h8
  · exact kb_3 hσ h3 h8
  · exact kb_4 hσ h3 h8
  · exact kb_5 hσ h3 h8
  · exact kb_6 hσ h3 h8
  · exact kb_7 hσ h3 h8
  · exact kb_8 hσ h3 h8
  · exact kb_9 hσ h3 h8
  · exact kb_10 hσ h3 h8
  · exact kb_11 hσ h3 h8
  · exact kb_12 hσ h3 h8
  · exact kb_13 hσ h3 h8
  · exact kb_14 hσ h3 h8
  · exact kb_15 hσ h3 h8
  · exact kb_16 hσ h3 h8
  · exact kb_17 hσ h3 h8
  · exact kb_18 hσ h3 h8
  · exact kb_19 hσ h3 h8
  · exact kb_20 hσ h3 h8
  · exact kb_21 hσ h3 h8
  · exact kb_22 hσ h3 h8
  · exact kb_23 hσ h3 h8
  · exact kb_24 hσ h3 h8
  · exact kb_25 hσ h3 h8
