/-! WHAT A METHOD LEAVES AS IT WAS, by program. -/
/-- t is s but for the arrays A, the fields F, and (a) what belongs to the Acts -/
def fp (A : List Nat) (F : List (Nat × Nat)) (a : Bool) (s t : mS) : Prop := (∀ c, c ∉ A → (a = true → c < 40 ∨ 80 ≤ c) → ∀ j, (c, j) ∉ F → t.1 c j = s.1 c j ∧ t.2.1 c j = s.2.1 c j) ∧ t.2.2 = s.2.2
section FP
variable {A A' : List Nat} {F F' : List (Nat × Nat)} {a a' : Bool} {s t u : mS} {c j r m : Nat} {x : Int32} {y : Int64}
theorem fp_r : fp A F a s s := ⟨fun _ _ _ _ _ => ⟨rfl, rfl⟩, rfl⟩
theorem fp_t (h : fp A F a s t) (k : fp A F a t u) : fp A F a s u := ⟨fun c h1 h2 j h3 => ⟨((k.1 c h1 h2 j h3).1).trans (h.1 c h1 h2 j h3).1, ((k.1 c h1 h2 j h3).2).trans (h.1 c h1 h2 j h3).2⟩, k.2.trans h.2⟩
theorem fp_m (h : fp A F a s t) (hA : ∀ c ∈ A, c ∈ A') (hF : ∀ p ∈ F, p ∈ F') (ha : a = true → a' = true) : fp A' F' a' s t := ⟨fun c h1 h2 j h3 => h.1 c (fun q => h1 (hA c q)) (fun q => h2 (ha q)) j (fun q => h3 (hF _ q)), h.2⟩
theorem fp_P (h : fp A F a s t) (k : ∀ j, mq_A (gP s j)) (j : Nat) : mq_A (gP t j) := by
  show mq_A (t.2.2 j)
  rw [h.2]
  exact k j
theorem fp_IA (h : fp A F a s t) (hc : c ∈ A) : fp A F a s (sI t c j x) := by
  refine ⟨fun c' h1 h2 j' h3 => ⟨?_, (h.1 c' h1 h2 j' h3).2⟩, h.2⟩
  show (if c' = c ∧ j' = j then x else t.1 c' j') = _
  rw [if_neg (fun (e : c' = c ∧ j' = j) => h1 (e.1 ▸ hc))]
  exact (h.1 c' h1 h2 j' h3).1
theorem fp_IF (h : fp A F a s t) (hc : (c, j) ∈ F) : fp A F a s (sI t c j x) := by
  refine ⟨fun c' h1 h2 j' h3 => ⟨?_, (h.1 c' h1 h2 j' h3).2⟩, h.2⟩
  show (if c' = c ∧ j' = j then x else t.1 c' j') = _
  rw [if_neg (fun (e : c' = c ∧ j' = j) => h3 (by rw [e.1, e.2]; exact hc))]
  exact (h.1 c' h1 h2 j' h3).1
theorem fp_LA (h : fp A F a s t) (hc : c ∈ A) : fp A F a s (sL t c j y) := by
  refine ⟨fun c' h1 h2 j' h3 => ⟨(h.1 c' h1 h2 j' h3).1, ?_⟩, h.2⟩
  show (if c' = c ∧ j' = j then y else t.2.1 c' j') = _
  rw [if_neg (fun (e : c' = c ∧ j' = j) => h1 (e.1 ▸ hc))]
  exact (h.1 c' h1 h2 j' h3).2
theorem fp_LF (h : fp A F a s t) (hc : (c, j) ∈ F) : fp A F a s (sL t c j y) := by
  refine ⟨fun c' h1 h2 j' h3 => ⟨(h.1 c' h1 h2 j' h3).1, ?_⟩, h.2⟩
  show (if c' = c ∧ j' = j then y else t.2.1 c' j') = _
  rw [if_neg (fun (e : c' = c ∧ j' = j) => h3 (by rw [e.1, e.2]; exact hc))]
  exact (h.1 c' h1 h2 j' h3).2
theorem fp_SI (h : fp A F true s t) (hr : mq_A r) (hm : m < 8) : fp A F true s (sI t (r + m) j x) := by
  refine ⟨fun c' h1 h2 j' h3 => ⟨?_, (h.1 c' h1 h2 j' h3).2⟩, h.2⟩
  show (if c' = r + m ∧ j' = j then x else t.1 c' j') = _
  have h4 := h2 rfl
  rw [if_neg (fun (e : c' = r + m ∧ j' = j) => by rcases hr with rfl | rfl | rfl | rfl | rfl <;> omega)]
  exact (h.1 c' h1 h2 j' h3).1
theorem fp_S0I (h : fp A F true s t) (hr : mq_A r) : fp A F true s (sI t r j x) := fp_SI (m := 0) h hr (by decide)
variable {α γ : Type}
theorem q_if (Q : α → Prop) {p : Prop} [Decidable p] {u v : α} (h1 : p → Q u) (h2 : ¬ p → Q v) : Q (if p then u else v) := by
  by_cases h : p
  · rw [if_pos h]; exact h1 h
  · rw [if_neg h]; exact h2 h
theorem q_let0 (Q : α → Prop) {e : γ} {t : γ → α} (k : ∀ x, Q (t x)) : Q (mq_let e t) := k e
theorem q_call (Q : α → Prop) {R : γ → Prop} {e : γ} {t : γ → α} (h : R e) (k : ∀ x, R x → Q (t x)) : Q (mq_let e t) := k e h
theorem q_join (Q : α → Prop) (R : γ → Prop) {e : γ} {t : γ → α} (arms : ∀ Q' : γ → Prop, (∀ x, R x → Q' x) → Q' e) (k : ∀ x, R x → Q (t x)) : Q (mq_let e t) := k e (arms R (fun _ h => h))
theorem q_el {β : Type} (Q : α → Prop) {o : Option β} {u : β → α} {t : α} (k1 : ∀ v, Q (u v)) (k2 : Q t) : Q (mq_el o u t) := by
  cases o with
  | none => exact k2
  | some v => exact k1 v
end FP
def aw_REC_M_one : List Nat := [166]
def fw_REC_M_one : List (Nat × Nat) := [(116, 79), (116, 81), (116, 82), (116, 83), (116, 84), (116, 85), (116, 86), (116, 88)]
def aw_REC_Night_seek : List Nat := [100, 101]
def fw_REC_Night_seek : List (Nat × Nat) := [(94, 9)]
def aw_REC_M_plans : List Nat := [170]
def fw_REC_M_plans : List (Nat × Nat) := []
def aw_G_coal : List Nat := [4, 5, 6]
def fw_G_coal : List (Nat × Nat) := []
theorem fr_G_coal  (a1 : Int32) (a2 : Int32) (a3 : Int32) (a4 : Int32) (s : mS) : fp aw_G_coal fw_G_coal false s (f_G_coal a1 a2 a3 a4 s).2 := by
  refine (fun (Q : Int32 × mS → Prop) (hQ : ∀ r, fp aw_G_coal fw_G_coal false s r.2 → Q r) => ?_ : ∀ Q : Int32 × mS → Prop, (∀ r, fp aw_G_coal fw_G_coal false s r.2 → Q r) → Q (f_G_coal a1 a2 a3 a4 s)) (fun r => fp aw_G_coal fw_G_coal false s r.2) (fun _ h => h)
  unfold f_G_coal
  refine q_let0 Q (fun x10 => ?_)
  refine q_if Q (fun _ => ?_) (fun _ => ?_)
  · exact hQ _ fp_r
  · refine q_let0 Q (fun x11 => ?_)
    refine q_if Q (fun _ => ?_) (fun _ => ?_)
    · exact hQ _ fp_r
    · refine q_let0 Q (fun x12 => ?_)
      refine q_if Q (fun _ => ?_) (fun _ => ?_)
      · exact hQ _ fp_r
      · refine q_let0 Q (fun x13 => ?_)
        refine q_if Q (fun _ => ?_) (fun _ => ?_)
        · exact hQ _ fp_r
        · exact hQ _ (fp_IA (fp_IA (fp_IA fp_r (by decide)) (by decide)) (by decide))
def aw_M_coal : List Nat := [118, 119, 120]
def fw_M_coal : List (Nat × Nat) := []
theorem fr_M_coal  (a1 : Int32) (a2 : Int32) (a3 : Int32) (a4 : Int32) (s : mS) : fp aw_M_coal fw_M_coal false s (f_M_coal a1 a2 a3 a4 s).2 := by
  refine (fun (Q : Int32 × mS → Prop) (hQ : ∀ r, fp aw_M_coal fw_M_coal false s r.2 → Q r) => ?_ : ∀ Q : Int32 × mS → Prop, (∀ r, fp aw_M_coal fw_M_coal false s r.2 → Q r) → Q (f_M_coal a1 a2 a3 a4 s)) (fun r => fp aw_M_coal fw_M_coal false s r.2) (fun _ h => h)
  unfold f_M_coal
  refine q_let0 Q (fun x10 => ?_)
  refine q_if Q (fun _ => ?_) (fun _ => ?_)
  · exact hQ _ fp_r
  · refine q_let0 Q (fun x11 => ?_)
    refine q_if Q (fun _ => ?_) (fun _ => ?_)
    · exact hQ _ fp_r
    · refine q_let0 Q (fun x12 => ?_)
      refine q_if Q (fun _ => ?_) (fun _ => ?_)
      · exact hQ _ fp_r
      · refine q_let0 Q (fun x13 => ?_)
        refine q_if Q (fun _ => ?_) (fun _ => ?_)
        · exact hQ _ fp_r
        · exact hQ _ (fp_IA (fp_IA (fp_IA fp_r (by decide)) (by decide)) (by decide))
def aw_G_buy : List Nat := [7]
def fw_G_buy : List (Nat × Nat) := [(82, 13)]
theorem fr_G_buy  (a1 : Int32) (a2 : Int32) (a3 : Int32) (s : mS) : fp aw_G_buy fw_G_buy false s (f_G_buy a1 a2 a3 s).2 := by
  refine (fun (Q : Int32 × mS → Prop) (hQ : ∀ r, fp aw_G_buy fw_G_buy false s r.2 → Q r) => ?_ : ∀ Q : Int32 × mS → Prop, (∀ r, fp aw_G_buy fw_G_buy false s r.2 → Q r) → Q (f_G_buy a1 a2 a3 s)) (fun r => fp aw_G_buy fw_G_buy false s r.2) (fun _ h => h)
  unfold f_G_buy
  refine q_let0 Q (fun x10 => ?_)
  refine q_if Q (fun _ => ?_) (fun _ => ?_)
  · exact hQ _ fp_r
  · refine q_let0 Q (fun x11 => ?_)
    refine q_if Q (fun _ => ?_) (fun _ => ?_)
    · exact hQ _ fp_r
    · refine q_let0 Q (fun x12 => ?_)
      refine q_if Q (fun _ => ?_) (fun _ => ?_)
      · exact hQ _ fp_r
      · refine q_if Q (fun _ => ?_) (fun _ => ?_)
        · exact hQ _ (fp_LF (fp_IA fp_r (by decide)) (by decide))
        · exact hQ _ fp_r
def aw_M_buy : List Nat := [121]
def fw_M_buy : List (Nat × Nat) := [(116, 39)]
theorem fr_M_buy  (a1 : Int32) (a2 : Int32) (a3 : Int32) (s : mS) : fp aw_M_buy fw_M_buy false s (f_M_buy a1 a2 a3 s).2 := by
  refine (fun (Q : Int32 × mS → Prop) (hQ : ∀ r, fp aw_M_buy fw_M_buy false s r.2 → Q r) => ?_ : ∀ Q : Int32 × mS → Prop, (∀ r, fp aw_M_buy fw_M_buy false s r.2 → Q r) → Q (f_M_buy a1 a2 a3 s)) (fun r => fp aw_M_buy fw_M_buy false s r.2) (fun _ h => h)
  unfold f_M_buy
  refine q_let0 Q (fun x10 => ?_)
  refine q_if Q (fun _ => ?_) (fun _ => ?_)
  · exact hQ _ fp_r
  · refine q_let0 Q (fun x11 => ?_)
    refine q_if Q (fun _ => ?_) (fun _ => ?_)
    · exact hQ _ fp_r
    · refine q_let0 Q (fun x12 => ?_)
      refine q_if Q (fun _ => ?_) (fun _ => ?_)
      · exact hQ _ fp_r
      · refine q_if Q (fun _ => ?_) (fun _ => ?_)
        · exact hQ _ (fp_LF (fp_IA fp_r (by decide)) (by decide))
        · exact hQ _ fp_r
def aw_Works_build : List Nat := []
def fw_Works_build : List (Nat × Nat) := [(3, 8)]
theorem fr_Works_build   (s : mS) : fp aw_Works_build fw_Works_build false s (f_Works_build s).2 := by
  refine (fun (Q : Int32 × mS → Prop) (hQ : ∀ r, fp aw_Works_build fw_Works_build false s r.2 → Q r) => ?_ : ∀ Q : Int32 × mS → Prop, (∀ r, fp aw_Works_build fw_Works_build false s r.2 → Q r) → Q (f_Works_build s)) (fun r => fp aw_Works_build fw_Works_build false s r.2) (fun _ h => h)
  unfold f_Works_build
  refine q_if Q (fun _ => ?_) (fun _ => ?_)
  · exact hQ _ fp_r
  · exact hQ _ (fp_IF fp_r (by decide))
def aw_G_bench : List Nat := []
def fw_G_bench : List (Nat × Nat) := [(3, 8)]
theorem fr_G_bench   (s : mS) : fp aw_G_bench fw_G_bench false s (f_G_bench s).2 := by
  refine (fun (Q : Int32 × mS → Prop) (hQ : ∀ r, fp aw_G_bench fw_G_bench false s r.2 → Q r) => ?_ : ∀ Q : Int32 × mS → Prop, (∀ r, fp aw_G_bench fw_G_bench false s r.2 → Q r) → Q (f_G_bench s)) (fun r => fp aw_G_bench fw_G_bench false s r.2) (fun _ h => h)
  unfold f_G_bench
  refine q_call Q (R := fun (x10 : Int32 × mS) => fp aw_G_bench fw_G_bench false s x10.2) (fp_t fp_r (fp_m (fr_Works_build s) (by decide) (by decide) (by decide))) (fun x10 gx10 => ?_)
  exact hQ _ gx10
def aw_M_bench : List Nat := []
def fw_M_bench : List (Nat × Nat) := [(116, 4)]
theorem fr_M_bench   (s : mS) : fp aw_M_bench fw_M_bench false s (f_M_bench s).2 := by
  refine (fun (Q : Int32 × mS → Prop) (hQ : ∀ r, fp aw_M_bench fw_M_bench false s r.2 → Q r) => ?_ : ∀ Q : Int32 × mS → Prop, (∀ r, fp aw_M_bench fw_M_bench false s r.2 → Q r) → Q (f_M_bench s)) (fun r => fp aw_M_bench fw_M_bench false s r.2) (fun _ h => h)
  unfold f_M_bench
  refine q_if Q (fun _ => ?_) (fun _ => ?_)
  · exact hQ _ fp_r
  · exact hQ _ (fp_IF fp_r (by decide))
def aw_Works_light : List Nat := [7, 8, 9, 10, 11]
def fw_Works_light : List (Nat × Nat) := [(3, 10)]
theorem fr_Works_light  (a1 : Int32) (a2 : Int32) (a3 : Int32) (s : mS) : fp aw_Works_light fw_Works_light false s (f_Works_light a1 a2 a3 s).2 := by
  refine (fun (Q : Int32 × mS → Prop) (hQ : ∀ r, fp aw_Works_light fw_Works_light false s r.2 → Q r) => ?_ : ∀ Q : Int32 × mS → Prop, (∀ r, fp aw_Works_light fw_Works_light false s r.2 → Q r) → Q (f_Works_light a1 a2 a3 s)) (fun r => fp aw_Works_light fw_Works_light false s r.2) (fun _ h => h)
  unfold f_Works_light
  refine q_if Q (fun _ => ?_) (fun _ => ?_)
  · exact hQ _ fp_r
  · refine q_if Q (fun _ => ?_) (fun _ => ?_)
    · exact hQ _ fp_r
    · refine q_if Q (fun _ => ?_) (fun _ => ?_)
      · exact hQ _ fp_r
      · refine q_let0 Q (fun x10 => ?_)
        refine q_if Q (fun _ => ?_) (fun _ => ?_)
        · exact hQ _ fp_r
        · refine q_let0 Q (fun x11 => ?_)
          refine q_if Q (fun _ => ?_) (fun _ => ?_)
          · exact hQ _ fp_r
          · refine q_if Q (fun _ => ?_) (fun _ => ?_)
            · exact hQ _ fp_r
            · refine q_if Q (fun _ => ?_) (fun _ => ?_)
              · exact hQ _ fp_r
              · refine q_if Q (fun _ => ?_) (fun _ => ?_)
                · exact hQ _ (fp_IA (fp_IA (fp_IA (fp_IA (fp_IF (fp_IA fp_r (by decide)) (by decide)) (by decide)) (by decide)) (by decide)) (by decide))
                · exact hQ _ fp_r
def aw_G_charge : List Nat := [7, 8, 9, 10, 11]
def fw_G_charge : List (Nat × Nat) := [(3, 10)]
theorem fr_G_charge  (a1 : Int32) (a2 : Int32) (a3 : Int32) (s : mS) : fp aw_G_charge fw_G_charge false s (f_G_charge a1 a2 a3 s).2 := by
  refine (fun (Q : Int32 × mS → Prop) (hQ : ∀ r, fp aw_G_charge fw_G_charge false s r.2 → Q r) => ?_ : ∀ Q : Int32 × mS → Prop, (∀ r, fp aw_G_charge fw_G_charge false s r.2 → Q r) → Q (f_G_charge a1 a2 a3 s)) (fun r => fp aw_G_charge fw_G_charge false s r.2) (fun _ h => h)
  unfold f_G_charge
  refine q_call Q (R := fun (x10 : Int32 × mS) => fp aw_G_charge fw_G_charge false s x10.2) (fp_t fp_r (fp_m (fr_Works_light a1 a2 a3 s) (by decide) (by decide) (by decide))) (fun x10 gx10 => ?_)
  exact hQ _ gx10
def aw_M_charge : List Nat := [121, 123, 124, 125, 126]
def fw_M_charge : List (Nat × Nat) := [(116, 3)]
theorem fr_M_charge  (a1 : Int32) (a2 : Int32) (a3 : Int32) (s : mS) : fp aw_M_charge fw_M_charge false s (f_M_charge a1 a2 a3 s).2 := by
  refine (fun (Q : Int32 × mS → Prop) (hQ : ∀ r, fp aw_M_charge fw_M_charge false s r.2 → Q r) => ?_ : ∀ Q : Int32 × mS → Prop, (∀ r, fp aw_M_charge fw_M_charge false s r.2 → Q r) → Q (f_M_charge a1 a2 a3 s)) (fun r => fp aw_M_charge fw_M_charge false s r.2) (fun _ h => h)
  unfold f_M_charge
  refine q_let0 Q (fun x10 => ?_)
  refine q_if Q (fun _ => ?_) (fun _ => ?_)
  · exact hQ _ fp_r
  · refine q_let0 Q (fun x11 => ?_)
    refine q_if Q (fun _ => ?_) (fun _ => ?_)
    · exact hQ _ fp_r
    · refine q_if Q (fun _ => ?_) (fun _ => ?_)
      · refine q_let0 Q (fun x12 => ?_)
        refine q_if Q (fun _ => ?_) (fun _ => ?_)
        · exact hQ _ fp_r
        · refine q_if Q (fun _ => ?_) (fun _ => ?_)
          · exact hQ _ fp_r
          · refine q_if Q (fun _ => ?_) (fun _ => ?_)
            · exact hQ _ (fp_IA (fp_IA (fp_IA (fp_IA (fp_IF (fp_IA fp_r (by decide)) (by decide)) (by decide)) (by decide)) (by decide)) (by decide))
            · exact hQ _ fp_r
      · exact hQ _ fp_r
def aw_G_hands : List Nat := []
def fw_G_hands : List (Nat × Nat) := [(3, 9)]
theorem fr_G_hands  (a1 : Int32) (s : mS) : fp aw_G_hands fw_G_hands false s (f_G_hands a1 s).2 := by
  refine (fun (Q : Int32 × mS → Prop) (hQ : ∀ r, fp aw_G_hands fw_G_hands false s r.2 → Q r) => ?_ : ∀ Q : Int32 × mS → Prop, (∀ r, fp aw_G_hands fw_G_hands false s r.2 → Q r) → Q (f_G_hands a1 s)) (fun r => fp aw_G_hands fw_G_hands false s r.2) (fun _ h => h)
  unfold f_G_hands
  refine q_let0 Q (fun x10 => ?_)
  refine q_if Q (fun _ => ?_) (fun _ => ?_)
  · exact hQ _ fp_r
  · exact hQ _ (fp_IF fp_r (by decide))
def aw_M_hands : List Nat := []
def fw_M_hands : List (Nat × Nat) := [(116, 2)]
theorem fr_M_hands  (a1 : Int32) (s : mS) : fp aw_M_hands fw_M_hands false s (f_M_hands a1 s).2 := by
  refine (fun (Q : Int32 × mS → Prop) (hQ : ∀ r, fp aw_M_hands fw_M_hands false s r.2 → Q r) => ?_ : ∀ Q : Int32 × mS → Prop, (∀ r, fp aw_M_hands fw_M_hands false s r.2 → Q r) → Q (f_M_hands a1 s)) (fun r => fp aw_M_hands fw_M_hands false s r.2) (fun _ h => h)
  unfold f_M_hands
  refine q_let0 Q (fun x10 => ?_)
  refine q_if Q (fun _ => ?_) (fun _ => ?_)
  · exact hQ _ fp_r
  · exact hQ _ (fp_IF fp_r (by decide))
def aw_Works_letOff : List Nat := []
def fw_Works_letOff : List (Nat × Nat) := [(3, 12), (3, 14)]
theorem fr_Works_letOff   (s : mS) : fp aw_Works_letOff fw_Works_letOff false s (f_Works_letOff s) := by
  refine (fun (Q : mS → Prop) (hQ : ∀ r, fp aw_Works_letOff fw_Works_letOff false s r → Q r) => ?_ : ∀ Q : mS → Prop, (∀ r, fp aw_Works_letOff fw_Works_letOff false s r → Q r) → Q (f_Works_letOff s)) (fun r => fp aw_Works_letOff fw_Works_letOff false s r) (fun _ h => h)
  unfold f_Works_letOff
  refine q_if Q (fun _ => ?_) (fun _ => ?_)
  · exact hQ _ fp_r
  · exact hQ _ (fp_IF (fp_LF fp_r (by decide)) (by decide))
def aw_G_holder : List Nat := []
def fw_G_holder : List (Nat × Nat) := [(3, 11), (3, 12), (3, 14)]
theorem fr_G_holder  (a1 : Int32) (s : mS) : fp aw_G_holder fw_G_holder false s (f_G_holder a1 s).2 := by
  refine (fun (Q : Int32 × mS → Prop) (hQ : ∀ r, fp aw_G_holder fw_G_holder false s r.2 → Q r) => ?_ : ∀ Q : Int32 × mS → Prop, (∀ r, fp aw_G_holder fw_G_holder false s r.2 → Q r) → Q (f_G_holder a1 s)) (fun r => fp aw_G_holder fw_G_holder false s r.2) (fun _ h => h)
  unfold f_G_holder
  refine q_let0 Q (fun x10 => ?_)
  refine q_if Q (fun _ => ?_) (fun _ => ?_)
  · exact hQ _ fp_r
  · refine q_call Q (R := fun (x11 : mS) => fp aw_G_holder fw_G_holder false s x11) (fp_t (fp_IF fp_r (by decide)) (fp_m (fr_Works_letOff (sI s 3 11 a1)) (by decide) (by decide) (by decide))) (fun x11 gx11 => ?_)
    exact hQ _ gx11
def aw_M_fills : List Nat := []
def fw_M_fills : List (Nat × Nat) := [(116, 6), (116, 37)]
theorem fr_M_fills  (a1 : Int32) (s : mS) : fp aw_M_fills fw_M_fills false s (f_M_fills a1 s) := by
  refine (fun (Q : mS → Prop) (hQ : ∀ r, fp aw_M_fills fw_M_fills false s r → Q r) => ?_ : ∀ Q : mS → Prop, (∀ r, fp aw_M_fills fw_M_fills false s r → Q r) → Q (f_M_fills a1 s)) (fun r => fp aw_M_fills fw_M_fills false s r) (fun _ h => h)
  unfold f_M_fills
  refine q_if Q (fun _ => ?_) (fun _ => ?_)
  · exact hQ _ (fp_IF (fp_LF (fp_IF fp_r (by decide)) (by decide)) (by decide))
  · exact hQ _ (fp_IF fp_r (by decide))
def aw_M_holder : List Nat := []
def fw_M_holder : List (Nat × Nat) := [(116, 5), (116, 6), (116, 37)]
theorem fr_M_holder  (a1 : Int32) (s : mS) : fp aw_M_holder fw_M_holder false s (f_M_holder a1 s).2 := by
  refine (fun (Q : Int32 × mS → Prop) (hQ : ∀ r, fp aw_M_holder fw_M_holder false s r.2 → Q r) => ?_ : ∀ Q : Int32 × mS → Prop, (∀ r, fp aw_M_holder fw_M_holder false s r.2 → Q r) → Q (f_M_holder a1 s)) (fun r => fp aw_M_holder fw_M_holder false s r.2) (fun _ h => h)
  unfold f_M_holder
  refine q_let0 Q (fun x10 => ?_)
  refine q_if Q (fun _ => ?_) (fun _ => ?_)
  · exact hQ _ fp_r
  · refine q_call Q (R := fun (x11 : mS) => fp aw_M_holder fw_M_holder false s x11) (fp_t (fp_IF fp_r (by decide)) (fp_m (fr_M_fills (0 : Int32) (sI s 116 5 a1)) (by decide) (by decide) (by decide))) (fun x11 gx11 => ?_)
    exact hQ _ gx11
def aw_G_round : List Nat := []
def fw_G_round : List (Nat × Nat) := [(1, 1), (1, 2)]
theorem fr_G_round  (a1 : Int32) (a2 : Int32) (s : mS) : fp aw_G_round fw_G_round false s (f_G_round a1 a2 s).2 := by
  refine (fun (Q : Int32 × mS → Prop) (hQ : ∀ r, fp aw_G_round fw_G_round false s r.2 → Q r) => ?_ : ∀ Q : Int32 × mS → Prop, (∀ r, fp aw_G_round fw_G_round false s r.2 → Q r) → Q (f_G_round a1 a2 s)) (fun r => fp aw_G_round fw_G_round false s r.2) (fun _ h => h)
  unfold f_G_round
  refine q_let0 Q (fun x10 => ?_)
  refine q_if Q (fun _ => ?_) (fun _ => ?_)
  · exact hQ _ fp_r
  · refine q_let0 Q (fun x11 => ?_)
    refine q_if Q (fun _ => ?_) (fun _ => ?_)
    · exact hQ _ fp_r
    · exact hQ _ (fp_IF (fp_IF fp_r (by decide)) (by decide))
def aw_M_round : List Nat := []
def fw_M_round : List (Nat × Nat) := [(116, 9), (116, 10)]
theorem fr_M_round  (a1 : Int32) (a2 : Int32) (s : mS) : fp aw_M_round fw_M_round false s (f_M_round a1 a2 s).2 := by
  refine (fun (Q : Int32 × mS → Prop) (hQ : ∀ r, fp aw_M_round fw_M_round false s r.2 → Q r) => ?_ : ∀ Q : Int32 × mS → Prop, (∀ r, fp aw_M_round fw_M_round false s r.2 → Q r) → Q (f_M_round a1 a2 s)) (fun r => fp aw_M_round fw_M_round false s r.2) (fun _ h => h)
  unfold f_M_round
  refine q_let0 Q (fun x10 => ?_)
  refine q_if Q (fun _ => ?_) (fun _ => ?_)
  · exact hQ _ fp_r
  · refine q_let0 Q (fun x11 => ?_)
    refine q_if Q (fun _ => ?_) (fun _ => ?_)
    · exact hQ _ fp_r
    · exact hQ _ (fp_IF (fp_IF fp_r (by decide)) (by decide))
def aw_G_fog : List Nat := [2]
def fw_G_fog : List (Nat × Nat) := []
theorem fr_G_fog  (a1 : Int32) (a2 : Int32) (s : mS) : fp aw_G_fog fw_G_fog false s (f_G_fog a1 a2 s).2 := by
  refine (fun (Q : Int32 × mS → Prop) (hQ : ∀ r, fp aw_G_fog fw_G_fog false s r.2 → Q r) => ?_ : ∀ Q : Int32 × mS → Prop, (∀ r, fp aw_G_fog fw_G_fog false s r.2 → Q r) → Q (f_G_fog a1 a2 s)) (fun r => fp aw_G_fog fw_G_fog false s r.2) (fun _ h => h)
  unfold f_G_fog
  refine q_let0 Q (fun x10 => ?_)
  refine q_if Q (fun _ => ?_) (fun _ => ?_)
  · exact hQ _ fp_r
  · refine q_let0 Q (fun x11 => ?_)
    refine q_if Q (fun _ => ?_) (fun _ => ?_)
    · exact hQ _ fp_r
    · exact hQ _ (fp_IA fp_r (by decide))
def aw_M_fog : List Nat := [122]
def fw_M_fog : List (Nat × Nat) := []
theorem fr_M_fog  (a1 : Int32) (a2 : Int32) (s : mS) : fp aw_M_fog fw_M_fog false s (f_M_fog a1 a2 s).2 := by
  refine (fun (Q : Int32 × mS → Prop) (hQ : ∀ r, fp aw_M_fog fw_M_fog false s r.2 → Q r) => ?_ : ∀ Q : Int32 × mS → Prop, (∀ r, fp aw_M_fog fw_M_fog false s r.2 → Q r) → Q (f_M_fog a1 a2 s)) (fun r => fp aw_M_fog fw_M_fog false s r.2) (fun _ h => h)
  unfold f_M_fog
  refine q_let0 Q (fun x10 => ?_)
  refine q_if Q (fun _ => ?_) (fun _ => ?_)
  · exact hQ _ fp_r
  · refine q_let0 Q (fun x11 => ?_)
    refine q_if Q (fun _ => ?_) (fun _ => ?_)
    · exact hQ _ fp_r
    · exact hQ _ (fp_IA fp_r (by decide))
def aw_G_gate : List Nat := []
def fw_G_gate : List (Nat × Nat) := [(25, 11)]
theorem fr_G_gate  (a1 : Int32) (s : mS) : fp aw_G_gate fw_G_gate false s (f_G_gate a1 s).2 := by
  refine (fun (Q : Int32 × mS → Prop) (hQ : ∀ r, fp aw_G_gate fw_G_gate false s r.2 → Q r) => ?_ : ∀ Q : Int32 × mS → Prop, (∀ r, fp aw_G_gate fw_G_gate false s r.2 → Q r) → Q (f_G_gate a1 s)) (fun r => fp aw_G_gate fw_G_gate false s r.2) (fun _ h => h)
  unfold f_G_gate
  refine q_let0 Q (fun x10 => ?_)
  refine q_if Q (fun _ => ?_) (fun _ => ?_)
  · exact hQ _ fp_r
  · exact hQ _ (fp_IF fp_r (by decide))
def aw_M_gate : List Nat := []
def fw_M_gate : List (Nat × Nat) := [(116, 11)]
theorem fr_M_gate  (a1 : Int32) (s : mS) : fp aw_M_gate fw_M_gate false s (f_M_gate a1 s).2 := by
  refine (fun (Q : Int32 × mS → Prop) (hQ : ∀ r, fp aw_M_gate fw_M_gate false s r.2 → Q r) => ?_ : ∀ Q : Int32 × mS → Prop, (∀ r, fp aw_M_gate fw_M_gate false s r.2 → Q r) → Q (f_M_gate a1 s)) (fun r => fp aw_M_gate fw_M_gate false s r.2) (fun _ h => h)
  unfold f_M_gate
  refine q_let0 Q (fun x10 => ?_)
  refine q_if Q (fun _ => ?_) (fun _ => ?_)
  · exact hQ _ fp_r
  · exact hQ _ (fp_IF fp_r (by decide))
def aw_Net_lay : List Nat := [26, 27, 28]
def fw_Net_lay : List (Nat × Nat) := [(25, 10)]
theorem fr_Net_lay  (a1 : Int32) (a2 : Int32) (a3 : Int32) (s : mS) : fp aw_Net_lay fw_Net_lay false s (f_Net_lay a1 a2 a3 s).2 := by
  refine (fun (Q : Int32 × mS → Prop) (hQ : ∀ r, fp aw_Net_lay fw_Net_lay false s r.2 → Q r) => ?_ : ∀ Q : Int32 × mS → Prop, (∀ r, fp aw_Net_lay fw_Net_lay false s r.2 → Q r) → Q (f_Net_lay a1 a2 a3 s)) (fun r => fp aw_Net_lay fw_Net_lay false s r.2) (fun _ h => h)
  unfold f_Net_lay
  refine q_if Q (fun _ => ?_) (fun _ => ?_)
  · exact hQ _ (fp_IF (fp_IA (fp_IA (fp_IA fp_r (by decide)) (by decide)) (by decide)) (by decide))
  · exact hQ _ fp_r
def aw_G_node : List Nat := [26, 27, 28]
def fw_G_node : List (Nat × Nat) := [(25, 10)]
theorem fr_G_node  (a1 : Int32) (a2 : Int32) (a3 : Int32) (s : mS) : fp aw_G_node fw_G_node false s (f_G_node a1 a2 a3 s).2 := by
  refine (fun (Q : Int32 × mS → Prop) (hQ : ∀ r, fp aw_G_node fw_G_node false s r.2 → Q r) => ?_ : ∀ Q : Int32 × mS → Prop, (∀ r, fp aw_G_node fw_G_node false s r.2 → Q r) → Q (f_G_node a1 a2 a3 s)) (fun r => fp aw_G_node fw_G_node false s r.2) (fun _ h => h)
  unfold f_G_node
  refine q_let0 Q (fun x10 => ?_)
  refine q_if Q (fun _ => ?_) (fun _ => ?_)
  · exact hQ _ fp_r
  · refine q_let0 Q (fun x11 => ?_)
    refine q_if Q (fun _ => ?_) (fun _ => ?_)
    · exact hQ _ fp_r
    · refine q_let0 Q (fun x12 => ?_)
      refine q_if Q (fun _ => ?_) (fun _ => ?_)
      · exact hQ _ fp_r
      · refine q_call Q (R := fun (x13 : Int32 × mS) => fp aw_G_node fw_G_node false s x13.2) (fp_t fp_r (fp_m (fr_Net_lay a1 a2 a3 s) (by decide) (by decide) (by decide))) (fun x13 gx13 => ?_)
        exact hQ _ gx13
def aw_M_node : List Nat := [127, 128, 129]
def fw_M_node : List (Nat × Nat) := [(116, 7), (116, 102)]
theorem fr_M_node  (a1 : Int32) (a2 : Int32) (a3 : Int32) (s : mS) : fp aw_M_node fw_M_node false s (f_M_node a1 a2 a3 s).2 := by
  refine (fun (Q : Int32 × mS → Prop) (hQ : ∀ r, fp aw_M_node fw_M_node false s r.2 → Q r) => ?_ : ∀ Q : Int32 × mS → Prop, (∀ r, fp aw_M_node fw_M_node false s r.2 → Q r) → Q (f_M_node a1 a2 a3 s)) (fun r => fp aw_M_node fw_M_node false s r.2) (fun _ h => h)
  unfold f_M_node
  refine q_let0 Q (fun x10 => ?_)
  refine q_if Q (fun _ => ?_) (fun _ => ?_)
  · exact hQ _ fp_r
  · refine q_let0 Q (fun x11 => ?_)
    refine q_if Q (fun _ => ?_) (fun _ => ?_)
    · exact hQ _ fp_r
    · refine q_let0 Q (fun x12 => ?_)
      refine q_if Q (fun _ => ?_) (fun _ => ?_)
      · exact hQ _ fp_r
      · refine q_if Q (fun _ => ?_) (fun _ => ?_)
        · exact hQ _ fp_r
        · exact hQ _ (fp_IF (fp_IF (fp_IA (fp_IA (fp_IA fp_r (by decide)) (by decide)) (by decide)) (by decide)) (by decide))
def aw_G_water : List Nat := [29]
def fw_G_water : List (Nat × Nat) := []
theorem fr_G_water  (a1 : Int32) (a2 : Int32) (s : mS) : fp aw_G_water fw_G_water false s (f_G_water a1 a2 s).2 := by
  refine (fun (Q : Int32 × mS → Prop) (hQ : ∀ r, fp aw_G_water fw_G_water false s r.2 → Q r) => ?_ : ∀ Q : Int32 × mS → Prop, (∀ r, fp aw_G_water fw_G_water false s r.2 → Q r) → Q (f_G_water a1 a2 s)) (fun r => fp aw_G_water fw_G_water false s r.2) (fun _ h => h)
  unfold f_G_water
  refine q_let0 Q (fun x10 => ?_)
  refine q_if Q (fun _ => ?_) (fun _ => ?_)
  · exact hQ _ fp_r
  · refine q_if Q (fun _ => ?_) (fun _ => ?_)
    · exact hQ _ fp_r
    · exact hQ _ (fp_IA fp_r (by decide))
def aw_M_water : List Nat := [130]
def fw_M_water : List (Nat × Nat) := []
theorem fr_M_water  (a1 : Int32) (a2 : Int32) (s : mS) : fp aw_M_water fw_M_water false s (f_M_water a1 a2 s).2 := by
  refine (fun (Q : Int32 × mS → Prop) (hQ : ∀ r, fp aw_M_water fw_M_water false s r.2 → Q r) => ?_ : ∀ Q : Int32 × mS → Prop, (∀ r, fp aw_M_water fw_M_water false s r.2 → Q r) → Q (f_M_water a1 a2 s)) (fun r => fp aw_M_water fw_M_water false s r.2) (fun _ h => h)
  unfold f_M_water
  refine q_let0 Q (fun x10 => ?_)
  refine q_if Q (fun _ => ?_) (fun _ => ?_)
  · exact hQ _ fp_r
  · refine q_if Q (fun _ => ?_) (fun _ => ?_)
    · exact hQ _ fp_r
    · exact hQ _ (fp_IA fp_r (by decide))
def aw_Things_put : List Nat := [13, 14, 15, 16]
def fw_Things_put : List (Nat × Nat) := [(12, 12)]
theorem fr_Things_put  (a1 : Int32) (a2 : Int32) (a3 : Int32) (a4 : Int32) (s : mS) : fp aw_Things_put fw_Things_put false s (f_Things_put a1 a2 a3 a4 s).2 := by
  refine (fun (Q : Int32 × mS → Prop) (hQ : ∀ r, fp aw_Things_put fw_Things_put false s r.2 → Q r) => ?_ : ∀ Q : Int32 × mS → Prop, (∀ r, fp aw_Things_put fw_Things_put false s r.2 → Q r) → Q (f_Things_put a1 a2 a3 a4 s)) (fun r => fp aw_Things_put fw_Things_put false s r.2) (fun _ h => h)
  unfold f_Things_put
  refine q_if Q (fun _ => ?_) (fun _ => ?_)
  · exact hQ _ (fp_IF (fp_IA (fp_IA (fp_IA (fp_IA fp_r (by decide)) (by decide)) (by decide)) (by decide)) (by decide))
  · exact hQ _ fp_r
def aw_G_thing : List Nat := [13, 14, 15, 16]
def fw_G_thing : List (Nat × Nat) := [(12, 12)]
theorem fr_G_thing  (a1 : Int32) (a2 : Int32) (a3 : Int32) (a4 : Int32) (s : mS) : fp aw_G_thing fw_G_thing false s (f_G_thing a1 a2 a3 a4 s).2 := by
  refine (fun (Q : Int32 × mS → Prop) (hQ : ∀ r, fp aw_G_thing fw_G_thing false s r.2 → Q r) => ?_ : ∀ Q : Int32 × mS → Prop, (∀ r, fp aw_G_thing fw_G_thing false s r.2 → Q r) → Q (f_G_thing a1 a2 a3 a4 s)) (fun r => fp aw_G_thing fw_G_thing false s r.2) (fun _ h => h)
  unfold f_G_thing
  refine q_let0 Q (fun x10 => ?_)
  refine q_if Q (fun _ => ?_) (fun _ => ?_)
  · exact hQ _ fp_r
  · refine q_let0 Q (fun x11 => ?_)
    refine q_if Q (fun _ => ?_) (fun _ => ?_)
    · exact hQ _ fp_r
    · refine q_let0 Q (fun x12 => ?_)
      refine q_if Q (fun _ => ?_) (fun _ => ?_)
      · exact hQ _ fp_r
      · refine q_let0 Q (fun x13 => ?_)
        refine q_let0 Q (fun x14 => ?_)
        refine q_if Q (fun _ => ?_) (fun _ => ?_)
        · exact hQ _ fp_r
        · refine q_call Q (R := fun (x15 : Int32 × mS) => fp aw_G_thing fw_G_thing false s x15.2) (fp_t fp_r (fp_m (fr_Things_put a1 a2 a3 a4 s) (by decide) (by decide) (by decide))) (fun x15 gx15 => ?_)
          exact hQ _ gx15
def aw_M_thing : List Nat := [132, 133, 134, 135]
def fw_M_thing : List (Nat × Nat) := [(116, 8)]
theorem fr_M_thing  (a1 : Int32) (a2 : Int32) (a3 : Int32) (a4 : Int32) (s : mS) : fp aw_M_thing fw_M_thing false s (f_M_thing a1 a2 a3 a4 s).2 := by
  refine (fun (Q : Int32 × mS → Prop) (hQ : ∀ r, fp aw_M_thing fw_M_thing false s r.2 → Q r) => ?_ : ∀ Q : Int32 × mS → Prop, (∀ r, fp aw_M_thing fw_M_thing false s r.2 → Q r) → Q (f_M_thing a1 a2 a3 a4 s)) (fun r => fp aw_M_thing fw_M_thing false s r.2) (fun _ h => h)
  unfold f_M_thing
  refine q_let0 Q (fun x10 => ?_)
  refine q_if Q (fun _ => ?_) (fun _ => ?_)
  · exact hQ _ fp_r
  · refine q_let0 Q (fun x11 => ?_)
    refine q_if Q (fun _ => ?_) (fun _ => ?_)
    · exact hQ _ fp_r
    · refine q_let0 Q (fun x12 => ?_)
      refine q_if Q (fun _ => ?_) (fun _ => ?_)
      · exact hQ _ fp_r
      · refine q_let0 Q (fun x13 => ?_)
        refine q_let0 Q (fun x14 => ?_)
        refine q_if Q (fun _ => ?_) (fun _ => ?_)
        · exact hQ _ fp_r
        · refine q_if Q (fun _ => ?_) (fun _ => ?_)
          · exact hQ _ fp_r
          · exact hQ _ (fp_IF (fp_IA (fp_IA (fp_IA (fp_IA fp_r (by decide)) (by decide)) (by decide)) (by decide)) (by decide))
def aw_G_cut : List Nat := [17]
def fw_G_cut : List (Nat × Nat) := []
theorem fr_G_cut  (a1 : Int32) (a2 : Int32) (s : mS) : fp aw_G_cut fw_G_cut false s (f_G_cut a1 a2 s).2 := by
  refine (fun (Q : Int32 × mS → Prop) (hQ : ∀ r, fp aw_G_cut fw_G_cut false s r.2 → Q r) => ?_ : ∀ Q : Int32 × mS → Prop, (∀ r, fp aw_G_cut fw_G_cut false s r.2 → Q r) → Q (f_G_cut a1 a2 s)) (fun r => fp aw_G_cut fw_G_cut false s r.2) (fun _ h => h)
  unfold f_G_cut
  refine q_let0 Q (fun x10 => ?_)
  refine q_if Q (fun _ => ?_) (fun _ => ?_)
  · exact hQ _ fp_r
  · refine q_if Q (fun _ => ?_) (fun _ => ?_)
    · exact hQ _ fp_r
    · exact hQ _ (fp_IA fp_r (by decide))
def aw_M_cut : List Nat := [140]
def fw_M_cut : List (Nat × Nat) := []
theorem fr_M_cut  (a1 : Int32) (a2 : Int32) (s : mS) : fp aw_M_cut fw_M_cut false s (f_M_cut a1 a2 s).2 := by
  refine (fun (Q : Int32 × mS → Prop) (hQ : ∀ r, fp aw_M_cut fw_M_cut false s r.2 → Q r) => ?_ : ∀ Q : Int32 × mS → Prop, (∀ r, fp aw_M_cut fw_M_cut false s r.2 → Q r) → Q (f_M_cut a1 a2 s)) (fun r => fp aw_M_cut fw_M_cut false s r.2) (fun _ h => h)
  unfold f_M_cut
  refine q_let0 Q (fun x10 => ?_)
  refine q_if Q (fun _ => ?_) (fun _ => ?_)
  · exact hQ _ fp_r
  · refine q_if Q (fun _ => ?_) (fun _ => ?_)
    · exact hQ _ fp_r
    · exact hQ _ (fp_IA fp_r (by decide))
def aw_G_coin : List Nat := [19]
def fw_G_coin : List (Nat × Nat) := []
theorem fr_G_coin  (a1 : Int32) (a2 : Int32) (s : mS) : fp aw_G_coin fw_G_coin false s (f_G_coin a1 a2 s).2 := by
  refine (fun (Q : Int32 × mS → Prop) (hQ : ∀ r, fp aw_G_coin fw_G_coin false s r.2 → Q r) => ?_ : ∀ Q : Int32 × mS → Prop, (∀ r, fp aw_G_coin fw_G_coin false s r.2 → Q r) → Q (f_G_coin a1 a2 s)) (fun r => fp aw_G_coin fw_G_coin false s r.2) (fun _ h => h)
  unfold f_G_coin
  refine q_let0 Q (fun x10 => ?_)
  refine q_if Q (fun _ => ?_) (fun _ => ?_)
  · exact hQ _ fp_r
  · refine q_let0 Q (fun x11 => ?_)
    refine q_if Q (fun _ => ?_) (fun _ => ?_)
    · exact hQ _ fp_r
    · exact hQ _ (fp_IA fp_r (by decide))
def aw_M_coin : List Nat := [136]
def fw_M_coin : List (Nat × Nat) := []
theorem fr_M_coin  (a1 : Int32) (a2 : Int32) (s : mS) : fp aw_M_coin fw_M_coin false s (f_M_coin a1 a2 s).2 := by
  refine (fun (Q : Int32 × mS → Prop) (hQ : ∀ r, fp aw_M_coin fw_M_coin false s r.2 → Q r) => ?_ : ∀ Q : Int32 × mS → Prop, (∀ r, fp aw_M_coin fw_M_coin false s r.2 → Q r) → Q (f_M_coin a1 a2 s)) (fun r => fp aw_M_coin fw_M_coin false s r.2) (fun _ h => h)
  unfold f_M_coin
  refine q_let0 Q (fun x10 => ?_)
  refine q_if Q (fun _ => ?_) (fun _ => ?_)
  · exact hQ _ fp_r
  · refine q_if Q (fun _ => ?_) (fun _ => ?_)
    · refine q_let0 Q (fun x11 => ?_)
      refine q_if Q (fun _ => ?_) (fun _ => ?_)
      · exact hQ _ fp_r
      · exact hQ _ (fp_IA fp_r (by decide))
    · exact hQ _ fp_r
def aw_G_frost : List Nat := [18]
def fw_G_frost : List (Nat × Nat) := []
theorem fr_G_frost  (a1 : Int32) (a2 : Int32) (s : mS) : fp aw_G_frost fw_G_frost false s (f_G_frost a1 a2 s).2 := by
  refine (fun (Q : Int32 × mS → Prop) (hQ : ∀ r, fp aw_G_frost fw_G_frost false s r.2 → Q r) => ?_ : ∀ Q : Int32 × mS → Prop, (∀ r, fp aw_G_frost fw_G_frost false s r.2 → Q r) → Q (f_G_frost a1 a2 s)) (fun r => fp aw_G_frost fw_G_frost false s r.2) (fun _ h => h)
  unfold f_G_frost
  refine q_let0 Q (fun x10 => ?_)
  refine q_if Q (fun _ => ?_) (fun _ => ?_)
  · exact hQ _ fp_r
  · refine q_if Q (fun _ => ?_) (fun _ => ?_)
    · exact hQ _ fp_r
    · exact hQ _ (fp_IA fp_r (by decide))
def aw_M_frost : List Nat := [141]
def fw_M_frost : List (Nat × Nat) := []
theorem fr_M_frost  (a1 : Int32) (a2 : Int32) (s : mS) : fp aw_M_frost fw_M_frost false s (f_M_frost a1 a2 s).2 := by
  refine (fun (Q : Int32 × mS → Prop) (hQ : ∀ r, fp aw_M_frost fw_M_frost false s r.2 → Q r) => ?_ : ∀ Q : Int32 × mS → Prop, (∀ r, fp aw_M_frost fw_M_frost false s r.2 → Q r) → Q (f_M_frost a1 a2 s)) (fun r => fp aw_M_frost fw_M_frost false s r.2) (fun _ h => h)
  unfold f_M_frost
  refine q_let0 Q (fun x10 => ?_)
  refine q_if Q (fun _ => ?_) (fun _ => ?_)
  · exact hQ _ fp_r
  · refine q_if Q (fun _ => ?_) (fun _ => ?_)
    · exact hQ _ fp_r
    · exact hQ _ (fp_IA fp_r (by decide))
def aw_lp_Works_bake_33 : List Nat := [8]
def fw_lp_Works_bake_33 : List (Nat × Nat) := [(3, 15), (3, 16)]
theorem fr_lp_Works_bake_33   : ∀ (n : Nat) (v2 : Int32) (s : mS), fp aw_lp_Works_bake_33 fw_lp_Works_bake_33 false s (lp_Works_bake_33 n v2 s).2 := by
  intro n
  induction n with
  | zero => intro v2 s; exact fp_r
  | succ n ih =>
    intro v2 s
    refine (fun (Q : Int32 × mS → Prop) (hQ : ∀ r, fp aw_lp_Works_bake_33 fw_lp_Works_bake_33 false s r.2 → Q r) => ?_ : ∀ Q : Int32 × mS → Prop, (∀ r, fp aw_lp_Works_bake_33 fw_lp_Works_bake_33 false s r.2 → Q r) → Q (lp_Works_bake_33 (n + 1) v2 s)) (fun r => fp aw_lp_Works_bake_33 fw_lp_Works_bake_33 false s r.2) (fun _ h => h)
    rw [lp_Works_bake_33]
    refine q_if Q (fun _ => ?_) (fun _ => ?_)
    · exact hQ _ fp_r
    · refine q_if Q (fun _ => ?_) (fun _ => ?_)
      · exact hQ _ (fp_t fp_r (ih (v2 + 1) s))
      · refine q_if Q (fun _ => ?_) (fun _ => ?_)
        · exact hQ _ (fp_t (fp_IF (fp_IF (fp_IA fp_r (by decide)) (by decide)) (by decide)) (ih (v2 + 1) (sI (sI (sI s 8 (ix v2) ((gI s 8 (ix v2)) - 1)) 3 15 ((gI s 3 15) + (gI s 10 (ix v2)))) 3 16 ((gI s 3 16) + (gI s 11 (ix v2))))))
        · exact hQ _ (fp_t (fp_IA fp_r (by decide)) (ih (v2 + 1) (sI s 8 (ix v2) ((gI s 8 (ix v2)) - 1))))
def aw_Works_bake : List Nat := [8]
def fw_Works_bake : List (Nat × Nat) := [(3, 10), (3, 12), (3, 13), (3, 14), (3, 15), (3, 16)]
theorem fr_Works_bake   (s : mS) : fp aw_Works_bake fw_Works_bake false s (f_Works_bake s) := by
  refine (fun (Q : mS → Prop) (hQ : ∀ r, fp aw_Works_bake fw_Works_bake false s r → Q r) => ?_ : ∀ Q : mS → Prop, (∀ r, fp aw_Works_bake fw_Works_bake false s r → Q r) → Q (f_Works_bake s)) (fun r => fp aw_Works_bake fw_Works_bake false s r) (fun _ h => h)
  unfold f_Works_bake
  refine q_let0 Q (fun x10 => ?_)
  refine q_call Q (R := fun (x11 : mS) => fp aw_Works_bake fw_Works_bake false s x11) (fp_t (fp_IF (fp_LF fp_r (by decide)) (by decide)) (fp_m (fr_Works_letOff (sI (sL s 3 13 ((gL s 3 13) + (Int32.toInt64 x10))) 3 12 ((gI s 3 12) + x10))) (by decide) (by decide) (by decide))) (fun x11 gx11 => ?_)
  refine q_call Q (R := fun (x12 : Int32 × mS) => fp aw_Works_bake fw_Works_bake false s x12.2) (fp_t gx11 (fp_m (fr_lp_Works_bake_33 mm_N (0 : Int32) x11) (by decide) (by decide) (by decide))) (fun x12 gx12 => ?_)
  exact hQ _ (fp_IF gx12 (by decide))
def aw_lp_Things_askAll_2 : List Nat := [23]
def fw_lp_Things_askAll_2 : List (Nat × Nat) := []
theorem fr_lp_Things_askAll_2  (a1 : Int32) : ∀ (n : Nat) (v3 : Int32) (s : mS), fp aw_lp_Things_askAll_2 fw_lp_Things_askAll_2 false s (lp_Things_askAll_2 a1 n v3 s).2 := by
  intro n
  induction n with
  | zero => intro v3 s; exact fp_r
  | succ n ih =>
    intro v3 s
    refine (fun (Q : Int32 × mS → Prop) (hQ : ∀ r, fp aw_lp_Things_askAll_2 fw_lp_Things_askAll_2 false s r.2 → Q r) => ?_ : ∀ Q : Int32 × mS → Prop, (∀ r, fp aw_lp_Things_askAll_2 fw_lp_Things_askAll_2 false s r.2 → Q r) → Q (lp_Things_askAll_2 a1 (n + 1) v3 s)) (fun r => fp aw_lp_Things_askAll_2 fw_lp_Things_askAll_2 false s r.2) (fun _ h => h)
    rw [lp_Things_askAll_2]
    refine q_if Q (fun _ => ?_) (fun _ => ?_)
    · exact hQ _ fp_r
    · refine q_let0 Q (fun x10 => ?_)
      exact hQ _ (fp_t (fp_IA fp_r (by decide)) (ih (v3 + 1) (sI s 23 (ix v3) x10)))
def aw_Things_askAll : List Nat := [23]
def fw_Things_askAll : List (Nat × Nat) := []
theorem fr_Things_askAll  (a1 : Int32) (s : mS) : fp aw_Things_askAll fw_Things_askAll false s (f_Things_askAll a1 s) := by
  refine (fun (Q : mS → Prop) (hQ : ∀ r, fp aw_Things_askAll fw_Things_askAll false s r → Q r) => ?_ : ∀ Q : mS → Prop, (∀ r, fp aw_Things_askAll fw_Things_askAll false s r → Q r) → Q (f_Things_askAll a1 s)) (fun r => fp aw_Things_askAll fw_Things_askAll false s r) (fun _ h => h)
  unfold f_Things_askAll
  refine q_call Q (R := fun (x11 : Int32 × mS) => fp aw_Things_askAll fw_Things_askAll false s x11.2) (fp_t fp_r (fp_m (fr_lp_Things_askAll_2 a1 mm_N (0 : Int32) s) (by decide) (by decide) (by decide))) (fun x11 gx11 => ?_)
  exact hQ _ gx11
def aw_lp_Things_takeWants_2 : List Nat := [24]
def fw_lp_Things_takeWants_2 : List (Nat × Nat) := []
theorem fr_lp_Things_takeWants_2   : ∀ (n : Nat) (v1 : Int32) (s : mS), fp aw_lp_Things_takeWants_2 fw_lp_Things_takeWants_2 false s (lp_Things_takeWants_2 n v1 s).2 := by
  intro n
  induction n with
  | zero => intro v1 s; exact fp_r
  | succ n ih =>
    intro v1 s
    refine (fun (Q : Int32 × mS → Prop) (hQ : ∀ r, fp aw_lp_Things_takeWants_2 fw_lp_Things_takeWants_2 false s r.2 → Q r) => ?_ : ∀ Q : Int32 × mS → Prop, (∀ r, fp aw_lp_Things_takeWants_2 fw_lp_Things_takeWants_2 false s r.2 → Q r) → Q (lp_Things_takeWants_2 (n + 1) v1 s)) (fun r => fp aw_lp_Things_takeWants_2 fw_lp_Things_takeWants_2 false s r.2) (fun _ h => h)
    rw [lp_Things_takeWants_2]
    refine q_if Q (fun _ => ?_) (fun _ => ?_)
    · exact hQ _ fp_r
    · exact hQ _ (fp_t (fp_IA fp_r (by decide)) (ih (v1 + 1) (sI s 24 (ix v1) (gI s 23 (ix v1)))))
def aw_Things_takeWants : List Nat := [24]
def fw_Things_takeWants : List (Nat × Nat) := []
theorem fr_Things_takeWants   (s : mS) : fp aw_Things_takeWants fw_Things_takeWants false s (f_Things_takeWants s) := by
  refine (fun (Q : mS → Prop) (hQ : ∀ r, fp aw_Things_takeWants fw_Things_takeWants false s r → Q r) => ?_ : ∀ Q : mS → Prop, (∀ r, fp aw_Things_takeWants fw_Things_takeWants false s r → Q r) → Q (f_Things_takeWants s)) (fun r => fp aw_Things_takeWants fw_Things_takeWants false s r) (fun _ h => h)
  unfold f_Things_takeWants
  refine q_call Q (R := fun (x10 : Int32 × mS) => fp aw_Things_takeWants fw_Things_takeWants false s x10.2) (fp_t fp_r (fp_m (fr_lp_Things_takeWants_2 mm_N (0 : Int32) s) (by decide) (by decide) (by decide))) (fun x10 gx10 => ?_)
  exact hQ _ gx10
def aw_lp_Net_gatherFlow_2 : List Nat := [31]
def fw_lp_Net_gatherFlow_2 : List (Nat × Nat) := []
theorem fr_lp_Net_gatherFlow_2   : ∀ (n : Nat) (v2 : Int32) (s : mS), fp aw_lp_Net_gatherFlow_2 fw_lp_Net_gatherFlow_2 false s (lp_Net_gatherFlow_2 n v2 s).2 := by
  intro n
  induction n with
  | zero => intro v2 s; exact fp_r
  | succ n ih =>
    intro v2 s
    refine (fun (Q : Int32 × mS → Prop) (hQ : ∀ r, fp aw_lp_Net_gatherFlow_2 fw_lp_Net_gatherFlow_2 false s r.2 → Q r) => ?_ : ∀ Q : Int32 × mS → Prop, (∀ r, fp aw_lp_Net_gatherFlow_2 fw_lp_Net_gatherFlow_2 false s r.2 → Q r) → Q (lp_Net_gatherFlow_2 (n + 1) v2 s)) (fun r => fp aw_lp_Net_gatherFlow_2 fw_lp_Net_gatherFlow_2 false s r.2) (fun _ h => h)
    rw [lp_Net_gatherFlow_2]
    refine q_if Q (fun _ => ?_) (fun _ => ?_)
    · exact hQ _ fp_r
    · exact hQ _ (fp_t (fp_IA fp_r (by decide)) (ih (v2 + 1) (sI s 31 (ix v2) 0)))
def aw_lp_Net_gatherFlow_23 : List Nat := [31]
def fw_lp_Net_gatherFlow_23 : List (Nat × Nat) := []
theorem fr_lp_Net_gatherFlow_23   : ∀ (n : Nat) (v2 : Int32) (s : mS), fp aw_lp_Net_gatherFlow_23 fw_lp_Net_gatherFlow_23 false s (lp_Net_gatherFlow_23 n v2 s).2 := by
  intro n
  induction n with
  | zero => intro v2 s; exact fp_r
  | succ n ih =>
    intro v2 s
    refine (fun (Q : Int32 × mS → Prop) (hQ : ∀ r, fp aw_lp_Net_gatherFlow_23 fw_lp_Net_gatherFlow_23 false s r.2 → Q r) => ?_ : ∀ Q : Int32 × mS → Prop, (∀ r, fp aw_lp_Net_gatherFlow_23 fw_lp_Net_gatherFlow_23 false s r.2 → Q r) → Q (lp_Net_gatherFlow_23 (n + 1) v2 s)) (fun r => fp aw_lp_Net_gatherFlow_23 fw_lp_Net_gatherFlow_23 false s r.2) (fun _ h => h)
    rw [lp_Net_gatherFlow_23]
    refine q_if Q (fun _ => ?_) (fun _ => ?_)
    · exact hQ _ fp_r
    · refine q_if Q (fun _ => ?_) (fun _ => ?_)
      · exact hQ _ fp_r
      · refine q_let0 Q (fun x12 => ?_)
        refine q_if Q (fun _ => ?_) (fun _ => ?_)
        · exact hQ _ (fp_t fp_r (ih (v2 + 1) s))
        · exact hQ _ (fp_t (fp_IA fp_r (by decide)) (ih (v2 + 1) (sI s 31 (ix (gI s 13 (ix v2))) ((gI s 31 (ix (gI s 13 (ix v2)))) + (gI s 24 (ix v2))))))
def aw_lp_Net_gatherFlow_76 : List Nat := [31]
def fw_lp_Net_gatherFlow_76 : List (Nat × Nat) := []
theorem fr_lp_Net_gatherFlow_76   : ∀ (n : Nat) (v2 : Int32) (s : mS), fp aw_lp_Net_gatherFlow_76 fw_lp_Net_gatherFlow_76 false s (lp_Net_gatherFlow_76 n v2 s).2 := by
  intro n
  induction n with
  | zero => intro v2 s; exact fp_r
  | succ n ih =>
    intro v2 s
    refine (fun (Q : Int32 × mS → Prop) (hQ : ∀ r, fp aw_lp_Net_gatherFlow_76 fw_lp_Net_gatherFlow_76 false s r.2 → Q r) => ?_ : ∀ Q : Int32 × mS → Prop, (∀ r, fp aw_lp_Net_gatherFlow_76 fw_lp_Net_gatherFlow_76 false s r.2 → Q r) → Q (lp_Net_gatherFlow_76 (n + 1) v2 s)) (fun r => fp aw_lp_Net_gatherFlow_76 fw_lp_Net_gatherFlow_76 false s r.2) (fun _ h => h)
    rw [lp_Net_gatherFlow_76]
    refine q_if Q (fun _ => ?_) (fun _ => ?_)
    · exact hQ _ fp_r
    · refine q_let0 Q (fun x15 => ?_)
      refine q_if Q (fun _ => ?_) (fun _ => ?_)
      · exact hQ _ (fp_t fp_r (ih (v2 + (-1)) s))
      · refine q_let0 Q (fun x16 => ?_)
        refine q_if Q (fun _ => ?_) (fun _ => ?_)
        · exact hQ _ (fp_t fp_r (ih (v2 + (-1)) s))
        · exact hQ _ (fp_t (fp_IA fp_r (by decide)) (ih (v2 + (-1)) (sI s 31 (ix (gI s 26 (ix v2))) ((gI s 31 (ix (gI s 26 (ix v2)))) + (gI s 31 (ix v2))))))
def aw_Net_gatherFlow : List Nat := [31]
def fw_Net_gatherFlow : List (Nat × Nat) := []
theorem fr_Net_gatherFlow   (s : mS) : fp aw_Net_gatherFlow fw_Net_gatherFlow false s (f_Net_gatherFlow s) := by
  refine (fun (Q : mS → Prop) (hQ : ∀ r, fp aw_Net_gatherFlow fw_Net_gatherFlow false s r → Q r) => ?_ : ∀ Q : mS → Prop, (∀ r, fp aw_Net_gatherFlow fw_Net_gatherFlow false s r → Q r) → Q (f_Net_gatherFlow s)) (fun r => fp aw_Net_gatherFlow fw_Net_gatherFlow false s r) (fun _ h => h)
  unfold f_Net_gatherFlow
  refine q_call Q (R := fun (x10 : Int32 × mS) => fp aw_Net_gatherFlow fw_Net_gatherFlow false s x10.2) (fp_t fp_r (fp_m (fr_lp_Net_gatherFlow_2 mm_N (0 : Int32) s) (by decide) (by decide) (by decide))) (fun x10 gx10 => ?_)
  refine q_call Q (R := fun (x13 : Int32 × mS) => fp aw_Net_gatherFlow fw_Net_gatherFlow false s x13.2) (fp_t gx10 (fp_m (fr_lp_Net_gatherFlow_23 mm_N (0 : Int32) x10.2) (by decide) (by decide) (by decide))) (fun x13 gx13 => ?_)
  refine q_call Q (R := fun (x17 : Int32 × mS) => fp aw_Net_gatherFlow fw_Net_gatherFlow false s x17.2) (fp_t gx13 (fp_m (fr_lp_Net_gatherFlow_76 mm_N (15 : Int32) x13.2) (by decide) (by decide) (by decide))) (fun x17 gx17 => ?_)
  exact hQ _ gx17
def aw_lp_Net_press_27_31 : List Nat := [30]
def fw_lp_Net_press_27_31 : List (Nat × Nat) := []
theorem fr_lp_Net_press_27_31   : ∀ (n : Nat) (v2 : Int32) (v3 : Int32) (s : mS), fp aw_lp_Net_press_27_31 fw_lp_Net_press_27_31 false s (lp_Net_press_27_31 n v2 v3 s).2.2 := by
  intro n
  induction n with
  | zero => intro v2 v3 s; exact fp_r
  | succ n ih =>
    intro v2 v3 s
    refine (fun (Q : Int32 × Int32 × mS → Prop) (hQ : ∀ r, fp aw_lp_Net_press_27_31 fw_lp_Net_press_27_31 false s r.2.2 → Q r) => ?_ : ∀ Q : Int32 × Int32 × mS → Prop, (∀ r, fp aw_lp_Net_press_27_31 fw_lp_Net_press_27_31 false s r.2.2 → Q r) → Q (lp_Net_press_27_31 (n + 1) v2 v3 s)) (fun r => fp aw_lp_Net_press_27_31 fw_lp_Net_press_27_31 false s r.2.2) (fun _ h => h)
    rw [lp_Net_press_27_31]
    refine q_if Q (fun _ => ?_) (fun _ => ?_)
    · exact hQ _ fp_r
    · refine q_if Q (fun _ => ?_) (fun _ => ?_)
      · exact hQ _ fp_r
      · refine q_let0 Q (fun x11 => ?_)
        refine q_let0 Q (fun x12 => ?_)
        refine q_let0 Q (fun x13 => ?_)
        exact hQ _ (fp_t (fp_IA fp_r (by decide)) (ih x13 (v3 + 1) (sI s 30 (ix v3) x12)))
def aw_Net_press_27 : List Nat := [30]
def fw_Net_press_27 : List (Nat × Nat) := []
theorem fr_Net_press_27   (s : mS) : fp aw_Net_press_27 fw_Net_press_27 false s (f_Net_press_27 s).2 := by
  refine (fun (Q : Int32 × mS → Prop) (hQ : ∀ r, fp aw_Net_press_27 fw_Net_press_27 false s r.2 → Q r) => ?_ : ∀ Q : Int32 × mS → Prop, (∀ r, fp aw_Net_press_27 fw_Net_press_27 false s r.2 → Q r) → Q (f_Net_press_27 s)) (fun r => fp aw_Net_press_27 fw_Net_press_27 false s r.2) (fun _ h => h)
  unfold f_Net_press_27
  refine q_let0 Q (fun x10 => ?_)
  refine q_call Q (R := fun (x14 : Int32 × Int32 × mS) => fp aw_Net_press_27 fw_Net_press_27 false s x14.2.2) (fp_t (fp_IA fp_r (by decide)) (fp_m (fr_lp_Net_press_27_31 mm_N x10 (1 : Int32) (sI s 30 0 (gI s 25 11))) (by decide) (by decide) (by decide))) (fun x14 gx14 => ?_)
  exact hQ _ gx14
def aw_lp_Things_takeBy_30_2 : List Nat := [24]
def fw_lp_Things_takeBy_30_2 : List (Nat × Nat) := []
theorem fr_lp_Things_takeBy_30_2   : ∀ (n : Nat) (v2 : Int32) (s : mS), fp aw_lp_Things_takeBy_30_2 fw_lp_Things_takeBy_30_2 false s (lp_Things_takeBy_30_2 n v2 s).2 := by
  intro n
  induction n with
  | zero => intro v2 s; exact fp_r
  | succ n ih =>
    intro v2 s
    refine (fun (Q : Int32 × mS → Prop) (hQ : ∀ r, fp aw_lp_Things_takeBy_30_2 fw_lp_Things_takeBy_30_2 false s r.2 → Q r) => ?_ : ∀ Q : Int32 × mS → Prop, (∀ r, fp aw_lp_Things_takeBy_30_2 fw_lp_Things_takeBy_30_2 false s r.2 → Q r) → Q (lp_Things_takeBy_30_2 (n + 1) v2 s)) (fun r => fp aw_lp_Things_takeBy_30_2 fw_lp_Things_takeBy_30_2 false s r.2) (fun _ h => h)
    rw [lp_Things_takeBy_30_2]
    refine q_if Q (fun _ => ?_) (fun _ => ?_)
    · exact hQ _ fp_r
    · refine q_if Q (fun _ => ?_) (fun _ => ?_)
      · exact hQ _ fp_r
      · refine q_let0 Q (fun x10 => ?_)
        refine q_let0 Q (fun x11 => ?_)
        refine q_let0 Q (fun x12 => ?_)
        exact hQ _ (fp_t (fp_IA fp_r (by decide)) (ih (v2 + 1) (sI s 24 (ix v2) x12)))
def aw_Things_takeBy_30 : List Nat := [24]
def fw_Things_takeBy_30 : List (Nat × Nat) := []
theorem fr_Things_takeBy_30   (s : mS) : fp aw_Things_takeBy_30 fw_Things_takeBy_30 false s (f_Things_takeBy_30 s) := by
  refine (fun (Q : mS → Prop) (hQ : ∀ r, fp aw_Things_takeBy_30 fw_Things_takeBy_30 false s r → Q r) => ?_ : ∀ Q : mS → Prop, (∀ r, fp aw_Things_takeBy_30 fw_Things_takeBy_30 false s r → Q r) → Q (f_Things_takeBy_30 s)) (fun r => fp aw_Things_takeBy_30 fw_Things_takeBy_30 false s r) (fun _ h => h)
  unfold f_Things_takeBy_30
  refine q_call Q (R := fun (x13 : Int32 × mS) => fp aw_Things_takeBy_30 fw_Things_takeBy_30 false s x13.2) (fp_t fp_r (fp_m (fr_lp_Things_takeBy_30_2 mm_N (0 : Int32) s) (by decide) (by decide) (by decide))) (fun x13 gx13 => ?_)
  exact hQ _ gx13
def aw_lp_Net_settle_27_9 : List Nat := [24, 30, 31]
def fw_lp_Net_settle_27_9 : List (Nat × Nat) := []
theorem fr_lp_Net_settle_27_9   : ∀ (n : Nat) (v3 : Int32) (v4 : Int32) (s : mS), fp aw_lp_Net_settle_27_9 fw_lp_Net_settle_27_9 false s (lp_Net_settle_27_9 n v3 v4 s).2.2 := by
  intro n
  induction n with
  | zero => intro v3 v4 s; exact fp_r
  | succ n ih =>
    intro v3 v4 s
    refine (fun (Q : Int32 × Int32 × mS → Prop) (hQ : ∀ r, fp aw_lp_Net_settle_27_9 fw_lp_Net_settle_27_9 false s r.2.2 → Q r) => ?_ : ∀ Q : Int32 × Int32 × mS → Prop, (∀ r, fp aw_lp_Net_settle_27_9 fw_lp_Net_settle_27_9 false s r.2.2 → Q r) → Q (lp_Net_settle_27_9 (n + 1) v3 v4 s)) (fun r => fp aw_lp_Net_settle_27_9 fw_lp_Net_settle_27_9 false s r.2.2) (fun _ h => h)
    rw [lp_Net_settle_27_9]
    refine q_if Q (fun _ => ?_) (fun _ => ?_)
    · exact hQ _ fp_r
    · refine q_if Q (fun _ => ?_) (fun _ => ?_)
      · refine q_call Q (R := fun (x11 : mS) => fp aw_lp_Net_settle_27_9 fw_lp_Net_settle_27_9 false s x11) (fp_t fp_r (fp_m (fr_Net_gatherFlow s) (by decide) (by decide) (by decide))) (fun x11 gx11 => ?_)
        refine q_call Q (R := fun (x12 : Int32 × mS) => fp aw_lp_Net_settle_27_9 fw_lp_Net_settle_27_9 false s x12.2) (fp_t gx11 (fp_m (fr_Net_press_27 x11) (by decide) (by decide) (by decide))) (fun x12 gx12 => ?_)
        refine q_let0 Q (fun x13 => ?_)
        refine q_call Q (R := fun (x14 : mS) => fp aw_lp_Net_settle_27_9 fw_lp_Net_settle_27_9 false s x14) (fp_t gx12 (fp_m (fr_Things_takeBy_30 x12.2) (by decide) (by decide) (by decide))) (fun x14 gx14 => ?_)
        exact hQ _ (fp_t gx14 (ih x13 (v4 + 1) x14))
      · exact hQ _ fp_r
def aw_Net_settle_27 : List Nat := [24, 30, 31]
def fw_Net_settle_27 : List (Nat × Nat) := []
theorem fr_Net_settle_27   (s : mS) : fp aw_Net_settle_27 fw_Net_settle_27 false s (f_Net_settle_27 s).2 := by
  refine (fun (Q : Int32 × mS → Prop) (hQ : ∀ r, fp aw_Net_settle_27 fw_Net_settle_27 false s r.2 → Q r) => ?_ : ∀ Q : Int32 × mS → Prop, (∀ r, fp aw_Net_settle_27 fw_Net_settle_27 false s r.2 → Q r) → Q (f_Net_settle_27 s)) (fun r => fp aw_Net_settle_27 fw_Net_settle_27 false s r.2) (fun _ h => h)
  unfold f_Net_settle_27
  refine q_call Q (R := fun (x10 : mS) => fp aw_Net_settle_27 fw_Net_settle_27 false s x10) (fp_t fp_r (fp_m (fr_Things_takeWants s) (by decide) (by decide) (by decide))) (fun x10 gx10 => ?_)
  refine q_call Q (R := fun (x15 : Int32 × Int32 × mS) => fp aw_Net_settle_27 fw_Net_settle_27 false s x15.2.2) (fp_t gx10 (fp_m (fr_lp_Net_settle_27_9 mm_N (0 : Int32) (0 : Int32) x10) (by decide) (by decide) (by decide))) (fun x15 gx15 => ?_)
  exact hQ _ gx15
def aw_lp_Things_takeNothing_2 : List Nat := [24]
def fw_lp_Things_takeNothing_2 : List (Nat × Nat) := []
theorem fr_lp_Things_takeNothing_2   : ∀ (n : Nat) (v1 : Int32) (s : mS), fp aw_lp_Things_takeNothing_2 fw_lp_Things_takeNothing_2 false s (lp_Things_takeNothing_2 n v1 s).2 := by
  intro n
  induction n with
  | zero => intro v1 s; exact fp_r
  | succ n ih =>
    intro v1 s
    refine (fun (Q : Int32 × mS → Prop) (hQ : ∀ r, fp aw_lp_Things_takeNothing_2 fw_lp_Things_takeNothing_2 false s r.2 → Q r) => ?_ : ∀ Q : Int32 × mS → Prop, (∀ r, fp aw_lp_Things_takeNothing_2 fw_lp_Things_takeNothing_2 false s r.2 → Q r) → Q (lp_Things_takeNothing_2 (n + 1) v1 s)) (fun r => fp aw_lp_Things_takeNothing_2 fw_lp_Things_takeNothing_2 false s r.2) (fun _ h => h)
    rw [lp_Things_takeNothing_2]
    refine q_if Q (fun _ => ?_) (fun _ => ?_)
    · exact hQ _ fp_r
    · exact hQ _ (fp_t (fp_IA fp_r (by decide)) (ih (v1 + 1) (sI s 24 (ix v1) 0)))
def aw_Things_takeNothing : List Nat := [24]
def fw_Things_takeNothing : List (Nat × Nat) := []
theorem fr_Things_takeNothing   (s : mS) : fp aw_Things_takeNothing fw_Things_takeNothing false s (f_Things_takeNothing s) := by
  refine (fun (Q : mS → Prop) (hQ : ∀ r, fp aw_Things_takeNothing fw_Things_takeNothing false s r → Q r) => ?_ : ∀ Q : mS → Prop, (∀ r, fp aw_Things_takeNothing fw_Things_takeNothing false s r → Q r) → Q (f_Things_takeNothing s)) (fun r => fp aw_Things_takeNothing fw_Things_takeNothing false s r) (fun _ h => h)
  unfold f_Things_takeNothing
  refine q_call Q (R := fun (x10 : Int32 × mS) => fp aw_Things_takeNothing fw_Things_takeNothing false s x10.2) (fp_t fp_r (fp_m (fr_lp_Things_takeNothing_2 mm_N (0 : Int32) s) (by decide) (by decide) (by decide))) (fun x10 gx10 => ?_)
  exact hQ _ gx10
def aw_lp_Things_keep_2 : List Nat := [19, 20, 21, 22]
def fw_lp_Things_keep_2 : List (Nat × Nat) := []
theorem fr_lp_Things_keep_2   : ∀ (n : Nat) (v1 : Int32) (s : mS), fp aw_lp_Things_keep_2 fw_lp_Things_keep_2 false s (lp_Things_keep_2 n v1 s).2 := by
  intro n
  induction n with
  | zero => intro v1 s; exact fp_r
  | succ n ih =>
    intro v1 s
    refine (fun (Q : Int32 × mS → Prop) (hQ : ∀ r, fp aw_lp_Things_keep_2 fw_lp_Things_keep_2 false s r.2 → Q r) => ?_ : ∀ Q : Int32 × mS → Prop, (∀ r, fp aw_lp_Things_keep_2 fw_lp_Things_keep_2 false s r.2 → Q r) → Q (lp_Things_keep_2 (n + 1) v1 s)) (fun r => fp aw_lp_Things_keep_2 fw_lp_Things_keep_2 false s r.2) (fun _ h => h)
    rw [lp_Things_keep_2]
    refine q_if Q (fun _ => ?_) (fun _ => ?_)
    · exact hQ _ fp_r
    · refine q_if Q (fun _ => ?_) (fun _ => ?_)
      · exact hQ _ fp_r
      · refine q_join Q (fun (x10 : mS) => fp aw_lp_Things_keep_2 fw_lp_Things_keep_2 false s x10) (fun Q hQ => ?_) (fun x10 gx10 => ?_)
        · refine q_if Q (fun _ => ?_) (fun _ => ?_)
          · refine q_if Q (fun _ => ?_) (fun _ => ?_)
            · exact hQ _ (fp_IA (fp_IA (fp_IA fp_r (by decide)) (by decide)) (by decide))
            · exact hQ _ (fp_IA (fp_IA fp_r (by decide)) (by decide))
          · exact hQ _ (fp_IA (fp_IA fp_r (by decide)) (by decide))
        · refine q_if Q (fun _ => ?_) (fun _ => ?_)
          · exact hQ _ (fp_t (fp_IA gx10 (by decide)) (ih (v1 + 1) (sI x10 19 (ix v1) ((gI x10 19 (ix v1)) - (gI x10 24 (ix v1))))))
          · exact hQ _ (fp_t gx10 (ih (v1 + 1) x10))
def aw_Things_keep : List Nat := [19, 20, 21, 22]
def fw_Things_keep : List (Nat × Nat) := []
theorem fr_Things_keep   (s : mS) : fp aw_Things_keep fw_Things_keep false s (f_Things_keep s) := by
  refine (fun (Q : mS → Prop) (hQ : ∀ r, fp aw_Things_keep fw_Things_keep false s r → Q r) => ?_ : ∀ Q : mS → Prop, (∀ r, fp aw_Things_keep fw_Things_keep false s r → Q r) → Q (f_Things_keep s)) (fun r => fp aw_Things_keep fw_Things_keep false s r) (fun _ h => h)
  unfold f_Things_keep
  refine q_call Q (R := fun (x11 : Int32 × mS) => fp aw_Things_keep fw_Things_keep false s x11.2) (fp_t fp_r (fp_m (fr_lp_Things_keep_2 mm_N (0 : Int32) s) (by decide) (by decide) (by decide))) (fun x11 gx11 => ?_)
  exact hQ _ gx11
def aw_lp_Net_keep_7 : List Nat := [32, 33, 34]
def fw_lp_Net_keep_7 : List (Nat × Nat) := []
theorem fr_lp_Net_keep_7  (a2 : Int32) : ∀ (n : Nat) (v3 : Int32) (s : mS), fp aw_lp_Net_keep_7 fw_lp_Net_keep_7 false s (lp_Net_keep_7 a2 n v3 s).2 := by
  intro n
  induction n with
  | zero => intro v3 s; exact fp_r
  | succ n ih =>
    intro v3 s
    refine (fun (Q : Int32 × mS → Prop) (hQ : ∀ r, fp aw_lp_Net_keep_7 fw_lp_Net_keep_7 false s r.2 → Q r) => ?_ : ∀ Q : Int32 × mS → Prop, (∀ r, fp aw_lp_Net_keep_7 fw_lp_Net_keep_7 false s r.2 → Q r) → Q (lp_Net_keep_7 a2 (n + 1) v3 s)) (fun r => fp aw_lp_Net_keep_7 fw_lp_Net_keep_7 false s r.2) (fun _ h => h)
    rw [lp_Net_keep_7]
    refine q_if Q (fun _ => ?_) (fun _ => ?_)
    · exact hQ _ fp_r
    · refine q_if Q (fun _ => ?_) (fun _ => ?_)
      · exact hQ _ fp_r
      · refine q_let0 Q (fun x11 => ?_)
        exact hQ _ (fp_t (fp_IA (fp_IA (fp_IA fp_r (by decide)) (by decide)) (by decide)) (ih (v3 + 1) (sI (sI (sI s 32 (ix v3) x11) 33 (ix v3) (gI s 31 (ix v3))) 34 (ix v3) (gI s 29 (ix v3)))))
def aw_Net_keep : List Nat := [31, 32, 33, 34]
def fw_Net_keep : List (Nat × Nat) := []
theorem fr_Net_keep  (a2 : Int32) (s : mS) : fp aw_Net_keep fw_Net_keep false s (f_Net_keep a2 s) := by
  refine (fun (Q : mS → Prop) (hQ : ∀ r, fp aw_Net_keep fw_Net_keep false s r → Q r) => ?_ : ∀ Q : mS → Prop, (∀ r, fp aw_Net_keep fw_Net_keep false s r → Q r) → Q (f_Net_keep a2 s)) (fun r => fp aw_Net_keep fw_Net_keep false s r) (fun _ h => h)
  unfold f_Net_keep
  refine q_call Q (R := fun (x10 : mS) => fp aw_Net_keep fw_Net_keep false s x10) (fp_t fp_r (fp_m (fr_Net_gatherFlow s) (by decide) (by decide) (by decide))) (fun x10 gx10 => ?_)
  refine q_call Q (R := fun (x12 : Int32 × mS) => fp aw_Net_keep fw_Net_keep false s x12.2) (fp_t gx10 (fp_m (fr_lp_Net_keep_7 a2 mm_N (0 : Int32) x10) (by decide) (by decide) (by decide))) (fun x12 gx12 => ?_)
  exact hQ _ gx12
def aw_lp_Act_valueOf_39_10 : List Nat := []
def fw_lp_Act_valueOf_39_10 : List (Nat × Nat) := []
theorem fr_lp_Act_valueOf_39_10 (r0 : Nat) (hr0 : mq_A r0) (a2 : Int32) : ∀ (n : Nat) (v4 : Int32) (v5 : Int32) (s : mS), fp aw_lp_Act_valueOf_39_10 fw_lp_Act_valueOf_39_10 true s (lp_Act_valueOf_39_10 r0 a2 n v4 v5 s).2.2 := by
  intro n
  induction n with
  | zero => intro v4 v5 s; exact fp_r
  | succ n ih =>
    intro v4 v5 s
    refine (fun (Q : Int32 × Int32 × mS → Prop) (hQ : ∀ r, fp aw_lp_Act_valueOf_39_10 fw_lp_Act_valueOf_39_10 true s r.2.2 → Q r) => ?_ : ∀ Q : Int32 × Int32 × mS → Prop, (∀ r, fp aw_lp_Act_valueOf_39_10 fw_lp_Act_valueOf_39_10 true s r.2.2 → Q r) → Q (lp_Act_valueOf_39_10 r0 a2 (n + 1) v4 v5 s)) (fun r => fp aw_lp_Act_valueOf_39_10 fw_lp_Act_valueOf_39_10 true s r.2.2) (fun _ h => h)
    rw [lp_Act_valueOf_39_10]
    refine q_if Q (fun _ => ?_) (fun _ => ?_)
    · exact hQ _ fp_r
    · refine q_if Q (fun _ => ?_) (fun _ => ?_)
      · exact hQ _ fp_r
      · refine q_let0 Q (fun x10 => ?_)
        refine q_if Q (fun _ => ?_) (fun _ => ?_)
        · refine q_if Q (fun _ => ?_) (fun _ => ?_)
          · refine q_if Q (fun _ => ?_) (fun _ => ?_)
            · exact hQ _ (fp_t fp_r (ih v4 (v5 + 1) s))
            · exact hQ _ (fp_t (fp_SI fp_r hr0 (by decide)) (ih v4 (v5 + 1) (sI s (r0 + 7) (ix (v4 - 1)) (1 - (gI s (r0 + 7) (ix (v4 - 1)))))))
          · refine q_if Q (fun _ => ?_) (fun _ => ?_)
            · exact hQ _ (fp_t fp_r (ih v4 (v5 + 1) s))
            · refine q_let0 Q (fun x11 => ?_)
              refine q_let0 Q (fun x12 => ?_)
              exact hQ _ (fp_t (fp_SI fp_r hr0 (by decide)) (ih x11 (v5 + 1) (sI s (r0 + 7) (ix (x11 - 1)) x12)))
        · refine q_if Q (fun _ => ?_) (fun _ => ?_)
          · exact hQ _ (fp_t fp_r (ih v4 (v5 + 1) s))
          · refine q_let0 Q (fun x13 => ?_)
            exact hQ _ (fp_t (fp_SI fp_r hr0 (by decide)) (ih (v4 + 1) (v5 + 1) (sI s (r0 + 7) (ix v4) x13)))
def aw_Act_valueOf_39 : List Nat := []
def fw_Act_valueOf_39 : List (Nat × Nat) := []
theorem fr_Act_valueOf_39 (r0 : Nat) (hr0 : mq_A r0) (a1 : Int32) (a2 : Int32) (s : mS) : fp aw_Act_valueOf_39 fw_Act_valueOf_39 true s (f_Act_valueOf_39 r0 a1 a2 s).2 := by
  refine (fun (Q : Int32 × mS → Prop) (hQ : ∀ r, fp aw_Act_valueOf_39 fw_Act_valueOf_39 true s r.2 → Q r) => ?_ : ∀ Q : Int32 × mS → Prop, (∀ r, fp aw_Act_valueOf_39 fw_Act_valueOf_39 true s r.2 → Q r) → Q (f_Act_valueOf_39 r0 a1 a2 s)) (fun r => fp aw_Act_valueOf_39 fw_Act_valueOf_39 true s r.2) (fun _ h => h)
  unfold f_Act_valueOf_39
  refine q_call Q (R := fun (x14 : Int32 × Int32 × mS) => fp aw_Act_valueOf_39 fw_Act_valueOf_39 true s x14.2.2) (fp_t fp_r (fp_m (fr_lp_Act_valueOf_39_10 r0 hr0 a2 mm_N (0 : Int32) (if (0 : Int32) < a1 then a1 else (0 : Int32)) s) (by decide) (by decide) (by decide))) (fun x14 gx14 => ?_)
  refine q_if Q (fun _ => ?_) (fun _ => ?_)
  · exact hQ _ gx14
  · exact hQ _ gx14
def aw_lp_Act_tells_39_10 : List Nat := []
def fw_lp_Act_tells_39_10 : List (Nat × Nat) := []
theorem fr_lp_Act_tells_39_10 (r0 : Nat) (hr0 : mq_A r0) (a1 : Int32) : ∀ (n : Nat) (v3 : Int32) (v4 : Int32) (s : mS), fp aw_lp_Act_tells_39_10 fw_lp_Act_tells_39_10 true s (lp_Act_tells_39_10 r0 a1 n v3 v4 s).2.2 := by
  intro n
  induction n with
  | zero => intro v3 v4 s; exact fp_r
  | succ n ih =>
    intro v3 v4 s
    refine (fun (Q : Int32 × Int32 × mS → Prop) (hQ : ∀ r, fp aw_lp_Act_tells_39_10 fw_lp_Act_tells_39_10 true s r.2.2 → Q r) => ?_ : ∀ Q : Int32 × Int32 × mS → Prop, (∀ r, fp aw_lp_Act_tells_39_10 fw_lp_Act_tells_39_10 true s r.2.2 → Q r) → Q (lp_Act_tells_39_10 r0 a1 (n + 1) v3 v4 s)) (fun r => fp aw_lp_Act_tells_39_10 fw_lp_Act_tells_39_10 true s r.2.2) (fun _ h => h)
    rw [lp_Act_tells_39_10]
    refine q_if Q (fun _ => ?_) (fun _ => ?_)
    · exact hQ _ fp_r
    · refine q_if Q (fun _ => ?_) (fun _ => ?_)
      · exact hQ _ fp_r
      · refine q_let0 Q (fun x10 => ?_)
        refine q_if Q (fun _ => ?_) (fun _ => ?_)
        · refine q_if Q (fun _ => ?_) (fun _ => ?_)
          · refine q_call Q (R := fun (x11 : Int32 × mS) => fp aw_lp_Act_tells_39_10 fw_lp_Act_tells_39_10 true s x11.2) (fp_t fp_r (fp_m (fr_Act_valueOf_39 r0 hr0 (gI s (r0 + 3) (ix v4)) (gI s (r0 + 4) (ix v4)) s) (by decide) (by decide) (by decide))) (fun x11 gx11 => ?_)
            refine q_if Q (fun _ => ?_) (fun _ => ?_)
            · exact hQ _ (fp_t gx11 (ih v3 (v4 + 1) x11.2))
            · refine q_call Q (R := fun (x12 : Int32 × mS) => fp aw_lp_Act_tells_39_10 fw_lp_Act_tells_39_10 true s x12.2) (fp_t gx11 (fp_m (fr_Act_valueOf_39 r0 hr0 (gI x11.2 (r0 + 2) (ix v4)) (gI x11.2 (r0 + 3) (ix v4)) x11.2) (by decide) (by decide) (by decide))) (fun x12 gx12 => ?_)
              refine q_if Q (fun _ => ?_) (fun _ => ?_)
              · exact hQ _ (fp_t (fp_S0I gx12 hr0) (ih (1 : Int32) (v4 + 1) (sI x12.2 r0 11 x12.1)))
              · refine q_if Q (fun _ => ?_) (fun _ => ?_)
                · exact hQ _ (fp_t gx12 (ih v3 (v4 + 1) x12.2))
                · exact hQ _ (fp_t (fp_S0I gx12 hr0) (ih v3 (v4 + 1) (sI x12.2 r0 12 1)))
          · refine q_call Q (R := fun (x13 : Int32 × mS) => fp aw_lp_Act_tells_39_10 fw_lp_Act_tells_39_10 true s x13.2) (fp_t fp_r (fp_m (fr_Act_valueOf_39 r0 hr0 (gI s (r0 + 2) (ix v4)) (gI s (r0 + 3) (ix v4)) s) (by decide) (by decide) (by decide))) (fun x13 gx13 => ?_)
            refine q_if Q (fun _ => ?_) (fun _ => ?_)
            · exact hQ _ (fp_t (fp_S0I gx13 hr0) (ih (1 : Int32) (v4 + 1) (sI x13.2 r0 11 x13.1)))
            · refine q_if Q (fun _ => ?_) (fun _ => ?_)
              · exact hQ _ (fp_t gx13 (ih v3 (v4 + 1) x13.2))
              · exact hQ _ (fp_t (fp_S0I gx13 hr0) (ih v3 (v4 + 1) (sI x13.2 r0 12 1)))
        · exact hQ _ (fp_t fp_r (ih v3 (v4 + 1) s))
def aw_Act_tells_39 : List Nat := []
def fw_Act_tells_39 : List (Nat × Nat) := []
theorem fr_Act_tells_39 (r0 : Nat) (hr0 : mq_A r0) (a1 : Int32) (s : mS) : fp aw_Act_tells_39 fw_Act_tells_39 true s (f_Act_tells_39 r0 a1 s).2 := by
  refine (fun (Q : Int32 × mS → Prop) (hQ : ∀ r, fp aw_Act_tells_39 fw_Act_tells_39 true s r.2 → Q r) => ?_ : ∀ Q : Int32 × mS → Prop, (∀ r, fp aw_Act_tells_39 fw_Act_tells_39 true s r.2 → Q r) → Q (f_Act_tells_39 r0 a1 s)) (fun r => fp aw_Act_tells_39 fw_Act_tells_39 true s r.2) (fun _ h => h)
  unfold f_Act_tells_39
  refine q_call Q (R := fun (x14 : Int32 × Int32 × mS) => fp aw_Act_tells_39 fw_Act_tells_39 true s x14.2.2) (fp_t (fp_S0I fp_r hr0) (fp_m (fr_lp_Act_tells_39_10 r0 hr0 a1 mm_N (0 : Int32) (0 : Int32) (sI s r0 12 0)) (by decide) (by decide) (by decide))) (fun x14 gx14 => ?_)
  exact hQ _ gx14
def aw_lp_Laws_weigh_19 : List Nat := []
def fw_lp_Laws_weigh_19 : List (Nat × Nat) := [(36, 3), (36, 8), (36, 9)]
theorem fr_lp_Laws_weigh_19  (a1 : Int32) : ∀ (n : Nat) (v2 : Int32) (v3 : Int32) (s : mS), (∀ j, mq_A (gP s j)) → fp aw_lp_Laws_weigh_19 fw_lp_Laws_weigh_19 true s (lp_Laws_weigh_19 a1 n v2 v3 s).2.2 := by
  intro n
  induction n with
  | zero => intro v2 v3 s _; exact fp_r
  | succ n ih =>
    intro v2 v3 s hP
    refine (fun (Q : Int32 × Int32 × mS → Prop) (hQ : ∀ r, fp aw_lp_Laws_weigh_19 fw_lp_Laws_weigh_19 true s r.2.2 → Q r) => ?_ : ∀ Q : Int32 × Int32 × mS → Prop, (∀ r, fp aw_lp_Laws_weigh_19 fw_lp_Laws_weigh_19 true s r.2.2 → Q r) → Q (lp_Laws_weigh_19 a1 (n + 1) v2 v3 s)) (fun r => fp aw_lp_Laws_weigh_19 fw_lp_Laws_weigh_19 true s r.2.2) (fun _ h => h)
    rw [lp_Laws_weigh_19]
    refine q_if Q (fun _ => ?_) (fun _ => ?_)
    · exact hQ _ fp_r
    · refine q_call Q (R := mq_A) (fp_P (show fp aw_lp_Laws_weigh_19 fw_lp_Laws_weigh_19 true s s from fp_r) hP _) (fun r10 hr10 => ?_)
      refine q_if Q (fun _ => ?_) (fun _ => ?_)
      · exact hQ _ (fp_t fp_r (ih v2 (v3 + 1) s (fp_P (show fp aw_lp_Laws_weigh_19 fw_lp_Laws_weigh_19 true s s from fp_r) hP)))
      · refine q_if Q (fun _ => ?_) (fun _ => ?_)
        · exact hQ _ (fp_t fp_r (ih v2 (v3 + 1) s (fp_P (show fp aw_lp_Laws_weigh_19 fw_lp_Laws_weigh_19 true s s from fp_r) hP)))
        · refine q_if Q (fun _ => ?_) (fun _ => ?_)
          · exact hQ _ (fp_t fp_r (ih v2 (v3 + 1) s (fp_P (show fp aw_lp_Laws_weigh_19 fw_lp_Laws_weigh_19 true s s from fp_r) hP)))
          · refine q_call Q (R := fun (x11 : Int32 × mS) => fp aw_lp_Laws_weigh_19 fw_lp_Laws_weigh_19 true s x11.2) (fp_t fp_r (fp_m (fr_Act_tells_39 r10 hr10 a1 s) (by decide) (by decide) (by decide))) (fun x11 gx11 => ?_)
            refine q_if Q (fun _ => ?_) (fun _ => ?_)
            · exact hQ _ (fp_t gx11 (ih v2 (v3 + 1) x11.2 (fp_P (show fp aw_lp_Laws_weigh_19 fw_lp_Laws_weigh_19 true s x11.2 from gx11) hP)))
            · exact hQ _ (fp_t (fp_IF (fp_IF (fp_IF gx11 (by decide)) (by decide)) (by decide)) (ih (gI x11.2 r10 9) (v3 + 1) (sI (sI (sI x11.2 36 9 v3) 36 8 (gI (sI x11.2 36 9 v3) r10 11)) 36 3 (gI (sI (sI x11.2 36 9 v3) 36 8 (gI (sI x11.2 36 9 v3) r10 11)) r10 12)) (fp_P (show fp aw_lp_Laws_weigh_19 fw_lp_Laws_weigh_19 true s (sI (sI (sI x11.2 36 9 v3) 36 8 (gI (sI x11.2 36 9 v3) r10 11)) 36 3 (gI (sI (sI x11.2 36 9 v3) 36 8 (gI (sI x11.2 36 9 v3) r10 11)) r10 12)) from (fp_IF (fp_IF (fp_IF gx11 (by decide)) (by decide)) (by decide))) hP)))
def aw_Laws_weigh : List Nat := []
def fw_Laws_weigh : List (Nat × Nat) := [(36, 3), (36, 8), (36, 9)]
theorem fr_Laws_weigh  (a1 : Int32) (s : mS) (hP : ∀ j, mq_A (gP s j)) : fp aw_Laws_weigh fw_Laws_weigh true s (f_Laws_weigh a1 s) := by
  refine (fun (Q : mS → Prop) (hQ : ∀ r, fp aw_Laws_weigh fw_Laws_weigh true s r → Q r) => ?_ : ∀ Q : mS → Prop, (∀ r, fp aw_Laws_weigh fw_Laws_weigh true s r → Q r) → Q (f_Laws_weigh a1 s)) (fun r => fp aw_Laws_weigh fw_Laws_weigh true s r) (fun _ h => h)
  unfold f_Laws_weigh
  refine q_call Q (R := fun (x12 : Int32 × Int32 × mS) => fp aw_Laws_weigh fw_Laws_weigh true s x12.2.2) (fp_t (fp_IF (fp_IF (fp_IF fp_r (by decide)) (by decide)) (by decide)) (fp_m (fr_lp_Laws_weigh_19 a1 mm_N ((-1) : Int32) (0 : Int32) (sI (sI (sI s 36 8 0) 36 9 (-1)) 36 3 0) (fp_P (show fp aw_Laws_weigh fw_Laws_weigh true s (sI (sI (sI s 36 8 0) 36 9 (-1)) 36 3 0) from (fp_IF (fp_IF (fp_IF fp_r (by decide)) (by decide)) (by decide))) hP)) (by decide) (by decide) (by decide))) (fun x12 gx12 => ?_)
  exact hQ _ gx12
def aw_Laws_judge : List Nat := [39]
def fw_Laws_judge : List (Nat × Nat) := [(36, 3), (36, 8), (36, 9)]
theorem fr_Laws_judge  (a1 : Int32) (a2 : Int32) (a3 : Int32) (s : mS) (hP : ∀ j, mq_A (gP s j)) : fp aw_Laws_judge fw_Laws_judge true s (f_Laws_judge a1 a2 a3 s) := by
  refine (fun (Q : mS → Prop) (hQ : ∀ r, fp aw_Laws_judge fw_Laws_judge true s r → Q r) => ?_ : ∀ Q : mS → Prop, (∀ r, fp aw_Laws_judge fw_Laws_judge true s r → Q r) → Q (f_Laws_judge a1 a2 a3 s)) (fun r => fp aw_Laws_judge fw_Laws_judge true s r) (fun _ h => h)
  unfold f_Laws_judge
  refine q_let0 Q (fun x10 => ?_)
  refine q_let0 Q (fun x11 => ?_)
  refine q_let0 Q (fun x12 => ?_)
  refine q_join Q (fun (x14 : mS) => fp aw_Laws_judge fw_Laws_judge true s x14) (fun Q hQ => ?_) (fun x14 gx14 => ?_)
  · refine q_if Q (fun _ => ?_) (fun _ => ?_)
    · exact hQ _ (fp_IA (fp_IA (fp_IA (fp_IA (fp_IA fp_r (by decide)) (by decide)) (by decide)) (by decide)) (by decide))
    · refine q_call Q (R := fun (x15 : mS) => fp aw_Laws_judge fw_Laws_judge true s x15) (fp_t (fp_IA (fp_IA (fp_IA (fp_IA (fp_IA fp_r (by decide)) (by decide)) (by decide)) (by decide)) (by decide)) (fp_m (fr_Laws_weigh (2 : Int32) (sI (sI (sI (sI (sI s 39 0 x10) 39 1 x11) 39 2 x12) 39 3 0) 39 4 0) (fp_P (show fp aw_Laws_judge fw_Laws_judge true s (sI (sI (sI (sI (sI s 39 0 x10) 39 1 x11) 39 2 x12) 39 3 0) 39 4 0) from (fp_IA (fp_IA (fp_IA (fp_IA (fp_IA fp_r (by decide)) (by decide)) (by decide)) (by decide)) (by decide))) hP)) (by decide) (by decide) (by decide))) (fun x15 gx15 => ?_)
      exact hQ _ (fp_IA gx15 (by decide))
  · refine q_call Q (R := fun (x16 : mS) => fp aw_Laws_judge fw_Laws_judge true s x16) (fp_t (fp_IA gx14 (by decide)) (fp_m (fr_Laws_weigh a1 (sI x14 39 4 a3) (fp_P (show fp aw_Laws_judge fw_Laws_judge true s (sI x14 39 4 a3) from (fp_IA gx14 (by decide))) hP)) (by decide) (by decide) (by decide))) (fun x16 gx16 => ?_)
    exact hQ _ gx16
def aw_lp_G_countFails_31 : List Nat := []
def fw_lp_G_countFails_31 : List (Nat × Nat) := [(0, 12)]
theorem fr_lp_G_countFails_31   : ∀ (n : Nat) (v1 : Int32) (s : mS), fp aw_lp_G_countFails_31 fw_lp_G_countFails_31 false s (lp_G_countFails_31 n v1 s).2 := by
  intro n
  induction n with
  | zero => intro v1 s; exact fp_r
  | succ n ih =>
    intro v1 s
    refine (fun (Q : Int32 × mS → Prop) (hQ : ∀ r, fp aw_lp_G_countFails_31 fw_lp_G_countFails_31 false s r.2 → Q r) => ?_ : ∀ Q : Int32 × mS → Prop, (∀ r, fp aw_lp_G_countFails_31 fw_lp_G_countFails_31 false s r.2 → Q r) → Q (lp_G_countFails_31 (n + 1) v1 s)) (fun r => fp aw_lp_G_countFails_31 fw_lp_G_countFails_31 false s r.2) (fun _ h => h)
    rw [lp_G_countFails_31]
    refine q_if Q (fun _ => ?_) (fun _ => ?_)
    · exact hQ _ fp_r
    · refine q_if Q (fun _ => ?_) (fun _ => ?_)
      · exact hQ _ fp_r
      · refine q_if Q (fun _ => ?_) (fun _ => ?_)
        · exact hQ _ (fp_t fp_r (ih (v1 + 1) s))
        · refine q_let0 Q (fun x11 => ?_)
          refine q_if Q (fun _ => ?_) (fun _ => ?_)
          · exact hQ _ (fp_t fp_r (ih (v1 + 1) s))
          · exact hQ _ (fp_t (fp_IF fp_r (by decide)) (ih (v1 + 1) (sI s 0 12 ((gI s 0 12) + 1))))
def aw_G_countFails : List Nat := [39]
def fw_G_countFails : List (Nat × Nat) := [(0, 12), (36, 3), (36, 8), (36, 9)]
theorem fr_G_countFails   (s : mS) (hP : ∀ j, mq_A (gP s j)) : fp aw_G_countFails fw_G_countFails true s (f_G_countFails s) := by
  refine (fun (Q : mS → Prop) (hQ : ∀ r, fp aw_G_countFails fw_G_countFails true s r → Q r) => ?_ : ∀ Q : mS → Prop, (∀ r, fp aw_G_countFails fw_G_countFails true s r → Q r) → Q (f_G_countFails s)) (fun r => fp aw_G_countFails fw_G_countFails true s r) (fun _ h => h)
  unfold f_G_countFails
  refine q_call Q (R := fun (x10 : mS) => fp aw_G_countFails fw_G_countFails true s x10) (fp_t fp_r (fp_m (fr_Laws_judge (0 : Int32) (gI s 0 9) (0 : Int32) s (fp_P (show fp aw_G_countFails fw_G_countFails true s s from fp_r) hP)) (by decide) (by decide) (by decide))) (fun x10 gx10 => ?_)
  refine q_if Q (fun _ => ?_) (fun _ => ?_)
  · exact hQ _ gx10
  · refine q_call Q (R := fun (x12 : Int32 × mS) => fp aw_G_countFails fw_G_countFails true s x12.2) (fp_t gx10 (fp_m (fr_lp_G_countFails_31 mm_N (1 : Int32) x10) (by decide) (by decide) (by decide))) (fun x12 gx12 => ?_)
    exact hQ _ gx12
def aw_G_goOneStep : List Nat := [8, 19, 20, 21, 22, 23, 24, 30, 31, 32, 33, 34, 39]
def fw_G_goOneStep : List (Nat × Nat) := [(0, 9), (0, 10), (0, 11), (0, 12), (0, 13), (0, 14), (3, 10), (3, 12), (3, 13), (3, 14), (3, 15), (3, 16), (36, 3), (36, 8), (36, 9)]
theorem fr_G_goOneStep   (s : mS) (hP : ∀ j, mq_A (gP s j)) : fp aw_G_goOneStep fw_G_goOneStep true s (f_G_goOneStep s) := by
  refine (fun (Q : mS → Prop) (hQ : ∀ r, fp aw_G_goOneStep fw_G_goOneStep true s r → Q r) => ?_ : ∀ Q : mS → Prop, (∀ r, fp aw_G_goOneStep fw_G_goOneStep true s r → Q r) → Q (f_G_goOneStep s)) (fun r => fp aw_G_goOneStep fw_G_goOneStep true s r) (fun _ h => h)
  unfold f_G_goOneStep
  refine q_call Q (R := fun (x10 : mS) => fp aw_G_goOneStep fw_G_goOneStep true s x10) (fp_t fp_r (fp_m (fr_Works_bake s) (by decide) (by decide) (by decide))) (fun x10 gx10 => ?_)
  refine q_call Q (R := fun (x11 : mS) => fp aw_G_goOneStep fw_G_goOneStep true s x11) (fp_t gx10 (fp_m (fr_Things_askAll (gI x10 0 9) x10) (by decide) (by decide) (by decide))) (fun x11 gx11 => ?_)
  refine q_call Q (R := fun (x12 : Int32 × mS) => fp aw_G_goOneStep fw_G_goOneStep true s x12.2) (fp_t gx11 (fp_m (fr_Net_settle_27 x11) (by decide) (by decide) (by decide))) (fun x12 gx12 => ?_)
  refine q_join Q (fun (x13 : mS) => fp aw_G_goOneStep fw_G_goOneStep true s x13) (fun Q hQ => ?_) (fun x13 gx13 => ?_)
  · refine q_if Q (fun _ => ?_) (fun _ => ?_)
    · exact hQ _ (fp_IF gx12 (by decide))
    · exact hQ _ gx12
  · refine q_let0 Q (fun x14 => ?_)
    refine q_let0 Q (fun x15 => ?_)
    refine q_join Q (fun (x17 : Int32 × mS) => fp aw_G_goOneStep fw_G_goOneStep true s x17.2) (fun Q hQ => ?_) (fun x17 gx17 => ?_)
    · refine q_if Q (fun _ => ?_) (fun _ => ?_)
      · exact hQ _ (fp_IF gx13 (by decide))
      · refine q_call Q (R := fun (x18 : mS) => fp aw_G_goOneStep fw_G_goOneStep true s x18) (fp_t (fp_IF (fp_IF gx13 (by decide)) (by decide)) (fp_m (fr_Things_takeNothing (sI (sI x13 0 14 x15) 0 10 ((gI x13 0 10) + 1))) (by decide) (by decide) (by decide))) (fun x18 gx18 => ?_)
        exact hQ _ gx18
    · refine q_call Q (R := fun (x19 : mS) => fp aw_G_goOneStep fw_G_goOneStep true s x19) (fp_t (fp_LF (fp_IF gx17 (by decide)) (by decide)) (fp_m (fr_Things_keep (sL (sI x17.2 3 12 ((gI x17.2 3 12) - x17.1)) 0 13 ((gL x17.2 0 13) + (Int32.toInt64 x17.1)))) (by decide) (by decide) (by decide))) (fun x19 gx19 => ?_)
      refine q_call Q (R := fun (x20 : mS) => fp aw_G_goOneStep fw_G_goOneStep true s x20) (fp_t gx19 (fp_m (fr_Net_keep (gI x19 0 14) x19) (by decide) (by decide) (by decide))) (fun x20 gx20 => ?_)
      refine q_call Q (R := fun (x21 : mS) => fp aw_G_goOneStep fw_G_goOneStep true s x21) (fp_t gx20 (fp_m (fr_G_countFails x20 (fp_P (show fp aw_G_goOneStep fw_G_goOneStep true s x20 from gx20) hP)) (by decide) (by decide) (by decide))) (fun x21 gx21 => ?_)
      exact hQ _ (fp_IF gx21 (by decide))
def aw_lp_G_steps_26 : List Nat := [8, 19, 20, 21, 22, 23, 24, 30, 31, 32, 33, 34, 39]
def fw_lp_G_steps_26 : List (Nat × Nat) := [(0, 9), (0, 10), (0, 11), (0, 12), (0, 13), (0, 14), (3, 10), (3, 12), (3, 13), (3, 14), (3, 15), (3, 16), (36, 3), (36, 8), (36, 9)]
theorem fr_lp_G_steps_26  (a1 : Int32) : ∀ (n : Nat) (v2 : Int32) (s : mS), (∀ j, mq_A (gP s j)) → fp aw_lp_G_steps_26 fw_lp_G_steps_26 true s (lp_G_steps_26 a1 n v2 s).2 := by
  intro n
  induction n with
  | zero => intro v2 s _; exact fp_r
  | succ n ih =>
    intro v2 s hP
    refine (fun (Q : Int32 × mS → Prop) (hQ : ∀ r, fp aw_lp_G_steps_26 fw_lp_G_steps_26 true s r.2 → Q r) => ?_ : ∀ Q : Int32 × mS → Prop, (∀ r, fp aw_lp_G_steps_26 fw_lp_G_steps_26 true s r.2 → Q r) → Q (lp_G_steps_26 a1 (n + 1) v2 s)) (fun r => fp aw_lp_G_steps_26 fw_lp_G_steps_26 true s r.2) (fun _ h => h)
    rw [lp_G_steps_26]
    refine q_if Q (fun _ => ?_) (fun _ => ?_)
    · exact hQ _ fp_r
    · refine q_call Q (R := fun (x11 : mS) => fp aw_lp_G_steps_26 fw_lp_G_steps_26 true s x11) (fp_t fp_r (fp_m (fr_G_goOneStep s (fp_P (show fp aw_lp_G_steps_26 fw_lp_G_steps_26 true s s from fp_r) hP)) (by decide) (by decide) (by decide))) (fun x11 gx11 => ?_)
      exact hQ _ (fp_t gx11 (ih (v2 + 1) x11 (fp_P (show fp aw_lp_G_steps_26 fw_lp_G_steps_26 true s x11 from gx11) hP)))
def aw_G_steps : List Nat := [8, 19, 20, 21, 22, 23, 24, 30, 31, 32, 33, 34, 39]
def fw_G_steps : List (Nat × Nat) := [(0, 9), (0, 10), (0, 11), (0, 12), (0, 13), (0, 14), (3, 10), (3, 12), (3, 13), (3, 14), (3, 15), (3, 16), (36, 3), (36, 8), (36, 9)]
theorem fr_G_steps  (a1 : Int32) (s : mS) (hP : ∀ j, mq_A (gP s j)) : fp aw_G_steps fw_G_steps true s (f_G_steps a1 s).2 := by
  refine (fun (Q : Int32 × mS → Prop) (hQ : ∀ r, fp aw_G_steps fw_G_steps true s r.2 → Q r) => ?_ : ∀ Q : Int32 × mS → Prop, (∀ r, fp aw_G_steps fw_G_steps true s r.2 → Q r) → Q (f_G_steps a1 s)) (fun r => fp aw_G_steps fw_G_steps true s r.2) (fun _ h => h)
  unfold f_G_steps
  refine q_let0 Q (fun x10 => ?_)
  refine q_if Q (fun _ => ?_) (fun _ => ?_)
  · exact hQ _ fp_r
  · refine q_if Q (fun _ => ?_) (fun _ => ?_)
    · refine q_call Q (R := fun (x12 : Int32 × mS) => fp aw_G_steps fw_G_steps true s x12.2) (fp_t fp_r (fp_m (fr_lp_G_steps_26 a1 mm_N (0 : Int32) s (fp_P (show fp aw_G_steps fw_G_steps true s s from fp_r) hP)) (by decide) (by decide) (by decide))) (fun x12 gx12 => ?_)
      exact hQ _ gx12
    · exact hQ _ fp_r
def aw_M_burns : List Nat := []
def fw_M_burns : List (Nat × Nat) := [(116, 6), (116, 36), (116, 37)]
theorem fr_M_burns   (s : mS) : fp aw_M_burns fw_M_burns false s (f_M_burns s) := by
  refine (fun (Q : mS → Prop) (hQ : ∀ r, fp aw_M_burns fw_M_burns false s r → Q r) => ?_ : ∀ Q : mS → Prop, (∀ r, fp aw_M_burns fw_M_burns false s r → Q r) → Q (f_M_burns s)) (fun r => fp aw_M_burns fw_M_burns false s r) (fun _ h => h)
  unfold f_M_burns
  refine q_let0 Q (fun x11 => ?_)
  refine q_call Q (R := fun (x12 : mS) => fp aw_M_burns fw_M_burns false s x12) (fp_t (fp_LF fp_r (by decide)) (fp_m (fr_M_fills x11.1 (sL s 116 36 ((gL s 116 36) + (Int32.toInt64 x11.1)))) (by decide) (by decide) (by decide))) (fun x12 gx12 => ?_)
  exact hQ _ gx12
def aw_lp_M_flows_2 : List Nat := [144]
def fw_lp_M_flows_2 : List (Nat × Nat) := []
theorem fr_lp_M_flows_2   : ∀ (n : Nat) (v1 : Int32) (s : mS), fp aw_lp_M_flows_2 fw_lp_M_flows_2 false s (lp_M_flows_2 n v1 s).2 := by
  intro n
  induction n with
  | zero => intro v1 s; exact fp_r
  | succ n ih =>
    intro v1 s
    refine (fun (Q : Int32 × mS → Prop) (hQ : ∀ r, fp aw_lp_M_flows_2 fw_lp_M_flows_2 false s r.2 → Q r) => ?_ : ∀ Q : Int32 × mS → Prop, (∀ r, fp aw_lp_M_flows_2 fw_lp_M_flows_2 false s r.2 → Q r) → Q (lp_M_flows_2 (n + 1) v1 s)) (fun r => fp aw_lp_M_flows_2 fw_lp_M_flows_2 false s r.2) (fun _ h => h)
    rw [lp_M_flows_2]
    refine q_if Q (fun _ => ?_) (fun _ => ?_)
    · exact hQ _ fp_r
    · exact hQ _ (fp_t (fp_IA fp_r (by decide)) (ih (v1 + 1) (sI s 144 (ix v1) 0)))
def aw_lp_M_flows_25 : List Nat := [144]
def fw_lp_M_flows_25 : List (Nat × Nat) := []
theorem fr_lp_M_flows_25   : ∀ (n : Nat) (v1 : Int32) (s : mS), fp aw_lp_M_flows_25 fw_lp_M_flows_25 false s (lp_M_flows_25 n v1 s).2 := by
  intro n
  induction n with
  | zero => intro v1 s; exact fp_r
  | succ n ih =>
    intro v1 s
    refine (fun (Q : Int32 × mS → Prop) (hQ : ∀ r, fp aw_lp_M_flows_25 fw_lp_M_flows_25 false s r.2 → Q r) => ?_ : ∀ Q : Int32 × mS → Prop, (∀ r, fp aw_lp_M_flows_25 fw_lp_M_flows_25 false s r.2 → Q r) → Q (lp_M_flows_25 (n + 1) v1 s)) (fun r => fp aw_lp_M_flows_25 fw_lp_M_flows_25 false s r.2) (fun _ h => h)
    rw [lp_M_flows_25]
    refine q_if Q (fun _ => ?_) (fun _ => ?_)
    · exact hQ _ fp_r
    · exact hQ _ (fp_t (fp_IA fp_r (by decide)) (ih (v1 + 1) (sI s 144 (ix (gI s 132 (ix v1))) ((gI s 144 (ix (gI s 132 (ix v1)))) + (gI s 143 (ix v1))))))
def aw_lp_M_flows_66 : List Nat := [144]
def fw_lp_M_flows_66 : List (Nat × Nat) := []
theorem fr_lp_M_flows_66   : ∀ (n : Nat) (v1 : Int32) (s : mS), fp aw_lp_M_flows_66 fw_lp_M_flows_66 false s (lp_M_flows_66 n v1 s).2 := by
  intro n
  induction n with
  | zero => intro v1 s; exact fp_r
  | succ n ih =>
    intro v1 s
    refine (fun (Q : Int32 × mS → Prop) (hQ : ∀ r, fp aw_lp_M_flows_66 fw_lp_M_flows_66 false s r.2 → Q r) => ?_ : ∀ Q : Int32 × mS → Prop, (∀ r, fp aw_lp_M_flows_66 fw_lp_M_flows_66 false s r.2 → Q r) → Q (lp_M_flows_66 (n + 1) v1 s)) (fun r => fp aw_lp_M_flows_66 fw_lp_M_flows_66 false s r.2) (fun _ h => h)
    rw [lp_M_flows_66]
    refine q_if Q (fun _ => ?_) (fun _ => ?_)
    · exact hQ _ fp_r
    · exact hQ _ (fp_t (fp_IA fp_r (by decide)) (ih (v1 + (-1)) (sI s 144 (ix (gI s 127 (ix v1))) ((gI s 144 (ix (gI s 127 (ix v1)))) + (gI s 144 (ix v1))))))
def aw_M_flows : List Nat := [144]
def fw_M_flows : List (Nat × Nat) := []
theorem fr_M_flows   (s : mS) : fp aw_M_flows fw_M_flows false s (f_M_flows s) := by
  refine (fun (Q : mS → Prop) (hQ : ∀ r, fp aw_M_flows fw_M_flows false s r → Q r) => ?_ : ∀ Q : mS → Prop, (∀ r, fp aw_M_flows fw_M_flows false s r → Q r) → Q (f_M_flows s)) (fun r => fp aw_M_flows fw_M_flows false s r) (fun _ h => h)
  unfold f_M_flows
  refine q_call Q (R := fun (x10 : Int32 × mS) => fp aw_M_flows fw_M_flows false s x10.2) (fp_t fp_r (fp_m (fr_lp_M_flows_2 mm_N (0 : Int32) s) (by decide) (by decide) (by decide))) (fun x10 gx10 => ?_)
  refine q_call Q (R := fun (x11 : Int32 × mS) => fp aw_M_flows fw_M_flows false s x11.2) (fp_t gx10 (fp_m (fr_lp_M_flows_25 mm_N (0 : Int32) x10.2) (by decide) (by decide) (by decide))) (fun x11 gx11 => ?_)
  refine q_call Q (R := fun (x12 : Int32 × mS) => fp aw_M_flows fw_M_flows false s x12.2) (fp_t gx11 (fp_m (fr_lp_M_flows_66 mm_N ((gI x11.2 116 7) - 1) x11.2) (by decide) (by decide) (by decide))) (fun x12 gx12 => ?_)
  exact hQ _ gx12
def aw_lp_M_sweep_16 : List Nat := [145]
def fw_lp_M_sweep_16 : List (Nat × Nat) := []
theorem fr_lp_M_sweep_16   : ∀ (n : Nat) (v1 : Int32) (s : mS), fp aw_lp_M_sweep_16 fw_lp_M_sweep_16 false s (lp_M_sweep_16 n v1 s).2 := by
  intro n
  induction n with
  | zero => intro v1 s; exact fp_r
  | succ n ih =>
    intro v1 s
    refine (fun (Q : Int32 × mS → Prop) (hQ : ∀ r, fp aw_lp_M_sweep_16 fw_lp_M_sweep_16 false s r.2 → Q r) => ?_ : ∀ Q : Int32 × mS → Prop, (∀ r, fp aw_lp_M_sweep_16 fw_lp_M_sweep_16 false s r.2 → Q r) → Q (lp_M_sweep_16 (n + 1) v1 s)) (fun r => fp aw_lp_M_sweep_16 fw_lp_M_sweep_16 false s r.2) (fun _ h => h)
    rw [lp_M_sweep_16]
    refine q_if Q (fun _ => ?_) (fun _ => ?_)
    · exact hQ _ fp_r
    · refine q_let0 Q (fun x11 => ?_)
      exact hQ _ (fp_t (fp_IA fp_r (by decide)) (ih (v1 + 1) (sI s 145 (ix v1) x11)))
def aw_lp_M_sweep_110 : List Nat := [143]
def fw_lp_M_sweep_110 : List (Nat × Nat) := []
theorem fr_lp_M_sweep_110   : ∀ (n : Nat) (v1 : Int32) (s : mS), fp aw_lp_M_sweep_110 fw_lp_M_sweep_110 false s (lp_M_sweep_110 n v1 s).2 := by
  intro n
  induction n with
  | zero => intro v1 s; exact fp_r
  | succ n ih =>
    intro v1 s
    refine (fun (Q : Int32 × mS → Prop) (hQ : ∀ r, fp aw_lp_M_sweep_110 fw_lp_M_sweep_110 false s r.2 → Q r) => ?_ : ∀ Q : Int32 × mS → Prop, (∀ r, fp aw_lp_M_sweep_110 fw_lp_M_sweep_110 false s r.2 → Q r) → Q (lp_M_sweep_110 (n + 1) v1 s)) (fun r => fp aw_lp_M_sweep_110 fw_lp_M_sweep_110 false s r.2) (fun _ h => h)
    rw [lp_M_sweep_110]
    refine q_if Q (fun _ => ?_) (fun _ => ?_)
    · exact hQ _ fp_r
    · refine q_let0 Q (fun x15 => ?_)
      exact hQ _ (fp_t (fp_IA fp_r (by decide)) (ih (v1 + 1) (sI s 143 (ix v1) x15)))
def aw_M_sweep : List Nat := [143, 144, 145]
def fw_M_sweep : List (Nat × Nat) := []
theorem fr_M_sweep   (s : mS) : fp aw_M_sweep fw_M_sweep false s (f_M_sweep s) := by
  refine (fun (Q : mS → Prop) (hQ : ∀ r, fp aw_M_sweep fw_M_sweep false s r → Q r) => ?_ : ∀ Q : mS → Prop, (∀ r, fp aw_M_sweep fw_M_sweep false s r → Q r) → Q (f_M_sweep s)) (fun r => fp aw_M_sweep fw_M_sweep false s r) (fun _ h => h)
  unfold f_M_sweep
  refine q_call Q (R := fun (x10 : mS) => fp aw_M_sweep fw_M_sweep false s x10) (fp_t fp_r (fp_m (fr_M_flows s) (by decide) (by decide) (by decide))) (fun x10 gx10 => ?_)
  refine q_call Q (R := fun (x12 : Int32 × mS) => fp aw_M_sweep fw_M_sweep false s x12.2) (fp_t (fp_IA gx10 (by decide)) (fp_m (fr_lp_M_sweep_16 mm_N (1 : Int32) (sI x10 145 0 (gI x10 116 11))) (by decide) (by decide) (by decide))) (fun x12 gx12 => ?_)
  refine q_call Q (R := fun (x16 : Int32 × mS) => fp aw_M_sweep fw_M_sweep false s x16.2) (fp_t gx12 (fp_m (fr_lp_M_sweep_110 mm_N (0 : Int32) x12.2) (by decide) (by decide) (by decide))) (fun x16 gx16 => ?_)
  exact hQ _ gx16
def aw_lp_M_settles_2 : List Nat := [142, 143]
def fw_lp_M_settles_2 : List (Nat × Nat) := []
theorem fr_lp_M_settles_2  (a1 : Int32) : ∀ (n : Nat) (v2 : Int32) (s : mS), fp aw_lp_M_settles_2 fw_lp_M_settles_2 false s (lp_M_settles_2 a1 n v2 s).2 := by
  intro n
  induction n with
  | zero => intro v2 s; exact fp_r
  | succ n ih =>
    intro v2 s
    refine (fun (Q : Int32 × mS → Prop) (hQ : ∀ r, fp aw_lp_M_settles_2 fw_lp_M_settles_2 false s r.2 → Q r) => ?_ : ∀ Q : Int32 × mS → Prop, (∀ r, fp aw_lp_M_settles_2 fw_lp_M_settles_2 false s r.2 → Q r) → Q (lp_M_settles_2 a1 (n + 1) v2 s)) (fun r => fp aw_lp_M_settles_2 fw_lp_M_settles_2 false s r.2) (fun _ h => h)
    rw [lp_M_settles_2]
    refine q_if Q (fun _ => ?_) (fun _ => ?_)
    · exact hQ _ fp_r
    · refine q_let0 Q (fun x10 => ?_)
      exact hQ _ (fp_t (fp_IA (fp_IA fp_r (by decide)) (by decide)) (ih (v2 + 1) (sI (sI s 142 (ix v2) x10) 143 (ix v2) (gI (sI s 142 (ix v2) x10) 142 (ix v2)))))
def aw_lp_M_settles_66 : List Nat := [146]
def fw_lp_M_settles_66 : List (Nat × Nat) := []
theorem fr_lp_M_settles_66  (a2 : Int32) : ∀ (n : Nat) (v3 : Int32) (v4 : Int32) (s : mS), fp aw_lp_M_settles_66 fw_lp_M_settles_66 false s (lp_M_settles_66 a2 n v3 v4 s).2.2 := by
  intro n
  induction n with
  | zero => intro v3 v4 s; exact fp_r
  | succ n ih =>
    intro v3 v4 s
    refine (fun (Q : Int32 × Int32 × mS → Prop) (hQ : ∀ r, fp aw_lp_M_settles_66 fw_lp_M_settles_66 false s r.2.2 → Q r) => ?_ : ∀ Q : Int32 × Int32 × mS → Prop, (∀ r, fp aw_lp_M_settles_66 fw_lp_M_settles_66 false s r.2.2 → Q r) → Q (lp_M_settles_66 a2 (n + 1) v3 v4 s)) (fun r => fp aw_lp_M_settles_66 fw_lp_M_settles_66 false s r.2.2) (fun _ h => h)
    rw [lp_M_settles_66]
    refine q_if Q (fun _ => ?_) (fun _ => ?_)
    · exact hQ _ fp_r
    · refine q_let0 Q (fun x16 => ?_)
      exact hQ _ (fp_t (fp_IA fp_r (by decide)) (ih x16 (v4 + 1) (sI s 146 (ix v4) (gI s 145 (ix v4)))))
def aw_lp_M_settles_42 : List Nat := [143, 144, 145, 146]
def fw_lp_M_settles_42 : List (Nat × Nat) := []
theorem fr_lp_M_settles_42   : ∀ (n : Nat) (v2 : Int32) (s : mS), fp aw_lp_M_settles_42 fw_lp_M_settles_42 false s (lp_M_settles_42 n v2 s).2.2 := by
  intro n
  induction n with
  | zero => intro v2 s; exact fp_r
  | succ n ih =>
    intro v2 s
    refine (fun (Q : Option Int32 × Int32 × mS → Prop) (hQ : ∀ r, fp aw_lp_M_settles_42 fw_lp_M_settles_42 false s r.2.2 → Q r) => ?_ : ∀ Q : Option Int32 × Int32 × mS → Prop, (∀ r, fp aw_lp_M_settles_42 fw_lp_M_settles_42 false s r.2.2 → Q r) → Q (lp_M_settles_42 (n + 1) v2 s)) (fun r => fp aw_lp_M_settles_42 fw_lp_M_settles_42 false s r.2.2) (fun _ h => h)
    rw [lp_M_settles_42]
    refine q_if Q (fun _ => ?_) (fun _ => ?_)
    · exact hQ _ fp_r
    · refine q_call Q (R := fun (x14 : mS) => fp aw_lp_M_settles_42 fw_lp_M_settles_42 false s x14) (fp_t fp_r (fp_m (fr_M_sweep s) (by decide) (by decide) (by decide))) (fun x14 gx14 => ?_)
      refine q_let0 Q (fun x15 => ?_)
      refine q_call Q (R := fun (x17 : Int32 × Int32 × mS) => fp aw_lp_M_settles_42 fw_lp_M_settles_42 false s x17.2.2) (fp_t gx14 (fp_m (fr_lp_M_settles_66 v2 mm_N x15 (0 : Int32) x14) (by decide) (by decide) (by decide))) (fun x17 gx17 => ?_)
      refine q_if Q (fun _ => ?_) (fun _ => ?_)
      · exact hQ _ (fp_t gx17 (ih (v2 + 1) x17.2.2))
      · exact hQ _ gx17
def aw_M_settles : List Nat := [142, 143, 144, 145, 146]
def fw_M_settles : List (Nat × Nat) := []
theorem fr_M_settles  (a1 : Int32) (s : mS) : fp aw_M_settles fw_M_settles false s (f_M_settles a1 s).2 := by
  refine (fun (Q : Int32 × mS → Prop) (hQ : ∀ r, fp aw_M_settles fw_M_settles false s r.2 → Q r) => ?_ : ∀ Q : Int32 × mS → Prop, (∀ r, fp aw_M_settles fw_M_settles false s r.2 → Q r) → Q (f_M_settles a1 s)) (fun r => fp aw_M_settles fw_M_settles false s r.2) (fun _ h => h)
  unfold f_M_settles
  refine q_call Q (R := fun (x11 : Int32 × mS) => fp aw_M_settles fw_M_settles false s x11.2) (fp_t fp_r (fp_m (fr_lp_M_settles_2 a1 mm_N (0 : Int32) s) (by decide) (by decide) (by decide))) (fun x11 gx11 => ?_)
  refine q_call Q (R := fun (x19 : Option Int32 × Int32 × mS) => fp aw_M_settles fw_M_settles false s x19.2.2) (fp_t gx11 (fp_m (fr_lp_M_settles_42 mm_N (1 : Int32) x11.2) (by decide) (by decide) (by decide))) (fun x19 gx19 => ?_)
  refine q_el Q (fun v => ?_) ?_
  · exact hQ _ gx19
  exact hQ _ gx19
def aw_lp_M_keeps_14 : List Nat := [131, 148, 149]
def fw_lp_M_keeps_14 : List (Nat × Nat) := []
theorem fr_lp_M_keeps_14   : ∀ (n : Nat) (v1 : Int32) (s : mS), fp aw_lp_M_keeps_14 fw_lp_M_keeps_14 false s (lp_M_keeps_14 n v1 s).2 := by
  intro n
  induction n with
  | zero => intro v1 s; exact fp_r
  | succ n ih =>
    intro v1 s
    refine (fun (Q : Int32 × mS → Prop) (hQ : ∀ r, fp aw_lp_M_keeps_14 fw_lp_M_keeps_14 false s r.2 → Q r) => ?_ : ∀ Q : Int32 × mS → Prop, (∀ r, fp aw_lp_M_keeps_14 fw_lp_M_keeps_14 false s r.2 → Q r) → Q (lp_M_keeps_14 (n + 1) v1 s)) (fun r => fp aw_lp_M_keeps_14 fw_lp_M_keeps_14 false s r.2) (fun _ h => h)
    rw [lp_M_keeps_14]
    refine q_if Q (fun _ => ?_) (fun _ => ?_)
    · exact hQ _ fp_r
    · refine q_let0 Q (fun x11 => ?_)
      exact hQ _ (fp_t (fp_IA (fp_IA (fp_IA fp_r (by decide)) (by decide)) (by decide)) (ih (v1 + 1) (sI (sI (sI s 148 (ix v1) (gI s 144 (ix v1))) 149 (ix v1) x11) 131 (ix v1) (gI s 130 (ix v1)))))
def aw_M_keeps : List Nat := [131, 144, 148, 149]
def fw_M_keeps : List (Nat × Nat) := [(116, 55)]
theorem fr_M_keeps   (s : mS) : fp aw_M_keeps fw_M_keeps false s (f_M_keeps s) := by
  refine (fun (Q : mS → Prop) (hQ : ∀ r, fp aw_M_keeps fw_M_keeps false s r → Q r) => ?_ : ∀ Q : mS → Prop, (∀ r, fp aw_M_keeps fw_M_keeps false s r → Q r) → Q (f_M_keeps s)) (fun r => fp aw_M_keeps fw_M_keeps false s r) (fun _ h => h)
  unfold f_M_keeps
  refine q_call Q (R := fun (x10 : mS) => fp aw_M_keeps fw_M_keeps false s x10) (fp_t fp_r (fp_m (fr_M_flows s) (by decide) (by decide) (by decide))) (fun x10 gx10 => ?_)
  refine q_call Q (R := fun (x12 : Int32 × mS) => fp aw_M_keeps fw_M_keeps false s x12.2) (fp_t (fp_IF gx10 (by decide)) (fp_m (fr_lp_M_keeps_14 mm_N (0 : Int32) (sI x10 116 55 (gI x10 116 7))) (by decide) (by decide) (by decide))) (fun x12 gx12 => ?_)
  exact hQ _ gx12
def aw_M_asks : List Nat := [169]
def fw_M_asks : List (Nat × Nat) := []
theorem fr_M_asks  (a1 : Int32) (a2 : Int32) (a3 : Int32) (s : mS) : fp aw_M_asks fw_M_asks false s (f_M_asks a1 a2 a3 s) := by
  refine (fun (Q : mS → Prop) (hQ : ∀ r, fp aw_M_asks fw_M_asks false s r → Q r) => ?_ : ∀ Q : mS → Prop, (∀ r, fp aw_M_asks fw_M_asks false s r → Q r) → Q (f_M_asks a1 a2 a3 s)) (fun r => fp aw_M_asks fw_M_asks false s r) (fun _ h => h)
  unfold f_M_asks
  refine q_let0 Q (fun x10 => ?_)
  exact hQ _ (fp_IA (fp_IA (fp_IA (fp_IA (fp_IA fp_r (by decide)) (by decide)) (by decide)) (by decide)) (by decide))
def aw_lp_M_comesTo_6 : List Nat := [168]
def fw_lp_M_comesTo_6 : List (Nat × Nat) := []
theorem fr_lp_M_comesTo_6  (a1 : Int32) (a3 : Int32) : ∀ (n : Nat) (v4 : Int32) (v5 : Int32) (s : mS), fp aw_lp_M_comesTo_6 fw_lp_M_comesTo_6 false s (lp_M_comesTo_6 a1 a3 n v4 v5 s).2.2 := by
  intro n
  induction n with
  | zero => intro v4 v5 s; exact fp_r
  | succ n ih =>
    intro v4 v5 s
    refine (fun (Q : Int32 × Int32 × mS → Prop) (hQ : ∀ r, fp aw_lp_M_comesTo_6 fw_lp_M_comesTo_6 false s r.2.2 → Q r) => ?_ : ∀ Q : Int32 × Int32 × mS → Prop, (∀ r, fp aw_lp_M_comesTo_6 fw_lp_M_comesTo_6 false s r.2.2 → Q r) → Q (lp_M_comesTo_6 a1 a3 (n + 1) v4 v5 s)) (fun r => fp aw_lp_M_comesTo_6 fw_lp_M_comesTo_6 false s r.2.2) (fun _ h => h)
    rw [lp_M_comesTo_6]
    refine q_if Q (fun _ => ?_) (fun _ => ?_)
    · exact hQ _ fp_r
    · refine q_if Q (fun _ => ?_) (fun _ => ?_)
      · refine q_if Q (fun _ => ?_) (fun _ => ?_)
        · exact hQ _ (fp_t (fp_IA fp_r (by decide)) (ih v4 (v5 + 1) (sI s 168 (ix (v4 - 1)) ((gI s 168 (ix (v4 - 1))) / (gI s 162 (ix (((1220 * a1) + (2 * v5)) + 1)))))))
        · refine q_if Q (fun _ => ?_) (fun _ => ?_)
          · exact hQ _ (fp_t (fp_IA fp_r (by decide)) (ih v4 (v5 + 1) (sI s 168 (ix (v4 - 1)) (1 - (gI s 168 (ix (v4 - 1)))))))
          · refine q_let0 Q (fun x10 => ?_)
            refine q_let0 Q (fun x11 => ?_)
            exact hQ _ (fp_t (fp_IA fp_r (by decide)) (ih x10 (v5 + 1) (sI s 168 (ix (x10 - 1)) x11)))
      · refine q_let0 Q (fun x12 => ?_)
        exact hQ _ (fp_t (fp_IA fp_r (by decide)) (ih (v4 + 1) (v5 + 1) (sI s 168 (ix v4) x12)))
def aw_M_comesTo : List Nat := [168]
def fw_M_comesTo : List (Nat × Nat) := []
theorem fr_M_comesTo  (a1 : Int32) (a2 : Int32) (a3 : Int32) (s : mS) : fp aw_M_comesTo fw_M_comesTo false s (f_M_comesTo a1 a2 a3 s).2 := by
  refine (fun (Q : Int32 × mS → Prop) (hQ : ∀ r, fp aw_M_comesTo fw_M_comesTo false s r.2 → Q r) => ?_ : ∀ Q : Int32 × mS → Prop, (∀ r, fp aw_M_comesTo fw_M_comesTo false s r.2 → Q r) → Q (f_M_comesTo a1 a2 a3 s)) (fun r => fp aw_M_comesTo fw_M_comesTo false s r.2) (fun _ h => h)
  unfold f_M_comesTo
  refine q_call Q (R := fun (x13 : Int32 × Int32 × mS) => fp aw_M_comesTo fw_M_comesTo false s x13.2.2) (fp_t fp_r (fp_m (fr_lp_M_comesTo_6 a1 a3 mm_N (0 : Int32) a2 s) (by decide) (by decide) (by decide))) (fun x13 gx13 => ?_)
  exact hQ _ gx13
def aw_M_tells : List Nat := [168]
def fw_M_tells : List (Nat × Nat) := []
theorem fr_M_tells  (a1 : Int32) (a2 : Int32) (a3 : Int32) (s : mS) : fp aw_M_tells fw_M_tells false s (f_M_tells a1 a2 a3 s).2 := by
  refine (fun (Q : Int32 × mS → Prop) (hQ : ∀ r, fp aw_M_tells fw_M_tells false s r.2 → Q r) => ?_ : ∀ Q : Int32 × mS → Prop, (∀ r, fp aw_M_tells fw_M_tells false s r.2 → Q r) → Q (f_M_tells a1 a2 a3 s)) (fun r => fp aw_M_tells fw_M_tells false s r.2) (fun _ h => h)
  unfold f_M_tells
  refine q_if Q (fun _ => ?_) (fun _ => ?_)
  · refine q_if Q (fun _ => ?_) (fun _ => ?_)
    · exact hQ _ fp_r
    · refine q_call Q (R := fun (x10 : Int32 × mS) => fp aw_M_tells fw_M_tells false s x10.2) (fp_t fp_r (fp_m (fr_M_comesTo a1 (gI s 161 (ix ((24 * a1) + a2))) (gI s 160 (ix (((25 * a1) + a2) + 1))) s) (by decide) (by decide) (by decide))) (fun x10 gx10 => ?_)
      refine q_if Q (fun _ => ?_) (fun _ => ?_)
      · exact hQ _ gx10
      · exact hQ _ gx10
  · exact hQ _ fp_r
def aw_lp_M_dueOf_2_111 : List Nat := [168]
def fw_lp_M_dueOf_2_111 : List (Nat × Nat) := []
theorem fr_lp_M_dueOf_2_111  (a1 : Int32) (a2 : Int32) (a5 : Int32) (a6 : Int32) : ∀ (n : Nat) (v7 : Int32) (s : mS), fp aw_lp_M_dueOf_2_111 fw_lp_M_dueOf_2_111 false s (lp_M_dueOf_2_111 a1 a2 a5 a6 n v7 s).2 := by
  intro n
  induction n with
  | zero => intro v7 s; exact fp_r
  | succ n ih =>
    intro v7 s
    refine (fun (Q : Int32 × mS → Prop) (hQ : ∀ r, fp aw_lp_M_dueOf_2_111 fw_lp_M_dueOf_2_111 false s r.2 → Q r) => ?_ : ∀ Q : Int32 × mS → Prop, (∀ r, fp aw_lp_M_dueOf_2_111 fw_lp_M_dueOf_2_111 false s r.2 → Q r) → Q (lp_M_dueOf_2_111 a1 a2 a5 a6 (n + 1) v7 s)) (fun r => fp aw_lp_M_dueOf_2_111 fw_lp_M_dueOf_2_111 false s r.2) (fun _ h => h)
    rw [lp_M_dueOf_2_111]
    refine q_if Q (fun _ => ?_) (fun _ => ?_)
    · exact hQ _ fp_r
    · refine q_call Q (R := fun (x11 : Int32 × mS) => fp aw_lp_M_dueOf_2_111 fw_lp_M_dueOf_2_111 false s x11.2) (fp_t fp_r (fp_m (fr_M_tells a6 v7 a1 s) (by decide) (by decide) (by decide))) (fun x11 gx11 => ?_)
      refine q_if Q (fun _ => ?_) (fun _ => ?_)
      · exact hQ _ (fp_t gx11 (ih (v7 + 1) x11.2))
      · exact hQ _ gx11
def aw_lp_M_dueOf_2_212 : List Nat := [168]
def fw_lp_M_dueOf_2_212 : List (Nat × Nat) := [(116, 92)]
theorem fr_lp_M_dueOf_2_212  (a1 : Int32) (a2 : Int32) (a5 : Int32) (a6 : Int32) : ∀ (n : Nat) (v8 : Int32) (s : mS), fp aw_lp_M_dueOf_2_212 fw_lp_M_dueOf_2_212 false s (lp_M_dueOf_2_212 a1 a2 a5 a6 n v8 s).2 := by
  intro n
  induction n with
  | zero => intro v8 s; exact fp_r
  | succ n ih =>
    intro v8 s
    refine (fun (Q : Int32 × mS → Prop) (hQ : ∀ r, fp aw_lp_M_dueOf_2_212 fw_lp_M_dueOf_2_212 false s r.2 → Q r) => ?_ : ∀ Q : Int32 × mS → Prop, (∀ r, fp aw_lp_M_dueOf_2_212 fw_lp_M_dueOf_2_212 false s r.2 → Q r) → Q (lp_M_dueOf_2_212 a1 a2 a5 a6 (n + 1) v8 s)) (fun r => fp aw_lp_M_dueOf_2_212 fw_lp_M_dueOf_2_212 false s r.2) (fun _ h => h)
    rw [lp_M_dueOf_2_212]
    refine q_if Q (fun _ => ?_) (fun _ => ?_)
    · exact hQ _ fp_r
    · refine q_join Q (fun (x19 : Int32 × mS) => fp aw_lp_M_dueOf_2_212 fw_lp_M_dueOf_2_212 false s x19.2) (fun Q hQ => ?_) (fun x19 gx19 => ?_)
      · refine q_if Q (fun _ => ?_) (fun _ => ?_)
        · refine q_call Q (R := fun (x20 : Int32 × mS) => fp aw_lp_M_dueOf_2_212 fw_lp_M_dueOf_2_212 false s x20.2) (fp_t fp_r (fp_m (fr_M_tells a6 v8 a1 s) (by decide) (by decide) (by decide))) (fun x20 gx20 => ?_)
          refine q_if Q (fun _ => ?_) (fun _ => ?_)
          · exact hQ _ gx20
          · refine q_call Q (R := fun (x21 : Int32 × mS) => fp aw_lp_M_dueOf_2_212 fw_lp_M_dueOf_2_212 false s x21.2) (fp_t gx20 (fp_m (fr_M_comesTo a6 (gI x20.2 160 (ix ((25 * a6) + v8))) (gI x20.2 161 (ix ((24 * a6) + v8))) x20.2) (by decide) (by decide) (by decide))) (fun x21 gx21 => ?_)
            refine q_if Q (fun _ => ?_) (fun _ => ?_)
            · exact hQ _ gx21
            · exact hQ _ gx21
        · exact hQ _ fp_r
      · exact hQ _ (fp_t (fp_IF gx19 (by decide)) (ih (v8 + 1) (sI x19.2 116 92 x19.1)))
def aw_lp_M_dueOf_2_47 : List Nat := [168]
def fw_lp_M_dueOf_2_47 : List (Nat × Nat) := [(116, 91), (116, 92), (116, 93)]
theorem fr_lp_M_dueOf_2_47  (a1 : Int32) (a2 : Int32) : ∀ (n : Nat) (v5 : Int32) (v6 : Int32) (s : mS), fp aw_lp_M_dueOf_2_47 fw_lp_M_dueOf_2_47 false s (lp_M_dueOf_2_47 a1 a2 n v5 v6 s).2.2 := by
  intro n
  induction n with
  | zero => intro v5 v6 s; exact fp_r
  | succ n ih =>
    intro v5 v6 s
    refine (fun (Q : Int32 × Int32 × mS → Prop) (hQ : ∀ r, fp aw_lp_M_dueOf_2_47 fw_lp_M_dueOf_2_47 false s r.2.2 → Q r) => ?_ : ∀ Q : Int32 × Int32 × mS → Prop, (∀ r, fp aw_lp_M_dueOf_2_47 fw_lp_M_dueOf_2_47 false s r.2.2 → Q r) → Q (lp_M_dueOf_2_47 a1 a2 (n + 1) v5 v6 s)) (fun r => fp aw_lp_M_dueOf_2_47 fw_lp_M_dueOf_2_47 false s r.2.2) (fun _ h => h)
    rw [lp_M_dueOf_2_47]
    refine q_if Q (fun _ => ?_) (fun _ => ?_)
    · exact hQ _ fp_r
    · refine q_if Q (fun _ => ?_) (fun _ => ?_)
      · exact hQ _ (fp_t fp_r (ih v5 (v6 + 1) s))
      · refine q_if Q (fun _ => ?_) (fun _ => ?_)
        · exact hQ _ (fp_t fp_r (ih v5 (v6 + 1) s))
        · refine q_if Q (fun _ => ?_) (fun _ => ?_)
          · refine q_call Q (R := fun (x12 : Int32 × mS) => fp aw_lp_M_dueOf_2_47 fw_lp_M_dueOf_2_47 false s x12.2) (fp_t fp_r (fp_m (fr_lp_M_dueOf_2_111 a1 a2 v5 v6 mm_N (0 : Int32) s) (by decide) (by decide) (by decide))) (fun x12 gx12 => ?_)
            refine q_if Q (fun _ => ?_) (fun _ => ?_)
            · exact hQ _ (fp_t gx12 (ih v5 (v6 + 1) x12.2))
            · refine q_call Q (R := fun (x16 : Int32 × mS) => fp aw_lp_M_dueOf_2_47 fw_lp_M_dueOf_2_47 false s x16.2) (fp_t (fp_IF (fp_IF gx12 (by decide)) (by decide)) (fp_m (fr_M_comesTo v6 (gI x12.2 160 (ix ((25 * v6) + x12.1))) (gI x12.2 161 (ix ((24 * v6) + x12.1))) (sI (sI x12.2 116 93 v6) 116 91 1)) (by decide) (by decide) (by decide))) (fun x16 gx16 => ?_)
              refine q_call Q (R := fun (x22 : Int32 × mS) => fp aw_lp_M_dueOf_2_47 fw_lp_M_dueOf_2_47 false s x22.2) (fp_t (fp_IF gx16 (by decide)) (fp_m (fr_lp_M_dueOf_2_212 a1 a2 x16.1 v6 mm_N (x12.1 + 1) (sI x16.2 116 92 0)) (by decide) (by decide) (by decide))) (fun x22 gx22 => ?_)
              exact hQ _ (fp_t gx22 (ih x16.1 (v6 + 1) x22.2))
          · refine q_if Q (fun _ => ?_) (fun _ => ?_)
            · refine q_call Q (R := fun (x26 : Int32 × mS) => fp aw_lp_M_dueOf_2_47 fw_lp_M_dueOf_2_47 false s x26.2) (fp_t fp_r (fp_m (fr_lp_M_dueOf_2_111 a1 a2 v5 v6 mm_N (0 : Int32) s) (by decide) (by decide) (by decide))) (fun x26 gx26 => ?_)
              refine q_if Q (fun _ => ?_) (fun _ => ?_)
              · exact hQ _ (fp_t gx26 (ih v5 (v6 + 1) x26.2))
              · refine q_call Q (R := fun (x30 : Int32 × mS) => fp aw_lp_M_dueOf_2_47 fw_lp_M_dueOf_2_47 false s x30.2) (fp_t (fp_IF (fp_IF gx26 (by decide)) (by decide)) (fp_m (fr_M_comesTo v6 (gI x26.2 160 (ix ((25 * v6) + x26.1))) (gI x26.2 161 (ix ((24 * v6) + x26.1))) (sI (sI x26.2 116 93 v6) 116 91 1)) (by decide) (by decide) (by decide))) (fun x30 gx30 => ?_)
                refine q_call Q (R := fun (x31 : Int32 × mS) => fp aw_lp_M_dueOf_2_47 fw_lp_M_dueOf_2_47 false s x31.2) (fp_t (fp_IF gx30 (by decide)) (fp_m (fr_lp_M_dueOf_2_212 a1 a2 x30.1 v6 mm_N (x26.1 + 1) (sI x30.2 116 92 0)) (by decide) (by decide) (by decide))) (fun x31 gx31 => ?_)
                exact hQ _ (fp_t gx31 (ih x30.1 (v6 + 1) x31.2))
            · exact hQ _ (fp_t fp_r (ih v5 (v6 + 1) s))
def aw_M_dueOf_2 : List Nat := [168, 169]
def fw_M_dueOf_2 : List (Nat × Nat) := [(116, 91), (116, 92), (116, 93)]
theorem fr_M_dueOf_2  (a2 : Int32) (a3 : Int32) (s : mS) : fp aw_M_dueOf_2 fw_M_dueOf_2 false s (f_M_dueOf_2 a2 a3 s).2 := by
  refine (fun (Q : Int32 × mS → Prop) (hQ : ∀ r, fp aw_M_dueOf_2 fw_M_dueOf_2 false s r.2 → Q r) => ?_ : ∀ Q : Int32 × mS → Prop, (∀ r, fp aw_M_dueOf_2 fw_M_dueOf_2 false s r.2 → Q r) → Q (f_M_dueOf_2 a2 a3 s)) (fun r => fp aw_M_dueOf_2 fw_M_dueOf_2 false s r.2) (fun _ h => h)
  unfold f_M_dueOf_2
  refine q_call Q (R := fun (x10 : mS) => fp aw_M_dueOf_2 fw_M_dueOf_2 false s x10) (fp_t fp_r (fp_m (fr_M_asks a2 a3 (0 : Int32) s) (by decide) (by decide) (by decide))) (fun x10 gx10 => ?_)
  refine q_call Q (R := fun (x35 : Int32 × Int32 × mS) => fp aw_M_dueOf_2 fw_M_dueOf_2 false s x35.2.2) (fp_t (fp_IF (fp_IF (fp_IF gx10 (by decide)) (by decide)) (by decide)) (fp_m (fr_lp_M_dueOf_2_47 (2 : Int32) a2 mm_N (0 : Int32) (0 : Int32) (sI (sI (sI x10 116 91 0) 116 92 0) 116 93 (-1))) (by decide) (by decide) (by decide))) (fun x35 gx35 => ?_)
  exact hQ _ gx35
def aw_lp_M_dueOf_111 : List Nat := [168]
def fw_lp_M_dueOf_111 : List (Nat × Nat) := []
theorem fr_lp_M_dueOf_111  (a1 : Int32) (a2 : Int32) (a5 : Int32) (a6 : Int32) : ∀ (n : Nat) (v7 : Int32) (s : mS), fp aw_lp_M_dueOf_111 fw_lp_M_dueOf_111 false s (lp_M_dueOf_111 a1 a2 a5 a6 n v7 s).2 := by
  intro n
  induction n with
  | zero => intro v7 s; exact fp_r
  | succ n ih =>
    intro v7 s
    refine (fun (Q : Int32 × mS → Prop) (hQ : ∀ r, fp aw_lp_M_dueOf_111 fw_lp_M_dueOf_111 false s r.2 → Q r) => ?_ : ∀ Q : Int32 × mS → Prop, (∀ r, fp aw_lp_M_dueOf_111 fw_lp_M_dueOf_111 false s r.2 → Q r) → Q (lp_M_dueOf_111 a1 a2 a5 a6 (n + 1) v7 s)) (fun r => fp aw_lp_M_dueOf_111 fw_lp_M_dueOf_111 false s r.2) (fun _ h => h)
    rw [lp_M_dueOf_111]
    refine q_if Q (fun _ => ?_) (fun _ => ?_)
    · exact hQ _ fp_r
    · refine q_call Q (R := fun (x14 : Int32 × mS) => fp aw_lp_M_dueOf_111 fw_lp_M_dueOf_111 false s x14.2) (fp_t fp_r (fp_m (fr_M_tells a6 v7 a1 s) (by decide) (by decide) (by decide))) (fun x14 gx14 => ?_)
      refine q_if Q (fun _ => ?_) (fun _ => ?_)
      · exact hQ _ (fp_t gx14 (ih (v7 + 1) x14.2))
      · exact hQ _ gx14
def aw_lp_M_dueOf_212 : List Nat := [168]
def fw_lp_M_dueOf_212 : List (Nat × Nat) := [(116, 92)]
theorem fr_lp_M_dueOf_212  (a1 : Int32) (a2 : Int32) (a5 : Int32) (a6 : Int32) : ∀ (n : Nat) (v8 : Int32) (s : mS), fp aw_lp_M_dueOf_212 fw_lp_M_dueOf_212 false s (lp_M_dueOf_212 a1 a2 a5 a6 n v8 s).2 := by
  intro n
  induction n with
  | zero => intro v8 s; exact fp_r
  | succ n ih =>
    intro v8 s
    refine (fun (Q : Int32 × mS → Prop) (hQ : ∀ r, fp aw_lp_M_dueOf_212 fw_lp_M_dueOf_212 false s r.2 → Q r) => ?_ : ∀ Q : Int32 × mS → Prop, (∀ r, fp aw_lp_M_dueOf_212 fw_lp_M_dueOf_212 false s r.2 → Q r) → Q (lp_M_dueOf_212 a1 a2 a5 a6 (n + 1) v8 s)) (fun r => fp aw_lp_M_dueOf_212 fw_lp_M_dueOf_212 false s r.2) (fun _ h => h)
    rw [lp_M_dueOf_212]
    refine q_if Q (fun _ => ?_) (fun _ => ?_)
    · exact hQ _ fp_r
    · refine q_join Q (fun (x22 : Int32 × mS) => fp aw_lp_M_dueOf_212 fw_lp_M_dueOf_212 false s x22.2) (fun Q hQ => ?_) (fun x22 gx22 => ?_)
      · refine q_if Q (fun _ => ?_) (fun _ => ?_)
        · refine q_call Q (R := fun (x23 : Int32 × mS) => fp aw_lp_M_dueOf_212 fw_lp_M_dueOf_212 false s x23.2) (fp_t fp_r (fp_m (fr_M_tells a6 v8 a1 s) (by decide) (by decide) (by decide))) (fun x23 gx23 => ?_)
          refine q_if Q (fun _ => ?_) (fun _ => ?_)
          · exact hQ _ gx23
          · refine q_call Q (R := fun (x24 : Int32 × mS) => fp aw_lp_M_dueOf_212 fw_lp_M_dueOf_212 false s x24.2) (fp_t gx23 (fp_m (fr_M_comesTo a6 (gI x23.2 160 (ix ((25 * a6) + v8))) (gI x23.2 161 (ix ((24 * a6) + v8))) x23.2) (by decide) (by decide) (by decide))) (fun x24 gx24 => ?_)
            refine q_if Q (fun _ => ?_) (fun _ => ?_)
            · exact hQ _ gx24
            · exact hQ _ gx24
        · exact hQ _ fp_r
      · exact hQ _ (fp_t (fp_IF gx22 (by decide)) (ih (v8 + 1) (sI x22.2 116 92 x22.1)))
def aw_lp_M_dueOf_47 : List Nat := [168]
def fw_lp_M_dueOf_47 : List (Nat × Nat) := [(116, 91), (116, 92), (116, 93)]
theorem fr_lp_M_dueOf_47  (a1 : Int32) (a2 : Int32) : ∀ (n : Nat) (v5 : Int32) (v6 : Int32) (s : mS), fp aw_lp_M_dueOf_47 fw_lp_M_dueOf_47 false s (lp_M_dueOf_47 a1 a2 n v5 v6 s).2.2 := by
  intro n
  induction n with
  | zero => intro v5 v6 s; exact fp_r
  | succ n ih =>
    intro v5 v6 s
    refine (fun (Q : Int32 × Int32 × mS → Prop) (hQ : ∀ r, fp aw_lp_M_dueOf_47 fw_lp_M_dueOf_47 false s r.2.2 → Q r) => ?_ : ∀ Q : Int32 × Int32 × mS → Prop, (∀ r, fp aw_lp_M_dueOf_47 fw_lp_M_dueOf_47 false s r.2.2 → Q r) → Q (lp_M_dueOf_47 a1 a2 (n + 1) v5 v6 s)) (fun r => fp aw_lp_M_dueOf_47 fw_lp_M_dueOf_47 false s r.2.2) (fun _ h => h)
    rw [lp_M_dueOf_47]
    refine q_if Q (fun _ => ?_) (fun _ => ?_)
    · exact hQ _ fp_r
    · refine q_if Q (fun _ => ?_) (fun _ => ?_)
      · exact hQ _ (fp_t fp_r (ih v5 (v6 + 1) s))
      · refine q_if Q (fun _ => ?_) (fun _ => ?_)
        · exact hQ _ (fp_t fp_r (ih v5 (v6 + 1) s))
        · refine q_if Q (fun _ => ?_) (fun _ => ?_)
          · refine q_call Q (R := fun (x15 : Int32 × mS) => fp aw_lp_M_dueOf_47 fw_lp_M_dueOf_47 false s x15.2) (fp_t fp_r (fp_m (fr_lp_M_dueOf_111 a1 a2 v5 v6 mm_N (0 : Int32) s) (by decide) (by decide) (by decide))) (fun x15 gx15 => ?_)
            refine q_if Q (fun _ => ?_) (fun _ => ?_)
            · exact hQ _ (fp_t gx15 (ih v5 (v6 + 1) x15.2))
            · refine q_call Q (R := fun (x19 : Int32 × mS) => fp aw_lp_M_dueOf_47 fw_lp_M_dueOf_47 false s x19.2) (fp_t (fp_IF (fp_IF gx15 (by decide)) (by decide)) (fp_m (fr_M_comesTo v6 (gI x15.2 160 (ix ((25 * v6) + x15.1))) (gI x15.2 161 (ix ((24 * v6) + x15.1))) (sI (sI x15.2 116 93 v6) 116 91 1)) (by decide) (by decide) (by decide))) (fun x19 gx19 => ?_)
              refine q_call Q (R := fun (x25 : Int32 × mS) => fp aw_lp_M_dueOf_47 fw_lp_M_dueOf_47 false s x25.2) (fp_t (fp_IF gx19 (by decide)) (fp_m (fr_lp_M_dueOf_212 a1 a2 x19.1 v6 mm_N (x15.1 + 1) (sI x19.2 116 92 0)) (by decide) (by decide) (by decide))) (fun x25 gx25 => ?_)
              exact hQ _ (fp_t gx25 (ih x19.1 (v6 + 1) x25.2))
          · refine q_if Q (fun _ => ?_) (fun _ => ?_)
            · refine q_call Q (R := fun (x29 : Int32 × mS) => fp aw_lp_M_dueOf_47 fw_lp_M_dueOf_47 false s x29.2) (fp_t fp_r (fp_m (fr_lp_M_dueOf_111 a1 a2 v5 v6 mm_N (0 : Int32) s) (by decide) (by decide) (by decide))) (fun x29 gx29 => ?_)
              refine q_if Q (fun _ => ?_) (fun _ => ?_)
              · exact hQ _ (fp_t gx29 (ih v5 (v6 + 1) x29.2))
              · refine q_call Q (R := fun (x33 : Int32 × mS) => fp aw_lp_M_dueOf_47 fw_lp_M_dueOf_47 false s x33.2) (fp_t (fp_IF (fp_IF gx29 (by decide)) (by decide)) (fp_m (fr_M_comesTo v6 (gI x29.2 160 (ix ((25 * v6) + x29.1))) (gI x29.2 161 (ix ((24 * v6) + x29.1))) (sI (sI x29.2 116 93 v6) 116 91 1)) (by decide) (by decide) (by decide))) (fun x33 gx33 => ?_)
                refine q_call Q (R := fun (x34 : Int32 × mS) => fp aw_lp_M_dueOf_47 fw_lp_M_dueOf_47 false s x34.2) (fp_t (fp_IF gx33 (by decide)) (fp_m (fr_lp_M_dueOf_212 a1 a2 x33.1 v6 mm_N (x29.1 + 1) (sI x33.2 116 92 0)) (by decide) (by decide) (by decide))) (fun x34 gx34 => ?_)
                exact hQ _ (fp_t gx34 (ih x33.1 (v6 + 1) x34.2))
            · exact hQ _ (fp_t fp_r (ih v5 (v6 + 1) s))
def aw_M_dueOf : List Nat := [168, 169]
def fw_M_dueOf : List (Nat × Nat) := [(116, 91), (116, 92), (116, 93)]
theorem fr_M_dueOf  (a1 : Int32) (a2 : Int32) (a3 : Int32) (s : mS) : fp aw_M_dueOf fw_M_dueOf false s (f_M_dueOf a1 a2 a3 s).2 := by
  refine (fun (Q : Int32 × mS → Prop) (hQ : ∀ r, fp aw_M_dueOf fw_M_dueOf false s r.2 → Q r) => ?_ : ∀ Q : Int32 × mS → Prop, (∀ r, fp aw_M_dueOf fw_M_dueOf false s r.2 → Q r) → Q (f_M_dueOf a1 a2 a3 s)) (fun r => fp aw_M_dueOf fw_M_dueOf false s r.2) (fun _ h => h)
  unfold f_M_dueOf
  refine q_join Q (fun (x11 : Int32 × mS) => fp aw_M_dueOf fw_M_dueOf false s x11.2) (fun Q hQ => ?_) (fun x11 gx11 => ?_)
  · refine q_if Q (fun _ => ?_) (fun _ => ?_)
    · exact hQ _ fp_r
    · refine q_call Q (R := fun (x12 : Int32 × mS) => fp aw_M_dueOf fw_M_dueOf false s x12.2) (fp_t fp_r (fp_m (fr_M_dueOf_2 a2 (0 : Int32) s) (by decide) (by decide) (by decide))) (fun x12 gx12 => ?_)
      exact hQ _ gx12
  · refine q_call Q (R := fun (x13 : mS) => fp aw_M_dueOf fw_M_dueOf false s x13) (fp_t gx11 (fp_m (fr_M_asks a2 a3 x11.1 x11.2) (by decide) (by decide) (by decide))) (fun x13 gx13 => ?_)
    refine q_call Q (R := fun (x38 : Int32 × Int32 × mS) => fp aw_M_dueOf fw_M_dueOf false s x38.2.2) (fp_t (fp_IF (fp_IF (fp_IF gx13 (by decide)) (by decide)) (by decide)) (fp_m (fr_lp_M_dueOf_47 a1 a2 mm_N (0 : Int32) (0 : Int32) (sI (sI (sI x13 116 91 0) 116 92 0) 116 93 (-1))) (by decide) (by decide) (by decide))) (fun x38 gx38 => ?_)
    exact hQ _ gx38
def aw_lp_M_ends_2 : List Nat := [126]
def fw_lp_M_ends_2 : List (Nat × Nat) := [(116, 42), (116, 43)]
theorem fr_lp_M_ends_2   : ∀ (n : Nat) (v1 : Int32) (s : mS), fp aw_lp_M_ends_2 fw_lp_M_ends_2 false s (lp_M_ends_2 n v1 s).2 := by
  intro n
  induction n with
  | zero => intro v1 s; exact fp_r
  | succ n ih =>
    intro v1 s
    refine (fun (Q : Int32 × mS → Prop) (hQ : ∀ r, fp aw_lp_M_ends_2 fw_lp_M_ends_2 false s r.2 → Q r) => ?_ : ∀ Q : Int32 × mS → Prop, (∀ r, fp aw_lp_M_ends_2 fw_lp_M_ends_2 false s r.2 → Q r) → Q (lp_M_ends_2 (n + 1) v1 s)) (fun r => fp aw_lp_M_ends_2 fw_lp_M_ends_2 false s r.2) (fun _ h => h)
    rw [lp_M_ends_2]
    refine q_if Q (fun _ => ?_) (fun _ => ?_)
    · exact hQ _ fp_r
    · refine q_if Q (fun _ => ?_) (fun _ => ?_)
      · exact hQ _ (fp_t fp_r (ih (v1 + 1) s))
      · refine q_if Q (fun _ => ?_) (fun _ => ?_)
        · exact hQ _ (fp_t (fp_LF (fp_LF (fp_IA (fp_IA fp_r (by decide)) (by decide)) (by decide)) (by decide)) (ih (v1 + 1) (sL (sL (sI (sI s 126 (ix v1) ((gI s 126 (ix v1)) + 1)) 126 (ix v1) (-1)) 116 42 ((gL s 116 42) + (Int32.toInt64 (gI s 124 (ix v1))))) 116 43 ((gL s 116 43) + (Int32.toInt64 (gI s 125 (ix v1)))))))
        · exact hQ _ (fp_t (fp_IA fp_r (by decide)) (ih (v1 + 1) (sI s 126 (ix v1) ((gI s 126 (ix v1)) + 1))))
def aw_M_ends : List Nat := [126]
def fw_M_ends : List (Nat × Nat) := [(116, 42), (116, 43)]
theorem fr_M_ends   (s : mS) : fp aw_M_ends fw_M_ends false s (f_M_ends s) := by
  refine (fun (Q : mS → Prop) (hQ : ∀ r, fp aw_M_ends fw_M_ends false s r → Q r) => ?_ : ∀ Q : mS → Prop, (∀ r, fp aw_M_ends fw_M_ends false s r → Q r) → Q (f_M_ends s)) (fun r => fp aw_M_ends fw_M_ends false s r) (fun _ h => h)
  unfold f_M_ends
  refine q_call Q (R := fun (x10 : Int32 × mS) => fp aw_M_ends fw_M_ends false s x10.2) (fp_t fp_r (fp_m (fr_lp_M_ends_2 mm_N (0 : Int32) s) (by decide) (by decide) (by decide))) (fun x10 gx10 => ?_)
  exact hQ _ gx10
def aw_lp_M_step_6 : List Nat := [147]
def fw_lp_M_step_6 : List (Nat × Nat) := []
theorem fr_lp_M_step_6   : ∀ (n : Nat) (v1 : Int32) (s : mS), fp aw_lp_M_step_6 fw_lp_M_step_6 false s (lp_M_step_6 n v1 s).2 := by
  intro n
  induction n with
  | zero => intro v1 s; exact fp_r
  | succ n ih =>
    intro v1 s
    refine (fun (Q : Int32 × mS → Prop) (hQ : ∀ r, fp aw_lp_M_step_6 fw_lp_M_step_6 false s r.2 → Q r) => ?_ : ∀ Q : Int32 × mS → Prop, (∀ r, fp aw_lp_M_step_6 fw_lp_M_step_6 false s r.2 → Q r) → Q (lp_M_step_6 (n + 1) v1 s)) (fun r => fp aw_lp_M_step_6 fw_lp_M_step_6 false s r.2) (fun _ h => h)
    rw [lp_M_step_6]
    refine q_if Q (fun _ => ?_) (fun _ => ?_)
    · exact hQ _ fp_r
    · exact hQ _ (fp_t (fp_IA fp_r (by decide)) (ih (v1 + 1) (sI s 147 (ix v1) (gI s 128 (ix v1)))))
def aw_lp_M_step_120 : List Nat := [136, 137, 138, 139, 143]
def fw_lp_M_step_120 : List (Nat × Nat) := []
theorem fr_lp_M_step_120  (a1 : Int32) : ∀ (n : Nat) (v2 : Int32) (s : mS), fp aw_lp_M_step_120 fw_lp_M_step_120 false s (lp_M_step_120 a1 n v2 s).2 := by
  intro n
  induction n with
  | zero => intro v2 s; exact fp_r
  | succ n ih =>
    intro v2 s
    refine (fun (Q : Int32 × mS → Prop) (hQ : ∀ r, fp aw_lp_M_step_120 fw_lp_M_step_120 false s r.2 → Q r) => ?_ : ∀ Q : Int32 × mS → Prop, (∀ r, fp aw_lp_M_step_120 fw_lp_M_step_120 false s r.2 → Q r) → Q (lp_M_step_120 a1 (n + 1) v2 s)) (fun r => fp aw_lp_M_step_120 fw_lp_M_step_120 false s r.2) (fun _ h => h)
    rw [lp_M_step_120]
    refine q_if Q (fun _ => ?_) (fun _ => ?_)
    · exact hQ _ fp_r
    · refine q_join Q (fun (x24 : mS) => fp aw_lp_M_step_120 fw_lp_M_step_120 false s x24) (fun Q hQ => ?_) (fun x24 gx24 => ?_)
      · refine q_if Q (fun _ => ?_) (fun _ => ?_)
        · exact hQ _ fp_r
        · exact hQ _ (fp_IA fp_r (by decide))
      · refine q_let0 Q (fun x25 => ?_)
        refine q_let0 Q (fun x26 => ?_)
        exact hQ _ (fp_t (fp_IA (fp_IA (fp_LA (fp_IA gx24 (by decide)) (by decide)) (by decide)) (by decide)) (ih (v2 + 1) (sI (sI (sL (sI x24 138 (ix v2) (gI x24 143 (ix v2))) 139 (ix v2) ((gL x24 139 (ix v2)) + (Int32.toInt64 (gI x24 143 (ix v2))))) 137 (ix v2) ((gI x24 137 (ix v2)) + x25)) 136 (ix v2) ((gI x24 136 (ix v2)) - x26))))
def aw_lp_M_step_302 : List Nat := []
def fw_lp_M_step_302 : List (Nat × Nat) := [(116, 46)]
theorem fr_lp_M_step_302  (a2 : Int32) : ∀ (n : Nat) (v3 : Int32) (s : mS), fp aw_lp_M_step_302 fw_lp_M_step_302 false s (lp_M_step_302 a2 n v3 s).2 := by
  intro n
  induction n with
  | zero => intro v3 s; exact fp_r
  | succ n ih =>
    intro v3 s
    refine (fun (Q : Int32 × mS → Prop) (hQ : ∀ r, fp aw_lp_M_step_302 fw_lp_M_step_302 false s r.2 → Q r) => ?_ : ∀ Q : Int32 × mS → Prop, (∀ r, fp aw_lp_M_step_302 fw_lp_M_step_302 false s r.2 → Q r) → Q (lp_M_step_302 a2 (n + 1) v3 s)) (fun r => fp aw_lp_M_step_302 fw_lp_M_step_302 false s r.2) (fun _ h => h)
    rw [lp_M_step_302]
    refine q_if Q (fun _ => ?_) (fun _ => ?_)
    · exact hQ _ fp_r
    · refine q_let0 Q (fun x35 => ?_)
      refine q_let0 Q (fun x37 => ?_)
      exact hQ _ (fp_t (fp_IF fp_r (by decide)) (ih (v3 + 1) (sI s 116 46 ((gI s 116 46) + x37))))
def aw_M_step : List Nat := [126, 131, 136, 137, 138, 139, 142, 143, 144, 145, 146, 147, 148, 149, 168, 169]
def fw_M_step : List (Nat × Nat) := [(116, 1), (116, 3), (116, 6), (116, 36), (116, 37), (116, 38), (116, 42), (116, 43), (116, 44), (116, 45), (116, 46), (116, 55), (116, 56), (116, 91), (116, 92), (116, 93)]
theorem fr_M_step   (s : mS) : fp aw_M_step fw_M_step false s (f_M_step s) := by
  refine (fun (Q : mS → Prop) (hQ : ∀ r, fp aw_M_step fw_M_step false s r → Q r) => ?_ : ∀ Q : mS → Prop, (∀ r, fp aw_M_step fw_M_step false s r → Q r) → Q (f_M_step s)) (fun r => fp aw_M_step fw_M_step false s r) (fun _ h => h)
  unfold f_M_step
  refine q_call Q (R := fun (x10 : mS) => fp aw_M_step fw_M_step false s x10) (fp_t fp_r (fp_m (fr_M_burns s) (by decide) (by decide) (by decide))) (fun x10 gx10 => ?_)
  refine q_call Q (R := fun (x11 : Int32 × mS) => fp aw_M_step fw_M_step false s x11.2) (fp_t gx10 (fp_m (fr_lp_M_step_6 mm_N (0 : Int32) x10) (by decide) (by decide) (by decide))) (fun x11 gx11 => ?_)
  refine q_call Q (R := fun (x16 : Int32 × mS) => fp aw_M_step fw_M_step false s x16.2) (fp_t gx11 (fp_m (fr_M_settles (gI x11.2 116 1) x11.2) (by decide) (by decide) (by decide))) (fun x16 gx16 => ?_)
  refine q_join Q (fun (x17 : mS) => fp aw_M_step fw_M_step false s x17) (fun Q hQ => ?_) (fun x17 gx17 => ?_)
  · refine q_if Q (fun _ => ?_) (fun _ => ?_)
    · exact hQ _ (fp_IF gx16 (by decide))
    · exact hQ _ gx16
  · refine q_let0 Q (fun x18 => ?_)
    refine q_let0 Q (fun x22 => ?_)
    refine q_let0 Q (fun x23 => ?_)
    refine q_call Q (R := fun (x27 : Int32 × mS) => fp aw_M_step fw_M_step false s x27.2) (fp_t (fp_IF (fp_IF gx17 (by decide)) (by decide)) (fp_m (fr_lp_M_step_120 x18.1 mm_N (0 : Int32) (sI (sI x17 116 56 x22) 116 44 ((gI x17 116 44) + x23))) (by decide) (by decide) (by decide))) (fun x27 gx27 => ?_)
    refine q_let0 Q (fun x31 => ?_)
    refine q_let0 Q (fun x32 => ?_)
    refine q_call Q (R := fun (x33 : mS) => fp aw_M_step fw_M_step false s x33) (fp_t (fp_LF (fp_IF gx27 (by decide)) (by decide)) (fp_m (fr_M_keeps (sL (sI x27.2 116 6 ((gI x27.2 116 6) - x31)) 116 38 ((gL x27.2 116 38) + x32))) (by decide) (by decide) (by decide))) (fun x33 gx33 => ?_)
    refine q_call Q (R := fun (x34 : Int32 × mS) => fp aw_M_step fw_M_step false s x34.2) (fp_t gx33 (fp_m (fr_M_dueOf (0 : Int32) (gI x33 116 1) (0 : Int32) x33) (by decide) (by decide) (by decide))) (fun x34 gx34 => ?_)
    refine q_call Q (R := fun (x38 : Int32 × mS) => fp aw_M_step fw_M_step false s x38.2) (fp_t gx34 (fp_m (fr_lp_M_step_302 x34.1 mm_N (1 : Int32) x34.2) (by decide) (by decide) (by decide))) (fun x38 gx38 => ?_)
    refine q_call Q (R := fun (x42 : mS) => fp aw_M_step fw_M_step false s x42) (fp_t gx38 (fp_m (fr_M_ends x38.2) (by decide) (by decide) (by decide))) (fun x42 gx42 => ?_)
    exact hQ _ (fp_IF (fp_IF gx42 (by decide)) (by decide))
def aw_lp_M_steps_26 : List Nat := [126, 131, 136, 137, 138, 139, 142, 143, 144, 145, 146, 147, 148, 149, 168, 169]
def fw_lp_M_steps_26 : List (Nat × Nat) := [(116, 1), (116, 3), (116, 6), (116, 36), (116, 37), (116, 38), (116, 42), (116, 43), (116, 44), (116, 45), (116, 46), (116, 55), (116, 56), (116, 91), (116, 92), (116, 93)]
theorem fr_lp_M_steps_26  (a1 : Int32) : ∀ (n : Nat) (v2 : Int32) (s : mS), fp aw_lp_M_steps_26 fw_lp_M_steps_26 false s (lp_M_steps_26 a1 n v2 s).2 := by
  intro n
  induction n with
  | zero => intro v2 s; exact fp_r
  | succ n ih =>
    intro v2 s
    refine (fun (Q : Int32 × mS → Prop) (hQ : ∀ r, fp aw_lp_M_steps_26 fw_lp_M_steps_26 false s r.2 → Q r) => ?_ : ∀ Q : Int32 × mS → Prop, (∀ r, fp aw_lp_M_steps_26 fw_lp_M_steps_26 false s r.2 → Q r) → Q (lp_M_steps_26 a1 (n + 1) v2 s)) (fun r => fp aw_lp_M_steps_26 fw_lp_M_steps_26 false s r.2) (fun _ h => h)
    rw [lp_M_steps_26]
    refine q_if Q (fun _ => ?_) (fun _ => ?_)
    · exact hQ _ fp_r
    · refine q_call Q (R := fun (x11 : mS) => fp aw_lp_M_steps_26 fw_lp_M_steps_26 false s x11) (fp_t fp_r (fp_m (fr_M_step s) (by decide) (by decide) (by decide))) (fun x11 gx11 => ?_)
      exact hQ _ (fp_t gx11 (ih (v2 + 1) x11))
def aw_M_steps : List Nat := [126, 131, 136, 137, 138, 139, 142, 143, 144, 145, 146, 147, 148, 149, 168, 169]
def fw_M_steps : List (Nat × Nat) := [(116, 1), (116, 3), (116, 6), (116, 36), (116, 37), (116, 38), (116, 42), (116, 43), (116, 44), (116, 45), (116, 46), (116, 55), (116, 56), (116, 91), (116, 92), (116, 93)]
theorem fr_M_steps  (a1 : Int32) (s : mS) : fp aw_M_steps fw_M_steps false s (f_M_steps a1 s).2 := by
  refine (fun (Q : Int32 × mS → Prop) (hQ : ∀ r, fp aw_M_steps fw_M_steps false s r.2 → Q r) => ?_ : ∀ Q : Int32 × mS → Prop, (∀ r, fp aw_M_steps fw_M_steps false s r.2 → Q r) → Q (f_M_steps a1 s)) (fun r => fp aw_M_steps fw_M_steps false s r.2) (fun _ h => h)
  unfold f_M_steps
  refine q_let0 Q (fun x10 => ?_)
  refine q_if Q (fun _ => ?_) (fun _ => ?_)
  · exact hQ _ fp_r
  · refine q_if Q (fun _ => ?_) (fun _ => ?_)
    · refine q_call Q (R := fun (x12 : Int32 × mS) => fp aw_M_steps fw_M_steps false s x12.2) (fp_t fp_r (fp_m (fr_lp_M_steps_26 a1 mm_N (0 : Int32) s) (by decide) (by decide) (by decide))) (fun x12 gx12 => ?_)
      exact hQ _ gx12
    · exact hQ _ fp_r
def aw_Books_note : List Nat := [83, 84, 85, 86, 87, 88]
def fw_Books_note : List (Nat × Nat) := [(82, 8)]
theorem fr_Books_note  (a1 : Int32) (a2 : Int32) (a3 : Int32) (a4 : Int32) (s : mS) : fp aw_Books_note fw_Books_note false s (f_Books_note a1 a2 a3 a4 s).2 := by
  refine (fun (Q : Int32 × mS → Prop) (hQ : ∀ r, fp aw_Books_note fw_Books_note false s r.2 → Q r) => ?_ : ∀ Q : Int32 × mS → Prop, (∀ r, fp aw_Books_note fw_Books_note false s r.2 → Q r) → Q (f_Books_note a1 a2 a3 a4 s)) (fun r => fp aw_Books_note fw_Books_note false s r.2) (fun _ h => h)
  unfold f_Books_note
  refine q_if Q (fun _ => ?_) (fun _ => ?_)
  · refine q_let0 Q (fun x10 => ?_)
    refine q_let0 Q (fun x11 => ?_)
    exact hQ _ (fp_IF (fp_IA (fp_IA (fp_IA (fp_IA (fp_IA (fp_IA fp_r (by decide)) (by decide)) (by decide)) (by decide)) (by decide)) (by decide)) (by decide))
  · exact hQ _ fp_r
def aw_G_read : List Nat := [83, 84, 85, 86, 87, 88]
def fw_G_read : List (Nat × Nat) := [(82, 8)]
theorem fr_G_read  (a1 : Int32) (s : mS) : fp aw_G_read fw_G_read false s (f_G_read a1 s).2 := by
  refine (fun (Q : Int32 × mS → Prop) (hQ : ∀ r, fp aw_G_read fw_G_read false s r.2 → Q r) => ?_ : ∀ Q : Int32 × mS → Prop, (∀ r, fp aw_G_read fw_G_read false s r.2 → Q r) → Q (f_G_read a1 s)) (fun r => fp aw_G_read fw_G_read false s r.2) (fun _ h => h)
  unfold f_G_read
  refine q_let0 Q (fun x10 => ?_)
  refine q_if Q (fun _ => ?_) (fun _ => ?_)
  · exact hQ _ fp_r
  · refine q_call Q (R := fun (x11 : Int32 × mS) => fp aw_G_read fw_G_read false s x11.2) (fp_t fp_r (fp_m (fr_Books_note a1 (gI s 0 9) (gI s 20 (ix a1)) (gI s 18 (ix a1)) s) (by decide) (by decide) (by decide))) (fun x11 gx11 => ?_)
    exact hQ _ gx11
def aw_M_read : List Nat := [150, 151, 152, 156]
def fw_M_read : List (Nat × Nat) := [(116, 57)]
theorem fr_M_read  (a1 : Int32) (s : mS) : fp aw_M_read fw_M_read false s (f_M_read a1 s).2 := by
  refine (fun (Q : Int32 × mS → Prop) (hQ : ∀ r, fp aw_M_read fw_M_read false s r.2 → Q r) => ?_ : ∀ Q : Int32 × mS → Prop, (∀ r, fp aw_M_read fw_M_read false s r.2 → Q r) → Q (f_M_read a1 s)) (fun r => fp aw_M_read fw_M_read false s r.2) (fun _ h => h)
  unfold f_M_read
  refine q_let0 Q (fun x10 => ?_)
  refine q_if Q (fun _ => ?_) (fun _ => ?_)
  · exact hQ _ fp_r
  · refine q_if Q (fun _ => ?_) (fun _ => ?_)
    · exact hQ _ fp_r
    · refine q_let0 Q (fun x11 => ?_)
      exact hQ _ (fp_IF (fp_IA (fp_IA (fp_IA (fp_IA fp_r (by decide)) (by decide)) (by decide)) (by decide)) (by decide))
def aw_Books_correct : List Nat := [91, 92, 93]
def fw_Books_correct : List (Nat × Nat) := [(82, 12)]
theorem fr_Books_correct  (a1 : Int32) (a2 : Int32) (a3 : Int32) (s : mS) : fp aw_Books_correct fw_Books_correct false s (f_Books_correct a1 a2 a3 s).2 := by
  refine (fun (Q : Int32 × mS → Prop) (hQ : ∀ r, fp aw_Books_correct fw_Books_correct false s r.2 → Q r) => ?_ : ∀ Q : Int32 × mS → Prop, (∀ r, fp aw_Books_correct fw_Books_correct false s r.2 → Q r) → Q (f_Books_correct a1 a2 a3 s)) (fun r => fp aw_Books_correct fw_Books_correct false s r.2) (fun _ h => h)
  unfold f_Books_correct
  refine q_if Q (fun _ => ?_) (fun _ => ?_)
  · exact hQ _ (fp_IF (fp_IA (fp_IA (fp_IA fp_r (by decide)) (by decide)) (by decide)) (by decide))
  · exact hQ _ fp_r
def aw_G_right : List Nat := [91, 92, 93]
def fw_G_right : List (Nat × Nat) := [(82, 12)]
theorem fr_G_right  (a1 : Int32) (a2 : Int32) (a3 : Int32) (s : mS) : fp aw_G_right fw_G_right false s (f_G_right a1 a2 a3 s).2 := by
  refine (fun (Q : Int32 × mS → Prop) (hQ : ∀ r, fp aw_G_right fw_G_right false s r.2 → Q r) => ?_ : ∀ Q : Int32 × mS → Prop, (∀ r, fp aw_G_right fw_G_right false s r.2 → Q r) → Q (f_G_right a1 a2 a3 s)) (fun r => fp aw_G_right fw_G_right false s r.2) (fun _ h => h)
  unfold f_G_right
  refine q_let0 Q (fun x10 => ?_)
  refine q_if Q (fun _ => ?_) (fun _ => ?_)
  · exact hQ _ fp_r
  · refine q_let0 Q (fun x11 => ?_)
    refine q_if Q (fun _ => ?_) (fun _ => ?_)
    · exact hQ _ fp_r
    · refine q_call Q (R := fun (x12 : Int32 × mS) => fp aw_G_right fw_G_right false s x12.2) (fp_t fp_r (fp_m (fr_Books_correct x10 a3 (gI s 0 9) s) (by decide) (by decide) (by decide))) (fun x12 gx12 => ?_)
      exact hQ _ gx12
def aw_M_right : List Nat := [153, 154, 155]
def fw_M_right : List (Nat × Nat) := [(116, 58)]
theorem fr_M_right  (a1 : Int32) (a2 : Int32) (a3 : Int32) (s : mS) : fp aw_M_right fw_M_right false s (f_M_right a1 a2 a3 s).2 := by
  refine (fun (Q : Int32 × mS → Prop) (hQ : ∀ r, fp aw_M_right fw_M_right false s r.2 → Q r) => ?_ : ∀ Q : Int32 × mS → Prop, (∀ r, fp aw_M_right fw_M_right false s r.2 → Q r) → Q (f_M_right a1 a2 a3 s)) (fun r => fp aw_M_right fw_M_right false s r.2) (fun _ h => h)
  unfold f_M_right
  refine q_let0 Q (fun x10 => ?_)
  refine q_if Q (fun _ => ?_) (fun _ => ?_)
  · exact hQ _ fp_r
  · refine q_if Q (fun _ => ?_) (fun _ => ?_)
    · exact hQ _ fp_r
    · refine q_let0 Q (fun x11 => ?_)
      refine q_if Q (fun _ => ?_) (fun _ => ?_)
      · exact hQ _ fp_r
      · refine q_let0 Q (fun x12 => ?_)
        refine q_if Q (fun _ => ?_) (fun _ => ?_)
        · exact hQ _ fp_r
        · refine q_if Q (fun _ => ?_) (fun _ => ?_)
          · exact hQ _ fp_r
          · refine q_let0 Q (fun x13 => ?_)
            exact hQ _ (fp_IF (fp_IA (fp_IA (fp_IA fp_r (by decide)) (by decide)) (by decide)) (by decide))
def aw_lp_Books_know_2 : List Nat := [89]
def fw_lp_Books_know_2 : List (Nat × Nat) := []
theorem fr_lp_Books_know_2  (a1 : Int32) : ∀ (n : Nat) (v2 : Int32) (s : mS), fp aw_lp_Books_know_2 fw_lp_Books_know_2 false s (lp_Books_know_2 a1 n v2 s).2 := by
  intro n
  induction n with
  | zero => intro v2 s; exact fp_r
  | succ n ih =>
    intro v2 s
    refine (fun (Q : Int32 × mS → Prop) (hQ : ∀ r, fp aw_lp_Books_know_2 fw_lp_Books_know_2 false s r.2 → Q r) => ?_ : ∀ Q : Int32 × mS → Prop, (∀ r, fp aw_lp_Books_know_2 fw_lp_Books_know_2 false s r.2 → Q r) → Q (lp_Books_know_2 a1 (n + 1) v2 s)) (fun r => fp aw_lp_Books_know_2 fw_lp_Books_know_2 false s r.2) (fun _ h => h)
    rw [lp_Books_know_2]
    refine q_if Q (fun _ => ?_) (fun _ => ?_)
    · exact hQ _ fp_r
    · refine q_if Q (fun _ => ?_) (fun _ => ?_)
      · exact hQ _ fp_r
      · exact hQ _ (fp_t (fp_IA fp_r (by decide)) (ih (v2 + 1) (sI s 89 (ix v2) (gI s 87 (ix v2)))))
def aw_lp_Books_know_37 : List Nat := [89]
def fw_lp_Books_know_37 : List (Nat × Nat) := []
theorem fr_lp_Books_know_37  (a1 : Int32) : ∀ (n : Nat) (v2 : Int32) (s : mS), fp aw_lp_Books_know_37 fw_lp_Books_know_37 false s (lp_Books_know_37 a1 n v2 s).2 := by
  intro n
  induction n with
  | zero => intro v2 s; exact fp_r
  | succ n ih =>
    intro v2 s
    refine (fun (Q : Int32 × mS → Prop) (hQ : ∀ r, fp aw_lp_Books_know_37 fw_lp_Books_know_37 false s r.2 → Q r) => ?_ : ∀ Q : Int32 × mS → Prop, (∀ r, fp aw_lp_Books_know_37 fw_lp_Books_know_37 false s r.2 → Q r) → Q (lp_Books_know_37 a1 (n + 1) v2 s)) (fun r => fp aw_lp_Books_know_37 fw_lp_Books_know_37 false s r.2) (fun _ h => h)
    rw [lp_Books_know_37]
    refine q_if Q (fun _ => ?_) (fun _ => ?_)
    · exact hQ _ fp_r
    · refine q_if Q (fun _ => ?_) (fun _ => ?_)
      · exact hQ _ fp_r
      · refine q_if Q (fun _ => ?_) (fun _ => ?_)
        · exact hQ _ (fp_t fp_r (ih (v2 + 1) s))
        · refine q_if Q (fun _ => ?_) (fun _ => ?_)
          · exact hQ _ (fp_t fp_r (ih (v2 + 1) s))
          · refine q_if Q (fun _ => ?_) (fun _ => ?_)
            · exact hQ _ (fp_t fp_r (ih (v2 + 1) s))
            · exact hQ _ (fp_t (fp_IA fp_r (by decide)) (ih (v2 + 1) (sI s 89 (ix (gI s 91 (ix v2))) (gI s 92 (ix v2)))))
def aw_lp_Books_know_100 : List Nat := [90]
def fw_lp_Books_know_100 : List (Nat × Nat) := []
theorem fr_lp_Books_know_100   : ∀ (n : Nat) (v2 : Int32) (s : mS), fp aw_lp_Books_know_100 fw_lp_Books_know_100 false s (lp_Books_know_100 n v2 s).2 := by
  intro n
  induction n with
  | zero => intro v2 s; exact fp_r
  | succ n ih =>
    intro v2 s
    refine (fun (Q : Int32 × mS → Prop) (hQ : ∀ r, fp aw_lp_Books_know_100 fw_lp_Books_know_100 false s r.2 → Q r) => ?_ : ∀ Q : Int32 × mS → Prop, (∀ r, fp aw_lp_Books_know_100 fw_lp_Books_know_100 false s r.2 → Q r) → Q (lp_Books_know_100 (n + 1) v2 s)) (fun r => fp aw_lp_Books_know_100 fw_lp_Books_know_100 false s r.2) (fun _ h => h)
    rw [lp_Books_know_100]
    refine q_if Q (fun _ => ?_) (fun _ => ?_)
    · exact hQ _ fp_r
    · refine q_if Q (fun _ => ?_) (fun _ => ?_)
      · exact hQ _ fp_r
      · refine q_let0 Q (fun x14 => ?_)
        exact hQ _ (fp_t (fp_LA fp_r (by decide)) (ih (v2 + 1) (sL s 90 (ix v2) x14)))
def aw_Books_know : List Nat := [89, 90]
def fw_Books_know : List (Nat × Nat) := []
theorem fr_Books_know  (a1 : Int32) (s : mS) : fp aw_Books_know fw_Books_know false s (f_Books_know a1 s) := by
  refine (fun (Q : mS → Prop) (hQ : ∀ r, fp aw_Books_know fw_Books_know false s r → Q r) => ?_ : ∀ Q : mS → Prop, (∀ r, fp aw_Books_know fw_Books_know false s r → Q r) → Q (f_Books_know a1 s)) (fun r => fp aw_Books_know fw_Books_know false s r) (fun _ h => h)
  unfold f_Books_know
  refine q_call Q (R := fun (x10 : Int32 × mS) => fp aw_Books_know fw_Books_know false s x10.2) (fp_t fp_r (fp_m (fr_lp_Books_know_2 a1 mm_N (0 : Int32) s) (by decide) (by decide) (by decide))) (fun x10 gx10 => ?_)
  refine q_call Q (R := fun (x12 : Int32 × mS) => fp aw_Books_know fw_Books_know false s x12.2) (fp_t gx10 (fp_m (fr_lp_Books_know_37 a1 mm_N (0 : Int32) x10.2) (by decide) (by decide) (by decide))) (fun x12 gx12 => ?_)
  refine q_call Q (R := fun (x15 : Int32 × mS) => fp aw_Books_know fw_Books_know false s x15.2) (fp_t gx12 (fp_m (fr_lp_Books_know_100 mm_N (0 : Int32) x12.2) (by decide) (by decide) (by decide))) (fun x15 gx15 => ?_)
  exact hQ _ gx15
def aw_G_billOf : List Nat := [39]
def fw_G_billOf : List (Nat × Nat) := [(36, 3), (36, 8), (36, 9)]
theorem fr_G_billOf  (a1 : Int32) (s : mS) (hP : ∀ j, mq_A (gP s j)) : fp aw_G_billOf fw_G_billOf true s (f_G_billOf a1 s).2 := by
  refine (fun (Q : Int64 × mS → Prop) (hQ : ∀ r, fp aw_G_billOf fw_G_billOf true s r.2 → Q r) => ?_ : ∀ Q : Int64 × mS → Prop, (∀ r, fp aw_G_billOf fw_G_billOf true s r.2 → Q r) → Q (f_G_billOf a1 s)) (fun r => fp aw_G_billOf fw_G_billOf true s r.2) (fun _ h => h)
  unfold f_G_billOf
  refine q_if Q (fun _ => ?_) (fun _ => ?_)
  · exact hQ _ fp_r
  · refine q_call Q (R := fun (x10 : mS) => fp aw_G_billOf fw_G_billOf true s x10) (fp_t fp_r (fp_m (fr_Laws_judge (2 : Int32) (gI s 86 (ix a1)) (0 : Int32) s (fp_P (show fp aw_G_billOf fw_G_billOf true s s from fp_r) hP)) (by decide) (by decide) (by decide))) (fun x10 gx10 => ?_)
    exact hQ _ gx10
def aw_G_bill : List Nat := [39, 89, 90]
def fw_G_bill : List (Nat × Nat) := [(36, 3), (36, 8), (36, 9)]
theorem fr_G_bill  (a1 : Int32) (a2 : Int32) (a3 : Int32) (a4 : Int32) (s : mS) (hP : ∀ j, mq_A (gP s j)) : fp aw_G_bill fw_G_bill true s (f_G_bill a1 a2 a3 a4 s).2 := by
  refine (fun (Q : Int64 × mS → Prop) (hQ : ∀ r, fp aw_G_bill fw_G_bill true s r.2 → Q r) => ?_ : ∀ Q : Int64 × mS → Prop, (∀ r, fp aw_G_bill fw_G_bill true s r.2 → Q r) → Q (f_G_bill a1 a2 a3 a4 s)) (fun r => fp aw_G_bill fw_G_bill true s r.2) (fun _ h => h)
  unfold f_G_bill
  refine q_let0 Q (fun x10 => ?_)
  refine q_if Q (fun _ => ?_) (fun _ => ?_)
  · exact hQ _ fp_r
  · refine q_let0 Q (fun x11 => ?_)
    refine q_if Q (fun _ => ?_) (fun _ => ?_)
    · exact hQ _ fp_r
    · refine q_let0 Q (fun x12 => ?_)
      refine q_if Q (fun _ => ?_) (fun _ => ?_)
      · exact hQ _ fp_r
      · refine q_if Q (fun _ => ?_) (fun _ => ?_)
        · exact hQ _ fp_r
        · refine q_if Q (fun _ => ?_) (fun _ => ?_)
          · refine q_call Q (R := fun (x13 : mS) => fp aw_G_bill fw_G_bill true s x13) (fp_t fp_r (fp_m (fr_Books_know a3 s) (by decide) (by decide) (by decide))) (fun x13 gx13 => ?_)
            refine q_if Q (fun _ => ?_) (fun _ => ?_)
            · exact hQ _ gx13
            · refine q_if Q (fun _ => ?_) (fun _ => ?_)
              · exact hQ _ gx13
              · refine q_if Q (fun _ => ?_) (fun _ => ?_)
                · refine q_if Q (fun _ => ?_) (fun _ => ?_)
                  · exact hQ _ gx13
                  · exact hQ _ gx13
                · refine q_if Q (fun _ => ?_) (fun _ => ?_)
                  · exact hQ _ gx13
                  · refine q_call Q (R := fun (x14 : Int64 × mS) => fp aw_G_bill fw_G_bill true s x14.2) (fp_t gx13 (fp_m (fr_G_billOf x10 x13 (fp_P (show fp aw_G_bill fw_G_bill true s x13 from gx13) hP)) (by decide) (by decide) (by decide))) (fun x14 gx14 => ?_)
                    exact hQ _ gx14
          · refine q_if Q (fun _ => ?_) (fun _ => ?_)
            · refine q_call Q (R := fun (x15 : mS) => fp aw_G_bill fw_G_bill true s x15) (fp_t fp_r (fp_m (fr_Books_know a3 s) (by decide) (by decide) (by decide))) (fun x15 gx15 => ?_)
              refine q_if Q (fun _ => ?_) (fun _ => ?_)
              · exact hQ _ gx15
              · refine q_if Q (fun _ => ?_) (fun _ => ?_)
                · exact hQ _ gx15
                · refine q_if Q (fun _ => ?_) (fun _ => ?_)
                  · refine q_if Q (fun _ => ?_) (fun _ => ?_)
                    · exact hQ _ gx15
                    · exact hQ _ gx15
                  · refine q_if Q (fun _ => ?_) (fun _ => ?_)
                    · exact hQ _ gx15
                    · refine q_call Q (R := fun (x16 : Int64 × mS) => fp aw_G_bill fw_G_bill true s x16.2) (fp_t gx15 (fp_m (fr_G_billOf x10 x15 (fp_P (show fp aw_G_bill fw_G_bill true s x15 from gx15) hP)) (by decide) (by decide) (by decide))) (fun x16 gx16 => ?_)
                      exact hQ _ gx16
            · exact hQ _ fp_r
def aw_M_billOf : List Nat := [168, 169]
def fw_M_billOf : List (Nat × Nat) := [(116, 91), (116, 92), (116, 93)]
theorem fr_M_billOf  (a1 : Int32) (a2 : Int32) (a3 : Int32) (s : mS) : fp aw_M_billOf fw_M_billOf false s (f_M_billOf a1 a2 a3 s).2 := by
  refine (fun (Q : Int64 × mS → Prop) (hQ : ∀ r, fp aw_M_billOf fw_M_billOf false s r.2 → Q r) => ?_ : ∀ Q : Int64 × mS → Prop, (∀ r, fp aw_M_billOf fw_M_billOf false s r.2 → Q r) → Q (f_M_billOf a1 a2 a3 s)) (fun r => fp aw_M_billOf fw_M_billOf false s r.2) (fun _ h => h)
  unfold f_M_billOf
  refine q_let0 Q (fun x10 => ?_)
  refine q_call Q (R := fun (x11 : Int32 × mS) => fp aw_M_billOf fw_M_billOf false s x11.2) (fp_t fp_r (fp_m (fr_M_dueOf_2 (gI s 151 (ix x10)) (0 : Int32) s) (by decide) (by decide) (by decide))) (fun x11 gx11 => ?_)
  refine q_let0 Q (fun x12 => ?_)
  refine q_let0 Q (fun x13 => ?_)
  exact hQ _ gx11
def aw_M_bill : List Nat := [168, 169]
def fw_M_bill : List (Nat × Nat) := [(116, 91), (116, 92), (116, 93)]
theorem fr_M_bill  (a1 : Int32) (a2 : Int32) (a3 : Int32) (a4 : Int32) (s : mS) : fp aw_M_bill fw_M_bill false s (f_M_bill a1 a2 a3 a4 s).2 := by
  refine (fun (Q : Int64 × mS → Prop) (hQ : ∀ r, fp aw_M_bill fw_M_bill false s r.2 → Q r) => ?_ : ∀ Q : Int64 × mS → Prop, (∀ r, fp aw_M_bill fw_M_bill false s r.2 → Q r) → Q (f_M_bill a1 a2 a3 a4 s)) (fun r => fp aw_M_bill fw_M_bill false s r.2) (fun _ h => h)
  unfold f_M_bill
  refine q_let0 Q (fun x10 => ?_)
  refine q_if Q (fun _ => ?_) (fun _ => ?_)
  · exact hQ _ fp_r
  · refine q_if Q (fun _ => ?_) (fun _ => ?_)
    · exact hQ _ fp_r
    · refine q_let0 Q (fun x11 => ?_)
      refine q_if Q (fun _ => ?_) (fun _ => ?_)
      · exact hQ _ fp_r
      · refine q_let0 Q (fun x12 => ?_)
        refine q_if Q (fun _ => ?_) (fun _ => ?_)
        · exact hQ _ fp_r
        · refine q_if Q (fun _ => ?_) (fun _ => ?_)
          · refine q_if Q (fun _ => ?_) (fun _ => ?_)
            · exact hQ _ fp_r
            · refine q_if Q (fun _ => ?_) (fun _ => ?_)
              · refine q_let0 Q (fun x13 => ?_)
                exact hQ _ fp_r
              · refine q_if Q (fun _ => ?_) (fun _ => ?_)
                · refine q_if Q (fun _ => ?_) (fun _ => ?_)
                  · exact hQ _ fp_r
                  · exact hQ _ fp_r
                · refine q_if Q (fun _ => ?_) (fun _ => ?_)
                  · refine q_if Q (fun _ => ?_) (fun _ => ?_)
                    · exact hQ _ fp_r
                    · refine q_let0 Q (fun x14 => ?_)
                      exact hQ _ fp_r
                  · refine q_if Q (fun _ => ?_) (fun _ => ?_)
                    · refine q_if Q (fun _ => ?_) (fun _ => ?_)
                      · exact hQ _ fp_r
                      · refine q_call Q (R := fun (x15 : Int64 × mS) => fp aw_M_bill fw_M_bill false s x15.2) (fp_t fp_r (fp_m (fr_M_billOf a1 a2 a3 s) (by decide) (by decide) (by decide))) (fun x15 gx15 => ?_)
                        exact hQ _ gx15
                    · exact hQ _ fp_r
          · exact hQ _ fp_r
def aw_G_sell : List Nat := []
def fw_G_sell : List (Nat × Nat) := [(3, 15), (82, 14)]
theorem fr_G_sell  (a1 : Int32) (a2 : Int32) (s : mS) : fp aw_G_sell fw_G_sell false s (f_G_sell a1 a2 s).2 := by
  refine (fun (Q : Int32 × mS → Prop) (hQ : ∀ r, fp aw_G_sell fw_G_sell false s r.2 → Q r) => ?_ : ∀ Q : Int32 × mS → Prop, (∀ r, fp aw_G_sell fw_G_sell false s r.2 → Q r) → Q (f_G_sell a1 a2 s)) (fun r => fp aw_G_sell fw_G_sell false s r.2) (fun _ h => h)
  unfold f_G_sell
  refine q_if Q (fun _ => ?_) (fun _ => ?_)
  · exact hQ _ fp_r
  · refine q_let0 Q (fun x10 => ?_)
    refine q_if Q (fun _ => ?_) (fun _ => ?_)
    · exact hQ _ fp_r
    · refine q_if Q (fun _ => ?_) (fun _ => ?_)
      · exact hQ _ (fp_LF (fp_IF fp_r (by decide)) (by decide))
      · exact hQ _ fp_r
def aw_M_sell : List Nat := []
def fw_M_sell : List (Nat × Nat) := [(116, 40), (116, 42)]
theorem fr_M_sell  (a1 : Int32) (a2 : Int32) (s : mS) : fp aw_M_sell fw_M_sell false s (f_M_sell a1 a2 s).2 := by
  refine (fun (Q : Int32 × mS → Prop) (hQ : ∀ r, fp aw_M_sell fw_M_sell false s r.2 → Q r) => ?_ : ∀ Q : Int32 × mS → Prop, (∀ r, fp aw_M_sell fw_M_sell false s r.2 → Q r) → Q (f_M_sell a1 a2 s)) (fun r => fp aw_M_sell fw_M_sell false s r.2) (fun _ h => h)
  unfold f_M_sell
  refine q_if Q (fun _ => ?_) (fun _ => ?_)
  · exact hQ _ fp_r
  · refine q_let0 Q (fun x10 => ?_)
    refine q_if Q (fun _ => ?_) (fun _ => ?_)
    · exact hQ _ fp_r
    · refine q_if Q (fun _ => ?_) (fun _ => ?_)
      · exact hQ _ (fp_LF (fp_LF fp_r (by decide)) (by decide))
      · exact hQ _ fp_r
def aw_lp_Laws_store_3 : List Nat := [37]
def fw_lp_Laws_store_3 : List (Nat × Nat) := [(36, 5)]
theorem fr_lp_Laws_store_3  (a1 : Int32) : ∀ (n : Nat) (v2 : Int32) (s : mS), fp aw_lp_Laws_store_3 fw_lp_Laws_store_3 false s (lp_Laws_store_3 a1 n v2 s).2 := by
  intro n
  induction n with
  | zero => intro v2 s; exact fp_r
  | succ n ih =>
    intro v2 s
    refine (fun (Q : Int32 × mS → Prop) (hQ : ∀ r, fp aw_lp_Laws_store_3 fw_lp_Laws_store_3 false s r.2 → Q r) => ?_ : ∀ Q : Int32 × mS → Prop, (∀ r, fp aw_lp_Laws_store_3 fw_lp_Laws_store_3 false s r.2 → Q r) → Q (lp_Laws_store_3 a1 (n + 1) v2 s)) (fun r => fp aw_lp_Laws_store_3 fw_lp_Laws_store_3 false s r.2) (fun _ h => h)
    rw [lp_Laws_store_3]
    refine q_if Q (fun _ => ?_) (fun _ => ?_)
    · exact hQ _ fp_r
    · refine q_if Q (fun _ => ?_) (fun _ => ?_)
      · exact hQ _ (fp_t fp_r (ih (v2 + (-8)) s))
      · exact hQ _ (fp_t (fp_IA (fp_IF fp_r (by decide)) (by decide)) (ih (v2 + (-8)) (sI (sI s 36 5 ((gI s 36 5) + 1)) 37 (ix (gI s 36 5)) ((Int32.toUInt32 a1 >>> (Int32.toUInt32 v2 &&& Int32.toUInt32 31)).toInt32 &&& 255))))
def aw_Laws_store : List Nat := [37]
def fw_Laws_store : List (Nat × Nat) := [(36, 5)]
theorem fr_Laws_store  (a1 : Int32) (s : mS) : fp aw_Laws_store fw_Laws_store false s (f_Laws_store a1 s) := by
  refine (fun (Q : mS → Prop) (hQ : ∀ r, fp aw_Laws_store fw_Laws_store false s r → Q r) => ?_ : ∀ Q : mS → Prop, (∀ r, fp aw_Laws_store fw_Laws_store false s r → Q r) → Q (f_Laws_store a1 s)) (fun r => fp aw_Laws_store fw_Laws_store false s r) (fun _ h => h)
  unfold f_Laws_store
  refine q_call Q (R := fun (x10 : Int32 × mS) => fp aw_Laws_store fw_Laws_store false s x10.2) (fp_t fp_r (fp_m (fr_lp_Laws_store_3 a1 mm_N (24 : Int32) s) (by decide) (by decide) (by decide))) (fun x10 gx10 => ?_)
  exact hQ _ gx10
def aw_G_feed : List Nat := [37]
def fw_G_feed : List (Nat × Nat) := [(36, 5)]
theorem fr_G_feed  (a1 : Int32) (a2 : Int32) (a3 : Int32) (a4 : Int32) (a5 : Int32) (s : mS) : fp aw_G_feed fw_G_feed false s (f_G_feed a1 a2 a3 a4 a5 s).2 := by
  refine (fun (Q : Int32 × mS → Prop) (hQ : ∀ r, fp aw_G_feed fw_G_feed false s r.2 → Q r) => ?_ : ∀ Q : Int32 × mS → Prop, (∀ r, fp aw_G_feed fw_G_feed false s r.2 → Q r) → Q (f_G_feed a1 a2 a3 a4 a5 s)) (fun r => fp aw_G_feed fw_G_feed false s r.2) (fun _ h => h)
  unfold f_G_feed
  refine q_if Q (fun _ => ?_) (fun _ => ?_)
  · refine q_call Q (R := fun (x10 : mS) => fp aw_G_feed fw_G_feed false s x10) (fp_t fp_r (fp_m (fr_Laws_store a1 s) (by decide) (by decide) (by decide))) (fun x10 gx10 => ?_)
    refine q_call Q (R := fun (x11 : mS) => fp aw_G_feed fw_G_feed false s x11) (fp_t gx10 (fp_m (fr_Laws_store a2 x10) (by decide) (by decide) (by decide))) (fun x11 gx11 => ?_)
    refine q_call Q (R := fun (x12 : mS) => fp aw_G_feed fw_G_feed false s x12) (fp_t gx11 (fp_m (fr_Laws_store a3 x11) (by decide) (by decide) (by decide))) (fun x12 gx12 => ?_)
    refine q_call Q (R := fun (x13 : mS) => fp aw_G_feed fw_G_feed false s x13) (fp_t gx12 (fp_m (fr_Laws_store a4 x12) (by decide) (by decide) (by decide))) (fun x13 gx13 => ?_)
    refine q_call Q (R := fun (x14 : mS) => fp aw_G_feed fw_G_feed false s x14) (fp_t gx13 (fp_m (fr_Laws_store a5 x13) (by decide) (by decide) (by decide))) (fun x14 gx14 => ?_)
    exact hQ _ gx14
  · exact hQ _ fp_r
def aw_lp_M_feed_18 : List Nat := [167]
def fw_lp_M_feed_18 : List (Nat × Nat) := [(116, 80)]
theorem fr_lp_M_feed_18  (a1 : Int32) (a2 : Int32) (a3 : Int32) (a4 : Int32) (a5 : Int32) : ∀ (n : Nat) (v6 : Int32) (s : mS), fp aw_lp_M_feed_18 fw_lp_M_feed_18 false s (lp_M_feed_18 a1 a2 a3 a4 a5 n v6 s).2 := by
  intro n
  induction n with
  | zero => intro v6 s; exact fp_r
  | succ n ih =>
    intro v6 s
    refine (fun (Q : Int32 × mS → Prop) (hQ : ∀ r, fp aw_lp_M_feed_18 fw_lp_M_feed_18 false s r.2 → Q r) => ?_ : ∀ Q : Int32 × mS → Prop, (∀ r, fp aw_lp_M_feed_18 fw_lp_M_feed_18 false s r.2 → Q r) → Q (lp_M_feed_18 a1 a2 a3 a4 a5 (n + 1) v6 s)) (fun r => fp aw_lp_M_feed_18 fw_lp_M_feed_18 false s r.2) (fun _ h => h)
    rw [lp_M_feed_18]
    refine q_if Q (fun _ => ?_) (fun _ => ?_)
    · exact hQ _ fp_r
    · refine q_let0 Q (fun x10 => ?_)
      exact hQ _ (fp_t (fp_IF (fp_IA fp_r (by decide)) (by decide)) (ih (v6 + 1) (sI (sI s 167 (ix (gI s 116 80)) ((x10 >>> ((24 - (8 * (v6 - v6 / 4 * 4))) &&& 31)) &&& 255)) 116 80 ((gI s 116 80) + 1))))
def aw_M_feed : List Nat := [167]
def fw_M_feed : List (Nat × Nat) := [(116, 80)]
theorem fr_M_feed  (a1 : Int32) (a2 : Int32) (a3 : Int32) (a4 : Int32) (a5 : Int32) (s : mS) : fp aw_M_feed fw_M_feed false s (f_M_feed a1 a2 a3 a4 a5 s).2 := by
  refine (fun (Q : Int32 × mS → Prop) (hQ : ∀ r, fp aw_M_feed fw_M_feed false s r.2 → Q r) => ?_ : ∀ Q : Int32 × mS → Prop, (∀ r, fp aw_M_feed fw_M_feed false s r.2 → Q r) → Q (f_M_feed a1 a2 a3 a4 a5 s)) (fun r => fp aw_M_feed fw_M_feed false s r.2) (fun _ h => h)
  unfold f_M_feed
  refine q_if Q (fun _ => ?_) (fun _ => ?_)
  · refine q_call Q (R := fun (x11 : Int32 × mS) => fp aw_M_feed fw_M_feed false s x11.2) (fp_t fp_r (fp_m (fr_lp_M_feed_18 a1 a2 a3 a4 a5 mm_N (0 : Int32) s) (by decide) (by decide) (by decide))) (fun x11 gx11 => ?_)
    exact hQ _ gx11
  · exact hQ _ fp_r
def aw_G_end : List Nat := []
def fw_G_end : List (Nat × Nat) := [(36, 5)]
theorem fr_G_end  (a1 : Int32) (s : mS) : fp aw_G_end fw_G_end false s (f_G_end a1 s).2 := by
  refine (fun (Q : Int32 × mS → Prop) (hQ : ∀ r, fp aw_G_end fw_G_end false s r.2 → Q r) => ?_ : ∀ Q : Int32 × mS → Prop, (∀ r, fp aw_G_end fw_G_end false s r.2 → Q r) → Q (f_G_end a1 s)) (fun r => fp aw_G_end fw_G_end false s r.2) (fun _ h => h)
  unfold f_G_end
  refine q_let0 Q (fun x10 => ?_)
  refine q_if Q (fun _ => ?_) (fun _ => ?_)
  · exact hQ _ fp_r
  · exact hQ _ (fp_IF fp_r (by decide))
def aw_M_end : List Nat := []
def fw_M_end : List (Nat × Nat) := [(116, 80)]
theorem fr_M_end  (a1 : Int32) (s : mS) : fp aw_M_end fw_M_end false s (f_M_end a1 s).2 := by
  refine (fun (Q : Int32 × mS → Prop) (hQ : ∀ r, fp aw_M_end fw_M_end false s r.2 → Q r) => ?_ : ∀ Q : Int32 × mS → Prop, (∀ r, fp aw_M_end fw_M_end false s r.2 → Q r) → Q (f_M_end a1 s)) (fun r => fp aw_M_end fw_M_end false s r.2) (fun _ h => h)
  unfold f_M_end
  refine q_let0 Q (fun x10 => ?_)
  refine q_if Q (fun _ => ?_) (fun _ => ?_)
  · exact hQ _ fp_r
  · exact hQ _ (fp_IF fp_r (by decide))
def aw_Act_clear : List Nat := []
def fw_Act_clear : List (Nat × Nat) := []
theorem fr_Act_clear (r0 : Nat) (hr0 : mq_A r0)  (s : mS) : fp aw_Act_clear fw_Act_clear true s (f_Act_clear r0 s) := by
  refine (fun (Q : mS → Prop) (hQ : ∀ r, fp aw_Act_clear fw_Act_clear true s r → Q r) => ?_ : ∀ Q : mS → Prop, (∀ r, fp aw_Act_clear fw_Act_clear true s r → Q r) → Q (f_Act_clear r0 s)) (fun r => fp aw_Act_clear fw_Act_clear true s r) (fun _ h => h)
  unfold f_Act_clear
  exact hQ _ (fp_S0I (fp_S0I fp_r hr0) hr0)
def aw_lp_Parser_readNumber_2 : List Nat := []
def fw_lp_Parser_readNumber_2 : List (Nat × Nat) := [(80, 2), (80, 4)]
theorem fr_lp_Parser_readNumber_2   : ∀ (n : Nat) (v1 : Int32) (s : mS), fp aw_lp_Parser_readNumber_2 fw_lp_Parser_readNumber_2 false s (lp_Parser_readNumber_2 n v1 s).2 := by
  intro n
  induction n with
  | zero => intro v1 s; exact fp_r
  | succ n ih =>
    intro v1 s
    refine (fun (Q : Int32 × mS → Prop) (hQ : ∀ r, fp aw_lp_Parser_readNumber_2 fw_lp_Parser_readNumber_2 false s r.2 → Q r) => ?_ : ∀ Q : Int32 × mS → Prop, (∀ r, fp aw_lp_Parser_readNumber_2 fw_lp_Parser_readNumber_2 false s r.2 → Q r) → Q (lp_Parser_readNumber_2 (n + 1) v1 s)) (fun r => fp aw_lp_Parser_readNumber_2 fw_lp_Parser_readNumber_2 false s r.2) (fun _ h => h)
    rw [lp_Parser_readNumber_2]
    refine q_if Q (fun _ => ?_) (fun _ => ?_)
    · exact hQ _ fp_r
    · refine q_let0 Q (fun x10 => ?_)
      refine q_let0 Q (fun x11 => ?_)
      refine q_if Q (fun _ => ?_) (fun _ => ?_)
      · exact hQ _ fp_r
      · refine q_join Q (fun (x13 : mS) => fp aw_lp_Parser_readNumber_2 fw_lp_Parser_readNumber_2 false s x13) (fun Q hQ => ?_) (fun x13 gx13 => ?_)
        · refine q_if Q (fun _ => ?_) (fun _ => ?_)
          · exact hQ _ fp_r
          · refine q_let0 Q (fun x14 => ?_)
            exact hQ _ (fp_IF fp_r (by decide))
        · exact hQ _ (fp_t (fp_IF gx13 (by decide)) (ih (v1 + 1) (sI x13 80 2 ((gI x13 80 2) + 1))))
def aw_Parser_readNumber : List Nat := []
def fw_Parser_readNumber : List (Nat × Nat) := [(80, 2), (80, 3), (80, 4)]
theorem fr_Parser_readNumber   (s : mS) : fp aw_Parser_readNumber fw_Parser_readNumber false s (f_Parser_readNumber s) := by
  refine (fun (Q : mS → Prop) (hQ : ∀ r, fp aw_Parser_readNumber fw_Parser_readNumber false s r → Q r) => ?_ : ∀ Q : mS → Prop, (∀ r, fp aw_Parser_readNumber fw_Parser_readNumber false s r → Q r) → Q (f_Parser_readNumber s)) (fun r => fp aw_Parser_readNumber fw_Parser_readNumber false s r) (fun _ h => h)
  unfold f_Parser_readNumber
  refine q_call Q (R := fun (x15 : Int32 × mS) => fp aw_Parser_readNumber fw_Parser_readNumber false s x15.2) (fp_t fp_r (fp_m (fr_lp_Parser_readNumber_2 mm_N (0 : Int32) s) (by decide) (by decide) (by decide))) (fun x15 gx15 => ?_)
  refine q_let0 Q (fun x16 => ?_)
  exact hQ _ (fp_IF gx15 (by decide))
def aw_lp_Parser_readWord_2 : List Nat := []
def fw_lp_Parser_readWord_2 : List (Nat × Nat) := [(80, 2)]
theorem fr_lp_Parser_readWord_2   : ∀ (n : Nat) (v1 : Int32) (s : mS), fp aw_lp_Parser_readWord_2 fw_lp_Parser_readWord_2 false s (lp_Parser_readWord_2 n v1 s).2 := by
  intro n
  induction n with
  | zero => intro v1 s; exact fp_r
  | succ n ih =>
    intro v1 s
    refine (fun (Q : Int32 × mS → Prop) (hQ : ∀ r, fp aw_lp_Parser_readWord_2 fw_lp_Parser_readWord_2 false s r.2 → Q r) => ?_ : ∀ Q : Int32 × mS → Prop, (∀ r, fp aw_lp_Parser_readWord_2 fw_lp_Parser_readWord_2 false s r.2 → Q r) → Q (lp_Parser_readWord_2 (n + 1) v1 s)) (fun r => fp aw_lp_Parser_readWord_2 fw_lp_Parser_readWord_2 false s r.2) (fun _ h => h)
    rw [lp_Parser_readWord_2]
    refine q_if Q (fun _ => ?_) (fun _ => ?_)
    · exact hQ _ fp_r
    · refine q_let0 Q (fun x10 => ?_)
      refine q_let0 Q (fun x11 => ?_)
      refine q_if Q (fun _ => ?_) (fun _ => ?_)
      · exact hQ _ fp_r
      · exact hQ _ (fp_t (fp_IF fp_r (by decide)) (ih (v1 + 1) (sI s 80 2 ((gI s 80 2) + 1))))
def aw_Parser_readWord : List Nat := []
def fw_Parser_readWord : List (Nat × Nat) := [(80, 2), (80, 3)]
theorem fr_Parser_readWord   (s : mS) : fp aw_Parser_readWord fw_Parser_readWord false s (f_Parser_readWord s) := by
  refine (fun (Q : mS → Prop) (hQ : ∀ r, fp aw_Parser_readWord fw_Parser_readWord false s r → Q r) => ?_ : ∀ Q : mS → Prop, (∀ r, fp aw_Parser_readWord fw_Parser_readWord false s r → Q r) → Q (f_Parser_readWord s)) (fun r => fp aw_Parser_readWord fw_Parser_readWord false s r) (fun _ h => h)
  unfold f_Parser_readWord
  refine q_call Q (R := fun (x12 : Int32 × mS) => fp aw_Parser_readWord fw_Parser_readWord false s x12.2) (fp_t fp_r (fp_m (fr_lp_Parser_readWord_2 mm_N (0 : Int32) s) (by decide) (by decide) (by decide))) (fun x12 gx12 => ?_)
  refine q_let0 Q (fun x13 => ?_)
  exact hQ _ (fp_IF gx12 (by decide))
def aw_lp_Parser_advance_2 : List Nat := []
def fw_lp_Parser_advance_2 : List (Nat × Nat) := [(80, 2)]
theorem fr_lp_Parser_advance_2   : ∀ (n : Nat) (v1 : Int32) (s : mS), fp aw_lp_Parser_advance_2 fw_lp_Parser_advance_2 false s (lp_Parser_advance_2 n v1 s).2 := by
  intro n
  induction n with
  | zero => intro v1 s; exact fp_r
  | succ n ih =>
    intro v1 s
    refine (fun (Q : Int32 × mS → Prop) (hQ : ∀ r, fp aw_lp_Parser_advance_2 fw_lp_Parser_advance_2 false s r.2 → Q r) => ?_ : ∀ Q : Int32 × mS → Prop, (∀ r, fp aw_lp_Parser_advance_2 fw_lp_Parser_advance_2 false s r.2 → Q r) → Q (lp_Parser_advance_2 (n + 1) v1 s)) (fun r => fp aw_lp_Parser_advance_2 fw_lp_Parser_advance_2 false s r.2) (fun _ h => h)
    rw [lp_Parser_advance_2]
    refine q_if Q (fun _ => ?_) (fun _ => ?_)
    · exact hQ _ fp_r
    · refine q_let0 Q (fun x10 => ?_)
      refine q_let0 Q (fun x11 => ?_)
      refine q_if Q (fun _ => ?_) (fun _ => ?_)
      · exact hQ _ fp_r
      · exact hQ _ (fp_t (fp_IF fp_r (by decide)) (ih (v1 + 1) (sI s 80 2 ((gI s 80 2) + 1))))
def aw_Parser_advance : List Nat := []
def fw_Parser_advance : List (Nat × Nat) := [(80, 2), (80, 3), (80, 4), (80, 5)]
theorem fr_Parser_advance   (s : mS) : fp aw_Parser_advance fw_Parser_advance false s (f_Parser_advance s) := by
  refine (fun (Q : mS → Prop) (hQ : ∀ r, fp aw_Parser_advance fw_Parser_advance false s r → Q r) => ?_ : ∀ Q : mS → Prop, (∀ r, fp aw_Parser_advance fw_Parser_advance false s r → Q r) → Q (f_Parser_advance s)) (fun r => fp aw_Parser_advance fw_Parser_advance false s r) (fun _ h => h)
  unfold f_Parser_advance
  refine q_call Q (R := fun (x12 : Int32 × mS) => fp aw_Parser_advance fw_Parser_advance false s x12.2) (fp_t fp_r (fp_m (fr_lp_Parser_advance_2 mm_N (0 : Int32) s) (by decide) (by decide) (by decide))) (fun x12 gx12 => ?_)
  refine q_let0 Q (fun x13 => ?_)
  refine q_if Q (fun _ => ?_) (fun _ => ?_)
  · exact hQ _ (fp_IF (fp_IF (fp_IF gx12 (by decide)) (by decide)) (by decide))
  · refine q_let0 Q (fun x14 => ?_)
    refine q_if Q (fun _ => ?_) (fun _ => ?_)
    · refine q_let0 Q (fun x15 => ?_)
      refine q_if Q (fun _ => ?_) (fun _ => ?_)
      · refine q_let0 Q (fun x16 => ?_)
        exact hQ _ (fp_IF (fp_IF (fp_IF (fp_IF gx12 (by decide)) (by decide)) (by decide)) (by decide))
      · refine q_call Q (R := fun (x17 : mS) => fp aw_Parser_advance fw_Parser_advance false s x17) (fp_t (fp_IF (fp_IF gx12 (by decide)) (by decide)) (fp_m (fr_Parser_readNumber (sI (sI x12.2 80 5 (gI x12.2 80 2)) 80 4 0)) (by decide) (by decide) (by decide))) (fun x17 gx17 => ?_)
        exact hQ _ gx17
    · refine q_call Q (R := fun (x18 : mS) => fp aw_Parser_advance fw_Parser_advance false s x18) (fp_t (fp_IF (fp_IF gx12 (by decide)) (by decide)) (fp_m (fr_Parser_readWord (sI (sI x12.2 80 5 (gI x12.2 80 2)) 80 4 0)) (by decide) (by decide) (by decide))) (fun x18 gx18 => ?_)
      exact hQ _ gx18
def aw_Parser_fail : List Nat := []
def fw_Parser_fail : List (Nat × Nat) := [(80, 12), (80, 13)]
theorem fr_Parser_fail  (a1 : Int32) (s : mS) : fp aw_Parser_fail fw_Parser_fail false s (f_Parser_fail a1 s) := by
  refine (fun (Q : mS → Prop) (hQ : ∀ r, fp aw_Parser_fail fw_Parser_fail false s r → Q r) => ?_ : ∀ Q : mS → Prop, (∀ r, fp aw_Parser_fail fw_Parser_fail false s r → Q r) → Q (f_Parser_fail a1 s)) (fun r => fp aw_Parser_fail fw_Parser_fail false s r) (fun _ h => h)
  unfold f_Parser_fail
  refine q_if Q (fun _ => ?_) (fun _ => ?_)
  · exact hQ _ (fp_IF (fp_IF fp_r (by decide)) (by decide))
  · exact hQ _ fp_r
def aw_Act_beginLine : List Nat := []
def fw_Act_beginLine : List (Nat × Nat) := []
theorem fr_Act_beginLine (r0 : Nat) (hr0 : mq_A r0) (a1 : Int32) (s : mS) : fp aw_Act_beginLine fw_Act_beginLine true s (f_Act_beginLine r0 a1 s) := by
  refine (fun (Q : mS → Prop) (hQ : ∀ r, fp aw_Act_beginLine fw_Act_beginLine true s r → Q r) => ?_ : ∀ Q : mS → Prop, (∀ r, fp aw_Act_beginLine fw_Act_beginLine true s r → Q r) → Q (f_Act_beginLine r0 a1 s)) (fun r => fp aw_Act_beginLine fw_Act_beginLine true s r) (fun _ h => h)
  unfold f_Act_beginLine
  refine q_if Q (fun _ => ?_) (fun _ => ?_)
  · exact hQ _ fp_r
  · exact hQ _ (fp_SI (fp_SI fp_r hr0 (by decide)) hr0 (by decide))
def aw_Parser_takeSubject : List Nat := []
def fw_Parser_takeSubject : List (Nat × Nat) := [(80, 7), (80, 8), (80, 10), (80, 11), (80, 12), (80, 13)]
theorem fr_Parser_takeSubject   (s : mS) (hP : ∀ j, mq_A (gP s j)) : fp aw_Parser_takeSubject fw_Parser_takeSubject true s (f_Parser_takeSubject s) := by
  refine (fun (Q : mS → Prop) (hQ : ∀ r, fp aw_Parser_takeSubject fw_Parser_takeSubject true s r → Q r) => ?_ : ∀ Q : mS → Prop, (∀ r, fp aw_Parser_takeSubject fw_Parser_takeSubject true s r → Q r) → Q (f_Parser_takeSubject s)) (fun r => fp aw_Parser_takeSubject fw_Parser_takeSubject true s r) (fun _ h => h)
  unfold f_Parser_takeSubject
  refine q_if Q (fun _ => ?_) (fun _ => ?_)
  · refine q_call Q (R := fun (x10 : mS) => fp aw_Parser_takeSubject fw_Parser_takeSubject true s x10) (fp_t fp_r (fp_m (fr_Parser_fail (1 : Int32) s) (by decide) (by decide) (by decide))) (fun x10 gx10 => ?_)
    exact hQ _ gx10
  · refine q_if Q (fun _ => ?_) (fun _ => ?_)
    · refine q_call Q (R := mq_A) (fp_P (show fp aw_Parser_takeSubject fw_Parser_takeSubject true s s from fp_r) hP _) (fun r11 hr11 => ?_)
      refine q_if Q (fun _ => ?_) (fun _ => ?_)
      · refine q_call Q (R := mq_A) (fp_P (show fp aw_Parser_takeSubject fw_Parser_takeSubject true s s from fp_r) hP _) (fun r12 hr12 => ?_)
        refine q_call Q (R := fun (x13 : mS) => fp aw_Parser_takeSubject fw_Parser_takeSubject true s x13) (fp_t fp_r (fp_m (fr_Act_beginLine r12 hr12 ((gI s 80 3) - 3) s) (by decide) (by decide) (by decide))) (fun x13 gx13 => ?_)
        exact hQ _ (fp_IF (fp_IF (fp_IF (fp_IF gx13 (by decide)) (by decide)) (by decide)) (by decide))
      · refine q_call Q (R := fun (x14 : mS) => fp aw_Parser_takeSubject fw_Parser_takeSubject true s x14) (fp_t fp_r (fp_m (fr_Parser_fail (3 : Int32) s) (by decide) (by decide) (by decide))) (fun x14 gx14 => ?_)
        exact hQ _ gx14
    · refine q_call Q (R := fun (x15 : mS) => fp aw_Parser_takeSubject fw_Parser_takeSubject true s x15) (fp_t fp_r (fp_m (fr_Parser_fail (1 : Int32) s) (by decide) (by decide) (by decide))) (fun x15 gx15 => ?_)
      exact hQ _ gx15
def aw_Act_emit : List Nat := []
def fw_Act_emit : List (Nat × Nat) := []
theorem fr_Act_emit (r0 : Nat) (hr0 : mq_A r0) (a1 : Int32) (a2 : Int32) (s : mS) : fp aw_Act_emit fw_Act_emit true s (f_Act_emit r0 a1 a2 s) := by
  refine (fun (Q : mS → Prop) (hQ : ∀ r, fp aw_Act_emit fw_Act_emit true s r → Q r) => ?_ : ∀ Q : mS → Prop, (∀ r, fp aw_Act_emit fw_Act_emit true s r → Q r) → Q (f_Act_emit r0 a1 a2 s)) (fun r => fp aw_Act_emit fw_Act_emit true s r) (fun _ h => h)
  unfold f_Act_emit
  refine q_if Q (fun _ => ?_) (fun _ => ?_)
  · exact hQ _ fp_r
  · exact hQ _ (fp_S0I (fp_SI (fp_SI fp_r hr0 (by decide)) hr0 (by decide)) hr0)
def aw_Parser_takePart : List Nat := []
def fw_Parser_takePart : List (Nat × Nat) := [(80, 7), (80, 12), (80, 13)]
theorem fr_Parser_takePart   (s : mS) (hP : ∀ j, mq_A (gP s j)) : fp aw_Parser_takePart fw_Parser_takePart true s (f_Parser_takePart s) := by
  refine (fun (Q : mS → Prop) (hQ : ∀ r, fp aw_Parser_takePart fw_Parser_takePart true s r → Q r) => ?_ : ∀ Q : mS → Prop, (∀ r, fp aw_Parser_takePart fw_Parser_takePart true s r → Q r) → Q (f_Parser_takePart s)) (fun r => fp aw_Parser_takePart fw_Parser_takePart true s r) (fun _ h => h)
  unfold f_Parser_takePart
  refine q_let0 Q (fun x10 => ?_)
  refine q_if Q (fun _ => ?_) (fun _ => ?_)
  · refine q_call Q (R := fun (x11 : mS) => fp aw_Parser_takePart fw_Parser_takePart true s x11) (fp_t fp_r (fp_m (fr_Parser_fail (1 : Int32) s) (by decide) (by decide) (by decide))) (fun x11 gx11 => ?_)
    exact hQ _ gx11
  · refine q_call Q (R := mq_A) (fp_P (show fp aw_Parser_takePart fw_Parser_takePart true s s from fp_r) hP _) (fun r12 hr12 => ?_)
    refine q_call Q (R := fun (x13 : mS) => fp aw_Parser_takePart fw_Parser_takePart true s x13) (fp_t fp_r (fp_m (fr_Act_emit r12 hr12 (gI s 80 3) (gI s 80 4) s) (by decide) (by decide) (by decide))) (fun x13 gx13 => ?_)
    exact hQ _ (fp_IF gx13 (by decide))
def aw_Parser_takeDivisor : List Nat := []
def fw_Parser_takeDivisor : List (Nat × Nat) := [(80, 7), (80, 12), (80, 13)]
theorem fr_Parser_takeDivisor   (s : mS) (hP : ∀ j, mq_A (gP s j)) : fp aw_Parser_takeDivisor fw_Parser_takeDivisor true s (f_Parser_takeDivisor s) := by
  refine (fun (Q : mS → Prop) (hQ : ∀ r, fp aw_Parser_takeDivisor fw_Parser_takeDivisor true s r → Q r) => ?_ : ∀ Q : mS → Prop, (∀ r, fp aw_Parser_takeDivisor fw_Parser_takeDivisor true s r → Q r) → Q (f_Parser_takeDivisor s)) (fun r => fp aw_Parser_takeDivisor fw_Parser_takeDivisor true s r) (fun _ h => h)
  unfold f_Parser_takeDivisor
  refine q_if Q (fun _ => ?_) (fun _ => ?_)
  · refine q_if Q (fun _ => ?_) (fun _ => ?_)
    · refine q_call Q (R := fun (x10 : mS) => fp aw_Parser_takeDivisor fw_Parser_takeDivisor true s x10) (fp_t fp_r (fp_m (fr_Parser_fail (2 : Int32) s) (by decide) (by decide) (by decide))) (fun x10 gx10 => ?_)
      exact hQ _ gx10
    · refine q_call Q (R := fun (x11 : mS) => fp aw_Parser_takeDivisor fw_Parser_takeDivisor true s x11) (fp_t fp_r (fp_m (fr_Parser_takePart s (fp_P (show fp aw_Parser_takeDivisor fw_Parser_takeDivisor true s s from fp_r) hP)) (by decide) (by decide) (by decide))) (fun x11 gx11 => ?_)
      exact hQ _ gx11
  · refine q_call Q (R := fun (x12 : mS) => fp aw_Parser_takeDivisor fw_Parser_takeDivisor true s x12) (fp_t fp_r (fp_m (fr_Parser_fail (1 : Int32) s) (by decide) (by decide) (by decide))) (fun x12 gx12 => ?_)
    exact hQ _ gx12
def aw_Parser_putAside : List Nat := [81]
def fw_Parser_putAside : List (Nat × Nat) := [(80, 10)]
theorem fr_Parser_putAside   (s : mS) : fp aw_Parser_putAside fw_Parser_putAside false s (f_Parser_putAside s) := by
  refine (fun (Q : mS → Prop) (hQ : ∀ r, fp aw_Parser_putAside fw_Parser_putAside false s r → Q r) => ?_ : ∀ Q : mS → Prop, (∀ r, fp aw_Parser_putAside fw_Parser_putAside false s r → Q r) → Q (f_Parser_putAside s)) (fun r => fp aw_Parser_putAside fw_Parser_putAside false s r) (fun _ h => h)
  unfold f_Parser_putAside
  refine q_if Q (fun _ => ?_) (fun _ => ?_)
  · exact hQ _ fp_r
  · exact hQ _ (fp_IA (fp_IF fp_r (by decide)) (by decide))
def aw_Parser_takeTest : List Nat := [81]
def fw_Parser_takeTest : List (Nat × Nat) := [(80, 7), (80, 8), (80, 10), (80, 11), (80, 12), (80, 13)]
theorem fr_Parser_takeTest   (s : mS) (hP : ∀ j, mq_A (gP s j)) : fp aw_Parser_takeTest fw_Parser_takeTest true s (f_Parser_takeTest s) := by
  refine (fun (Q : mS → Prop) (hQ : ∀ r, fp aw_Parser_takeTest fw_Parser_takeTest true s r → Q r) => ?_ : ∀ Q : mS → Prop, (∀ r, fp aw_Parser_takeTest fw_Parser_takeTest true s r → Q r) → Q (f_Parser_takeTest s)) (fun r => fp aw_Parser_takeTest fw_Parser_takeTest true s r) (fun _ h => h)
  unfold f_Parser_takeTest
  refine q_if Q (fun _ => ?_) (fun _ => ?_)
  · refine q_if Q (fun _ => ?_) (fun _ => ?_)
    · refine q_call Q (R := fun (x10 : mS) => fp aw_Parser_takeTest fw_Parser_takeTest true s x10) (fp_t (fp_IF fp_r (by decide)) (fp_m (fr_Parser_putAside (sI s 80 11 ((gI s 80 11) + 1))) (by decide) (by decide) (by decide))) (fun x10 gx10 => ?_)
      exact hQ _ gx10
    · refine q_call Q (R := fun (x11 : mS) => fp aw_Parser_takeTest fw_Parser_takeTest true s x11) (fp_t fp_r (fp_m (fr_Parser_fail (3 : Int32) s) (by decide) (by decide) (by decide))) (fun x11 gx11 => ?_)
      exact hQ _ gx11
  · refine q_if Q (fun _ => ?_) (fun _ => ?_)
    · refine q_if Q (fun _ => ?_) (fun _ => ?_)
      · refine q_call Q (R := fun (x12 : mS) => fp aw_Parser_takeTest fw_Parser_takeTest true s x12) (fp_t (fp_IF fp_r (by decide)) (fp_m (fr_Parser_putAside (sI s 80 11 ((gI s 80 11) + 1))) (by decide) (by decide) (by decide))) (fun x12 gx12 => ?_)
        exact hQ _ gx12
      · refine q_call Q (R := fun (x13 : mS) => fp aw_Parser_takeTest fw_Parser_takeTest true s x13) (fp_t fp_r (fp_m (fr_Parser_fail (3 : Int32) s) (by decide) (by decide) (by decide))) (fun x13 gx13 => ?_)
        exact hQ _ gx13
    · refine q_call Q (R := fun (x14 : mS) => fp aw_Parser_takeTest fw_Parser_takeTest true s x14) (fp_t (fp_IF fp_r (by decide)) (fp_m (fr_Parser_takePart (sI s 80 8 1) (fp_P (show fp aw_Parser_takeTest fw_Parser_takeTest true s (sI s 80 8 1) from (fp_IF fp_r (by decide))) hP)) (by decide) (by decide) (by decide))) (fun x14 gx14 => ?_)
      exact hQ _ gx14
def aw_lp_Parser_unwind_15 : List Nat := []
def fw_lp_Parser_unwind_15 : List (Nat × Nat) := [(80, 10), (80, 11)]
theorem fr_lp_Parser_unwind_15  (a1 : Int32) : ∀ (n : Nat) (v2 : Int32) (s : mS), (∀ j, mq_A (gP s j)) → fp aw_lp_Parser_unwind_15 fw_lp_Parser_unwind_15 true s (lp_Parser_unwind_15 a1 n v2 s).2 := by
  intro n
  induction n with
  | zero => intro v2 s _; exact fp_r
  | succ n ih =>
    intro v2 s hP
    refine (fun (Q : Int32 × mS → Prop) (hQ : ∀ r, fp aw_lp_Parser_unwind_15 fw_lp_Parser_unwind_15 true s r.2 → Q r) => ?_ : ∀ Q : Int32 × mS → Prop, (∀ r, fp aw_lp_Parser_unwind_15 fw_lp_Parser_unwind_15 true s r.2 → Q r) → Q (lp_Parser_unwind_15 a1 (n + 1) v2 s)) (fun r => fp aw_lp_Parser_unwind_15 fw_lp_Parser_unwind_15 true s r.2) (fun _ h => h)
    rw [lp_Parser_unwind_15]
    refine q_if Q (fun _ => ?_) (fun _ => ?_)
    · exact hQ _ fp_r
    · refine q_let0 Q (fun x10 => ?_)
      refine q_if Q (fun _ => ?_) (fun _ => ?_)
      · exact hQ _ fp_r
      · refine q_call Q (R := mq_A) (fp_P (show fp aw_lp_Parser_unwind_15 fw_lp_Parser_unwind_15 true s s from fp_r) hP _) (fun r11 hr11 => ?_)
        refine q_call Q (R := fun (x12 : mS) => fp aw_lp_Parser_unwind_15 fw_lp_Parser_unwind_15 true s x12) (fp_t fp_r (fp_m (fr_Act_emit r11 hr11 (gI s 81 (ix v2)) (0 : Int32) s) (by decide) (by decide) (by decide))) (fun x12 gx12 => ?_)
        refine q_join Q (fun (x13 : mS) => fp aw_lp_Parser_unwind_15 fw_lp_Parser_unwind_15 true s x13) (fun Q hQ => ?_) (fun x13 gx13 => ?_)
        · refine q_if Q (fun _ => ?_) (fun _ => ?_)
          · exact hQ _ (fp_IF gx12 (by decide))
          · exact hQ _ gx12
        · exact hQ _ (fp_t (fp_IF gx13 (by decide)) (ih (v2 + (-1)) (sI x13 80 10 v2) (fp_P (show fp aw_lp_Parser_unwind_15 fw_lp_Parser_unwind_15 true s (sI x13 80 10 v2) from (fp_IF gx13 (by decide))) hP)))
def aw_Parser_unwind : List Nat := []
def fw_Parser_unwind : List (Nat × Nat) := [(80, 10), (80, 11)]
theorem fr_Parser_unwind  (a1 : Int32) (s : mS) (hP : ∀ j, mq_A (gP s j)) : fp aw_Parser_unwind fw_Parser_unwind true s (f_Parser_unwind a1 s) := by
  refine (fun (Q : mS → Prop) (hQ : ∀ r, fp aw_Parser_unwind fw_Parser_unwind true s r → Q r) => ?_ : ∀ Q : mS → Prop, (∀ r, fp aw_Parser_unwind fw_Parser_unwind true s r → Q r) → Q (f_Parser_unwind a1 s)) (fun r => fp aw_Parser_unwind fw_Parser_unwind true s r) (fun _ h => h)
  unfold f_Parser_unwind
  refine q_call Q (R := fun (x14 : Int32 × mS) => fp aw_Parser_unwind fw_Parser_unwind true s x14.2) (fp_t fp_r (fp_m (fr_lp_Parser_unwind_15 a1 mm_N ((if (64 : Int32) < (gI s 80 10) then (64 : Int32) else (gI s 80 10)) - 1) s (fp_P (show fp aw_Parser_unwind fw_Parser_unwind true s s from fp_r) hP)) (by decide) (by decide) (by decide))) (fun x14 gx14 => ?_)
  exact hQ _ gx14
def aw_Act_beginCondition : List Nat := []
def fw_Act_beginCondition : List (Nat × Nat) := []
theorem fr_Act_beginCondition (r0 : Nat) (hr0 : mq_A r0)  (s : mS) : fp aw_Act_beginCondition fw_Act_beginCondition true s (f_Act_beginCondition r0 s) := by
  refine (fun (Q : mS → Prop) (hQ : ∀ r, fp aw_Act_beginCondition fw_Act_beginCondition true s r → Q r) => ?_ : ∀ Q : mS → Prop, (∀ r, fp aw_Act_beginCondition fw_Act_beginCondition true s r → Q r) → Q (f_Act_beginCondition r0 s)) (fun r => fp aw_Act_beginCondition fw_Act_beginCondition true s r) (fun _ h => h)
  unfold f_Act_beginCondition
  refine q_if Q (fun _ => ?_) (fun _ => ?_)
  · exact hQ _ fp_r
  · exact hQ _ (fp_SI fp_r hr0 (by decide))
def aw_Act_closeLine : List Nat := []
def fw_Act_closeLine : List (Nat × Nat) := []
theorem fr_Act_closeLine (r0 : Nat) (hr0 : mq_A r0)  (s : mS) : fp aw_Act_closeLine fw_Act_closeLine true s (f_Act_closeLine r0 s) := by
  refine (fun (Q : mS → Prop) (hQ : ∀ r, fp aw_Act_closeLine fw_Act_closeLine true s r → Q r) => ?_ : ∀ Q : mS → Prop, (∀ r, fp aw_Act_closeLine fw_Act_closeLine true s r → Q r) → Q (f_Act_closeLine r0 s)) (fun r => fp aw_Act_closeLine fw_Act_closeLine true s r) (fun _ h => h)
  unfold f_Act_closeLine
  refine q_if Q (fun _ => ?_) (fun _ => ?_)
  · exact hQ _ fp_r
  · exact hQ _ (fp_S0I (fp_SI fp_r hr0 (by decide)) hr0)
def aw_Parser_closeLine : List Nat := []
def fw_Parser_closeLine : List (Nat × Nat) := [(80, 7), (80, 10), (80, 11), (80, 12), (80, 13)]
theorem fr_Parser_closeLine   (s : mS) (hP : ∀ j, mq_A (gP s j)) : fp aw_Parser_closeLine fw_Parser_closeLine true s (f_Parser_closeLine s) := by
  refine (fun (Q : mS → Prop) (hQ : ∀ r, fp aw_Parser_closeLine fw_Parser_closeLine true s r → Q r) => ?_ : ∀ Q : mS → Prop, (∀ r, fp aw_Parser_closeLine fw_Parser_closeLine true s r → Q r) → Q (f_Parser_closeLine s)) (fun r => fp aw_Parser_closeLine fw_Parser_closeLine true s r) (fun _ h => h)
  unfold f_Parser_closeLine
  refine q_call Q (R := fun (x10 : mS) => fp aw_Parser_closeLine fw_Parser_closeLine true s x10) (fp_t fp_r (fp_m (fr_Parser_unwind (1 : Int32) s (fp_P (show fp aw_Parser_closeLine fw_Parser_closeLine true s s from fp_r) hP)) (by decide) (by decide) (by decide))) (fun x10 gx10 => ?_)
  refine q_if Q (fun _ => ?_) (fun _ => ?_)
  · refine q_join Q (fun (x13 : mS) => fp aw_Parser_closeLine fw_Parser_closeLine true s x13) (fun Q hQ => ?_) (fun x13 gx13 => ?_)
    · refine q_if Q (fun _ => ?_) (fun _ => ?_)
      · refine q_call Q (R := mq_A) (fp_P (show fp aw_Parser_closeLine fw_Parser_closeLine true s x10 from gx10) hP _) (fun r14 hr14 => ?_)
        refine q_call Q (R := fun (x15 : mS) => fp aw_Parser_closeLine fw_Parser_closeLine true s x15) (fp_t gx10 (fp_m (fr_Act_beginCondition r14 hr14 x10) (by decide) (by decide) (by decide))) (fun x15 gx15 => ?_)
        exact hQ _ gx15
      · exact hQ _ gx10
    · refine q_call Q (R := mq_A) (fp_P (show fp aw_Parser_closeLine fw_Parser_closeLine true s x13 from gx13) hP _) (fun r16 hr16 => ?_)
      refine q_call Q (R := fun (x17 : mS) => fp aw_Parser_closeLine fw_Parser_closeLine true s x17) (fp_t gx13 (fp_m (fr_Act_closeLine r16 hr16 x13) (by decide) (by decide) (by decide))) (fun x17 gx17 => ?_)
      exact hQ _ (fp_IF gx17 (by decide))
  · refine q_call Q (R := fun (x18 : mS) => fp aw_Parser_closeLine fw_Parser_closeLine true s x18) (fp_t gx10 (fp_m (fr_Parser_fail (1 : Int32) x10) (by decide) (by decide) (by decide))) (fun x18 gx18 => ?_)
    exact hQ _ gx18
def aw_Parser_closeBracket : List Nat := []
def fw_Parser_closeBracket : List (Nat × Nat) := [(80, 8), (80, 10), (80, 11), (80, 12), (80, 13)]
theorem fr_Parser_closeBracket   (s : mS) (hP : ∀ j, mq_A (gP s j)) : fp aw_Parser_closeBracket fw_Parser_closeBracket true s (f_Parser_closeBracket s) := by
  refine (fun (Q : mS → Prop) (hQ : ∀ r, fp aw_Parser_closeBracket fw_Parser_closeBracket true s r → Q r) => ?_ : ∀ Q : mS → Prop, (∀ r, fp aw_Parser_closeBracket fw_Parser_closeBracket true s r → Q r) → Q (f_Parser_closeBracket s)) (fun r => fp aw_Parser_closeBracket fw_Parser_closeBracket true s r) (fun _ h => h)
  unfold f_Parser_closeBracket
  refine q_call Q (R := fun (x10 : mS) => fp aw_Parser_closeBracket fw_Parser_closeBracket true s x10) (fp_t fp_r (fp_m (fr_Parser_unwind (1 : Int32) s (fp_P (show fp aw_Parser_closeBracket fw_Parser_closeBracket true s s from fp_r) hP)) (by decide) (by decide) (by decide))) (fun x10 gx10 => ?_)
  refine q_if Q (fun _ => ?_) (fun _ => ?_)
  · refine q_call Q (R := fun (x11 : mS) => fp aw_Parser_closeBracket fw_Parser_closeBracket true s x11) (fp_t gx10 (fp_m (fr_Parser_fail (1 : Int32) x10) (by decide) (by decide) (by decide))) (fun x11 gx11 => ?_)
    exact hQ _ gx11
  · exact hQ _ (fp_IF (fp_IF (fp_IF gx10 (by decide)) (by decide)) (by decide))
def aw_Parser_operate : List Nat := [81]
def fw_Parser_operate : List (Nat × Nat) := [(80, 7), (80, 10), (80, 11)]
theorem fr_Parser_operate  (a1 : Int32) (s : mS) (hP : ∀ j, mq_A (gP s j)) : fp aw_Parser_operate fw_Parser_operate true s (f_Parser_operate a1 s) := by
  refine (fun (Q : mS → Prop) (hQ : ∀ r, fp aw_Parser_operate fw_Parser_operate true s r → Q r) => ?_ : ∀ Q : mS → Prop, (∀ r, fp aw_Parser_operate fw_Parser_operate true s r → Q r) → Q (f_Parser_operate a1 s)) (fun r => fp aw_Parser_operate fw_Parser_operate true s r) (fun _ h => h)
  unfold f_Parser_operate
  refine q_let0 Q (fun x10 => ?_)
  refine q_call Q (R := fun (x11 : mS) => fp aw_Parser_operate fw_Parser_operate true s x11) (fp_t fp_r (fp_m (fr_Parser_unwind x10 s (fp_P (show fp aw_Parser_operate fw_Parser_operate true s s from fp_r) hP)) (by decide) (by decide) (by decide))) (fun x11 gx11 => ?_)
  refine q_call Q (R := fun (x12 : mS) => fp aw_Parser_operate fw_Parser_operate true s x12) (fp_t gx11 (fp_m (fr_Parser_putAside x11) (by decide) (by decide) (by decide))) (fun x12 gx12 => ?_)
  exact hQ _ (fp_IF gx12 (by decide))
