/-! THE DUE, the class: an act's lines, the acts, the law. -/
theorem cl_Q_cons {F : Nat → Int32} {sub v : Int32} {l : cL} {R : List cL} : cl_Q F sub v (l :: R) ↔ (cl_T F sub l ∧ cl_V F l ≠ v) ∨ cl_Q F sub v R := by
  unfold cl_Q
  constructor
  · rintro ⟨m, hm, h⟩
    rcases List.mem_cons.mp hm with rfl | hm
    · exact Or.inl h
    · exact Or.inr ⟨m, hm, h⟩
  · rintro (h | ⟨m, hm, h⟩)
    · exact ⟨l, List.mem_cons_self, h⟩
    · exact ⟨m, List.mem_cons_of_mem _ hm, h⟩
theorem cl_Q_nil {F : Nat → Int32} {sub v : Int32} : ¬ cl_Q F sub v [] := by
  rintro ⟨m, hm, -⟩
  cases hm
theorem cl_D_t {F : Nat → Int32} {sub : Int32} {l : cL} {R : List cL} (h : cl_T F sub l) : ∃ q, cl_D F sub (l :: R) = some (cl_V F l, q) ∧ (q = 0 ∨ q = 1) ∧ (q = 1 ↔ cl_Q F sub (cl_V F l) R) := by
  unfold cl_D
  rw [if_pos h]
  by_cases hq : cl_Q F sub (cl_V F l) R
  · exact ⟨1, by rw [if_pos hq], Or.inr rfl, by simp [hq]⟩
  · exact ⟨0, by rw [if_neg hq], Or.inl rfl, by simp [hq]⟩
theorem cl_D_f {F : Nat → Int32} {sub : Int32} {l : cL} {R : List cL} (h : ¬ cl_T F sub l) : cl_D F sub (l :: R) = cl_D F sub R := by
  conv => lhs; unfold cl_D
  rw [if_neg h]
section
variable {r : Nat} {s : mS}
/-- a line has told already -/
theorem G_tells_1 (hr : mq_A r) {sub : Int32} {L : Nat} (hL : gI s r 8 = Int32.ofNat L) (h24 : L ≤ 24) : ∀ (R : List cL) (i n : Nat) (g : Nat → Int32) (a b : Int32), i + R.length = L → R.length < n → cl_Gs s r i R → (∀ l ∈ R, cl_W l) → (b = 0 ∨ b = 1) →
    ∃ v g' b', lp_Act_tells_39_10 r sub n 1 (Int32.ofNat i) (tS s r g a b) = (1, v, tS s r g' a b') ∧ okl_Act_tells_39_10 r sub n 1 (Int32.ofNat i) (tS s r g a b) ∧ (b' = 0 ∨ b' = 1) ∧ (b' = 1 ↔ b = 1 ∨ cl_Q (c_F (gI s 39)) sub a R) := by
  intro R
  induction R with
  | nil =>
    intro i n g a b hi hn _ _ hb
    simp only [List.length_nil] at hi hn
    have : i = L := by omega
    subst this
    match n, hn with
    | n + 1, _ =>
      have e1 : gI (tS s r g a b) r 8 ≤ Int32.ofNat i := by
        rw [tS_g (by omega) (Or.inr (by omega))]
        exact fl_lit' hL
      refine ⟨Int32.ofNat i, g, b, ?_, ?_, hb, ?_⟩
      · simp only [lp_Act_tells_39_10, e1, if_true]
      · simp only [okl_Act_tells_39_10, e1, if_true]
      · simp [cl_Q_nil]
  | cons l R ih =>
    intro i n g a b hi hn hls hws hb
    simp only [List.length_cons] at hi hn
    match n, hn with
    | n + 1, hn =>
      obtain ⟨g', x1, x2, x3⟩ := G_line hr (n := n) (sub := sub) (v3 := 1) hls.1 (hws l List.mem_cons_self) hL (by omega) h24 (Or.inr rfl) g a b
      by_cases hT : cl_T (c_F (gI s 39)) sub l
      · obtain ⟨y1, y2⟩ := x3 hT rfl
        obtain ⟨v, g2, b2, z1, z2, z3, z4⟩ := ih (i + 1) n g' a (if cl_V (c_F (gI s 39)) l = a then b else 1) (by omega) (by omega) hls.2 (fun m hm => hws m (List.mem_cons_of_mem _ hm)) (by split <;> simp [hb])
        refine ⟨v, g2, b2, y1.trans z1, y2 z2, z3, ?_⟩
        rw [z4, cl_Q_cons]
        by_cases hV : cl_V (c_F (gI s 39)) l = a
        · rw [if_pos hV]
          simp [hV]
        · rw [if_neg hV]
          simp [hT, hV]
      · obtain ⟨y1, y2⟩ := x1 hT
        obtain ⟨v, g2, b2, z1, z2, z3, z4⟩ := ih (i + 1) n g' a b (by omega) (by omega) hls.2 (fun m hm => hws m (List.mem_cons_of_mem _ hm)) hb
        refine ⟨v, g2, b2, y1.trans z1, y2 z2, z3, ?_⟩
        rw [z4, cl_Q_cons]
        simp [hT]
theorem G_tells_0 (hr : mq_A r) {sub : Int32} {L : Nat} (hL : gI s r 8 = Int32.ofNat L) (h24 : L ≤ 24) : ∀ (R : List cL) (i n : Nat) (g : Nat → Int32) (a : Int32), i + R.length = L → R.length < n → cl_Gs s r i R → (∀ l ∈ R, cl_W l) →
    ∃ v g' a' b', lp_Act_tells_39_10 r sub n 0 (Int32.ofNat i) (tS s r g a 0) = (if (cl_D (c_F (gI s 39)) sub R).isSome = true then 1 else 0, v, tS s r g' a' b') ∧ okl_Act_tells_39_10 r sub n 0 (Int32.ofNat i) (tS s r g a 0) ∧ (∀ x q, cl_D (c_F (gI s 39)) sub R = some (x, q) → a' = x ∧ b' = q) := by
  intro R
  induction R with
  | nil =>
    intro i n g a hi hn _ _
    simp only [List.length_nil] at hi hn
    have : i = L := by omega
    subst this
    match n, hn with
    | n + 1, _ =>
      have e1 : gI (tS s r g a 0) r 8 ≤ Int32.ofNat i := by
        rw [tS_g (by omega) (Or.inr (by omega))]
        exact fl_lit' hL
      refine ⟨Int32.ofNat i, g, a, 0, ?_, ?_, ?_⟩
      · simp only [lp_Act_tells_39_10, e1, if_true, cl_D, Option.isSome_none, Bool.false_eq_true, if_false]
      · simp only [okl_Act_tells_39_10, e1, if_true]
      · intro x q h
        cases h
  | cons l R ih =>
    intro i n g a hi hn hls hws
    simp only [List.length_cons] at hi hn
    match n, hn with
    | n + 1, hn =>
      obtain ⟨g', x1, x2, x3⟩ := G_line hr (n := n) (sub := sub) (v3 := 0) hls.1 (hws l List.mem_cons_self) hL (by omega) h24 (Or.inl rfl) g a 0
      by_cases hT : cl_T (c_F (gI s 39)) sub l
      · obtain ⟨y1, y2⟩ := x2 hT rfl
        obtain ⟨v, g2, b2, z1, z2, z3, z4⟩ := G_tells_1 hr hL h24 R (i + 1) n g' (cl_V (c_F (gI s 39)) l) 0 (by omega) (by omega) hls.2 (fun m hm => hws m (List.mem_cons_of_mem _ hm)) (Or.inl rfl)
        obtain ⟨q, d1, d2, d3⟩ := cl_D_t (R := R) hT
        refine ⟨v, g2, cl_V (c_F (gI s 39)) l, b2, y1.trans (z1.trans ?_), y2 z2, ?_⟩
        · rw [d1]
          rfl
        · intro x q' h
          rw [d1] at h
          injection h with h
          injection h with h1 h2
          refine ⟨h1, ?_⟩
          rw [← h2]
          have z4' : b2 = 1 ↔ cl_Q (c_F (gI s 39)) sub (cl_V (c_F (gI s 39)) l) R := by
            rw [z4]
            constructor
            · rintro (h | h)
              · exact absurd h (by decide)
              · exact h
            · exact Or.inr
          rcases z3 with z | z <;> rcases d2 with d | d
          · rw [z, d]
          · exfalso
            have := z4'.mpr (d3.mp d)
            rw [z] at this
            exact absurd this (by decide)
          · exfalso
            have := d3.mpr (z4'.mp z)
            rw [d] at this
            exact absurd this (by decide)
          · rw [z, d]
      · obtain ⟨y1, y2⟩ := x1 hT
        obtain ⟨v, g2, a2, b2, z1, z2, z3⟩ := ih (i + 1) n g' a (by omega) (by omega) hls.2 (fun m hm => hws m (List.mem_cons_of_mem _ hm))
        refine ⟨v, g2, a2, b2, ?_, y2 z2, ?_⟩
        · rw [cl_D_f hT]
          exact y1.trans z1
        · rw [cl_D_f hT]
          exact z3
theorem tS_id (b : Int32) : sI s r 12 b = tS s r (gI s (r + 7)) (gI s r 11) b := by
  unfold tS
  rw [sA_id, sI_id]
theorem G_tells (hr : mq_A r) (sub : Int32) {Ls : List cL} (hL : gI s r 8 = Int32.ofNat Ls.length) (h24 : Ls.length ≤ 24) (hls : cl_Gs s r 0 Ls) (hws : ∀ l ∈ Ls, cl_W l) :
    ∃ g a b, f_Act_tells_39 r sub s = (if (cl_D (c_F (gI s 39)) sub Ls).isSome = true then 1 else 0, tS s r g a b) ∧ ok_Act_tells_39 r sub s ∧ (∀ x q, cl_D (c_F (gI s 39)) sub Ls = some (x, q) → a = x ∧ b = q) := by
  obtain ⟨v, g, a, b, h1, h2, h3⟩ := G_tells_0 hr (sub := sub) hL h24 Ls 0 mm_N (gI s (r + 7)) (gI s r 11) (by omega) (by rw [mm_Ns]; omega) hls hws
  rw [← tS_id] at h1 h2
  have h1 : lp_Act_tells_39_10 r sub mm_N 0 0 (sI s r 12 0) = _ := h1
  have h2 : okl_Act_tells_39_10 r sub mm_N 0 0 (sI s r 12 0) := h2
  refine ⟨g, a, b, ?_, ?_, h3⟩
  · unfold f_Act_tells_39
    simp only [mq_let_e, h1]
  · unfold ok_Act_tells_39
    simp only [mq_letP_e, h1, h2, bit0, true_and, b01']
end
/-! the acts of the class -/
/-- cells that asking the law may leave otherwise: the acts' stacks, answers and quarrels, what the law found -/
def w_scr (c j : Nat) : Prop := (c = 36 ∧ (j = 8 ∨ j = 9 ∨ j = 3)) ∨ (40 ≤ c ∧ c < 80 ∧ (c % 8 = 7 ∨ (c % 8 = 0 ∧ (j = 11 ∨ j = 12))))
def wS (s t : mS) : Prop := (∀ c j, ¬ w_scr c j → gI t c j = gI s c j) ∧ (∀ c j, gL t c j = gL s c j) ∧ gP t = gP s
theorem wS_r (s : mS) : wS s s := ⟨fun _ _ _ => rfl, fun _ _ => rfl, rfl⟩
theorem wS_t {s t u : mS} (h : wS s t) (k : wS t u) : wS s u := ⟨fun c j hc => (k.1 c j hc).trans (h.1 c j hc), fun c j => (k.2.1 c j).trans (h.2.1 c j), k.2.2.trans h.2.2⟩
theorem mq_mod {r : Nat} (hr : mq_A r) : r % 8 = 0 ∧ 40 ≤ r ∧ r ≤ 72 := by
  rcases hr with rfl | rfl | rfl | rfl | rfl <;> decide
theorem wS_tS {s : mS} {r : Nat} (hr : mq_A r) (g : Nat → Int32) (a b : Int32) : wS s (tS s r g a b) := by
  have h := mq_mod hr
  refine ⟨fun c j hc => ?_, fun c j => rfl, rfl⟩
  refine tS_g ?_ ?_
  · intro q
    exact hc (Or.inr ⟨by omega, by omega, Or.inl (by omega)⟩)
  · by_cases q : c = r
    · right
      constructor
      · intro q2
        exact hc (Or.inr ⟨by omega, by omega, Or.inr ⟨by omega, Or.inl q2⟩⟩)
      · intro q2
        exact hc (Or.inr ⟨by omega, by omega, Or.inr ⟨by omega, Or.inr q2⟩⟩)
    · exact Or.inl q
theorem wS_36 {s t : mS} (h : wS s t) {j : Nat} (hj : j = 8 ∨ j = 9 ∨ j = 3) (x : Int32) : wS s (sI t 36 j x) := by
  refine ⟨fun c i hc => ?_, h.2.1, h.2.2⟩
  rw [gI_sI, if_neg]
  · exact h.1 c i hc
  · rintro ⟨q1, q2⟩
    exact hc (Or.inl ⟨q1, by omega⟩)
theorem wS_row {s t : mS} (h : wS s t) {r m : Nat} (hr : mq_A r) (h1 : 1 ≤ m) (h2 : m ≤ 6) : gI t (r + m) = gI s (r + m) := by
  have := mq_mod hr
  funext j
  refine h.1 _ _ ?_
  rintro (⟨q, -⟩ | ⟨-, -, q⟩) <;> omega
theorem wS_fld {s t : mS} (h : wS s t) {r m : Nat} (hr : mq_A r) (h2 : m ≤ 10) : gI t r m = gI s r m := by
  have := mq_mod hr
  refine h.1 _ _ ?_
  rintro (⟨q, -⟩ | ⟨-, -, q⟩) <;> omega
theorem wS_arr {s t : mS} (h : wS s t) {c : Nat} (hc : c ≠ 36 ∧ (c < 40 ∨ 80 ≤ c)) : gI t c = gI s c := by
  funext j
  refine h.1 _ _ ?_
  rintro (⟨q, -⟩ | ⟨q, q2, -⟩) <;> omega
theorem cl_G_w {s t : mS} (h : wS s t) {r i : Nat} (hr : mq_A r) {l : cL} (hl : cl_G s r i l) : cl_G t r i l := by
  unfold cl_G at hl ⊢
  rw [wS_row h hr (by omega : 1 ≤ 1) (by omega), wS_row h hr (by omega : 1 ≤ 2) (by omega), wS_row h hr (by omega : 1 ≤ 3) (by omega), wS_row h hr (by omega : 1 ≤ 4) (by omega), wS_row h hr (by omega : 1 ≤ 5) (by omega), wS_row h hr (by omega : 1 ≤ 6) (by omega)]
  exact hl
theorem cl_Gs_w {s t : mS} (h : wS s t) {r : Nat} (hr : mq_A r) : ∀ {R : List cL} {i : Nat}, cl_Gs s r i R → cl_Gs t r i R
  | [], _, _ => trivial
  | _ :: _, _, hl => ⟨cl_G_w h hr hl.1, cl_Gs_w h hr hl.2⟩
/-- the acts' content: day and lines -/
abbrev aC : Type := Nat → Option (Int32 × List cL)
def aW (A : aC) : Prop := ∀ k, k < 4 → ∀ d Ls, A k = some (d, Ls) → 0 ≤ d ∧ d ≤ 41 ∧ Ls.length ≤ 24 ∧ ∀ l ∈ Ls, cl_W l
def aG (s : mS) (A : aC) : Prop := (∀ j, mq_A (gP s j)) ∧ (∀ i j, i < 5 → j < 5 → gP s i = gP s j → i = j) ∧ (∀ k, k < 4 → A k = none → gI s (gP s k) 10 = 0) ∧ ∀ k, k < 4 → ∀ d Ls, A k = some (d, Ls) → gI s (gP s k) 10 = 1 ∧ gI s (gP s k) 9 = d ∧ gI s (gP s k) 8 = Int32.ofNat Ls.length ∧ cl_Gs s (gP s k) 0 Ls
theorem aG_w {s t : mS} (h : wS s t) {A : aC} (hA : aG s A) : aG t A := by
  obtain ⟨h1, h2, h3, h4⟩ := hA
  unfold aG
  rw [h.2.2]
  refine ⟨h1, h2, fun k hk ha => ?_, fun k hk d Ls ha => ?_⟩
  · rw [wS_fld h (h1 k) (by omega)]
    exact h3 k hk ha
  · obtain ⟨q1, q2, q3, q4⟩ := h4 k hk d Ls ha
    rw [wS_fld h (h1 k) (by omega), wS_fld h (h1 k) (by omega), wS_fld h (h1 k) (by omega)]
    exact ⟨q1, q2, q3, cl_Gs_w h (h1 k) q4⟩
/-- after k acts: the latest day, the act, its number, its quarrel -/
noncomputable def wg_st (F : Nat → Int32) (sub day : Int32) (A : aC) : Nat → Int32 × Int32 × Int32 × Int32
  | 0 => (-1, -1, 0, 0)
  | k + 1 => match A k with
    | none => wg_st F sub day A k
    | some (d, Ls) => if day < d ∨ d < (wg_st F sub day A k).1 then wg_st F sub day A k else match cl_D F sub Ls with
      | none => wg_st F sub day A k
      | some (v, q) => (d, Int32.ofNat k, v, q)
theorem cl_D_01 {F : Nat → Int32} {sub : Int32} : ∀ {R : List cL} {x q : Int32}, cl_D F sub R = some (x, q) → q = 0 ∨ q = 1
  | [], _, _, h => by cases h
  | l :: R, x, q, h => by
    by_cases hT : cl_T F sub l
    · obtain ⟨q', d1, d2, -⟩ := cl_D_t (R := R) hT
      rw [d1] at h
      injection h with h
      injection h with h1 h2
      rw [← h2]
      exact d2
    · rw [cl_D_f hT] at h
      exact cl_D_01 h
theorem G_weigh_lp {sub : Int32} {A : aC} (hW : aW A) {s0 : mS} : ∀ r k n (s : mS), k + r = 4 → r < n → aG s A → wS s0 s →
    gI s 36 9 = (wg_st (c_F (gI s0 39)) sub (gI s0 39 1) A k).2.1 → gI s 36 8 = (wg_st (c_F (gI s0 39)) sub (gI s0 39 1) A k).2.2.1 → gI s 36 3 = (wg_st (c_F (gI s0 39)) sub (gI s0 39 1) A k).2.2.2 →
    ∃ v v' t, lp_Laws_weigh_19 sub n (wg_st (c_F (gI s0 39)) sub (gI s0 39 1) A k).1 (Int32.ofNat k) s = (v, v', t) ∧ okl_Laws_weigh_19 sub n (wg_st (c_F (gI s0 39)) sub (gI s0 39 1) A k).1 (Int32.ofNat k) s ∧ wS s0 t ∧ gI t 36 9 = (wg_st (c_F (gI s0 39)) sub (gI s0 39 1) A 4).2.1 ∧ gI t 36 8 = (wg_st (c_F (gI s0 39)) sub (gI s0 39 1) A 4).2.2.1 ∧ gI t 36 3 = (wg_st (c_F (gI s0 39)) sub (gI s0 39 1) A 4).2.2.2 := by
  intro r
  induction r with
  | zero =>
    intro k n s hk hn hA hw h9 h8 h10
    have : k = 4 := by omega
    subst this
    match n, hn with
    | n + 1, _ =>
      have e1 : (4 : Int32) ≤ Int32.ofNat 4 := by decide
      refine ⟨(wg_st (c_F (gI s0 39)) sub (gI s0 39 1) A 4).1, Int32.ofNat 4, s, ?_, ?_, hw, h9, h8, h10⟩
      · simp only [lp_Laws_weigh_19, e1, if_true]
      · simp only [okl_Laws_weigh_19, e1, if_true]
  | succ r ih =>
    intro k n s hk hn hA hw h9 h8 h10
    match n, hn with
    | n + 1, hn =>
      have e1 : ¬ (4 : Int32) ≤ Int32.ofNat k := fl_lit (a := 4) rfl (by omega) (by omega) (by omega)
      have e2 : ix (Int32.ofNat k) = k := ix_ofNat (by omega)
      have e3 : Int32.ofNat k + 1 = Int32.ofNat (k + 1) := ofNat_succ k
      have b1 : mm_inb (Int32.ofNat k) 4 = true := inb_ofNat (by decide) (by omega)
      obtain ⟨a1, a2, a3, a4⟩ := hA
      have hr := a1 k
      have e39 : gI s 39 = gI s0 39 := wS_arr hw (by decide)
      cases hk' : A k with
      | none =>
        have hst : wg_st (c_F (gI s0 39)) sub (gI s0 39 1) A (k + 1) = wg_st (c_F (gI s0 39)) sub (gI s0 39 1) A k := by
          show (match A k with | none => _ | some (d, Ls) => _) = _
          rw [hk']
        have e4 := a3 k (by omega) hk'
        obtain ⟨v, v', t, i1, i2, i3, i4, i5, i6⟩ := ih (k + 1) n s (by omega) (by omega) ⟨a1, a2, a3, a4⟩ hw (by rw [hst]; exact h9) (by rw [hst]; exact h8) (by rw [hst]; exact h10)
        rw [hst] at i1 i2
        refine ⟨v, v', t, ?_, ?_, i3, i4, i5, i6⟩
        · simp only [lp_Laws_weigh_19, mq_let_e, e1, if_false, e2, e4, if_true, e3]
          exact i1
        · simp only [okl_Laws_weigh_19, mq_letP_e, e1, if_false, e2, e4, if_true, e3, b1, hr, true_and]
          exact i2
      | some dl =>
        obtain ⟨d, Ls⟩ := dl
        obtain ⟨q1, q2, q3, q4⟩ := a4 k (by omega) d Ls hk'
        obtain ⟨w0, w1, w2, w3⟩ := hW k (by omega) d Ls hk'
        have q1' : ¬ gI s (gP s k) 10 = 0 := by rw [q1]; decide
        by_cases c1 : gI s0 39 1 < d ∨ d < (wg_st (c_F (gI s0 39)) sub (gI s0 39 1) A k).1
        · have hst : wg_st (c_F (gI s0 39)) sub (gI s0 39 1) A (k + 1) = wg_st (c_F (gI s0 39)) sub (gI s0 39 1) A k := by
            show (match A k with | none => _ | some (d, Ls) => _) = _
            rw [hk']
            exact if_pos c1
          obtain ⟨v, v', t, i1, i2, i3, i4, i5, i6⟩ := ih (k + 1) n s (by omega) (by omega) ⟨a1, a2, a3, a4⟩ hw (by rw [hst]; exact h9) (by rw [hst]; exact h8) (by rw [hst]; exact h10)
          rw [hst] at i1 i2
          by_cases c2 : gI s0 39 1 < d
          · refine ⟨v, v', t, ?_, ?_, i3, i4, i5, i6⟩
            · simp only [lp_Laws_weigh_19, mq_let_e, e1, if_false, e2, q1', q2, e39, c2, if_true, e3]
              exact i1
            · simp only [okl_Laws_weigh_19, mq_letP_e, e1, if_false, e2, q1', q2, e39, c2, if_true, e3, b1, hr, true_and]
              exact i2
          · have c3 : d < (wg_st (c_F (gI s0 39)) sub (gI s0 39 1) A k).1 := c1.resolve_left c2
            refine ⟨v, v', t, ?_, ?_, i3, i4, i5, i6⟩
            · simp only [lp_Laws_weigh_19, mq_let_e, e1, if_false, e2, q1', q2, e39, c2, c3, if_true, e3]
              exact i1
            · simp only [okl_Laws_weigh_19, mq_letP_e, e1, if_false, e2, q1', q2, e39, c2, c3, if_true, e3, b1, hr, true_and]
              exact i2
        · have c2 : ¬ gI s0 39 1 < d := fun h => c1 (Or.inl h)
          have c3 : ¬ d < (wg_st (c_F (gI s0 39)) sub (gI s0 39 1) A k).1 := fun h => c1 (Or.inr h)
          obtain ⟨g, a, b, t1, t2, t3⟩ := G_tells hr sub q3 w2 q4 w3
          rw [e39] at t1 t3
          have hw2 : wS s (tS s (gP s k) g a b) := wS_tS hr g a b
          cases hD : cl_D (c_F (gI s0 39)) sub Ls with
          | none =>
            have hst : wg_st (c_F (gI s0 39)) sub (gI s0 39 1) A (k + 1) = wg_st (c_F (gI s0 39)) sub (gI s0 39 1) A k := by
              show (match A k with | none => _ | some (d, Ls) => _) = _
              rw [hk']
              show (if _ then _ else _) = _
              rw [if_neg c1, hD]
            rw [hD] at t1
            have n36 : ∀ j, gI (tS s (gP s k) g a b) 36 j = gI s 36 j := fun j => tS_g (by have := mq_mod hr; omega) (Or.inl (by have := mq_mod hr; omega))
            obtain ⟨v, v', t, i1, i2, i3, i4, i5, i6⟩ := ih (k + 1) n (tS s (gP s k) g a b) (by omega) (by omega) (aG_w hw2 ⟨a1, a2, a3, a4⟩) (wS_t hw hw2) (by rw [hst, n36]; exact h9) (by rw [hst, n36]; exact h8) (by rw [hst, n36]; exact h10)
            rw [hst] at i1 i2
            refine ⟨v, v', t, ?_, ?_, i3, i4, i5, i6⟩
            · simp only [lp_Laws_weigh_19, mq_let_e, e1, if_false, e2, q1', q2, e39, c2, c3, t1, Option.isSome_none, Bool.false_eq_true, if_true, e3]
              exact i1
            · simp only [okl_Laws_weigh_19, mq_letP_e, e1, if_false, e2, q1', q2, e39, c2, c3, t1, t2, Option.isSome_none, Bool.false_eq_true, if_true, e3, b1, hr, true_and]
              exact i2
          | some xq =>
            obtain ⟨x, q⟩ := xq
            obtain ⟨rfl, rfl⟩ := t3 x q hD
            have hst : wg_st (c_F (gI s0 39)) sub (gI s0 39 1) A (k + 1) = (d, Int32.ofNat k, a, b) := by
              show (match A k with | none => _ | some (d, Ls) => _) = _
              rw [hk']
              show (if _ then _ else _) = _
              rw [if_neg c1, hD]
            rw [hD] at t1
            have n9 : gI (tS s (gP s k) g a b) (gP s k) 9 = d := by rw [tS_g (by omega) (Or.inr (by omega))]; exact q2
            have hm := mq_mod hr
            have n36 : ¬ gP s k = 36 := by omega
            have r1 : ∀ x, gI (sI (tS s (gP s k) g a b) 36 9 x) (gP s k) 11 = a := fun x => by
              rw [gI_sI, if_neg (fun h => n36 h.1), tS_a]
            have r2 : ∀ x y, gI (sI (sI (tS s (gP s k) g a b) 36 9 x) 36 8 y) (gP s k) 12 = b := fun x y => by
              rw [gI_sI, if_neg (fun h => n36 h.1), gI_sI, if_neg (fun h => n36 h.1), tS_b]
            have hw3 : wS s (sI (sI (sI (tS s (gP s k) g a b) 36 9 (Int32.ofNat k)) 36 8 a) 36 3 b) := wS_36 (wS_36 (wS_36 hw2 (by decide) _) (by decide) _) (by decide) _
            obtain ⟨v, v', t, i1, i2, i3, i4, i5, i6⟩ := ih (k + 1) n (sI (sI (sI (tS s (gP s k) g a b) 36 9 (Int32.ofNat k)) 36 8 a) 36 3 b) (by omega) (by omega) (aG_w hw3 ⟨a1, a2, a3, a4⟩) (wS_t hw hw3) (by rw [hst]; simp [gI_sI]) (by rw [hst]; simp [gI_sI]) (by rw [hst]; simp [gI_sI])
            rw [hst] at i1 i2
            have z10 : ¬ (1 : Int32) = 0 := by decide
            refine ⟨v, v', t, ?_, ?_, i3, i4, i5, i6⟩
            · simp only [lp_Laws_weigh_19, mq_let_e, e1, if_false, e2, q1', q2, e39, c2, c3, t1, Option.isSome_some, if_true, z10, n9, r1, r2, e3]
              exact i1
            · simp only [okl_Laws_weigh_19, mq_letP_e, e1, if_false, e2, q1', q2, e39, c2, c3, t1, t2, Option.isSome_some, if_true, z10, n9, r1, r2, e3, b1, hr, bit_of (cl_D_01 hD), true_and]
              exact i2
theorem G_weigh {sub : Int32} {A : aC} (hW : aW A) {s : mS} (hA : aG s A) : wS s (f_Laws_weigh sub s) ∧ ok_Laws_weigh sub s ∧ gI (f_Laws_weigh sub s) 36 9 = (wg_st (c_F (gI s 39)) sub (gI s 39 1) A 4).2.1 ∧ gI (f_Laws_weigh sub s) 36 8 = (wg_st (c_F (gI s 39)) sub (gI s 39 1) A 4).2.2.1 ∧ gI (f_Laws_weigh sub s) 36 3 = (wg_st (c_F (gI s 39)) sub (gI s 39 1) A 4).2.2.2 := by
  have hw : wS s (sI (sI (sI s 36 8 0) 36 9 (-1)) 36 3 0) := wS_36 (wS_36 (wS_36 (wS_r s) (by decide) _) (by decide) _) (by decide) _
  obtain ⟨v, v', t, i1, i2, i3, i4, i5, i6⟩ := G_weigh_lp (sub := sub) hW (s0 := s) 4 0 mm_N (sI (sI (sI s 36 8 0) 36 9 (-1)) 36 3 0) rfl (by rw [mm_Ns]; omega) (aG_w hw hA) hw (by simp [gI_sI, wg_st]) (by simp [gI_sI, wg_st]) (by simp [gI_sI, wg_st])
  have i1 : lp_Laws_weigh_19 sub mm_N (-1) 0 (sI (sI (sI s 36 8 0) 36 9 (-1)) 36 3 0) = _ := i1
  have i2 : okl_Laws_weigh_19 sub mm_N (-1) 0 (sI (sI (sI s 36 8 0) 36 9 (-1)) 36 3 0) := i2
  have e : f_Laws_weigh sub s = t := by
    unfold f_Laws_weigh
    simp only [mq_let_e, i1]
  rw [e]
  refine ⟨i3, ?_, i4, i5, i6⟩
  unfold ok_Laws_weigh
  simp only [mq_letP_e, i2, true_and]
