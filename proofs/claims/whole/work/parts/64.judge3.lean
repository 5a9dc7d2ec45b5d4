/-! THE DUE, the model. -/
def c_N (a : Nat → Int32) (n : Nat) : Int32 := if n = 1 then a 1 else if n = 2 then a 2 else if n = 3 then a 3 else if n = 4 then a 4 else a 5
theorem c_exs_N {F : Nat → Int32} : ∀ {c : List cI} {d d' : Nat} {st : List Int32}, c_hts c d = some d' → c_exs F c st = c_exs (c_N F) c st
  | [], _, _, _, _ => rfl
  | i :: c, d, d', st, h => by
    simp only [c_hts] at h
    obtain ⟨d1, h1, h2⟩ := Option.bind_eq_some_iff.mp h
    have hk := c_ht_k h1
    have e : c_ex F i st = c_ex (c_N F) i st := by
      unfold c_ex
      by_cases q : i.1 < 6
      · rw [if_pos q, if_pos q]
        by_cases q0 : i.1 = 0
        · rw [if_pos q0, if_pos q0]
        · rw [if_neg q0, if_neg q0]
          congr 1
          have : i.1 = 1 ∨ i.1 = 2 ∨ i.1 = 3 ∨ i.1 = 4 ∨ i.1 = 5 := by grind
          rcases this with q | q | q | q | q <;> rw [q] <;> rfl
      · rw [if_neg q, if_neg q]
    simp only [c_exs]
    rw [e]
    exact c_exs_N h2
theorem c_val_N {F : Nat → Int32} {c : List cI} {d' : Nat} (h : c_hts c 0 = some d') : c_val F c = c_val (c_N F) c := by
  unfold c_val
  rw [c_exs_N h]
section
variable {u : mS} {k : Nat}
theorem m24 (k i : Nat) : 24 * Int32.ofNat k + Int32.ofNat i = Int32.ofNat (24 * k + i) := by
  rw [← ofNat_add', ← ofNat_mul']
  rfl
theorem m25 (k i : Nat) : 25 * Int32.ofNat k + Int32.ofNat i = Int32.ofNat (25 * k + i) := by
  rw [← ofNat_add', ← ofNat_mul']
  rfl
theorem M_line_E (hk : k < 4) {i : Nat} {l : cL} (hl : cl_M u k i l) (hw : cl_W l) : ∃ g', f_M_comesTo (Int32.ofNat k) (gI u 160 (25 * k + i)) (gI u 161 (24 * k + i)) u = (cl_V (c_N (gI u 169)) l, sA u 168 g') ∧ ok_M_comesTo (Int32.ofNat k) (gI u 160 (25 * k + i)) (gI u 161 (24 * k + i)) u := by
  obtain ⟨h1, p, q, e, h2, h3, h4, h5, h6, h7, h8, h9⟩ := hl
  obtain ⟨g', e1, e2⟩ := M_val hk h8 h5 (by omega) hw.1
  rw [c_val_N hw.1] at e1
  rw [h2, h3]
  exact ⟨g', e1, e2⟩
/-- whether a line tells -/
theorem M_tells (hk : k < 4) {i : Nat} (hi : i < 24) (sub : Int32) {l : cL} (hl : cl_M u k i l) (hw : cl_W l) : ∃ g', (cl_T (c_N (gI u 169)) sub l → f_M_tells (Int32.ofNat k) (Int32.ofNat i) sub u = (1, sA u 168 g')) ∧ (¬ cl_T (c_N (gI u 169)) sub l → f_M_tells (Int32.ofNat k) (Int32.ofNat i) sub u = (0, sA u 168 g')) ∧ ok_M_tells (Int32.ofNat k) (Int32.ofNat i) sub u := by
  obtain ⟨h1, p, q, e, h2, h3, h4, h5, h6, h7, h8, h9⟩ := hl
  have x1 : ix (24 * Int32.ofNat k + Int32.ofNat i) = 24 * k + i := by rw [m24, ix_ofNat (by omega)]
  have x2 : ix (25 * Int32.ofNat k + Int32.ofNat i + 1) = 25 * k + i + 1 := by rw [m25, ofNat_succ, ix_ofNat (by omega)]
  have b1 : mm_inb (24 * Int32.ofNat k + Int32.ofNat i) 96 = true := by rw [m24]; exact inb_ofNat (by decide) (by omega)
  have b2 : mm_inb (25 * Int32.ofNat k + Int32.ofNat i + 1) 100 = true := by rw [m25, ofNat_succ]; exact inb_ofNat (by decide) (by omega)
  have free : (Int32.ofNat q = Int32.ofNat e) ↔ l.2.2 = [] := by
    rw [ofNat_e (by omega) (by omega)]
    constructor
    · intro h
      exact List.eq_nil_of_length_eq_zero (by omega)
    · intro h
      rw [h] at h6
      simp only [List.length_nil] at h6
      omega
  by_cases c1 : l.1 = sub
  · by_cases cB : l.2.2 = []
    · refine ⟨gI u 168, fun _ => ?_, fun h => absurd ⟨c1, Or.inl cB⟩ h, ?_⟩
      · rw [sA_id]
        unfold f_M_tells
        simp only [x1, x2, h1, c1, if_true, h3, h4, free.mpr cB]
      · unfold ok_M_tells
        simp only [x1, x2, h1, c1, if_true, h3, h4, free.mpr cB, b1, b2, and_self]
    · have hnf : ¬ Int32.ofNat q = Int32.ofNat e := fun h => cB (free.mp h)
      have hwB : c_hts l.2.2 0 = some 1 ∧ ∀ F, c_val F l.2.2 = 0 ∨ c_val F l.2.2 = 1 := by
        rcases hw.2 with h | h
        · exact absurd h cB
        · exact h
      obtain ⟨g', e1, e2⟩ := M_val hk h9 h6 (by omega) hwB.1
      rw [c_val_N hwB.1] at e1
      refine ⟨g', fun h => ?_, fun h => ?_, ?_⟩
      · have hv : c_val (c_N (gI u 169)) l.2.2 = 1 := h.2.resolve_left cB
        unfold f_M_tells
        simp only [mq_let_e, x1, x2, h1, c1, if_true, h3, h4, hnf, if_false, e1, hv]
      · have hv : ¬ c_val (c_N (gI u 169)) l.2.2 = 1 := fun q => h ⟨c1, Or.inr q⟩
        unfold f_M_tells
        simp only [mq_let_e, x1, x2, h1, c1, if_true, h3, h4, hnf, if_false, e1, hv]
      · unfold ok_M_tells
        simp only [mq_letP_e, x1, x2, h1, c1, if_true, h3, h4, hnf, if_false, b1, b2, e2, and_self]
  · refine ⟨gI u 168, fun h => absurd h.1 c1, fun _ => ?_, ?_⟩
    · rw [sA_id]
      unfold f_M_tells
      simp only [x1, h1, c1, if_false]
    · unfold ok_M_tells
      simp only [x1, h1, c1, if_false, b1, and_self]
end
/-- the model's state as it asks its acts -/
def uS (u : mS) (g : Nat → Int32) (t q a : Int32) : mS := sI (sI (sI (sA u 168 g) 116 91 t) 116 92 q) 116 93 a
section
variable {u : mS}
theorem uS_f {g : Nat → Int32} {t q a : Int32} {c : Nat} (h1 : c ≠ 168) (h2 : c ≠ 116) : gI (uS u g t q a) c = gI u c := by
  unfold uS
  simp only [fI_sI, fI_sA, if_neg h1, if_neg h2]
theorem uS_g {g : Nat → Int32} {t q a : Int32} {c j : Nat} (h1 : c ≠ 168) (h2 : c ≠ 116 ∨ (j ≠ 91 ∧ j ≠ 92 ∧ j ≠ 93)) : gI (uS u g t q a) c j = gI u c j := by
  unfold uS
  rw [gI_sI, if_neg (by omega), gI_sI, if_neg (by omega), gI_sI, if_neg (by omega), gI_sA, if_neg h1]
theorem uS_168 {g : Nat → Int32} {t q a : Int32} (g' : Nat → Int32) : sA (uS u g t q a) 168 g' = uS u g' t q a := by
  unfold uS
  rw [← sI_sA_ne _ _ _ _ _ _ (by decide : (116 : Nat) ≠ 168), ← sI_sA_ne _ _ _ _ _ _ (by decide : (116 : Nat) ≠ 168), ← sI_sA_ne _ _ _ _ _ _ (by decide : (116 : Nat) ≠ 168), sA_sA]
theorem sI_comm (s : mS) (c i j : Nat) (x y : Int32) (h : i ≠ j) : sI (sI s c i x) c j y = sI (sI s c j y) c i x := by
  unfold sI
  congr 1
  funext a b
  by_cases h1 : a = c
  · subst h1
    by_cases h2 : b = i
    · subst h2
      simp [h]
    · simp [h2]
  · simp [h1]
theorem uS_91 {g : Nat → Int32} {t q a : Int32} (x : Int32) : sI (uS u g t q a) 116 91 x = uS u g x q a := by
  unfold uS
  rw [sI_comm _ _ 93 91 _ _ (by decide), sI_comm _ _ 92 91 _ _ (by decide), sI_sI]
theorem uS_92 {g : Nat → Int32} {t q a : Int32} (x : Int32) : sI (uS u g t q a) 116 92 x = uS u g t x a := by
  unfold uS
  rw [sI_comm _ _ 93 92 _ _ (by decide), sI_sI]
theorem uS_93 {g : Nat → Int32} {t q a : Int32} (x : Int32) : sI (uS u g t q a) 116 93 x = uS u g t q x := by
  unfold uS
  rw [sI_sI]
theorem uS_a {g : Nat → Int32} {t q a : Int32} : gI (uS u g t q a) 116 93 = a := by
  unfold uS
  simp [gI_sI]
theorem uS_q {g : Nat → Int32} {t q a : Int32} : gI (uS u g t q a) 116 92 = q := by
  unfold uS
  simp [gI_sI]
theorem uS_t {g : Nat → Int32} {t q a : Int32} : gI (uS u g t q a) 116 91 = t := by
  unfold uS
  simp [gI_sI]
theorem cl_M_u {g : Nat → Int32} {t q a : Int32} {k i : Nat} {l : cL} (h : cl_M u k i l) : cl_M (uS u g t q a) k i l := by
  unfold cl_M at h ⊢
  rw [uS_f (by decide) (by decide), uS_f (by decide) (by decide), uS_f (by decide) (by decide), uS_f (by decide) (by decide)]
  exact h
theorem uS_id : u = uS u (gI u 168) (gI u 116 91) (gI u 116 92) (gI u 116 93) := by
  unfold uS
  rw [sA_id, sI_id, sI_id, sI_id]
end
def aM (u : mS) (A : aC) : Prop := (∀ k, k < 4 → A k = none → gI u 157 k = -1) ∧ ∀ k, k < 4 → ∀ d Ls, A k = some (d, Ls) → gI u 157 k = d ∧ gI u 158 k = Int32.ofNat Ls.length ∧ cl_Ms u k 0 Ls
theorem cl_Ms_get {u : mS} {k : Nat} : ∀ {R : List cL} {i j : Nat} {l : cL}, cl_Ms u k i R → R[j]? = some l → cl_M u k (i + j) l
  | [], _, _, _, _, h => by simp at h
  | m :: R, i, 0, l, h, h2 => by
    simp at h2
    rw [← h2]
    exact h.1
  | m :: R, i, j + 1, l, h, h2 => by
    have := cl_Ms_get (R := R) (i := i + 1) (j := j) h.2 (by simpa using h2)
    rw [show i + (j + 1) = i + 1 + j by omega]
    exact this
/-- up to the first line that tells -/
theorem M_first {u : mS} {k : Nat} (hk : k < 4) {sub a2 a5 : Int32} {L : Nat} (hL : gI u 158 k = Int32.ofNat L) (h24 : L ≤ 24) : ∀ (R : List cL) (i n : Nat) (g : Nat → Int32) (t q a : Int32), i + R.length = L → R.length < n → cl_Ms u k i R → (∀ l ∈ R, cl_W l) →
    ∃ j g', lp_M_dueOf_111 sub a2 a5 (Int32.ofNat k) n (Int32.ofNat i) (uS u g t q a) = (Int32.ofNat j, uS u g' t q a) ∧ okl_M_dueOf_111 sub a2 a5 (Int32.ofNat k) n (Int32.ofNat i) (uS u g t q a) ∧ ((j = L ∧ cl_D (c_N (gI u 169)) sub R = none) ∨ (j < L ∧ ∃ l R2, cl_M u k j l ∧ cl_Ms u k (j + 1) R2 ∧ j + 1 + R2.length = L ∧ cl_T (c_N (gI u 169)) sub l ∧ cl_W l ∧ (∀ m ∈ R2, cl_W m) ∧ cl_D (c_N (gI u 169)) sub R = cl_D (c_N (gI u 169)) sub (l :: R2))) := by
  intro R
  induction R with
  | nil =>
    intro i n g t q a hi hn _ _
    simp only [List.length_nil] at hi hn
    have : i = L := by omega
    subst this
    match n, hn with
    | n + 1, _ =>
      have e0 : ix (Int32.ofNat k) = k := ix_ofNat (by omega)
      have e1 : gI (uS u g t q a) 158 k ≤ Int32.ofNat i := by
        rw [uS_f (by decide) (by decide)]
        exact fl_lit' hL
      have b1 : mm_inb (Int32.ofNat k) 4 = true := inb_ofNat (by decide) hk
      refine ⟨i, g, ?_, ?_, Or.inl ⟨rfl, rfl⟩⟩
      · simp only [lp_M_dueOf_111, e0, e1, if_true]
      · simp only [okl_M_dueOf_111, e0, e1, if_true, b1, and_self]
  | cons l R ih =>
    intro i n g t q a hi hn hls hws
    simp only [List.length_cons] at hi hn
    match n, hn with
    | n + 1, hn =>
      have e0 : ix (Int32.ofNat k) = k := ix_ofNat (by omega)
      have e1 : ¬ gI (uS u g t q a) 158 k ≤ Int32.ofNat i := by
        rw [uS_f (by decide) (by decide)]
        exact fl_lit hL (by omega) (by omega) (by omega)
      have b1 : mm_inb (Int32.ofNat k) 4 = true := inb_ofNat (by decide) hk
      have z10 : ¬ (1 : Int32) = 0 := by decide
      obtain ⟨g1, t1, t2, t3⟩ := M_tells hk (u := uS u g t q a) (by omega : i < 24) sub (cl_M_u hls.1) (hws l List.mem_cons_self)
      rw [uS_f (by decide) (by decide), uS_168] at t1 t2
      by_cases hT : cl_T (c_N (gI u 169)) sub l
      · have t1 := t1 hT
        refine ⟨i, g1, ?_, ?_, Or.inr ⟨by omega, l, R, hls.1, hls.2, by omega, hT, hws l List.mem_cons_self, fun m hm => hws m (List.mem_cons_of_mem _ hm), rfl⟩⟩
        · simp only [lp_M_dueOf_111, mq_let_e, e0, e1, if_false, t1, z10]
        · simp only [okl_M_dueOf_111, mq_letP_e, e0, e1, if_false, t1, t3, z10, b1, true_and]
      · have t2 := t2 hT
        obtain ⟨j, g2, i1, i2, i3⟩ := ih (i + 1) n g1 t q a (by omega) (by omega) hls.2 (fun m hm => hws m (List.mem_cons_of_mem _ hm))
        refine ⟨j, g2, ?_, ?_, ?_⟩
        · simp only [lp_M_dueOf_111, mq_let_e, e0, e1, if_false, t2, if_true, ofNat_succ]
          exact i1
        · simp only [okl_M_dueOf_111, mq_letP_e, e0, e1, if_false, t2, t3, if_true, b1, true_and, ofNat_succ]
          exact i2
        · rw [cl_D_f hT]
          exact i3
/-- whether a later line tells another number -/
theorem M_later {u : mS} {k : Nat} (hk : k < 4) {sub a2 v : Int32} {L : Nat} (hL : gI u 158 k = Int32.ofNat L) (h24 : L ≤ 24) : ∀ (R : List cL) (i n : Nat) (g : Nat → Int32) (t q a : Int32), i + R.length = L → R.length < n → cl_Ms u k i R → (∀ l ∈ R, cl_W l) → (q = 0 ∨ q = 1) →
    ∃ j g' q', lp_M_dueOf_212 sub a2 v (Int32.ofNat k) n (Int32.ofNat i) (uS u g t q a) = (j, uS u g' t q' a) ∧ okl_M_dueOf_212 sub a2 v (Int32.ofNat k) n (Int32.ofNat i) (uS u g t q a) ∧ (q' = 0 ∨ q' = 1) ∧ (q' = 1 ↔ q = 1 ∨ cl_Q (c_N (gI u 169)) sub v R) := by
  intro R
  induction R with
  | nil =>
    intro i n g t q a hi hn _ _ hq
    simp only [List.length_nil] at hi hn
    have : i = L := by omega
    subst this
    match n, hn with
    | n + 1, _ =>
      have e0 : ix (Int32.ofNat k) = k := ix_ofNat (by omega)
      have e1 : gI (uS u g t q a) 158 k ≤ Int32.ofNat i := by
        rw [uS_f (by decide) (by decide)]
        exact fl_lit' hL
      have b1 : mm_inb (Int32.ofNat k) 4 = true := inb_ofNat (by decide) hk
      refine ⟨Int32.ofNat i, g, q, ?_, ?_, hq, ?_⟩
      · simp only [lp_M_dueOf_212, e0, e1, if_true]
      · simp only [okl_M_dueOf_212, e0, e1, if_true, b1, and_self]
      · simp [cl_Q_nil]
  | cons l R ih =>
    intro i n g t q a hi hn hls hws hq
    simp only [List.length_cons] at hi hn
    match n, hn with
    | n + 1, hn =>
      have e0 : ix (Int32.ofNat k) = k := ix_ofNat (by omega)
      have e1 : ¬ gI (uS u g t q a) 158 k ≤ Int32.ofNat i := by
        rw [uS_f (by decide) (by decide)]
        exact fl_lit hL (by omega) (by omega) (by omega)
      have b1 : mm_inb (Int32.ofNat k) 4 = true := inb_ofNat (by decide) hk
      have z10 : ¬ (1 : Int32) = 0 := by decide
      rcases hq with hq | hq
      · subst hq
        obtain ⟨g1, t1, t2, t3⟩ := M_tells hk (u := uS u g t 0 a) (by omega : i < 24) sub (cl_M_u hls.1) (hws l List.mem_cons_self)
        rw [uS_f (by decide) (by decide), uS_168] at t1 t2
        by_cases hT : cl_T (c_N (gI u 169)) sub l
        · have t1 := t1 hT
          have x1 : ix (25 * Int32.ofNat k + Int32.ofNat i) = 25 * k + i := by rw [m25, ix_ofNat (by omega)]
          have x2 : ix (24 * Int32.ofNat k + Int32.ofNat i) = 24 * k + i := by rw [m24, ix_ofNat (by omega)]
          have b2 : mm_inb (25 * Int32.ofNat k + Int32.ofNat i) 100 = true := by rw [m25]; exact inb_ofNat (by decide) (by omega)
          have b3 : mm_inb (24 * Int32.ofNat k + Int32.ofNat i) 96 = true := by rw [m24]; exact inb_ofNat (by decide) (by omega)
          obtain ⟨g2, y1, y2⟩ := M_line_E hk (u := uS u g1 t 0 a) (cl_M_u hls.1) (hws l List.mem_cons_self)
          rw [uS_f (c := 169) (by decide) (by decide), uS_168] at y1
          by_cases hV : cl_V (c_N (gI u 169)) l = v
          · obtain ⟨j, g3, q3, i1, i2, i3, i4⟩ := ih (i + 1) n g2 t 0 a (by omega) (by omega) hls.2 (fun m hm => hws m (List.mem_cons_of_mem _ hm)) (Or.inl rfl)
            refine ⟨j, g3, q3, ?_, ?_, i3, ?_⟩
            · simp only [lp_M_dueOf_212, mq_let_e, e0, e1, if_false, uS_q, if_true, t1, z10, x1, x2, y1, hV, uS_92, ofNat_succ]
              exact i1
            · simp only [okl_M_dueOf_212, mq_let_e, mq_letP_e, e0, e1, if_false, uS_q, if_true, t1, t3, z10, x1, x2, y1, y2, hV, uS_92, b1, b2, b3, bit0, true_and, and_true, ofNat_succ]
              exact i2
            · rw [i4, cl_Q_cons]
              simp [hV]
          · obtain ⟨j, g3, q3, i1, i2, i3, i4⟩ := ih (i + 1) n g2 t 1 a (by omega) (by omega) hls.2 (fun m hm => hws m (List.mem_cons_of_mem _ hm)) (Or.inr rfl)
            refine ⟨j, g3, q3, ?_, ?_, i3, ?_⟩
            · simp only [lp_M_dueOf_212, mq_let_e, e0, e1, if_false, uS_q, if_true, t1, z10, x1, x2, y1, hV, uS_92, ofNat_succ]
              exact i1
            · simp only [okl_M_dueOf_212, mq_let_e, mq_letP_e, e0, e1, if_false, uS_q, if_true, t1, t3, z10, x1, x2, y1, y2, hV, uS_92, b1, b2, b3, bit1, true_and, and_true, ofNat_succ]
              exact i2
            · rw [i4, cl_Q_cons]
              simp [hV, hT]
        · have t2 := t2 hT
          obtain ⟨j, g3, q3, i1, i2, i3, i4⟩ := ih (i + 1) n g1 t 0 a (by omega) (by omega) hls.2 (fun m hm => hws m (List.mem_cons_of_mem _ hm)) (Or.inl rfl)
          refine ⟨j, g3, q3, ?_, ?_, i3, ?_⟩
          · simp only [lp_M_dueOf_212, mq_let_e, e0, e1, if_false, uS_q, if_true, t2, uS_92, ofNat_succ]
            exact i1
          · simp only [okl_M_dueOf_212, mq_let_e, mq_letP_e, e0, e1, if_false, uS_q, if_true, t2, t3, uS_92, b1, bit0, true_and, and_true, ofNat_succ]
            exact i2
          · rw [i4, cl_Q_cons]
            simp [hT]
      · subst hq
        obtain ⟨j, g3, q3, i1, i2, i3, i4⟩ := ih (i + 1) n g t 1 a (by omega) (by omega) hls.2 (fun m hm => hws m (List.mem_cons_of_mem _ hm)) (Or.inr rfl)
        refine ⟨j, g3, q3, ?_, ?_, i3, ?_⟩
        · simp only [lp_M_dueOf_212, mq_let_e, e0, e1, if_false, uS_q, z10, uS_92, ofNat_succ]
          exact i1
        · simp only [okl_M_dueOf_212, mq_let_e, mq_letP_e, e0, e1, if_false, uS_q, z10, uS_92, b1, bit1, true_and, ofNat_succ]
          exact i2
        · rw [i4]
          simp
theorem M_due_lp {sub a2 : Int32} {A : aC} (hW : aW A) {u : mS} (hA : aM u A) : ∀ r k n (g : Nat → Int32) (t q : Int32), k + r = 4 → r < n →
    t = (if (wg_st (c_N (gI u 169)) sub (a2 / 96) A k).2.1 = -1 then 0 else 1) → q = (wg_st (c_N (gI u 169)) sub (a2 / 96) A k).2.2.2 →
    ((wg_st (c_N (gI u 169)) sub (a2 / 96) A k).2.1 = -1 ∧ (wg_st (c_N (gI u 169)) sub (a2 / 96) A k).1 = -1 ∨ ∃ m, m < k ∧ (wg_st (c_N (gI u 169)) sub (a2 / 96) A k).2.1 = Int32.ofNat m ∧ gI u 157 m = (wg_st (c_N (gI u 169)) sub (a2 / 96) A k).1) →
    ∃ v' g', lp_M_dueOf_47 sub a2 n (wg_st (c_N (gI u 169)) sub (a2 / 96) A k).2.2.1 (Int32.ofNat k) (uS u g t q (wg_st (c_N (gI u 169)) sub (a2 / 96) A k).2.1) = ((wg_st (c_N (gI u 169)) sub (a2 / 96) A 4).2.2.1, v', uS u g' (if (wg_st (c_N (gI u 169)) sub (a2 / 96) A 4).2.1 = -1 then 0 else 1) (wg_st (c_N (gI u 169)) sub (a2 / 96) A 4).2.2.2 (wg_st (c_N (gI u 169)) sub (a2 / 96) A 4).2.1) ∧ okl_M_dueOf_47 sub a2 n (wg_st (c_N (gI u 169)) sub (a2 / 96) A k).2.2.1 (Int32.ofNat k) (uS u g t q (wg_st (c_N (gI u 169)) sub (a2 / 96) A k).2.1) := by
  intro r
  induction r with
  | zero =>
    intro k n g t q hk hn ht hq _
    have : k = 4 := by omega
    subst this
    match n, hn with
    | n + 1, _ =>
      have e1 : (4 : Int32) ≤ Int32.ofNat 4 := by decide
      refine ⟨Int32.ofNat 4, g, ?_, ?_⟩
      · simp only [lp_M_dueOf_47, e1, if_true, ht, hq]
      · simp only [okl_M_dueOf_47, e1, if_true]
  | succ r ih =>
    intro k n g t q hk hn ht hq hm
    match n, hn with
    | n + 1, hn =>
      have e1 : ¬ (4 : Int32) ≤ Int32.ofNat k := fl_lit (a := 4) rfl (by omega) (by omega) (by omega)
      have e2 : ix (Int32.ofNat k) = k := ix_ofNat (by omega)
      have e3 : Int32.ofNat k + 1 = Int32.ofNat (k + 1) := ofNat_succ k
      have b1 : mm_inb (Int32.ofNat k) 4 = true := inb_ofNat (by decide) (by omega)
      obtain ⟨a1, a4⟩ := hA
      have f157 : ∀ g t q a j, gI (uS u g t q a) 157 j = gI u 157 j := fun g t q a j => uS_g (by decide) (Or.inl (by decide))
      have f158 : ∀ g t q a j, gI (uS u g t q a) 158 j = gI u 158 j := fun g t q a j => uS_g (by decide) (Or.inl (by decide))
      have f160 : ∀ g t q a j, gI (uS u g t q a) 160 j = gI u 160 j := fun g t q a j => uS_g (by decide) (Or.inl (by decide))
      have f161 : ∀ g t q a j, gI (uS u g t q a) 161 j = gI u 161 j := fun g t q a j => uS_g (by decide) (Or.inl (by decide))
      have skip : wg_st (c_N (gI u 169)) sub (a2 / 96) A (k + 1) = wg_st (c_N (gI u 169)) sub (a2 / 96) A k → ∀ g', ∃ v' g'', lp_M_dueOf_47 sub a2 n (wg_st (c_N (gI u 169)) sub (a2 / 96) A k).2.2.1 (Int32.ofNat (k + 1)) (uS u g' t q (wg_st (c_N (gI u 169)) sub (a2 / 96) A k).2.1) = ((wg_st (c_N (gI u 169)) sub (a2 / 96) A 4).2.2.1, v', uS u g'' (if (wg_st (c_N (gI u 169)) sub (a2 / 96) A 4).2.1 = -1 then 0 else 1) (wg_st (c_N (gI u 169)) sub (a2 / 96) A 4).2.2.2 (wg_st (c_N (gI u 169)) sub (a2 / 96) A 4).2.1) ∧ okl_M_dueOf_47 sub a2 n (wg_st (c_N (gI u 169)) sub (a2 / 96) A k).2.2.1 (Int32.ofNat (k + 1)) (uS u g' t q (wg_st (c_N (gI u 169)) sub (a2 / 96) A k).2.1) := by
        intro hst g'
        have I := ih (k + 1) n g' t q (by omega) (by omega) (by rw [hst]; exact ht) (by rw [hst]; exact hq) (by
          rw [hst]
          rcases hm with h | ⟨m, h1, h2⟩
          · exact Or.inl h
          · exact Or.inr ⟨m, by omega, h2⟩)
        rw [hst] at I
        exact I
      cases hk' : A k with
      | none =>
        have hst : wg_st (c_N (gI u 169)) sub (a2 / 96) A (k + 1) = wg_st (c_N (gI u 169)) sub (a2 / 96) A k := by
          show (match A k with | none => _ | some (d, Ls) => _) = _
          rw [hk']
        have e4 := a1 k (by omega) hk'
        obtain ⟨v', g', i1, i2⟩ := skip hst g
        refine ⟨v', g', ?_, ?_⟩
        · simp only [lp_M_dueOf_47, mq_let_e, e1, if_false, e2, f157, e4, if_true, e3]
          exact i1
        · simp only [okl_M_dueOf_47, mq_letP_e, e1, if_false, e2, f157, e4, if_true, e3, b1, true_and]
          exact i2
      | some dl =>
        obtain ⟨d, Ls⟩ := dl
        obtain ⟨q1, q3, q4⟩ := a4 k (by omega) d Ls hk'
        obtain ⟨w0, w1, w2, w3⟩ := hW k (by omega) d Ls hk'
        have q1' : ¬ d = -1 := by grind
        by_cases c1 : a2 / 96 < d ∨ d < (wg_st (c_N (gI u 169)) sub (a2 / 96) A k).1
        · have hst : wg_st (c_N (gI u 169)) sub (a2 / 96) A (k + 1) = wg_st (c_N (gI u 169)) sub (a2 / 96) A k := by
            show (match A k with | none => _ | some (d, Ls) => _) = _
            rw [hk']
            exact if_pos c1
          obtain ⟨v', g', i1, i2⟩ := skip hst g
          by_cases c2 : a2 / 96 < d
          · refine ⟨v', g', ?_, ?_⟩
            · simp only [lp_M_dueOf_47, mq_let_e, e1, if_false, e2, f157, q1, q1', c2, if_true, e3]
              exact i1
            · simp only [okl_M_dueOf_47, mq_letP_e, e1, if_false, e2, f157, q1, q1', c2, if_true, e3, b1, true_and]
              exact i2
          · have c3 := c1.resolve_left c2
            rcases hm with ⟨h1, h2⟩ | ⟨m, h0, h1, h2⟩
            · exfalso
              rw [h2] at c3
              grind
            · have hm1 : ¬ Int32.ofNat m = -1 := by
                intro h
                have := (ofNat_le (a := 0) (b := m) (by omega) (by omega)).mpr (by omega)
                rw [h] at this
                exact absurd this (by decide)
              have e5 : ix (Int32.ofNat m) = m := ix_ofNat (by omega)
              have b2 : mm_inb (Int32.ofNat m) 4 = true := inb_ofNat (by decide) (by omega)
              have c4 : ¬ (wg_st (c_N (gI u 169)) sub (a2 / 96) A k).1 ≤ d := Int32.not_le.mpr c3
              refine ⟨v', g', ?_, ?_⟩
              · simp only [lp_M_dueOf_47, mq_let_e, e1, if_false, e2, f157, q1, q1', c2, uS_a, e3]
                rw [h1] at i1 ⊢
                simp only [hm1, if_false, e5, h2, c4]
                exact i1
              · simp only [okl_M_dueOf_47, mq_letP_e, e1, if_false, e2, f157, q1, q1', c2, uS_a, e3, b1, true_and]
                rw [h1] at i2 ⊢
                simp only [hm1, if_false, e5, h2, c4, b2, true_and]
                exact i2
        · have c2 : ¬ a2 / 96 < d := fun h => c1 (Or.inl h)
          have c3 : ¬ d < (wg_st (c_N (gI u 169)) sub (a2 / 96) A k).1 := fun h => c1 (Or.inr h)
          have c4 : (wg_st (c_N (gI u 169)) sub (a2 / 96) A k).1 ≤ d := Int32.not_lt.mp c3
          -- both ways into the act's lines are one
          obtain ⟨j, g1, f1, f2, f3⟩ := M_first (sub := sub) (a2 := a2) (a5 := (wg_st (c_N (gI u 169)) sub (a2 / 96) A k).2.2.1) (by omega : k < 4) q3 w2 Ls 0 mm_N g t q (wg_st (c_N (gI u 169)) sub (a2 / 96) A k).2.1 (by omega) (by rw [mm_Ns]; omega) q4 w3
          have f1 : lp_M_dueOf_111 sub a2 (wg_st (c_N (gI u 169)) sub (a2 / 96) A k).2.2.1 (Int32.ofNat k) mm_N 0 _ = _ := f1
          have f2 : okl_M_dueOf_111 sub a2 (wg_st (c_N (gI u 169)) sub (a2 / 96) A k).2.2.1 (Int32.ofNat k) mm_N 0 _ := f2
          rcases f3 with ⟨rfl, hD⟩ | ⟨hj, l, R2, hl, hR2, hlen, hT, hlw, hRw, hD⟩
          · have hst : wg_st (c_N (gI u 169)) sub (a2 / 96) A (k + 1) = wg_st (c_N (gI u 169)) sub (a2 / 96) A k := by
              show (match A k with | none => _ | some (d, Ls) => _) = _
              rw [hk']
              show (if _ then _ else _) = _
              rw [if_neg c1, hD]
            obtain ⟨v', g', i1, i2⟩ := skip hst g1
            rcases hm with ⟨h1, h2⟩ | ⟨m, h0, h1, h2⟩
            · refine ⟨v', g', ?_, ?_⟩
              · simp only [lp_M_dueOf_47, mq_let_e, e1, if_false, e2, f157, f158, q1, q1', c2, uS_a, f1, q3, e3]
                rw [h1] at i1 ⊢
                simp only [if_true]
                exact i1
              · simp only [okl_M_dueOf_47, mq_letP_e, e1, if_false, e2, f157, f158, q1, q1', c2, uS_a, f1, f2, q3, e3, b1, true_and]
                rw [h1] at i2 ⊢
                simp only [if_true]
                exact i2
            · have hm1 : ¬ Int32.ofNat m = -1 := by
                intro h
                have := (ofNat_le (a := 0) (b := m) (by omega) (by omega)).mpr (by omega)
                rw [h] at this
                exact absurd this (by decide)
              have e5 : ix (Int32.ofNat m) = m := ix_ofNat (by omega)
              have b2 : mm_inb (Int32.ofNat m) 4 = true := inb_ofNat (by decide) (by omega)
              refine ⟨v', g', ?_, ?_⟩
              · simp only [lp_M_dueOf_47, mq_let_e, e1, if_false, e2, f157, f158, q1, q1', c2, uS_a, f1, q3, e3]
                rw [h1] at i1 ⊢
                simp only [hm1, if_false, e5, h2, c4, if_true]
                exact i1
              · simp only [okl_M_dueOf_47, mq_letP_e, e1, if_false, e2, f157, f158, q1, q1', c2, uS_a, f1, f2, q3, e3, b1, true_and]
                rw [h1] at i2 ⊢
                simp only [hm1, if_false, e5, h2, c4, b2, if_true, true_and]
                exact i2
          · obtain ⟨qq, d1, d2, d3⟩ := cl_D_t (R := R2) hT
            have hst : wg_st (c_N (gI u 169)) sub (a2 / 96) A (k + 1) = (d, Int32.ofNat k, cl_V (c_N (gI u 169)) l, qq) := by
              show (match A k with | none => _ | some (d, Ls) => _) = _
              rw [hk']
              show (if _ then _ else _) = _
              rw [if_neg c1, hD, d1]
            have hk1 : ¬ Int32.ofNat k = -1 := by
              intro h
              have := (ofNat_le (a := 0) (b := k) (by omega) (by omega)).mpr (by omega)
              rw [h] at this
              exact absurd this (by decide)
            have hjL : ¬ Int32.ofNat j = Int32.ofNat Ls.length := by
              rw [ofNat_e (by omega) (by omega)]
              omega
            have x1 : ix (25 * Int32.ofNat k + Int32.ofNat j) = 25 * k + j := by rw [m25, ix_ofNat (by omega)]
            have x2 : ix (24 * Int32.ofNat k + Int32.ofNat j) = 24 * k + j := by rw [m24, ix_ofNat (by omega)]
            have b5 : mm_inb (25 * Int32.ofNat k + Int32.ofNat j) 100 = true := by rw [m25]; exact inb_ofNat (by decide) (by omega)
            have b6 : mm_inb (24 * Int32.ofNat k + Int32.ofNat j) 96 = true := by rw [m24]; exact inb_ofNat (by decide) (by omega)
            obtain ⟨g2, y1, y2⟩ := M_line_E (by omega : k < 4) (u := uS u g1 1 q (Int32.ofNat k)) (cl_M_u hl) hlw
            rw [uS_f (c := 169) (by decide) (by decide), uS_168, f160, f161] at y1
            rw [f160, f161] at y2
            obtain ⟨jj, g3, q3', l1, l2, l3, l4⟩ := M_later (a2 := a2) (sub := sub) (v := cl_V (c_N (gI u 169)) l) (by omega : k < 4) q3 w2 R2 (j + 1) mm_N g2 1 0 (Int32.ofNat k) hlen (by rw [mm_Ns]; omega) hR2 hRw (Or.inl rfl)
            have hqq : q3' = qq := by
              have l4' : q3' = 1 ↔ qq = 1 := by
                rw [l4, d3]
                constructor
                · rintro (h | h)
                  · exact absurd h (by decide)
                  · exact h
                · exact Or.inr
              rcases l3 with z | z <;> rcases d2 with z2 | z2
              · rw [z, z2]
              · exfalso
                have := l4'.mpr z2
                rw [z] at this
                exact absurd this (by decide)
              · exfalso
                have := l4'.mp z
                rw [z2] at this
                exact absurd this (by decide)
              · rw [z, z2]
            rw [hqq] at l1
            have I := ih (k + 1) n g3 1 qq (by omega) (by omega) (by rw [hst, if_neg hk1]) (by rw [hst]) (by
              rw [hst]
              exact Or.inr ⟨k, by omega, rfl, q1⟩)
            rw [hst] at I
            obtain ⟨v', g', i1, i2⟩ := I
            rcases hm with ⟨h1, h2⟩ | ⟨m, h0, h1, h2⟩
            · refine ⟨v', g', ?_, ?_⟩
              · simp only [lp_M_dueOf_47, mq_let_e, e1, if_false, e2, f157, f158, f160, f161, q1, q1', c2, uS_a, f1, q3, hjL, e3, x1, x2, uS_93, uS_91, uS_92, y1, ofNat_succ, l1]
                simp only [h1, if_true]
                exact i1
              · simp only [okl_M_dueOf_47, mq_letP_e, e1, if_false, e2, f157, f158, f160, f161, q1, q1', c2, uS_a, f1, f2, q3, hjL, e3, x1, x2, uS_93, uS_91, uS_92, y1, y2, ofNat_succ, l1, l2, b1, b5, b6, true_and]
                simp only [h1, if_true]
                exact i2
            · have hm1 : ¬ Int32.ofNat m = -1 := by
                intro h
                have := (ofNat_le (a := 0) (b := m) (by omega) (by omega)).mpr (by omega)
                rw [h] at this
                exact absurd this (by decide)
              have e5 : ix (Int32.ofNat m) = m := ix_ofNat (by omega)
              have b2 : mm_inb (Int32.ofNat m) 4 = true := inb_ofNat (by decide) (by omega)
              refine ⟨v', g', ?_, ?_⟩
              · simp only [lp_M_dueOf_47, mq_let_e, e1, if_false, e2, f157, f158, f160, f161, q1, q1', c2, uS_a, f1, q3, hjL, e3, x1, x2, uS_93, uS_91, uS_92, y1, ofNat_succ, l1]
                simp only [h1, hm1, if_false, e5, h2, c4, if_true]
                exact i1
              · simp only [okl_M_dueOf_47, mq_letP_e, e1, if_false, e2, f157, f158, f160, f161, q1, q1', c2, uS_a, f1, f2, q3, hjL, e3, x1, x2, uS_93, uS_91, uS_92, y1, y2, ofNat_succ, l1, l2, b1, b5, b6, true_and]
                simp only [h1, hm1, if_false, e5, h2, c4, b2, if_true, true_and]
                exact i2
/-- up to the first line that tells -/
theorem M_first2 {u : mS} {k : Nat} (hk : k < 4) {sub a2 a5 : Int32} {L : Nat} (hL : gI u 158 k = Int32.ofNat L) (h24 : L ≤ 24) : ∀ (R : List cL) (i n : Nat) (g : Nat → Int32) (t q a : Int32), i + R.length = L → R.length < n → cl_Ms u k i R → (∀ l ∈ R, cl_W l) →
    ∃ j g', lp_M_dueOf_2_111 sub a2 a5 (Int32.ofNat k) n (Int32.ofNat i) (uS u g t q a) = (Int32.ofNat j, uS u g' t q a) ∧ okl_M_dueOf_2_111 sub a2 a5 (Int32.ofNat k) n (Int32.ofNat i) (uS u g t q a) ∧ ((j = L ∧ cl_D (c_N (gI u 169)) sub R = none) ∨ (j < L ∧ ∃ l R2, cl_M u k j l ∧ cl_Ms u k (j + 1) R2 ∧ j + 1 + R2.length = L ∧ cl_T (c_N (gI u 169)) sub l ∧ cl_W l ∧ (∀ m ∈ R2, cl_W m) ∧ cl_D (c_N (gI u 169)) sub R = cl_D (c_N (gI u 169)) sub (l :: R2))) := by
  intro R
  induction R with
  | nil =>
    intro i n g t q a hi hn _ _
    simp only [List.length_nil] at hi hn
    have : i = L := by omega
    subst this
    match n, hn with
    | n + 1, _ =>
      have e0 : ix (Int32.ofNat k) = k := ix_ofNat (by omega)
      have e1 : gI (uS u g t q a) 158 k ≤ Int32.ofNat i := by
        rw [uS_f (by decide) (by decide)]
        exact fl_lit' hL
      have b1 : mm_inb (Int32.ofNat k) 4 = true := inb_ofNat (by decide) hk
      refine ⟨i, g, ?_, ?_, Or.inl ⟨rfl, rfl⟩⟩
      · simp only [lp_M_dueOf_2_111, e0, e1, if_true]
      · simp only [okl_M_dueOf_2_111, e0, e1, if_true, b1, and_self]
  | cons l R ih =>
    intro i n g t q a hi hn hls hws
    simp only [List.length_cons] at hi hn
    match n, hn with
    | n + 1, hn =>
      have e0 : ix (Int32.ofNat k) = k := ix_ofNat (by omega)
      have e1 : ¬ gI (uS u g t q a) 158 k ≤ Int32.ofNat i := by
        rw [uS_f (by decide) (by decide)]
        exact fl_lit hL (by omega) (by omega) (by omega)
      have b1 : mm_inb (Int32.ofNat k) 4 = true := inb_ofNat (by decide) hk
      have z10 : ¬ (1 : Int32) = 0 := by decide
      obtain ⟨g1, t1, t2, t3⟩ := M_tells hk (u := uS u g t q a) (by omega : i < 24) sub (cl_M_u hls.1) (hws l List.mem_cons_self)
      rw [uS_f (by decide) (by decide), uS_168] at t1 t2
      by_cases hT : cl_T (c_N (gI u 169)) sub l
      · have t1 := t1 hT
        refine ⟨i, g1, ?_, ?_, Or.inr ⟨by omega, l, R, hls.1, hls.2, by omega, hT, hws l List.mem_cons_self, fun m hm => hws m (List.mem_cons_of_mem _ hm), rfl⟩⟩
        · simp only [lp_M_dueOf_2_111, mq_let_e, e0, e1, if_false, t1, z10]
        · simp only [okl_M_dueOf_2_111, mq_letP_e, e0, e1, if_false, t1, t3, z10, b1, true_and]
      · have t2 := t2 hT
        obtain ⟨j, g2, i1, i2, i3⟩ := ih (i + 1) n g1 t q a (by omega) (by omega) hls.2 (fun m hm => hws m (List.mem_cons_of_mem _ hm))
        refine ⟨j, g2, ?_, ?_, ?_⟩
        · simp only [lp_M_dueOf_2_111, mq_let_e, e0, e1, if_false, t2, if_true, ofNat_succ]
          exact i1
        · simp only [okl_M_dueOf_2_111, mq_letP_e, e0, e1, if_false, t2, t3, if_true, b1, true_and, ofNat_succ]
          exact i2
        · rw [cl_D_f hT]
          exact i3
/-- whether a later line tells another number -/
theorem M_later2 {u : mS} {k : Nat} (hk : k < 4) {sub a2 v : Int32} {L : Nat} (hL : gI u 158 k = Int32.ofNat L) (h24 : L ≤ 24) : ∀ (R : List cL) (i n : Nat) (g : Nat → Int32) (t q a : Int32), i + R.length = L → R.length < n → cl_Ms u k i R → (∀ l ∈ R, cl_W l) → (q = 0 ∨ q = 1) →
    ∃ j g' q', lp_M_dueOf_2_212 sub a2 v (Int32.ofNat k) n (Int32.ofNat i) (uS u g t q a) = (j, uS u g' t q' a) ∧ okl_M_dueOf_2_212 sub a2 v (Int32.ofNat k) n (Int32.ofNat i) (uS u g t q a) ∧ (q' = 0 ∨ q' = 1) ∧ (q' = 1 ↔ q = 1 ∨ cl_Q (c_N (gI u 169)) sub v R) := by
  intro R
  induction R with
  | nil =>
    intro i n g t q a hi hn _ _ hq
    simp only [List.length_nil] at hi hn
    have : i = L := by omega
    subst this
    match n, hn with
    | n + 1, _ =>
      have e0 : ix (Int32.ofNat k) = k := ix_ofNat (by omega)
      have e1 : gI (uS u g t q a) 158 k ≤ Int32.ofNat i := by
        rw [uS_f (by decide) (by decide)]
        exact fl_lit' hL
      have b1 : mm_inb (Int32.ofNat k) 4 = true := inb_ofNat (by decide) hk
      refine ⟨Int32.ofNat i, g, q, ?_, ?_, hq, ?_⟩
      · simp only [lp_M_dueOf_2_212, e0, e1, if_true]
      · simp only [okl_M_dueOf_2_212, e0, e1, if_true, b1, and_self]
      · simp [cl_Q_nil]
  | cons l R ih =>
    intro i n g t q a hi hn hls hws hq
    simp only [List.length_cons] at hi hn
    match n, hn with
    | n + 1, hn =>
      have e0 : ix (Int32.ofNat k) = k := ix_ofNat (by omega)
      have e1 : ¬ gI (uS u g t q a) 158 k ≤ Int32.ofNat i := by
        rw [uS_f (by decide) (by decide)]
        exact fl_lit hL (by omega) (by omega) (by omega)
      have b1 : mm_inb (Int32.ofNat k) 4 = true := inb_ofNat (by decide) hk
      have z10 : ¬ (1 : Int32) = 0 := by decide
      rcases hq with hq | hq
      · subst hq
        obtain ⟨g1, t1, t2, t3⟩ := M_tells hk (u := uS u g t 0 a) (by omega : i < 24) sub (cl_M_u hls.1) (hws l List.mem_cons_self)
        rw [uS_f (by decide) (by decide), uS_168] at t1 t2
        by_cases hT : cl_T (c_N (gI u 169)) sub l
        · have t1 := t1 hT
          have x1 : ix (25 * Int32.ofNat k + Int32.ofNat i) = 25 * k + i := by rw [m25, ix_ofNat (by omega)]
          have x2 : ix (24 * Int32.ofNat k + Int32.ofNat i) = 24 * k + i := by rw [m24, ix_ofNat (by omega)]
          have b2 : mm_inb (25 * Int32.ofNat k + Int32.ofNat i) 100 = true := by rw [m25]; exact inb_ofNat (by decide) (by omega)
          have b3 : mm_inb (24 * Int32.ofNat k + Int32.ofNat i) 96 = true := by rw [m24]; exact inb_ofNat (by decide) (by omega)
          obtain ⟨g2, y1, y2⟩ := M_line_E hk (u := uS u g1 t 0 a) (cl_M_u hls.1) (hws l List.mem_cons_self)
          rw [uS_f (c := 169) (by decide) (by decide), uS_168] at y1
          by_cases hV : cl_V (c_N (gI u 169)) l = v
          · obtain ⟨j, g3, q3, i1, i2, i3, i4⟩ := ih (i + 1) n g2 t 0 a (by omega) (by omega) hls.2 (fun m hm => hws m (List.mem_cons_of_mem _ hm)) (Or.inl rfl)
            refine ⟨j, g3, q3, ?_, ?_, i3, ?_⟩
            · simp only [lp_M_dueOf_2_212, mq_let_e, e0, e1, if_false, uS_q, if_true, t1, z10, x1, x2, y1, hV, uS_92, ofNat_succ]
              exact i1
            · simp only [okl_M_dueOf_2_212, mq_let_e, mq_letP_e, e0, e1, if_false, uS_q, if_true, t1, t3, z10, x1, x2, y1, y2, hV, uS_92, b1, b2, b3, bit0, true_and, and_true, ofNat_succ]
              exact i2
            · rw [i4, cl_Q_cons]
              simp [hV]
          · obtain ⟨j, g3, q3, i1, i2, i3, i4⟩ := ih (i + 1) n g2 t 1 a (by omega) (by omega) hls.2 (fun m hm => hws m (List.mem_cons_of_mem _ hm)) (Or.inr rfl)
            refine ⟨j, g3, q3, ?_, ?_, i3, ?_⟩
            · simp only [lp_M_dueOf_2_212, mq_let_e, e0, e1, if_false, uS_q, if_true, t1, z10, x1, x2, y1, hV, uS_92, ofNat_succ]
              exact i1
            · simp only [okl_M_dueOf_2_212, mq_let_e, mq_letP_e, e0, e1, if_false, uS_q, if_true, t1, t3, z10, x1, x2, y1, y2, hV, uS_92, b1, b2, b3, bit1, true_and, and_true, ofNat_succ]
              exact i2
            · rw [i4, cl_Q_cons]
              simp [hV, hT]
        · have t2 := t2 hT
          obtain ⟨j, g3, q3, i1, i2, i3, i4⟩ := ih (i + 1) n g1 t 0 a (by omega) (by omega) hls.2 (fun m hm => hws m (List.mem_cons_of_mem _ hm)) (Or.inl rfl)
          refine ⟨j, g3, q3, ?_, ?_, i3, ?_⟩
          · simp only [lp_M_dueOf_2_212, mq_let_e, e0, e1, if_false, uS_q, if_true, t2, uS_92, ofNat_succ]
            exact i1
          · simp only [okl_M_dueOf_2_212, mq_let_e, mq_letP_e, e0, e1, if_false, uS_q, if_true, t2, t3, uS_92, b1, bit0, true_and, and_true, ofNat_succ]
            exact i2
          · rw [i4, cl_Q_cons]
            simp [hT]
      · subst hq
        obtain ⟨j, g3, q3, i1, i2, i3, i4⟩ := ih (i + 1) n g t 1 a (by omega) (by omega) hls.2 (fun m hm => hws m (List.mem_cons_of_mem _ hm)) (Or.inr rfl)
        refine ⟨j, g3, q3, ?_, ?_, i3, ?_⟩
        · simp only [lp_M_dueOf_2_212, mq_let_e, e0, e1, if_false, uS_q, z10, uS_92, ofNat_succ]
          exact i1
        · simp only [okl_M_dueOf_2_212, mq_let_e, mq_letP_e, e0, e1, if_false, uS_q, z10, uS_92, b1, bit1, true_and, ofNat_succ]
          exact i2
        · rw [i4]
          simp
theorem M_due_lp2 {sub a2 : Int32} {A : aC} (hW : aW A) {u : mS} (hA : aM u A) : ∀ r k n (g : Nat → Int32) (t q : Int32), k + r = 4 → r < n →
    t = (if (wg_st (c_N (gI u 169)) sub (a2 / 96) A k).2.1 = -1 then 0 else 1) → q = (wg_st (c_N (gI u 169)) sub (a2 / 96) A k).2.2.2 →
    ((wg_st (c_N (gI u 169)) sub (a2 / 96) A k).2.1 = -1 ∧ (wg_st (c_N (gI u 169)) sub (a2 / 96) A k).1 = -1 ∨ ∃ m, m < k ∧ (wg_st (c_N (gI u 169)) sub (a2 / 96) A k).2.1 = Int32.ofNat m ∧ gI u 157 m = (wg_st (c_N (gI u 169)) sub (a2 / 96) A k).1) →
    ∃ v' g', lp_M_dueOf_2_47 sub a2 n (wg_st (c_N (gI u 169)) sub (a2 / 96) A k).2.2.1 (Int32.ofNat k) (uS u g t q (wg_st (c_N (gI u 169)) sub (a2 / 96) A k).2.1) = ((wg_st (c_N (gI u 169)) sub (a2 / 96) A 4).2.2.1, v', uS u g' (if (wg_st (c_N (gI u 169)) sub (a2 / 96) A 4).2.1 = -1 then 0 else 1) (wg_st (c_N (gI u 169)) sub (a2 / 96) A 4).2.2.2 (wg_st (c_N (gI u 169)) sub (a2 / 96) A 4).2.1) ∧ okl_M_dueOf_2_47 sub a2 n (wg_st (c_N (gI u 169)) sub (a2 / 96) A k).2.2.1 (Int32.ofNat k) (uS u g t q (wg_st (c_N (gI u 169)) sub (a2 / 96) A k).2.1) := by
  intro r
  induction r with
  | zero =>
    intro k n g t q hk hn ht hq _
    have : k = 4 := by omega
    subst this
    match n, hn with
    | n + 1, _ =>
      have e1 : (4 : Int32) ≤ Int32.ofNat 4 := by decide
      refine ⟨Int32.ofNat 4, g, ?_, ?_⟩
      · simp only [lp_M_dueOf_2_47, e1, if_true, ht, hq]
      · simp only [okl_M_dueOf_2_47, e1, if_true]
  | succ r ih =>
    intro k n g t q hk hn ht hq hm
    match n, hn with
    | n + 1, hn =>
      have e1 : ¬ (4 : Int32) ≤ Int32.ofNat k := fl_lit (a := 4) rfl (by omega) (by omega) (by omega)
      have e2 : ix (Int32.ofNat k) = k := ix_ofNat (by omega)
      have e3 : Int32.ofNat k + 1 = Int32.ofNat (k + 1) := ofNat_succ k
      have b1 : mm_inb (Int32.ofNat k) 4 = true := inb_ofNat (by decide) (by omega)
      obtain ⟨a1, a4⟩ := hA
      have f157 : ∀ g t q a j, gI (uS u g t q a) 157 j = gI u 157 j := fun g t q a j => uS_g (by decide) (Or.inl (by decide))
      have f158 : ∀ g t q a j, gI (uS u g t q a) 158 j = gI u 158 j := fun g t q a j => uS_g (by decide) (Or.inl (by decide))
      have f160 : ∀ g t q a j, gI (uS u g t q a) 160 j = gI u 160 j := fun g t q a j => uS_g (by decide) (Or.inl (by decide))
      have f161 : ∀ g t q a j, gI (uS u g t q a) 161 j = gI u 161 j := fun g t q a j => uS_g (by decide) (Or.inl (by decide))
      have skip : wg_st (c_N (gI u 169)) sub (a2 / 96) A (k + 1) = wg_st (c_N (gI u 169)) sub (a2 / 96) A k → ∀ g', ∃ v' g'', lp_M_dueOf_2_47 sub a2 n (wg_st (c_N (gI u 169)) sub (a2 / 96) A k).2.2.1 (Int32.ofNat (k + 1)) (uS u g' t q (wg_st (c_N (gI u 169)) sub (a2 / 96) A k).2.1) = ((wg_st (c_N (gI u 169)) sub (a2 / 96) A 4).2.2.1, v', uS u g'' (if (wg_st (c_N (gI u 169)) sub (a2 / 96) A 4).2.1 = -1 then 0 else 1) (wg_st (c_N (gI u 169)) sub (a2 / 96) A 4).2.2.2 (wg_st (c_N (gI u 169)) sub (a2 / 96) A 4).2.1) ∧ okl_M_dueOf_2_47 sub a2 n (wg_st (c_N (gI u 169)) sub (a2 / 96) A k).2.2.1 (Int32.ofNat (k + 1)) (uS u g' t q (wg_st (c_N (gI u 169)) sub (a2 / 96) A k).2.1) := by
        intro hst g'
        have I := ih (k + 1) n g' t q (by omega) (by omega) (by rw [hst]; exact ht) (by rw [hst]; exact hq) (by
          rw [hst]
          rcases hm with h | ⟨m, h1, h2⟩
          · exact Or.inl h
          · exact Or.inr ⟨m, by omega, h2⟩)
        rw [hst] at I
        exact I
      cases hk' : A k with
      | none =>
        have hst : wg_st (c_N (gI u 169)) sub (a2 / 96) A (k + 1) = wg_st (c_N (gI u 169)) sub (a2 / 96) A k := by
          show (match A k with | none => _ | some (d, Ls) => _) = _
          rw [hk']
        have e4 := a1 k (by omega) hk'
        obtain ⟨v', g', i1, i2⟩ := skip hst g
        refine ⟨v', g', ?_, ?_⟩
        · simp only [lp_M_dueOf_2_47, mq_let_e, e1, if_false, e2, f157, e4, if_true, e3]
          exact i1
        · simp only [okl_M_dueOf_2_47, mq_letP_e, e1, if_false, e2, f157, e4, if_true, e3, b1, true_and]
          exact i2
      | some dl =>
        obtain ⟨d, Ls⟩ := dl
        obtain ⟨q1, q3, q4⟩ := a4 k (by omega) d Ls hk'
        obtain ⟨w0, w1, w2, w3⟩ := hW k (by omega) d Ls hk'
        have q1' : ¬ d = -1 := by grind
        by_cases c1 : a2 / 96 < d ∨ d < (wg_st (c_N (gI u 169)) sub (a2 / 96) A k).1
        · have hst : wg_st (c_N (gI u 169)) sub (a2 / 96) A (k + 1) = wg_st (c_N (gI u 169)) sub (a2 / 96) A k := by
            show (match A k with | none => _ | some (d, Ls) => _) = _
            rw [hk']
            exact if_pos c1
          obtain ⟨v', g', i1, i2⟩ := skip hst g
          by_cases c2 : a2 / 96 < d
          · refine ⟨v', g', ?_, ?_⟩
            · simp only [lp_M_dueOf_2_47, mq_let_e, e1, if_false, e2, f157, q1, q1', c2, if_true, e3]
              exact i1
            · simp only [okl_M_dueOf_2_47, mq_letP_e, e1, if_false, e2, f157, q1, q1', c2, if_true, e3, b1, true_and]
              exact i2
          · have c3 := c1.resolve_left c2
            rcases hm with ⟨h1, h2⟩ | ⟨m, h0, h1, h2⟩
            · exfalso
              rw [h2] at c3
              grind
            · have hm1 : ¬ Int32.ofNat m = -1 := by
                intro h
                have := (ofNat_le (a := 0) (b := m) (by omega) (by omega)).mpr (by omega)
                rw [h] at this
                exact absurd this (by decide)
              have e5 : ix (Int32.ofNat m) = m := ix_ofNat (by omega)
              have b2 : mm_inb (Int32.ofNat m) 4 = true := inb_ofNat (by decide) (by omega)
              have c4 : ¬ (wg_st (c_N (gI u 169)) sub (a2 / 96) A k).1 ≤ d := Int32.not_le.mpr c3
              refine ⟨v', g', ?_, ?_⟩
              · simp only [lp_M_dueOf_2_47, mq_let_e, e1, if_false, e2, f157, q1, q1', c2, uS_a, e3]
                rw [h1] at i1 ⊢
                simp only [hm1, if_false, e5, h2, c4]
                exact i1
              · simp only [okl_M_dueOf_2_47, mq_letP_e, e1, if_false, e2, f157, q1, q1', c2, uS_a, e3, b1, true_and]
                rw [h1] at i2 ⊢
                simp only [hm1, if_false, e5, h2, c4, b2, true_and]
                exact i2
        · have c2 : ¬ a2 / 96 < d := fun h => c1 (Or.inl h)
          have c3 : ¬ d < (wg_st (c_N (gI u 169)) sub (a2 / 96) A k).1 := fun h => c1 (Or.inr h)
          have c4 : (wg_st (c_N (gI u 169)) sub (a2 / 96) A k).1 ≤ d := Int32.not_lt.mp c3
          -- both ways into the act's lines are one
          obtain ⟨j, g1, f1, f2, f3⟩ := M_first2 (sub := sub) (a2 := a2) (a5 := (wg_st (c_N (gI u 169)) sub (a2 / 96) A k).2.2.1) (by omega : k < 4) q3 w2 Ls 0 mm_N g t q (wg_st (c_N (gI u 169)) sub (a2 / 96) A k).2.1 (by omega) (by rw [mm_Ns]; omega) q4 w3
          have f1 : lp_M_dueOf_2_111 sub a2 (wg_st (c_N (gI u 169)) sub (a2 / 96) A k).2.2.1 (Int32.ofNat k) mm_N 0 _ = _ := f1
          have f2 : okl_M_dueOf_2_111 sub a2 (wg_st (c_N (gI u 169)) sub (a2 / 96) A k).2.2.1 (Int32.ofNat k) mm_N 0 _ := f2
          rcases f3 with ⟨rfl, hD⟩ | ⟨hj, l, R2, hl, hR2, hlen, hT, hlw, hRw, hD⟩
          · have hst : wg_st (c_N (gI u 169)) sub (a2 / 96) A (k + 1) = wg_st (c_N (gI u 169)) sub (a2 / 96) A k := by
              show (match A k with | none => _ | some (d, Ls) => _) = _
              rw [hk']
              show (if _ then _ else _) = _
              rw [if_neg c1, hD]
            obtain ⟨v', g', i1, i2⟩ := skip hst g1
            rcases hm with ⟨h1, h2⟩ | ⟨m, h0, h1, h2⟩
            · refine ⟨v', g', ?_, ?_⟩
              · simp only [lp_M_dueOf_2_47, mq_let_e, e1, if_false, e2, f157, f158, q1, q1', c2, uS_a, f1, q3, e3]
                rw [h1] at i1 ⊢
                simp only [if_true]
                exact i1
              · simp only [okl_M_dueOf_2_47, mq_letP_e, e1, if_false, e2, f157, f158, q1, q1', c2, uS_a, f1, f2, q3, e3, b1, true_and]
                rw [h1] at i2 ⊢
                simp only [if_true]
                exact i2
            · have hm1 : ¬ Int32.ofNat m = -1 := by
                intro h
                have := (ofNat_le (a := 0) (b := m) (by omega) (by omega)).mpr (by omega)
                rw [h] at this
                exact absurd this (by decide)
              have e5 : ix (Int32.ofNat m) = m := ix_ofNat (by omega)
              have b2 : mm_inb (Int32.ofNat m) 4 = true := inb_ofNat (by decide) (by omega)
              refine ⟨v', g', ?_, ?_⟩
              · simp only [lp_M_dueOf_2_47, mq_let_e, e1, if_false, e2, f157, f158, q1, q1', c2, uS_a, f1, q3, e3]
                rw [h1] at i1 ⊢
                simp only [hm1, if_false, e5, h2, c4, if_true]
                exact i1
              · simp only [okl_M_dueOf_2_47, mq_letP_e, e1, if_false, e2, f157, f158, q1, q1', c2, uS_a, f1, f2, q3, e3, b1, true_and]
                rw [h1] at i2 ⊢
                simp only [hm1, if_false, e5, h2, c4, b2, if_true, true_and]
                exact i2
          · obtain ⟨qq, d1, d2, d3⟩ := cl_D_t (R := R2) hT
            have hst : wg_st (c_N (gI u 169)) sub (a2 / 96) A (k + 1) = (d, Int32.ofNat k, cl_V (c_N (gI u 169)) l, qq) := by
              show (match A k with | none => _ | some (d, Ls) => _) = _
              rw [hk']
              show (if _ then _ else _) = _
              rw [if_neg c1, hD, d1]
            have hk1 : ¬ Int32.ofNat k = -1 := by
              intro h
              have := (ofNat_le (a := 0) (b := k) (by omega) (by omega)).mpr (by omega)
              rw [h] at this
              exact absurd this (by decide)
            have hjL : ¬ Int32.ofNat j = Int32.ofNat Ls.length := by
              rw [ofNat_e (by omega) (by omega)]
              omega
            have x1 : ix (25 * Int32.ofNat k + Int32.ofNat j) = 25 * k + j := by rw [m25, ix_ofNat (by omega)]
            have x2 : ix (24 * Int32.ofNat k + Int32.ofNat j) = 24 * k + j := by rw [m24, ix_ofNat (by omega)]
            have b5 : mm_inb (25 * Int32.ofNat k + Int32.ofNat j) 100 = true := by rw [m25]; exact inb_ofNat (by decide) (by omega)
            have b6 : mm_inb (24 * Int32.ofNat k + Int32.ofNat j) 96 = true := by rw [m24]; exact inb_ofNat (by decide) (by omega)
            obtain ⟨g2, y1, y2⟩ := M_line_E (by omega : k < 4) (u := uS u g1 1 q (Int32.ofNat k)) (cl_M_u hl) hlw
            rw [uS_f (c := 169) (by decide) (by decide), uS_168, f160, f161] at y1
            rw [f160, f161] at y2
            obtain ⟨jj, g3, q3', l1, l2, l3, l4⟩ := M_later2 (a2 := a2) (sub := sub) (v := cl_V (c_N (gI u 169)) l) (by omega : k < 4) q3 w2 R2 (j + 1) mm_N g2 1 0 (Int32.ofNat k) hlen (by rw [mm_Ns]; omega) hR2 hRw (Or.inl rfl)
            have hqq : q3' = qq := by
              have l4' : q3' = 1 ↔ qq = 1 := by
                rw [l4, d3]
                constructor
                · rintro (h | h)
                  · exact absurd h (by decide)
                  · exact h
                · exact Or.inr
              rcases l3 with z | z <;> rcases d2 with z2 | z2
              · rw [z, z2]
              · exfalso
                have := l4'.mpr z2
                rw [z] at this
                exact absurd this (by decide)
              · exfalso
                have := l4'.mp z
                rw [z2] at this
                exact absurd this (by decide)
              · rw [z, z2]
            rw [hqq] at l1
            have I := ih (k + 1) n g3 1 qq (by omega) (by omega) (by rw [hst, if_neg hk1]) (by rw [hst]) (by
              rw [hst]
              exact Or.inr ⟨k, by omega, rfl, q1⟩)
            rw [hst] at I
            obtain ⟨v', g', i1, i2⟩ := I
            rcases hm with ⟨h1, h2⟩ | ⟨m, h0, h1, h2⟩
            · refine ⟨v', g', ?_, ?_⟩
              · simp only [lp_M_dueOf_2_47, mq_let_e, e1, if_false, e2, f157, f158, f160, f161, q1, q1', c2, uS_a, f1, q3, hjL, e3, x1, x2, uS_93, uS_91, uS_92, y1, ofNat_succ, l1]
                simp only [h1, if_true]
                exact i1
              · simp only [okl_M_dueOf_2_47, mq_letP_e, e1, if_false, e2, f157, f158, f160, f161, q1, q1', c2, uS_a, f1, f2, q3, hjL, e3, x1, x2, uS_93, uS_91, uS_92, y1, y2, ofNat_succ, l1, l2, b1, b5, b6, true_and]
                simp only [h1, if_true]
                exact i2
            · have hm1 : ¬ Int32.ofNat m = -1 := by
                intro h
                have := (ofNat_le (a := 0) (b := m) (by omega) (by omega)).mpr (by omega)
                rw [h] at this
                exact absurd this (by decide)
              have e5 : ix (Int32.ofNat m) = m := ix_ofNat (by omega)
              have b2 : mm_inb (Int32.ofNat m) 4 = true := inb_ofNat (by decide) (by omega)
              refine ⟨v', g', ?_, ?_⟩
              · simp only [lp_M_dueOf_2_47, mq_let_e, e1, if_false, e2, f157, f158, f160, f161, q1, q1', c2, uS_a, f1, q3, hjL, e3, x1, x2, uS_93, uS_91, uS_92, y1, ofNat_succ, l1]
                simp only [h1, hm1, if_false, e5, h2, c4, if_true]
                exact i1
              · simp only [okl_M_dueOf_2_47, mq_letP_e, e1, if_false, e2, f157, f158, f160, f161, q1, q1', c2, uS_a, f1, f2, q3, hjL, e3, x1, x2, uS_93, uS_91, uS_92, y1, y2, ofNat_succ, l1, l2, b1, b5, b6, true_and]
                simp only [h1, hm1, if_false, e5, h2, c4, b2, if_true, true_and]
                exact i2
