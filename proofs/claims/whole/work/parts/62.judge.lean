/-! THE DUE: lines that tell, acts weighed. A line: its subject, its E's code, its B's code. -/
abbrev cL : Type := Int32 × List cI × List cI
def cl_G (s : mS) (r i : Nat) (l : cL) : Prop := gI s (r + 1) i = l.1 ∧ ∃ p q e, gI s (r + 2) i = Int32.ofNat p ∧ gI s (r + 3) i = Int32.ofNat q ∧ gI s (r + 4) i = Int32.ofNat e ∧ p + (c_xs l.2.1).length = q ∧ q + (c_xs l.2.2).length = e ∧ e ≤ 600 ∧ c_seg (gI s (r + 5)) (gI s (r + 6)) p (c_xs l.2.1) ∧ c_seg (gI s (r + 5)) (gI s (r + 6)) q (c_xs l.2.2)
def cl_M (u : mS) (k i : Nat) (l : cL) : Prop := gI u 159 (24 * k + i) = l.1 ∧ ∃ p q e, gI u 160 (25 * k + i) = Int32.ofNat p ∧ gI u 161 (24 * k + i) = Int32.ofNat q ∧ gI u 160 (25 * k + i + 1) = Int32.ofNat e ∧ p + l.2.1.length = q ∧ q + l.2.2.length = e ∧ e ≤ 609 ∧ c_sgm (gI u 162) (1220 * k) p l.2.1 ∧ c_sgm (gI u 162) (1220 * k) q l.2.2
def cl_W (l : cL) : Prop := c_hts l.2.1 0 = some 1 ∧ (l.2.2 = [] ∨ (c_hts l.2.2 0 = some 1 ∧ ∀ F, c_val F l.2.2 = 0 ∨ c_val F l.2.2 = 1))
def cl_T (F : Nat → Int32) (sub : Int32) (l : cL) : Prop := l.1 = sub ∧ (l.2.2 = [] ∨ c_val F l.2.2 = 1)
def cl_V (F : Nat → Int32) (l : cL) : Int32 := c_val F l.2.1
def cl_Q (F : Nat → Int32) (sub v : Int32) (R : List cL) : Prop := ∃ m ∈ R, cl_T F sub m ∧ cl_V F m ≠ v
noncomputable def cl_D (F : Nat → Int32) (sub : Int32) : List cL → Option (Int32 × Int32)
  | [] => none
  | l :: R => @ite _ (cl_T F sub l) (Classical.propDecidable _) (some (cl_V F l, @ite _ (cl_Q F sub (cl_V F l) R) (Classical.propDecidable _) 1 0)) (cl_D F sub R)
def cl_Gs (s : mS) (r : Nat) : Nat → List cL → Prop
  | _, [] => True
  | i, l :: R => cl_G s r i l ∧ cl_Gs s r (i + 1) R
def cl_Ms (u : mS) (k : Nat) : Nat → List cL → Prop
  | _, [] => True
  | i, l :: R => cl_M u k i l ∧ cl_Ms u k (i + 1) R
theorem ite_nn {p : Prop} [Decidable p] {a b : List cI} (ha : a ≠ []) (hb : b ≠ []) : (if p then a else b) ≠ [] := by
  by_cases h : p
  · rw [if_pos h]; exact ha
  · rw [if_neg h]; exact hb
theorem c_xs_nil {c : List cI} : (c_xs c).length = 0 ↔ c = [] := by
  cases c with
  | nil => simp [c_xs]
  | cons i c =>
    simp only [c_xs, List.length_append]
    have : (c_x i).length ≠ 0 := by
      intro h
      refine absurd (List.eq_nil_of_length_eq_zero h) ?_
      unfold c_x
      repeat refine ite_nn (by simp) ?_
      simp
    constructor
    · intro h; omega
    · intro h; cases h
theorem ofNat_e {a b : Nat} (ha : a < 90000) (hb : b < 90000) : Int32.ofNat a = Int32.ofNat b ↔ a = b := ofNat_inj (by omega) (by omega)
/-! the class -/
def tS (s : mS) (r : Nat) (g : Nat → Int32) (a b : Int32) : mS := sI (sI (sA s (r + 7) g) r 11 a) r 12 b
section
variable {r : Nat} {s : mS}
theorem tS_g {g : Nat → Int32} {a b : Int32} {c j : Nat} (h1 : c ≠ r + 7) (h2 : c ≠ r ∨ (j ≠ 11 ∧ j ≠ 12)) : gI (tS s r g a b) c j = gI s c j := by
  unfold tS
  rw [gI_sI, if_neg (by omega), gI_sI, if_neg (by omega), gI_sA, if_neg h1]
theorem tS_f {g : Nat → Int32} {a b : Int32} {c : Nat} (h1 : c ≠ r + 7) (h2 : c ≠ r) : gI (tS s r g a b) c = gI s c := by
  funext j
  exact tS_g h1 (Or.inl h2)
theorem tS_7 {g : Nat → Int32} {a b : Int32} (g' : Nat → Int32) : sA (tS s r g a b) (r + 7) g' = tS s r g' a b := by
  unfold tS
  rw [← sI_sA_ne _ _ _ _ _ _ (by omega : r ≠ r + 7), ← sI_sA_ne _ _ _ _ _ _ (by omega : r ≠ r + 7), sA_sA]
theorem tS_11 {g : Nat → Int32} {a b : Int32} (a' : Int32) : sI (tS s r g a b) r 11 a' = tS s r g a' b := by
  unfold tS
  simp only [sI_up, fI_sA, if_true, sA_sA]
  congr 1
  funext j
  unfold up
  by_cases h : j = 11
  · simp [h]
  · by_cases h2 : j = 12
    · simp [h2]
    · simp [h, h2]
theorem tS_12 {g : Nat → Int32} {a b : Int32} (b' : Int32) : sI (tS s r g a b) r 12 b' = tS s r g a b' := by
  unfold tS
  rw [sI_sI]
theorem tS_a {g : Nat → Int32} {a b : Int32} : gI (tS s r g a b) r 11 = a := by
  unfold tS
  rw [gI_sI, if_neg (by omega), gI_sI, if_pos ⟨rfl, rfl⟩]
theorem tS_b {g : Nat → Int32} {a b : Int32} : gI (tS s r g a b) r 12 = b := by
  unfold tS
  rw [gI_sI, if_pos ⟨rfl, rfl⟩]
theorem G_line_E (hr : mq_A r) {i : Nat} {l : cL} (hl : cl_G s r i l) (hw : cl_W l) {g : Nat → Int32} {a b : Int32} : ∃ g', f_Act_valueOf_39 r (gI s (r + 2) i) (gI s (r + 3) i) (tS s r g a b) = (cl_V (c_F (gI s 39)) l, tS s r g' a b) ∧ ok_Act_valueOf_39 r (gI s (r + 2) i) (gI s (r + 3) i) (tS s r g a b) := by
  obtain ⟨h1, p, q, e, h2, h3, h4, h5, h6, h7, h8, h9⟩ := hl
  have n39 : (39 : Nat) ≠ r + 7 := fun h => v_ne hr h
  have n39' : (39 : Nat) ≠ r := by rcases hr with rfl | rfl | rfl | rfl | rfl <;> decide
  have := G_val hr (s := tS s r g a b) (c := l.2.1) (p := p) (q := q) (by
    rw [tS_f (by omega) (by omega), tS_f (by omega) (by omega)]
    exact h8) h5 (by omega) hw.1
  rw [tS_f n39 n39'] at this
  obtain ⟨g', e1, e2⟩ := this
  rw [tS_7] at e1
  exact ⟨g', by rw [h2, h3, e1]; rfl, by rw [h2, h3]; exact e2⟩
theorem G_line_B (hr : mq_A r) {i : Nat} {l : cL} (hl : cl_G s r i l) (hw : cl_W l) (hB : l.2.2 ≠ []) {g : Nat → Int32} {a b : Int32} : ∃ g', f_Act_valueOf_39 r (gI s (r + 3) i) (gI s (r + 4) i) (tS s r g a b) = (c_val (c_F (gI s 39)) l.2.2, tS s r g' a b) ∧ ok_Act_valueOf_39 r (gI s (r + 3) i) (gI s (r + 4) i) (tS s r g a b) := by
  obtain ⟨h1, p, q, e, h2, h3, h4, h5, h6, h7, h8, h9⟩ := hl
  have n39 : (39 : Nat) ≠ r + 7 := fun h => v_ne hr h
  have n39' : (39 : Nat) ≠ r := by rcases hr with rfl | rfl | rfl | rfl | rfl <;> decide
  have := G_val hr (s := tS s r g a b) (c := l.2.2) (p := q) (q := e) (by
    rw [tS_f (by omega) (by omega), tS_f (by omega) (by omega)]
    exact h9) h6 (by omega) (by
      rcases hw.2 with h | h
      · exact absurd h hB
      · exact h.1)
  rw [tS_f n39 n39'] at this
  obtain ⟨g', e1, e2⟩ := this
  rw [tS_7] at e1
  exact ⟨g', by rw [h3, h4, e1], by rw [h3, h4]; exact e2⟩
theorem G_free {i : Nat} {l : cL} (hl : cl_G s r i l) : (gI s (r + 3) i = gI s (r + 4) i) ↔ l.2.2 = [] := by
  obtain ⟨h1, p, q, e, h2, h3, h4, h5, h6, h7, h8, h9⟩ := hl
  rw [h3, h4, ofNat_e (by omega) (by omega), ← c_xs_nil]
  omega
/-- one line of the class's loop -/
theorem G_line (hr : mq_A r) {i n : Nat} {l : cL} {sub v3 : Int32} (hl : cl_G s r i l) (hw : cl_W l) {L : Nat} (hL : gI s r 8 = Int32.ofNat L) (hi : i < L) (h24 : L ≤ 24) (hv : v3 = 0 ∨ v3 = 1) (g : Nat → Int32) (a b : Int32) :
    ∃ g' , (¬ cl_T (c_F (gI s 39)) sub l → lp_Act_tells_39_10 r sub (n + 1) v3 (Int32.ofNat i) (tS s r g a b) = lp_Act_tells_39_10 r sub n v3 (Int32.ofNat (i + 1)) (tS s r g' a b) ∧ (okl_Act_tells_39_10 r sub n v3 (Int32.ofNat (i + 1)) (tS s r g' a b) → okl_Act_tells_39_10 r sub (n + 1) v3 (Int32.ofNat i) (tS s r g a b))) ∧
      (cl_T (c_F (gI s 39)) sub l → v3 = 0 → lp_Act_tells_39_10 r sub (n + 1) v3 (Int32.ofNat i) (tS s r g a b) = lp_Act_tells_39_10 r sub n 1 (Int32.ofNat (i + 1)) (tS s r g' (cl_V (c_F (gI s 39)) l) b) ∧ (okl_Act_tells_39_10 r sub n 1 (Int32.ofNat (i + 1)) (tS s r g' (cl_V (c_F (gI s 39)) l) b) → okl_Act_tells_39_10 r sub (n + 1) v3 (Int32.ofNat i) (tS s r g a b))) ∧
      (cl_T (c_F (gI s 39)) sub l → v3 = 1 → lp_Act_tells_39_10 r sub (n + 1) v3 (Int32.ofNat i) (tS s r g a b) = lp_Act_tells_39_10 r sub n 1 (Int32.ofNat (i + 1)) (tS s r g' a (if cl_V (c_F (gI s 39)) l = a then b else 1)) ∧ (okl_Act_tells_39_10 r sub n 1 (Int32.ofNat (i + 1)) (tS s r g' a (if cl_V (c_F (gI s 39)) l = a then b else 1)) → okl_Act_tells_39_10 r sub (n + 1) v3 (Int32.ofNat i) (tS s r g a b))) := by
  have e1 : ∀ g a b, ¬ gI (tS s r g a b) r 8 ≤ Int32.ofNat i := fun g a b => by
    rw [tS_g (by omega) (Or.inr (by omega))]
    exact fl_lit hL (by omega) (by omega) hi
  have e2 : ¬ (24 : Int32) ≤ Int32.ofNat i := fl_lit (a := 24) rfl (by omega) (by omega) (by omega)
  have e3 : ix (Int32.ofNat i) = i := ix_ofNat (by omega)
  have b1 : mm_inb (Int32.ofNat i) 24 = true := inb_ofNat (by decide) (by omega)
  have f1 : ∀ g a b, gI (tS s r g a b) (r + 1) i = l.1 := fun g a b => by rw [tS_g (by omega) (by omega)]; exact hl.1
  have f2 : ∀ g a b, gI (tS s r g a b) (r + 2) i = gI s (r + 2) i := fun g a b => tS_g (by omega) (by omega)
  have f3 : ∀ g a b, gI (tS s r g a b) (r + 3) i = gI s (r + 3) i := fun g a b => tS_g (by omega) (by omega)
  have f4 : ∀ g a b, gI (tS s r g a b) (r + 4) i = gI s (r + 4) i := fun g a b => tS_g (by omega) (by omega)
  have hfree := G_free hl
  have z10 : ¬ (1 : Int32) = 0 := by decide
  by_cases c1 : l.1 = sub
  · by_cases cB : l.2.2 = []
    · -- a line without a condition
      have hT : cl_T (c_F (gI s 39)) sub l := ⟨c1, Or.inl cB⟩
      obtain ⟨g1, x1, x2⟩ := G_line_E hr hl hw (g := g) (a := a) (b := b)
      have hfr := hfree.mpr cB
      refine ⟨g1, fun h => absurd hT h, fun _ h0 => ?_, fun _ h1 => ?_⟩
      · subst h0
        simp only [hfr] at x1 x2
        constructor
        · simp only [lp_Act_tells_39_10, mq_let_e, e1, e2, if_false, e3, f1, f2, f3, f4, hfr, if_true, c1, z10, x1, tS_11, ofNat_succ]
        · intro q
          simp only [okl_Act_tells_39_10, mq_letP_e, e1, e2, if_false, e3, f1, f2, f3, f4, hfr, if_true, c1, z10, b1, x1, x2, tS_11, true_and, ofNat_succ]
          exact q
      · subst h1
        simp only [hfr] at x1 x2
        constructor
        · simp only [lp_Act_tells_39_10, mq_let_e, e1, e2, if_false, e3, f1, f2, f3, f4, hfr, if_true, c1, z10, x1, tS_a, tS_12, ofNat_succ]
          split
          · rfl
          · rfl
        · intro q
          simp only [okl_Act_tells_39_10, mq_letP_e, e1, e2, if_false, e3, f1, f2, f3, f4, hfr, if_true, c1, z10, b1, x1, x2, tS_a, tS_12, true_and, ofNat_succ, bit1]
          split
          · rename_i hh
            rw [if_pos hh] at q
            exact q
          · rename_i hh
            rw [if_neg hh] at q
            exact q
    · have hnf : ¬ gI s (r + 3) i = gI s (r + 4) i := fun h => cB (hfree.mp h)
      obtain ⟨g1, x1, x2⟩ := G_line_B hr hl hw cB (g := g) (a := a) (b := b)
      obtain ⟨g2, y1, y2⟩ := G_line_E hr hl hw (g := g1) (a := a) (b := b)
      have hv01 : c_val (c_F (gI s 39)) l.2.2 = 0 ∨ c_val (c_F (gI s 39)) l.2.2 = 1 := by
        rcases hw.2 with h | h
        · exact absurd h cB
        · exact h.2 _
      rcases hv01 with hv0 | hv1
      · have hnT : ¬ cl_T (c_F (gI s 39)) sub l := by
          rintro ⟨-, h | h⟩
          · exact cB h
          · rw [hv0] at h
            exact absurd h (by decide)
        refine ⟨g1, fun _ => ?_, fun h => absurd h hnT, fun h => absurd h hnT⟩
        constructor
        · simp only [lp_Act_tells_39_10, mq_let_e, e1, e2, if_false, e3, f1, f2, f3, f4, hnf, if_true, c1, x1, hv0, ofNat_succ]
        · intro q
          simp only [okl_Act_tells_39_10, mq_letP_e, e1, e2, if_false, e3, f1, f2, f3, f4, hnf, if_true, c1, b1, x1, x2, hv0, true_and, ofNat_succ]
          exact q
      · have hT : cl_T (c_F (gI s 39)) sub l := ⟨c1, Or.inr hv1⟩
        refine ⟨g2, fun h => absurd hT h, fun _ h0 => ?_, fun _ h1 => ?_⟩
        · subst h0
          constructor
          · simp only [lp_Act_tells_39_10, mq_let_e, e1, e2, if_false, e3, f1, f2, f3, f4, hnf, if_true, c1, z10, x1, hv1, y1, tS_11, ofNat_succ]
          · intro q
            simp only [okl_Act_tells_39_10, mq_letP_e, e1, e2, if_false, e3, f1, f2, f3, f4, hnf, if_true, c1, z10, b1, x1, x2, hv1, y1, y2, tS_11, true_and, ofNat_succ]
            exact q
        · subst h1
          constructor
          · simp only [lp_Act_tells_39_10, mq_let_e, e1, e2, if_false, e3, f1, f2, f3, f4, hnf, if_true, c1, z10, x1, hv1, y1, tS_a, tS_12, ofNat_succ]
            split
            · rfl
            · rfl
          · intro q
            simp only [okl_Act_tells_39_10, mq_letP_e, e1, e2, if_false, e3, f1, f2, f3, f4, hnf, if_true, c1, z10, b1, x1, x2, hv1, y1, y2, tS_a, tS_12, true_and, ofNat_succ, bit1]
            split
            · rename_i hh
              rw [if_pos hh] at q
              exact q
            · rename_i hh
              rw [if_neg hh] at q
              exact q
  · have hnT : ¬ cl_T (c_F (gI s 39)) sub l := fun h => c1 h.1
    refine ⟨g, fun _ => ?_, fun h => absurd h hnT, fun h => absurd h hnT⟩
    constructor
    · simp only [lp_Act_tells_39_10, mq_let_e, e1, e2, if_false, e3, f1, c1, ofNat_succ]
    · intro q
      simp only [okl_Act_tells_39_10, mq_letP_e, e1, e2, if_false, e3, f1, c1, b1, true_and, ofNat_succ]
      exact q
end
