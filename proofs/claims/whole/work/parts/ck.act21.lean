/-! ACT: the model's call. -/
def mcode : List rlL → List cI
  | [] => []
  | y :: Ls => y.2.1 ++ y.2.2 ++ mcode Ls
def mtab (s : mS) : Nat → Nat → List rlL → Prop
  | _, _, [] => True
  | l, n, y :: Ls => gI s 163 l = Int32.ofNat y.1 ∧ gI s 164 l = Int32.ofNat n ∧ gI s 165 l = Int32.ofNat (n + y.2.1.length) ∧ mtab s (l + 1) (n + y.2.1.length + y.2.2.length) Ls
def mAO (L : Nat) (s : mS) (n l : Nat) (r : (Nat × Nat) ⊕ List rlL) (w : Int32 × mS) : Prop := fp [163, 164, 165, 166] mLR false s w.2 ∧ match r with
  | .inl e => w.1 = 0 ∧ gI w.2 116 85 = Int32.ofNat e.1 ∧ gI w.2 116 86 = Int32.ofNat e.2
  | .inr Ls => w.1 = 1 ∧ gI w.2 116 78 = Int32.ofNat (l + Ls.length) ∧ gI w.2 116 79 = Int32.ofNat (n + (mcode Ls).length) ∧ n + (mcode Ls).length ≤ L ∧ gI w.2 116 85 = 0 ∧ mtab w.2 l n Ls ∧ c_sgm (gI w.2 166) 0 n (mcode Ls) ∧ (∀ i, i < l → gI w.2 163 i = gI s 163 i ∧ gI w.2 164 i = gI s 164 i ∧ gI w.2 165 i = gI s 165 i) ∧ ∀ j, j < 2 * n → gI w.2 166 j = gI s 166 j
theorem lp62_0 (a1 a2 : Int32) (s : mS) : ∀ m, lp_M_act_62 a1 a2 m 0 s = (0, s)
  | 0 => rfl
  | m + 1 => by simp only [lp_M_act_62, if_true]
theorem M_actlp {T : Nat → Int32} {L : Nat} (hL : L ≤ 600) (a1 a2 : Int32) : ∀ m l p v n s, mK0 T L s p n v → n ≤ p → gI s 116 78 = Int32.ofNat l → l ≤ 24 → mAO L s n l (rp_act (tz T L) mm_N m l p v) (lp_M_act_62 a1 a2 m 1 s) ∧ (L < m + p → okl_M_act_62 a1 a2 m 1 s) := by
  obtain ⟨hE, hN, hA⟩ := tz_E T L
  have n10 : ¬ (1 : Int32) = 0 := by decide
  intro m
  induction m with
  | zero =>
    intro l p v n s hK hb h78 hl
    refine ⟨⟨fp_r, rfl, h78, hK.2.2.1, ?_, hK.2.2.2.2.2, trivial, trivial, fun _ _ => ⟨rfl, rfl, rfl⟩, fun _ _ => rfl⟩, fun q => ?_⟩
    · show n + 0 ≤ L
      have := hK.2.2.2.2.1
      omega
    · have := hK.2.2.2.2.1
      omega
  | succ m ih =>
    intro l p v n s hK hb h78 hl
    have t0 : (gI s 116 82 = 0) = (tK (tz T L) p = 0) := by
      rw [hK.2.2.2.1.2.2.1]
      exact propext (mk_i _ (tz_K25 T L p) 0 (by omega))
    have pL := hK.2.2.2.2.1
    unfold rp_act
    by_cases c : tK (tz T L) p = 0
    · rw [if_pos c]
      have ef : lp_M_act_62 a1 a2 (m + 1) 1 s = (1, s) := by
        simp only [lp_M_act_62, if_neg n10, t0, if_pos c]
      rw [ef]
      refine ⟨⟨fp_r, rfl, h78, hK.2.2.1, ?_, hK.2.2.2.2.2, trivial, trivial, fun _ _ => ⟨rfl, rfl, rfl⟩, fun _ _ => rfl⟩, fun q => ?_⟩
      · show n + 0 ≤ L
        omega
      · simp only [okl_M_act_62, if_neg n10, t0, if_pos c]
    · rw [if_neg c]
      obtain ⟨np, pl⟩ := hE.1 p c
      obtain ⟨A1, A2⟩ := M_lineE hL hK hb h78 hl
      generalize hw : f_M_aLine s = w at A1
      have ef : lp_M_act_62 a1 a2 (m + 1) 1 s = lp_M_act_62 a1 a2 m w.1 w.2 := by
        simp only [lp_M_act_62, mq_let_e, if_neg n10, t0, if_neg c, hw]
      have eo : okl_M_act_62 a1 a2 m w.1 w.2 → okl_M_act_62 a1 a2 (m + 1) 1 s := fun q => by
        simp only [okl_M_act_62, mq_letP_e, if_neg n10, t0, if_neg c, hw, A2, true_and]
        exact q
      rw [ef]
      cases hr : rp_line (tz T L) mm_N l p v with
      | inl e =>
        rw [hr] at A1
        obtain ⟨f, b1, b2, b3⟩ := A1
        rw [b1] at eo ⊢
        rw [lp62_0]
        refine ⟨⟨f, rfl, b2, b3⟩, fun q => eo ?_⟩
        obtain ⟨m', rfl⟩ : ∃ m', m = m' + 1 := ⟨m - 1, by omega⟩
        simp only [okl_M_act_62, if_true]
      | inr y =>
        have l24 := rp_line_24 hr
        rw [hr] at A1
        obtain ⟨q, v1, sub, c1, c2⟩ := y
        obtain ⟨f, b1, b2, b3, b4, b5, b6, b7, b8, b9, b10, b11⟩ := A1
        have b2 : mK0 T L w.2 q (n + c1.length + c2.length) v1 := b2
        have b4 : gI w.2 163 l = Int32.ofNat sub := b4
        have b6 : gI w.2 165 l = Int32.ofNat (n + c1.length) := b6
        have b8 : c_sgm (gI w.2 166) 0 n (c1 ++ c2) := b8
        have b10 : n + c1.length + c2.length ≤ q := b10
        have b11 : p < q := b11
        rw [b1] at eo ⊢
        obtain ⟨I1, I2⟩ := ih (l + 1) q v1 (n + c1.length + c2.length) w.2 b2 b10 b3 (by omega)
        refine ⟨?_, fun hx => eo (I2 (by omega))⟩
        generalize lp_M_act_62 a1 a2 m 1 w.2 = z at I1
        show mAO L s n l (match rp_act (tz T L) mm_N m (l + 1) q v1 with | .inl e => (.inl e : (Nat × Nat) ⊕ List rlL) | .inr Ls => .inr ((sub, c1, c2) :: Ls)) z
        cases hr2 : rp_act (tz T L) mm_N m (l + 1) q v1 with
        | inl e =>
          rw [hr2] at I1
          exact ⟨fp_t f I1.1, I1.2⟩
        | inr Ls =>
          rw [hr2] at I1
          obtain ⟨g, d1, d2, d3, d4, d5, d6, d7, d8, d9⟩ := I1
          have ml : (mcode ((sub, c1, c2) :: Ls)).length = c1.length + c2.length + (mcode Ls).length := by
            show (c1 ++ c2 ++ mcode Ls).length = _
            rw [List.length_append, List.length_append]
          refine ⟨fp_t f g, d1, ?_, ?_, ?_, d5, ⟨?_, ?_, ?_, ?_⟩, ?_, fun i hi => ?_, fun j hj => ?_⟩
          · rw [d2]
            congr 1
            show l + 1 + Ls.length = l + (Ls.length + 1)
            omega
          · rw [d3, ml]
            congr 1
            omega
          · rw [ml]
            omega
          · rw [(d8 l (by omega)).1]
            exact b4
          · rw [(d8 l (by omega)).2.1]
            exact b5
          · rw [(d8 l (by omega)).2.2]
            exact b6
          · exact d6
          · show c_sgm (gI z.2 166) 0 n (c1 ++ c2 ++ mcode Ls)
            rw [c_sgm_app]
            refine ⟨c_sgm_c (fun j hj => d9 j (by
              rw [List.length_append] at hj
              omega)) b8, ?_⟩
            rw [List.length_append, ← Nat.add_assoc]
            exact d7
          · obtain ⟨x1, x2, x3⟩ := d8 i (by omega)
            obtain ⟨y1, y2, y3⟩ := b7 i hi
            rw [x1, x2, x3]
            exact ⟨y1, y2, y3⟩
          · rw [d9 j (by omega)]
            exact b9 j hj
theorem M_cp1 {s : mS} {a l : Nat} (ha : a < 4) (hl : l ≤ 24) (h78 : gI s 116 78 = Int32.ofNat l) : ∃ w, lp_M_act_136 (Int32.ofNat a) mm_N 0 s = (Int32.ofNat l, w) ∧ okl_M_act_136 (Int32.ofNat a) mm_N 0 s ∧ fp [159, 160, 161] [] false s w ∧ (∀ j, gI w 159 j = if 24 * a ≤ j ∧ j < 24 * a + l then gI s 163 (j - 24 * a) else gI s 159 j) ∧ (∀ j, gI w 160 j = if 25 * a ≤ j ∧ j < 25 * a + l then gI s 164 (j - 25 * a) else gI s 160 j) ∧ ∀ j, gI w 161 j = if 24 * a ≤ j ∧ j < 24 * a + l then gI s 165 (j - 24 * a) else gI s 161 j := by
  have A := lp_up0 (L := lp_M_act_136 (Int32.ofNat a)) (OK := okl_M_act_136 (Int32.ofNat a)) (fun i w => fp [159, 160, 161] [] false s w ∧ (∀ j, gI w 159 j = if 24 * a ≤ j ∧ j < 24 * a + i then gI s 163 (j - 24 * a) else gI s 159 j) ∧ (∀ j, gI w 160 j = if 25 * a ≤ j ∧ j < 25 * a + i then gI s 164 (j - 25 * a) else gI s 160 j) ∧ ∀ j, gI w 161 j = if 24 * a ≤ j ∧ j < 24 * a + i then gI s 165 (j - 24 * a) else gI s 161 j) l (by omega) s ⟨fp_r, fun j => by rw [if_neg (by omega)], fun j => by rw [if_neg (by omega)], fun j => by rw [if_neg (by omega)]⟩
    (fun n i w hi hP => by
      obtain ⟨hf, h1, h2, h3⟩ := hP
      have w78 : gI w 116 78 = Int32.ofNat l := by rw [(fpF hf (by decide)).1, h78]
      have e0 := fl_lit w78 (by omega) (by omega) hi
      have e2 : ix (Int32.ofNat i) = i := ix_ofNat (by omega)
      have e3 : Int32.ofNat i + 1 = Int32.ofNat (i + 1) := ofNat_succ i
      have m1 := m24 a i
      have m2 := m25 a i
      have e4 : ix (Int32.ofNat (24 * a + i)) = 24 * a + i := ix_ofNat (by omega)
      have e5 : ix (Int32.ofNat (25 * a + i)) = 25 * a + i := ix_ofNat (by omega)
      have b1 : mm_inb (Int32.ofNat i) 24 = true := inb_ofNat (by decide) (by omega)
      have b2 : mm_inb (Int32.ofNat i) 25 = true := inb_ofNat (by decide) (by omega)
      have b3 : mm_inb (Int32.ofNat (24 * a + i)) 96 = true := inb_ofNat (by decide) (by omega)
      have b4 : mm_inb (Int32.ofNat (25 * a + i)) 100 = true := inb_ofNat (by decide) (by omega)
      have w3 : gI w 163 i = gI s 163 i := by rw [(fpA hf (by decide)).1]
      have w4 : gI w 164 i = gI s 164 i := by rw [(fpA hf (by decide)).1]
      have w5 : gI w 165 i = gI s 165 i := by rw [(fpA hf (by decide)).1]
      refine ⟨sI (sI (sI w 159 (24 * a + i) (gI s 163 i)) 160 (25 * a + i) (gI s 164 i)) 161 (24 * a + i) (gI s 165 i), ?_, ?_, fp_IA (fp_IA (fp_IA hf (by decide)) (by decide)) (by decide), fun j => ?_, fun j => ?_, fun j => ?_⟩
      · simp only [lp_M_act_136, e0, if_false, e2, e3, m1, m2, e4, e5, w3, gI_sI, Nat.reduceEqDiff, false_and, w4, w5]
      · intro q
        simp only [okl_M_act_136, e0, if_false, e2, e3, m1, m2, e4, e5, w3, gI_sI, Nat.reduceEqDiff, false_and, w4, w5, b1, b2, b3, b4, true_and]
        exact q
      · rw [gI_sI, if_neg (fun q => absurd q.1 (by decide)), gI_sI, if_neg (fun q => absurd q.1 (by decide)), gI_sI]
        by_cases e : j = 24 * a + i
        · rw [if_pos ⟨rfl, e⟩, if_pos (by omega), e, show 24 * a + i - 24 * a = i by omega]
        · rw [if_neg (fun q => e q.2), h1 j]
          by_cases r : 24 * a ≤ j ∧ j < 24 * a + i
          · rw [if_pos r, if_pos (by omega)]
          · rw [if_neg r, if_neg (by omega)]
      · rw [gI_sI, if_neg (fun q => absurd q.1 (by decide)), gI_sI]
        by_cases e : j = 25 * a + i
        · rw [if_pos ⟨rfl, e⟩, if_pos (by omega), e, show 25 * a + i - 25 * a = i by omega]
        · rw [if_neg (fun q => e q.2), gI_sI, if_neg (fun q => absurd q.1 (by decide)), h2 j]
          by_cases r : 25 * a ≤ j ∧ j < 25 * a + i
          · rw [if_pos r, if_pos (by omega)]
          · rw [if_neg r, if_neg (by omega)]
      · rw [gI_sI]
        by_cases e : j = 24 * a + i
        · rw [if_pos ⟨rfl, e⟩, if_pos (by omega), e, show 24 * a + i - 24 * a = i by omega]
        · rw [if_neg (fun q => e q.2), gI_sI, if_neg (fun q => absurd q.1 (by decide)), gI_sI, if_neg (fun q => absurd q.1 (by decide)), h3 j]
          by_cases r : 24 * a ≤ j ∧ j < 24 * a + i
          · rw [if_pos r, if_pos (by omega)]
          · rw [if_neg r, if_neg (by omega)])
    (fun n w hP => by
      have w78 : gI w 116 78 = Int32.ofNat l := by rw [(fpF hP.1 (by decide)).1, h78]
      have e0 := fl_lit' w78
      constructor
      · simp only [lp_M_act_136, e0, if_true]
      · simp only [okl_M_act_136, e0, if_true])
  exact A
theorem M_cp2 {s : mS} {a N : Nat} (ha : a < 4) (hN : N ≤ 600) (h79 : gI s 116 79 = Int32.ofNat N) : ∃ w, lp_M_act_229 (Int32.ofNat a) mm_N 0 s = (Int32.ofNat (2 * N), w) ∧ okl_M_act_229 (Int32.ofNat a) mm_N 0 s ∧ fp [162] [] false s w ∧ ∀ j, gI w 162 j = if 1220 * a ≤ j ∧ j < 1220 * a + 2 * N then gI s 166 (j - 1220 * a) else gI s 162 j := by
  have A := lp_up0 (L := lp_M_act_229 (Int32.ofNat a)) (OK := okl_M_act_229 (Int32.ofNat a)) (fun i w => fp [162] [] false s w ∧ ∀ j, gI w 162 j = if 1220 * a ≤ j ∧ j < 1220 * a + i then gI s 166 (j - 1220 * a) else gI s 162 j) (2 * N) (by omega) s ⟨fp_r, fun j => by rw [if_neg (by omega)]⟩
    (fun n i w hi hP => by
      obtain ⟨hf, h1⟩ := hP
      have w79 : 2 * gI w 116 79 = Int32.ofNat (2 * N) := by
        rw [(fpF hf (by decide)).1, h79, show (2 : Int32) = Int32.ofNat 2 from rfl, Int32.ofNat_mul]
      have e0 : ¬ 2 * gI w 116 79 ≤ Int32.ofNat i := by
        rw [w79]
        exact fl_lit rfl (by omega) (by omega) hi
      have e2 : ix (Int32.ofNat i) = i := ix_ofNat (by omega)
      have e3 : Int32.ofNat i + 1 = Int32.ofNat (i + 1) := ofNat_succ i
      have m1 : 1220 * Int32.ofNat a + Int32.ofNat i = Int32.ofNat (1220 * a + i) := by
        rw [show (1220 : Int32) = Int32.ofNat 1220 from rfl, ← Int32.ofNat_mul, ← Int32.ofNat_add]
      have e4 : ix (Int32.ofNat (1220 * a + i)) = 1220 * a + i := ix_ofNat (by omega)
      have b1 : mm_inb (Int32.ofNat i) 1220 = true := inb_ofNat (by decide) (by omega)
      have b3 : mm_inb (Int32.ofNat (1220 * a + i)) 4880 = true := inb_ofNat (by decide) (by omega)
      have w3 : gI w 166 i = gI s 166 i := by rw [(fpA hf (by decide)).1]
      refine ⟨sI w 162 (1220 * a + i) (gI s 166 i), ?_, ?_, fp_IA hf (by decide), fun j => ?_⟩
      · simp only [lp_M_act_229, e0, if_false, e2, e3, m1, e4, w3]
      · intro q
        simp only [okl_M_act_229, e0, if_false, e2, e3, m1, e4, w3, b1, b3, true_and]
        exact q
      · rw [gI_sI]
        by_cases e : j = 1220 * a + i
        · rw [if_pos ⟨rfl, e⟩, if_pos (by omega), e, show 1220 * a + i - 1220 * a = i by omega]
        · rw [if_neg (fun q => e q.2), h1 j]
          by_cases r : 1220 * a ≤ j ∧ j < 1220 * a + i
          · rw [if_pos r, if_pos (by omega)]
          · rw [if_neg r, if_neg (by omega)])
    (fun n w hP => by
      have w79 : 2 * gI w 116 79 = Int32.ofNat (2 * N) := by
        rw [(fpF hP.1 (by decide)).1, h79, show (2 : Int32) = Int32.ofNat 2 from rfl, Int32.ofNat_mul]
      have e0 : 2 * gI w 116 79 ≤ Int32.ofNat (2 * N) := by
        rw [w79]
        exact Int32.le_refl _
      constructor
      · simp only [lp_M_act_229, e0, if_true]
      · simp only [okl_M_act_229, e0, if_true])
  exact A
theorem c_sgm_b {a a' : Nat → Int32} {b b' : Nat} : ∀ {c : List cI} {n : Nat}, (∀ j, 2 * n ≤ j → j < 2 * (n + c.length) → a' (b' + j) = a (b + j)) → c_sgm a b n c → c_sgm a' b' n c
  | [], _, _, _ => trivial
  | i :: c, n, h, hs => by
    have h : ∀ j, 2 * n ≤ j → j < 2 * (n + (c.length + 1)) → a' (b' + j) = a (b + j) := h
    obtain ⟨h1, h2, h3⟩ := hs
    refine ⟨by rw [h _ (by omega) (by omega)]; exact h1, fun q => ?_, c_sgm_b (fun j h1 h2 => h j (by omega) (by omega)) h3⟩
    rw [Nat.add_assoc, h _ (by omega) (by omega), ← Nat.add_assoc]
    exact h2 q
/-- the lines where they are kept -/
theorem cl_Ms_w {w : mS} {a e0 : Nat} (he : e0 ≤ 609) (F P Q : Nat → Int32) : ∀ (Ls : List rlL) (l n : Nat), (∀ i, l ≤ i → i < l + Ls.length → gI w 159 (24 * a + i) = F i ∧ gI w 160 (25 * a + i) = P i ∧ gI w 161 (24 * a + i) = Q i) → gI w 160 (25 * a + (l + Ls.length)) = Int32.ofNat e0 → n + (mcode Ls).length = e0 → c_sgm (gI w 162) (1220 * a) n (mcode Ls) → (∀ s : mS, gI s 163 = F → gI s 164 = P → gI s 165 = Q → mtab s l n Ls) → cl_Ms w a l (Ls.map cl_of)
  | [], _, _, _, _, _, _, _ => trivial
  | y :: Ls, l, n, h1, h2, h3, h4, h5 => by
    obtain ⟨t1, t2, t3, t4⟩ := h5 (sA (sA (sA w 163 F) 164 P) 165 Q) (by
      rw [fI_sA, if_neg (by decide), fI_sA, if_neg (by decide), fI_sA, if_pos rfl]) (by
      rw [fI_sA, if_neg (by decide), fI_sA, if_pos rfl]) (by
      rw [fI_sA, if_pos rfl])
    have f163 : gI (sA (sA (sA w 163 F) 164 P) 165 Q) 163 = F := by rw [fI_sA, if_neg (by decide), fI_sA, if_neg (by decide), fI_sA, if_pos rfl]
    have f164 : gI (sA (sA (sA w 163 F) 164 P) 165 Q) 164 = P := by rw [fI_sA, if_neg (by decide), fI_sA, if_pos rfl]
    have f165 : gI (sA (sA (sA w 163 F) 164 P) 165 Q) 165 = Q := by rw [fI_sA, if_pos rfl]
    rw [f163] at t1
    rw [f164] at t2
    rw [f165] at t3
    have ll : (y :: Ls).length = Ls.length + 1 := rfl
    have mc : mcode (y :: Ls) = y.2.1 ++ (y.2.2 ++ mcode Ls) := by
      show y.2.1 ++ y.2.2 ++ mcode Ls = _
      rw [List.append_assoc]
    have ml : (mcode (y :: Ls)).length = y.2.1.length + (y.2.2.length + (mcode Ls).length) := by
      rw [mc, List.length_append, List.length_append]
    rw [mc, c_sgm_app, c_sgm_app] at h4
    have a0 := h1 l (Nat.le_refl l) (by omega)
    have nxt : gI w 160 (25 * a + l + 1) = Int32.ofNat (n + y.2.1.length + y.2.2.length) := by
      cases Ls with
      | nil =>
        rw [show 25 * a + l + 1 = 25 * a + (l + [y].length) from rfl, h2]
        congr 1
        have e : (mcode ([] : List rlL)).length = 0 := rfl
        omega
      | cons y' Ls' =>
        have t4' : P (l + 1) = Int32.ofNat (n + y.2.1.length + y.2.2.length) := by
          have z := t4.2.1
          rw [f164] at z
          exact z
        rw [show 25 * a + l + 1 = 25 * a + (l + 1) by omega, (h1 (l + 1) (by omega) (by
          show l + 1 < l + (Ls'.length + 1 + 1)
          omega)).2.1, t4']
    refine ⟨⟨by rw [a0.1, t1]; rfl, n, n + y.2.1.length, n + y.2.1.length + y.2.2.length, by rw [a0.2.1, t2], by rw [a0.2.2, t3], nxt, rfl, rfl, by omega, h4.1, h4.2.1⟩, ?_⟩
    refine cl_Ms_w he F P Q Ls (l + 1) (n + y.2.1.length + y.2.2.length) (fun i hi1 hi2 => h1 i (by omega) (by omega)) (by
      rw [← h2, ll]
      congr 2
      omega) (by omega) h4.2.2 (fun s e1 e2 e3 => (h5 s e1 e2 e3).2.2.2)
theorem cl_Ms_keep {u w : mS} {k : Nat} (h9 : ∀ j, 24 * k ≤ j → j < 24 * k + 24 → gI w 159 j = gI u 159 j ∧ gI w 161 j = gI u 161 j) (h0 : ∀ j, 25 * k ≤ j → j < 25 * k + 25 → gI w 160 j = gI u 160 j) (h2 : ∀ j, j < 1220 → gI w 162 (1220 * k + j) = gI u 162 (1220 * k + j)) : ∀ {R : List cL} {i : Nat}, i + R.length ≤ 24 → cl_Ms u k i R → cl_Ms w k i R
  | [], _, _, _ => trivial
  | l :: R, i, hi, h => by
    have hi : i + (R.length + 1) ≤ 24 := hi
    obtain ⟨⟨a1, p, q, e, a2, a3, a4, a5, a6, a7, a8, a9⟩, hR⟩ := h
    refine ⟨⟨by rw [(h9 _ (by omega) (by omega)).1]; exact a1, p, q, e, by rw [h0 _ (by omega) (by omega)]; exact a2, by rw [(h9 _ (by omega) (by omega)).2]; exact a3, by rw [h0 _ (by omega) (by omega)]; exact a4, a5, a6, a7, c_sgm_b (fun j _ h => h2 j (by omega)) a8, c_sgm_b (fun j _ h => h2 j (by omega)) a9⟩, cl_Ms_keep h9 h0 h2 (by omega) hR⟩
