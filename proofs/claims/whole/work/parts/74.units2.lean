/-! UNITS, the model. -/
theorem lg0 (d : Int32) : (if (0 : Int32) ≤ lg_cmp (Int32.toInt64 d) 0 then Int32.toInt64 d else 0) = Int32.toInt64 (if (0 : Int32) < d then d else 0) := by
  unfold lg_cmp
  have z : (0 : Int64).toInt = 0 := rfl
  by_cases h : (0 : Int32) < d
  · have h1 : (0 : Int64) < Int32.toInt64 d := by
      rw [Int64.lt_iff_toInt_lt, Int32.toInt_toInt64, z]
      rw [lt_toInt, toInt_0] at h
      exact h
    rw [if_pos h, if_pos h1, if_pos (by decide)]
  · rw [if_neg h]
    have h1 : ¬ (0 : Int64) < Int32.toInt64 d := by
      rw [Int64.lt_iff_toInt_lt, Int32.toInt_toInt64, z]
      rw [lt_toInt, toInt_0] at h
      exact h
    rw [if_neg h1]
    by_cases h2 : Int32.toInt64 d = 0
    · rw [if_pos h2, if_pos (by decide), h2]
      rfl
    · rw [if_neg h2, if_neg (by decide)]
      rfl
theorem lg0_0 : (if (0 : Int32) ≤ lg_cmp 0 0 then (0 : Int64) else 0) = 0 := by
  split <;> rfl
theorem step_mono {s : mS} {n : Nat} (h : ∀ r, r + 1 < n → gI s 151 r ≤ gI s 151 (r + 1)) : ∀ {a b : Nat}, a ≤ b → b < n → gI s 151 a ≤ gI s 151 b := by
  intro a b
  induction b with
  | zero =>
    intro h1 _
    have : a = 0 := by omega
    rw [this]
    exact Int32.le_refl _
  | succ b ih =>
    intro h1 h2
    by_cases q : a = b + 1
    · rw [q]
      exact Int32.le_refl _
    · exact Int32.le_trans (ih (by omega) (by omega)) (h b h2)
/-- every ordinal ahead has its reading -/
theorem rd_back {H : Nat → Int32} {t : Int32} : ∀ {r i : Nat}, H r = t → i ≤ hk_cnt H t r → ∃ x, x ≤ r ∧ H x = t ∧ hk_cnt H t x = i := by
  intro r
  induction r using Nat.strongRecOn with
  | _ r ih =>
    intro i h1 h2
    by_cases q : i = hk_cnt H t r
    · exact ⟨r, Nat.le_refl _, h1, q.symm⟩
    · obtain ⟨p, p1, p2, p3, p4⟩ := hk_prev_s (H := H) (t := t) (n := r) (by omega)
      obtain ⟨x, x1, x2, x3⟩ := ih p p1 p3 (by omega : i ≤ hk_cnt H t p)
      exact ⟨x, by omega, x2, x3⟩
section
variable {s : mS} {n m : Nat} {t : Int32}
/-- the reading ahead, by ordinals -/
theorem bk_P_ord {x y : Nat} (hx : x < n) (hn2 : n ≤ 200) (h1 : gI s 150 x = t) (h2 : gI s 150 y = t) (hc : hk_cnt (gI s 150) t y = hk_cnt (gI s 150) t x + 1) : bk_P s y = Int32.ofNat x := by
  have q : ¬ bk_P s y = -1 := by
    unfold bk_P
    rw [h2]
    obtain ⟨p, p1, p2, p3, p4⟩ := hk_prev_s (H := gI s 150) (t := t) (n := y) (by omega)
    rw [p2]
    have := hk_le (H := gI s 150) (t := t) y
    by_cases hp : p < 90000
    · exact ofNat_ne1 hp
    · have hpx : p = x := hk_uniq p3 h1 (by omega)
      omega
  obtain ⟨p, p1, p2, p3, p4⟩ := bk_P_lt q
  rw [h2] at p3 p4
  have : p = x := hk_uniq p3 h1 (by omega)
  rw [p2, this]
theorem bk_P_0 {x : Nat} (h1 : gI s 150 x = t) (hc : hk_cnt (gI s 150) t x = 0) : bk_P s x = -1 := by
  unfold bk_P
  rw [h1]
  exact hk_prev_0 hc
theorem M_units_1 (hn : gI s 116 57 = Int32.ofNat n) (hn2 : n ≤ 200) {a2 a3 : Int32} : ∀ (i k r : Nat), i < k → r < n → gI s 150 r = t → hk_cnt (gI s 150) t r = i → ∃ f, f ≤ i ∧ lp_M_units_6 t a2 a3 0 s k (Int32.ofNat i) = Int32.ofNat f ∧ okl_M_units_6 t a2 a3 0 s k (Int32.ofNat i) ∧ (∀ x, x < n → gI s 150 x = t → hk_cnt (gI s 150) t x = f → 0 < f → gI s 156 x = 0) ∧ (∀ x, x < n → gI s 150 x = t → f < hk_cnt (gI s 150) t x → hk_cnt (gI s 150) t x ≤ i → ¬ gI s 156 x = 0) := by
  intro i
  induction i with
  | zero =>
    intro k r hk hr h1 h2
    match k, hk with
    | k + 1, _ =>
      have e1 : Int32.ofNat 0 ≤ 0 := by decide
      refine ⟨0, Nat.le_refl _, ?_, ?_, fun _ _ _ _ h => absurd h (by omega), fun x _ _ h h' => by omega⟩
      · simp only [lp_M_units_6, e1, if_true]
      · simp only [okl_M_units_6, e1, if_true]
  | succ i ih =>
    intro k r hk hr h1 h2
    match k, hk with
    | k + 1, hk =>
      have hle := hk_le (H := gI s 150) (t := t) r
      have e1 : ¬ Int32.ofNat (i + 1) ≤ 0 := ofNat_pos (by omega)
      have M := M_rd hn hn2 t (Int32.ofNat (i + 1))
      rw [rd_some (by omega) hr h1 (by rw [h2])] at M
      have e2 : ix (Int32.ofNat r) = r := ix_ofNat (by omega)
      have b1 : mm_inb (Int32.ofNat r) 200 = true := inb_ofNat (by decide) (by omega)
      by_cases c : gI s 156 r = 0
      · refine ⟨i + 1, Nat.le_refl _, ?_, ?_, fun x hx h3 h4 _ => ?_, fun x _ _ h h' => by omega⟩
        · simp only [lp_M_units_6, mq_let_e, e1, if_false, M.1, e2, c, if_true]
        · simp only [okl_M_units_6, mq_letP_e, e1, if_false, M.1, M.2, e2, c, if_true, b1, true_and]
        · rw [hk_uniq h3 h1 (by omega)]
          exact c
      · obtain ⟨x, x1, x2, x3⟩ := rd_back (H := gI s 150) (i := i) h1 (by omega)
        obtain ⟨f, f1, f2, f3, f4, f5⟩ := ih k x (by omega) (by omega) x2 x3
        refine ⟨f, by omega, ?_, ?_, f4, fun y hy h3 h4 h5 => ?_⟩
        · simp only [lp_M_units_6, mq_let_e, e1, if_false, M.1, e2, c]
          rw [ofNat_pred _ (by omega)]
          exact f2
        · simp only [okl_M_units_6, mq_letP_e, e1, if_false, M.1, M.2, e2, c, b1, true_and]
          rw [ofNat_pred _ (by omega)]
          exact f3
        · by_cases q : hk_cnt (gI s 150) t y ≤ i
          · exact f5 y hy h3 h4 q
          · rw [hk_uniq h3 h1 (by omega)]
            exact c
theorem M_units_2 (hn : gI s 116 57 = Int32.ofNat n) (hn2 : n ≤ 200) (hst : ∀ r, r + 1 < n → gI s 151 r ≤ gI s 151 (r + 1)) (hrg : ∀ r, r < n → 0 ≤ gI s 151 r ∧ gI s 151 r ≤ gI s 116 1) (hnow : gI s 116 1 ≤ 3999) {sh : Nat → Int32} {j r f : Nat} (hr : r < n) (h1 : gI s 150 r = t) (h2 : hk_cnt (gI s 150) t r = j) (hfz : ∀ x, x < n → gI s 150 x = t → f < hk_cnt (gI s 150) t x → hk_cnt (gI s 150) t x ≤ j → ¬ gI s 156 x = 0) :
    ∀ (d i k x : Nat), i + d = j → d < k → f ≤ i → x < n → gI s 150 x = t → hk_cnt (gI s 150) t x = i → ∃ v, lp_M_units_83 t (Int32.ofNat j) s k (bk_un s sh x) (Int32.ofNat (i + 1)) = (bk_un s sh r, v) ∧ okl_M_units_83 t (Int32.ofNat j) s k (bk_un s sh x) (Int32.ofNat (i + 1)) := by
  intro d
  have hle := hk_le (H := gI s 150) (t := t) r
  induction d with
  | zero =>
    intro i k x hi hk hfi hx h3 h4
    have hxr : x = r := hk_uniq h3 h1 (by omega)
    match k, hk with
    | k + 1, _ =>
      have e1 : Int32.ofNat j < Int32.ofNat (i + 1) := (ofNat_lt (by omega) (by omega)).mpr (by omega)
      refine ⟨Int32.ofNat (i + 1), ?_, ?_⟩
      · simp only [lp_M_units_83, e1, if_true, hxr]
      · simp only [okl_M_units_83, e1, if_true]
  | succ d ih =>
    intro i k x hi hk hfi hx h3 h4
    match k, hk with
    | k + 1, hk =>
      have e1 : ¬ Int32.ofNat j < Int32.ofNat (i + 1) := Int32.not_lt.mpr ((ofNat_le (by omega) (by omega)).mpr (by omega))
      obtain ⟨y, y1, y2, y3⟩ := rd_back (H := gI s 150) (i := i + 1) h1 (by omega)
      have hy : y < n := by omega
      have hP : bk_P s y = Int32.ofNat x := bk_P_ord hx hn2 h3 y2 (by omega)
      have hz : ¬ gI s 156 y = 0 := hfz y hy y2 (by omega) (by omega)
      have e9 : ix (Int32.ofNat x) = x := ix_ofNat (by omega)
      have n1 : ¬ Int32.ofNat x = -1 := ofNat_ne1 (by omega)
      obtain ⟨v, I1, I2⟩ := ih (i + 1) k y (by omega) (by omega) (by omega) hy y2 y3
      by_cases c : i = 0
      · subst c
        have hU : bk_un s sh y = 0 := by
          rw [bk_un_eq (by omega)]
          unfold bk_v
          rw [hP, if_neg n1, if_neg hz, e9, bk_P_0 h3 h4, if_pos rfl]
        rw [hU] at I1 I2
        have e2 : Int32.ofNat (0 + 1) = 1 := rfl
        refine ⟨v, ?_, ?_⟩
        · rw [lp_M_units_83, if_neg e1, if_pos e2, ofNat_succ]
          exact I1
        · rw [okl_M_units_83, if_neg e1, if_pos e2, ofNat_succ]
          exact I2
      · have e2 : ¬ Int32.ofNat (i + 1) = 1 := by
          intro q
          have q' : Int32.ofNat (i + 1) = Int32.ofNat 1 := q
          rw [ofNat_e (by omega) (by omega)] at q'
          omega
        obtain ⟨w, w1, w2, w3⟩ := rd_back (H := gI s 150) (i := i - 1) h3 (by omega)
        have hw : w < n := by omega
        have hPx : bk_P s x = Int32.ofNat w := bk_P_ord hw hn2 w2 h3 (by omega)
        have n2 : ¬ Int32.ofNat w = -1 := ofNat_ne1 (by omega)
        have e10 : ix (Int32.ofNat w) = w := ix_ofNat (by omega)
        have s1 : Int32.ofNat (i + 1) - 1 = Int32.ofNat i := by
          rw [← ofNat_succ]
          simp
        have s2 : Int32.ofNat (i + 1) - 2 = Int32.ofNat (i - 1) := by
          have : i = (i - 1) + 1 := by omega
          rw [this, ← ofNat_succ, ← ofNat_succ]
          grind
        have R0 := M_rd hn hn2 t (Int32.ofNat (i - 1))
        rw [rd_some (by omega) hw w2 (by rw [w3])] at R0
        have R1 := M_rd hn hn2 t (Int32.ofNat i)
        rw [rd_some (by omega) hx h3 (by rw [h4])] at R1
        have R2 := M_rd hn hn2 t (Int32.ofNat (i + 1))
        rw [rd_some (by omega) hy y2 (by rw [y3])] at R2
        have e11 : ix (Int32.ofNat y) = y := ix_ofNat (by omega)
        have b1 : mm_inb (Int32.ofNat x) 200 = true := inb_ofNat (by decide) (by omega)
        have b2 : mm_inb (Int32.ofNat y) 200 = true := inb_ofNat (by decide) (by omega)
        have b3 : mm_inb (Int32.ofNat w) 200 = true := inb_ofNat (by decide) (by omega)
        have mo := step_mono hst (by omega : w ≤ x) hx
        have ra := hrg x hx
        have rb := hrg w hw
        have hU : bk_un s sh y = if gI s 151 x - gI s 151 w = 0 then 0 else (bk_un s sh x * Int32.toInt64 (gI s 151 y - gI s 151 x)) / Int32.toInt64 (gI s 151 x - gI s 151 w) := by
          rw [bk_un_eq (by omega)]
          unfold bk_v
          rw [hP, if_neg n1, if_neg hz, e9, hPx, if_neg n2, e10]
          by_cases q : gI s 151 x - gI s 151 w = 0
          · rw [if_pos q, q, if_neg (by decide)]
          · rw [if_neg q, if_pos]
            grind
        rw [hU] at I1 I2
        by_cases q : gI s 151 x - gI s 151 w = 0
        · rw [if_pos q] at I1 I2
          refine ⟨v, ?_, ?_⟩
          · rw [lp_M_units_83, if_neg e1, if_neg e2]
            simp only [mq_let_e, s1, s2, R0.1, R1.1, R2.1, e9, e10, e11, q, if_true, ofNat_succ]
            exact I1
          · rw [okl_M_units_83, if_neg e1, if_neg e2]
            simp only [mq_letP_e, s1, s2, R0.1, R1.1, R2.1, R0.2, R1.2, R2.2, e9, e10, e11, b1, b2, b3, q, if_true, true_and, ofNat_succ]
            exact I2
        · rw [if_neg q] at I1 I2
          have hnz : (!(decide (Int32.toInt64 (gI s 151 x - gI s 151 w) = (0 : Int64)))) = true := by
            simp only [Bool.not_eq_true', decide_eq_false_iff_not]
            intro q5
            have q6 := congrArg Int64.toInt q5
            rw [Int32.toInt_toInt64] at q6
            have z0 : (0 : Int64).toInt = 0 := rfl
            rw [z0] at q6
            exact q (Int32.toInt_inj.mp q6)
          refine ⟨v, ?_, ?_⟩
          · rw [lp_M_units_83, if_neg e1, if_neg e2]
            simp only [mq_let_e, s1, s2, R0.1, R1.1, R2.1, e9, e10, e11, q, if_false, ofNat_succ]
            exact I1
          · rw [okl_M_units_83, if_neg e1, if_neg e2]
            simp only [mq_letP_e, s1, s2, R0.1, R1.1, R2.1, R0.2, R1.2, R2.2, e9, e10, e11, b1, b2, b3, hnz, q, if_false, true_and, ofNat_succ]
            exact I2
theorem M_units (h_books : J_books s) (h_gen : J_gen s) (hn : gI s 116 57 = Int32.ofNat n) (hn2 : n ≤ 200) (hm : gI s 116 58 = Int32.ofNat m) (hm2 : m ≤ 100) (known : Int32) {r j : Nat} (hr : r < n) (h1 : gI s 150 r = t) (h2 : hk_cnt (gI s 150) t r = j) : f_M_units t (Int32.ofNat j) known s = bk_un s (fun k => bk_sh s known k m) r ∧ ok_M_units t (Int32.ofNat j) known s := by
  have hix : ix (gI s 116 57) = n := by rw [hn, ix_ofNat (by omega)]
  have kb := h_books
  unfold J_books at kb
  obtain ⟨b1, b2, b3, b4, b5, b6, b7, b8, b9, b10, b11, b12, b13, b14, b15, b16, b17, b18, b19, b20⟩ := kb
  have kg := h_gen
  unfold J_gen at kg
  have hle := hk_le (H := gI s 150) (t := t) r
  obtain ⟨f, f1, f2, f3, f4, f5⟩ := M_units_1 (t := t) (a2 := Int32.ofNat j) (a3 := known) hn hn2 j mm_N r (by rw [mm_Ns]; omega) hr h1 h2
  obtain ⟨x, x1, x2, x3⟩ := rd_back (H := gI s 150) (i := f) h1 (by omega)
  have hx : x < n := by omega
  obtain ⟨v, v1, v2⟩ := M_units_2 (t := t) hn hn2 (fun q hq => b19 q (by omega)) (fun q hq => b18 q (by omega)) kg.2.2.1 (sh := fun k => bk_sh s known k m) hr h1 h2 f5 (j - f) f mm_N x (by omega) (by rw [mm_Ns]; omega) (Nat.le_refl _) hx x2 x3
  by_cases c : f = 0
  · subst c
    have hU : bk_un s (fun k => bk_sh s known k m) x = 0 := by
      rw [bk_un_eq (by omega)]
      unfold bk_v
      rw [bk_P_0 x2 x3, if_pos rfl]
    rw [hU] at v1 v2
    have e1 : Int32.ofNat 0 ≤ 0 := by decide
    constructor
    · unfold f_M_units
      simp only [mq_let_e, f2, e1, if_true, lg0_0, ofNat_succ, v1]
    · unfold ok_M_units
      simp only [mq_let_e, mq_letP_e, f2, f3, e1, if_true, lg0_0, ofNat_succ, v1, v2, true_and]
  · have e1 : ¬ Int32.ofNat f ≤ 0 := by
      rw [show (0 : Int32) = Int32.ofNat 0 from rfl, ofNat_le (by omega) (by omega)]
      omega
    obtain ⟨w, w1, w2, w3⟩ := rd_back (H := gI s 150) (i := f - 1) x2 (by omega)
    have hw : w < n := by omega
    have s1 : Int32.ofNat f - 1 = Int32.ofNat (f - 1) := by
      have : f = (f - 1) + 1 := by omega
      rw [this, ← ofNat_succ]
      simp
    have R0 := M_rd hn hn2 t (Int32.ofNat (f - 1))
    rw [rd_some (by omega) hw w2 (by rw [w3])] at R0
    have R1 := M_rd hn hn2 t (Int32.ofNat f)
    rw [rd_some (by omega) hx x2 (by rw [x3])] at R1
    have S0 := M_shows hm hm2 known (by omega : w < 200)
    have S1 := M_shows hm hm2 known (by omega : x < 200)
    have hU : bk_un s (fun k => bk_sh s known k m) x = Int32.toInt64 (if (0 : Int32) < bk_sh s known x m - bk_sh s known w m then bk_sh s known x m - bk_sh s known w m else 0) := by
      rw [bk_un_eq (by omega)]
      unfold bk_v
      rw [bk_P_ord hw hn2 w2 x2 (by omega), if_neg (ofNat_ne1 (by omega)), if_pos (f4 x hx x2 x3 (by omega)), ix_ofNat (by omega)]
    rw [hU] at v1 v2
    constructor
    · unfold f_M_units
      simp only [mq_let_e, f2, e1, if_false, R0.1, R1.1, s1, S0.1, S1.1, lg0, ofNat_succ, v1]
    · unfold ok_M_units
      simp only [mq_let_e, mq_letP_e, f2, f3, e1, if_false, R0.1, R1.1, R0.2, R1.2, s1, S0.1, S1.1, S0.2, S1.2, lg0, ofNat_succ, v1, v2, true_and]
end
