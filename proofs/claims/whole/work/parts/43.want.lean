/-! WHAT THINGS WANT: both classes alike; bounds. -/
theorem rng_toInt {x : Int32} {a b : Nat} (h0 : Int32.ofNat a ≤ x) (h : x ≤ Int32.ofNat b) (ha : a < 2147483648) (hb : b < 2147483648) : (a : Int) ≤ x.toInt ∧ x.toInt ≤ b := by
  rw [le_toInt, toInt_ofNat ha] at h0
  rw [le_toInt, toInt_ofNat hb] at h
  exact ⟨h0, h⟩
theorem toInt_rng {x : Int32} {a b : Nat} (h0 : (a : Int) ≤ x.toInt) (h : x.toInt ≤ b) (ha : a < 2147483648) (hb : b < 2147483648) : Int32.ofNat a ≤ x ∧ x ≤ Int32.ofNat b := by
  rw [le_toInt, toInt_ofNat ha, le_toInt, toInt_ofNat hb]
  exact ⟨h0, h⟩
theorem fog_eq {s : mS} (h : J_sky s) {a : Int32} (h0 : 0 ≤ a) (ha : a ≤ 10000) : f_Sky_fogIn a s = f_M_fogIn a s ∧ ok_Sky_fogIn a s := by
  have := day_rng h0 ha
  unfold J_sky at h
  constructor
  · unfold f_Sky_fogIn f_Sky_dayOf f_M_fogIn
    simp only [mq_let_e, h.1]
    rw [if_neg (by grind)]
  · unfold ok_Sky_fogIn f_Sky_dayOf
    simp only [mq_letP_e, true_and, and_true]
    split
    · trivial
    · split
      · trivial
      · exact inb_42 this.1 (by grind)
theorem fog_rng {s : mS} (h : J_sky s) (a : Int32) : 0 ≤ f_M_fogIn a s ∧ f_M_fogIn a s ≤ 3 := by
  unfold J_sky at h
  unfold f_M_fogIn
  split
  · decide
  · exact h.2.2.2 _
theorem house_eq {s : mS} (h : J_sky s) {a : Int32} (h0 : 0 ≤ a) (ha : a ≤ 10000) (w : Int32) : f_Sky_houseWant a w s = f_M_byHour w a s ∧ ok_Sky_houseWant a w s := by
  have e1 := fog_eq h h0 ha
  have e2 := hour_eq h0 ha
  constructor
  · unfold f_Sky_houseWant f_Sky_hourOf f_Sky_dayOf f_Sky_hourlyWant f_M_byHour
    simp only [mq_let_e, e1.1, e2]
    rw [Int32.mul_comm w 2]
  · unfold ok_Sky_houseWant
    simp only [mq_letP_e, e1.2, true_and, and_true]
theorem want_eq {s : mS} (h : J_sky s) (ht : J_things s) {t : Nat} (hT : Int32.ofNat t < gI s 116 8) (h40 : t < 40) {a : Int32} (h0 : 0 ≤ a) (ha : a ≤ 10000) : f_Things_wantOf (Int32.ofNat t) a s = f_M_wants (Int32.ofNat t) a s ∧ ok_Things_wantOf (Int32.ofNat t) a s := by
  have e1 := fog_eq h h0 ha
  have e2 := inday_eq a
  have e3 : ¬ f_Things_has (Int32.ofNat t) s = 0 := by
    rw [z_tha]
    unfold J_things at ht
    have : Int32.ofNat t < 40 := (ofNat_lt (b := 40) (by omega) (by omega)).mpr h40
    have : (0 : Int32) ≤ Int32.ofNat t := (ofNat_le (a := 0) (by omega) (by omega)).mpr (by omega)
    grind
  have e4 : ix (Int32.ofNat t) = t := ix_ofNat (by omega)
  have e5 : mm_inb (Int32.ofNat t) 40 = true := inb_ofNat (by decide) h40
  unfold J_sky at h
  unfold J_things at ht
  constructor
  · unfold f_Things_wantOf f_Sky_lampBurns f_Sky_dayOf f_M_wants
    simp only [mq_let_e, e1.1, e2, e3, e4, if_false, (house_eq h h0 ha _).1, ht.1, ht.2.1, ht.2.2.1, ht.2.2.2.1, ht.2.2.2.2.1, ht.2.2.2.2.2.2.1, h.2.1, h.2.2.1]
    split
    · split
      · rfl
      · split
        · split
          · rw [if_neg (by decide)]
          · split
            · rw [if_neg (by decide)]
            · split
              · rw [if_pos (by decide), if_pos (by grind)]
              · rw [if_neg (by decide), if_neg (by grind)]
        · split
          · split
            · rw [if_pos (by grind)]
            · split
              · grind
              · rfl
          · rfl
    · rfl
  · unfold ok_Things_wantOf ok_Sky_lampBurns
    simp only [mq_letP_e, e1.2, e3, e5, if_false, (house_eq h h0 ha _).2, true_and, and_true, ite_self]
theorem hour_rng {w : Int32} (h0 : 0 ≤ w) (h : w ≤ 99) (x : Int32) : 0 ≤ (if (6 : Int32) ≤ x then (if (10 : Int32) ≤ x then (if x < 16 then (w / 2) else (if x = 23 then (w / 2) else (2 * w))) else w) else (w / 4)) ∧ (if (6 : Int32) ≤ x then (if (10 : Int32) ≤ x then (if x < 16 then (w / 2) else (if x = 23 then (w / 2) else (2 * w))) else w) else (w / 4)) ≤ 198 := by
  have e0 := toInt_0
  have e1 : (99 : Int32).toInt = 99 := rfl
  have e2 : (198 : Int32).toInt = 198 := rfl
  have e3 : (2 : Int32).toInt = 2 := rfl
  have e4 : (4 : Int32).toInt = 4 := rfl
  have d1 : (w / 2).toInt = w.toInt / 2 := div_nn h0 (by decide)
  have d2 : (w / 4).toInt = w.toInt / 4 := div_nn h0 (by decide)
  rw [le_toInt] at h0 h
  have d3 : (2 * w).toInt = 2 * w.toInt := by rw [mul_nn] <;> rw [e3] <;> omega
  have k1 : 0 ≤ w / 2 ∧ w / 2 ≤ 198 := by rw [le_toInt, le_toInt, d1]; omega
  have k2 : 0 ≤ w / 4 ∧ w / 4 ≤ 198 := by rw [le_toInt, le_toInt, d2]; omega
  have k3 : 0 ≤ 2 * w ∧ 2 * w ≤ 198 := by rw [le_toInt, le_toInt, d3]; omega
  have k4 : 0 ≤ w ∧ w ≤ 198 := by rw [le_toInt, le_toInt]; omega
  split
  · split
    · split
      · exact k1
      · split
        · exact k1
        · exact k3
    · exact k4
  · exact k2
theorem byHour_rng {s : mS} (h : J_sky s) {w : Int32} (h0 : 0 ≤ w) (hw : w ≤ 99) (a : Int32) : 0 ≤ f_M_byHour w a s ∧ f_M_byHour w a s ≤ 495 := by
  have e1 := fog_rng h a
  unfold f_M_byHour
  simp only [mq_let_e]
  have e2 := hour_rng h0 hw ((a - a / 96 * 96) / 4)
  revert e2
  generalize (if (6 : Int32) ≤ ((a - a / 96 * 96) / 4) then (if (10 : Int32) ≤ ((a - a / 96 * 96) / 4) then (if ((a - a / 96 * 96) / 4) < 16 then (w / 2) else (if ((a - a / 96 * 96) / 4) = 23 then (w / 2) else (2 * w))) else w) else (w / 4)) = x
  intro e2
  generalize f_M_fogIn a s = f at e1
  have z0 := toInt_0
  have z1 : (198 : Int32).toInt = 198 := rfl
  have z2 : (3 : Int32).toInt = 3 := rfl
  have z3 : (2 : Int32).toInt = 2 := rfl
  have z4 : (495 : Int32).toInt = 495 := rfl
  simp only [le_toInt, z0, z1, z2] at e1 e2
  have d1 : (2 + f).toInt = 2 + f.toInt := by rw [add_nn] <;> rw [z3] <;> omega
  have b1 : 0 ≤ x.toInt * (2 + f.toInt) := Int.mul_nonneg e2.1 (by omega)
  have b2 : x.toInt * (2 + f.toInt) ≤ 198 * 5 := Int.mul_le_mul e2.2 (by omega) (by omega) (by omega)
  have d2 : (x * (2 + f)).toInt = x.toInt * (2 + f.toInt) := by rw [mul_nn] <;> rw [d1] <;> omega
  have d3 : ((x * (2 + f)) / 2).toInt = (x.toInt * (2 + f.toInt)) / 2 := by
    rw [div_nn _ (by decide), d2, z3]
    rw [le_toInt, d2]
    exact b1
  rw [le_toInt, le_toInt, d3, z0, z4]
  omega
theorem want_rng {s : mS} (h : J_sky s) (ht : J_things s) (hc : ∀ t, 0 ≤ gI s 136 t) (v a : Int32) : 0 ≤ f_M_wants v a s ∧ f_M_wants v a s ≤ 495 := by
  unfold J_things at ht
  have hw : 0 ≤ gI s 134 (ix v) ∧ gI s 134 (ix v) ≤ 99 := ht.2.2.2.2.2.2.2.2.2.2.2.2.2.2.2.2 (ix v)
  have e1 := byHour_rng h hw.1 hw.2 a
  have e2 := hc (ix v)
  unfold f_M_wants
  simp only [mq_let_e]
  split
  · split
    · exact e1
    · split
      · split
        · grind
        · split
          · grind
          · split
            · grind
            · grind
      · split
        · split
          · grind
          · exact e1
        · grind
  · decide
theorem allWants_eq {s : mS} {N T : Nat} (h : J_sky s) (ht : J_things s) (hT : gI s 116 8 = Int32.ofNat T) (hT2 : T ≤ 40) {a : Int32} (h0 : 0 ≤ a) (ha : a ≤ 10000) : f_Things_allWants a s = smI (fun t => f_M_wants (Int32.ofNat t) a s) T ∧ ok_Things_allWants a s := by
  have hG : gI s 12 12 = Int32.ofNat T := by
    unfold J_things at ht
    rw [ht.2.2.2.2.2.2.2.2.2.2.1, hT]
  have A := lp_sum (L := lp_Things_allWants_5 a s) (OK := okl_Things_allWants_5 a s) T (by omega) (fun t => f_M_wants (Int32.ofNat t) a s)
    (fun n i acc hi => by
      have e1 := fl_lit hG (by omega) (by omega) hi
      have e3 : Int32.ofNat i + 1 = Int32.ofNat (i + 1) := ofNat_succ i
      have e4 := want_eq h ht (t := i) (by rw [hT, ofNat_lt (by omega) (by omega)]; exact hi) (by omega) h0 ha
      constructor
      · simp only [lp_Things_allWants_5, mq_let_e, e1, if_false, e3, e4.1]
      · intro q
        simp only [okl_Things_allWants_5, mq_letP_e, e1, if_false, e3, e4.1, e4.2, true_and]
        exact q)
    (fun n acc => by
      have e1 := fl_lit' hG
      constructor
      · simp only [lp_Things_allWants_5, e1, if_true]
      · simp only [okl_Things_allWants_5, e1, if_true])
  constructor
  · unfold f_Things_allWants
    simp only [mq_let_e, A.1]
  · unfold ok_Things_allWants
    simp only [mq_letP_e, A.2, and_true]
theorem wantsIn_eq {s : mS} {T : Nat} (hT : gI s 116 8 = Int32.ofNat T) (hT2 : T ≤ 40) {a : Int32} (h0 : 0 ≤ a) (ha : a ≤ 10000) : f_M_wantsIn a s = smI (fun t => f_M_wants (Int32.ofNat t) a s) T ∧ ok_M_wantsIn a s := by
  have A := lp_sum (L := lp_M_wantsIn_4 a s) (OK := okl_M_wantsIn_4 a s) T (by omega) (fun t => f_M_wants (Int32.ofNat t) a s)
    (fun n i acc hi => by
      have e1 := fl_lit hT (by omega) (by omega) hi
      have e3 : Int32.ofNat i + 1 = Int32.ofNat (i + 1) := ofNat_succ i
      have e4 : ok_M_wants (Int32.ofNat i) a s := M_wants_ok (inb_ofNat (by decide) (by omega)) h0 ha
      constructor
      · simp only [lp_M_wantsIn_4, mq_let_e, e1, if_false, e3]
      · intro q
        simp only [okl_M_wantsIn_4, mq_letP_e, e1, if_false, e3, e4, true_and]
        exact q)
    (fun n acc => by
      have e1 := fl_lit' hT
      constructor
      · simp only [lp_M_wantsIn_4, e1, if_true]
      · simp only [okl_M_wantsIn_4, e1, if_true])
  constructor
  · unfold f_M_wantsIn
    simp only [mq_let_e, A.1]
  · unfold ok_M_wantsIn
    simp only [mq_letP_e, A.2, and_true]
/-- sums in Int -/
def smZ (w : Nat → Int) : Nat → Int
  | 0 => 0
  | k + 1 => smZ w k + w k
theorem smI_Z {w : Nat → Int32} {b : Nat} {M : Int} (h0 : ∀ j, j < b → 0 ≤ (w j).toInt ∧ (w j).toInt ≤ M) (hM : 0 ≤ M) (hb : b * M < 2147483648) : (smI w b).toInt = smZ (fun j => (w j).toInt) b ∧ 0 ≤ (smI w b).toInt ∧ (smI w b).toInt ≤ b * M := by
  induction b with
  | zero =>
    refine ⟨rfl, ?_, ?_⟩
    · exact Int.le_refl 0
    · simp [smI]
  | succ b ih =>
    have hs : ((b + 1 : Nat) : Int) * M = b * M + M := by
      rw [Int.natCast_add, Int.add_mul]
      simp
    rw [hs] at hb ⊢
    have ih := ih (fun j hj => h0 j (by omega)) (by omega)
    have hw := h0 b (by omega)
    have e : (smI w (b + 1)).toInt = (smI w b).toInt + (w b).toInt := by
      show (smI w b + w b).toInt = _
      rw [add_nn] <;> omega
    refine ⟨?_, ?_, ?_⟩
    · rw [e, ih.1]
      rfl
    · omega
    · omega
theorem smI_rng {w : Nat → Int32} {b M : Nat} (h0 : ∀ j, j < b → 0 ≤ w j ∧ w j ≤ Int32.ofNat M) (hb : b * M < 2147483648) (hM : M < 2147483648) : 0 ≤ smI w b ∧ smI w b ≤ Int32.ofNat (b * M) := by
  have := smI_Z (w := w) (b := b) (M := M) (fun j hj => by
    have := h0 j hj
    rw [le_toInt, le_toInt, toInt_ofNat hM] at this
    exact this) (by omega) (by
      have q : ((b * M : Nat) : Int) < 2147483648 := by omega
      rw [Int.natCast_mul] at q
      exact q)
  rw [le_toInt, le_toInt, toInt_ofNat hb]
  refine ⟨this.2.1, ?_⟩
  have h2 := this.2.2
  rw [Int.natCast_mul]
  exact h2
