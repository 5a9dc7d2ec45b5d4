/-! BEST: the class's answer. -/
theorem inS_neg (V : Int32) (s : mS) : ∀ j, j < 0 → f_M_inStep V j s = 0 := fun j h => by
  unfold f_M_inStep
  simp only [mq_let_e, z_isIn, ite_not]
  rw [if_neg (fun q => absurd q.1 (Int32.not_le.mpr h))]
theorem inS_big (V : Int32) (s : mS) : ∀ a, 16 ≤ a → a < 32 → f_M_inStep V (Int32.ofNat a) s = 0 := fun a h1 h2 => by
  unfold f_M_inStep
  simp only [mq_let_e, z_isIn, ite_not]
  rw [if_neg (fun q => absurd q.2 (Int32.not_le.mpr ((ofNat_lt (a := 15) (by omega) (by omega)).mpr (by omega))))]
def b_most (s : mS) (p : Nat) : Int32 := if p = 0 then gI s 116 2 / 3 - gI s 116 3 else gI s 116 2 / 3
/-- the levels behind the steps of a place -/
def b_L (s : mS) (B T : Nat) (V : Int32) (p : Nat) (x : Nat → Int32) (lv : Int32) : Int32 := bs_lv (fun i => f_M_inStep V i s) (bG s B) (bW s T) (gI s 116 5) x (4 * p) 4 lv
def b_Cap (s : mS) (B : Nat) : Nat → (Nat → Int32) → Nat := bs_C (b_most s) (b_cold (gI s 8) B)
theorem G_bestE {s : mS} {B T S : Nat} {a1 a2 a3 V : Int32} (x0 : Nat → Int32) (h_sky : J_sky s) (h_things : J_things s) (h_gen : J_gen s) (h_bench : J_bench s) (h_share : J_share s) (h_coal : J_coal s) (h_level : J_level s) (hB : gI s 116 4 = Int32.ofNat B) (hB6 : B ≤ 6) (hT : gI s 116 8 = Int32.ofNat T) (hT2 : T ≤ 40) (c0 : 0 ≤ a1 ∧ a1 ≤ 2) (c1 : 1 ≤ a2 ∧ a2 ≤ 9) (c2 : 0 ≤ a3 ∧ a3 ≤ 8) (hV : V = a2 * gI s 118 (ix a1)) (hS : gI s 121 (ix a1) / a2 = Int32.ofNat S) (hS9 : S ≤ 9999) :
    ok_G_best a1 a2 a3 s ∧ ∃ old, (f_G_best a1 a2 a3 s).1 = if 1000 ≤ (bs_S (b_Cap s B) (b_L s B T V) S 8 x0 0 (gI s 116 6) (1000, old)).1 then -1 else if a3 = 0 then Int32.ofNat (bs_S (b_Cap s B) (b_L s B T V) S 8 x0 0 (gI s 116 6) (1000, old)).1 else (bs_S (b_Cap s B) (b_L s B T V) S 8 x0 0 (gI s 116 6) (1000, old)).2 (ix (a3 - 1)) := by
  have kc := h_coal
  unfold J_coal at kc
  have kb := h_bench
  unfold J_bench at kb
  have kl := h_level
  unfold J_level at kl
  have e38 : gI s 3 8 = gI s 116 4 := kb.2.2.2.2.2.2.2.2.1
  have e39 : gI s 3 9 = gI s 116 2 := kb.2.2.2.2.2.2.2.2.2.2.2.2.1
  have e310 : gI s 3 10 = gI s 116 3 := kb.2.2.2.2.2.2.2.2.2.2.2.2.2.2.2.1
  obtain ⟨f1, f2, f3, f4⟩ := G_foresee h_sky h_things h_gen h_bench h_share hB hB6 hT hT2
  generalize hw1 : f_Night_foresee (gI s 0 9) s = w1 at f2 f3 f4
  have k3 : mm_inb a1 3 = true := inb_3 c0.1 (by grind)
  obtain ⟨w2, g1, g2, g3, g4⟩ := G_ones (s := w1) (a2 := a1) (a3 := a2) (V := V) k3 (by rw [(fpA f2 (by decide)).1, kc.1, hV]) (jf_share f2 (by decide) h_share)
  have s2 : fp [95, 96, 97] [] false s w2 := fp_t (fp_m f2 (by decide) (by decide) (fun h => h)) (fp_m g3 (by decide) (by decide) (fun h => h))
  have w2_39 : gI w2 3 9 = gI s 116 2 := by rw [(fpF s2 (by decide)).1, e39]
  obtain ⟨w3, m1, m2, m3, m4, m5⟩ := G_most (s := w2) (a2 := a1) (a3 := a2) (a4 := gI s 116 2 / 3) (B := B) (by rw [(fpF s2 (by decide)).1, e38, hB]) hB6
  have s3 : fp [95, 96, 97, 98, 99] [] false s w3 := fp_t (fp_m s2 (by decide) (by decide) (fun h => h)) (fp_m m3 (by decide) (by decide) (fun h => h))
  have w3_7 : gI w3 7 = gI s 121 := by rw [(fpA s3 (by decide)).1, kc.2.2.2.1]
  have w3_11 : gI w3 3 11 = gI s 116 5 := by rw [(fpF s3 (by decide)).1, kl.1]
  have w3_12 : gI w3 3 12 = gI s 116 6 := by rw [(fpF s3 (by decide)).1, kl.2.1]
  have f4' : fp [] [(94, 7), (94, 8), (94, 9)] false w3 (sI (sI (sI w3 94 7 (Int32.ofNat S)) 94 8 (gI s 116 5)) 94 9 1000) := fp_IF (fp_IF (fp_IF fp_r (by decide)) (by decide)) (by decide)
  have i7 : gI (sI (sI (sI w3 94 7 (Int32.ofNat S)) 94 8 (gI s 116 5)) 94 9 1000) 94 7 = Int32.ofNat S := by
    rw [gI_sI, if_neg (by decide), gI_sI, if_neg (by decide), gI_sI, if_pos ⟨rfl, rfl⟩]
  have i8 : gI (sI (sI (sI w3 94 7 (Int32.ofNat S)) 94 8 (gI s 116 5)) 94 9 1000) 94 8 = gI s 116 5 := by
    rw [gI_sI, if_neg (by decide), gI_sI, if_pos ⟨rfl, rfl⟩]
  have i9 : gI (sI (sI (sI w3 94 7 (Int32.ofNat S)) 94 8 (gI s 116 5)) 94 9 1000) 94 9 = 1000 := by
    rw [gI_sI, if_pos ⟨rfl, rfl⟩]
  generalize hw4 : sI (sI (sI w3 94 7 (Int32.ofNat S)) 94 8 (gI s 116 5)) 94 9 1000 = w4 at f4' i7 i8 i9
  have hK : bsK w4 S (fun i => f_M_inStep V i s) (bG s B) (bW s T) (gI s 116 5) (b_most s) (b_cold (gI s 8) B) := by
    refine ⟨i7, i8, fun a ha => ?_, fun i hi => ?_, fun i hi => ?_, fun p hp => ?_, fun p hp => ?_, hS9, inS_neg V s, inS_big V s⟩
    · rw [(fpA f4' (by decide)).1, (fpA m3 (by decide)).1, g4 a ha]
      unfold f_M_inStep
      simp only [mq_let_e, z_isIn, (fpA (c := 117) f2 (by decide)).1]
    · rw [(fpA f4' (by decide)).1, (fpA m3 (by decide)).1, (fpA g3 (by decide)).1, f3 i hi]
    · rw [(fpA f4' (by decide)).1, (fpA m3 (by decide)).1, (fpA g3 (by decide)).1, f4 i hi]
    · rw [(fpA f4' (by decide)).1, m4 p hp, (fpF s2 (by decide)).1, e310]
      rfl
    · rw [(fpA f4' (by decide)).1, m5 p hp, (fpA s2 (by decide)).1]
  have SK := G_seek hK 8 (Nat.le_refl 8) x0 0 (gI s 116 6) (1000, gI w4 101) w4 ⟨fp_r, fun i hi => absurd hi (by omega), i9, fun i _ => rfl, Nat.le_refl 1000⟩ (Nat.zero_le S)
  obtain ⟨q1, q2⟩ := SK
  have q1' : ok_Night_seekT 0 0 (gI s 116 6) w4 := q1
  have q2' : bsP w4 0 x0 (bs_S (b_Cap s B) (b_L s B T V) S 8 x0 0 (gI s 116 6) (1000, gI w4 101)) (f_Night_seekT 0 0 (gI s 116 6) w4) := q2
  obtain ⟨_, _, p3, p4, p5⟩ := q2'
  generalize hRR : bs_S (b_Cap s B) (b_L s B T V) S 8 x0 0 (gI s 116 6) (1000, gI w4 101) = R at p3 p4 p5
  have w1c : ¬ f_Works_isCoal a1 w1 = 0 := by
    rw [z_wcoal]
    exact fun q => q c0
  have PE : f_Night_plan a1 a2 w1 = (if 1000 ≤ R.1 then 0 else 1, f_Night_seekT 0 0 (gI s 116 6) w4) := by
    have ge : (1000 : Int32) ≤ Int32.ofNat R.1 ↔ 1000 ≤ R.1 := ofNat_le (a := 1000) (by omega) (by omega)
    simp only [f_Night_plan, mq_let_e, w1c, if_false, c1.1, if_true, g1, w2_39, m1, w3_7, hS, w3_11, w3_12, hw4, p3, ge]
    split <;> rfl
  have PO : ok_Night_plan a1 a2 w1 := by
    simp only [ok_Night_plan, mq_letP_e, w1c, if_false, c1.1, if_true, g1, w2_39, m1, w3_7, hS, w3_11, w3_12, hw4, true_and, and_true, k3]
    have a0 : ¬ a2 = 0 := by have := c1.1; grind
    exact ⟨g2, m2, by simp [a0], q1'⟩
  have sc : ¬ f_Works_isCoal a1 s = 0 := by
    rw [z_wcoal]
    exact fun q => q c0
  have n1 : ¬ (1 : Int32) = 0 := by decide
  have a30 : ¬ a3 = 0 → 0 ≤ a3 - 1 ∧ a3 - 1 < 8 := fun e => by
    have := c2.1
    have := c2.2
    constructor <;> grind
  clear hV hS
  refine ⟨?_, gI w4 101, ?_⟩
  · simp only [ok_G_best, mq_letP_e, sc, if_false, z_within, ite_not, c1, c2, and_self, if_true, hw1, PE, true_and, and_true]
    refine ⟨f1, PO, ?_⟩
    by_cases d : 1000 ≤ R.1
    · rw [if_pos d]
      trivial
    · rw [if_neg d, if_neg n1]
      by_cases e : a3 = 0
      · rw [if_pos e]
        trivial
      · rw [if_neg e]
        exact inb_8 (a30 e).1 (a30 e).2
  · rw [hRR]
    simp only [f_G_best, mq_let_e, sc, if_false, z_within, ite_not, c1, c2, and_self, if_true, hw1, PE]
    by_cases d : 1000 ≤ R.1
    · rw [if_pos d, if_pos d]
      rfl
    · rw [if_neg d, if_neg d, if_neg n1]
      by_cases e : a3 = 0
      · rw [if_pos e, if_pos e]
        exact p3
      · rw [if_neg e, if_neg e]
        exact p4 _ (ixl_8 (a30 e).1 (a30 e).2)
