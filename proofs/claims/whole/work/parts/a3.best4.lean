/-! BEST: the class's search, all of it. -/
theorem bs_atMost {S used : Nat} {y : Int32} (h : used ≤ S) (hS : S ≤ 9999) : (if (0 : Int32) < (if y < Int32.ofNat S - Int32.ofNat used then y else Int32.ofNat S - Int32.ofNat used) then (if y < Int32.ofNat S - Int32.ofNat used then y else Int32.ofNat S - Int32.ofNat used) else 0) = Int32.ofNat (min (S - used) (ix (if 0 < y then y else 0))) := by
  have e : Int32.ofNat S - Int32.ofNat used = Int32.ofNat (S - used) := by
    have e2 : Int32.ofNat (S - used) + Int32.ofNat used = Int32.ofNat S := by
      rw [← Int32.ofNat_add]
      congr 1
      omega
    rw [← e2]
    grind
  rw [e]
  generalize hd : S - used = d
  have hd2 : d ≤ 9999 := by omega
  have z : (0 : Int32) = Int32.ofNat 0 := rfl
  by_cases c : y < Int32.ofNat d
  · simp only [if_pos c]
    by_cases q : 0 < y
    · rw [if_pos q]
      have l : ix y < d := ix_lt (by omega) (Int32.le_of_lt q) c
      rw [Nat.min_eq_right (by omega), ofNat_ix (Int32.le_of_lt q)]
    · rw [if_neg q]
      have : ix (0 : Int32) = 0 := rfl
      rw [this, Nat.min_eq_right (by omega)]
      rfl
  · simp only [if_neg c]
    have c := Int32.not_lt.mp c
    by_cases q : 0 < Int32.ofNat d
    · rw [if_pos q]
      have y0 : 0 < y := Int32.lt_of_lt_of_le q c
      rw [if_pos y0]
      have l : d ≤ ix y := by
        apply Nat.le_of_not_lt
        intro hl
        have k : y < Int32.ofNat d := lt_of_ix (by omega) (Int32.le_of_lt y0) hl
        exact absurd k (Int32.not_lt.mpr c)
      rw [Nat.min_eq_left l]
    · rw [if_neg q]
      have d0 : d = 0 := by
        apply Nat.eq_zero_of_not_pos
        intro hp
        exact q ((ofNat_lt (a := 0) (by omega) (by omega)).mpr hp)
      rw [d0, Nat.zero_min]
      rfl
/-- what the search never changes -/
def bsK (s0 : mS) (S : Nat) (inS : Int32 → Int32) (G W : Nat → Int32) (cap : Int32) (most cold : Nat → Int32) : Prop := gI s0 94 7 = Int32.ofNat S ∧ gI s0 94 8 = cap ∧ (∀ a, a < 16 → gI s0 97 (a + 1) = inS (Int32.ofNat a)) ∧ (∀ i, i < 32 → gI s0 96 i = G i) ∧ (∀ i, i < 32 → gI s0 95 i = W i) ∧ (∀ p, p < 8 → gI s0 98 p = most p) ∧ (∀ p, p < 8 → gI s0 99 p = cold p) ∧ S ≤ 9999 ∧ (∀ j, j < 0 → inS j = 0) ∧ ∀ a, 16 ≤ a → a < 32 → inS (Int32.ofNat a) = 0
def bsP (s0 : mS) (p : Nat) (x : Nat → Int32) (st : Nat × (Nat → Int32)) (w : mS) : Prop := fp [100, 101] [(94, 9)] false s0 w ∧ (∀ i, i < p → gI w 100 i = x i) ∧ gI w 94 9 = Int32.ofNat st.1 ∧ (∀ i, i < 8 → gI w 101 i = st.2 i) ∧ st.1 ≤ 1000
theorem G_copy (s : mS) : lp_Night_keepTried_7 mm_N 0 s = (Int32.ofNat 8, sA s 101 (fillA 8 (gI s 100) (gI s 101))) ∧ okl_Night_keepTried_7 mm_N 0 s :=
  lp_map (L := lp_Night_keepTried_7) (OK := okl_Night_keepTried_7) 101 8 (by omega) s (gI s 100)
    (fun n i g hi => by
      have e1 : ¬ (8 : Int32) ≤ Int32.ofNat i := fl_lit (a := 8) rfl (by omega) (by omega) hi
      have e2 : ix (Int32.ofNat i) = i := ix_ofNat (by omega)
      have e3 : Int32.ofNat i + 1 = Int32.ofNat (i + 1) := ofNat_succ i
      have b1 : mm_inb (Int32.ofNat i) 8 = true := inb_ofNat (by decide) (by omega)
      constructor
      · simp only [lp_Night_keepTried_7, e1, if_false, e2, e3, gI_sA, Nat.reduceEqDiff, sI_sA]
      · intro q
        simp only [okl_Night_keepTried_7, e1, if_false, e2, e3, gI_sA, Nat.reduceEqDiff, sI_sA, b1, true_and]
        exact q)
    (fun n g => by
      have e1 : (8 : Int32) ≤ Int32.ofNat 8 := by decide
      constructor
      · simp only [lp_Night_keepTried_7, e1, if_true]
      · simp only [okl_Night_keepTried_7, e1, if_true])
theorem G_seek {s0 : mS} {S : Nat} {inS : Int32 → Int32} {G W : Nat → Int32} {cap : Int32} {most cold : Nat → Int32} (hK : bsK s0 S inS G W cap most cold) : ∀ k, k ≤ 8 → ∀ x used lv st w, bsP s0 (8 - k) x st w → used ≤ S → OK_Night_seek (k + 1) (Int32.ofNat (8 - k)) (Int32.ofNat used) lv w ∧ bsP s0 (8 - k) x (bs_S (bs_C most cold) (fun p x lv => bs_lv inS G W cap x (4 * p) 4 lv) S k x used lv st) (F_Night_seek (k + 1) (Int32.ofNat (8 - k)) (Int32.ofNat used) lv w) := by
  intro k
  induction k with
  | zero =>
    intro _ x used lv st w hP hS
    obtain ⟨h1, h2, h3, h4, h5⟩ := hP
    have hS9 := hK.2.2.2.2.2.2.2.1
    have e8 : ¬ Int32.ofNat (8 - 0) < 8 := by decide
    have e7 : ¬ Int32.ofNat (8 - 0) < 0 := by decide
    show ok_Night_seek _ _ _ _ _ _ ∧ bsP s0 (8 - 0) x (if st.1 ≤ used then st else (used, x)) (f_Night_seek _ _ _ _ _)
    by_cases c : st.1 ≤ used
    · have c' : ¬ Int32.ofNat used < gI w 94 9 := by
        rw [h3, ofNat_lt (by omega) (by omega)]
        omega
      rw [if_pos c]
      constructor
      · simp only [ok_Night_seek, c', if_false]
      · simp only [f_Night_seek, c', if_false]
        exact ⟨h1, h2, h3, h4, h5⟩
    · have c' : Int32.ofNat used < gI w 94 9 := by
        rw [h3, ofNat_lt (by omega) (by omega)]
        omega
      rw [if_neg c]
      constructor
      · simp only [ok_Night_seek, c', e7, e8, if_true, if_false]
        exact ⟨⟨(G_copy _).2, trivial⟩, trivial⟩
      · simp only [f_Night_seek, f_Night_keepTried, c', e7, e8, if_true, if_false, mq_let_e, (G_copy _).1]
        refine ⟨fp_AA (fp_IF h1 (by decide)) (by decide), fun i hi => ?_, ?_, fun i hi => ?_, by show used ≤ 1000; omega⟩
        · rw [gI_sA, if_neg (by decide), gI_sI, if_neg (fun q => absurd q.1 (by decide))]
          exact h2 i hi
        · rw [gI_sA, if_neg (by decide), gI_sI, if_pos ⟨rfl, rfl⟩]
        · rw [gI_sA, if_pos rfl, fillA_lt hi, gI_sI, if_neg (fun q => absurd q.1 (by decide))]
          exact h2 i hi
  | succ k ih =>
    intro hk x used lv st w hP hS
    obtain ⟨h1, h2, h3, h4, h5⟩ := hP
    obtain ⟨K1, K2, K3, K4, K5, K6, K7, hS9, K9, K10⟩ := hK
    have hK : bsK s0 S inS G W cap most cold := ⟨K1, K2, K3, K4, K5, K6, K7, hS9, K9, K10⟩
    have e8 : 8 - (k + 1) = 7 - k := by omega
    rw [e8] at h2 ⊢
    show ok_Night_seek (F_Night_seek (k + 1)) (OK_Night_seek (k + 1)) _ _ _ _ ∧ bsP s0 (7 - k) x (if st.1 ≤ used then st else (Nat.rec (motive := fun _ => Nat × (Nat → Int32)) st (fun n st => if bs_lv inS G W cap (up x (7 - k) (Int32.ofNat n)) (4 * (7 - k)) 4 lv < 0 then st else bs_S (bs_C most cold) (fun p x lv => bs_lv inS G W cap x (4 * p) 4 lv) S k (up x (7 - k) (Int32.ofNat n)) (used + n) (bs_lv inS G W cap (up x (7 - k) (Int32.ofNat n)) (4 * (7 - k)) 4 lv) st) (min (S - used) (bs_C most cold (7 - k) x) + 1))) (f_Night_seek (F_Night_seek (k + 1)) _ _ _ _)
    by_cases c : st.1 ≤ used
    · have c' : ¬ Int32.ofNat used < gI w 94 9 := by
        rw [h3, ofNat_lt (by omega) (by omega)]
        omega
      rw [if_pos c]
      constructor
      · simp only [ok_Night_seek, c', if_false]
      · simp only [f_Night_seek, c', if_false]
        exact ⟨h1, h2, h3, h4, h5⟩
    · have c' : Int32.ofNat used < gI w 94 9 := by
        rw [h3, ofNat_lt (by omega) (by omega)]
        omega
      rw [if_neg c]
      have p8 : 7 - k < 8 := by omega
      have a8 : Int32.ofNat (7 - k) < 8 := (ofNat_lt (b := 8) (by omega) (by omega)).mpr p8
      have a0 : ¬ Int32.ofNat (7 - k) < 0 := fun h => absurd ((ofNat_lt (b := 0) (by omega) (by omega)).mp h) (Nat.not_lt_zero _)
      have i8 : ix (Int32.ofNat (7 - k)) = 7 - k := ix_ofNat (by omega)
      have b8 : mm_inb (Int32.ofNat (7 - k)) 8 = true := inb_ofNat (by decide) p8
      obtain ⟨t1, t2⟩ := G_still (s := w) p8 h2
      have w98 : gI w 98 (7 - k) = most (7 - k) := by rw [(fpA h1 (by decide)).1, K6 _ p8]
      have w99 : gI w 99 (7 - k) = cold (7 - k) := by rw [(fpA h1 (by decide)).1, K7 _ p8]
      have w7 : gI w 94 7 = Int32.ofNat S := by rw [(fpF h1 (by decide)).1, K1]
      have am : (if (0 : Int32) < (if bs_c most cold (7 - k) x < Int32.ofNat S - Int32.ofNat used then bs_c most cold (7 - k) x else Int32.ofNat S - Int32.ofNat used) then (if bs_c most cold (7 - k) x < Int32.ofNat S - Int32.ofNat used then bs_c most cold (7 - k) x else Int32.ofNat S - Int32.ofNat used) else 0) = Int32.ofNat (min (S - used) (bs_C most cold (7 - k) x)) := bs_atMost hS hS9
      have cc : (if cold (7 - k) - bs_still (7 - k) x < most (7 - k) then cold (7 - k) - bs_still (7 - k) x else most (7 - k)) = bs_c most cold (7 - k) x := rfl
      generalize hA : min (S - used) (bs_C most cold (7 - k) x) = aM at am
      have haM : aM ≤ S - used := by omega
      have LP := lp_up0 (L := lp_Night_seek_36 (F_Night_seek (k + 1)) (Int32.ofNat (7 - k)) (Int32.ofNat used) lv (Int32.ofNat aM)) (OK := okl_Night_seek_36 (F_Night_seek (k + 1)) (OK_Night_seek (k + 1)) (Int32.ofNat (7 - k)) (Int32.ofNat used) lv (Int32.ofNat aM)) (fun n w' => bsP s0 (7 - k) x (Nat.rec (motive := fun _ => Nat × (Nat → Int32)) st (fun n st => if bs_lv inS G W cap (up x (7 - k) (Int32.ofNat n)) (4 * (7 - k)) 4 lv < 0 then st else bs_S (bs_C most cold) (fun p x lv => bs_lv inS G W cap x (4 * p) 4 lv) S k (up x (7 - k) (Int32.ofNat n)) (used + n) (bs_lv inS G W cap (up x (7 - k) (Int32.ofNat n)) (4 * (7 - k)) 4 lv) st) n) w') (aM + 1) (by omega) w ⟨h1, h2, h3, h4, h5⟩
        (fun m n w' hn hp => by
          have e0 : ¬ Int32.ofNat aM < Int32.ofNat n := by
            rw [ofNat_lt (by omega) (by omega)]
            omega
          have e3 : Int32.ofNat n + 1 = Int32.ofNat (n + 1) := ofNat_succ n
          have st1 : ∀ st' : Nat × (Nat → Int32), bsP s0 (7 - k) x st' w' → bsP s0 (8 - k) (up x (7 - k) (Int32.ofNat n)) st' (sI w' 100 (7 - k) (Int32.ofNat n)) := fun st' hp' => by
            refine ⟨fp_IA hp'.1 (by decide), fun i hi => ?_, by rw [gI_sI, if_neg (fun q => absurd q.1 (by decide))]; exact hp'.2.2.1, fun i hi => by rw [gI_sI, if_neg (fun q => absurd q.1 (by decide))]; exact hp'.2.2.2.1 i hi, hp'.2.2.2.2⟩
            rw [gI_sI]
            by_cases e : i = 7 - k
            · rw [if_pos ⟨rfl, e⟩, e, up_self]
            · rw [if_neg (fun q => e q.2), up_ne e]
              exact hp'.2.1 i (by omega)
          have hq := st1 _ hp
          have lvl := G_level (s := sI w' 100 (7 - k) (Int32.ofNat n)) (p := 7 - k) (x := up x (7 - k) (Int32.ofNat n)) (inS := inS) (G := G) (W := W) (cap := cap) p8 (fun q hq' => hq.2.1 q (by omega)) (fun a ha => by rw [(fpA hq.1 (by decide)).1]; exact K3 a ha) K9 K10 (fun i hi => by rw [(fpA hq.1 (by decide)).1]; exact K4 i hi) (fun i hi => by rw [(fpA hq.1 (by decide)).1]; exact K5 i hi) (by rw [(fpF hq.1 (by decide)).1]; exact K2) lv
          have back : ∀ st' w'', bsP s0 (8 - k) (up x (7 - k) (Int32.ofNat n)) st' w'' → bsP s0 (7 - k) x st' w'' := fun st' w'' hb => ⟨hb.1, fun i hi => by
            rw [hb.2.1 i (by omega), up_ne (by omega)], hb.2.2⟩
          have un : Int32.ofNat used + Int32.ofNat n = Int32.ofNat (used + n) := (Int32.ofNat_add used n).symm
          have pn : Int32.ofNat (7 - k) + 1 = Int32.ofNat (8 - k) := by
            rw [ofNat_succ]
            congr 1
            omega
          by_cases d : bs_lv inS G W cap (up x (7 - k) (Int32.ofNat n)) (4 * (7 - k)) 4 lv < 0
          · refine ⟨sI w' 100 (7 - k) (Int32.ofNat n), ?_, ?_, ?_⟩
            · simp only [lp_Night_seek_36, mq_let_e, e0, if_false, i8, lvl.1, d, if_true, e3]
            · intro q
              simp only [okl_Night_seek_36, mq_letP_e, e0, if_false, i8, lvl.1, lvl.2, d, if_true, e3, b8, true_and]
              exact q
            · show bsP s0 (7 - k) x (if bs_lv inS G W cap (up x (7 - k) (Int32.ofNat n)) (4 * (7 - k)) 4 lv < 0 then _ else _) _
              rw [if_pos d]
              exact back _ _ hq
          · have r := ih (by omega) (up x (7 - k) (Int32.ofNat n)) (used + n) (bs_lv inS G W cap (up x (7 - k) (Int32.ofNat n)) (4 * (7 - k)) 4 lv) _ _ hq (by omega)
            refine ⟨F_Night_seek (k + 1) (Int32.ofNat (8 - k)) (Int32.ofNat (used + n)) (bs_lv inS G W cap (up x (7 - k) (Int32.ofNat n)) (4 * (7 - k)) 4 lv) (sI w' 100 (7 - k) (Int32.ofNat n)), ?_, ?_, ?_⟩
            · simp only [lp_Night_seek_36, mq_let_e, e0, if_false, i8, lvl.1, d, e3, un, pn]
            · intro q
              simp only [okl_Night_seek_36, mq_letP_e, e0, if_false, i8, lvl.1, lvl.2, d, e3, b8, true_and, un, pn]
              exact ⟨r.1, q⟩
            · show bsP s0 (7 - k) x (if bs_lv inS G W cap (up x (7 - k) (Int32.ofNat n)) (4 * (7 - k)) 4 lv < 0 then _ else _) _
              rw [if_neg d]
              exact back _ _ r.2)
        (fun m w' hp => by
          have e0 : Int32.ofNat aM < Int32.ofNat (aM + 1) := (ofNat_lt (by omega) (by omega)).mpr (by omega)
          constructor
          · simp only [lp_Night_seek_36, e0, if_true]
          · simp only [okl_Night_seek_36, e0, if_true])
      obtain ⟨w', A1, A2, A3⟩ := LP
      constructor
      · simp only [ok_Night_seek, ok_Night_mostAt, f_Night_mostAt, mq_letP_e, mq_let_e, c', a0, a8, if_true, if_false, i8, b8, t1, w98, w99, w7, cc, am, true_and, and_true]
        exact ⟨t2, A2⟩
      · simp only [f_Night_seek, f_Night_mostAt, mq_let_e, c', a0, a8, if_true, if_false, i8, t1, w98, w99, w7, cc, am, A1]
        exact A3
