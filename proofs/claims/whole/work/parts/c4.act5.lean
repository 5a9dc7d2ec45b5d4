/-! ACT: words, in both classes. -/
theorem G_sign {s : mS} {L i : Nat} (h1 : gI s 80 1 = Int32.ofNat L) (hT : gP s 5 = 48) (hL : L ≤ 600) (hi : i < 90000) : f_Parser_signAt (Int32.ofNat i) s = tz_sg (gI s 37) L i ∧ ok_Parser_signAt (Int32.ofNat i) s := by
  have e0 : ¬ Int32.ofNat i < 0 := Int32.not_lt.mpr ((ofNat_le (a := 0) (by omega) (by omega)).mpr (Nat.zero_le i))
  have e2 : ix (Int32.ofNat i) = i := ix_ofNat (by omega)
  by_cases c : i < L
  · have e1 : ¬ Int32.ofNat L ≤ Int32.ofNat i := fl_lit (a := L) rfl (by omega) (by omega) c
    have e3 : ¬ (600 : Int32) ≤ Int32.ofNat i := fl_lit (a := 600) rfl (by omega) (by omega) (by omega)
    have b1 : mm_inb (Int32.ofNat i) 600 = true := inb_ofNat (by decide) (by omega)
    have t : tz_sg (gI s 37) L i = gI s 37 i := if_pos c
    constructor
    · simp only [f_Parser_signAt, e0, h1, e1, e3, if_false, e2, t]
    · simp only [ok_Parser_signAt, e0, h1, hT, e1, e3, if_false, b1, and_self]
  · have e1 : Int32.ofNat L ≤ Int32.ofNat i := (ofNat_le (by omega) (by omega)).mpr (by omega)
    have t : tz_sg (gI s 37) L i = -1 := if_neg c
    constructor
    · simp only [f_Parser_signAt, e0, h1, e1, if_false, if_true, t]
    · simp only [ok_Parser_signAt, e0, h1, e1, if_false, if_true]
theorem M_sign {s : mS} {L i : Nat} (h1 : gI s 116 80 = Int32.ofNat L) (hL : L ≤ 600) (hi : i < 90000) : f_M_see (Int32.ofNat i) s = tz_sg (gI s 167) L i ∧ ok_M_see (Int32.ofNat i) s := by
  have e2 : ix (Int32.ofNat i) = i := ix_ofNat (by omega)
  by_cases c : i < L
  · have e1 : ¬ Int32.ofNat L ≤ Int32.ofNat i := fl_lit (a := L) rfl (by omega) (by omega) c
    have b1 : mm_inb (Int32.ofNat i) 600 = true := inb_ofNat (by decide) (by omega)
    have t : tz_sg (gI s 167) L i = gI s 167 i := if_pos c
    constructor
    · simp only [f_M_see, h1, e1, if_false, e2, t]
    · simp only [ok_M_see, h1, e1, if_false, b1, and_self]
  · have e1 : Int32.ofNat L ≤ Int32.ofNat i := (ofNat_le (by omega) (by omega)).mpr (by omega)
    have t : tz_sg (gI s 167) L i = -1 := if_neg c
    constructor
    · simp only [f_M_see, h1, e1, if_true, t]
    · simp only [ok_M_see, h1, e1, if_true]
theorem W_G {Lp : Nat → Int32 → Option Int32 × Int32} {OKp : Nat → Int32 → Prop} {T : Nat → Int32} {st : Nat} {w : List Int32} (hw : w.length < 90000) (hs : ∀ n i, i < w.length → (T (st + i) = w.getD i 0 → Lp (n + 1) (Int32.ofNat i) = Lp n (Int32.ofNat (i + 1)) ∧ (OKp n (Int32.ofNat (i + 1)) → OKp (n + 1) (Int32.ofNat i))) ∧ (T (st + i) ≠ w.getD i 0 → (Lp (n + 1) (Int32.ofNat i)).1 = some 0 ∧ OKp (n + 1) (Int32.ofNat i))) (he : ∀ n, (Lp (n + 1) (Int32.ofNat w.length)).1 = none ∧ OKp (n + 1) (Int32.ofNat w.length)) : ((∀ i, i < w.length → T (st + i) = w.getD i 0) → (Lp mm_N 0).1 = none) ∧ (¬ (∀ i, i < w.length → T (st + i) = w.getD i 0) → (Lp mm_N 0).1 = some 0) ∧ OKp mm_N 0 := by
  have A : ∀ r i n, i + r = w.length → r < n → ((∀ j, i ≤ j → j < w.length → T (st + j) = w.getD j 0) → (Lp n (Int32.ofNat i)).1 = none) ∧ (¬ (∀ j, i ≤ j → j < w.length → T (st + j) = w.getD j 0) → (Lp n (Int32.ofNat i)).1 = some 0) ∧ OKp n (Int32.ofNat i) := by
    intro r
    induction r with
    | zero =>
      intro i n h1 h2
      obtain ⟨n', rfl⟩ : ∃ n', n = n' + 1 := ⟨n - 1, by omega⟩
      have e : i = w.length := by omega
      rw [e]
      exact ⟨fun _ => (he n').1, fun q => absurd (fun j h1 h2 => absurd h2 (Nat.not_lt.mpr h1)) q, (he n').2⟩
    | succ r ih =>
      intro i n h1 h2
      obtain ⟨n', rfl⟩ : ∃ n', n = n' + 1 := ⟨n - 1, by omega⟩
      obtain ⟨s1, s2⟩ := hs n' i (by omega)
      obtain ⟨i1, i2, i3⟩ := ih (i + 1) n' (by omega) (by omega)
      by_cases c : T (st + i) = w.getD i 0
      · obtain ⟨e, k⟩ := s1 c
        rw [e]
        refine ⟨fun q => i1 (fun j h1 h2 => q j (by omega) h2), fun q => i2 (fun z => q (fun j h1 h2 => ?_)), k i3⟩
        by_cases ej : j = i
        · rw [ej]
          exact c
        · exact z j (by omega) h2
      · obtain ⟨e, k⟩ := s2 c
        exact ⟨fun q => absurd (q i (Nat.le_refl i) (by omega)) c, fun _ => e, k⟩
  obtain ⟨a1, a2, a3⟩ := A w.length 0 mm_N (by omega) (by rw [mm_Ns]; omega)
  exact ⟨fun q => a1 (fun j _ h => q j h), fun q => a2 (fun z => q (fun j h => z j (Nat.zero_le j) h)), a3⟩
theorem W_M {Lp : Nat → Int32 → Int32 → Int32 × Int32} {OKp : Nat → Int32 → Int32 → Prop} {T : Nat → Int32} {st : Nat} {w : List Int32} (hw : w.length < 90000) (hs : ∀ n i, i < w.length → (T (st + i) = w.getD i 0 → Lp (n + 1) 1 (Int32.ofNat i) = Lp n 1 (Int32.ofNat (i + 1)) ∧ (OKp n 1 (Int32.ofNat (i + 1)) → OKp (n + 1) 1 (Int32.ofNat i))) ∧ (T (st + i) ≠ w.getD i 0 → Lp (n + 1) 1 (Int32.ofNat i) = Lp n 0 (Int32.ofNat (i + 1)) ∧ (OKp n 0 (Int32.ofNat (i + 1)) → OKp (n + 1) 1 (Int32.ofNat i)))) (hz : ∀ n i, i ≤ w.length → (Lp (n + 1) 0 (Int32.ofNat i)).1 = 0 ∧ OKp (n + 1) 0 (Int32.ofNat i)) (he : ∀ n, (Lp (n + 1) 1 (Int32.ofNat w.length)).1 = 1 ∧ OKp (n + 1) 1 (Int32.ofNat w.length)) : ((∀ i, i < w.length → T (st + i) = w.getD i 0) → (Lp mm_N 1 0).1 = 1) ∧ (¬ (∀ i, i < w.length → T (st + i) = w.getD i 0) → (Lp mm_N 1 0).1 = 0) ∧ OKp mm_N 1 0 := by
  have A : ∀ r i n, i + r = w.length → r + 1 < n → ((∀ j, i ≤ j → j < w.length → T (st + j) = w.getD j 0) → (Lp n 1 (Int32.ofNat i)).1 = 1) ∧ (¬ (∀ j, i ≤ j → j < w.length → T (st + j) = w.getD j 0) → (Lp n 1 (Int32.ofNat i)).1 = 0) ∧ OKp n 1 (Int32.ofNat i) := by
    intro r
    induction r with
    | zero =>
      intro i n h1 h2
      obtain ⟨n', rfl⟩ : ∃ n', n = n' + 1 := ⟨n - 1, by omega⟩
      have e : i = w.length := by omega
      rw [e]
      exact ⟨fun _ => (he n').1, fun q => absurd (fun j h1 h2 => absurd h2 (Nat.not_lt.mpr h1)) q, (he n').2⟩
    | succ r ih =>
      intro i n h1 h2
      obtain ⟨n', rfl⟩ : ∃ n', n = n' + 2 := ⟨n - 2, by omega⟩
      obtain ⟨s1, s2⟩ := hs (n' + 1) i (by omega)
      obtain ⟨i1, i2, i3⟩ := ih (i + 1) (n' + 1) (by omega) (by omega)
      by_cases c : T (st + i) = w.getD i 0
      · obtain ⟨e, k⟩ := s1 c
        rw [e]
        refine ⟨fun q => i1 (fun j h1 h2 => q j (by omega) h2), fun q => i2 (fun z => q (fun j h1 h2 => ?_)), k i3⟩
        by_cases ej : j = i
        · rw [ej]
          exact c
        · exact z j (by omega) h2
      · obtain ⟨e, k⟩ := s2 c
        obtain ⟨z1, z2⟩ := hz n' (i + 1) (by omega)
        rw [e]
        exact ⟨fun q => absurd (q i (Nat.le_refl i) (by omega)) c, fun _ => z1, k z2⟩
  obtain ⟨a1, a2, a3⟩ := A w.length 0 mm_N (by omega) (by rw [mm_Ns]; omega)
  exact ⟨fun q => a1 (fun j _ h => q j h), fun q => a2 (fun z => q (fun j h => z j (Nat.zero_le j) h)), a3⟩
theorem G_isW_0 {s : mS} {L st e : Nat} (h1 : gI s 80 1 = Int32.ofNat L) (hT : gP s 5 = 48) (h5 : gI s 80 5 = Int32.ofNat st) (h2 : gI s 80 2 = Int32.ofNat e) (hse : st ≤ e) (heL : e ≤ L) (hL : L ≤ 600) : f_Parser_isWord_2000000 s = ey_b (tz_is (gI s 37) st e (mm_Y 0)) ∧ ok_Parser_isWord_2000000 s := by
  have d : gI s 80 2 - gI s 80 5 = Int32.ofNat (e - st) := by rw [h2, h5, ofNat_subn hse]
  have dl : (Int32.ofNat (e - st) = 8) = (e - st = 8) := propext (ofNat_inj (b := 8) (by omega) (by omega))
  by_cases c : e - st = 8
  · have A := W_G (Lp := lp_Parser_isWord_2000000_20 s) (OKp := okl_Parser_isWord_2000000_20 s) (T := gI s 37) (st := st) (w := mm_Y 0) (by decide) (fun m i hi => by
      have hi : i < 8 := hi
      have e0 : ¬ (8 : Int32) ≤ Int32.ofNat i := fl_lit (a := 8) rfl (by omega) (by omega) hi
      have e2 : ix (Int32.ofNat i) = i := ix_ofNat (by omega)
      have e3 : Int32.ofNat i + 1 = Int32.ofNat (i + 1) := ofNat_succ i
      have e4 : gI s 80 5 + Int32.ofNat i = Int32.ofNat (st + i) := by rw [h5, Int32.ofNat_add]
      have b1 : mm_inb (Int32.ofNat i) 8 = true := inb_ofNat (by decide) hi
      have sg := G_sign (s := s) (i := st + i) h1 hT hL (by omega)
      have t : tz_sg (gI s 37) L (st + i) = gI s 37 (st + i) := if_pos (by omega)
      rw [t] at sg
      refine ⟨fun q => ⟨?_, fun o => ?_⟩, fun q => ⟨?_, ?_⟩⟩
      · simp only [lp_Parser_isWord_2000000_20, mq_let_e, e0, if_false, e2, e3, e4, sg.1, if_pos q]
      · simp only [okl_Parser_isWord_2000000_20, mq_letP_e, e0, if_false, e2, e3, e4, sg.1, sg.2, if_pos q, b1, true_and]
        exact o
      · simp only [lp_Parser_isWord_2000000_20, mq_let_e, e0, if_false, e2, e4, sg.1, if_neg q]
      · simp only [okl_Parser_isWord_2000000_20, mq_letP_e, e0, if_false, e2, e4, sg.1, sg.2, if_neg q, b1, true_and]) (fun m => by
      have e0 : (8 : Int32) ≤ Int32.ofNat (mm_Y 0).length := by decide
      constructor
      · simp only [lp_Parser_isWord_2000000_20, e0, if_true]
      · simp only [okl_Parser_isWord_2000000_20, e0, if_true])
    obtain ⟨a1, a2, a3⟩ := A
    constructor
    · unfold f_Parser_isWord_2000000
      rw [d, if_pos (dl.mpr c), mq_let_e]
      cases h : tz_is (gI s 37) st e (mm_Y 0) with
      | true =>
        rw [a1 (tz_is_w.mp h).2]
        rfl
      | false =>
        rw [a2 (fun q => by
          have := tz_is_w.mpr (show e - st = (mm_Y 0).length ∧ _ from ⟨c, q⟩)
          rw [h] at this
          exact absurd this (by decide))]
        rfl
    · unfold ok_Parser_isWord_2000000
      rw [d, if_pos (dl.mpr c)]
      refine ⟨a3, ?_⟩
      rw [mq_letP_e]
      generalize (lp_Parser_isWord_2000000_20 s mm_N 0).1 = o
      cases o <;> trivial
  · have h : tz_is (gI s 37) st e (mm_Y 0) = false := by
      cases h : tz_is (gI s 37) st e (mm_Y 0) with
      | false => rfl
      | true => exact absurd (tz_is_w.mp h).1 c
    constructor
    · unfold f_Parser_isWord_2000000
      rw [d, if_neg (fun q => c (dl.mp q)), h]
      rfl
    · unfold ok_Parser_isWord_2000000
      rw [d, if_neg (fun q => c (dl.mp q))]
      trivial
theorem M_isW_0 {s : mS} {L st e : Nat} (h5 : gI s 116 83 = Int32.ofNat st) (h2 : gI s 116 81 = Int32.ofNat e) (hse : st ≤ e) (heL : e ≤ L) (hL : L ≤ 600) : f_M_is_2000000 s = ey_b (tz_is (gI s 167) st e (mm_Y 0)) ∧ ok_M_is_2000000 s := by
  have d : gI s 116 81 - gI s 116 83 = Int32.ofNat (e - st) := by rw [h2, h5, ofNat_subn hse]
  have dl : (Int32.ofNat (e - st) = 8) = (e - st = 8) := propext (ofNat_inj (b := 8) (by omega) (by omega))
  have n10 : ¬ (1 : Int32) = 0 := by decide
  have zz : ∀ m i, i ≤ (mm_Y 0).length → (lp_M_is_2000000_24 s (m + 1) 0 (Int32.ofNat i)).1 = 0 ∧ okl_M_is_2000000_24 s (m + 1) 0 (Int32.ofNat i) := fun m i _ => by
    by_cases q : (8 : Int32) ≤ Int32.ofNat i
    · constructor
      · simp only [lp_M_is_2000000_24, if_pos q]
      · simp only [okl_M_is_2000000_24, if_pos q]
    · constructor
      · simp only [lp_M_is_2000000_24, if_neg q, if_true]
      · simp only [okl_M_is_2000000_24, if_neg q, if_true]
  by_cases c : e - st = 8
  · have A := W_M (Lp := lp_M_is_2000000_24 s) (OKp := okl_M_is_2000000_24 s) (T := gI s 167) (st := st) (w := mm_Y 0) (by decide) (fun m i hi => by
      have hi : i < 8 := hi
      have e0 : ¬ (8 : Int32) ≤ Int32.ofNat i := fl_lit (a := 8) rfl (by omega) (by omega) hi
      have e2 : ix (Int32.ofNat i) = i := ix_ofNat (by omega)
      have e3 : Int32.ofNat i + 1 = Int32.ofNat (i + 1) := ofNat_succ i
      have e4 : gI s 116 83 + Int32.ofNat i = Int32.ofNat (st + i) := by rw [h5, Int32.ofNat_add]
      have e5 : ix (Int32.ofNat (st + i)) = st + i := ix_ofNat (by omega)
      have b1 : mm_inb (Int32.ofNat i) 8 = true := inb_ofNat (by decide) hi
      have b2 : mm_inb (Int32.ofNat (st + i)) 600 = true := inb_ofNat (by decide) (by omega)
      refine ⟨fun q => ⟨?_, fun o => ?_⟩, fun q => ⟨?_, fun o => ?_⟩⟩
      · simp only [lp_M_is_2000000_24, e0, if_false, n10, e2, e3, e4, e5, if_pos q]
      · simp only [okl_M_is_2000000_24, e0, if_false, n10, e2, e3, e4, e5, if_pos q, b1, b2, true_and]
        exact o
      · simp only [lp_M_is_2000000_24, e0, if_false, n10, e2, e3, e4, e5, if_neg q]
      · simp only [okl_M_is_2000000_24, e0, if_false, n10, e2, e3, e4, e5, if_neg q, b1, b2, true_and]
        exact o) zz (fun m => by
      have e0 : (8 : Int32) ≤ Int32.ofNat (mm_Y 0).length := by decide
      constructor
      · simp only [lp_M_is_2000000_24, e0, if_true]
      · simp only [okl_M_is_2000000_24, e0, if_true])
    obtain ⟨a1, a2, a3⟩ := A
    have v : (lp_M_is_2000000_24 s mm_N 1 0).1 = ey_b (tz_is (gI s 167) st e (mm_Y 0)) := by
      cases h : tz_is (gI s 167) st e (mm_Y 0) with
      | true =>
        rw [a1 (tz_is_w.mp h).2]
        rfl
      | false =>
        rw [a2 (fun q => by
          have := tz_is_w.mpr (show e - st = (mm_Y 0).length ∧ _ from ⟨c, q⟩)
          rw [h] at this
          exact absurd this (by decide))]
        rfl
    constructor
    · unfold f_M_is_2000000
      rw [d, if_pos (dl.mpr c), mq_let_e, mq_let_e]
      exact v
    · unfold ok_M_is_2000000
      rw [d, if_pos (dl.mpr c), mq_letP_e, mq_letP_e]
      refine ⟨trivial, a3, ?_⟩
      rw [v]
      cases tz_is (gI s 167) st e (mm_Y 0) <;> rfl
  · have h : tz_is (gI s 167) st e (mm_Y 0) = false := by
      cases h : tz_is (gI s 167) st e (mm_Y 0) with
      | false => rfl
      | true => exact absurd (tz_is_w.mp h).1 c
    have z := zz 99999 0 (Nat.zero_le _)
    have zN : (lp_M_is_2000000_24 s mm_N 0 0).1 = 0 ∧ okl_M_is_2000000_24 s mm_N 0 0 := z
    constructor
    · unfold f_M_is_2000000
      rw [d, if_neg (fun q => c (dl.mp q)), mq_let_e, mq_let_e, h]
      exact zN.1
    · unfold ok_M_is_2000000
      rw [d, if_neg (fun q => c (dl.mp q)), mq_letP_e, mq_letP_e]
      refine ⟨trivial, zN.2, ?_⟩
      rw [zN.1]
      rfl
theorem G_isW_1 {s : mS} {L st e : Nat} (h1 : gI s 80 1 = Int32.ofNat L) (hT : gP s 5 = 48) (h5 : gI s 80 5 = Int32.ofNat st) (h2 : gI s 80 2 = Int32.ofNat e) (hse : st ≤ e) (heL : e ≤ L) (hL : L ≤ 600) : f_Parser_isWord_2000001 s = ey_b (tz_is (gI s 37) st e (mm_Y 1)) ∧ ok_Parser_isWord_2000001 s := by
  have d : gI s 80 2 - gI s 80 5 = Int32.ofNat (e - st) := by rw [h2, h5, ofNat_subn hse]
  have dl : (Int32.ofNat (e - st) = 7) = (e - st = 7) := propext (ofNat_inj (b := 7) (by omega) (by omega))
  by_cases c : e - st = 7
  · have A := W_G (Lp := lp_Parser_isWord_2000001_20 s) (OKp := okl_Parser_isWord_2000001_20 s) (T := gI s 37) (st := st) (w := mm_Y 1) (by decide) (fun m i hi => by
      have hi : i < 7 := hi
      have e0 : ¬ (7 : Int32) ≤ Int32.ofNat i := fl_lit (a := 7) rfl (by omega) (by omega) hi
      have e2 : ix (Int32.ofNat i) = i := ix_ofNat (by omega)
      have e3 : Int32.ofNat i + 1 = Int32.ofNat (i + 1) := ofNat_succ i
      have e4 : gI s 80 5 + Int32.ofNat i = Int32.ofNat (st + i) := by rw [h5, Int32.ofNat_add]
      have b1 : mm_inb (Int32.ofNat i) 7 = true := inb_ofNat (by decide) hi
      have sg := G_sign (s := s) (i := st + i) h1 hT hL (by omega)
      have t : tz_sg (gI s 37) L (st + i) = gI s 37 (st + i) := if_pos (by omega)
      rw [t] at sg
      refine ⟨fun q => ⟨?_, fun o => ?_⟩, fun q => ⟨?_, ?_⟩⟩
      · simp only [lp_Parser_isWord_2000001_20, mq_let_e, e0, if_false, e2, e3, e4, sg.1, if_pos q]
      · simp only [okl_Parser_isWord_2000001_20, mq_letP_e, e0, if_false, e2, e3, e4, sg.1, sg.2, if_pos q, b1, true_and]
        exact o
      · simp only [lp_Parser_isWord_2000001_20, mq_let_e, e0, if_false, e2, e4, sg.1, if_neg q]
      · simp only [okl_Parser_isWord_2000001_20, mq_letP_e, e0, if_false, e2, e4, sg.1, sg.2, if_neg q, b1, true_and]) (fun m => by
      have e0 : (7 : Int32) ≤ Int32.ofNat (mm_Y 1).length := by decide
      constructor
      · simp only [lp_Parser_isWord_2000001_20, e0, if_true]
      · simp only [okl_Parser_isWord_2000001_20, e0, if_true])
    obtain ⟨a1, a2, a3⟩ := A
    constructor
    · unfold f_Parser_isWord_2000001
      rw [d, if_pos (dl.mpr c), mq_let_e]
      cases h : tz_is (gI s 37) st e (mm_Y 1) with
      | true =>
        rw [a1 (tz_is_w.mp h).2]
        rfl
      | false =>
        rw [a2 (fun q => by
          have := tz_is_w.mpr (show e - st = (mm_Y 1).length ∧ _ from ⟨c, q⟩)
          rw [h] at this
          exact absurd this (by decide))]
        rfl
    · unfold ok_Parser_isWord_2000001
      rw [d, if_pos (dl.mpr c)]
      refine ⟨a3, ?_⟩
      rw [mq_letP_e]
      generalize (lp_Parser_isWord_2000001_20 s mm_N 0).1 = o
      cases o <;> trivial
  · have h : tz_is (gI s 37) st e (mm_Y 1) = false := by
      cases h : tz_is (gI s 37) st e (mm_Y 1) with
      | false => rfl
      | true => exact absurd (tz_is_w.mp h).1 c
    constructor
    · unfold f_Parser_isWord_2000001
      rw [d, if_neg (fun q => c (dl.mp q)), h]
      rfl
    · unfold ok_Parser_isWord_2000001
      rw [d, if_neg (fun q => c (dl.mp q))]
      trivial
theorem M_isW_1 {s : mS} {L st e : Nat} (h5 : gI s 116 83 = Int32.ofNat st) (h2 : gI s 116 81 = Int32.ofNat e) (hse : st ≤ e) (heL : e ≤ L) (hL : L ≤ 600) : f_M_is_2000001 s = ey_b (tz_is (gI s 167) st e (mm_Y 1)) ∧ ok_M_is_2000001 s := by
  have d : gI s 116 81 - gI s 116 83 = Int32.ofNat (e - st) := by rw [h2, h5, ofNat_subn hse]
  have dl : (Int32.ofNat (e - st) = 7) = (e - st = 7) := propext (ofNat_inj (b := 7) (by omega) (by omega))
  have n10 : ¬ (1 : Int32) = 0 := by decide
  have zz : ∀ m i, i ≤ (mm_Y 1).length → (lp_M_is_2000001_24 s (m + 1) 0 (Int32.ofNat i)).1 = 0 ∧ okl_M_is_2000001_24 s (m + 1) 0 (Int32.ofNat i) := fun m i _ => by
    by_cases q : (7 : Int32) ≤ Int32.ofNat i
    · constructor
      · simp only [lp_M_is_2000001_24, if_pos q]
      · simp only [okl_M_is_2000001_24, if_pos q]
    · constructor
      · simp only [lp_M_is_2000001_24, if_neg q, if_true]
      · simp only [okl_M_is_2000001_24, if_neg q, if_true]
  by_cases c : e - st = 7
  · have A := W_M (Lp := lp_M_is_2000001_24 s) (OKp := okl_M_is_2000001_24 s) (T := gI s 167) (st := st) (w := mm_Y 1) (by decide) (fun m i hi => by
      have hi : i < 7 := hi
      have e0 : ¬ (7 : Int32) ≤ Int32.ofNat i := fl_lit (a := 7) rfl (by omega) (by omega) hi
      have e2 : ix (Int32.ofNat i) = i := ix_ofNat (by omega)
      have e3 : Int32.ofNat i + 1 = Int32.ofNat (i + 1) := ofNat_succ i
      have e4 : gI s 116 83 + Int32.ofNat i = Int32.ofNat (st + i) := by rw [h5, Int32.ofNat_add]
      have e5 : ix (Int32.ofNat (st + i)) = st + i := ix_ofNat (by omega)
      have b1 : mm_inb (Int32.ofNat i) 7 = true := inb_ofNat (by decide) hi
      have b2 : mm_inb (Int32.ofNat (st + i)) 600 = true := inb_ofNat (by decide) (by omega)
      refine ⟨fun q => ⟨?_, fun o => ?_⟩, fun q => ⟨?_, fun o => ?_⟩⟩
      · simp only [lp_M_is_2000001_24, e0, if_false, n10, e2, e3, e4, e5, if_pos q]
      · simp only [okl_M_is_2000001_24, e0, if_false, n10, e2, e3, e4, e5, if_pos q, b1, b2, true_and]
        exact o
      · simp only [lp_M_is_2000001_24, e0, if_false, n10, e2, e3, e4, e5, if_neg q]
      · simp only [okl_M_is_2000001_24, e0, if_false, n10, e2, e3, e4, e5, if_neg q, b1, b2, true_and]
        exact o) zz (fun m => by
      have e0 : (7 : Int32) ≤ Int32.ofNat (mm_Y 1).length := by decide
      constructor
      · simp only [lp_M_is_2000001_24, e0, if_true]
      · simp only [okl_M_is_2000001_24, e0, if_true])
    obtain ⟨a1, a2, a3⟩ := A
    have v : (lp_M_is_2000001_24 s mm_N 1 0).1 = ey_b (tz_is (gI s 167) st e (mm_Y 1)) := by
      cases h : tz_is (gI s 167) st e (mm_Y 1) with
      | true =>
        rw [a1 (tz_is_w.mp h).2]
        rfl
      | false =>
        rw [a2 (fun q => by
          have := tz_is_w.mpr (show e - st = (mm_Y 1).length ∧ _ from ⟨c, q⟩)
          rw [h] at this
          exact absurd this (by decide))]
        rfl
    constructor
    · unfold f_M_is_2000001
      rw [d, if_pos (dl.mpr c), mq_let_e, mq_let_e]
      exact v
    · unfold ok_M_is_2000001
      rw [d, if_pos (dl.mpr c), mq_letP_e, mq_letP_e]
      refine ⟨trivial, a3, ?_⟩
      rw [v]
      cases tz_is (gI s 167) st e (mm_Y 1) <;> rfl
  · have h : tz_is (gI s 167) st e (mm_Y 1) = false := by
      cases h : tz_is (gI s 167) st e (mm_Y 1) with
      | false => rfl
      | true => exact absurd (tz_is_w.mp h).1 c
    have z := zz 99999 0 (Nat.zero_le _)
    have zN : (lp_M_is_2000001_24 s mm_N 0 0).1 = 0 ∧ okl_M_is_2000001_24 s mm_N 0 0 := z
    constructor
    · unfold f_M_is_2000001
      rw [d, if_neg (fun q => c (dl.mp q)), mq_let_e, mq_let_e, h]
      exact zN.1
    · unfold ok_M_is_2000001
      rw [d, if_neg (fun q => c (dl.mp q)), mq_letP_e, mq_letP_e]
      refine ⟨trivial, zN.2, ?_⟩
      rw [zN.1]
      rfl
theorem G_isW_2 {s : mS} {L st e : Nat} (h1 : gI s 80 1 = Int32.ofNat L) (hT : gP s 5 = 48) (h5 : gI s 80 5 = Int32.ofNat st) (h2 : gI s 80 2 = Int32.ofNat e) (hse : st ≤ e) (heL : e ≤ L) (hL : L ≤ 600) : f_Parser_isWord_2000002 s = ey_b (tz_is (gI s 37) st e (mm_Y 2)) ∧ ok_Parser_isWord_2000002 s := by
  have d : gI s 80 2 - gI s 80 5 = Int32.ofNat (e - st) := by rw [h2, h5, ofNat_subn hse]
  have dl : (Int32.ofNat (e - st) = 5) = (e - st = 5) := propext (ofNat_inj (b := 5) (by omega) (by omega))
  by_cases c : e - st = 5
  · have A := W_G (Lp := lp_Parser_isWord_2000002_20 s) (OKp := okl_Parser_isWord_2000002_20 s) (T := gI s 37) (st := st) (w := mm_Y 2) (by decide) (fun m i hi => by
      have hi : i < 5 := hi
      have e0 : ¬ (5 : Int32) ≤ Int32.ofNat i := fl_lit (a := 5) rfl (by omega) (by omega) hi
      have e2 : ix (Int32.ofNat i) = i := ix_ofNat (by omega)
      have e3 : Int32.ofNat i + 1 = Int32.ofNat (i + 1) := ofNat_succ i
      have e4 : gI s 80 5 + Int32.ofNat i = Int32.ofNat (st + i) := by rw [h5, Int32.ofNat_add]
      have b1 : mm_inb (Int32.ofNat i) 5 = true := inb_ofNat (by decide) hi
      have sg := G_sign (s := s) (i := st + i) h1 hT hL (by omega)
      have t : tz_sg (gI s 37) L (st + i) = gI s 37 (st + i) := if_pos (by omega)
      rw [t] at sg
      refine ⟨fun q => ⟨?_, fun o => ?_⟩, fun q => ⟨?_, ?_⟩⟩
      · simp only [lp_Parser_isWord_2000002_20, mq_let_e, e0, if_false, e2, e3, e4, sg.1, if_pos q]
      · simp only [okl_Parser_isWord_2000002_20, mq_letP_e, e0, if_false, e2, e3, e4, sg.1, sg.2, if_pos q, b1, true_and]
        exact o
      · simp only [lp_Parser_isWord_2000002_20, mq_let_e, e0, if_false, e2, e4, sg.1, if_neg q]
      · simp only [okl_Parser_isWord_2000002_20, mq_letP_e, e0, if_false, e2, e4, sg.1, sg.2, if_neg q, b1, true_and]) (fun m => by
      have e0 : (5 : Int32) ≤ Int32.ofNat (mm_Y 2).length := by decide
      constructor
      · simp only [lp_Parser_isWord_2000002_20, e0, if_true]
      · simp only [okl_Parser_isWord_2000002_20, e0, if_true])
    obtain ⟨a1, a2, a3⟩ := A
    constructor
    · unfold f_Parser_isWord_2000002
      rw [d, if_pos (dl.mpr c), mq_let_e]
      cases h : tz_is (gI s 37) st e (mm_Y 2) with
      | true =>
        rw [a1 (tz_is_w.mp h).2]
        rfl
      | false =>
        rw [a2 (fun q => by
          have := tz_is_w.mpr (show e - st = (mm_Y 2).length ∧ _ from ⟨c, q⟩)
          rw [h] at this
          exact absurd this (by decide))]
        rfl
    · unfold ok_Parser_isWord_2000002
      rw [d, if_pos (dl.mpr c)]
      refine ⟨a3, ?_⟩
      rw [mq_letP_e]
      generalize (lp_Parser_isWord_2000002_20 s mm_N 0).1 = o
      cases o <;> trivial
  · have h : tz_is (gI s 37) st e (mm_Y 2) = false := by
      cases h : tz_is (gI s 37) st e (mm_Y 2) with
      | false => rfl
      | true => exact absurd (tz_is_w.mp h).1 c
    constructor
    · unfold f_Parser_isWord_2000002
      rw [d, if_neg (fun q => c (dl.mp q)), h]
      rfl
    · unfold ok_Parser_isWord_2000002
      rw [d, if_neg (fun q => c (dl.mp q))]
      trivial
theorem M_isW_2 {s : mS} {L st e : Nat} (h5 : gI s 116 83 = Int32.ofNat st) (h2 : gI s 116 81 = Int32.ofNat e) (hse : st ≤ e) (heL : e ≤ L) (hL : L ≤ 600) : f_M_is_2000002 s = ey_b (tz_is (gI s 167) st e (mm_Y 2)) ∧ ok_M_is_2000002 s := by
  have d : gI s 116 81 - gI s 116 83 = Int32.ofNat (e - st) := by rw [h2, h5, ofNat_subn hse]
  have dl : (Int32.ofNat (e - st) = 5) = (e - st = 5) := propext (ofNat_inj (b := 5) (by omega) (by omega))
  have n10 : ¬ (1 : Int32) = 0 := by decide
  have zz : ∀ m i, i ≤ (mm_Y 2).length → (lp_M_is_2000002_24 s (m + 1) 0 (Int32.ofNat i)).1 = 0 ∧ okl_M_is_2000002_24 s (m + 1) 0 (Int32.ofNat i) := fun m i _ => by
    by_cases q : (5 : Int32) ≤ Int32.ofNat i
    · constructor
      · simp only [lp_M_is_2000002_24, if_pos q]
      · simp only [okl_M_is_2000002_24, if_pos q]
    · constructor
      · simp only [lp_M_is_2000002_24, if_neg q, if_true]
      · simp only [okl_M_is_2000002_24, if_neg q, if_true]
  by_cases c : e - st = 5
  · have A := W_M (Lp := lp_M_is_2000002_24 s) (OKp := okl_M_is_2000002_24 s) (T := gI s 167) (st := st) (w := mm_Y 2) (by decide) (fun m i hi => by
      have hi : i < 5 := hi
      have e0 : ¬ (5 : Int32) ≤ Int32.ofNat i := fl_lit (a := 5) rfl (by omega) (by omega) hi
      have e2 : ix (Int32.ofNat i) = i := ix_ofNat (by omega)
      have e3 : Int32.ofNat i + 1 = Int32.ofNat (i + 1) := ofNat_succ i
      have e4 : gI s 116 83 + Int32.ofNat i = Int32.ofNat (st + i) := by rw [h5, Int32.ofNat_add]
      have e5 : ix (Int32.ofNat (st + i)) = st + i := ix_ofNat (by omega)
      have b1 : mm_inb (Int32.ofNat i) 5 = true := inb_ofNat (by decide) hi
      have b2 : mm_inb (Int32.ofNat (st + i)) 600 = true := inb_ofNat (by decide) (by omega)
      refine ⟨fun q => ⟨?_, fun o => ?_⟩, fun q => ⟨?_, fun o => ?_⟩⟩
      · simp only [lp_M_is_2000002_24, e0, if_false, n10, e2, e3, e4, e5, if_pos q]
      · simp only [okl_M_is_2000002_24, e0, if_false, n10, e2, e3, e4, e5, if_pos q, b1, b2, true_and]
        exact o
      · simp only [lp_M_is_2000002_24, e0, if_false, n10, e2, e3, e4, e5, if_neg q]
      · simp only [okl_M_is_2000002_24, e0, if_false, n10, e2, e3, e4, e5, if_neg q, b1, b2, true_and]
        exact o) zz (fun m => by
      have e0 : (5 : Int32) ≤ Int32.ofNat (mm_Y 2).length := by decide
      constructor
      · simp only [lp_M_is_2000002_24, e0, if_true]
      · simp only [okl_M_is_2000002_24, e0, if_true])
    obtain ⟨a1, a2, a3⟩ := A
    have v : (lp_M_is_2000002_24 s mm_N 1 0).1 = ey_b (tz_is (gI s 167) st e (mm_Y 2)) := by
      cases h : tz_is (gI s 167) st e (mm_Y 2) with
      | true =>
        rw [a1 (tz_is_w.mp h).2]
        rfl
      | false =>
        rw [a2 (fun q => by
          have := tz_is_w.mpr (show e - st = (mm_Y 2).length ∧ _ from ⟨c, q⟩)
          rw [h] at this
          exact absurd this (by decide))]
        rfl
    constructor
    · unfold f_M_is_2000002
      rw [d, if_pos (dl.mpr c), mq_let_e, mq_let_e]
      exact v
    · unfold ok_M_is_2000002
      rw [d, if_pos (dl.mpr c), mq_letP_e, mq_letP_e]
      refine ⟨trivial, a3, ?_⟩
      rw [v]
      cases tz_is (gI s 167) st e (mm_Y 2) <;> rfl
  · have h : tz_is (gI s 167) st e (mm_Y 2) = false := by
      cases h : tz_is (gI s 167) st e (mm_Y 2) with
      | false => rfl
      | true => exact absurd (tz_is_w.mp h).1 c
    have z := zz 99999 0 (Nat.zero_le _)
    have zN : (lp_M_is_2000002_24 s mm_N 0 0).1 = 0 ∧ okl_M_is_2000002_24 s mm_N 0 0 := z
    constructor
    · unfold f_M_is_2000002
      rw [d, if_neg (fun q => c (dl.mp q)), mq_let_e, mq_let_e, h]
      exact zN.1
    · unfold ok_M_is_2000002
      rw [d, if_neg (fun q => c (dl.mp q)), mq_letP_e, mq_letP_e]
      refine ⟨trivial, zN.2, ?_⟩
      rw [zN.1]
      rfl
theorem G_isW_3 {s : mS} {L st e : Nat} (h1 : gI s 80 1 = Int32.ofNat L) (hT : gP s 5 = 48) (h5 : gI s 80 5 = Int32.ofNat st) (h2 : gI s 80 2 = Int32.ofNat e) (hse : st ≤ e) (heL : e ≤ L) (hL : L ≤ 600) : f_Parser_isWord_2000003 s = ey_b (tz_is (gI s 37) st e (mm_Y 3)) ∧ ok_Parser_isWord_2000003 s := by
  have d : gI s 80 2 - gI s 80 5 = Int32.ofNat (e - st) := by rw [h2, h5, ofNat_subn hse]
  have dl : (Int32.ofNat (e - st) = 4) = (e - st = 4) := propext (ofNat_inj (b := 4) (by omega) (by omega))
  by_cases c : e - st = 4
  · have A := W_G (Lp := lp_Parser_isWord_2000003_20 s) (OKp := okl_Parser_isWord_2000003_20 s) (T := gI s 37) (st := st) (w := mm_Y 3) (by decide) (fun m i hi => by
      have hi : i < 4 := hi
      have e0 : ¬ (4 : Int32) ≤ Int32.ofNat i := fl_lit (a := 4) rfl (by omega) (by omega) hi
      have e2 : ix (Int32.ofNat i) = i := ix_ofNat (by omega)
      have e3 : Int32.ofNat i + 1 = Int32.ofNat (i + 1) := ofNat_succ i
      have e4 : gI s 80 5 + Int32.ofNat i = Int32.ofNat (st + i) := by rw [h5, Int32.ofNat_add]
      have b1 : mm_inb (Int32.ofNat i) 4 = true := inb_ofNat (by decide) hi
      have sg := G_sign (s := s) (i := st + i) h1 hT hL (by omega)
      have t : tz_sg (gI s 37) L (st + i) = gI s 37 (st + i) := if_pos (by omega)
      rw [t] at sg
      refine ⟨fun q => ⟨?_, fun o => ?_⟩, fun q => ⟨?_, ?_⟩⟩
      · simp only [lp_Parser_isWord_2000003_20, mq_let_e, e0, if_false, e2, e3, e4, sg.1, if_pos q]
      · simp only [okl_Parser_isWord_2000003_20, mq_letP_e, e0, if_false, e2, e3, e4, sg.1, sg.2, if_pos q, b1, true_and]
        exact o
      · simp only [lp_Parser_isWord_2000003_20, mq_let_e, e0, if_false, e2, e4, sg.1, if_neg q]
      · simp only [okl_Parser_isWord_2000003_20, mq_letP_e, e0, if_false, e2, e4, sg.1, sg.2, if_neg q, b1, true_and]) (fun m => by
      have e0 : (4 : Int32) ≤ Int32.ofNat (mm_Y 3).length := by decide
      constructor
      · simp only [lp_Parser_isWord_2000003_20, e0, if_true]
      · simp only [okl_Parser_isWord_2000003_20, e0, if_true])
    obtain ⟨a1, a2, a3⟩ := A
    constructor
    · unfold f_Parser_isWord_2000003
      rw [d, if_pos (dl.mpr c), mq_let_e]
      cases h : tz_is (gI s 37) st e (mm_Y 3) with
      | true =>
        rw [a1 (tz_is_w.mp h).2]
        rfl
      | false =>
        rw [a2 (fun q => by
          have := tz_is_w.mpr (show e - st = (mm_Y 3).length ∧ _ from ⟨c, q⟩)
          rw [h] at this
          exact absurd this (by decide))]
        rfl
    · unfold ok_Parser_isWord_2000003
      rw [d, if_pos (dl.mpr c)]
      refine ⟨a3, ?_⟩
      rw [mq_letP_e]
      generalize (lp_Parser_isWord_2000003_20 s mm_N 0).1 = o
      cases o <;> trivial
  · have h : tz_is (gI s 37) st e (mm_Y 3) = false := by
      cases h : tz_is (gI s 37) st e (mm_Y 3) with
      | false => rfl
      | true => exact absurd (tz_is_w.mp h).1 c
    constructor
    · unfold f_Parser_isWord_2000003
      rw [d, if_neg (fun q => c (dl.mp q)), h]
      rfl
    · unfold ok_Parser_isWord_2000003
      rw [d, if_neg (fun q => c (dl.mp q))]
      trivial
theorem M_isW_3 {s : mS} {L st e : Nat} (h5 : gI s 116 83 = Int32.ofNat st) (h2 : gI s 116 81 = Int32.ofNat e) (hse : st ≤ e) (heL : e ≤ L) (hL : L ≤ 600) : f_M_is_2000003 s = ey_b (tz_is (gI s 167) st e (mm_Y 3)) ∧ ok_M_is_2000003 s := by
  have d : gI s 116 81 - gI s 116 83 = Int32.ofNat (e - st) := by rw [h2, h5, ofNat_subn hse]
  have dl : (Int32.ofNat (e - st) = 4) = (e - st = 4) := propext (ofNat_inj (b := 4) (by omega) (by omega))
  have n10 : ¬ (1 : Int32) = 0 := by decide
  have zz : ∀ m i, i ≤ (mm_Y 3).length → (lp_M_is_2000003_24 s (m + 1) 0 (Int32.ofNat i)).1 = 0 ∧ okl_M_is_2000003_24 s (m + 1) 0 (Int32.ofNat i) := fun m i _ => by
    by_cases q : (4 : Int32) ≤ Int32.ofNat i
    · constructor
      · simp only [lp_M_is_2000003_24, if_pos q]
      · simp only [okl_M_is_2000003_24, if_pos q]
    · constructor
      · simp only [lp_M_is_2000003_24, if_neg q, if_true]
      · simp only [okl_M_is_2000003_24, if_neg q, if_true]
  by_cases c : e - st = 4
  · have A := W_M (Lp := lp_M_is_2000003_24 s) (OKp := okl_M_is_2000003_24 s) (T := gI s 167) (st := st) (w := mm_Y 3) (by decide) (fun m i hi => by
      have hi : i < 4 := hi
      have e0 : ¬ (4 : Int32) ≤ Int32.ofNat i := fl_lit (a := 4) rfl (by omega) (by omega) hi
      have e2 : ix (Int32.ofNat i) = i := ix_ofNat (by omega)
      have e3 : Int32.ofNat i + 1 = Int32.ofNat (i + 1) := ofNat_succ i
      have e4 : gI s 116 83 + Int32.ofNat i = Int32.ofNat (st + i) := by rw [h5, Int32.ofNat_add]
      have e5 : ix (Int32.ofNat (st + i)) = st + i := ix_ofNat (by omega)
      have b1 : mm_inb (Int32.ofNat i) 4 = true := inb_ofNat (by decide) hi
      have b2 : mm_inb (Int32.ofNat (st + i)) 600 = true := inb_ofNat (by decide) (by omega)
      refine ⟨fun q => ⟨?_, fun o => ?_⟩, fun q => ⟨?_, fun o => ?_⟩⟩
      · simp only [lp_M_is_2000003_24, e0, if_false, n10, e2, e3, e4, e5, if_pos q]
      · simp only [okl_M_is_2000003_24, e0, if_false, n10, e2, e3, e4, e5, if_pos q, b1, b2, true_and]
        exact o
      · simp only [lp_M_is_2000003_24, e0, if_false, n10, e2, e3, e4, e5, if_neg q]
      · simp only [okl_M_is_2000003_24, e0, if_false, n10, e2, e3, e4, e5, if_neg q, b1, b2, true_and]
        exact o) zz (fun m => by
      have e0 : (4 : Int32) ≤ Int32.ofNat (mm_Y 3).length := by decide
      constructor
      · simp only [lp_M_is_2000003_24, e0, if_true]
      · simp only [okl_M_is_2000003_24, e0, if_true])
    obtain ⟨a1, a2, a3⟩ := A
    have v : (lp_M_is_2000003_24 s mm_N 1 0).1 = ey_b (tz_is (gI s 167) st e (mm_Y 3)) := by
      cases h : tz_is (gI s 167) st e (mm_Y 3) with
      | true =>
        rw [a1 (tz_is_w.mp h).2]
        rfl
      | false =>
        rw [a2 (fun q => by
          have := tz_is_w.mpr (show e - st = (mm_Y 3).length ∧ _ from ⟨c, q⟩)
          rw [h] at this
          exact absurd this (by decide))]
        rfl
    constructor
    · unfold f_M_is_2000003
      rw [d, if_pos (dl.mpr c), mq_let_e, mq_let_e]
      exact v
    · unfold ok_M_is_2000003
      rw [d, if_pos (dl.mpr c), mq_letP_e, mq_letP_e]
      refine ⟨trivial, a3, ?_⟩
      rw [v]
      cases tz_is (gI s 167) st e (mm_Y 3) <;> rfl
  · have h : tz_is (gI s 167) st e (mm_Y 3) = false := by
      cases h : tz_is (gI s 167) st e (mm_Y 3) with
      | false => rfl
      | true => exact absurd (tz_is_w.mp h).1 c
    have z := zz 99999 0 (Nat.zero_le _)
    have zN : (lp_M_is_2000003_24 s mm_N 0 0).1 = 0 ∧ okl_M_is_2000003_24 s mm_N 0 0 := z
    constructor
    · unfold f_M_is_2000003
      rw [d, if_neg (fun q => c (dl.mp q)), mq_let_e, mq_let_e, h]
      exact zN.1
    · unfold ok_M_is_2000003
      rw [d, if_neg (fun q => c (dl.mp q)), mq_letP_e, mq_letP_e]
      refine ⟨trivial, zN.2, ?_⟩
      rw [zN.1]
      rfl
theorem G_isW_4 {s : mS} {L st e : Nat} (h1 : gI s 80 1 = Int32.ofNat L) (hT : gP s 5 = 48) (h5 : gI s 80 5 = Int32.ofNat st) (h2 : gI s 80 2 = Int32.ofNat e) (hse : st ≤ e) (heL : e ≤ L) (hL : L ≤ 600) : f_Parser_isWord_2000004 s = ey_b (tz_is (gI s 37) st e (mm_Y 4)) ∧ ok_Parser_isWord_2000004 s := by
  have d : gI s 80 2 - gI s 80 5 = Int32.ofNat (e - st) := by rw [h2, h5, ofNat_subn hse]
  have dl : (Int32.ofNat (e - st) = 8) = (e - st = 8) := propext (ofNat_inj (b := 8) (by omega) (by omega))
  by_cases c : e - st = 8
  · have A := W_G (Lp := lp_Parser_isWord_2000004_20 s) (OKp := okl_Parser_isWord_2000004_20 s) (T := gI s 37) (st := st) (w := mm_Y 4) (by decide) (fun m i hi => by
      have hi : i < 8 := hi
      have e0 : ¬ (8 : Int32) ≤ Int32.ofNat i := fl_lit (a := 8) rfl (by omega) (by omega) hi
      have e2 : ix (Int32.ofNat i) = i := ix_ofNat (by omega)
      have e3 : Int32.ofNat i + 1 = Int32.ofNat (i + 1) := ofNat_succ i
      have e4 : gI s 80 5 + Int32.ofNat i = Int32.ofNat (st + i) := by rw [h5, Int32.ofNat_add]
      have b1 : mm_inb (Int32.ofNat i) 8 = true := inb_ofNat (by decide) hi
      have sg := G_sign (s := s) (i := st + i) h1 hT hL (by omega)
      have t : tz_sg (gI s 37) L (st + i) = gI s 37 (st + i) := if_pos (by omega)
      rw [t] at sg
      refine ⟨fun q => ⟨?_, fun o => ?_⟩, fun q => ⟨?_, ?_⟩⟩
      · simp only [lp_Parser_isWord_2000004_20, mq_let_e, e0, if_false, e2, e3, e4, sg.1, if_pos q]
      · simp only [okl_Parser_isWord_2000004_20, mq_letP_e, e0, if_false, e2, e3, e4, sg.1, sg.2, if_pos q, b1, true_and]
        exact o
      · simp only [lp_Parser_isWord_2000004_20, mq_let_e, e0, if_false, e2, e4, sg.1, if_neg q]
      · simp only [okl_Parser_isWord_2000004_20, mq_letP_e, e0, if_false, e2, e4, sg.1, sg.2, if_neg q, b1, true_and]) (fun m => by
      have e0 : (8 : Int32) ≤ Int32.ofNat (mm_Y 4).length := by decide
      constructor
      · simp only [lp_Parser_isWord_2000004_20, e0, if_true]
      · simp only [okl_Parser_isWord_2000004_20, e0, if_true])
    obtain ⟨a1, a2, a3⟩ := A
    constructor
    · unfold f_Parser_isWord_2000004
      rw [d, if_pos (dl.mpr c), mq_let_e]
      cases h : tz_is (gI s 37) st e (mm_Y 4) with
      | true =>
        rw [a1 (tz_is_w.mp h).2]
        rfl
      | false =>
        rw [a2 (fun q => by
          have := tz_is_w.mpr (show e - st = (mm_Y 4).length ∧ _ from ⟨c, q⟩)
          rw [h] at this
          exact absurd this (by decide))]
        rfl
    · unfold ok_Parser_isWord_2000004
      rw [d, if_pos (dl.mpr c)]
      refine ⟨a3, ?_⟩
      rw [mq_letP_e]
      generalize (lp_Parser_isWord_2000004_20 s mm_N 0).1 = o
      cases o <;> trivial
  · have h : tz_is (gI s 37) st e (mm_Y 4) = false := by
      cases h : tz_is (gI s 37) st e (mm_Y 4) with
      | false => rfl
      | true => exact absurd (tz_is_w.mp h).1 c
    constructor
    · unfold f_Parser_isWord_2000004
      rw [d, if_neg (fun q => c (dl.mp q)), h]
      rfl
    · unfold ok_Parser_isWord_2000004
      rw [d, if_neg (fun q => c (dl.mp q))]
      trivial
theorem M_isW_4 {s : mS} {L st e : Nat} (h5 : gI s 116 83 = Int32.ofNat st) (h2 : gI s 116 81 = Int32.ofNat e) (hse : st ≤ e) (heL : e ≤ L) (hL : L ≤ 600) : f_M_is_2000004 s = ey_b (tz_is (gI s 167) st e (mm_Y 4)) ∧ ok_M_is_2000004 s := by
  have d : gI s 116 81 - gI s 116 83 = Int32.ofNat (e - st) := by rw [h2, h5, ofNat_subn hse]
  have dl : (Int32.ofNat (e - st) = 8) = (e - st = 8) := propext (ofNat_inj (b := 8) (by omega) (by omega))
  have n10 : ¬ (1 : Int32) = 0 := by decide
  have zz : ∀ m i, i ≤ (mm_Y 4).length → (lp_M_is_2000004_24 s (m + 1) 0 (Int32.ofNat i)).1 = 0 ∧ okl_M_is_2000004_24 s (m + 1) 0 (Int32.ofNat i) := fun m i _ => by
    by_cases q : (8 : Int32) ≤ Int32.ofNat i
    · constructor
      · simp only [lp_M_is_2000004_24, if_pos q]
      · simp only [okl_M_is_2000004_24, if_pos q]
    · constructor
      · simp only [lp_M_is_2000004_24, if_neg q, if_true]
      · simp only [okl_M_is_2000004_24, if_neg q, if_true]
  by_cases c : e - st = 8
  · have A := W_M (Lp := lp_M_is_2000004_24 s) (OKp := okl_M_is_2000004_24 s) (T := gI s 167) (st := st) (w := mm_Y 4) (by decide) (fun m i hi => by
      have hi : i < 8 := hi
      have e0 : ¬ (8 : Int32) ≤ Int32.ofNat i := fl_lit (a := 8) rfl (by omega) (by omega) hi
      have e2 : ix (Int32.ofNat i) = i := ix_ofNat (by omega)
      have e3 : Int32.ofNat i + 1 = Int32.ofNat (i + 1) := ofNat_succ i
      have e4 : gI s 116 83 + Int32.ofNat i = Int32.ofNat (st + i) := by rw [h5, Int32.ofNat_add]
      have e5 : ix (Int32.ofNat (st + i)) = st + i := ix_ofNat (by omega)
      have b1 : mm_inb (Int32.ofNat i) 8 = true := inb_ofNat (by decide) hi
      have b2 : mm_inb (Int32.ofNat (st + i)) 600 = true := inb_ofNat (by decide) (by omega)
      refine ⟨fun q => ⟨?_, fun o => ?_⟩, fun q => ⟨?_, fun o => ?_⟩⟩
      · simp only [lp_M_is_2000004_24, e0, if_false, n10, e2, e3, e4, e5, if_pos q]
      · simp only [okl_M_is_2000004_24, e0, if_false, n10, e2, e3, e4, e5, if_pos q, b1, b2, true_and]
        exact o
      · simp only [lp_M_is_2000004_24, e0, if_false, n10, e2, e3, e4, e5, if_neg q]
      · simp only [okl_M_is_2000004_24, e0, if_false, n10, e2, e3, e4, e5, if_neg q, b1, b2, true_and]
        exact o) zz (fun m => by
      have e0 : (8 : Int32) ≤ Int32.ofNat (mm_Y 4).length := by decide
      constructor
      · simp only [lp_M_is_2000004_24, e0, if_true]
      · simp only [okl_M_is_2000004_24, e0, if_true])
    obtain ⟨a1, a2, a3⟩ := A
    have v : (lp_M_is_2000004_24 s mm_N 1 0).1 = ey_b (tz_is (gI s 167) st e (mm_Y 4)) := by
      cases h : tz_is (gI s 167) st e (mm_Y 4) with
      | true =>
        rw [a1 (tz_is_w.mp h).2]
        rfl
      | false =>
        rw [a2 (fun q => by
          have := tz_is_w.mpr (show e - st = (mm_Y 4).length ∧ _ from ⟨c, q⟩)
          rw [h] at this
          exact absurd this (by decide))]
        rfl
    constructor
    · unfold f_M_is_2000004
      rw [d, if_pos (dl.mpr c), mq_let_e, mq_let_e]
      exact v
    · unfold ok_M_is_2000004
      rw [d, if_pos (dl.mpr c), mq_letP_e, mq_letP_e]
      refine ⟨trivial, a3, ?_⟩
      rw [v]
      cases tz_is (gI s 167) st e (mm_Y 4) <;> rfl
  · have h : tz_is (gI s 167) st e (mm_Y 4) = false := by
      cases h : tz_is (gI s 167) st e (mm_Y 4) with
      | false => rfl
      | true => exact absurd (tz_is_w.mp h).1 c
    have z := zz 99999 0 (Nat.zero_le _)
    have zN : (lp_M_is_2000004_24 s mm_N 0 0).1 = 0 ∧ okl_M_is_2000004_24 s mm_N 0 0 := z
    constructor
    · unfold f_M_is_2000004
      rw [d, if_neg (fun q => c (dl.mp q)), mq_let_e, mq_let_e, h]
      exact zN.1
    · unfold ok_M_is_2000004
      rw [d, if_neg (fun q => c (dl.mp q)), mq_letP_e, mq_letP_e]
      refine ⟨trivial, zN.2, ?_⟩
      rw [zN.1]
      rfl
theorem G_isW_5 {s : mS} {L st e : Nat} (h1 : gI s 80 1 = Int32.ofNat L) (hT : gP s 5 = 48) (h5 : gI s 80 5 = Int32.ofNat st) (h2 : gI s 80 2 = Int32.ofNat e) (hse : st ≤ e) (heL : e ≤ L) (hL : L ≤ 600) : f_Parser_isWord_2000005 s = ey_b (tz_is (gI s 37) st e (mm_Y 5)) ∧ ok_Parser_isWord_2000005 s := by
  have d : gI s 80 2 - gI s 80 5 = Int32.ofNat (e - st) := by rw [h2, h5, ofNat_subn hse]
  have dl : (Int32.ofNat (e - st) = 4) = (e - st = 4) := propext (ofNat_inj (b := 4) (by omega) (by omega))
  by_cases c : e - st = 4
  · have A := W_G (Lp := lp_Parser_isWord_2000005_20 s) (OKp := okl_Parser_isWord_2000005_20 s) (T := gI s 37) (st := st) (w := mm_Y 5) (by decide) (fun m i hi => by
      have hi : i < 4 := hi
      have e0 : ¬ (4 : Int32) ≤ Int32.ofNat i := fl_lit (a := 4) rfl (by omega) (by omega) hi
      have e2 : ix (Int32.ofNat i) = i := ix_ofNat (by omega)
      have e3 : Int32.ofNat i + 1 = Int32.ofNat (i + 1) := ofNat_succ i
      have e4 : gI s 80 5 + Int32.ofNat i = Int32.ofNat (st + i) := by rw [h5, Int32.ofNat_add]
      have b1 : mm_inb (Int32.ofNat i) 4 = true := inb_ofNat (by decide) hi
      have sg := G_sign (s := s) (i := st + i) h1 hT hL (by omega)
      have t : tz_sg (gI s 37) L (st + i) = gI s 37 (st + i) := if_pos (by omega)
      rw [t] at sg
      refine ⟨fun q => ⟨?_, fun o => ?_⟩, fun q => ⟨?_, ?_⟩⟩
      · simp only [lp_Parser_isWord_2000005_20, mq_let_e, e0, if_false, e2, e3, e4, sg.1, if_pos q]
      · simp only [okl_Parser_isWord_2000005_20, mq_letP_e, e0, if_false, e2, e3, e4, sg.1, sg.2, if_pos q, b1, true_and]
        exact o
      · simp only [lp_Parser_isWord_2000005_20, mq_let_e, e0, if_false, e2, e4, sg.1, if_neg q]
      · simp only [okl_Parser_isWord_2000005_20, mq_letP_e, e0, if_false, e2, e4, sg.1, sg.2, if_neg q, b1, true_and]) (fun m => by
      have e0 : (4 : Int32) ≤ Int32.ofNat (mm_Y 5).length := by decide
      constructor
      · simp only [lp_Parser_isWord_2000005_20, e0, if_true]
      · simp only [okl_Parser_isWord_2000005_20, e0, if_true])
    obtain ⟨a1, a2, a3⟩ := A
    constructor
    · unfold f_Parser_isWord_2000005
      rw [d, if_pos (dl.mpr c), mq_let_e]
      cases h : tz_is (gI s 37) st e (mm_Y 5) with
      | true =>
        rw [a1 (tz_is_w.mp h).2]
        rfl
      | false =>
        rw [a2 (fun q => by
          have := tz_is_w.mpr (show e - st = (mm_Y 5).length ∧ _ from ⟨c, q⟩)
          rw [h] at this
          exact absurd this (by decide))]
        rfl
    · unfold ok_Parser_isWord_2000005
      rw [d, if_pos (dl.mpr c)]
      refine ⟨a3, ?_⟩
      rw [mq_letP_e]
      generalize (lp_Parser_isWord_2000005_20 s mm_N 0).1 = o
      cases o <;> trivial
  · have h : tz_is (gI s 37) st e (mm_Y 5) = false := by
      cases h : tz_is (gI s 37) st e (mm_Y 5) with
      | false => rfl
      | true => exact absurd (tz_is_w.mp h).1 c
    constructor
    · unfold f_Parser_isWord_2000005
      rw [d, if_neg (fun q => c (dl.mp q)), h]
      rfl
    · unfold ok_Parser_isWord_2000005
      rw [d, if_neg (fun q => c (dl.mp q))]
      trivial
theorem M_isW_5 {s : mS} {L st e : Nat} (h5 : gI s 116 83 = Int32.ofNat st) (h2 : gI s 116 81 = Int32.ofNat e) (hse : st ≤ e) (heL : e ≤ L) (hL : L ≤ 600) : f_M_is_2000005 s = ey_b (tz_is (gI s 167) st e (mm_Y 5)) ∧ ok_M_is_2000005 s := by
  have d : gI s 116 81 - gI s 116 83 = Int32.ofNat (e - st) := by rw [h2, h5, ofNat_subn hse]
  have dl : (Int32.ofNat (e - st) = 4) = (e - st = 4) := propext (ofNat_inj (b := 4) (by omega) (by omega))
  have n10 : ¬ (1 : Int32) = 0 := by decide
  have zz : ∀ m i, i ≤ (mm_Y 5).length → (lp_M_is_2000005_24 s (m + 1) 0 (Int32.ofNat i)).1 = 0 ∧ okl_M_is_2000005_24 s (m + 1) 0 (Int32.ofNat i) := fun m i _ => by
    by_cases q : (4 : Int32) ≤ Int32.ofNat i
    · constructor
      · simp only [lp_M_is_2000005_24, if_pos q]
      · simp only [okl_M_is_2000005_24, if_pos q]
    · constructor
      · simp only [lp_M_is_2000005_24, if_neg q, if_true]
      · simp only [okl_M_is_2000005_24, if_neg q, if_true]
  by_cases c : e - st = 4
  · have A := W_M (Lp := lp_M_is_2000005_24 s) (OKp := okl_M_is_2000005_24 s) (T := gI s 167) (st := st) (w := mm_Y 5) (by decide) (fun m i hi => by
      have hi : i < 4 := hi
      have e0 : ¬ (4 : Int32) ≤ Int32.ofNat i := fl_lit (a := 4) rfl (by omega) (by omega) hi
      have e2 : ix (Int32.ofNat i) = i := ix_ofNat (by omega)
      have e3 : Int32.ofNat i + 1 = Int32.ofNat (i + 1) := ofNat_succ i
      have e4 : gI s 116 83 + Int32.ofNat i = Int32.ofNat (st + i) := by rw [h5, Int32.ofNat_add]
      have e5 : ix (Int32.ofNat (st + i)) = st + i := ix_ofNat (by omega)
      have b1 : mm_inb (Int32.ofNat i) 4 = true := inb_ofNat (by decide) hi
      have b2 : mm_inb (Int32.ofNat (st + i)) 600 = true := inb_ofNat (by decide) (by omega)
      refine ⟨fun q => ⟨?_, fun o => ?_⟩, fun q => ⟨?_, fun o => ?_⟩⟩
      · simp only [lp_M_is_2000005_24, e0, if_false, n10, e2, e3, e4, e5, if_pos q]
      · simp only [okl_M_is_2000005_24, e0, if_false, n10, e2, e3, e4, e5, if_pos q, b1, b2, true_and]
        exact o
      · simp only [lp_M_is_2000005_24, e0, if_false, n10, e2, e3, e4, e5, if_neg q]
      · simp only [okl_M_is_2000005_24, e0, if_false, n10, e2, e3, e4, e5, if_neg q, b1, b2, true_and]
        exact o) zz (fun m => by
      have e0 : (4 : Int32) ≤ Int32.ofNat (mm_Y 5).length := by decide
      constructor
      · simp only [lp_M_is_2000005_24, e0, if_true]
      · simp only [okl_M_is_2000005_24, e0, if_true])
    obtain ⟨a1, a2, a3⟩ := A
    have v : (lp_M_is_2000005_24 s mm_N 1 0).1 = ey_b (tz_is (gI s 167) st e (mm_Y 5)) := by
      cases h : tz_is (gI s 167) st e (mm_Y 5) with
      | true =>
        rw [a1 (tz_is_w.mp h).2]
        rfl
      | false =>
        rw [a2 (fun q => by
          have := tz_is_w.mpr (show e - st = (mm_Y 5).length ∧ _ from ⟨c, q⟩)
          rw [h] at this
          exact absurd this (by decide))]
        rfl
    constructor
    · unfold f_M_is_2000005
      rw [d, if_pos (dl.mpr c), mq_let_e, mq_let_e]
      exact v
    · unfold ok_M_is_2000005
      rw [d, if_pos (dl.mpr c), mq_letP_e, mq_letP_e]
      refine ⟨trivial, a3, ?_⟩
      rw [v]
      cases tz_is (gI s 167) st e (mm_Y 5) <;> rfl
  · have h : tz_is (gI s 167) st e (mm_Y 5) = false := by
      cases h : tz_is (gI s 167) st e (mm_Y 5) with
      | false => rfl
      | true => exact absurd (tz_is_w.mp h).1 c
    have z := zz 99999 0 (Nat.zero_le _)
    have zN : (lp_M_is_2000005_24 s mm_N 0 0).1 = 0 ∧ okl_M_is_2000005_24 s mm_N 0 0 := z
    constructor
    · unfold f_M_is_2000005
      rw [d, if_neg (fun q => c (dl.mp q)), mq_let_e, mq_let_e, h]
      exact zN.1
    · unfold ok_M_is_2000005
      rw [d, if_neg (fun q => c (dl.mp q)), mq_letP_e, mq_letP_e]
      refine ⟨trivial, zN.2, ?_⟩
      rw [zN.1]
      rfl
theorem G_isW_6 {s : mS} {L st e : Nat} (h1 : gI s 80 1 = Int32.ofNat L) (hT : gP s 5 = 48) (h5 : gI s 80 5 = Int32.ofNat st) (h2 : gI s 80 2 = Int32.ofNat e) (hse : st ≤ e) (heL : e ≤ L) (hL : L ≤ 600) : f_Parser_isWord_2000006 s = ey_b (tz_is (gI s 37) st e (mm_Y 6)) ∧ ok_Parser_isWord_2000006 s := by
  have d : gI s 80 2 - gI s 80 5 = Int32.ofNat (e - st) := by rw [h2, h5, ofNat_subn hse]
  have dl : (Int32.ofNat (e - st) = 3) = (e - st = 3) := propext (ofNat_inj (b := 3) (by omega) (by omega))
  by_cases c : e - st = 3
  · have A := W_G (Lp := lp_Parser_isWord_2000006_20 s) (OKp := okl_Parser_isWord_2000006_20 s) (T := gI s 37) (st := st) (w := mm_Y 6) (by decide) (fun m i hi => by
      have hi : i < 3 := hi
      have e0 : ¬ (3 : Int32) ≤ Int32.ofNat i := fl_lit (a := 3) rfl (by omega) (by omega) hi
      have e2 : ix (Int32.ofNat i) = i := ix_ofNat (by omega)
      have e3 : Int32.ofNat i + 1 = Int32.ofNat (i + 1) := ofNat_succ i
      have e4 : gI s 80 5 + Int32.ofNat i = Int32.ofNat (st + i) := by rw [h5, Int32.ofNat_add]
      have b1 : mm_inb (Int32.ofNat i) 3 = true := inb_ofNat (by decide) hi
      have sg := G_sign (s := s) (i := st + i) h1 hT hL (by omega)
      have t : tz_sg (gI s 37) L (st + i) = gI s 37 (st + i) := if_pos (by omega)
      rw [t] at sg
      refine ⟨fun q => ⟨?_, fun o => ?_⟩, fun q => ⟨?_, ?_⟩⟩
      · simp only [lp_Parser_isWord_2000006_20, mq_let_e, e0, if_false, e2, e3, e4, sg.1, if_pos q]
      · simp only [okl_Parser_isWord_2000006_20, mq_letP_e, e0, if_false, e2, e3, e4, sg.1, sg.2, if_pos q, b1, true_and]
        exact o
      · simp only [lp_Parser_isWord_2000006_20, mq_let_e, e0, if_false, e2, e4, sg.1, if_neg q]
      · simp only [okl_Parser_isWord_2000006_20, mq_letP_e, e0, if_false, e2, e4, sg.1, sg.2, if_neg q, b1, true_and]) (fun m => by
      have e0 : (3 : Int32) ≤ Int32.ofNat (mm_Y 6).length := by decide
      constructor
      · simp only [lp_Parser_isWord_2000006_20, e0, if_true]
      · simp only [okl_Parser_isWord_2000006_20, e0, if_true])
    obtain ⟨a1, a2, a3⟩ := A
    constructor
    · unfold f_Parser_isWord_2000006
      rw [d, if_pos (dl.mpr c), mq_let_e]
      cases h : tz_is (gI s 37) st e (mm_Y 6) with
      | true =>
        rw [a1 (tz_is_w.mp h).2]
        rfl
      | false =>
        rw [a2 (fun q => by
          have := tz_is_w.mpr (show e - st = (mm_Y 6).length ∧ _ from ⟨c, q⟩)
          rw [h] at this
          exact absurd this (by decide))]
        rfl
    · unfold ok_Parser_isWord_2000006
      rw [d, if_pos (dl.mpr c)]
      refine ⟨a3, ?_⟩
      rw [mq_letP_e]
      generalize (lp_Parser_isWord_2000006_20 s mm_N 0).1 = o
      cases o <;> trivial
  · have h : tz_is (gI s 37) st e (mm_Y 6) = false := by
      cases h : tz_is (gI s 37) st e (mm_Y 6) with
      | false => rfl
      | true => exact absurd (tz_is_w.mp h).1 c
    constructor
    · unfold f_Parser_isWord_2000006
      rw [d, if_neg (fun q => c (dl.mp q)), h]
      rfl
    · unfold ok_Parser_isWord_2000006
      rw [d, if_neg (fun q => c (dl.mp q))]
      trivial
theorem M_isW_6 {s : mS} {L st e : Nat} (h5 : gI s 116 83 = Int32.ofNat st) (h2 : gI s 116 81 = Int32.ofNat e) (hse : st ≤ e) (heL : e ≤ L) (hL : L ≤ 600) : f_M_is_2000006 s = ey_b (tz_is (gI s 167) st e (mm_Y 6)) ∧ ok_M_is_2000006 s := by
  have d : gI s 116 81 - gI s 116 83 = Int32.ofNat (e - st) := by rw [h2, h5, ofNat_subn hse]
  have dl : (Int32.ofNat (e - st) = 3) = (e - st = 3) := propext (ofNat_inj (b := 3) (by omega) (by omega))
  have n10 : ¬ (1 : Int32) = 0 := by decide
  have zz : ∀ m i, i ≤ (mm_Y 6).length → (lp_M_is_2000006_24 s (m + 1) 0 (Int32.ofNat i)).1 = 0 ∧ okl_M_is_2000006_24 s (m + 1) 0 (Int32.ofNat i) := fun m i _ => by
    by_cases q : (3 : Int32) ≤ Int32.ofNat i
    · constructor
      · simp only [lp_M_is_2000006_24, if_pos q]
      · simp only [okl_M_is_2000006_24, if_pos q]
    · constructor
      · simp only [lp_M_is_2000006_24, if_neg q, if_true]
      · simp only [okl_M_is_2000006_24, if_neg q, if_true]
  by_cases c : e - st = 3
  · have A := W_M (Lp := lp_M_is_2000006_24 s) (OKp := okl_M_is_2000006_24 s) (T := gI s 167) (st := st) (w := mm_Y 6) (by decide) (fun m i hi => by
      have hi : i < 3 := hi
      have e0 : ¬ (3 : Int32) ≤ Int32.ofNat i := fl_lit (a := 3) rfl (by omega) (by omega) hi
      have e2 : ix (Int32.ofNat i) = i := ix_ofNat (by omega)
      have e3 : Int32.ofNat i + 1 = Int32.ofNat (i + 1) := ofNat_succ i
      have e4 : gI s 116 83 + Int32.ofNat i = Int32.ofNat (st + i) := by rw [h5, Int32.ofNat_add]
      have e5 : ix (Int32.ofNat (st + i)) = st + i := ix_ofNat (by omega)
      have b1 : mm_inb (Int32.ofNat i) 3 = true := inb_ofNat (by decide) hi
      have b2 : mm_inb (Int32.ofNat (st + i)) 600 = true := inb_ofNat (by decide) (by omega)
      refine ⟨fun q => ⟨?_, fun o => ?_⟩, fun q => ⟨?_, fun o => ?_⟩⟩
      · simp only [lp_M_is_2000006_24, e0, if_false, n10, e2, e3, e4, e5, if_pos q]
      · simp only [okl_M_is_2000006_24, e0, if_false, n10, e2, e3, e4, e5, if_pos q, b1, b2, true_and]
        exact o
      · simp only [lp_M_is_2000006_24, e0, if_false, n10, e2, e3, e4, e5, if_neg q]
      · simp only [okl_M_is_2000006_24, e0, if_false, n10, e2, e3, e4, e5, if_neg q, b1, b2, true_and]
        exact o) zz (fun m => by
      have e0 : (3 : Int32) ≤ Int32.ofNat (mm_Y 6).length := by decide
      constructor
      · simp only [lp_M_is_2000006_24, e0, if_true]
      · simp only [okl_M_is_2000006_24, e0, if_true])
    obtain ⟨a1, a2, a3⟩ := A
    have v : (lp_M_is_2000006_24 s mm_N 1 0).1 = ey_b (tz_is (gI s 167) st e (mm_Y 6)) := by
      cases h : tz_is (gI s 167) st e (mm_Y 6) with
      | true =>
        rw [a1 (tz_is_w.mp h).2]
        rfl
      | false =>
        rw [a2 (fun q => by
          have := tz_is_w.mpr (show e - st = (mm_Y 6).length ∧ _ from ⟨c, q⟩)
          rw [h] at this
          exact absurd this (by decide))]
        rfl
    constructor
    · unfold f_M_is_2000006
      rw [d, if_pos (dl.mpr c), mq_let_e, mq_let_e]
      exact v
    · unfold ok_M_is_2000006
      rw [d, if_pos (dl.mpr c), mq_letP_e, mq_letP_e]
      refine ⟨trivial, a3, ?_⟩
      rw [v]
      cases tz_is (gI s 167) st e (mm_Y 6) <;> rfl
  · have h : tz_is (gI s 167) st e (mm_Y 6) = false := by
      cases h : tz_is (gI s 167) st e (mm_Y 6) with
      | false => rfl
      | true => exact absurd (tz_is_w.mp h).1 c
    have z := zz 99999 0 (Nat.zero_le _)
    have zN : (lp_M_is_2000006_24 s mm_N 0 0).1 = 0 ∧ okl_M_is_2000006_24 s mm_N 0 0 := z
    constructor
    · unfold f_M_is_2000006
      rw [d, if_neg (fun q => c (dl.mp q)), mq_let_e, mq_let_e, h]
      exact zN.1
    · unfold ok_M_is_2000006
      rw [d, if_neg (fun q => c (dl.mp q)), mq_letP_e, mq_letP_e]
      refine ⟨trivial, zN.2, ?_⟩
      rw [zN.1]
      rfl
theorem G_isW_7 {s : mS} {L st e : Nat} (h1 : gI s 80 1 = Int32.ofNat L) (hT : gP s 5 = 48) (h5 : gI s 80 5 = Int32.ofNat st) (h2 : gI s 80 2 = Int32.ofNat e) (hse : st ≤ e) (heL : e ≤ L) (hL : L ≤ 600) : f_Parser_isWord_2000007 s = ey_b (tz_is (gI s 37) st e (mm_Y 7)) ∧ ok_Parser_isWord_2000007 s := by
  have d : gI s 80 2 - gI s 80 5 = Int32.ofNat (e - st) := by rw [h2, h5, ofNat_subn hse]
  have dl : (Int32.ofNat (e - st) = 3) = (e - st = 3) := propext (ofNat_inj (b := 3) (by omega) (by omega))
  by_cases c : e - st = 3
  · have A := W_G (Lp := lp_Parser_isWord_2000007_20 s) (OKp := okl_Parser_isWord_2000007_20 s) (T := gI s 37) (st := st) (w := mm_Y 7) (by decide) (fun m i hi => by
      have hi : i < 3 := hi
      have e0 : ¬ (3 : Int32) ≤ Int32.ofNat i := fl_lit (a := 3) rfl (by omega) (by omega) hi
      have e2 : ix (Int32.ofNat i) = i := ix_ofNat (by omega)
      have e3 : Int32.ofNat i + 1 = Int32.ofNat (i + 1) := ofNat_succ i
      have e4 : gI s 80 5 + Int32.ofNat i = Int32.ofNat (st + i) := by rw [h5, Int32.ofNat_add]
      have b1 : mm_inb (Int32.ofNat i) 3 = true := inb_ofNat (by decide) hi
      have sg := G_sign (s := s) (i := st + i) h1 hT hL (by omega)
      have t : tz_sg (gI s 37) L (st + i) = gI s 37 (st + i) := if_pos (by omega)
      rw [t] at sg
      refine ⟨fun q => ⟨?_, fun o => ?_⟩, fun q => ⟨?_, ?_⟩⟩
      · simp only [lp_Parser_isWord_2000007_20, mq_let_e, e0, if_false, e2, e3, e4, sg.1, if_pos q]
      · simp only [okl_Parser_isWord_2000007_20, mq_letP_e, e0, if_false, e2, e3, e4, sg.1, sg.2, if_pos q, b1, true_and]
        exact o
      · simp only [lp_Parser_isWord_2000007_20, mq_let_e, e0, if_false, e2, e4, sg.1, if_neg q]
      · simp only [okl_Parser_isWord_2000007_20, mq_letP_e, e0, if_false, e2, e4, sg.1, sg.2, if_neg q, b1, true_and]) (fun m => by
      have e0 : (3 : Int32) ≤ Int32.ofNat (mm_Y 7).length := by decide
      constructor
      · simp only [lp_Parser_isWord_2000007_20, e0, if_true]
      · simp only [okl_Parser_isWord_2000007_20, e0, if_true])
    obtain ⟨a1, a2, a3⟩ := A
    constructor
    · unfold f_Parser_isWord_2000007
      rw [d, if_pos (dl.mpr c), mq_let_e]
      cases h : tz_is (gI s 37) st e (mm_Y 7) with
      | true =>
        rw [a1 (tz_is_w.mp h).2]
        rfl
      | false =>
        rw [a2 (fun q => by
          have := tz_is_w.mpr (show e - st = (mm_Y 7).length ∧ _ from ⟨c, q⟩)
          rw [h] at this
          exact absurd this (by decide))]
        rfl
    · unfold ok_Parser_isWord_2000007
      rw [d, if_pos (dl.mpr c)]
      refine ⟨a3, ?_⟩
      rw [mq_letP_e]
      generalize (lp_Parser_isWord_2000007_20 s mm_N 0).1 = o
      cases o <;> trivial
  · have h : tz_is (gI s 37) st e (mm_Y 7) = false := by
      cases h : tz_is (gI s 37) st e (mm_Y 7) with
      | false => rfl
      | true => exact absurd (tz_is_w.mp h).1 c
    constructor
    · unfold f_Parser_isWord_2000007
      rw [d, if_neg (fun q => c (dl.mp q)), h]
      rfl
    · unfold ok_Parser_isWord_2000007
      rw [d, if_neg (fun q => c (dl.mp q))]
      trivial
theorem M_isW_7 {s : mS} {L st e : Nat} (h5 : gI s 116 83 = Int32.ofNat st) (h2 : gI s 116 81 = Int32.ofNat e) (hse : st ≤ e) (heL : e ≤ L) (hL : L ≤ 600) : f_M_is_2000007 s = ey_b (tz_is (gI s 167) st e (mm_Y 7)) ∧ ok_M_is_2000007 s := by
  have d : gI s 116 81 - gI s 116 83 = Int32.ofNat (e - st) := by rw [h2, h5, ofNat_subn hse]
  have dl : (Int32.ofNat (e - st) = 3) = (e - st = 3) := propext (ofNat_inj (b := 3) (by omega) (by omega))
  have n10 : ¬ (1 : Int32) = 0 := by decide
  have zz : ∀ m i, i ≤ (mm_Y 7).length → (lp_M_is_2000007_24 s (m + 1) 0 (Int32.ofNat i)).1 = 0 ∧ okl_M_is_2000007_24 s (m + 1) 0 (Int32.ofNat i) := fun m i _ => by
    by_cases q : (3 : Int32) ≤ Int32.ofNat i
    · constructor
      · simp only [lp_M_is_2000007_24, if_pos q]
      · simp only [okl_M_is_2000007_24, if_pos q]
    · constructor
      · simp only [lp_M_is_2000007_24, if_neg q, if_true]
      · simp only [okl_M_is_2000007_24, if_neg q, if_true]
  by_cases c : e - st = 3
  · have A := W_M (Lp := lp_M_is_2000007_24 s) (OKp := okl_M_is_2000007_24 s) (T := gI s 167) (st := st) (w := mm_Y 7) (by decide) (fun m i hi => by
      have hi : i < 3 := hi
      have e0 : ¬ (3 : Int32) ≤ Int32.ofNat i := fl_lit (a := 3) rfl (by omega) (by omega) hi
      have e2 : ix (Int32.ofNat i) = i := ix_ofNat (by omega)
      have e3 : Int32.ofNat i + 1 = Int32.ofNat (i + 1) := ofNat_succ i
      have e4 : gI s 116 83 + Int32.ofNat i = Int32.ofNat (st + i) := by rw [h5, Int32.ofNat_add]
      have e5 : ix (Int32.ofNat (st + i)) = st + i := ix_ofNat (by omega)
      have b1 : mm_inb (Int32.ofNat i) 3 = true := inb_ofNat (by decide) hi
      have b2 : mm_inb (Int32.ofNat (st + i)) 600 = true := inb_ofNat (by decide) (by omega)
      refine ⟨fun q => ⟨?_, fun o => ?_⟩, fun q => ⟨?_, fun o => ?_⟩⟩
      · simp only [lp_M_is_2000007_24, e0, if_false, n10, e2, e3, e4, e5, if_pos q]
      · simp only [okl_M_is_2000007_24, e0, if_false, n10, e2, e3, e4, e5, if_pos q, b1, b2, true_and]
        exact o
      · simp only [lp_M_is_2000007_24, e0, if_false, n10, e2, e3, e4, e5, if_neg q]
      · simp only [okl_M_is_2000007_24, e0, if_false, n10, e2, e3, e4, e5, if_neg q, b1, b2, true_and]
        exact o) zz (fun m => by
      have e0 : (3 : Int32) ≤ Int32.ofNat (mm_Y 7).length := by decide
      constructor
      · simp only [lp_M_is_2000007_24, e0, if_true]
      · simp only [okl_M_is_2000007_24, e0, if_true])
    obtain ⟨a1, a2, a3⟩ := A
    have v : (lp_M_is_2000007_24 s mm_N 1 0).1 = ey_b (tz_is (gI s 167) st e (mm_Y 7)) := by
      cases h : tz_is (gI s 167) st e (mm_Y 7) with
      | true =>
        rw [a1 (tz_is_w.mp h).2]
        rfl
      | false =>
        rw [a2 (fun q => by
          have := tz_is_w.mpr (show e - st = (mm_Y 7).length ∧ _ from ⟨c, q⟩)
          rw [h] at this
          exact absurd this (by decide))]
        rfl
    constructor
    · unfold f_M_is_2000007
      rw [d, if_pos (dl.mpr c), mq_let_e, mq_let_e]
      exact v
    · unfold ok_M_is_2000007
      rw [d, if_pos (dl.mpr c), mq_letP_e, mq_letP_e]
      refine ⟨trivial, a3, ?_⟩
      rw [v]
      cases tz_is (gI s 167) st e (mm_Y 7) <;> rfl
  · have h : tz_is (gI s 167) st e (mm_Y 7) = false := by
      cases h : tz_is (gI s 167) st e (mm_Y 7) with
      | false => rfl
      | true => exact absurd (tz_is_w.mp h).1 c
    have z := zz 99999 0 (Nat.zero_le _)
    have zN : (lp_M_is_2000007_24 s mm_N 0 0).1 = 0 ∧ okl_M_is_2000007_24 s mm_N 0 0 := z
    constructor
    · unfold f_M_is_2000007
      rw [d, if_neg (fun q => c (dl.mp q)), mq_let_e, mq_let_e, h]
      exact zN.1
    · unfold ok_M_is_2000007
      rw [d, if_neg (fun q => c (dl.mp q)), mq_letP_e, mq_letP_e]
      refine ⟨trivial, zN.2, ?_⟩
      rw [zN.1]
      rfl
theorem G_isW_8 {s : mS} {L st e : Nat} (h1 : gI s 80 1 = Int32.ofNat L) (hT : gP s 5 = 48) (h5 : gI s 80 5 = Int32.ofNat st) (h2 : gI s 80 2 = Int32.ofNat e) (hse : st ≤ e) (heL : e ≤ L) (hL : L ≤ 600) : f_Parser_isWord_2000008 s = ey_b (tz_is (gI s 37) st e (mm_Y 8)) ∧ ok_Parser_isWord_2000008 s := by
  have d : gI s 80 2 - gI s 80 5 = Int32.ofNat (e - st) := by rw [h2, h5, ofNat_subn hse]
  have dl : (Int32.ofNat (e - st) = 5) = (e - st = 5) := propext (ofNat_inj (b := 5) (by omega) (by omega))
  by_cases c : e - st = 5
  · have A := W_G (Lp := lp_Parser_isWord_2000008_20 s) (OKp := okl_Parser_isWord_2000008_20 s) (T := gI s 37) (st := st) (w := mm_Y 8) (by decide) (fun m i hi => by
      have hi : i < 5 := hi
      have e0 : ¬ (5 : Int32) ≤ Int32.ofNat i := fl_lit (a := 5) rfl (by omega) (by omega) hi
      have e2 : ix (Int32.ofNat i) = i := ix_ofNat (by omega)
      have e3 : Int32.ofNat i + 1 = Int32.ofNat (i + 1) := ofNat_succ i
      have e4 : gI s 80 5 + Int32.ofNat i = Int32.ofNat (st + i) := by rw [h5, Int32.ofNat_add]
      have b1 : mm_inb (Int32.ofNat i) 5 = true := inb_ofNat (by decide) hi
      have sg := G_sign (s := s) (i := st + i) h1 hT hL (by omega)
      have t : tz_sg (gI s 37) L (st + i) = gI s 37 (st + i) := if_pos (by omega)
      rw [t] at sg
      refine ⟨fun q => ⟨?_, fun o => ?_⟩, fun q => ⟨?_, ?_⟩⟩
      · simp only [lp_Parser_isWord_2000008_20, mq_let_e, e0, if_false, e2, e3, e4, sg.1, if_pos q]
      · simp only [okl_Parser_isWord_2000008_20, mq_letP_e, e0, if_false, e2, e3, e4, sg.1, sg.2, if_pos q, b1, true_and]
        exact o
      · simp only [lp_Parser_isWord_2000008_20, mq_let_e, e0, if_false, e2, e4, sg.1, if_neg q]
      · simp only [okl_Parser_isWord_2000008_20, mq_letP_e, e0, if_false, e2, e4, sg.1, sg.2, if_neg q, b1, true_and]) (fun m => by
      have e0 : (5 : Int32) ≤ Int32.ofNat (mm_Y 8).length := by decide
      constructor
      · simp only [lp_Parser_isWord_2000008_20, e0, if_true]
      · simp only [okl_Parser_isWord_2000008_20, e0, if_true])
    obtain ⟨a1, a2, a3⟩ := A
    constructor
    · unfold f_Parser_isWord_2000008
      rw [d, if_pos (dl.mpr c), mq_let_e]
      cases h : tz_is (gI s 37) st e (mm_Y 8) with
      | true =>
        rw [a1 (tz_is_w.mp h).2]
        rfl
      | false =>
        rw [a2 (fun q => by
          have := tz_is_w.mpr (show e - st = (mm_Y 8).length ∧ _ from ⟨c, q⟩)
          rw [h] at this
          exact absurd this (by decide))]
        rfl
    · unfold ok_Parser_isWord_2000008
      rw [d, if_pos (dl.mpr c)]
      refine ⟨a3, ?_⟩
      rw [mq_letP_e]
      generalize (lp_Parser_isWord_2000008_20 s mm_N 0).1 = o
      cases o <;> trivial
  · have h : tz_is (gI s 37) st e (mm_Y 8) = false := by
      cases h : tz_is (gI s 37) st e (mm_Y 8) with
      | false => rfl
      | true => exact absurd (tz_is_w.mp h).1 c
    constructor
    · unfold f_Parser_isWord_2000008
      rw [d, if_neg (fun q => c (dl.mp q)), h]
      rfl
    · unfold ok_Parser_isWord_2000008
      rw [d, if_neg (fun q => c (dl.mp q))]
      trivial
theorem M_isW_8 {s : mS} {L st e : Nat} (h5 : gI s 116 83 = Int32.ofNat st) (h2 : gI s 116 81 = Int32.ofNat e) (hse : st ≤ e) (heL : e ≤ L) (hL : L ≤ 600) : f_M_is_2000008 s = ey_b (tz_is (gI s 167) st e (mm_Y 8)) ∧ ok_M_is_2000008 s := by
  have d : gI s 116 81 - gI s 116 83 = Int32.ofNat (e - st) := by rw [h2, h5, ofNat_subn hse]
  have dl : (Int32.ofNat (e - st) = 5) = (e - st = 5) := propext (ofNat_inj (b := 5) (by omega) (by omega))
  have n10 : ¬ (1 : Int32) = 0 := by decide
  have zz : ∀ m i, i ≤ (mm_Y 8).length → (lp_M_is_2000008_24 s (m + 1) 0 (Int32.ofNat i)).1 = 0 ∧ okl_M_is_2000008_24 s (m + 1) 0 (Int32.ofNat i) := fun m i _ => by
    by_cases q : (5 : Int32) ≤ Int32.ofNat i
    · constructor
      · simp only [lp_M_is_2000008_24, if_pos q]
      · simp only [okl_M_is_2000008_24, if_pos q]
    · constructor
      · simp only [lp_M_is_2000008_24, if_neg q, if_true]
      · simp only [okl_M_is_2000008_24, if_neg q, if_true]
  by_cases c : e - st = 5
  · have A := W_M (Lp := lp_M_is_2000008_24 s) (OKp := okl_M_is_2000008_24 s) (T := gI s 167) (st := st) (w := mm_Y 8) (by decide) (fun m i hi => by
      have hi : i < 5 := hi
      have e0 : ¬ (5 : Int32) ≤ Int32.ofNat i := fl_lit (a := 5) rfl (by omega) (by omega) hi
      have e2 : ix (Int32.ofNat i) = i := ix_ofNat (by omega)
      have e3 : Int32.ofNat i + 1 = Int32.ofNat (i + 1) := ofNat_succ i
      have e4 : gI s 116 83 + Int32.ofNat i = Int32.ofNat (st + i) := by rw [h5, Int32.ofNat_add]
      have e5 : ix (Int32.ofNat (st + i)) = st + i := ix_ofNat (by omega)
      have b1 : mm_inb (Int32.ofNat i) 5 = true := inb_ofNat (by decide) hi
      have b2 : mm_inb (Int32.ofNat (st + i)) 600 = true := inb_ofNat (by decide) (by omega)
      refine ⟨fun q => ⟨?_, fun o => ?_⟩, fun q => ⟨?_, fun o => ?_⟩⟩
      · simp only [lp_M_is_2000008_24, e0, if_false, n10, e2, e3, e4, e5, if_pos q]
      · simp only [okl_M_is_2000008_24, e0, if_false, n10, e2, e3, e4, e5, if_pos q, b1, b2, true_and]
        exact o
      · simp only [lp_M_is_2000008_24, e0, if_false, n10, e2, e3, e4, e5, if_neg q]
      · simp only [okl_M_is_2000008_24, e0, if_false, n10, e2, e3, e4, e5, if_neg q, b1, b2, true_and]
        exact o) zz (fun m => by
      have e0 : (5 : Int32) ≤ Int32.ofNat (mm_Y 8).length := by decide
      constructor
      · simp only [lp_M_is_2000008_24, e0, if_true]
      · simp only [okl_M_is_2000008_24, e0, if_true])
    obtain ⟨a1, a2, a3⟩ := A
    have v : (lp_M_is_2000008_24 s mm_N 1 0).1 = ey_b (tz_is (gI s 167) st e (mm_Y 8)) := by
      cases h : tz_is (gI s 167) st e (mm_Y 8) with
      | true =>
        rw [a1 (tz_is_w.mp h).2]
        rfl
      | false =>
        rw [a2 (fun q => by
          have := tz_is_w.mpr (show e - st = (mm_Y 8).length ∧ _ from ⟨c, q⟩)
          rw [h] at this
          exact absurd this (by decide))]
        rfl
    constructor
    · unfold f_M_is_2000008
      rw [d, if_pos (dl.mpr c), mq_let_e, mq_let_e]
      exact v
    · unfold ok_M_is_2000008
      rw [d, if_pos (dl.mpr c), mq_letP_e, mq_letP_e]
      refine ⟨trivial, a3, ?_⟩
      rw [v]
      cases tz_is (gI s 167) st e (mm_Y 8) <;> rfl
  · have h : tz_is (gI s 167) st e (mm_Y 8) = false := by
      cases h : tz_is (gI s 167) st e (mm_Y 8) with
      | false => rfl
      | true => exact absurd (tz_is_w.mp h).1 c
    have z := zz 99999 0 (Nat.zero_le _)
    have zN : (lp_M_is_2000008_24 s mm_N 0 0).1 = 0 ∧ okl_M_is_2000008_24 s mm_N 0 0 := z
    constructor
    · unfold f_M_is_2000008
      rw [d, if_neg (fun q => c (dl.mp q)), mq_let_e, mq_let_e, h]
      exact zN.1
    · unfold ok_M_is_2000008
      rw [d, if_neg (fun q => c (dl.mp q)), mq_letP_e, mq_letP_e]
      refine ⟨trivial, zN.2, ?_⟩
      rw [zN.1]
      rfl
theorem G_isW_9 {s : mS} {L st e : Nat} (h1 : gI s 80 1 = Int32.ofNat L) (hT : gP s 5 = 48) (h5 : gI s 80 5 = Int32.ofNat st) (h2 : gI s 80 2 = Int32.ofNat e) (hse : st ≤ e) (heL : e ≤ L) (hL : L ≤ 600) : f_Parser_isWord_2000009 s = ey_b (tz_is (gI s 37) st e (mm_Y 9)) ∧ ok_Parser_isWord_2000009 s := by
  have d : gI s 80 2 - gI s 80 5 = Int32.ofNat (e - st) := by rw [h2, h5, ofNat_subn hse]
  have dl : (Int32.ofNat (e - st) = 4) = (e - st = 4) := propext (ofNat_inj (b := 4) (by omega) (by omega))
  by_cases c : e - st = 4
  · have A := W_G (Lp := lp_Parser_isWord_2000009_20 s) (OKp := okl_Parser_isWord_2000009_20 s) (T := gI s 37) (st := st) (w := mm_Y 9) (by decide) (fun m i hi => by
      have hi : i < 4 := hi
      have e0 : ¬ (4 : Int32) ≤ Int32.ofNat i := fl_lit (a := 4) rfl (by omega) (by omega) hi
      have e2 : ix (Int32.ofNat i) = i := ix_ofNat (by omega)
      have e3 : Int32.ofNat i + 1 = Int32.ofNat (i + 1) := ofNat_succ i
      have e4 : gI s 80 5 + Int32.ofNat i = Int32.ofNat (st + i) := by rw [h5, Int32.ofNat_add]
      have b1 : mm_inb (Int32.ofNat i) 4 = true := inb_ofNat (by decide) hi
      have sg := G_sign (s := s) (i := st + i) h1 hT hL (by omega)
      have t : tz_sg (gI s 37) L (st + i) = gI s 37 (st + i) := if_pos (by omega)
      rw [t] at sg
      refine ⟨fun q => ⟨?_, fun o => ?_⟩, fun q => ⟨?_, ?_⟩⟩
      · simp only [lp_Parser_isWord_2000009_20, mq_let_e, e0, if_false, e2, e3, e4, sg.1, if_pos q]
      · simp only [okl_Parser_isWord_2000009_20, mq_letP_e, e0, if_false, e2, e3, e4, sg.1, sg.2, if_pos q, b1, true_and]
        exact o
      · simp only [lp_Parser_isWord_2000009_20, mq_let_e, e0, if_false, e2, e4, sg.1, if_neg q]
      · simp only [okl_Parser_isWord_2000009_20, mq_letP_e, e0, if_false, e2, e4, sg.1, sg.2, if_neg q, b1, true_and]) (fun m => by
      have e0 : (4 : Int32) ≤ Int32.ofNat (mm_Y 9).length := by decide
      constructor
      · simp only [lp_Parser_isWord_2000009_20, e0, if_true]
      · simp only [okl_Parser_isWord_2000009_20, e0, if_true])
    obtain ⟨a1, a2, a3⟩ := A
    constructor
    · unfold f_Parser_isWord_2000009
      rw [d, if_pos (dl.mpr c), mq_let_e]
      cases h : tz_is (gI s 37) st e (mm_Y 9) with
      | true =>
        rw [a1 (tz_is_w.mp h).2]
        rfl
      | false =>
        rw [a2 (fun q => by
          have := tz_is_w.mpr (show e - st = (mm_Y 9).length ∧ _ from ⟨c, q⟩)
          rw [h] at this
          exact absurd this (by decide))]
        rfl
    · unfold ok_Parser_isWord_2000009
      rw [d, if_pos (dl.mpr c)]
      refine ⟨a3, ?_⟩
      rw [mq_letP_e]
      generalize (lp_Parser_isWord_2000009_20 s mm_N 0).1 = o
      cases o <;> trivial
  · have h : tz_is (gI s 37) st e (mm_Y 9) = false := by
      cases h : tz_is (gI s 37) st e (mm_Y 9) with
      | false => rfl
      | true => exact absurd (tz_is_w.mp h).1 c
    constructor
    · unfold f_Parser_isWord_2000009
      rw [d, if_neg (fun q => c (dl.mp q)), h]
      rfl
    · unfold ok_Parser_isWord_2000009
      rw [d, if_neg (fun q => c (dl.mp q))]
      trivial
theorem M_isW_9 {s : mS} {L st e : Nat} (h5 : gI s 116 83 = Int32.ofNat st) (h2 : gI s 116 81 = Int32.ofNat e) (hse : st ≤ e) (heL : e ≤ L) (hL : L ≤ 600) : f_M_is_2000009 s = ey_b (tz_is (gI s 167) st e (mm_Y 9)) ∧ ok_M_is_2000009 s := by
  have d : gI s 116 81 - gI s 116 83 = Int32.ofNat (e - st) := by rw [h2, h5, ofNat_subn hse]
  have dl : (Int32.ofNat (e - st) = 4) = (e - st = 4) := propext (ofNat_inj (b := 4) (by omega) (by omega))
  have n10 : ¬ (1 : Int32) = 0 := by decide
  have zz : ∀ m i, i ≤ (mm_Y 9).length → (lp_M_is_2000009_24 s (m + 1) 0 (Int32.ofNat i)).1 = 0 ∧ okl_M_is_2000009_24 s (m + 1) 0 (Int32.ofNat i) := fun m i _ => by
    by_cases q : (4 : Int32) ≤ Int32.ofNat i
    · constructor
      · simp only [lp_M_is_2000009_24, if_pos q]
      · simp only [okl_M_is_2000009_24, if_pos q]
    · constructor
      · simp only [lp_M_is_2000009_24, if_neg q, if_true]
      · simp only [okl_M_is_2000009_24, if_neg q, if_true]
  by_cases c : e - st = 4
  · have A := W_M (Lp := lp_M_is_2000009_24 s) (OKp := okl_M_is_2000009_24 s) (T := gI s 167) (st := st) (w := mm_Y 9) (by decide) (fun m i hi => by
      have hi : i < 4 := hi
      have e0 : ¬ (4 : Int32) ≤ Int32.ofNat i := fl_lit (a := 4) rfl (by omega) (by omega) hi
      have e2 : ix (Int32.ofNat i) = i := ix_ofNat (by omega)
      have e3 : Int32.ofNat i + 1 = Int32.ofNat (i + 1) := ofNat_succ i
      have e4 : gI s 116 83 + Int32.ofNat i = Int32.ofNat (st + i) := by rw [h5, Int32.ofNat_add]
      have e5 : ix (Int32.ofNat (st + i)) = st + i := ix_ofNat (by omega)
      have b1 : mm_inb (Int32.ofNat i) 4 = true := inb_ofNat (by decide) hi
      have b2 : mm_inb (Int32.ofNat (st + i)) 600 = true := inb_ofNat (by decide) (by omega)
      refine ⟨fun q => ⟨?_, fun o => ?_⟩, fun q => ⟨?_, fun o => ?_⟩⟩
      · simp only [lp_M_is_2000009_24, e0, if_false, n10, e2, e3, e4, e5, if_pos q]
      · simp only [okl_M_is_2000009_24, e0, if_false, n10, e2, e3, e4, e5, if_pos q, b1, b2, true_and]
        exact o
      · simp only [lp_M_is_2000009_24, e0, if_false, n10, e2, e3, e4, e5, if_neg q]
      · simp only [okl_M_is_2000009_24, e0, if_false, n10, e2, e3, e4, e5, if_neg q, b1, b2, true_and]
        exact o) zz (fun m => by
      have e0 : (4 : Int32) ≤ Int32.ofNat (mm_Y 9).length := by decide
      constructor
      · simp only [lp_M_is_2000009_24, e0, if_true]
      · simp only [okl_M_is_2000009_24, e0, if_true])
    obtain ⟨a1, a2, a3⟩ := A
    have v : (lp_M_is_2000009_24 s mm_N 1 0).1 = ey_b (tz_is (gI s 167) st e (mm_Y 9)) := by
      cases h : tz_is (gI s 167) st e (mm_Y 9) with
      | true =>
        rw [a1 (tz_is_w.mp h).2]
        rfl
      | false =>
        rw [a2 (fun q => by
          have := tz_is_w.mpr (show e - st = (mm_Y 9).length ∧ _ from ⟨c, q⟩)
          rw [h] at this
          exact absurd this (by decide))]
        rfl
    constructor
    · unfold f_M_is_2000009
      rw [d, if_pos (dl.mpr c), mq_let_e, mq_let_e]
      exact v
    · unfold ok_M_is_2000009
      rw [d, if_pos (dl.mpr c), mq_letP_e, mq_letP_e]
      refine ⟨trivial, a3, ?_⟩
      rw [v]
      cases tz_is (gI s 167) st e (mm_Y 9) <;> rfl
  · have h : tz_is (gI s 167) st e (mm_Y 9) = false := by
      cases h : tz_is (gI s 167) st e (mm_Y 9) with
      | false => rfl
      | true => exact absurd (tz_is_w.mp h).1 c
    have z := zz 99999 0 (Nat.zero_le _)
    have zN : (lp_M_is_2000009_24 s mm_N 0 0).1 = 0 ∧ okl_M_is_2000009_24 s mm_N 0 0 := z
    constructor
    · unfold f_M_is_2000009
      rw [d, if_neg (fun q => c (dl.mp q)), mq_let_e, mq_let_e, h]
      exact zN.1
    · unfold ok_M_is_2000009
      rw [d, if_neg (fun q => c (dl.mp q)), mq_letP_e, mq_letP_e]
      refine ⟨trivial, zN.2, ?_⟩
      rw [zN.1]
      rfl
theorem G_isW_10 {s : mS} {L st e : Nat} (h1 : gI s 80 1 = Int32.ofNat L) (hT : gP s 5 = 48) (h5 : gI s 80 5 = Int32.ofNat st) (h2 : gI s 80 2 = Int32.ofNat e) (hse : st ≤ e) (heL : e ≤ L) (hL : L ≤ 600) : f_Parser_isWord_2000010 s = ey_b (tz_is (gI s 37) st e (mm_Y 10)) ∧ ok_Parser_isWord_2000010 s := by
  have d : gI s 80 2 - gI s 80 5 = Int32.ofNat (e - st) := by rw [h2, h5, ofNat_subn hse]
  have dl : (Int32.ofNat (e - st) = 2) = (e - st = 2) := propext (ofNat_inj (b := 2) (by omega) (by omega))
  by_cases c : e - st = 2
  · have A := W_G (Lp := lp_Parser_isWord_2000010_20 s) (OKp := okl_Parser_isWord_2000010_20 s) (T := gI s 37) (st := st) (w := mm_Y 10) (by decide) (fun m i hi => by
      have hi : i < 2 := hi
      have e0 : ¬ (2 : Int32) ≤ Int32.ofNat i := fl_lit (a := 2) rfl (by omega) (by omega) hi
      have e2 : ix (Int32.ofNat i) = i := ix_ofNat (by omega)
      have e3 : Int32.ofNat i + 1 = Int32.ofNat (i + 1) := ofNat_succ i
      have e4 : gI s 80 5 + Int32.ofNat i = Int32.ofNat (st + i) := by rw [h5, Int32.ofNat_add]
      have b1 : mm_inb (Int32.ofNat i) 2 = true := inb_ofNat (by decide) hi
      have sg := G_sign (s := s) (i := st + i) h1 hT hL (by omega)
      have t : tz_sg (gI s 37) L (st + i) = gI s 37 (st + i) := if_pos (by omega)
      rw [t] at sg
      refine ⟨fun q => ⟨?_, fun o => ?_⟩, fun q => ⟨?_, ?_⟩⟩
      · simp only [lp_Parser_isWord_2000010_20, mq_let_e, e0, if_false, e2, e3, e4, sg.1, if_pos q]
      · simp only [okl_Parser_isWord_2000010_20, mq_letP_e, e0, if_false, e2, e3, e4, sg.1, sg.2, if_pos q, b1, true_and]
        exact o
      · simp only [lp_Parser_isWord_2000010_20, mq_let_e, e0, if_false, e2, e4, sg.1, if_neg q]
      · simp only [okl_Parser_isWord_2000010_20, mq_letP_e, e0, if_false, e2, e4, sg.1, sg.2, if_neg q, b1, true_and]) (fun m => by
      have e0 : (2 : Int32) ≤ Int32.ofNat (mm_Y 10).length := by decide
      constructor
      · simp only [lp_Parser_isWord_2000010_20, e0, if_true]
      · simp only [okl_Parser_isWord_2000010_20, e0, if_true])
    obtain ⟨a1, a2, a3⟩ := A
    constructor
    · unfold f_Parser_isWord_2000010
      rw [d, if_pos (dl.mpr c), mq_let_e]
      cases h : tz_is (gI s 37) st e (mm_Y 10) with
      | true =>
        rw [a1 (tz_is_w.mp h).2]
        rfl
      | false =>
        rw [a2 (fun q => by
          have := tz_is_w.mpr (show e - st = (mm_Y 10).length ∧ _ from ⟨c, q⟩)
          rw [h] at this
          exact absurd this (by decide))]
        rfl
    · unfold ok_Parser_isWord_2000010
      rw [d, if_pos (dl.mpr c)]
      refine ⟨a3, ?_⟩
      rw [mq_letP_e]
      generalize (lp_Parser_isWord_2000010_20 s mm_N 0).1 = o
      cases o <;> trivial
  · have h : tz_is (gI s 37) st e (mm_Y 10) = false := by
      cases h : tz_is (gI s 37) st e (mm_Y 10) with
      | false => rfl
      | true => exact absurd (tz_is_w.mp h).1 c
    constructor
    · unfold f_Parser_isWord_2000010
      rw [d, if_neg (fun q => c (dl.mp q)), h]
      rfl
    · unfold ok_Parser_isWord_2000010
      rw [d, if_neg (fun q => c (dl.mp q))]
      trivial
theorem M_isW_10 {s : mS} {L st e : Nat} (h5 : gI s 116 83 = Int32.ofNat st) (h2 : gI s 116 81 = Int32.ofNat e) (hse : st ≤ e) (heL : e ≤ L) (hL : L ≤ 600) : f_M_is_2000010 s = ey_b (tz_is (gI s 167) st e (mm_Y 10)) ∧ ok_M_is_2000010 s := by
  have d : gI s 116 81 - gI s 116 83 = Int32.ofNat (e - st) := by rw [h2, h5, ofNat_subn hse]
  have dl : (Int32.ofNat (e - st) = 2) = (e - st = 2) := propext (ofNat_inj (b := 2) (by omega) (by omega))
  have n10 : ¬ (1 : Int32) = 0 := by decide
  have zz : ∀ m i, i ≤ (mm_Y 10).length → (lp_M_is_2000010_24 s (m + 1) 0 (Int32.ofNat i)).1 = 0 ∧ okl_M_is_2000010_24 s (m + 1) 0 (Int32.ofNat i) := fun m i _ => by
    by_cases q : (2 : Int32) ≤ Int32.ofNat i
    · constructor
      · simp only [lp_M_is_2000010_24, if_pos q]
      · simp only [okl_M_is_2000010_24, if_pos q]
    · constructor
      · simp only [lp_M_is_2000010_24, if_neg q, if_true]
      · simp only [okl_M_is_2000010_24, if_neg q, if_true]
  by_cases c : e - st = 2
  · have A := W_M (Lp := lp_M_is_2000010_24 s) (OKp := okl_M_is_2000010_24 s) (T := gI s 167) (st := st) (w := mm_Y 10) (by decide) (fun m i hi => by
      have hi : i < 2 := hi
      have e0 : ¬ (2 : Int32) ≤ Int32.ofNat i := fl_lit (a := 2) rfl (by omega) (by omega) hi
      have e2 : ix (Int32.ofNat i) = i := ix_ofNat (by omega)
      have e3 : Int32.ofNat i + 1 = Int32.ofNat (i + 1) := ofNat_succ i
      have e4 : gI s 116 83 + Int32.ofNat i = Int32.ofNat (st + i) := by rw [h5, Int32.ofNat_add]
      have e5 : ix (Int32.ofNat (st + i)) = st + i := ix_ofNat (by omega)
      have b1 : mm_inb (Int32.ofNat i) 2 = true := inb_ofNat (by decide) hi
      have b2 : mm_inb (Int32.ofNat (st + i)) 600 = true := inb_ofNat (by decide) (by omega)
      refine ⟨fun q => ⟨?_, fun o => ?_⟩, fun q => ⟨?_, fun o => ?_⟩⟩
      · simp only [lp_M_is_2000010_24, e0, if_false, n10, e2, e3, e4, e5, if_pos q]
      · simp only [okl_M_is_2000010_24, e0, if_false, n10, e2, e3, e4, e5, if_pos q, b1, b2, true_and]
        exact o
      · simp only [lp_M_is_2000010_24, e0, if_false, n10, e2, e3, e4, e5, if_neg q]
      · simp only [okl_M_is_2000010_24, e0, if_false, n10, e2, e3, e4, e5, if_neg q, b1, b2, true_and]
        exact o) zz (fun m => by
      have e0 : (2 : Int32) ≤ Int32.ofNat (mm_Y 10).length := by decide
      constructor
      · simp only [lp_M_is_2000010_24, e0, if_true]
      · simp only [okl_M_is_2000010_24, e0, if_true])
    obtain ⟨a1, a2, a3⟩ := A
    have v : (lp_M_is_2000010_24 s mm_N 1 0).1 = ey_b (tz_is (gI s 167) st e (mm_Y 10)) := by
      cases h : tz_is (gI s 167) st e (mm_Y 10) with
      | true =>
        rw [a1 (tz_is_w.mp h).2]
        rfl
      | false =>
        rw [a2 (fun q => by
          have := tz_is_w.mpr (show e - st = (mm_Y 10).length ∧ _ from ⟨c, q⟩)
          rw [h] at this
          exact absurd this (by decide))]
        rfl
    constructor
    · unfold f_M_is_2000010
      rw [d, if_pos (dl.mpr c), mq_let_e, mq_let_e]
      exact v
    · unfold ok_M_is_2000010
      rw [d, if_pos (dl.mpr c), mq_letP_e, mq_letP_e]
      refine ⟨trivial, a3, ?_⟩
      rw [v]
      cases tz_is (gI s 167) st e (mm_Y 10) <;> rfl
  · have h : tz_is (gI s 167) st e (mm_Y 10) = false := by
      cases h : tz_is (gI s 167) st e (mm_Y 10) with
      | false => rfl
      | true => exact absurd (tz_is_w.mp h).1 c
    have z := zz 99999 0 (Nat.zero_le _)
    have zN : (lp_M_is_2000010_24 s mm_N 0 0).1 = 0 ∧ okl_M_is_2000010_24 s mm_N 0 0 := z
    constructor
    · unfold f_M_is_2000010
      rw [d, if_neg (fun q => c (dl.mp q)), mq_let_e, mq_let_e, h]
      exact zN.1
    · unfold ok_M_is_2000010
      rw [d, if_neg (fun q => c (dl.mp q)), mq_letP_e, mq_letP_e]
      refine ⟨trivial, zN.2, ?_⟩
      rw [zN.1]
      rfl
theorem G_isW_11 {s : mS} {L st e : Nat} (h1 : gI s 80 1 = Int32.ofNat L) (hT : gP s 5 = 48) (h5 : gI s 80 5 = Int32.ofNat st) (h2 : gI s 80 2 = Int32.ofNat e) (hse : st ≤ e) (heL : e ≤ L) (hL : L ≤ 600) : f_Parser_isWord_2000011 s = ey_b (tz_is (gI s 37) st e (mm_Y 11)) ∧ ok_Parser_isWord_2000011 s := by
  have d : gI s 80 2 - gI s 80 5 = Int32.ofNat (e - st) := by rw [h2, h5, ofNat_subn hse]
  have dl : (Int32.ofNat (e - st) = 3) = (e - st = 3) := propext (ofNat_inj (b := 3) (by omega) (by omega))
  by_cases c : e - st = 3
  · have A := W_G (Lp := lp_Parser_isWord_2000011_20 s) (OKp := okl_Parser_isWord_2000011_20 s) (T := gI s 37) (st := st) (w := mm_Y 11) (by decide) (fun m i hi => by
      have hi : i < 3 := hi
      have e0 : ¬ (3 : Int32) ≤ Int32.ofNat i := fl_lit (a := 3) rfl (by omega) (by omega) hi
      have e2 : ix (Int32.ofNat i) = i := ix_ofNat (by omega)
      have e3 : Int32.ofNat i + 1 = Int32.ofNat (i + 1) := ofNat_succ i
      have e4 : gI s 80 5 + Int32.ofNat i = Int32.ofNat (st + i) := by rw [h5, Int32.ofNat_add]
      have b1 : mm_inb (Int32.ofNat i) 3 = true := inb_ofNat (by decide) hi
      have sg := G_sign (s := s) (i := st + i) h1 hT hL (by omega)
      have t : tz_sg (gI s 37) L (st + i) = gI s 37 (st + i) := if_pos (by omega)
      rw [t] at sg
      refine ⟨fun q => ⟨?_, fun o => ?_⟩, fun q => ⟨?_, ?_⟩⟩
      · simp only [lp_Parser_isWord_2000011_20, mq_let_e, e0, if_false, e2, e3, e4, sg.1, if_pos q]
      · simp only [okl_Parser_isWord_2000011_20, mq_letP_e, e0, if_false, e2, e3, e4, sg.1, sg.2, if_pos q, b1, true_and]
        exact o
      · simp only [lp_Parser_isWord_2000011_20, mq_let_e, e0, if_false, e2, e4, sg.1, if_neg q]
      · simp only [okl_Parser_isWord_2000011_20, mq_letP_e, e0, if_false, e2, e4, sg.1, sg.2, if_neg q, b1, true_and]) (fun m => by
      have e0 : (3 : Int32) ≤ Int32.ofNat (mm_Y 11).length := by decide
      constructor
      · simp only [lp_Parser_isWord_2000011_20, e0, if_true]
      · simp only [okl_Parser_isWord_2000011_20, e0, if_true])
    obtain ⟨a1, a2, a3⟩ := A
    constructor
    · unfold f_Parser_isWord_2000011
      rw [d, if_pos (dl.mpr c), mq_let_e]
      cases h : tz_is (gI s 37) st e (mm_Y 11) with
      | true =>
        rw [a1 (tz_is_w.mp h).2]
        rfl
      | false =>
        rw [a2 (fun q => by
          have := tz_is_w.mpr (show e - st = (mm_Y 11).length ∧ _ from ⟨c, q⟩)
          rw [h] at this
          exact absurd this (by decide))]
        rfl
    · unfold ok_Parser_isWord_2000011
      rw [d, if_pos (dl.mpr c)]
      refine ⟨a3, ?_⟩
      rw [mq_letP_e]
      generalize (lp_Parser_isWord_2000011_20 s mm_N 0).1 = o
      cases o <;> trivial
  · have h : tz_is (gI s 37) st e (mm_Y 11) = false := by
      cases h : tz_is (gI s 37) st e (mm_Y 11) with
      | false => rfl
      | true => exact absurd (tz_is_w.mp h).1 c
    constructor
    · unfold f_Parser_isWord_2000011
      rw [d, if_neg (fun q => c (dl.mp q)), h]
      rfl
    · unfold ok_Parser_isWord_2000011
      rw [d, if_neg (fun q => c (dl.mp q))]
      trivial
theorem M_isW_11 {s : mS} {L st e : Nat} (h5 : gI s 116 83 = Int32.ofNat st) (h2 : gI s 116 81 = Int32.ofNat e) (hse : st ≤ e) (heL : e ≤ L) (hL : L ≤ 600) : f_M_is_2000011 s = ey_b (tz_is (gI s 167) st e (mm_Y 11)) ∧ ok_M_is_2000011 s := by
  have d : gI s 116 81 - gI s 116 83 = Int32.ofNat (e - st) := by rw [h2, h5, ofNat_subn hse]
  have dl : (Int32.ofNat (e - st) = 3) = (e - st = 3) := propext (ofNat_inj (b := 3) (by omega) (by omega))
  have n10 : ¬ (1 : Int32) = 0 := by decide
  have zz : ∀ m i, i ≤ (mm_Y 11).length → (lp_M_is_2000011_24 s (m + 1) 0 (Int32.ofNat i)).1 = 0 ∧ okl_M_is_2000011_24 s (m + 1) 0 (Int32.ofNat i) := fun m i _ => by
    by_cases q : (3 : Int32) ≤ Int32.ofNat i
    · constructor
      · simp only [lp_M_is_2000011_24, if_pos q]
      · simp only [okl_M_is_2000011_24, if_pos q]
    · constructor
      · simp only [lp_M_is_2000011_24, if_neg q, if_true]
      · simp only [okl_M_is_2000011_24, if_neg q, if_true]
  by_cases c : e - st = 3
  · have A := W_M (Lp := lp_M_is_2000011_24 s) (OKp := okl_M_is_2000011_24 s) (T := gI s 167) (st := st) (w := mm_Y 11) (by decide) (fun m i hi => by
      have hi : i < 3 := hi
      have e0 : ¬ (3 : Int32) ≤ Int32.ofNat i := fl_lit (a := 3) rfl (by omega) (by omega) hi
      have e2 : ix (Int32.ofNat i) = i := ix_ofNat (by omega)
      have e3 : Int32.ofNat i + 1 = Int32.ofNat (i + 1) := ofNat_succ i
      have e4 : gI s 116 83 + Int32.ofNat i = Int32.ofNat (st + i) := by rw [h5, Int32.ofNat_add]
      have e5 : ix (Int32.ofNat (st + i)) = st + i := ix_ofNat (by omega)
      have b1 : mm_inb (Int32.ofNat i) 3 = true := inb_ofNat (by decide) hi
      have b2 : mm_inb (Int32.ofNat (st + i)) 600 = true := inb_ofNat (by decide) (by omega)
      refine ⟨fun q => ⟨?_, fun o => ?_⟩, fun q => ⟨?_, fun o => ?_⟩⟩
      · simp only [lp_M_is_2000011_24, e0, if_false, n10, e2, e3, e4, e5, if_pos q]
      · simp only [okl_M_is_2000011_24, e0, if_false, n10, e2, e3, e4, e5, if_pos q, b1, b2, true_and]
        exact o
      · simp only [lp_M_is_2000011_24, e0, if_false, n10, e2, e3, e4, e5, if_neg q]
      · simp only [okl_M_is_2000011_24, e0, if_false, n10, e2, e3, e4, e5, if_neg q, b1, b2, true_and]
        exact o) zz (fun m => by
      have e0 : (3 : Int32) ≤ Int32.ofNat (mm_Y 11).length := by decide
      constructor
      · simp only [lp_M_is_2000011_24, e0, if_true]
      · simp only [okl_M_is_2000011_24, e0, if_true])
    obtain ⟨a1, a2, a3⟩ := A
    have v : (lp_M_is_2000011_24 s mm_N 1 0).1 = ey_b (tz_is (gI s 167) st e (mm_Y 11)) := by
      cases h : tz_is (gI s 167) st e (mm_Y 11) with
      | true =>
        rw [a1 (tz_is_w.mp h).2]
        rfl
      | false =>
        rw [a2 (fun q => by
          have := tz_is_w.mpr (show e - st = (mm_Y 11).length ∧ _ from ⟨c, q⟩)
          rw [h] at this
          exact absurd this (by decide))]
        rfl
    constructor
    · unfold f_M_is_2000011
      rw [d, if_pos (dl.mpr c), mq_let_e, mq_let_e]
      exact v
    · unfold ok_M_is_2000011
      rw [d, if_pos (dl.mpr c), mq_letP_e, mq_letP_e]
      refine ⟨trivial, a3, ?_⟩
      rw [v]
      cases tz_is (gI s 167) st e (mm_Y 11) <;> rfl
  · have h : tz_is (gI s 167) st e (mm_Y 11) = false := by
      cases h : tz_is (gI s 167) st e (mm_Y 11) with
      | false => rfl
      | true => exact absurd (tz_is_w.mp h).1 c
    have z := zz 99999 0 (Nat.zero_le _)
    have zN : (lp_M_is_2000011_24 s mm_N 0 0).1 = 0 ∧ okl_M_is_2000011_24 s mm_N 0 0 := z
    constructor
    · unfold f_M_is_2000011
      rw [d, if_neg (fun q => c (dl.mp q)), mq_let_e, mq_let_e, h]
      exact zN.1
    · unfold ok_M_is_2000011
      rw [d, if_neg (fun q => c (dl.mp q)), mq_letP_e, mq_letP_e]
      refine ⟨trivial, zN.2, ?_⟩
      rw [zN.1]
      rfl
theorem G_isW_12 {s : mS} {L st e : Nat} (h1 : gI s 80 1 = Int32.ofNat L) (hT : gP s 5 = 48) (h5 : gI s 80 5 = Int32.ofNat st) (h2 : gI s 80 2 = Int32.ofNat e) (hse : st ≤ e) (heL : e ≤ L) (hL : L ≤ 600) : f_Parser_isWord_2000012 s = ey_b (tz_is (gI s 37) st e (mm_Y 12)) ∧ ok_Parser_isWord_2000012 s := by
  have d : gI s 80 2 - gI s 80 5 = Int32.ofNat (e - st) := by rw [h2, h5, ofNat_subn hse]
  have dl : (Int32.ofNat (e - st) = 3) = (e - st = 3) := propext (ofNat_inj (b := 3) (by omega) (by omega))
  by_cases c : e - st = 3
  · have A := W_G (Lp := lp_Parser_isWord_2000012_20 s) (OKp := okl_Parser_isWord_2000012_20 s) (T := gI s 37) (st := st) (w := mm_Y 12) (by decide) (fun m i hi => by
      have hi : i < 3 := hi
      have e0 : ¬ (3 : Int32) ≤ Int32.ofNat i := fl_lit (a := 3) rfl (by omega) (by omega) hi
      have e2 : ix (Int32.ofNat i) = i := ix_ofNat (by omega)
      have e3 : Int32.ofNat i + 1 = Int32.ofNat (i + 1) := ofNat_succ i
      have e4 : gI s 80 5 + Int32.ofNat i = Int32.ofNat (st + i) := by rw [h5, Int32.ofNat_add]
      have b1 : mm_inb (Int32.ofNat i) 3 = true := inb_ofNat (by decide) hi
      have sg := G_sign (s := s) (i := st + i) h1 hT hL (by omega)
      have t : tz_sg (gI s 37) L (st + i) = gI s 37 (st + i) := if_pos (by omega)
      rw [t] at sg
      refine ⟨fun q => ⟨?_, fun o => ?_⟩, fun q => ⟨?_, ?_⟩⟩
      · simp only [lp_Parser_isWord_2000012_20, mq_let_e, e0, if_false, e2, e3, e4, sg.1, if_pos q]
      · simp only [okl_Parser_isWord_2000012_20, mq_letP_e, e0, if_false, e2, e3, e4, sg.1, sg.2, if_pos q, b1, true_and]
        exact o
      · simp only [lp_Parser_isWord_2000012_20, mq_let_e, e0, if_false, e2, e4, sg.1, if_neg q]
      · simp only [okl_Parser_isWord_2000012_20, mq_letP_e, e0, if_false, e2, e4, sg.1, sg.2, if_neg q, b1, true_and]) (fun m => by
      have e0 : (3 : Int32) ≤ Int32.ofNat (mm_Y 12).length := by decide
      constructor
      · simp only [lp_Parser_isWord_2000012_20, e0, if_true]
      · simp only [okl_Parser_isWord_2000012_20, e0, if_true])
    obtain ⟨a1, a2, a3⟩ := A
    constructor
    · unfold f_Parser_isWord_2000012
      rw [d, if_pos (dl.mpr c), mq_let_e]
      cases h : tz_is (gI s 37) st e (mm_Y 12) with
      | true =>
        rw [a1 (tz_is_w.mp h).2]
        rfl
      | false =>
        rw [a2 (fun q => by
          have := tz_is_w.mpr (show e - st = (mm_Y 12).length ∧ _ from ⟨c, q⟩)
          rw [h] at this
          exact absurd this (by decide))]
        rfl
    · unfold ok_Parser_isWord_2000012
      rw [d, if_pos (dl.mpr c)]
      refine ⟨a3, ?_⟩
      rw [mq_letP_e]
      generalize (lp_Parser_isWord_2000012_20 s mm_N 0).1 = o
      cases o <;> trivial
  · have h : tz_is (gI s 37) st e (mm_Y 12) = false := by
      cases h : tz_is (gI s 37) st e (mm_Y 12) with
      | false => rfl
      | true => exact absurd (tz_is_w.mp h).1 c
    constructor
    · unfold f_Parser_isWord_2000012
      rw [d, if_neg (fun q => c (dl.mp q)), h]
      rfl
    · unfold ok_Parser_isWord_2000012
      rw [d, if_neg (fun q => c (dl.mp q))]
      trivial
theorem M_isW_12 {s : mS} {L st e : Nat} (h5 : gI s 116 83 = Int32.ofNat st) (h2 : gI s 116 81 = Int32.ofNat e) (hse : st ≤ e) (heL : e ≤ L) (hL : L ≤ 600) : f_M_is_2000012 s = ey_b (tz_is (gI s 167) st e (mm_Y 12)) ∧ ok_M_is_2000012 s := by
  have d : gI s 116 81 - gI s 116 83 = Int32.ofNat (e - st) := by rw [h2, h5, ofNat_subn hse]
  have dl : (Int32.ofNat (e - st) = 3) = (e - st = 3) := propext (ofNat_inj (b := 3) (by omega) (by omega))
  have n10 : ¬ (1 : Int32) = 0 := by decide
  have zz : ∀ m i, i ≤ (mm_Y 12).length → (lp_M_is_2000012_24 s (m + 1) 0 (Int32.ofNat i)).1 = 0 ∧ okl_M_is_2000012_24 s (m + 1) 0 (Int32.ofNat i) := fun m i _ => by
    by_cases q : (3 : Int32) ≤ Int32.ofNat i
    · constructor
      · simp only [lp_M_is_2000012_24, if_pos q]
      · simp only [okl_M_is_2000012_24, if_pos q]
    · constructor
      · simp only [lp_M_is_2000012_24, if_neg q, if_true]
      · simp only [okl_M_is_2000012_24, if_neg q, if_true]
  by_cases c : e - st = 3
  · have A := W_M (Lp := lp_M_is_2000012_24 s) (OKp := okl_M_is_2000012_24 s) (T := gI s 167) (st := st) (w := mm_Y 12) (by decide) (fun m i hi => by
      have hi : i < 3 := hi
      have e0 : ¬ (3 : Int32) ≤ Int32.ofNat i := fl_lit (a := 3) rfl (by omega) (by omega) hi
      have e2 : ix (Int32.ofNat i) = i := ix_ofNat (by omega)
      have e3 : Int32.ofNat i + 1 = Int32.ofNat (i + 1) := ofNat_succ i
      have e4 : gI s 116 83 + Int32.ofNat i = Int32.ofNat (st + i) := by rw [h5, Int32.ofNat_add]
      have e5 : ix (Int32.ofNat (st + i)) = st + i := ix_ofNat (by omega)
      have b1 : mm_inb (Int32.ofNat i) 3 = true := inb_ofNat (by decide) hi
      have b2 : mm_inb (Int32.ofNat (st + i)) 600 = true := inb_ofNat (by decide) (by omega)
      refine ⟨fun q => ⟨?_, fun o => ?_⟩, fun q => ⟨?_, fun o => ?_⟩⟩
      · simp only [lp_M_is_2000012_24, e0, if_false, n10, e2, e3, e4, e5, if_pos q]
      · simp only [okl_M_is_2000012_24, e0, if_false, n10, e2, e3, e4, e5, if_pos q, b1, b2, true_and]
        exact o
      · simp only [lp_M_is_2000012_24, e0, if_false, n10, e2, e3, e4, e5, if_neg q]
      · simp only [okl_M_is_2000012_24, e0, if_false, n10, e2, e3, e4, e5, if_neg q, b1, b2, true_and]
        exact o) zz (fun m => by
      have e0 : (3 : Int32) ≤ Int32.ofNat (mm_Y 12).length := by decide
      constructor
      · simp only [lp_M_is_2000012_24, e0, if_true]
      · simp only [okl_M_is_2000012_24, e0, if_true])
    obtain ⟨a1, a2, a3⟩ := A
    have v : (lp_M_is_2000012_24 s mm_N 1 0).1 = ey_b (tz_is (gI s 167) st e (mm_Y 12)) := by
      cases h : tz_is (gI s 167) st e (mm_Y 12) with
      | true =>
        rw [a1 (tz_is_w.mp h).2]
        rfl
      | false =>
        rw [a2 (fun q => by
          have := tz_is_w.mpr (show e - st = (mm_Y 12).length ∧ _ from ⟨c, q⟩)
          rw [h] at this
          exact absurd this (by decide))]
        rfl
    constructor
    · unfold f_M_is_2000012
      rw [d, if_pos (dl.mpr c), mq_let_e, mq_let_e]
      exact v
    · unfold ok_M_is_2000012
      rw [d, if_pos (dl.mpr c), mq_letP_e, mq_letP_e]
      refine ⟨trivial, a3, ?_⟩
      rw [v]
      cases tz_is (gI s 167) st e (mm_Y 12) <;> rfl
  · have h : tz_is (gI s 167) st e (mm_Y 12) = false := by
      cases h : tz_is (gI s 167) st e (mm_Y 12) with
      | false => rfl
      | true => exact absurd (tz_is_w.mp h).1 c
    have z := zz 99999 0 (Nat.zero_le _)
    have zN : (lp_M_is_2000012_24 s mm_N 0 0).1 = 0 ∧ okl_M_is_2000012_24 s mm_N 0 0 := z
    constructor
    · unfold f_M_is_2000012
      rw [d, if_neg (fun q => c (dl.mp q)), mq_let_e, mq_let_e, h]
      exact zN.1
    · unfold ok_M_is_2000012
      rw [d, if_neg (fun q => c (dl.mp q)), mq_letP_e, mq_letP_e]
      refine ⟨trivial, zN.2, ?_⟩
      rw [zN.1]
      rfl
theorem G_word {s : mS} {L st e : Nat} (h1 : gI s 80 1 = Int32.ofNat L) (hT : gP s 5 = 48) (h5 : gI s 80 5 = Int32.ofNat st) (h2 : gI s 80 2 = Int32.ofNat e) (hse : st ≤ e) (heL : e ≤ L) (hL : L ≤ 600) : f_Parser_kindOfWord s = Int32.ofNat (tz_word (gI s 37) st e 13) ∧ ok_Parser_kindOfWord s := by
  have g0 := G_isW_0 h1 hT h5 h2 hse heL hL
  have g1 := G_isW_1 h1 hT h5 h2 hse heL hL
  have g2 := G_isW_2 h1 hT h5 h2 hse heL hL
  have g3 := G_isW_3 h1 hT h5 h2 hse heL hL
  have g4 := G_isW_4 h1 hT h5 h2 hse heL hL
  have g5 := G_isW_5 h1 hT h5 h2 hse heL hL
  have g6 := G_isW_6 h1 hT h5 h2 hse heL hL
  have g7 := G_isW_7 h1 hT h5 h2 hse heL hL
  have g8 := G_isW_8 h1 hT h5 h2 hse heL hL
  have g9 := G_isW_9 h1 hT h5 h2 hse heL hL
  have g10 := G_isW_10 h1 hT h5 h2 hse heL hL
  have g11 := G_isW_11 h1 hT h5 h2 hse heL hL
  have g12 := G_isW_12 h1 hT h5 h2 hse heL hL
  have b1 : ¬ ey_b true = 0 := by decide
  have b0 : ey_b false = 0 := rfl
  constructor
  · simp only [f_Parser_kindOfWord, mq_let_e, g0.1, g1.1, g2.1, g3.1, g4.1, g5.1, g6.1, g7.1, g8.1, g9.1, g10.1, g11.1, g12.1]
    cases c0 : tz_is (gI s 37) st e (mm_Y 0) with
    | true =>
      rw [tz_word_i (j := 0) (by omega) c0 13 (by omega) (by omega)]
      simp only [b0, b1, if_true, if_false]
      rfl
    | false =>
      cases c1 : tz_is (gI s 37) st e (mm_Y 1) with
      | true =>
        rw [tz_word_i (j := 1) (by omega) c1 13 (by omega) (by omega)]
        simp only [b0, b1, if_true, if_false]
        rfl
      | false =>
        cases c2 : tz_is (gI s 37) st e (mm_Y 2) with
        | true =>
          rw [tz_word_i (j := 2) (by omega) c2 13 (by omega) (by omega)]
          simp only [b0, b1, if_true, if_false]
          rfl
        | false =>
          cases c3 : tz_is (gI s 37) st e (mm_Y 3) with
          | true =>
            rw [tz_word_i (j := 3) (by omega) c3 13 (by omega) (by omega)]
            simp only [b0, b1, if_true, if_false]
            rfl
          | false =>
            cases c4 : tz_is (gI s 37) st e (mm_Y 4) with
            | true =>
              rw [tz_word_i (j := 4) (by omega) c4 13 (by omega) (by omega)]
              simp only [b0, b1, if_true, if_false]
              rfl
            | false =>
              cases c5 : tz_is (gI s 37) st e (mm_Y 5) with
              | true =>
                rw [tz_word_i (j := 5) (by omega) c5 13 (by omega) (by omega)]
                simp only [b0, b1, if_true, if_false]
                rfl
              | false =>
                cases c6 : tz_is (gI s 37) st e (mm_Y 6) with
                | true =>
                  rw [tz_word_i (j := 6) (by omega) c6 13 (by omega) (by omega)]
                  simp only [b0, b1, if_true, if_false]
                  rfl
                | false =>
                  cases c7 : tz_is (gI s 37) st e (mm_Y 7) with
                  | true =>
                    rw [tz_word_i (j := 7) (by omega) c7 13 (by omega) (by omega)]
                    simp only [b0, b1, if_true, if_false]
                    rfl
                  | false =>
                    cases c8 : tz_is (gI s 37) st e (mm_Y 8) with
                    | true =>
                      rw [tz_word_i (j := 8) (by omega) c8 13 (by omega) (by omega)]
                      simp only [b0, b1, if_true, if_false]
                      rfl
                    | false =>
                      cases c9 : tz_is (gI s 37) st e (mm_Y 9) with
                      | true =>
                        rw [tz_word_i (j := 9) (by omega) c9 13 (by omega) (by omega)]
                        simp only [b0, b1, if_true, if_false]
                        rfl
                      | false =>
                        cases c10 : tz_is (gI s 37) st e (mm_Y 10) with
                        | true =>
                          rw [tz_word_i (j := 10) (by omega) c10 13 (by omega) (by omega)]
                          simp only [b0, b1, if_true, if_false]
                          rfl
                        | false =>
                          cases c11 : tz_is (gI s 37) st e (mm_Y 11) with
                          | true =>
                            rw [tz_word_i (j := 11) (by omega) c11 13 (by omega) (by omega)]
                            simp only [b0, b1, if_true, if_false]
                            rfl
                          | false =>
                            cases c12 : tz_is (gI s 37) st e (mm_Y 12) with
                            | true =>
                              rw [tz_word_i (j := 12) (by omega) c12 13 (by omega) (by omega)]
                              simp only [b0, b1, if_true, if_false]
                              rfl
                            | false =>
                              rw [tz_word_n (fun j hj => by
                                have : j = 0 ∨ j = 1 ∨ j = 2 ∨ j = 3 ∨ j = 4 ∨ j = 5 ∨ j = 6 ∨ j = 7 ∨ j = 8 ∨ j = 9 ∨ j = 10 ∨ j = 11 ∨ j = 12 := by omega
                                rcases this with q | q | q | q | q | q | q | q | q | q | q | q | q <;> rw [q] <;> assumption) 13 (by omega)]
                              simp only [b0, if_true]
                              rfl
  · simp only [ok_Parser_kindOfWord, mq_letP_e, g0.2, g1.2, g2.2, g3.2, g4.2, g5.2, g6.2, g7.2, g8.2, g9.2, g10.2, g11.2, g12.2, true_and, ite_self]
/-- the model's tokens -/
def tz_mk (k : Nat) : Int32 := if k < 3 then Int32.ofNat k else if k < 8 then Int32.ofNat (298 + k) else if k = 8 then 401 else if k = 9 then 402 else if k = 10 then 403 else if k = 11 then 405 else if k = 12 then 3 else if k = 13 then 4 else if k = 14 then 5 else if k = 15 then 6 else if k = 16 then 59 else if k = 17 then 43 else if k = 18 then 45 else if k = 19 then 42 else if k = 20 then 47 else if k = 21 then 40 else if k = 22 then 41 else if k = 23 then 60 else if k = 24 then 61 else 62
theorem M_word_eq {s : mS} {L st e : Nat} (h5 : gI s 116 83 = Int32.ofNat st) (h2 : gI s 116 81 = Int32.ofNat e) (hse : st ≤ e) (heL : e ≤ L) (hL : L ≤ 600) : f_M_word s = tz_mk (tz_word (gI s 167) st e 13) ∧ ok_M_word s := by
  have g0 := M_isW_0 h5 h2 hse heL hL
  have g1 := M_isW_1 h5 h2 hse heL hL
  have g2 := M_isW_2 h5 h2 hse heL hL
  have g3 := M_isW_3 h5 h2 hse heL hL
  have g4 := M_isW_4 h5 h2 hse heL hL
  have g5 := M_isW_5 h5 h2 hse heL hL
  have g6 := M_isW_6 h5 h2 hse heL hL
  have g7 := M_isW_7 h5 h2 hse heL hL
  have g8 := M_isW_8 h5 h2 hse heL hL
  have g9 := M_isW_9 h5 h2 hse heL hL
  have g10 := M_isW_10 h5 h2 hse heL hL
  have g11 := M_isW_11 h5 h2 hse heL hL
  have g12 := M_isW_12 h5 h2 hse heL hL
  have b1 : ¬ ey_b true = 0 := by decide
  have b0 : ey_b false = 0 := rfl
  constructor
  · simp only [f_M_word, mq_let_e, g0.1, g1.1, g2.1, g3.1, g4.1, g5.1, g6.1, g7.1, g8.1, g9.1, g10.1, g11.1, g12.1]
    cases c0 : tz_is (gI s 167) st e (mm_Y 0) with
    | true =>
      rw [tz_word_i (j := 0) (by omega) c0 13 (by omega) (by omega)]
      simp only [b0, b1, if_true, if_false]
      rfl
    | false =>
      cases c1 : tz_is (gI s 167) st e (mm_Y 1) with
      | true =>
        rw [tz_word_i (j := 1) (by omega) c1 13 (by omega) (by omega)]
        simp only [b0, b1, if_true, if_false]
        rfl
      | false =>
        cases c2 : tz_is (gI s 167) st e (mm_Y 2) with
        | true =>
          rw [tz_word_i (j := 2) (by omega) c2 13 (by omega) (by omega)]
          simp only [b0, b1, if_true, if_false]
          rfl
        | false =>
          cases c3 : tz_is (gI s 167) st e (mm_Y 3) with
          | true =>
            rw [tz_word_i (j := 3) (by omega) c3 13 (by omega) (by omega)]
            simp only [b0, b1, if_true, if_false]
            rfl
          | false =>
            cases c4 : tz_is (gI s 167) st e (mm_Y 4) with
            | true =>
              rw [tz_word_i (j := 4) (by omega) c4 13 (by omega) (by omega)]
              simp only [b0, b1, if_true, if_false]
              rfl
            | false =>
              cases c9 : tz_is (gI s 167) st e (mm_Y 9) with
              | true =>
                rw [tz_word_i (j := 9) (by omega) c9 13 (by omega) (by omega)]
                simp only [b0, b1, if_true, if_false]
                rfl
              | false =>
                cases c10 : tz_is (gI s 167) st e (mm_Y 10) with
                | true =>
                  rw [tz_word_i (j := 10) (by omega) c10 13 (by omega) (by omega)]
                  simp only [b0, b1, if_true, if_false]
                  rfl
                | false =>
                  cases c11 : tz_is (gI s 167) st e (mm_Y 11) with
                  | true =>
                    rw [tz_word_i (j := 11) (by omega) c11 13 (by omega) (by omega)]
                    simp only [b0, b1, if_true, if_false]
                    rfl
                  | false =>
                    cases c12 : tz_is (gI s 167) st e (mm_Y 12) with
                    | true =>
                      rw [tz_word_i (j := 12) (by omega) c12 13 (by omega) (by omega)]
                      simp only [b0, b1, if_true, if_false]
                      rfl
                    | false =>
                      cases c5 : tz_is (gI s 167) st e (mm_Y 5) with
                      | true =>
                        rw [tz_word_i (j := 5) (by omega) c5 13 (by omega) (by omega)]
                        simp only [b0, b1, if_true, if_false]
                        rfl
                      | false =>
                        cases c6 : tz_is (gI s 167) st e (mm_Y 6) with
                        | true =>
                          rw [tz_word_i (j := 6) (by omega) c6 13 (by omega) (by omega)]
                          simp only [b0, b1, if_true, if_false]
                          rfl
                        | false =>
                          cases c7 : tz_is (gI s 167) st e (mm_Y 7) with
                          | true =>
                            rw [tz_word_i (j := 7) (by omega) c7 13 (by omega) (by omega)]
                            simp only [b0, b1, if_true, if_false]
                            rfl
                          | false =>
                            cases c8 : tz_is (gI s 167) st e (mm_Y 8) with
                            | true =>
                              rw [tz_word_i (j := 8) (by omega) c8 13 (by omega) (by omega)]
                              simp only [b0, b1, if_true, if_false]
                              rfl
                            | false =>
                              rw [tz_word_n (fun j hj => by
                                have : j = 0 ∨ j = 1 ∨ j = 2 ∨ j = 3 ∨ j = 4 ∨ j = 5 ∨ j = 6 ∨ j = 7 ∨ j = 8 ∨ j = 9 ∨ j = 10 ∨ j = 11 ∨ j = 12 := by omega
                                rcases this with q | q | q | q | q | q | q | q | q | q | q | q | q <;> rw [q] <;> assumption) 13 (by omega)]
                              simp only [b0, if_true]
                              rfl
  · simp only [ok_M_word, mq_letP_e, g0.2, g1.2, g2.2, g3.2, g4.2, g5.2, g6.2, g7.2, g8.2, g9.2, g10.2, g11.2, g12.2, true_and, ite_self]
