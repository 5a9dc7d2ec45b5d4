/-! GAIN: the class sums reading by reading, the model thing by thing. -/
def smL (w : Nat → Int64) : Nat → Int64
  | 0 => 0
  | k + 1 => smL w k + w k
theorem smL_c {w w' : Nat → Int64} {b : Nat} (h : ∀ j, j < b → w j = w' j) : smL w b = smL w' b := by
  induction b with
  | zero => rfl
  | succ b ih =>
    show smL w b + w b = smL w' b + w' b
    rw [ih (fun j hj => h j (by omega)), h b (by omega)]
theorem smL_0 {w : Nat → Int64} {b c : Nat} (hbc : b ≤ c) (h : ∀ j, b ≤ j → j < c → w j = 0) : smL w c = smL w b := by
  induction c with
  | zero =>
    have : b = 0 := by omega
    rw [this]
  | succ c ih =>
    by_cases hb : b = c + 1
    · rw [hb]
    · show smL w c + w c = smL w b
      rw [ih (by omega) (fun j h1 h2 => h j h1 (by omega)), h c (by omega) (by omega), Int64.add_zero]
theorem smL_add (w v : Nat → Int64) (b : Nat) : smL (fun j => w j + v j) b = smL w b + smL v b := by
  induction b with
  | zero => rfl
  | succ b ih =>
    show smL (fun j => w j + v j) b + (w b + v b) = (smL w b + w b) + (smL v b + v b)
    rw [ih]
    grind
theorem smL_one {x : Int64} {h : Nat} {b : Nat} (hb : h < b) : smL (fun j => if h = j then x else 0) b = x := by
  induction b with
  | zero => omega
  | succ b ih =>
    show smL (fun j => if h = j then x else 0) b + (if h = b then x else 0) = x
    by_cases q : h = b
    · rw [if_pos q, smL_0 (Nat.zero_le _) (fun j _ hj => if_neg (by omega))]
      show (0 : Int64) + x = x
      exact Int64.zero_add x
    · rw [if_neg q, ih (by omega), Int64.add_zero]
/-- things' sums are the readings' sum -/
theorem smL_swap {H : Nat → Int32} {w : Nat → Int64} {n T : Nat} (hT : T < 90000) (h : ∀ r, r < n → 0 ≤ H r ∧ H r < Int32.ofNat T) : smL (fun t => smL (fun r => if H r = Int32.ofNat t then w r else 0) n) T = smL w n := by
  induction n with
  | zero =>
    show smL (fun _ => 0) T = 0
    rw [smL_0 (Nat.zero_le _) (fun _ _ _ => rfl)]
    rfl
  | succ n ih =>
    show smL (fun t => smL (fun r => if H r = Int32.ofNat t then w r else 0) n + (if H n = Int32.ofNat t then w n else 0)) T = smL w n + w n
    rw [smL_add, ih (fun r hr => h r (by omega))]
    congr 1
    obtain ⟨h1, h2⟩ := h n (by omega)
    have h3 : ix (H n) < T := ix_lt (by omega) h1 h2
    have h4 : Int32.ofNat (ix (H n)) = H n := ofNat_ix h1
    rw [smL_c (w' := fun j => if ix (H n) = j then w n else 0) (fun j hj => ?_), smL_one h3]
    by_cases q : ix (H n) = j
    · rw [if_pos q, ← q, h4, if_pos rfl]
    · rw [if_neg q, if_neg]
      intro q2
      rw [q2, ix_ofNat (by omega)] at q
      exact q rfl
/-- what a reading adds -/
noncomputable def bl_b (A : aC) (s : mS) (known : Int32) (m r : Nat) : Int64 := if bk_P s r = -1 then 0 else bk_un s (fun k => bk_sh s known k m) r * Int32.toInt64 (bl_price A s (gI s 151 r))
/-- at a state the class may ask in -/
theorem G_gain {s : mS} {A : aC} (hW : aW A) (hA : aG s A) (h_sky : J_sky s) (h_books : J_books s) (h_gen : J_gen s) {n m : Nat} (hn : gI s 116 57 = Int32.ofNat n) (hn2 : n ≤ 200) (hm : gI s 116 58 = Int32.ofNat m) (hm2 : m ≤ 100) :
    (f_G_gain s).1 = ((gL s 82 14 - gL s 82 13) - gL s 82 15) + smL (bl_b A s (gI s 116 1) m) n ∧ ok_G_gain s ∧ aG (f_G_gain s).2 A := by
  have hix : ix (gI s 116 57) = n := by rw [hn, ix_ofNat (by omega)]
  have kb := h_books
  unfold J_books at kb
  obtain ⟨b1, b2, b3, b4, b5, b6, b7, b8, b9, b10, b11, b12, b13, b14, b15, b16, b17, b18, b19, b20⟩ := kb
  have kg := h_gen
  unfold J_gen at kg
  obtain ⟨g, u, kn1, kn2, kn3, kn4⟩ := G_know h_books hn hn2 hm hm2 (gI s 116 1)
  have fK := fr_Books_know (gI s 116 1) s
  have x90 : ∀ r, r < n → gL (f_Books_know (gI s 116 1) s) 90 r = bk_un s (fun k => bk_sh s (gI s 116 1) k m) r := fun r hr => by
    rw [kn1, gL_sM, if_pos rfl]
    exact kn4 r hr
  clear kn1 kn3 kn4
  generalize hkt : f_Books_know (gI s 116 1) s = t at *
  have hGt : aG t A := aG_fp fK (by decide) hA
  have key : ∀ d i k (v : Int64) (w : mS), i + d = n → d < k → fp [39] [(36, 3), (36, 8), (36, 9)] true t w → aG w A → v = ((gL s 82 14 - gL s 82 13) - gL s 82 15) + smL (bl_b A s (gI s 116 1) m) i →
      ∃ x w', lp_G_gain_37 k v (Int32.ofNat i) w = (((gL s 82 14 - gL s 82 13) - gL s 82 15) + smL (bl_b A s (gI s 116 1) m) n, x, w') ∧ okl_G_gain_37 k v (Int32.ofNat i) w ∧ aG w' A := by
    intro d
    induction d with
    | zero =>
      intro i k v w hi hk hf hw hv
      have : i = n := by omega
      subst this
      match k, hk with
      | k + 1, _ =>
        have e1 : gI w 82 8 ≤ Int32.ofNat i := by
          rw [(fpF hf (by decide)).1, (fpF fK (by decide)).1, b5]
          exact fl_lit' hn
        refine ⟨Int32.ofNat i, w, ?_, ?_, hw⟩
        · simp only [lp_G_gain_37, e1, if_true, hv]
        · simp only [okl_G_gain_37, e1, if_true]
    | succ d ih =>
      intro i k v w hi hk hf hw hv
      match k, hk with
      | k + 1, hk =>
        have e1 : ¬ gI w 82 8 ≤ Int32.ofNat i := by
          rw [(fpF hf (by decide)).1, (fpF fK (by decide)).1, b5]
          exact fl_lit hn (by omega) (by omega) (by omega)
        have e9 : ¬ (200 : Int32) ≤ Int32.ofNat i := fl_lit (a := 200) rfl (by omega) (by omega) (by omega)
        have hJw : J_sky w := jf_sky hf (by decide) (jf_sky fK (by decide) h_sky)
        have k18 := b18 i (by omega)
        obtain ⟨q1, q2, q3, q4⟩ := G_billOf (s := s) (t := w) hW hw hJw (by rw [(fpA hf (by decide)).1, (fpA fK (by decide)).1]) (by omega : i < 200) (P := bk_P s i) (st := gI s 151 i) (by
          rw [(fpA hf (by decide)).1, (fpA fK (by decide)).1]
          exact b17 i (by omega)) (by rw [(fpA hf (by decide)).1, (fpA fK (by decide)).1, b2]) k18.1 (by have := k18.2; have := kg.2.2.1; grind) (by rw [congrFun (fpA hf (by decide)).2 i, x90 i (by omega)])
        obtain ⟨x, w', i1, i2, i3⟩ := ih (i + 1) k (v + (f_G_billOf (Int32.ofNat i) w).1) (f_G_billOf (Int32.ofNat i) w).2 (by omega) (by omega) (fp_t hf q4) q3 (by
          rw [hv, q1]
          show _ = _ + (smL (bl_b A s (gI s 116 1) m) i + bl_b A s (gI s 116 1) m i)
          unfold bl_b
          rw [Int64.add_assoc])
        refine ⟨x, w', ?_, ?_, i3⟩
        · simp only [lp_G_gain_37, mq_let_e, e1, e9, if_false, ofNat_succ]
          exact i1
        · simp only [okl_G_gain_37, mq_letP_e, e1, e9, if_false, q2, true_and, ofNat_succ]
          exact i2
  obtain ⟨x, w', i1, i2, i3⟩ := key n 0 mm_N ((gL s 82 14 - gL s 82 13) - gL s 82 15) t (by omega) (by rw [mm_Ns]; omega) fp_r hGt (by
    show _ = _ + (0 : Int64)
    rw [Int64.add_zero])
  have z13 : gL t 82 13 = gL s 82 13 := (fpF fK (by decide)).2
  have z14 : gL t 82 14 = gL s 82 14 := (fpF fK (by decide)).2
  have z15 : gL t 82 15 = gL s 82 15 := (fpF fK (by decide)).2
  have i1 : lp_G_gain_37 mm_N _ 0 t = _ := i1
  have i2 : okl_G_gain_37 mm_N _ 0 t := i2
  have e : f_G_gain s = (((gL s 82 14 - gL s 82 13) - gL s 82 15) + smL (bl_b A s (gI s 116 1) m) n, w') := by
    unfold f_G_gain
    simp only [mq_let_e, kg.1, hkt, z13, z14, z15, i1]
  rw [e]
  refine ⟨rfl, ?_, i3⟩
  unfold ok_G_gain
  simp only [mq_letP_e, kg.1, hkt, z13, z14, z15, i2, kn2, true_and]
section
variable {s : mS} {A : aC} {n m : Nat} {known : Int32}
/-- the model's walk over one thing's readings, from an ordinal on -/
theorem M_gain_in (hW : aW A) (hn2 : n ≤ 200) (hm2 : m ≤ 100) (h_books : J_books s) (h_gen : J_gen s) (hA : aM s A) (hn : gI s 116 57 = Int32.ofNat n) (hm : gI s 116 58 = Int32.ofNat m) {t : Int32} : ∀ (d x j k : Nat) (v : Int64) (u : mS), n - x ≤ d → d < k → x < n → gI s 150 x = t → hk_cnt (gI s 150) t x + 1 = j → fp [168, 169] [(116, 91), (116, 92), (116, 93)] false s u →
    ∃ y u', lp_M_gain_40 t k v (Int32.ofNat j) u = ((v - smL (fun r => if gI s 150 r = t then bl_b A s (gI s 116 1) m r else 0) (x + 1)) + smL (fun r => if gI s 150 r = t then bl_b A s (gI s 116 1) m r else 0) n, y, u') ∧ okl_M_gain_40 t k v (Int32.ofNat j) u ∧ fp [168, 169] [(116, 91), (116, 92), (116, 93)] false s u' := by
  intro d
  induction d with
  | zero => intro x j k v u h1 _ h3; omega
  | succ d ih =>
    intro x j k v u hd hk hx h1 h2 hf
    match k, hk with
    | k + 1, hk =>
      have u57 : gI u 116 57 = Int32.ofNat n := by rw [(fpF hf (by decide)).1]; exact hn
      have u58 : gI u 116 58 = Int32.ofNat m := by rw [(fpF hf (by decide)).1]; exact hm
      have u150 : gI u 150 = gI s 150 := (fpA hf (by decide)).1
      have u1 : gI u 116 1 = gI s 116 1 := (fpF hf (by decide)).1
      have R := M_rd u57 hn2 t (Int32.ofNat j)
      rw [u150] at R
      by_cases c : rd_of (gI s 150) t (Int32.ofNat j) n = -1
      · have hno := (rd_none (by omega : n < 90000)).mp c
        have none_after : ∀ q, x < q → q < n → ¬ gI s 150 q = t := by
          intro q hq1 hq2 hq3
          have hc : hk_cnt (gI s 150) t x < hk_cnt (gI s 150) t q := hk_lt hq1 h1
          obtain ⟨z, z1, z2, z3⟩ := rd_back (H := gI s 150) (i := j) hq3 (by omega)
          exact hno z (by omega) ⟨z2, by rw [z3]⟩
        have hs : smL (fun r => if gI s 150 r = t then bl_b A s (gI s 116 1) m r else 0) n = smL (fun r => if gI s 150 r = t then bl_b A s (gI s 116 1) m r else 0) (x + 1) := smL_0 (by omega) (fun q q1 q2 => if_neg (none_after q (by omega) q2))
        refine ⟨Int32.ofNat j, u, ?_, ?_, hf⟩
        · simp only [lp_M_gain_40, mq_let_e, R.1, c, if_true, hs]
          congr 1
          grind
        · simp only [okl_M_gain_40, mq_letP_e, R.1, R.2, c, if_true, true_and]
      · obtain ⟨y, y1, y2, y3, y4⟩ := rd_get (by omega : n < 90000) c
        have hly := hk_le (H := gI s 150) (t := t) y
        have hlx := hk_le (H := gI s 150) (t := t) x
        have hcy : hk_cnt (gI s 150) t y = j := by
          rw [ofNat_e (by omega) (by omega)] at y3
          exact y3
        have hxy : x < y := by
          apply Classical.byContradiction
          intro q
          have := hk_mono (H := gI s 150) (t := t) (show y ≤ x by omega)
          omega
        have none_between : ∀ q, x < q → q < y → ¬ gI s 150 q = t := by
          intro q q1 q2 q3
          have a1 := hk_lt (H := gI s 150) (t := t) q1 h1
          have a2 := hk_lt (H := gI s 150) (t := t) q2 q3
          omega
        have hs : smL (fun r => if gI s 150 r = t then bl_b A s (gI s 116 1) m r else 0) y = smL (fun r => if gI s 150 r = t then bl_b A s (gI s 116 1) m r else 0) (x + 1) := smL_0 (by omega) (fun q q1 q2 => if_neg (none_between q (by omega) q2))
        have hs2 : smL (fun r => if gI s 150 r = t then bl_b A s (gI s 116 1) m r else 0) (y + 1) = smL (fun r => if gI s 150 r = t then bl_b A s (gI s 116 1) m r else 0) (x + 1) + bl_b A s (gI s 116 1) m y := by
          show smL _ y + (if gI s 150 y = t then bl_b A s (gI s 116 1) m y else 0) = _
          rw [hs, if_pos y2]
        have B := M_billOf (s := u) (t := t) hW (aM_fp hf (by decide) hA) (jf_books hf (by decide) h_books) (jf_gen hf (by decide) h_gen) u57 hn2 u58 hm2 (gI s 116 1) y1 (by rw [u150]; exact y2) (j := j) (by rw [u150]; exact hcy)
        have hP : ¬ bk_P s y = -1 := by
          unfold bk_P
          rw [y2]
          obtain ⟨p, p1, p2, -, -⟩ := hk_prev_s (H := gI s 150) (t := t) (n := y) (by omega)
          rw [p2]
          exact ofNat_ne1 (by omega)
        have hb : (f_M_billOf t (Int32.ofNat j) (gI s 116 1) u).1 = bl_b A s (gI s 116 1) m y := by
          rw [B.1]
          unfold bl_b
          rw [if_neg hP, bk_un_c ⟨(fpA hf (by decide)).1, (fpA hf (by decide)).1, (fpA hf (by decide)).1⟩, (fpA (c := 151) hf (by decide)).1]
          rw [funext fun k => bk_sh_c (s := s) (t := u) ⟨(fpA hf (by decide)).1, (fpA hf (by decide)).1, (fpA hf (by decide)).1, (fpA hf (by decide)).1⟩ (gI s 116 1) k m]
          unfold bl_price
          rw [sky_fog (s := s) (fpA hf (by decide)).1]
        obtain ⟨z, u', i1, i2, i3⟩ := ih y (j + 1) k (v + bl_b A s (gI s 116 1) m y) (f_M_billOf t (Int32.ofNat j) (gI s 116 1) u).2 (by omega) (by omega) y1 y2 (by omega) (fp_t hf B.2.2)
        have e9 : ¬ Int32.ofNat y = -1 := ofNat_ne1 (by omega)
        refine ⟨z, u', ?_, ?_, i3⟩
        · simp only [lp_M_gain_40, mq_let_e, R.1, y4, e9, if_false, u1, hb, ofNat_succ]
          rw [i1, hs2]
          congr 1
          grind
        · simp only [okl_M_gain_40, mq_letP_e, R.1, R.2, y4, e9, if_false, u1, hb, B.2.1, ofNat_succ, true_and]
          exact i2
theorem M_gain_one (hW : aW A) (hn2 : n ≤ 200) (hm2 : m ≤ 100) (h_books : J_books s) (h_gen : J_gen s) (hA : aM s A) (hn : gI s 116 57 = Int32.ofNat n) (hm : gI s 116 58 = Int32.ofNat m) (t : Int32) (v : Int64) (u : mS) (hf : fp [168, 169] [(116, 91), (116, 92), (116, 93)] false s u) :
    ∃ y u', lp_M_gain_40 t mm_N v 1 u = (v + smL (fun r => if gI s 150 r = t then bl_b A s (gI s 116 1) m r else 0) n, y, u') ∧ okl_M_gain_40 t mm_N v 1 u ∧ fp [168, 169] [(116, 91), (116, 92), (116, 93)] false s u' := by
  by_cases c : rd_of (gI s 150) t 0 n = -1
  · -- no reading at all
    have hno := (rd_none (by omega : n < 90000)).mp c
    have none_at : ∀ q, q < n → ¬ gI s 150 q = t := by
      intro q hq hq3
      obtain ⟨z, z1, z2, z3⟩ := rd_back (H := gI s 150) (i := 0) hq3 (Nat.zero_le _)
      exact hno z (by omega) ⟨z2, by rw [z3]; rfl⟩
    have hs : smL (fun r => if gI s 150 r = t then bl_b A s (gI s 116 1) m r else 0) n = 0 := by
      rw [smL_0 (Nat.zero_le _) (fun q _ q2 => if_neg (none_at q q2))]
      rfl
    have R := M_rd (s := u) (by rw [(fpF hf (by decide)).1]; exact hn) hn2 t 1
    rw [(fpA hf (by decide)).1] at R
    have c1 : rd_of (gI s 150) t 1 n = -1 := (rd_none (by omega : n < 90000)).mpr (fun r hr q => none_at r hr q.1)
    obtain ⟨N', hN'⟩ : ∃ N', mm_N = N' + 1 := ⟨99999, rfl⟩
    rw [hN']
    refine ⟨1, u, ?_, ?_, hf⟩
    · simp only [lp_M_gain_40, mq_let_e, R.1, c1, if_true, hs, Int64.add_zero]
    · simp only [okl_M_gain_40, mq_letP_e, R.1, R.2, c1, if_true, true_and]
  · obtain ⟨x, x1, x2, x3, x4⟩ := rd_get (by omega : n < 90000) c
    have hlx := hk_le (H := gI s 150) (t := t) x
    have hcx : hk_cnt (gI s 150) t x = 0 := by
      have x3' : Int32.ofNat (hk_cnt (gI s 150) t x) = Int32.ofNat 0 := x3
      rw [ofNat_e (by omega) (by omega)] at x3'
      exact x3'
    have none_before : ∀ q, q < x → ¬ gI s 150 q = t := by
      intro q q1 q2
      have := hk_lt (H := gI s 150) (t := t) q1 q2
      omega
    have hs : smL (fun r => if gI s 150 r = t then bl_b A s (gI s 116 1) m r else 0) (x + 1) = 0 := by
      show smL _ x + (if gI s 150 x = t then bl_b A s (gI s 116 1) m x else 0) = 0
      rw [if_pos x2, smL_0 (Nat.zero_le _) (fun q _ q2 => if_neg (none_before q q2))]
      unfold bl_b
      rw [if_pos (bk_P_0 x2 hcx)]
      rfl
    obtain ⟨y, u', i1, i2, i3⟩ := M_gain_in hW hn2 hm2 h_books h_gen hA hn hm (n - x) x 1 mm_N v u (Nat.le_refl _) (by rw [mm_Ns]; omega) x1 x2 (by omega) hf
    rw [hs] at i1
    refine ⟨y, u', ?_, i2, i3⟩
    have i1 : lp_M_gain_40 t mm_N v 1 u = _ := i1
    rw [i1]
    congr 1
    grind
theorem M_gain (hW : aW A) (h_things : J_things s) (h_books : J_books s) (h_gen : J_gen s) (hA : aM s A) (hn : gI s 116 57 = Int32.ofNat n) (hn2 : n ≤ 200) (hm : gI s 116 58 = Int32.ofNat m) (hm2 : m ≤ 100) :
    (f_M_gain s).1 = ((gL s 116 40 - gL s 116 39) - gL s 116 41) + smL (bl_b A s (gI s 116 1) m) n ∧ ok_M_gain s ∧ fp [168, 169] [(116, 91), (116, 92), (116, 93)] false s (f_M_gain s).2 := by
  have hix : ix (gI s 116 57) = n := by rw [hn, ix_ofNat (by omega)]
  have kb := h_books
  unfold J_books at kb
  have b15 := kb.2.2.2.2.2.2.2.2.2.2.2.2.2.2.1
  rw [hix] at b15
  have kt := h_things
  unfold J_things at kt
  have t12 := kt.2.2.2.2.2.2.2.2.2.2.2.1
  have t13 := kt.2.2.2.2.2.2.2.2.2.2.2.2.1
  have hT : gI s 116 8 = Int32.ofNat (ix (gI s 116 8)) := (ofNat_ix t12).symm
  have hT2 : ix (gI s 116 8) ≤ 40 := by
    have : ix (gI s 116 8) < 41 := ix_lt (by decide) t12 (by
      have : Int32.ofNat 41 = 41 := rfl
      grind)
    omega
  generalize ix (gI s 116 8) = T at *
  have key : ∀ d i k (v : Int64) (u : mS), i + d = T → d < k → fp [168, 169] [(116, 91), (116, 92), (116, 93)] false s u → v = ((gL s 116 40 - gL s 116 39) - gL s 116 41) + smL (fun t => smL (fun r => if gI s 150 r = Int32.ofNat t then bl_b A s (gI s 116 1) m r else 0) n) i →
      ∃ x u', lp_M_gain_17 k v (Int32.ofNat i) u = (((gL s 116 40 - gL s 116 39) - gL s 116 41) + smL (fun t => smL (fun r => if gI s 150 r = Int32.ofNat t then bl_b A s (gI s 116 1) m r else 0) n) T, x, u') ∧ okl_M_gain_17 k v (Int32.ofNat i) u ∧ fp [168, 169] [(116, 91), (116, 92), (116, 93)] false s u' := by
    intro d
    induction d with
    | zero =>
      intro i k v u hi hk hf hv
      have : i = T := by omega
      subst this
      match k, hk with
      | k + 1, _ =>
        have e1 : gI u 116 8 ≤ Int32.ofNat i := by
          rw [(fpF hf (by decide)).1]
          exact fl_lit' hT
        refine ⟨Int32.ofNat i, u, ?_, ?_, hf⟩
        · simp only [lp_M_gain_17, e1, if_true, hv]
        · simp only [okl_M_gain_17, e1, if_true]
    | succ d ih =>
      intro i k v u hi hk hf hv
      match k, hk with
      | k + 1, hk =>
        have e1 : ¬ gI u 116 8 ≤ Int32.ofNat i := by
          rw [(fpF hf (by decide)).1]
          exact fl_lit hT (by omega) (by omega) (by omega)
        have e2 : ix (Int32.ofNat i) = i := ix_ofNat (by omega)
        have b1 : mm_inb (Int32.ofNat i) 40 = true := inb_ofNat (by decide) (by omega)
        have e3 : gI u 133 i = gI s 133 i := by rw [(fpA hf (by decide)).1]
        by_cases c : gI s 133 i = 0
        · obtain ⟨y, u', o1, o2, o3⟩ := M_gain_one hW hn2 hm2 h_books h_gen hA hn hm (Int32.ofNat i) v u hf
          obtain ⟨x, u2, i1, i2, i3⟩ := ih (i + 1) k (v + smL (fun r => if gI s 150 r = Int32.ofNat i then bl_b A s (gI s 116 1) m r else 0) n) u' (by omega) (by omega) o3 (by
            rw [hv]
            show _ = _ + (smL _ i + _)
            rw [Int64.add_assoc])
          refine ⟨x, u2, ?_, ?_, i3⟩
          · simp only [lp_M_gain_17, mq_let_e, e1, if_false, e2, e3, c, if_true, o1, ofNat_succ]
            exact i1
          · simp only [okl_M_gain_17, mq_letP_e, e1, if_false, e2, e3, c, if_true, o1, o2, b1, true_and, ofNat_succ]
            exact i2
        · have hz : smL (fun r => if gI s 150 r = Int32.ofNat i then bl_b A s (gI s 116 1) m r else 0) n = 0 := by
            rw [smL_0 (Nat.zero_le _) (fun q _ q2 => if_neg (fun q3 => ?_))]
            · rfl
            · have := (b15 q q2).2.2
              rw [q3, e2] at this
              exact c this
          obtain ⟨x, u2, i1, i2, i3⟩ := ih (i + 1) k v u (by omega) (by omega) hf (by
            rw [hv]
            show _ = _ + (smL _ i + smL (fun r => if gI s 150 r = Int32.ofNat i then bl_b A s (gI s 116 1) m r else 0) n)
            rw [hz, Int64.add_zero])
          refine ⟨x, u2, ?_, ?_, i3⟩
          · simp only [lp_M_gain_17, mq_let_e, e1, if_false, e2, e3, c, ofNat_succ]
            exact i1
          · simp only [okl_M_gain_17, mq_letP_e, e1, if_false, e2, e3, c, b1, true_and, ofNat_succ]
            exact i2
  obtain ⟨x, u', i1, i2, i3⟩ := key T 0 mm_N ((gL s 116 40 - gL s 116 39) - gL s 116 41) s (by omega) (by rw [mm_Ns]; omega) fp_r (by
    show _ = _ + (0 : Int64)
    rw [Int64.add_zero])
  rw [smL_swap (by omega : T < 90000) (fun r hr => ⟨(b15 r hr).1, by have := (b15 r hr).2.1; rw [hT] at this; exact this⟩)] at i1
  have i1 : lp_M_gain_17 mm_N _ 0 s = _ := i1
  have i2 : okl_M_gain_17 mm_N _ 0 s := i2
  have e : f_M_gain s = (((gL s 116 40 - gL s 116 39) - gL s 116 41) + smL (bl_b A s (gI s 116 1) m) n, u') := by
    unfold f_M_gain
    simp only [mq_let_e, i1]
  rw [e]
  refine ⟨rfl, ?_, i3⟩
  unfold ok_M_gain
  simp only [mq_letP_e, i2, true_and]
end
