/-! ACT: the class's call. -/
theorem gP_sP (s : mS) (k v j : Nat) : gP (sP s k v) j = if j = k then v else gP s j := rfl
theorem sP_comm (s : mS) {j k : Nat} (h : j ≠ k) (a b : Nat) : sP (sP s j a) k b = sP (sP s k b) j a := by
  have e : (fun i => if i = k then b else if i = j then a else s.2.2 i) = (fun i => if i = j then a else if i = k then b else s.2.2 i) := funext fun i => by
    by_cases c : i = k
    · rw [if_pos c, if_neg (fun q => h (q.symm.trans c)), if_pos c]
    · rw [if_neg c, if_neg c]
  show (s.1, s.2.1, fun i => if i = k then b else if i = j then a else s.2.2 i) = (s.1, s.2.1, fun i => if i = j then a else if i = k then b else s.2.2 i)
  rw [e]
theorem gI_sP (s : mS) (k v : Nat) : gI (sP s k v) = gI s := rfl
theorem gL_sP (s : mS) (k v : Nat) : gL (sP s k v) = gL s := rfl
theorem ks_tab_len : ∀ (Ls : List rlL) (b : Nat), (ks_tab b Ls).length = Ls.length
  | [], _ => rfl
  | l :: Ls, b => congrArg (· + 1) (ks_tab_len Ls _)
def cl_of (l : rlL) : cL := (Int32.ofNat l.1, l.2.1, l.2.2)
theorem cl_Gs_c {s t : mS} {r : Nat} (h : ∀ m, 1 ≤ m → m ≤ 6 → gI t (r + m) = gI s (r + m)) : ∀ {R : List cL} {i : Nat}, cl_Gs s r i R → cl_Gs t r i R
  | [], _, _ => trivial
  | l :: R, i, hl => ⟨by
    have g := hl.1
    unfold cl_G at g ⊢
    rw [h 1 (by omega) (by omega), h 2 (by omega) (by omega), h 3 (by omega) (by omega), h 4 (by omega) (by omega), h 5 (by omega) (by omega), h 6 (by omega) (by omega)]
    exact g, cl_Gs_c h hl.2⟩
theorem cl_Gs_of {s : mS} {r : Nat} : ∀ (Ls : List rlL) (i : Nat) (pre : List cI), c_seg (gI s (r + 5)) (gI s (r + 6)) 0 (pre ++ ks_flat Ls) → (pre ++ ks_flat Ls).length ≤ 600 → (∀ j y, (ks_tab pre.length Ls)[j]? = some y → gI s (r + 1) (i + j) = Int32.ofNat y.1 ∧ gI s (r + 2) (i + j) = Int32.ofNat y.2.1 ∧ gI s (r + 3) (i + j) = Int32.ofNat y.2.2.1 ∧ gI s (r + 4) (i + j) = Int32.ofNat y.2.2.2) → cl_Gs s r i (Ls.map cl_of)
  | [], _, _, _, _, _ => trivial
  | l :: Ls, i, pre, h1, h2, h3 => by
    have a := h3 0 _ rfl
    rw [Nat.add_zero] at a
    have fl : pre ++ ks_flat (l :: Ls) = pre ++ (c_xs l.2.1 ++ (c_xs l.2.2 ++ ks_flat Ls)) := by
      show pre ++ (c_xs l.2.1 ++ c_xs l.2.2 ++ ks_flat Ls) = _
      rw [List.append_assoc]
    have h1' := h1
    rw [fl, c_seg_app, c_seg_app, c_seg_app] at h1'
    rw [fl, List.length_append, List.length_append, List.length_append] at h2
    refine ⟨⟨a.1, pre.length, pre.length + (c_xs l.2.1).length, pre.length + (c_xs l.2.1).length + (c_xs l.2.2).length, a.2.1, a.2.2.1, a.2.2.2, rfl, rfl, by omega, ?_, ?_⟩, ?_⟩
    · have q := h1'.2.1
      rw [Nat.zero_add] at q
      exact q
    · have q := h1'.2.2.1
      rw [Nat.zero_add] at q
      exact q
    · have e : pre ++ ks_flat (l :: Ls) = (pre ++ c_xs l.2.1 ++ c_xs l.2.2) ++ ks_flat Ls := by
        rw [fl]
        simp only [List.append_assoc]
      have el : (pre ++ c_xs l.2.1 ++ c_xs l.2.2).length = pre.length + (c_xs l.2.1).length + (c_xs l.2.2).length := by
        rw [List.length_append, List.length_append]
      refine cl_Gs_of Ls (i + 1) (pre ++ c_xs l.2.1 ++ c_xs l.2.2) (by rw [← e]; exact h1) (by
        rw [List.length_append, el]
        omega) (fun j y hy => ?_)
      rw [el] at hy
      have b := h3 (j + 1) y hy
      rw [show i + (j + 1) = i + 1 + j by omega] at b
      exact b
theorem G_into {r L : Nat} (hr : mq_A r) (hL : L ≤ 600) {s : mS} (hP : ∀ j, mq_A (gP s j)) (h4 : gP s 4 = r) (v0 : Int32) : ok_Parser_reads_37 (Int32.ofNat L) s ∧ kF2 r (sP s 5 48) (f_Parser_reads_37 (Int32.ofNat L) s).2 ∧ (match rp_act (tz (gI s 37) L) mm_N mm_N 0 0 v0 with
    | .inl e => (f_Parser_reads_37 (Int32.ofNat L) s).1 = 0 ∧ gI (f_Parser_reads_37 (Int32.ofNat L) s).2 80 12 = Int32.ofNat e.1 ∧ gI (f_Parser_reads_37 (Int32.ofNat L) s).2 80 13 = Int32.ofNat e.2
    | .inr Ls => (f_Parser_reads_37 (Int32.ofNat L) s).1 = 1 ∧ kO (f_Parser_reads_37 (Int32.ofNat L) s).2 r (ks_flat Ls) ∧ (ks_flat Ls).length ≤ 600 ∧ kT (f_Parser_reads_37 (Int32.ofNat L) s).2 r (ks_tab 0 Ls) ∧ Ls.length ≤ 24) := by
  have rm := mq_mod hr
  obtain ⟨hE, hN, hA⟩ := tz_E (gI s 37) L
  -- the beginning
  obtain ⟨s2, hs2⟩ : ∃ s2, sI (sI (sI (sI (f_Act_clear r (sI (sP s 5 48) 80 1 (Int32.ofNat L))) 80 2 0) 80 12 0) 80 13 (-1)) 80 7 0 = s2 := ⟨_, rfl⟩
  have cl : f_Act_clear r (sI (sP s 5 48) 80 1 (Int32.ofNat L)) = sI (sI (sI (sP s 5 48) 80 1 (Int32.ofNat L)) r 7 0) r 8 0 := rfl
  have mn : (if (600 : Int32) < Int32.ofNat L then 600 else Int32.ofNat L) = Int32.ofNat L := by
    have l : ¬ (600 : Int32) < Int32.ofNat L := Int32.not_lt.mpr ((ofNat_le (b := 600) (by omega) (by omega)).mpr hL)
    rw [if_neg l]
  have F2 : kF r (sP s 5 48) s2 := by
    rw [← hs2, cl]
    exact kF_I (kF_I (kF_I (kF_I (kF_I (kF_I (kF_I (kF_r r _) (Or.inl rfl)) (Or.inr (Or.inr (by omega)))) (Or.inr (Or.inr (by omega)))) (Or.inl rfl)) (Or.inl rfl)) (Or.inl rfl)) (Or.inl rfl)
  have x37 : gI s2 37 = gI s 37 := funext fun j => F2.1 37 j (by omega) (by decide) (by decide)
  have x1 : gI s2 80 1 = Int32.ofNat L := by
    rw [← hs2, gI_sI, if_neg (fun q => absurd q.2 (by decide)), gI_sI, if_neg (fun q => absurd q.2 (by decide)), gI_sI, if_neg (fun q => absurd q.2 (by decide)), gI_sI, if_neg (fun q => absurd q.2 (by decide)), cl, gI_sI, if_neg (fun q => by omega), gI_sI, if_neg (fun q => by omega), gI_sI, if_pos ⟨rfl, rfl⟩]
  have x2 : gI s2 80 2 = Int32.ofNat 0 := by
    rw [← hs2, gI_sI, if_neg (fun q => absurd q.2 (by decide)), gI_sI, if_neg (fun q => absurd q.2 (by decide)), gI_sI, if_neg (fun q => absurd q.2 (by decide)), gI_sI, if_pos ⟨rfl, rfl⟩]
    rfl
  have x12 : gI s2 80 12 = 0 := by
    rw [← hs2, gI_sI, if_neg (fun q => absurd q.2 (by decide)), gI_sI, if_neg (fun q => absurd q.2 (by decide)), gI_sI, if_pos ⟨rfl, rfl⟩]
  have x7 : gI s2 80 7 = Int32.ofNat 0 := by
    rw [← hs2, gI_sI, if_pos ⟨rfl, rfl⟩]
    rfl
  have r7 : gI s2 r 7 = Int32.ofNat 0 := by
    rw [← hs2, cl]
    rw [gI_sI, if_neg (fun q => by omega), gI_sI, if_neg (fun q => by omega), gI_sI, if_neg (fun q => by omega), gI_sI, if_neg (fun q => by omega), gI_sI, if_neg (fun q => by omega), gI_sI, if_pos ⟨rfl, rfl⟩]
    rfl
  have r8 : gI s2 r 8 = Int32.ofNat 0 := by
    rw [← hs2, cl]
    rw [gI_sI, if_neg (fun q => by omega), gI_sI, if_neg (fun q => by omega), gI_sI, if_neg (fun q => by omega), gI_sI, if_neg (fun q => by omega), gI_sI, if_pos ⟨rfl, rfl⟩]
    rfl
  have P5 : gP s2 4 = r := by rw [F2.2.2, gP_sP, if_neg (by decide), h4]
  have PT : gP s2 5 = 48 := by rw [F2.2.2, gP_sP, if_pos rfl]
  have PA : ∀ j, mq_A (gP s2 j) := fun j => by
    rw [F2.2.2, gP_sP]
    split
    · exact Or.inr (Or.inl rfl)
    · exact hP j
  have K0 : kR r s2 0 0 0 [] [] (0, 0, 0, []) := ⟨P5, x7, x12, by omega, by omega, ⟨trivial, r7⟩, ⟨r8, fun i y hy => by simp at hy⟩, Nat.le_refl 0, Nat.zero_le 24, Or.inl rfl⟩
  obtain ⟨a1, a2, a3⟩ := G_adv x1 PT hL (Nat.zero_le L) x2
  rw [x37] at a3
  generalize hz : f_Parser_advance s2 = z at a2 a3
  have zF : kF2 r s2 z := ⟨fun c j _ q _ => (a2.1 c (by simp) (by simp) j (by simp [q])).1, fun c j q => (a2.1 c (by simp) (by simp) j (by simp [q])).2, a2.2⟩
  have S := S_act hE (N := mm_N) (by rw [mm_Ns]; omega) mm_N 0 0 v0 0 [] [] 0 0 0 [] (by rw [mm_Ns]; omega) rfl (by omega)
  have z37 : gI z 37 = gI s 37 := by
    rw [← x37]
    exact funext fun j => zF.1 37 j (by omega) (by decide) (by decide)
  have z1 : gI z 80 1 = Int32.ofNat L := by rw [(fpF a2 (by decide)).1, x1]
  have zT : gP z 5 = 48 := by
    rw [zF.2.2]
    exact PT
  have zP : ∀ j, mq_A (gP z j) := fun j => by
    rw [zF.2.2]
    exact PA j
  have K1 := kR_adv (tk := tz (gI s 37) L) hr a2 K0
  -- the loop, whatever its end
  have LP : ∀ y : (Nat × Nat) ⊕ ksT, (∀ g, y = .inr g → g.2.1 = 0 ∧ tK (tz (gI s 37) L) g.1 = 0) → ks_to (tz (gI s 37) L) (0, 0, 0, [], [], (0, 0, 0, [])) y → okl_Parser_reads_37_51 mm_N 0 z ∧ kF2 r z (lp_Parser_reads_37_51 mm_N 0 z).2 ∧ kEnd r (lp_Parser_reads_37_51 mm_N 0 z).2 y := fun y hy ⟨k, hk⟩ => G_loop hL hr hy k 0 0 0 [] [] (0, 0, 0, []) z mm_N 0 hk K1 a3 z37 z1 zT zP (Nat.le_refl 0) (Nat.zero_le L) (by rw [mm_Ns]; omega)
  have FF := kF2_t (kF_2 F2) zF
  have eqf : f_Parser_reads_37 (Int32.ofNat L) s = (if gI (if gI (lp_Parser_reads_37_51 mm_N 0 z).2 80 7 = 0 then (lp_Parser_reads_37_51 mm_N 0 z).2 else f_Parser_fail 1 (lp_Parser_reads_37_51 mm_N 0 z).2) 80 12 = 0 then (1, if gI (lp_Parser_reads_37_51 mm_N 0 z).2 80 7 = 0 then (lp_Parser_reads_37_51 mm_N 0 z).2 else f_Parser_fail 1 (lp_Parser_reads_37_51 mm_N 0 z).2) else (0, if gI (lp_Parser_reads_37_51 mm_N 0 z).2 80 7 = 0 then (lp_Parser_reads_37_51 mm_N 0 z).2 else f_Parser_fail 1 (lp_Parser_reads_37_51 mm_N 0 z).2)) := by
    unfold f_Parser_reads_37
    simp only [mq_let_e, mn, h4, hs2, hz]
  have eqo : okl_Parser_reads_37_51 mm_N 0 z → ok_Parser_reads_37 (Int32.ofNat L) s := fun q => by
    unfold ok_Parser_reads_37
    simp only [mq_letP_e, mn, h4, hs2, hz, a1, q, true_and, and_true]
    exact hr
  cases hres : rp_act (tz (gI s 37) L) mm_N mm_N 0 0 v0 with
  | inl e =>
    rw [hres] at S
    obtain ⟨l1, l2, l3⟩ := LP (.inl e) (fun g q => by cases q) S
    generalize (lp_Parser_reads_37_51 mm_N 0 z).2 = w at l2 l3 eqf
    have bad : ∃ w', (if gI w 80 7 = 0 then w else f_Parser_fail 1 w) = w' ∧ kF2 r w w' ∧ gI w' 80 12 = Int32.ofNat e.1 ∧ gI w' 80 13 = Int32.ofNat e.2 ∧ ¬ gI w' 80 12 = 0 := by
      rcases l3 with ⟨b1, b2, b3, b4⟩ | ⟨b1, b2, b3, b4⟩
      · have nz : ¬ gI w 80 12 = 0 := by
          rw [b1]
          intro q
          have := (ofNat_inj (b := 0) (by omega) (by omega)).mp q
          omega
        refine ⟨w, ?_, kF_2 (kF_r r w), b1, b4, nz⟩
        split
        · rfl
        · unfold f_Parser_fail
          rw [if_neg nz]
      · refine ⟨sI (sI w 80 12 1) 80 13 (gI w 80 5), ?_, kF_2 (kF_I (kF_I (kF_r r w) (Or.inl rfl)) (Or.inl rfl)), ?_, ?_, ?_⟩
        · rw [if_neg b2]
          unfold f_Parser_fail
          rw [if_pos b1]
        · rw [gI_sI, if_neg (fun q => absurd q.2 (by decide)), gI_sI, if_pos ⟨rfl, rfl⟩, b3]
          rfl
        · rw [gI_sI, if_pos ⟨rfl, rfl⟩, b4]
        · rw [gI_sI, if_neg (fun q => absurd q.2 (by decide)), gI_sI, if_pos ⟨rfl, rfl⟩]
          decide
    obtain ⟨w', c1, c2, c3, c4, c5⟩ := bad
    rw [c1, if_neg c5] at eqf
    rw [eqf]
    exact ⟨eqo l1, kF2_t (kF2_t FF l2) c2, rfl, c3, c4⟩
  | inr Ls =>
    rw [hres] at S
    obtain ⟨q, σ, a, b, c, W, t, k0, len⟩ := S
    obtain ⟨l1, l2, l3⟩ := LP _ (fun g hg => by
      have e := Sum.inr.inj hg
      rw [← e]
      exact ⟨rfl, k0⟩) t
    generalize (lp_Parser_reads_37_51 mm_N 0 z).2 = w at l2 l3 eqf
    obtain ⟨⟨m1, m2, m3, m4, m5, m6, m7, m8, m9, m10⟩, m11⟩ := l3
    have w7 : gI w 80 7 = 0 := m2
    have w12 : gI w 80 12 = 0 := m3
    rw [if_pos w7, if_pos w12] at eqf
    rw [eqf]
    have m6 : kO w r ([] ++ ks_flat Ls) := m6
    have m8 : ([] ++ ks_flat Ls).length ≤ q := m8
    have m7 : kT w r ([] ++ ks_tab 0 Ls) := m7
    have m11 : q ≤ 600 := m11
    rw [List.nil_append] at m6 m7 m8
    exact ⟨eqo l1, kF2_t FF l2, rfl, m6, by omega, m7, by
      have len : 0 + Ls.length ≤ 24 := len
      omega⟩
