/-! ACT: the class enacts. -/
theorem row_ne {r q m : Nat} (hr : mq_A r) (hq : mq_A q) (h : q ≠ r) (hm : m ≤ 7) : (q + m < r ∨ r + 8 ≤ q + m) ∧ q + m ≠ 80 ∧ q + m ≠ 81 ∧ q + m ≠ 36 := by
  have a := mq_mod hr
  have b := mq_mod hq
  omega
def actF (s w : mS) : Prop := (∀ c j, (c < 40 ∨ 82 ≤ c) → (c ≠ 36 ∨ (j ≠ 5 ∧ j ≠ 6 ∧ j ≠ 7)) → gI w c j = gI s c j) ∧ ∀ c j, c ≠ 80 → gL w c j = gL s c j
theorem G_act_E {s : mS} {A : aC} {L : Nat} (hA : aG s A) (hL : L ≤ 600) (h5 : gI s 36 5 = Int32.ofNat L) (a1 a2 v0 : Int32) : (¬ (0 ≤ a1 ∧ a1 ≤ 3) ∨ ¬ (0 ≤ a2 ∧ a2 ≤ 41) → ok_G_act a1 a2 s ∧ f_G_act a1 a2 s = (-1, sI (sI (sI s 36 5 0) 36 6 0) 36 7 (-1))) ∧ ((0 ≤ a1 ∧ a1 ≤ 3) → (0 ≤ a2 ∧ a2 ≤ 41) → ok_G_act a1 a2 s ∧ actF s (f_G_act a1 a2 s).2 ∧ gI (f_G_act a1 a2 s).2 36 5 = 0 ∧ (match rp_act (tz (gI s 37) L) mm_N mm_N 0 0 v0 with
    | .inl e => (f_G_act a1 a2 s).1 = -1 ∧ aG (f_G_act a1 a2 s).2 A ∧ gI (f_G_act a1 a2 s).2 36 6 = Int32.ofNat e.1 ∧ gI (f_G_act a1 a2 s).2 36 7 = Int32.ofNat e.2
    | .inr Ls => (f_G_act a1 a2 s).1 = Int32.ofNat Ls.length ∧ Ls.length ≤ 24 ∧ aG (f_G_act a1 a2 s).2 (up A (ix a1) (some (a2, Ls.map cl_of))) ∧ gI (f_G_act a1 a2 s).2 36 6 = 0 ∧ gI (f_G_act a1 a2 s).2 36 7 = -1)) := by
  obtain ⟨hA1, hA2, hA3, hA4⟩ := hA
  have c4 : (4 ≤ a1) = ¬ (a1 ≤ 3) := by
    apply propext
    constructor
    · intro q r
      exact absurd (Int32.le_trans q r) (by decide)
    · intro q
      have q := Int32.not_le.mp q
      rw [lt_toInt] at q
      rw [le_toInt]
      have : (3 : Int32).toInt = 3 := by decide
      have : (4 : Int32).toInt = 4 := by decide
      omega
  constructor
  · intro h
    by_cases n0 : a1 < 0
    · constructor
      · unfold ok_G_act ok_Laws_enact
        simp only [mq_letP_e, if_pos n0, and_self]
      · unfold f_G_act f_Laws_enact
        simp only [mq_let_e, if_pos n0]
    · by_cases n4 : 4 ≤ a1
      · constructor
        · unfold ok_G_act ok_Laws_enact
          simp only [mq_letP_e, if_neg n0, if_pos n4, and_self]
        · unfold f_G_act f_Laws_enact
          simp only [mq_let_e, if_neg n0, if_pos n4]
      · have r1 : 0 ≤ a1 ∧ a1 ≤ 3 := ⟨Int32.not_lt.mp n0, Classical.byContradiction (fun q => n4 (by rw [c4]; exact q))⟩
        have h := h.resolve_left (fun q => q r1)
        constructor
        · unfold ok_G_act ok_Laws_enact
          simp only [mq_letP_e, if_neg n0, if_neg n4, z_within, if_pos h, and_self]
        · unfold f_G_act f_Laws_enact
          simp only [mq_let_e, if_neg n0, if_neg n4, z_within, if_pos h]
  · intro r1 r2
    have n0 : ¬ a1 < 0 := Int32.not_lt.mpr r1.1
    have n4 : ¬ 4 ≤ a1 := by
      rw [c4]
      exact fun q => q r1.2
    have n2 : ¬ ¬ (0 ≤ a2 ∧ a2 ≤ 41) := fun q => q r2
    have i4 : ix a1 < 4 := ix_lt (by decide) r1.1 (Int32.lt_of_le_of_lt r1.2 (by decide))
    have b4 : mm_inb a1 4 = true := inb_ix r1.1 i4
    obtain ⟨n, hn⟩ : ∃ n, ix a1 = n := ⟨_, rfl⟩
    rw [hn] at i4
    obtain ⟨s1, hs1⟩ : ∃ s1, sI (sI (sI s 36 5 0) 36 6 0) 36 7 (-1) = s1 := ⟨_, rfl⟩
    have g1 : ∀ c j, (c ≠ 36 ∨ (j ≠ 5 ∧ j ≠ 6 ∧ j ≠ 7)) → gI s1 c j = gI s c j := fun c j q => by
      rw [← hs1, gI_sI, if_neg (fun z => by omega), gI_sI, if_neg (fun z => by omega), gI_sI, if_neg (fun z => by omega)]
    have l1 : ∀ c j, gL s1 c j = gL s c j := fun c j => by
      rw [← hs1]
      rfl
    have p1 : gP s1 = gP s := by
      rw [← hs1]
      rfl
    have x5 : gI s1 36 5 = 0 := by
      rw [← hs1, gI_sI, if_neg (fun q => absurd q.2 (by decide)), gI_sI, if_neg (fun q => absurd q.2 (by decide)), gI_sI, if_pos ⟨rfl, rfl⟩]
    have x6 : gI s1 36 6 = 0 := by
      rw [← hs1, gI_sI, if_neg (fun q => absurd q.2 (by decide)), gI_sI, if_pos ⟨rfl, rfl⟩]
    have x7 : gI s1 36 7 = -1 := by
      rw [← hs1, gI_sI, if_pos ⟨rfl, rfl⟩]
    have s37 : gI s1 37 = gI s 37 := funext fun j => g1 37 j (Or.inl (by decide))
    obtain ⟨r, hr⟩ : ∃ r, gP s 4 = r := ⟨_, rfl⟩
    have rA : mq_A r := by
      rw [← hr]
      exact hA1 4
    have rm := mq_mod rA
    obtain ⟨k1, k2, k3⟩ := G_into (s := s1) rA hL (fun j => by rw [p1]; exact hA1 j) (by rw [p1, hr]) v0
    rw [s37] at k3
    -- rows of the other acts
    have rows : ∀ k, k < 4 → gP s k ≠ r := fun k hk e => by
      have := hA2 k 4 (by omega) (by omega) (by rw [e, hr])
      omega
    have keep : ∀ k, k < 4 → ∀ m j, m ≤ 7 → gI (f_Parser_reads_37 (Int32.ofNat L) s1).2 (gP s k + m) j = gI s (gP s k + m) j := fun k hk m j hm => by
      have q := row_ne rA (hA1 k) (rows k hk) hm
      rw [k2.1 _ j q.1 q.2.1 q.2.2.1]
      exact g1 _ j (Or.inl q.2.2.2)
    have out : ∀ c j, (c < 40 ∨ 82 ≤ c) → gI (f_Parser_reads_37 (Int32.ofNat L) s1).2 c j = gI s1 c j := fun c j q => k2.1 c j (by omega) (by omega) (by omega)
    have outL : ∀ c j, c ≠ 80 → gL (f_Parser_reads_37 (Int32.ofNat L) s1).2 c j = gL s c j := fun c j q => (k2.2.1 c j q).trans (l1 c j)
    have pw : ∀ j, j < 5 → gP (f_Parser_reads_37 (Int32.ofNat L) s1).2 j = gP s j := fun j hj => by
      rw [k2.2.2, gP_sP, if_neg (by omega), p1]
    have pA : ∀ j, mq_A (gP (f_Parser_reads_37 (Int32.ofNat L) s1).2 j) := fun j => by
      rw [k2.2.2, gP_sP]
      split
      · exact Or.inr (Or.inl rfl)
      · rw [p1]
        exact hA1 j
    have eqf : f_G_act a1 a2 s = (if (f_Parser_reads_37 (Int32.ofNat L) s1).1 = 0 then (-1, sI (sI (f_Parser_reads_37 (Int32.ofNat L) s1).2 36 6 (gI (f_Parser_reads_37 (Int32.ofNat L) s1).2 80 12)) 36 7 (gI (f_Parser_reads_37 (Int32.ofNat L) s1).2 80 13)) else (gI (sI (sI (sP (sP (f_Parser_reads_37 (Int32.ofNat L) s1).2 n r) 4 (gP s n)) r 10 1) r 9 a2) r 8, sI (sI (sP (sP (f_Parser_reads_37 (Int32.ofNat L) s1).2 n r) 4 (gP s n)) r 10 1) r 9 a2)) := by
      unfold f_G_act f_Laws_enact
      simp only [mq_let_e, f_Parser_swap, if_neg n0, if_neg n4, z_within, if_neg n2, hs1, hr, h5, hn, pw n (by omega), pw 4 (by omega), gP_sP, if_true, sP_comm _ (show 4 ≠ n by omega)]
    have eqo : ok_G_act a1 a2 s := by
      unfold ok_G_act ok_Laws_enact
      simp only [mq_letP_e, mq_let_e, f_Parser_swap, ok_Parser_swap, if_neg n0, if_neg n4, z_within, if_neg n2, hs1, hr, h5, hn, pw n (by omega), pw 4 (by omega), gP_sP, if_true, rA, hA1, k1, b4, true_and, and_true, ite_self, bit1]
    refine ⟨eqo, ?_⟩
    rw [eqf]
    cases hres : rp_act (tz (gI s 37) L) mm_N mm_N 0 0 v0 with
    | inl e =>
      rw [hres] at k3
      obtain ⟨e1, e2, e3⟩ := k3
      rw [if_pos e1]
      generalize (f_Parser_reads_37 (Int32.ofNat L) s1).2 = w at keep out outL pw pA e2 e3
      have gt : ∀ c j, (c ≠ 36 ∨ (j ≠ 6 ∧ j ≠ 7)) → gI (sI (sI w 36 6 (gI w 80 12)) 36 7 (gI w 80 13)) c j = gI w c j := fun c j q => by
        rw [gI_sI, if_neg (fun z => by omega), gI_sI, if_neg (fun z => by omega)]
      refine ⟨⟨fun c j a b => ?_, fun c j q => outL c j q⟩, ?_, rfl, ⟨pA, fun i j hi hj e => ?_, fun k hk hn' => ?_, fun k hk d Ls hL' => ?_⟩, ?_, ?_⟩
      · rw [gt c j (by omega), out c j a]
        exact g1 c j b
      · rw [gt 36 5 (by decide), out 36 5 (by decide), x5]
      · have e : gP w i = gP w j := e
        rw [pw i hi, pw j hj] at e
        exact hA2 i j hi hj e
      · show gI _ (gP w k) 10 = 0
        rw [pw k (by omega)]
        have b := mq_mod (hA1 k)
        rw [gt _ _ (Or.inl (by omega))]
        have q := keep k hk 0 10 (by omega)
        rw [Nat.add_zero] at q
        rw [q]
        exact hA3 k hk hn'
      · have b := mq_mod (hA1 k)
        have z := hA4 k hk d Ls hL'
        have tr : ∀ m, m ≤ 7 → gI (sI (sI w 36 6 (gI w 80 12)) 36 7 (gI w 80 13)) (gP s k + m) = gI s (gP s k + m) := fun m hm => funext fun j => by
          rw [gt _ _ (Or.inl (by omega)), keep k hk m j hm]
        have t0 := tr 0 (by omega)
        rw [Nat.add_zero] at t0
        show gI _ (gP w k) 10 = 1 ∧ gI _ (gP w k) 9 = d ∧ gI _ (gP w k) 8 = Int32.ofNat Ls.length ∧ cl_Gs _ (gP w k) 0 Ls
        rw [pw k (by omega), t0]
        exact ⟨z.1, z.2.1, z.2.2.1, cl_Gs_c (fun m _ hm => tr m (by omega)) z.2.2.2⟩
      · rw [gI_sI, if_neg (fun q => absurd q.2 (by decide)), gI_sI, if_pos ⟨rfl, rfl⟩, e2]
      · rw [gI_sI, if_pos ⟨rfl, rfl⟩, e3]
    | inr Ls =>
      rw [hres] at k3
      obtain ⟨e1, e2, e3, e4, e5⟩ := k3
      rw [if_neg (by rw [e1]; decide)]
      generalize (f_Parser_reads_37 (Int32.ofNat L) s1).2 = w at keep out outL pw pA e2 e4
      have gt : ∀ c j, (c ≠ r ∨ (j ≠ 9 ∧ j ≠ 10)) → gI (sI (sI (sP (sP w n r) 4 (gP s n)) r 10 1) r 9 a2) c j = gI w c j := fun c j q => by
        rw [gI_sI, if_neg (fun z => by omega), gI_sI, if_neg (fun z => by omega)]
        rfl
      have gp : ∀ j, gP (sI (sI (sP (sP w n r) 4 (gP s n)) r 10 1) r 9 a2) j = if j = 4 then gP s n else if j = n then r else gP w j := fun j => rfl
      have gpk : ∀ k, k < 4 → gP (sI (sI (sP (sP w n r) 4 (gP s n)) r 10 1) r 9 a2) k = if k = n then r else gP s k := fun k hk => by
        rw [gp, if_neg (by omega), pw k (by omega)]
      have t8 : gI w r 8 = Int32.ofNat Ls.length := by
        rw [e4.1, ks_tab_len]
      refine ⟨⟨fun c j a b => ?_, fun c j q => outL c j q⟩, ?_, ?_, e5, ⟨fun j => ?_, fun i j hi hj e => ?_, fun k hk hn' => ?_, fun k hk d Ls' hL' => ?_⟩, ?_, ?_⟩
      · rw [gt c j (Or.inl (by omega)), out c j a]
        exact g1 c j b
      · rw [gt 36 5 (Or.inl (by omega)), out 36 5 (by decide), x5]
      · exact (gt r 8 (Or.inr (by decide))).trans t8
      · show mq_A (gP (sI (sI (sP (sP w n r) 4 (gP s n)) r 10 1) r 9 a2) j)
        rw [gp]
        split
        · exact hA1 n
        · split
          · exact rA
          · exact pA j
      · -- the rows stand apart
        have sw : ∀ i, i < 5 → gP (sI (sI (sP (sP w n r) 4 (gP s n)) r 10 1) r 9 a2) i = gP s (if i = 4 then n else if i = n then 4 else i) := fun i hi => by
          rw [gp]
          by_cases q4 : i = 4
          · rw [if_pos q4, if_pos q4]
          · rw [if_neg q4, if_neg q4]
            by_cases qn : i = n
            · rw [if_pos qn, if_pos qn, hr]
            · rw [if_neg qn, if_neg qn, pw i hi]
        have lt5 : ∀ i, i < 5 → (if i = 4 then n else if i = n then 4 else i) < 5 := fun i hi => by
          by_cases q4 : i = 4
          · rw [if_pos q4]
            omega
          · rw [if_neg q4]
            by_cases qn : i = n
            · rw [if_pos qn]
              omega
            · rw [if_neg qn]
              exact hi
        have e := (sw i hi).symm.trans ((show gP _ i = gP _ j from e).trans (sw j hj))
        have q := hA2 _ _ (lt5 i hi) (lt5 j hj) e
        by_cases a4 : i = 4
        · rw [if_pos a4] at q
          by_cases b4 : j = 4
          · omega
          · rw [if_neg b4] at q
            by_cases bn : j = n
            · rw [if_pos bn] at q
              omega
            · rw [if_neg bn] at q
              omega
        · rw [if_neg a4] at q
          by_cases an : i = n
          · rw [if_pos an] at q
            by_cases b4 : j = 4
            · rw [if_pos b4] at q
              omega
            · rw [if_neg b4] at q
              by_cases bn : j = n
              · omega
              · rw [if_neg bn] at q
                omega
          · rw [if_neg an] at q
            by_cases b4 : j = 4
            · rw [if_pos b4] at q
              omega
            · rw [if_neg b4] at q
              by_cases bn : j = n
              · rw [if_pos bn] at q
                omega
              · rw [if_neg bn] at q
                exact q
      · have kn : k ≠ n := fun q => by
          rw [q, hn, up_self] at hn'
          cases hn'
        rw [hn, up_ne kn] at hn'
        rw [gpk k hk, if_neg kn, gt _ _ (Or.inl (rows k hk))]
        have q := keep k hk 0 10 (by omega)
        rw [Nat.add_zero] at q
        rw [q]
        exact hA3 k hk hn'
      · rw [hn] at hL'
        by_cases kn : k = n
        · rw [kn, up_self] at hL'
          have hL' := Option.some.inj hL'
          have d1 : a2 = d := congrArg Prod.fst hL'
          have d2 : Ls.map cl_of = Ls' := congrArg Prod.snd hL'
          rw [← d1, ← d2, kn, gpk n (by omega), if_pos rfl]
          have tr : ∀ m, 1 ≤ m → m ≤ 7 → gI (sI (sI (sP (sP w n r) 4 (gP s n)) r 10 1) r 9 a2) (r + m) = gI w (r + m) := fun m h1 hm => funext fun j => gt _ _ (Or.inl (by omega))
          refine ⟨?_, ?_, ?_, ?_⟩
          · rw [gI_sI, if_neg (fun q => absurd q.2 (by decide)), gI_sI, if_pos ⟨rfl, rfl⟩]
          · rw [gI_sI, if_pos ⟨rfl, rfl⟩]
          · rw [gt r 8 (Or.inr (by decide)), t8, List.length_map]
          · have B := cl_Gs_of (s := w) (r := r) Ls 0 [] e2.1 e3 (fun j y hy => by
              rw [Nat.zero_add]
              exact e4.2 j y hy)
            refine (cl_Gs_c (s := w) (r := r) (t := sI (sI (sP (sP w n r) 4 (gP s n)) r 10 1) r 9 a2) ?_ B)
            exact fun m h1 hm => tr m h1 (by omega)
        · rw [up_ne kn] at hL'
          have z := hA4 k hk d Ls' hL'
          have tr : ∀ m, m ≤ 7 → gI (sI (sI (sP (sP w n r) 4 (gP s n)) r 10 1) r 9 a2) (gP s k + m) = gI s (gP s k + m) := fun m hm => funext fun j => by
            have q := row_ne rA (hA1 k) (rows k hk) hm
            rw [gt _ _ (Or.inl (by omega)), keep k hk m j hm]
          have t0 := tr 0 (by omega)
          rw [Nat.add_zero] at t0
          rw [gpk k hk, if_neg kn, t0]
          exact ⟨z.1, z.2.1, z.2.2.1, cl_Gs_c (fun m _ hm => tr m (by omega)) z.2.2.2⟩
      · rw [gt 36 6 (Or.inl (by omega)), out 36 6 (by decide), x6]
      · rw [gt 36 7 (Or.inl (by omega)), out 36 7 (by decide), x7]
