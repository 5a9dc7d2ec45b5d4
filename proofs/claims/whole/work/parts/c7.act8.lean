/-! ACT: the class's cells as it reads. -/
def kF (r : Nat) (s t : mS) : Prop := (∀ c j, (c < r ∨ r + 8 ≤ c) → c ≠ 80 → c ≠ 81 → gI t c j = gI s c j) ∧ (∀ c j, gL t c j = gL s c j) ∧ gP t = gP s
theorem kF_r (r : Nat) (s : mS) : kF r s s := ⟨fun _ _ _ _ _ => rfl, fun _ _ => rfl, rfl⟩
theorem kF_t {r : Nat} {s t u : mS} (h : kF r s t) (k : kF r t u) : kF r s u := ⟨fun c j h1 h2 h3 => (k.1 c j h1 h2 h3).trans (h.1 c j h1 h2 h3), fun c j => (k.2.1 c j).trans (h.2.1 c j), k.2.2.trans h.2.2⟩
theorem kF_I {r : Nat} {s t : mS} (h : kF r s t) {c j : Nat} {x : Int32} (hc : c = 80 ∨ c = 81 ∨ (r ≤ c ∧ c < r + 8)) : kF r s (sI t c j x) := ⟨fun c' j' h1 h2 h3 => by
  rw [gI_sI, if_neg (fun q => by omega)]
  exact h.1 c' j' h1 h2 h3, fun c' j' => h.2.1 c' j', h.2.2⟩
def ks_stk (f : Nat → Int32) : List Nat → Prop
  | [] => True
  | k :: W => f W.length = Int32.ofNat k ∧ ks_stk f W
theorem ks_stk_up {f : Nat → Int32} {i : Nat} {x : Int32} : ∀ {W : List Nat}, W.length ≤ i → ks_stk f W → ks_stk (up f i x) W
  | [], _, _ => trivial
  | k :: W, h, hs => ⟨by
    have h : W.length + 1 ≤ i := h
    rw [up_ne (by omega)]
    exact hs.1, ks_stk_up (by
    have h : W.length + 1 ≤ i := h
    omega) hs.2⟩
def kW (s : mS) (W : List Nat) : Prop := gI s 80 10 = Int32.ofNat W.length ∧ ks_stk (gI s 81) W ∧ gI s 80 11 = Int32.ofNat (ks_open W)
def ks_ok : List Nat → Prop
  | [] => True
  | k :: W => ks_ok W ∧ (1 ≤ k ∧ k ≤ 25) ∧ (k = 15 ∨ k = 21 ∨ ks_lo (ks_rank k) W)
theorem ks_rank_r (k : Nat) : ks_rank k ≤ 6 ∧ (k ≠ 21 → 1 ≤ ks_rank k) := by
  unfold ks_rank
  repeat' split
  all_goals omega
theorem ks_ok_len : ∀ {W : List Nat}, ks_ok W → W.length ≤ 7 * ks_open W + (match W with | [] => 0 | k :: _ => if k = 15 ∨ k = 21 then 0 else ks_rank k)
  | [], _ => Nat.zero_le _
  | [k], h => by
    obtain ⟨_, _, h3⟩ := h
    show 1 ≤ 7 * ((if k = 15 ∨ k = 21 then 1 else 0) + 0) + (if k = 15 ∨ k = 21 then 0 else ks_rank k)
    have r := ks_rank_r k
    by_cases c : k = 15 ∨ k = 21
    · rw [if_pos c, if_pos c]
      omega
    · rw [if_neg c, if_neg c]
      have := r.2 (by omega)
      omega
  | k :: k' :: W, h => by
    obtain ⟨h1, _, h3⟩ := h
    have i := ks_ok_len h1
    have i : W.length + 1 ≤ 7 * ks_open (k' :: W) + (if k' = 15 ∨ k' = 21 then 0 else ks_rank k') := i
    show W.length + 1 + 1 ≤ 7 * ((if k = 15 ∨ k = 21 then 1 else 0) + ks_open (k' :: W)) + (if k = 15 ∨ k = 21 then 0 else ks_rank k)
    have r := ks_rank_r k
    have r' := ks_rank_r k'
    by_cases c : k = 15 ∨ k = 21
    · rw [if_pos c, if_pos c]
      split at i <;> omega
    · rw [if_neg c, if_neg c]
      have l : ks_rank k' < ks_rank k := by
        rcases h3 with q | q | q
        · exact absurd (Or.inl q) c
        · exact absurd (Or.inr q) c
        · exact q
      split at i <;> omega
theorem ks_ok_62 {W : List Nat} (h : ks_ok W) (ho : ks_open W ≤ 8) : W.length ≤ 62 := by
  have i := ks_ok_len h
  cases W with
  | nil => exact Nat.zero_le _
  | cons k W =>
    have r := ks_rank_r k
    have i : (k :: W).length ≤ 7 * ks_open (k :: W) + (if k = 15 ∨ k = 21 then 0 else ks_rank k) := i
    split at i <;> omega
theorem ks_un_s (R k : Nat) (W : List Nat) : ks_un R (k :: W) = if R ≤ ks_rank k then ((Int32.ofNat k, 0) :: (ks_un R W).1, (ks_un R W).2) else ([], k :: W) := rfl
theorem ks_un_f {R : Nat} : ∀ {W : List Nat}, ks_ok W → ks_ok (ks_un R W).2 ∧ ks_lo R (ks_un R W).2 ∧ ks_open (ks_un R W).2 ≤ ks_open W ∧ (ks_un R W).1.length + (ks_un R W).2.length = W.length
  | [], _ => ⟨trivial, trivial, Nat.le_refl 0, rfl⟩
  | k :: W, h => by
    have i := ks_un_f (R := R) h.1
    rw [ks_un_s]
    by_cases c : R ≤ ks_rank k
    · rw [if_pos c]
      refine ⟨i.1, i.2.1, ?_, ?_⟩
      · show ks_open (ks_un R W).2 ≤ (if k = 15 ∨ k = 21 then 1 else 0) + ks_open W
        have := i.2.2.1
        omega
      · show (ks_un R W).1.length + 1 + (ks_un R W).2.length = W.length + 1
        have := i.2.2.2
        omega
    · rw [if_neg c]
      exact ⟨h, Nat.not_le.mp c, Nat.le_refl _, Nat.zero_add _⟩
def kO (s : mS) (r : Nat) (o : List cI) : Prop := c_seg (gI s (r + 5)) (gI s (r + 6)) 0 o ∧ gI s r 7 = Int32.ofNat o.length
theorem c_seg_up {a b : Nat → Int32} {n : Nat} {x y : Int32} : ∀ {c : List cI} {p : Nat}, p + c.length ≤ n → c_seg a b p c → c_seg (up a n x) (up b n y) p c
  | [], _, _, _ => trivial
  | i :: c, p, h, hs => by
    have h : p + (c.length + 1) ≤ n := h
    exact ⟨by rw [up_ne (by omega)]; exact hs.1, by rw [up_ne (by omega)]; exact hs.2.1, c_seg_up (by omega) hs.2.2⟩
/-- one sign of code more -/
def em (s : mS) (r n : Nat) (k v : Int32) : mS := sI (sI (sI s (r + 5) n k) (r + 6) n v) r 7 (Int32.ofNat (n + 1))
theorem em_g {s : mS} {r n c j : Nat} {k v : Int32} (h5 : c ≠ r + 5) (h6 : c ≠ r + 6) (h7 : c ≠ r ∨ j ≠ 7) : gI (em s r n k v) c j = gI s c j := by
  unfold em
  rw [gI_sI, if_neg (fun q => by omega), gI_sI, if_neg (fun q => h6 q.1), gI_sI, if_neg (fun q => h5 q.1)]
theorem G_emit {s : mS} {r : Nat} {o : List cI} {k v : Int32} (hO : kO s r o) (h : o.length < 600) : f_Act_emit r k v s = em s r o.length k v ∧ ok_Act_emit r k v s ∧ kO (em s r o.length k v) r (o ++ [(k, v)]) := by
  obtain ⟨o1, o2⟩ := hO
  have e0 : ¬ (600 : Int32) ≤ Int32.ofNat o.length := fl_lit (a := 600) rfl (by omega) (by omega) h
  have e2 : ix (Int32.ofNat o.length) = o.length := ix_ofNat (by omega)
  have e3 : Int32.ofNat o.length + 1 = Int32.ofNat (o.length + 1) := ofNat_succ _
  have b1 : mm_inb (Int32.ofNat o.length) 600 = true := inb_ofNat (by decide) h
  have n5 : ¬ (r = r + 5) := by omega
  have n6 : ¬ (r = r + 6) := by omega
  refine ⟨?_, ?_, ?_, ?_⟩
  · simp only [f_Act_emit, o2, e0, if_false, gI_sI, n5, n6, false_and, e2, e3]
    rfl
  · simp only [ok_Act_emit, o2, e0, if_false, gI_sI, n5, n6, false_and, b1, and_self]
  · have a5 : gI (em s r o.length k v) (r + 5) = up (gI s (r + 5)) o.length k := by
      unfold em
      rw [fI_sI, if_neg (by omega), fI_sI, if_neg (by omega), fI_sI, if_pos rfl]
    have a6 : gI (em s r o.length k v) (r + 6) = up (gI s (r + 6)) o.length v := by
      unfold em
      rw [fI_sI, if_neg (by omega), fI_sI, if_pos rfl, fI_sI, if_neg (by omega)]
    rw [a5, a6, c_seg_app]
    refine ⟨c_seg_up (by omega) o1, ?_, ?_, trivial⟩
    · rw [Nat.zero_add, up_self]
    · rw [Nat.zero_add, up_self]
  · unfold em
    rw [gI_sI, if_pos ⟨rfl, rfl⟩, List.length_append]
    rfl
def kU (r : Nat) (s w : mS) : Prop := (∀ c j, c ≠ r + 5 → c ≠ r + 6 → (c ≠ r ∨ j ≠ 7) → (c ≠ 80 ∨ (j ≠ 10 ∧ j ≠ 11)) → gI w c j = gI s c j) ∧ (∀ c j, gL w c j = gL s c j) ∧ gP w = gP s
theorem kU_F {r : Nat} {s w : mS} (h : kU r s w) : kF r s w := ⟨fun c j h1 h2 _ => h.1 c j (by omega) (by omega) (by omega) (Or.inl h2), h.2.1, h.2.2⟩
theorem G_rank (s : mS) {k : Nat} (h1 : 1 ≤ k) (h2 : k ≤ 25) : f_Parser_rankOf (Int32.ofNat k) s = Int32.ofNat (ks_rank k) := by
  unfold f_Parser_rankOf
  rcases k25 h1 h2 with e | e | e | e | e | e | e | e | e | e | e | e | e | e | e | e | e | e | e | e | e | e | e | e | e <;> subst e <;> decide
theorem G_unw_lp {r R : Nat} (hr : mq_A r) (hR : 1 ≤ R) (hR2 : R ≤ 6) : ∀ W n (s : mS) o, W.length < n → W.length ≤ 62 → gP s 4 = r → kW s W → ks_ok W → kO s r o → o.length + W.length ≤ 600 → ∃ w, (lp_Parser_unwind_15 (Int32.ofNat R) n (Int32.ofNat W.length - 1) s).2 = w ∧ okl_Parser_unwind_15 (Int32.ofNat R) n (Int32.ofNat W.length - 1) s ∧ kU r s w ∧ kW w (ks_un R W).2 ∧ kO w r (o ++ (ks_un R W).1) := by
  have rm := mq_mod hr
  intro W
  induction W with
  | nil =>
    intro n s o h1 _ hP hW hk hO _
    obtain ⟨n', rfl⟩ : ∃ n', n = n' + 1 := ⟨n - 1, by omega⟩
    have e0 : Int32.ofNat ([] : List Nat).length - 1 < 0 := by decide
    refine ⟨s, ?_, ?_, ⟨fun _ _ _ _ _ _ => rfl, fun _ _ => rfl, rfl⟩, hW, ?_⟩
    · simp only [lp_Parser_unwind_15, e0, if_true]
    · simp only [okl_Parser_unwind_15, e0, if_true]
    · show kO s r (o ++ [])
      rw [List.append_nil]
      exact hO
  | cons k W ih =>
    intro n s o h1 h62 hP hW hk hO ho
    have h1 : W.length + 1 < n := h1
    have h62 : W.length + 1 ≤ 62 := h62
    have ho : o.length + (W.length + 1) ≤ 600 := ho
    obtain ⟨n', rfl⟩ : ∃ n', n = n' + 1 := ⟨n - 1, by omega⟩
    obtain ⟨w1, w2, w3⟩ := hW
    have ev : Int32.ofNat (k :: W).length - 1 = Int32.ofNat W.length := by
      show Int32.ofNat (W.length + 1) - 1 = _
      rw [← ofNat_succ]
      grind
    have e0 : ¬ Int32.ofNat W.length < 0 := Int32.not_lt.mpr ((ofNat_le (a := 0) (by omega) (by omega)).mpr (Nat.zero_le _))
    have e2 : ix (Int32.ofNat W.length) = W.length := ix_ofNat (by omega)
    have b1 : mm_inb (Int32.ofNat W.length) 64 = true := inb_ofNat (by decide) (by omega)
    have t81 : gI s 81 W.length = Int32.ofNat k := w2.1
    have rk := G_rank s hk.2.1.1 hk.2.1.2
    have rb := ks_rank_r k
    have lt : Int32.ofNat (ks_rank k) < Int32.ofNat R ↔ ks_rank k < R := ofNat_lt (by omega) (by omega)
    rw [ks_un_s]
    by_cases c : R ≤ ks_rank k
    · rw [if_pos c]
      have c' : ¬ Int32.ofNat (ks_rank k) < Int32.ofNat R := fun q => by
        have := lt.mp q
        omega
      obtain ⟨m1, m2, m3⟩ := G_emit (k := Int32.ofNat k) (v := 0) hO (by omega)
      -- the sign's own count
      have k21 : k ≠ 21 := fun e => by
        rw [e] at c
        have : ks_rank 21 = 0 := rfl
        omega
      obtain ⟨s2, hs2⟩ : ∃ s2, (if gI (em s r o.length (Int32.ofNat k) 0) 81 W.length = 15 then sI (em s r o.length (Int32.ofNat k) 0) 80 11 (gI (em s r o.length (Int32.ofNat k) 0) 80 11 - 1) else em s r o.length (Int32.ofNat k) 0) = s2 := ⟨_, rfl⟩
      have g81 : gI (em s r o.length (Int32.ofNat k) 0) 81 = gI s 81 := funext fun j => em_g (by omega) (by omega) (Or.inl (by omega))
      have g11 : gI (em s r o.length (Int32.ofNat k) 0) 80 11 = gI s 80 11 := em_g (by omega) (by omega) (Or.inl (by omega))
      have u2 : kU r s s2 ∧ gI s2 80 11 = Int32.ofNat (ks_open W) ∧ kO s2 r (o ++ [(Int32.ofNat k, 0)]) := by
        rw [g81, t81, g11, w3] at hs2
        have k15 : (Int32.ofNat k = 15) = (k = 15) := propext (ofNat_inj (b := 15) (by
          have := hk.2.1.2
          omega) (by omega))
        by_cases q : k = 15
        · rw [if_pos (by rw [k15]; exact q)] at hs2
          have op : ks_open (k :: W) = ks_open W + 1 := by
            show (if k = 15 ∨ k = 21 then 1 else 0) + ks_open W = _
            rw [if_pos (Or.inl q), Nat.add_comm]
          rw [← hs2]
          refine ⟨⟨fun c j h5 h6 h7 h8 => ?_, fun _ _ => rfl, rfl⟩, ?_, ?_, ?_⟩
          · rw [gI_sI, if_neg (fun z => by omega)]
            exact em_g h5 h6 h7
          · rw [gI_sI, if_pos ⟨rfl, rfl⟩, op, ← ofNat_succ]
            grind
          · rw [fI_sI, if_neg (by omega), fI_sI, if_neg (by omega)]
            exact m3.1
          · rw [gI_sI, if_neg (fun z => by omega)]
            exact m3.2
        · rw [if_neg (by rw [k15]; exact q)] at hs2
          have op : ks_open (k :: W) = ks_open W := ks_open_op ⟨q, k21⟩ W
          rw [← hs2]
          refine ⟨⟨fun c j h5 h6 h7 h8 => em_g h5 h6 h7, fun _ _ => rfl, rfl⟩, ?_, m3⟩
          rw [g11, w3, op]
      obtain ⟨u2, u3, u4⟩ := u2
      have u5 : kU r s (sI s2 80 10 (Int32.ofNat W.length)) := ⟨fun c j h5 h6 h7 h8 => by
        rw [gI_sI, if_neg (fun z => by omega)]
        exact u2.1 c j h5 h6 h7 h8, u2.2.1, u2.2.2⟩
      obtain ⟨w, i1, i2, i3, i4, i5⟩ := ih n' (sI s2 80 10 (Int32.ofNat W.length)) (o ++ [(Int32.ofNat k, 0)]) (by omega) (by omega) (by
        show gP s2 4 = r
        rw [u2.2.2, hP]) ⟨by rw [gI_sI, if_pos ⟨rfl, rfl⟩], by
          rw [show gI (sI s2 80 10 (Int32.ofNat W.length)) 81 = gI s 81 from funext fun j => u5.1 81 j (by omega) (by omega) (Or.inl (by omega)) (Or.inl (by decide))]
          exact w2.2, by
          rw [gI_sI, if_neg (fun z => absurd z.2 (by decide))]
          exact u3⟩ hk.1 ⟨by
          rw [fI_sI, if_neg (by omega), fI_sI, if_neg (by omega)]
          exact u4.1, by
          rw [gI_sI, if_neg (fun z => by omega)]
          exact u4.2⟩ (by
          rw [List.length_append]
          show o.length + 1 + W.length ≤ 600
          omega)
      have em1 : Int32.ofNat W.length + (-1) = Int32.ofNat W.length - 1 := by grind
      refine ⟨w, ?_, ?_, ⟨fun c j h5 h6 h7 h8 => (i3.1 c j h5 h6 h7 h8).trans (u5.1 c j h5 h6 h7 h8), fun c j => (i3.2.1 c j).trans (u5.2.1 c j), i3.2.2.trans u5.2.2⟩, i4, ?_⟩
      · rw [ev]
        simp only [lp_Parser_unwind_15, mq_let_e, e0, if_false, e2, t81, rk, if_neg c', hP, m1, hs2, em1]
        exact i1
      · rw [ev]
        simp only [okl_Parser_unwind_15, mq_letP_e, e0, if_false, e2, t81, rk, if_neg c', hP, m1, m2, hs2, em1, b1, true_and]
        exact ⟨hr, i2⟩
      · rw [List.append_assoc] at i5
        exact i5
    · rw [if_neg c]
      have c' : Int32.ofNat (ks_rank k) < Int32.ofNat R := lt.mpr (by omega)
      refine ⟨s, ?_, ?_, ⟨fun _ _ _ _ _ _ => rfl, fun _ _ => rfl, rfl⟩, ⟨w1, w2, w3⟩, ?_⟩
      · rw [ev]
        simp only [lp_Parser_unwind_15, mq_let_e, e0, if_false, e2, t81, rk, if_pos c']
      · rw [ev]
        simp only [okl_Parser_unwind_15, mq_letP_e, e0, if_false, e2, t81, rk, if_pos c', b1, true_and]
      · show kO s r (o ++ [])
        rw [List.append_nil]
        exact hO
theorem G_unw {r R : Nat} (hr : mq_A r) (hR : 1 ≤ R) (hR2 : R ≤ 6) {W : List Nat} {s : mS} {o : List cI} (h62 : W.length ≤ 62) (hP : gP s 4 = r) (hW : kW s W) (hk : ks_ok W) (hO : kO s r o) (ho : o.length + W.length ≤ 600) : ∃ w, f_Parser_unwind (Int32.ofNat R) s = w ∧ ok_Parser_unwind (Int32.ofNat R) s ∧ kU r s w ∧ kW w (ks_un R W).2 ∧ kO w r (o ++ (ks_un R W).1) := by
  obtain ⟨w, a1, a2, a3⟩ := G_unw_lp hr hR hR2 W mm_N s o (by rw [mm_Ns]; omega) h62 hP hW hk hO ho
  have e : (if (64 : Int32) < gI s 80 10 then 64 else gI s 80 10) = Int32.ofNat W.length := by
    have l : ¬ (64 : Int32) < Int32.ofNat W.length := Int32.not_lt.mpr ((ofNat_le (b := 64) (by omega) (by omega)).mpr (by omega))
    rw [hW.1, if_neg l]
  refine ⟨w, ?_, ?_, a3⟩
  · unfold f_Parser_unwind
    rw [mq_let_e, e]
    exact a1
  · unfold ok_Parser_unwind
    rw [e]
    exact ⟨a2, trivial⟩
