/-! ACT: the model reads. -/
theorem rp_b_assoc (r : rpR) (f g : Nat → Int32 → rpR) : rp_b (rp_b r f) g = rp_b r (fun q v => rp_b (f q v) g) := by
  cases r with
  | inl e => rfl
  | inr x =>
    obtain ⟨q, v, c⟩ := x
    show rp_b (match f q v with | .inl e => (.inl e : rpR) | .inr y => .inr (y.1, y.2.1, c ++ y.2.2)) g = match rp_b (f q v) g with | .inl e => (.inl e : rpR) | .inr y => .inr (y.1, y.2.1, c ++ y.2.2)
    cases hf : f q v with
    | inl e => rfl
    | inr y =>
      obtain ⟨q', v', c'⟩ := y
      show (match g q' v' with | .inl e => (.inl e : rpR) | .inr y => .inr (y.1, y.2.1, (c ++ c') ++ y.2.2)) = match (match g q' v' with | .inl e => (.inl e : rpR) | .inr y => .inr (y.1, y.2.1, c' ++ y.2.2)) with | .inl e => (.inl e : rpR) | .inr y => .inr (y.1, y.2.1, c ++ y.2.2)
      cases g q' v' with
      | inl e => rfl
      | inr z =>
        show (Sum.inr (z.1, z.2.1, (c ++ c') ++ z.2.2) : rpR) = Sum.inr (z.1, z.2.1, c ++ (c' ++ z.2.2))
        rw [List.append_assoc]
def mFR : List (Nat × Nat) := [(116, 79), (116, 81), (116, 82), (116, 83), (116, 84), (116, 85), (116, 86), (116, 88)]
def mK (T : Nat → Int32) (L : Nat) (s : mS) (p n : Nat) (v : Int32) (d : Nat) : Prop := gI s 116 80 = Int32.ofNat L ∧ gI s 167 = T ∧ gI s 116 79 = Int32.ofNat n ∧ md_R (tz T L) p v s ∧ gI s 116 88 = Int32.ofNat d ∧ p ≤ L ∧ gI s 116 85 = 0
def mO (T : Nat → Int32) (L : Nat) (s : mS) (p0 n b d : Nat) (r : rpR) (w : Int32 × mS) : Prop := fp [166] mFR false s w.2 ∧ match r with
  | .inl e => w.1 = 0 ∧ gI w.2 116 85 = Int32.ofNat e.1 ∧ gI w.2 116 86 = Int32.ofNat e.2
  | .inr x => w.1 = 1 ∧ mK T L w.2 x.1 (n + x.2.2.length) x.2.1 d ∧ c_sgm (gI w.2 166) 0 n x.2.2 ∧ (∀ j, j < 2 * n → gI w.2 166 j = gI s 166 j) ∧ n + x.2.2.length + b ≤ x.1 ∧ p0 ≤ x.1
theorem c_sgm_c {a a' : Nat → Int32} : ∀ {c : List cI} {n : Nat}, (∀ j, j < 2 * (n + c.length) → a' j = a j) → c_sgm a 0 n c → c_sgm a' 0 n c
  | [], _, _, _ => trivial
  | i :: c, n, h, hs => by
    have h : ∀ j, j < 2 * (n + (c.length + 1)) → a' j = a j := h
    obtain ⟨h1, h2, h3⟩ := hs
    refine ⟨by rw [h _ (by omega)]; exact h1, fun q => by rw [h _ (by omega)]; exact h2 q, c_sgm_c (fun j hj => h j (by omega)) h3⟩
section
variable {T : Nat → Int32} {L : Nat} {s : mS} {p0 n b d : Nat}
theorem mO_then {q : Nat} {v : Int32} {c : List cI} {s' : mS} {f : Nat → Int32 → rpR} {w2 : Int32 × mS} {x : Int32} (h : mO T L s p0 n b d (.inr (q, v, c)) (x, s')) (h2 : mO T L s' q (n + c.length) b d (f q v) w2) : mO T L s p0 n b d (rp_b (.inr (q, v, c)) f) w2 := by
  obtain ⟨a1, a2, a3, a4, a5, a6, a7⟩ := h
  have a7 : p0 ≤ q := a7
  obtain ⟨b1, b2⟩ := h2
  refine ⟨fp_t a1 b1, ?_⟩
  have e : rp_b (.inr (q, v, c)) f = match f q v with | .inl e => (.inl e : rpR) | .inr y => .inr (y.1, y.2.1, c ++ y.2.2) := rfl
  rw [e]
  cases hf : f q v with
  | inl e =>
    rw [hf] at b2
    exact b2
  | inr y =>
    rw [hf] at b2
    obtain ⟨c1, c2, c3, c4, c5, c6⟩ := b2
    have a5 : ∀ j, j < 2 * n → gI s' 166 j = gI s 166 j := a5
    have a4 : c_sgm (gI s' 166) 0 n c := a4
    have el : n + (c ++ y.2.2).length = n + c.length + y.2.2.length := by
      rw [List.length_append]
      omega
    refine ⟨c1, ?_, ?_, fun j hj => ?_, ?_, Nat.le_trans a7 c6⟩
    · show mK T L w2.2 y.1 (n + (c ++ y.2.2).length) y.2.1 d
      rw [el]
      exact c2
    · show c_sgm (gI w2.2 166) 0 n (c ++ y.2.2)
      rw [c_sgm_app]
      exact ⟨c_sgm_c (fun j hj => c4 j hj) a4, c3⟩
    · rw [c4 j (by omega), a5 j hj]
    · show n + (c ++ y.2.2).length + b ≤ y.1
      rw [el]
      exact c5
theorem mO_if {r : rpR} {f : Nat → Int32 → rpR} {w : Int32 × mS} {g : mS → Int32 × mS} {OKg : mS → Prop} (h : mO T L s p0 n b d r w) (h2 : ∀ q v c, mK T L w.2 q (n + c.length) v d → n + c.length + b ≤ q → p0 ≤ q → r = .inr (q, v, c) → mO T L w.2 q (n + c.length) b d (f q v) (g w.2) ∧ OKg w.2) : mO T L s p0 n b d (rp_b r f) (if w.1 = 0 then (0, w.2) else g w.2) ∧ (if w.1 = 0 then True else OKg w.2) := by
  cases r with
  | inl e =>
    obtain ⟨a1, a2, a3, a4⟩ := h
    rw [if_pos a2, if_pos a2]
    exact ⟨⟨a1, rfl, a3, a4⟩, trivial⟩
  | inr x =>
    obtain ⟨q, v, c⟩ := x
    have hh := h
    obtain ⟨a1, a2, a3, a4, a5, a6, a7⟩ := h
    have n0 : ¬ w.1 = 0 := by
      rw [a2]
      decide
    obtain ⟨b1, b2⟩ := h2 q v c a3 a6 a7 rfl
    rw [if_neg n0, if_neg n0]
    exact ⟨mO_then (x := w.1) (s' := w.2) hh b1, b2⟩
theorem mO_wk {b' p1 : Nat} {r : rpR} {w : Int32 × mS} (hb : b ≤ b') (hp : p0 ≤ p1) (h : mO T L s p1 n b' d r w) : mO T L s p0 n b d r w := by
  cases r with
  | inl e => exact h
  | inr x =>
    obtain ⟨a1, a2, a3, a4, a5, a6, a7⟩ := h
    exact ⟨a1, a2, a3, a4, a5, by omega, by omega⟩
theorem mO_pre {s' : mS} {r : rpR} {w : Int32 × mS} (hf : fp [166] mFR false s s') (h166 : ∀ j, j < 2 * n → gI s' 166 j = gI s 166 j) (h : mO T L s' p0 n b d r w) : mO T L s p0 n b d r w := by
  cases r with
  | inl e => exact ⟨fp_t hf h.1, h.2⟩
  | inr x =>
    obtain ⟨a1, a2, a3, a4, a5, a6, a7⟩ := h
    exact ⟨fp_t hf a1, a2, a3, a4, fun j hj => by rw [a5 j hj, h166 j hj], a6, a7⟩
theorem M_nx (hL : L ≤ 600) {p : Nat} {v : Int32} (hK : mK T L s p n v d) (h1 : tK (tz T L) p ≠ 1) : ok_M_next0 s ∧ mK T L (f_M_next0 s) (tN (tz T L) p) n (rp_v (tz T L) v (tN (tz T L) p)) d ∧ fp [166] mFR false s (f_M_next0 s) ∧ gI (f_M_next0 s) 166 = gI s 166 := by
  obtain ⟨k1, k2, k3, k4, k5, k6⟩ := hK
  have nl := (((tz_E T L).2.2 p).2 k6.1).2
  obtain ⟨a1, a2, a3⟩ := M_next k1 hL nl k4.1
  rw [k2, k4.2.2.2 h1] at a3
  exact ⟨a1, ⟨by rw [(fpF a2 (by decide)).1, k1], by rw [(fpA a2 (by decide)).1, k2], by rw [(fpF a2 (by decide)).1, k3], a3, by rw [(fpF a2 (by decide)).1, k5], nl, by rw [(fpF a2 (by decide)).1, k6.2]⟩, fp_m a2 (by decide) (by decide) (fun h => h), (fpA a2 (by decide)).1⟩
theorem M_ly {p : Nat} {v : Int32} (hK : mK T L s p n v d) (hn : n ≤ 609) (k x : Int32) : ok_M_lay k x s ∧ mK T L (f_M_lay k x s) p (n + 1) v d ∧ fp [166] mFR false s (f_M_lay k x s) ∧ gI (f_M_lay k x s) 166 = up (up (gI s 166) (2 * n) k) (2 * n + 1) x := by
  obtain ⟨k1, k2, k3, k4, k5, k6⟩ := hK
  have e1 : 2 * Int32.ofNat n = Int32.ofNat (2 * n) := by rw [show (2 : Int32) = Int32.ofNat 2 from rfl, Int32.ofNat_mul]
  have e2 : Int32.ofNat (2 * n) + 1 = Int32.ofNat (2 * n + 1) := ofNat_succ _
  have e3 : ix (Int32.ofNat (2 * n)) = 2 * n := ix_ofNat (by omega)
  have e4 : ix (Int32.ofNat (2 * n + 1)) = 2 * n + 1 := ix_ofNat (by omega)
  have e5 : Int32.ofNat n + 1 = Int32.ofNat (n + 1) := ofNat_succ _
  have b1 : mm_inb (Int32.ofNat (2 * n)) 1220 = true := inb_ofNat (by decide) (by omega)
  have b2 : mm_inb (Int32.ofNat (2 * n + 1)) 1220 = true := inb_ofNat (by decide) (by omega)
  have ef : f_M_lay k x s = sI (sI (sI s 166 (2 * n) k) 166 (2 * n + 1) x) 116 79 (Int32.ofNat (n + 1)) := by
    unfold f_M_lay
    rw [k3, e1, e2, e3, e4, e5]
  have g : ∀ j, j ≠ 79 → gI (f_M_lay k x s) 116 j = gI s 116 j := fun j hj => by
    rw [ef, gI_sI, if_neg (fun q => hj q.2), gI_sI, if_neg (fun q => absurd q.1 (by decide)), gI_sI, if_neg (fun q => absurd q.1 (by decide))]
  refine ⟨?_, ⟨by rw [g 80 (by decide), k1], ?_, ?_, ⟨by rw [g 81 (by decide)]; exact k4.1, by rw [g 83 (by decide)]; exact k4.2.1, by rw [g 82 (by decide)]; exact k4.2.2.1, fun q => by rw [g 84 (by decide)]; exact k4.2.2.2 q⟩, by rw [g 88 (by decide), k5], k6.1, by rw [g 85 (by decide), k6.2]⟩, ?_, ?_⟩
  · unfold ok_M_lay
    rw [k3, e1, e2]
    exact ⟨b1, b2, trivial⟩
  · rw [ef, fI_sI, if_neg (by decide), fI_sI, if_neg (by decide), fI_sI, if_neg (by decide), k2]
  · rw [ef, gI_sI, if_pos ⟨rfl, rfl⟩]
  · rw [ef]
    exact fp_IF (fp_IA (fp_IA fp_r (by decide)) (by decide)) (by decide)
  · rw [ef, fI_sI, if_neg (by decide), fI_sI, if_pos rfl, fI_sI, if_pos rfl]
theorem mO_lay {p : Nat} {v : Int32} (hK : mK T L s p n v d) (hL : L ≤ 600) (hb : n + 1 + b ≤ p) (k x : Int32) : mO T L s p n b d (rp_lay (k, x) p v) (1, f_M_lay k x s) ∧ ok_M_lay k x s := by
  have pl := hK.2.2.2.2.2.1
  obtain ⟨a1, a2, a3, a4⟩ := M_ly hK (by omega) k x
  refine ⟨⟨a3, rfl, a2, ⟨?_, fun _ => ?_, trivial⟩, fun j hj => ?_, hb, Nat.le_refl p⟩, a1⟩
  · show gI (f_M_lay k x s) 166 (0 + 2 * n) = k
    rw [a4, Nat.zero_add, up_ne (by omega), up_self]
  · show gI (f_M_lay k x s) 166 (0 + 2 * n + 1) = x
    rw [a4, Nat.zero_add, up_self]
  · show gI (f_M_lay k x s) 166 j = gI s 166 j
    rw [a4, up_ne (by omega), up_ne (by omega)]
theorem mO_bad {p : Nat} {v : Int32} (hK : mK T L s p n v d) (k : Nat) : mO T L s p0 n b d (.inl (k, tA (tz T L) p)) (f_M_bad (Int32.ofNat k) s) := by
  unfold f_M_bad
  refine ⟨fp_IF (fp_IF fp_r (by decide)) (by decide), rfl, ?_, ?_⟩
  · show gI (sI (sI s 116 85 (Int32.ofNat k)) 116 86 (gI s 116 83)) 116 85 = _
    rw [gI_sI, if_neg (fun q => absurd q.2 (by decide)), gI_sI, if_pos ⟨rfl, rfl⟩]
  · show gI (sI (sI s 116 85 (Int32.ofNat k)) 116 86 (gI s 116 83)) 116 86 = _
    rw [gI_sI, if_pos ⟨rfl, rfl⟩]
    exact hK.2.2.2.1.2.1
theorem mk_i : ∀ k, k ≤ 25 → ∀ j, j ≤ 25 → (tz_mk k = tz_mk j ↔ k = j) := by decide +kernel
theorem mk_l : ∀ k, k ≤ 25 → (rp_leaf k = false → ¬ tz_mk k = 2 ∧ ¬ tz_mk k = 303 ∧ tz_mk k < 401) ∧ (rp_leaf k = true → (if tz_mk k = 2 then (0 : Int32) else if tz_mk k = 303 then 4 else 1 + tz_mk k - 401) = rp_lc k ∧ (¬ tz_mk k = 2 → (if tz_mk k = 303 then (1 : Int32) else if tz_mk k < 401 then 0 else 1) = 1)) := by decide +kernel
theorem tokE {p : Nat} {v : Int32} (hK : mK T L s p n v d) {j : Nat} (hj : j ≤ 25) : (gI s 116 82 = tz_mk j) = (tK (tz T L) p = j) := by
  rw [hK.2.2.2.1.2.2.1]
  exact propext (mk_i _ (tz_K25 T L p) j hj)
theorem M_unitE (hL : L ≤ 600) {p : Nat} {v : Int32} (hK : mK T L s p n v d) (hb : n + b ≤ p) : mO T L s (p + 1) n b d (rp_unit (tz T L) p v) (f_M_unit s) ∧ ok_M_unit s := by
  obtain ⟨hE, hN, hA⟩ := tz_E T L
  have t82 := hK.2.2.2.1.2.2.1
  have pl := hK.2.2.2.2.2.1
  obtain ⟨l1, l2⟩ := mk_l _ (tz_K25 T L p)
  unfold rp_unit
  by_cases c : rp_leaf (tK (tz T L) p) = true
  · rw [if_pos c]
    obtain ⟨m1, m2⟩ := l2 c
    have k1 : tK (tz T L) p ≠ 1 := fun e => by
      rw [e] at c
      exact absurd c (by decide)
    have k0 : tK (tz T L) p ≠ 0 := fun e => by
      rw [e] at c
      exact absurd c (by decide)
    have v84 := hK.2.2.2.1.2.2.2 k1
    obtain ⟨np, pL⟩ := hE.1 p k0
    obtain ⟨a1, a2, a3, a4⟩ := M_ly hK (by omega) (rp_lc (tK (tz T L) p)) v
    obtain ⟨b1, b2, b3, b4⟩ := M_nx hL a2 k1
    have ef : f_M_unit s = (1, f_M_next0 (f_M_lay (rp_lc (tK (tz T L) p)) v s)) := by
      unfold f_M_unit
      simp only [mq_let_e, t82, m1, v84]
      by_cases q : tz_mk (tK (tz T L) p) = 2
      · rw [if_pos q]
      · rw [if_neg q, m2 q, if_neg (by decide)]
    have eo : ok_M_unit s := by
      unfold ok_M_unit
      simp only [mq_letP_e, t82, m1, v84, a1, b1, true_and, and_self]
      by_cases q : tz_mk (tK (tz T L) p) = 2
      · rw [if_pos q]
        trivial
      · rw [if_neg q, m2 q, if_neg (by decide)]
        trivial
    rw [ef]
    have b3 := fp_t a3 b3
    have g0 : gI (f_M_next0 (f_M_lay (rp_lc (tK (tz T L) p)) v s)) 166 = up (up (gI s 166) (2 * n) (rp_lc (tK (tz T L) p))) (2 * n + 1) v := by rw [b4, a4]
    generalize f_M_next0 (f_M_lay (rp_lc (tK (tz T L) p)) v s) = z at b2 b3 g0
    refine ⟨⟨b3, rfl, b2, ⟨?_, fun _ => ?_, trivial⟩, fun j hj => ?_, ?_, np⟩, eo⟩
    · show gI z 166 (0 + 2 * n) = _
      rw [g0, Nat.zero_add, up_ne (by omega), up_self]
    · show gI z 166 (0 + 2 * n + 1) = _
      rw [g0, Nat.zero_add, up_self]
    · show gI z 166 j = _
      rw [g0, up_ne (by omega), up_ne (by omega)]
    · show n + 1 + b ≤ tN (tz T L) p
      omega
  · rw [if_neg c]
    have cf : rp_leaf (tK (tz T L) p) = false := by
      cases h : rp_leaf (tK (tz T L) p) with
      | false => rfl
      | true => exact absurd h c
    obtain ⟨m1, m2, m3⟩ := l1 cf
    have bad := mO_bad (p0 := p + 1) (b := b) hK 1
    have ef : f_M_unit s = f_M_bad 1 s := by
      unfold f_M_unit
      simp only [mq_let_e, t82, if_neg m1, if_neg m2, if_pos m3, if_true]
    have eo : ok_M_unit s := by
      unfold ok_M_unit
      simp only [mq_letP_e, t82, if_neg m1, if_neg m2, if_pos m3, if_true, true_and]
      exact bit0
    rw [ef]
    exact ⟨bad, eo⟩
def wl (o : Option Int32 × mS) : Int32 × mS := mq_el o.1 (fun v => (v, o.2)) (1, o.2)
theorem mO_id {p : Nat} {v : Int32} (hK : mK T L s p n v d) (hb : n + b ≤ p) : mO T L s p n b d (.inr (p, v, [])) (1, s) := ⟨fp_r, rfl, hK, trivial, fun _ _ => rfl, hb, Nat.le_refl p⟩
end
