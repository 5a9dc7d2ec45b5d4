/-! LINES OF ACTS AS CODE: what a code comes to; both classes' runs of it. A sign: its kind as the model counts them, and a number. -/
abbrev cI : Type := Int32 × Int32
def c_both (k a b : Int32) : Int32 := (if k = 6 then (a + b) else (if k = 7 then (a - b) else (if k = 8 then (a * b) else (if k = 9 then (a ||| b) else (if k = 10 then (if b ≤ a then 0 else 1) else (if k = 11 then (if a = b then 1 else 0) else (if k = 12 then (if a ≤ b then 0 else 1) else (if k = 13 then (a ||| b) else (if k = 14 then (a &&& b) else (a ||| b))))))))))
def c_ex (F : Nat → Int32) (i : cI) (st : List Int32) : List Int32 := if i.1 < 6 then (if i.1 = 0 then i.2 else F (ix i.1)) :: st else match st with
  | [] => []
  | b :: r => if i.1 = 9 then (b / i.2) :: r else if i.1 = 13 then (1 - b) :: r else match r with
    | [] => []
    | a :: r' => c_both i.1 a b :: r'
def c_exs (F : Nat → Int32) : List cI → List Int32 → List Int32
  | [], st => st
  | i :: c, st => c_exs F c (c_ex F i st)
def c_ht (i : cI) (d : Nat) : Option Nat := if 0 ≤ i.1 ∧ i.1 < 6 then (if d < 64 then some (d + 1) else none) else if i.1 = 9 then (if 1 ≤ d ∧ d < 64 ∧ i.2 ≠ 0 then some d else none) else if i.1 = 13 then (if 1 ≤ d then some d else none) else if 6 ≤ i.1 ∧ i.1 ≤ 15 then (if 2 ≤ d then some (d - 1) else none) else none
def c_hts : List cI → Nat → Option Nat
  | [], d => some d
  | i :: c, d => (c_ht i d).bind (c_hts c)
def c_x (i : cI) : List cI := if i.1 = 0 then [(2, i.2)] else if i.1 = 1 then [(8, 0)] else if i.1 = 2 then [(9, 0)] else if i.1 = 3 then [(10, 0)] else if i.1 = 4 then [(5, 0)] else if i.1 = 5 then [(11, 0)] else if i.1 = 6 then [(17, 0)] else if i.1 = 7 then [(18, 0)] else if i.1 = 8 then [(19, 0)] else if i.1 = 9 then [(2, i.2), (20, 0)] else if i.1 = 10 then [(23, 0)] else if i.1 = 11 then [(24, 0)] else if i.1 = 12 then [(25, 0)] else if i.1 = 13 then [(15, 0)] else if i.1 = 14 then [(14, 0)] else [(13, 0)]
def c_xs : List cI → List cI
  | [] => []
  | i :: c => c_x i ++ c_xs c
/-- the top of a stack lies highest -/
def c_stk (f : Nat → Int32) : List Int32 → Prop
  | [] => True
  | a :: r => f r.length = a ∧ c_stk f r
theorem c_stk_up {f : Nat → Int32} {i : Nat} {x : Int32} : ∀ {r : List Int32}, r.length ≤ i → c_stk f r → c_stk (up f i x) r
  | [], _, _ => trivial
  | a :: r, h, hs => ⟨by rw [up_ne (by simp at h; omega)]; exact hs.1, c_stk_up (by simp at h; omega) hs.2⟩
/-- where a code lies: the class's two rows from a place on -/
def c_seg (a b : Nat → Int32) (p : Nat) : List cI → Prop
  | [] => True
  | i :: c => a p = i.1 ∧ b p = i.2 ∧ c_seg a b (p + 1) c
theorem c_seg_app {a b : Nat → Int32} : ∀ {c d : List cI} {p : Nat}, c_seg a b p (c ++ d) ↔ c_seg a b p c ∧ c_seg a b (p + c.length) d
  | [], d, p => by simp [c_seg]
  | i :: c, d, p => by
    have := c_seg_app (a := a) (b := b) (c := c) (d := d) (p := p + 1)
    simp only [List.cons_append, c_seg, List.length_cons, this]
    rw [show p + 1 + c.length = p + (c.length + 1) by omega]
    constructor
    · rintro ⟨h1, h2, h3, h4⟩; exact ⟨⟨h1, h2, h3⟩, h4⟩
    · rintro ⟨⟨h1, h2, h3⟩, h4⟩; exact ⟨h1, h2, h3, h4⟩
section
variable {r : Nat} {s : mS} {f : Nat → Int32} {e p h n : Nat} {k : Int32}
theorem v_ne (hr : mq_A r) : ¬ (39 = r + 7) := by
  rcases hr with rfl | rfl | rfl | rfl | rfl <;> decide
theorem v_leaf (hr : mq_A r) (hp : p < e) (he : e < 90000) (h6 : p < 600) (hk : gI s (r + 5) p = k) (hl : (f_Act_isLeaf k s = 0) = False) (hh : h < 64) :
    lp_Act_valueOf_39_10 r (Int32.ofNat e) (n + 1) (Int32.ofNat h) (Int32.ofNat p) (sA s (r + 7) f) = lp_Act_valueOf_39_10 r (Int32.ofNat e) n (Int32.ofNat (h + 1)) (Int32.ofNat (p + 1)) (sA s (r + 7) (up f h (f_Act_leaf_39 k (gI s (r + 6) p) s))) ∧ (okl_Act_valueOf_39_10 r (Int32.ofNat e) n (Int32.ofNat (h + 1)) (Int32.ofNat (p + 1)) (sA s (r + 7) (up f h (f_Act_leaf_39 k (gI s (r + 6) p) s))) → okl_Act_valueOf_39_10 r (Int32.ofNat e) (n + 1) (Int32.ofNat h) (Int32.ofNat p) (sA s (r + 7) f)) := by
  have e1 : ¬ Int32.ofNat e ≤ Int32.ofNat p := fl_lit rfl he (by omega) hp
  have e2 : ¬ (600 : Int32) ≤ Int32.ofNat p := fl_lit (a := 600) rfl (by omega) (by omega) h6
  have e3 : ¬ (64 : Int32) ≤ Int32.ofNat h := fl_lit (a := 64) rfl (by omega) (by omega) hh
  have e4 : ix (Int32.ofNat p) = p := ix_ofNat (by omega)
  have e5 : ix (Int32.ofNat h) = h := ix_ofNat (by omega)
  have n5 : ¬ (r + 5 = r + 7) := by omega
  have n6 : ¬ (r + 6 = r + 7) := by omega
  have n39 := v_ne hr
  have b1 : mm_inb (Int32.ofNat p) 600 = true := inb_ofNat (by decide) h6
  have b2 : mm_inb (Int32.ofNat h) 64 = true := inb_ofNat (by decide) hh
  have hl' : ∀ t, (f_Act_isLeaf k t = 0) = False := fun t => hl
  have hv : ∀ v, f_Act_leaf_39 k v (sA s (r + 7) f) = f_Act_leaf_39 k v s := fun v => by
    unfold f_Act_leaf_39
    simp only [gI_sA, n39, if_false]
  constructor
  · simp only [lp_Act_valueOf_39_10, mq_let_e, e1, e2, if_false, gI_sA, n5, n6, e4, hk, hl', e3, e5, hv, sI_sA, ofNat_succ]
  · intro q
    simp only [okl_Act_valueOf_39_10, mq_letP_e, e1, e2, if_false, gI_sA, n5, n6, e4, hk, hl', e3, e5, hv, sI_sA, ofNat_succ, b1, b2, true_and]
    exact q
theorem v_not (hr : mq_A r) (hp : p < e) (he : e < 90000) (h6 : p < 600) (hk : gI s (r + 5) p = 15) (hh : h < 64) :
    lp_Act_valueOf_39_10 r (Int32.ofNat e) (n + 1) (Int32.ofNat (h + 1)) (Int32.ofNat p) (sA s (r + 7) f) = lp_Act_valueOf_39_10 r (Int32.ofNat e) n (Int32.ofNat (h + 1)) (Int32.ofNat (p + 1)) (sA s (r + 7) (up f h (1 - f h))) ∧ (okl_Act_valueOf_39_10 r (Int32.ofNat e) n (Int32.ofNat (h + 1)) (Int32.ofNat (p + 1)) (sA s (r + 7) (up f h (1 - f h))) → okl_Act_valueOf_39_10 r (Int32.ofNat e) (n + 1) (Int32.ofNat (h + 1)) (Int32.ofNat p) (sA s (r + 7) f)) := by
  have e1 : ¬ Int32.ofNat e ≤ Int32.ofNat p := fl_lit rfl he (by omega) hp
  have e2 : ¬ (600 : Int32) ≤ Int32.ofNat p := fl_lit (a := 600) rfl (by omega) (by omega) h6
  have e3 : ¬ Int32.ofNat (h + 1) ≤ 0 := ofNat_pos (by omega)
  have e4 : ix (Int32.ofNat p) = p := ix_ofNat (by omega)
  have e6 : Int32.ofNat (h + 1) - 1 = Int32.ofNat h := by
    rw [← ofNat_succ]
    simp
  have e5 : ix (Int32.ofNat h) = h := ix_ofNat (by omega)
  have n5 : ¬ (r + 5 = r + 7) := by omega
  have b1 : mm_inb (Int32.ofNat p) 600 = true := inb_ofNat (by decide) h6
  have b2 : mm_inb (Int32.ofNat h) 64 = true := inb_ofNat (by decide) hh
  have hl' : ∀ t, (f_Act_isLeaf 15 t = 0) = True := fun t => by
    unfold f_Act_isLeaf
    decide
  constructor
  · simp only [lp_Act_valueOf_39_10, mq_let_e, e1, e2, if_false, if_true, gI_sA, n5, e4, hk, hl', e3, e5, e6, sI_sA, ofNat_succ]
  · intro q
    simp only [okl_Act_valueOf_39_10, mq_letP_e, e1, e2, if_false, if_true, gI_sA, n5, e4, hk, hl', e3, e5, e6, sI_sA, ofNat_succ, b1, b2, true_and]
    exact q
theorem joined_ok (k a b : Int32) (s : mS) : ok_Act_joined k a b s := by
  unfold ok_Act_joined
  repeat' split
  all_goals simp_all
theorem v_bin (hr : mq_A r) (hp : p < e) (he : e < 90000) (h6 : p < 600) (hk : gI s (r + 5) p = k) (hl : (f_Act_isLeaf k s = 0) = True) (h15 : (k = 15) = False) (hh : h + 1 < 64) :
    lp_Act_valueOf_39_10 r (Int32.ofNat e) (n + 1) (Int32.ofNat (h + 2)) (Int32.ofNat p) (sA s (r + 7) f) = lp_Act_valueOf_39_10 r (Int32.ofNat e) n (Int32.ofNat (h + 1)) (Int32.ofNat (p + 1)) (sA s (r + 7) (up f h (f_Act_joined k (f h) (f (h + 1)) s))) ∧ (okl_Act_valueOf_39_10 r (Int32.ofNat e) n (Int32.ofNat (h + 1)) (Int32.ofNat (p + 1)) (sA s (r + 7) (up f h (f_Act_joined k (f h) (f (h + 1)) s))) → okl_Act_valueOf_39_10 r (Int32.ofNat e) (n + 1) (Int32.ofNat (h + 2)) (Int32.ofNat p) (sA s (r + 7) f)) := by
  have e1 : ¬ Int32.ofNat e ≤ Int32.ofNat p := fl_lit rfl he (by omega) hp
  have e2 : ¬ (600 : Int32) ≤ Int32.ofNat p := fl_lit (a := 600) rfl (by omega) (by omega) h6
  have e3 : ¬ Int32.ofNat (h + 2) ≤ 1 := by
    rw [show (1 : Int32) = Int32.ofNat 1 from rfl, ofNat_le (by omega) (by omega)]
    omega
  have e4 : ix (Int32.ofNat p) = p := ix_ofNat (by omega)
  have e6 : Int32.ofNat (h + 2) + (-1) = Int32.ofNat (h + 1) := ofNat_pred (h + 1) (by omega)
  have e7 : Int32.ofNat (h + 1) - 1 = Int32.ofNat h := by
    rw [← ofNat_succ]
    simp
  have e5 : ix (Int32.ofNat h) = h := ix_ofNat (by omega)
  have e8 : ix (Int32.ofNat (h + 1)) = h + 1 := ix_ofNat (by omega)
  have n5 : ¬ (r + 5 = r + 7) := by omega
  have b1 : mm_inb (Int32.ofNat p) 600 = true := inb_ofNat (by decide) h6
  have b2 : mm_inb (Int32.ofNat h) 64 = true := inb_ofNat (by decide) (by omega)
  have b3 : mm_inb (Int32.ofNat (h + 1)) 64 = true := inb_ofNat (by decide) (by omega)
  have hl' : ∀ t, (f_Act_isLeaf k t = 0) = True := fun t => hl
  have hv : ∀ a b, f_Act_joined k a b (sA s (r + 7) f) = f_Act_joined k a b s := fun a b => rfl
  constructor
  · simp only [lp_Act_valueOf_39_10, mq_let_e, e1, e2, if_false, if_true, gI_sA, n5, e4, hk, hl', h15, e3, e5, e6, e7, e8, hv, sI_sA, ofNat_succ]
  · intro q
    simp only [okl_Act_valueOf_39_10, mq_letP_e, e1, e2, if_false, if_true, gI_sA, n5, e4, hk, hl', h15, e3, e5, e6, e7, e8, hv, joined_ok, sI_sA, ofNat_succ, b1, b2, b3, true_and]
    exact q
end
theorem k16 {k : Int32} (h0 : 0 ≤ k) (h : k ≤ 15) : k = 0 ∨ k = 1 ∨ k = 2 ∨ k = 3 ∨ k = 4 ∨ k = 5 ∨ k = 6 ∨ k = 7 ∨ k = 8 ∨ k = 9 ∨ k = 10 ∨ k = 11 ∨ k = 12 ∨ k = 13 ∨ k = 14 ∨ k = 15 := by
  grind
theorem c_ht_k {i : cI} {d d' : Nat} (h : c_ht i d = some d') : 0 ≤ i.1 ∧ i.1 ≤ 15 := by
  unfold c_ht at h
  split at h
  · grind
  · split at h
    · grind
    · split at h
      · grind
      · split at h
        · grind
        · cases h
/-- what the class knows as it asks: hour, day, fog, price, short -/
def c_F (a : Nat → Int32) (n : Nat) : Int32 := if n = 1 then a 0 else if n = 2 then a 1 else if n = 3 then a 2 else if n = 4 then a 3 else a 4
theorem G_val_lp {r : Nat} (hr : mq_A r) {s : mS} {e : Nat} (he : e ≤ 600) : ∀ (c : List cI) (p n d' : Nat) (st : List Int32) (f : Nat → Int32), c_seg (gI s (r + 5)) (gI s (r + 6)) p (c_xs c) → p + (c_xs c).length = e → c_hts c st.length = some d' → c_stk f st → (c_xs c).length < n → st.length ≤ 64 →
    ∃ g, lp_Act_valueOf_39_10 r (Int32.ofNat e) n (Int32.ofNat st.length) (Int32.ofNat p) (sA s (r + 7) f) = (Int32.ofNat d', Int32.ofNat e, sA s (r + 7) g) ∧ okl_Act_valueOf_39_10 r (Int32.ofNat e) n (Int32.ofNat st.length) (Int32.ofNat p) (sA s (r + 7) f) ∧ c_stk g (c_exs (c_F (gI s 39)) c st) ∧ (c_exs (c_F (gI s 39)) c st).length = d' := by
  intro c
  induction c with
  | nil =>
    intro p n d' st f hs hp hd hst hn h64
    simp only [c_xs, List.length_nil] at hp hn
    have : p = e := by omega
    subst this
    simp only [c_hts, Option.some.injEq] at hd
    match n, hn with
    | n + 1, _ =>
      have e1 : Int32.ofNat p ≤ Int32.ofNat p := Int32.le_refl _
      refine ⟨f, ?_, ?_, hst, hd⟩
      · simp only [lp_Act_valueOf_39_10, e1, if_true, hd]
      · simp only [okl_Act_valueOf_39_10, e1, if_true]
  | cons i c ih =>
    intro p n d' st f hs hp hd hst hn h64
    simp only [c_xs, List.length_append] at hp hn
    simp only [c_xs, c_seg_app] at hs
    obtain ⟨hs1, hs2⟩ := hs
    simp only [c_hts] at hd
    obtain ⟨d1, hd1, hd2⟩ := Option.bind_eq_some_iff.mp hd
    have hk := c_ht_k hd1
    have leaf : ∀ (k v x : Int32), c_x i = [(k, v)] → (f_Act_isLeaf k s = 0) = False → f_Act_leaf_39 k v s = x → c_ex (c_F (gI s 39)) i st = x :: st → c_ht i st.length = (if st.length < 64 then some (st.length + 1) else none) →
        ∃ g, lp_Act_valueOf_39_10 r (Int32.ofNat e) n (Int32.ofNat st.length) (Int32.ofNat p) (sA s (r + 7) f) = (Int32.ofNat d', Int32.ofNat e, sA s (r + 7) g) ∧ okl_Act_valueOf_39_10 r (Int32.ofNat e) n (Int32.ofNat st.length) (Int32.ofNat p) (sA s (r + 7) f) ∧ c_stk g (c_exs (c_F (gI s 39)) (i :: c) st) ∧ (c_exs (c_F (gI s 39)) (i :: c) st).length = d' := by
      intro k v x hx hl hlf hex hht
      rw [hx] at hs1 hs2 hp hn
      simp only [c_seg, List.length_cons, List.length_nil] at hs1 hs2 hp hn
      rw [hht] at hd1
      have hh : st.length < 64 := by
        apply Classical.byContradiction
        intro q
        rw [if_neg q] at hd1
        cases hd1
      rw [if_pos hh] at hd1
      injection hd1 with hd1
      match n, hn with
      | n + 1, hn =>
        have V := v_leaf (f := f) (n := n) (e := e) (h := st.length) hr (by omega) (by omega) (by omega) hs1.1 hl hh
        rw [hs1.2.1, hlf] at V
        obtain ⟨g, g1, g2, g3, g4⟩ := ih (p + 1) n d' (x :: st) (up f st.length x) hs2 (by omega) (by
          simp only [List.length_cons]
          rw [hd1]
          exact hd2) ⟨up_self _ _ _, c_stk_up (Nat.le_refl _) hst⟩ (by omega) (by simp only [List.length_cons]; omega)
        refine ⟨g, V.1.trans g1, V.2 g2, ?_, ?_⟩
        · simp only [c_exs, hex]
          exact g3
        · simp only [c_exs, hex]
          exact g4
    have bin : ∀ (k : Int32), c_x i = [(k, 0)] → (f_Act_isLeaf k s = 0) = True → (k = 15) = False → (∀ a b, f_Act_joined k a b s = c_both i.1 a b) → (∀ a b r', c_ex (c_F (gI s 39)) i (b :: a :: r') = c_both i.1 a b :: r') → c_ht i st.length = (if 2 ≤ st.length then some (st.length - 1) else none) →
        ∃ g, lp_Act_valueOf_39_10 r (Int32.ofNat e) n (Int32.ofNat st.length) (Int32.ofNat p) (sA s (r + 7) f) = (Int32.ofNat d', Int32.ofNat e, sA s (r + 7) g) ∧ okl_Act_valueOf_39_10 r (Int32.ofNat e) n (Int32.ofNat st.length) (Int32.ofNat p) (sA s (r + 7) f) ∧ c_stk g (c_exs (c_F (gI s 39)) (i :: c) st) ∧ (c_exs (c_F (gI s 39)) (i :: c) st).length = d' := by
      intro k hx hl h15 hj hex hht
      rw [hx] at hs1 hs2 hp hn
      simp only [c_seg, List.length_cons, List.length_nil] at hs1 hs2 hp hn
      rw [hht] at hd1
      match st, hst, hd1, hd2, h64 with
      | [], _, hd1, _, _ => cases hd1
      | [_], _, hd1, _, _ => cases hd1
      | b :: a :: st', hst, hd1, hd2, h64 =>
        simp only [List.length_cons, Nat.le_add_left, if_true, Option.some.injEq] at hd1 h64
        match n, hn with
        | n + 1, hn =>
          have V := v_bin (f := f) (n := n) (e := e) (h := st'.length) hr (by omega) (by omega) (by omega) hs1.1 hl h15 (by omega)
          rw [hst.2.1, show f (st'.length + 1) = b from hst.1, hj] at V
          obtain ⟨g, g1, g2, g3, g4⟩ := ih (p + 1) n d' (c_both i.1 a b :: st') (up f st'.length (c_both i.1 a b)) hs2 (by omega) (by
            simp only [List.length_cons]
            rw [show st'.length + 1 = d1 by omega]
            exact hd2) ⟨up_self _ _ _, c_stk_up (Nat.le_refl _) hst.2.2⟩ (by omega) (by simp only [List.length_cons]; omega)
          refine ⟨g, V.1.trans g1, V.2 g2, ?_, ?_⟩
          · simp only [c_exs, hex]
            exact g3
          · simp only [c_exs, hex]
            exact g4
    obtain ⟨ik, iv⟩ := i
    rcases k16 hk.1 hk.2 with q | q | q | q | q | q | q | q | q | q | q | q | q | q | q | q <;> simp only at q <;> subst q
    · exact leaf 2 iv iv rfl (eq_false (by unfold f_Act_isLeaf; decide)) rfl rfl rfl
    · exact leaf 8 0 _ rfl (eq_false (by unfold f_Act_isLeaf; decide)) rfl rfl rfl
    · exact leaf 9 0 _ rfl (eq_false (by unfold f_Act_isLeaf; decide)) rfl rfl rfl
    · exact leaf 10 0 _ rfl (eq_false (by unfold f_Act_isLeaf; decide)) rfl rfl rfl
    · exact leaf 5 0 _ rfl (eq_false (by unfold f_Act_isLeaf; decide)) rfl rfl rfl
    · exact leaf 11 0 _ rfl (eq_false (by unfold f_Act_isLeaf; decide)) rfl rfl rfl
    · exact bin 17 rfl (eq_true (by unfold f_Act_isLeaf; decide)) (eq_false (by decide)) (fun _ _ => rfl) (fun _ _ _ => rfl) rfl
    · exact bin 18 rfl (eq_true (by unfold f_Act_isLeaf; decide)) (eq_false (by decide)) (fun _ _ => rfl) (fun _ _ _ => rfl) rfl
    · exact bin 19 rfl (eq_true (by unfold f_Act_isLeaf; decide)) (eq_false (by decide)) (fun _ _ => rfl) (fun _ _ _ => rfl) rfl
    · -- a part
      have hx : c_x (9, iv) = [(2, iv), (20, 0)] := rfl
      have hht : c_ht (9, iv) st.length = (if 1 ≤ st.length ∧ st.length < 64 ∧ iv ≠ 0 then some st.length else none) := rfl
      rw [hx] at hs1 hs2 hp hn
      simp only [c_seg, List.length_cons, List.length_nil] at hs1 hs2 hp hn
      rw [hht] at hd1
      have hq : 1 ≤ st.length ∧ st.length < 64 ∧ iv ≠ 0 := by
        apply Classical.byContradiction
        intro q
        rw [if_neg q] at hd1
        cases hd1
      rw [if_pos hq] at hd1
      injection hd1 with hd1
      match st, hst, hd1, hd2, h64, hq with
      | b :: st', hst, hd1, hd2, h64, hq =>
        simp only [List.length_cons] at hd1 h64 hq
        match n, hn with
        | 0, hn => exact absurd hn (by omega)
        | 1, hn => exact absurd hn (by omega)
        | n + 2, hn =>
          have hlf : f_Act_leaf_39 2 iv s = iv := rfl
          have V := v_leaf (f := f) (n := n + 1) (e := e) (h := st'.length + 1) hr (by omega) (by omega) (by omega) hs1.1 (eq_false (by unfold f_Act_isLeaf; decide)) (by omega)
          rw [hs1.2.1, hlf] at V
          have W := v_bin (f := up f (st'.length + 1) iv) (n := n) (e := e) (h := st'.length) hr (by omega) (by omega) (by omega) hs1.2.2.1 (eq_true (by unfold f_Act_isLeaf; decide)) (eq_false (by decide)) (by omega)
          have hj : f_Act_joined 20 b iv s = b / iv := by
            show (if iv = 0 then 0 else b / iv) = _
            rw [if_neg hq.2.2]
          rw [up_self, up_ne (by omega), show f st'.length = b from hst.1, hj] at W
          obtain ⟨g, g1, g2, g3, g4⟩ := ih (p + 2) n d' ((b / iv) :: st') (up (up f (st'.length + 1) iv) st'.length (b / iv)) hs2 (by omega) (by
            simp only [List.length_cons]
            rw [hd1]
            exact hd2) ⟨up_self _ _ _, c_stk_up (Nat.le_refl _) (c_stk_up (by omega) hst.2)⟩ (by omega) (by simp only [List.length_cons]; omega)
          exact ⟨g, V.1.trans (W.1.trans g1), V.2 (W.2 g2), g3, g4⟩
    · exact bin 23 rfl (eq_true (by unfold f_Act_isLeaf; decide)) (eq_false (by decide)) (fun _ _ => rfl) (fun _ _ _ => rfl) rfl
    · exact bin 24 rfl (eq_true (by unfold f_Act_isLeaf; decide)) (eq_false (by decide)) (fun _ _ => rfl) (fun _ _ _ => rfl) rfl
    · exact bin 25 rfl (eq_true (by unfold f_Act_isLeaf; decide)) (eq_false (by decide)) (fun _ _ => rfl) (fun _ _ _ => rfl) rfl
    · -- not
      have hx : c_x (13, iv) = [(15, 0)] := rfl
      have hht : c_ht (13, iv) st.length = (if 1 ≤ st.length then some st.length else none) := rfl
      rw [hx] at hs1 hs2 hp hn
      simp only [c_seg, List.length_cons, List.length_nil] at hs1 hs2 hp hn
      rw [hht] at hd1
      match st, hst, hd1, hd2, h64 with
      | [], _, hd1, _, _ => cases hd1
      | b :: st', hst, hd1, hd2, h64 =>
        simp only [List.length_cons, Nat.le_add_left, if_true, Option.some.injEq] at hd1 h64
        match n, hn with
        | n + 1, hn =>
          have V := v_not (f := f) (n := n) (e := e) (h := st'.length) hr (by omega) (by omega) (by omega) hs1.1 (by omega)
          rw [show f st'.length = b from hst.1] at V
          obtain ⟨g, g1, g2, g3, g4⟩ := ih (p + 1) n d' ((1 - b) :: st') (up f st'.length (1 - b)) hs2 (by omega) (by
            simp only [List.length_cons]
            rw [hd1]
            exact hd2) ⟨up_self _ _ _, c_stk_up (Nat.le_refl _) hst.2⟩ (by omega) (by simp only [List.length_cons]; omega)
          exact ⟨g, V.1.trans g1, V.2 g2, g3, g4⟩
    · exact bin 14 rfl (eq_true (by unfold f_Act_isLeaf; decide)) (eq_false (by decide)) (fun _ _ => rfl) (fun _ _ _ => rfl) rfl
    · exact bin 13 rfl (eq_true (by unfold f_Act_isLeaf; decide)) (eq_false (by decide)) (fun _ _ => rfl) (fun _ _ _ => rfl) rfl
