/-! ANY ROW THAT GOES ON. -/
theorem mm_nx_inv {pc : Nat} {ls : List (Option Value)} {st : List Value} {σ : mm_S} {c2 : mm_C} (h : mm_nx pc ls st σ = some (.inl c2)) : c2 = (pc, ls, st, σ) := by
  cases h
  rfl
theorem mm_cond_inv {b : Bool} {o : mm_O} {x : mm_C ⊕ (mm_R ⊕ (Nat × List Value × mm_C))} (h : cond b o none = some x) : b = true ∧ o = some x := by
  cases b with
  | true => exact ⟨rfl, h⟩
  | false => cases h
theorem mm_jl_use {o i kd : Nat} (h : mm_jok o i kd = true) : Cond.methodLink (mm_own o) i (mm_jn kd) ∈ mm_ALL := by
  obtain ⟨q, h1, h2⟩ := mm_any h
  have h3 := of_decide_eq_true (List.all_eq_true.mp mm_jl_ok _ h1)
  simp only [Bool.and_eq_true] at h2
  have e1 := mm_beq h2.1
  have e2 := mm_beq h2.2
  rw [e1, e2] at h3
  exact mm_all_of h3 rfl
theorem mm_on_use {pc t : Nat} {off : Int} (h : mm_on pc off t = true) : (pc : Int) + off = (t : Int) := of_decide_eq_true h
theorem mm_sm_use {n : Int} (h : mm_sm n = true) : (Int32.ofInt n).toInt = n := by
  unfold mm_sm at h
  simp only [Bool.and_eq_true, decide_eq_true_eq] at h
  exact Int32.toInt_ofInt_of_le (by omega) (by omega)
theorem mm_tg_use {pc : Nat} {off : Int} (h : 0 ≤ (pc : Int) + off) : (pc : Int) + off = (mm_tg pc off : Int) := by
  unfold mm_tg
  omega
section SIM6
variable {p : Program} {l : Launch} {e : Env} {R : Room} {s : State} {m : MethodId} {args : Array Value} {below : List Frame} {meth : Method} {c : Code} {Q : State → Prop} {cc : ByteArray}
variable {g : mm_G0} {X : Nat → Nat × (Nat → Int32)} {Y : Nat → List Int32} {nL n0 s0 o : Nat} {pc : Nat} {ls : List (Option Value)} {st r : List Value} {σ : mm_S}
theorem mg_mmin (F : mm_Fx g X Y p s m args c cc nL o n0) {i : Nat} {x y : Int32} (hd : decode cc pc = .ok (.invokestatic i, 3)) (hj : mm_jok o i 10 = true) (hR : 12 ≤ R.frames ∧ 400 ≤ R.locals) (hc : σ.1.length - n0 ≤ R.cells ∧ mm_sz σ.1 - s0 ≤ R.slots) (hcat : mm_cats r ≤ 9) (hk : mm_G g nL n0 s0 p l e R s m args below meth c Q (pc + 3, ls, .int (if y < x then y else x) :: r, σ)) : mm_G g nL n0 s0 p l e R s m args below meth c Q (pc, ls, .int y :: .int x :: r, σ) := fun la H locs hl hH hS z1 z2 => va_mmin F.1 F.2.1 (F.2.2.1.trans hl.1.symm) F.2.2.2.1 (F.2.2.2.2.1 _ (mm_jl_use hj)) (F.2.2.2.2.1 _ (mm_all_of mm_js10 rfl)) (F.2.2.2.2.1 _ (mm_all_of mm_im rfl)) (F.2.2.2.2.1 _ (mm_all_of mm_jc10 rfl)) (by omega) (by have := mm_cats_eq g r; rw [this]; omega) hc.1 hc.2 hd (hk la H locs hl hH hS z1 z2)
theorem mg_mmax (F : mm_Fx g X Y p s m args c cc nL o n0) {i : Nat} {x y : Int32} (hd : decode cc pc = .ok (.invokestatic i, 3)) (hj : mm_jok o i 11 = true) (hR : 12 ≤ R.frames ∧ 400 ≤ R.locals) (hc : σ.1.length - n0 ≤ R.cells ∧ mm_sz σ.1 - s0 ≤ R.slots) (hcat : mm_cats r ≤ 9) (hk : mm_G g nL n0 s0 p l e R s m args below meth c Q (pc + 3, ls, .int (if x < y then y else x) :: r, σ)) : mm_G g nL n0 s0 p l e R s m args below meth c Q (pc, ls, .int y :: .int x :: r, σ) := fun la H locs hl hH hS z1 z2 => va_mmax F.1 F.2.1 (F.2.2.1.trans hl.1.symm) F.2.2.2.1 (F.2.2.2.2.1 _ (mm_jl_use hj)) (F.2.2.2.2.1 _ (mm_all_of mm_js11 rfl)) (F.2.2.2.2.1 _ (mm_all_of mm_im rfl)) (F.2.2.2.2.1 _ (mm_all_of mm_jc11 rfl)) (by omega) (by have := mm_cats_eq g r; rw [this]; omega) hc.1 hc.2 hd (hk la H locs hl hH hS z1 z2)
theorem mg_lmin (F : mm_Fx g X Y p s m args c cc nL o n0) {i : Nat} {x y : Int64} (hd : decode cc pc = .ok (.invokestatic i, 3)) (hj : mm_jok o i 12 = true) (hR : 12 ≤ R.frames ∧ 400 ≤ R.locals) (hc : σ.1.length - n0 ≤ R.cells ∧ mm_sz σ.1 - s0 ≤ R.slots) (hcat : mm_cats r ≤ 9) (hk : mm_G g nL n0 s0 p l e R s m args below meth c Q (pc + 3, ls, .long (if y < x then y else x) :: r, σ)) : mm_G g nL n0 s0 p l e R s m args below meth c Q (pc, ls, .long y :: .long x :: r, σ) := fun la H locs hl hH hS z1 z2 => va_mmin_long F.1 F.2.1 (F.2.2.1.trans hl.1.symm) F.2.2.2.1 (F.2.2.2.2.1 _ (mm_jl_use hj)) (F.2.2.2.2.1 _ (mm_all_of mm_js12 rfl)) (F.2.2.2.2.1 _ (mm_all_of mm_im rfl)) (F.2.2.2.2.1 _ (mm_all_of mm_jc12 rfl)) (by omega) (by have := mm_cats_eq g r; rw [this]; omega) hc.1 hc.2 hd (hk la H locs hl hH hS z1 z2)
theorem mg_lmax (F : mm_Fx g X Y p s m args c cc nL o n0) {i : Nat} {x y : Int64} (hd : decode cc pc = .ok (.invokestatic i, 3)) (hj : mm_jok o i 13 = true) (hR : 12 ≤ R.frames ∧ 400 ≤ R.locals) (hc : σ.1.length - n0 ≤ R.cells ∧ mm_sz σ.1 - s0 ≤ R.slots) (hcat : mm_cats r ≤ 9) (hk : mm_G g nL n0 s0 p l e R s m args below meth c Q (pc + 3, ls, .long (if y < x then x else y) :: r, σ)) : mm_G g nL n0 s0 p l e R s m args below meth c Q (pc, ls, .long y :: .long x :: r, σ) := fun la H locs hl hH hS z1 z2 => va_mmax_long F.1 F.2.1 (F.2.2.1.trans hl.1.symm) F.2.2.2.1 (F.2.2.2.2.1 _ (mm_jl_use hj)) (F.2.2.2.2.1 _ (mm_all_of mm_js13 rfl)) (F.2.2.2.2.1 _ (mm_all_of mm_im rfl)) (F.2.2.2.2.1 _ (mm_all_of mm_jc13 rfl)) (by omega) (by have := mm_cats_eq g r; rw [this]; omega) hc.1 hc.2 hd (hk la H locs hl hH hS z1 z2)
theorem mg_objinit (F : mm_Fx g X Y p s m args c cc nL o n0) {i x : Nat} (hd : decode cc pc = .ok (.invokespecial i, 3)) (hj : mm_jok o i 9 = true) (hR : 12 ≤ R.frames ∧ 400 ≤ R.locals) (hcat : mm_cats r ≤ 9) (hk : mm_G g nL n0 s0 p l e R s m args below meth c Q (pc + 3, ls, r, σ)) : mm_G g nL n0 s0 p l e R s m args below meth c Q (pc, ls, .ref x :: r, σ) := fun la H locs hl hH hS z1 z2 => W.objInit F.1 F.2.1 F.2.2.2.1 (F.2.2.2.2.1 _ (mm_jl_use hj)) (F.2.2.2.2.1 _ (mm_all_of mm_ji9 rfl)) (F.2.2.2.2.1 _ (mm_all_of mm_jc9 rfl)) rfl (by rw [F.2.2.1]; exact hl.1) rfl hd (by omega) (by have := mm_cats_eq g r; have h2 : (F0 m pc la (((Value.ref x) :: r).map (mm_vv g))).monitorRoom = 0 := rfl; rw [h2, this]; omega) (hk la H locs hl hH hS z1 z2)
theorem mg_lookup (F : mm_Fx g X Y p s m args c cc nL o n0) {d : Int} {ps : Array (Int × Int)} {len t : Nat} {x : Int32} (hd : decode cc pc = .ok (.lookupswitch d ps, len)) (ht : (pc : Int) + d = (t : Int)) (h1 : ps.toList.all (fun q => mm_sm q.1 && decide (0 ≤ (pc : Int) + q.2)) = true) (h2 : (ps.toList.zip (ps.toList.drop 1)).all (fun (a, next) => a.1 < next.1) = true) (hk : mm_G g nL n0 s0 p l e R s m args below meth c Q (mm_sw (mm_swL pc ps.toList) t x, ls, r, σ)) : mm_G g nL n0 s0 p l e R s m args below meth c Q (pc, ls, .int x :: r, σ) := by
  intro la H locs hl hH hS z1 z2
  have key : ∀ q : List (Int × Int), q.all (fun q => mm_sm q.1 && decide (0 ≤ (pc : Int) + q.2)) = true → (pc : Int) + Op.lookupswitch.offset q d x.toInt = (mm_sw (mm_swL pc q) t x : Int) := by
    intro q
    induction q with
    | nil => intro _; exact ht
    | cons a q ih =>
      obtain ⟨k, off⟩ := a
      intro h
      rw [List.all_cons, Bool.and_eq_true, Bool.and_eq_true] at h
      have hk1 := mm_sm_use h.1.1
      have hk2 := of_decide_eq_true h.1.2
      show (pc : Int) + Op.lookupswitch.offset ((k, off) :: q) d x.toInt = ((if x = Int32.ofInt k then mm_tg pc off else mm_sw (mm_swL pc q) t x : Nat) : Int)
      by_cases hx : x = Int32.ofInt k
      · rw [if_pos hx]
        have : x.toInt = k := by rw [hx]; exact hk1
        simp only [Op.lookupswitch.offset, this, if_true]
        exact mm_tg_use hk2
      · rw [if_neg hx, lv_osw hx hk1]
        exact ih h.2
  exact lv_lookup F.1 F.2.1 hd h2 rfl (key _ h1) (hk la H locs hl hH hS z1 z2)
theorem mg_table (F : mm_Fx g X Y p s m args c cc nL o n0) {d lo hi : Int} {offs : Array Int} {len t : Nat} {x : Int32} (hd : decode cc pc = .ok (.tableswitch d lo hi offs, len)) (ht : (pc : Int) + d = (t : Int)) (hh : hi = lo + (offs.toList.length : Int) - 1) (hlo : mm_sm lo = true) (hhi : mm_sm hi = true) (hne : 0 < offs.toList.length) (h1 : offs.toList.all (fun off => decide (0 ≤ (pc : Int) + off)) = true) (hk : mm_G g nL n0 s0 p l e R s m args below meth c Q (mm_sw (mm_swT pc lo offs.toList) t x, ls, r, σ)) : mm_G g nL n0 s0 p l e R s m args below meth c Q (pc, ls, .int x :: r, σ) := by
  intro la H locs hl hH hS z1 z2
  have hw := hk la H locs hl hH hS z1 z2
  unfold mm_sm at hlo hhi
  simp only [Bool.and_eq_true, decide_eq_true_eq] at hlo hhi
  have key : ∀ (q : List Int) (lo : Int), -2147483648 ≤ lo → lo + (q.length : Int) ≤ 2147483648 → q.all (fun off => decide (0 ≤ (pc : Int) + off)) = true →
      ((x.toInt < lo ∨ lo + (q.length : Int) ≤ x.toInt) → mm_sw (mm_swT pc lo q) t x = t) ∧ (¬ x.toInt < lo → x.toInt < lo + (q.length : Int) → ∃ off, q[(x.toInt - lo).toNat]? = some off ∧ (pc : Int) + off = (mm_sw (mm_swT pc lo q) t x : Int)) := by
    intro q
    induction q with
    | nil =>
      intro lo _ _ _
      refine ⟨fun _ => rfl, fun h1 h2 => ?_⟩
      simp at h2
      omega
    | cons a q ih =>
      intro lo b1 b2 h
      rw [List.all_cons, Bool.and_eq_true] at h
      simp only [List.length_cons] at b2 ⊢
      have hk1 : (Int32.ofInt lo).toInt = lo := Int32.toInt_ofInt_of_le (by omega) (by omega)
      have hstep : mm_sw (mm_swT pc lo (a :: q)) t x = if x = Int32.ofInt lo then mm_tg pc a else mm_sw (mm_swT pc (lo + 1) q) t x := rfl
      obtain ⟨i1, i2⟩ := ih (lo + 1) (by omega) (by omega) h.2
      by_cases hx : x = Int32.ofInt lo
      · have hxe : x.toInt = lo := by rw [hx]; exact hk1
        rw [hstep, if_pos hx]
        refine ⟨fun z => by omega, fun _ _ => ⟨a, ?_, mm_tg_use (of_decide_eq_true h.1)⟩⟩
        rw [hxe, Int.sub_self]
        rfl
      · have hxe : x.toInt ≠ lo := lv_neT hx hk1
        rw [hstep, if_neg hx]
        refine ⟨fun z => i1 (by omega), fun z1 z2 => ?_⟩
        obtain ⟨off, e1, e2⟩ := i2 (by omega) (by omega)
        refine ⟨off, ?_, e2⟩
        rw [show (x.toInt - lo).toNat = (x.toInt - (lo + 1)).toNat + 1 by omega, List.getElem?_cons_succ]
        exact e1
  obtain ⟨k1, k2⟩ := key offs.toList lo hlo.1 (by omega) h1
  by_cases hin : x.toInt < lo ∨ hi < x.toInt
  · rw [k1 (by omega)] at hw
    exact lv_tableOut F.1 F.2.1 hd hin ht hw
  · obtain ⟨off, e1, e2⟩ := k2 (by omega) (by omega)
    exact lv_tableIn F.1 F.2.1 hd (by omega) (by omega) (by rw [← Array.getElem?_toList]; exact e1) e2 hw
theorem mg_strlen (F : mm_Fx g X Y p s m args c cc nL o n0) {i x : Nat} (hd : decode cc pc = .ok (.invokevirtual i, 3)) (hj : mm_jok o i 14 = true) (hx : 2000000 ≤ x) (hx2 : x < 2000013) (hR : 12 ≤ R.frames ∧ 400 ≤ R.locals) (hc : σ.1.length - n0 ≤ R.cells ∧ mm_sz σ.1 - s0 ≤ R.slots) (hcat : mm_cats r ≤ 8) (hk : mm_G g nL n0 s0 p l e R s m args below meth c Q (pc + 3, ls, .int (Int32.ofNat (Y (x - 2000000)).length) :: r, σ)) : mm_G g nL n0 s0 p l e R s m args below meth c Q (pc, ls, .ref x :: r, σ) := by
  intro la H locs hl hH hS z1 z2
  have hw := hk la H locs hl hH hS z1 z2
  obtain ⟨a1, -⟩ := mj_str F.2.2.2.2.2.1 (j := x - 2000000) (by omega)
  obtain ⟨cell, q1, q2, q3, -⟩ := a1.kept hS.2.1
  have e4 : mm_vv g (.ref x) = .ref (mm_ex g (2000000 + (x - 2000000))) := by
    simp only [mm_vv, mm_ad]
    rw [if_neg (by omega), show 2000000 + (x - 2000000) = x by omega]
  simp only [List.map_cons, e4]
  have w1 := mm_jl_use hj
  have w2 := mm_all_of (i := 4219) (w := .selects "java/lang/String" mj_len mj_len) (by decide +kernel) rfl
  have w5 := mm_all_of (i := 4218) (w := .instanceMethod mj_len) (by decide +kernel) rfl
  have w3 := mm_all_of (i := 4220) (w := .code mj_len prog_16_method_54_code 1 (some .int)) rfl rfl
  have w4 := mm_all_of (i := 1015) (w := .initialized "java/lang/String") (by decide +kernel) rfl
  refine mj_callk (va_runV (As := []) (rest := r.map (mm_vv g)) ⟨F.1, F.2.1, F.2.2.1, F.2.2.2.1, F.2.2.2.2.1⟩ (mj_c_len (g := g) (X := X) (Y := Y) (j := x - 2000000) (by omega)) (cwV (own := mm_own o) (index := i) (C := "java/lang/String") 0 F.2.2.2.2.1 (mm_good (ws := wsV (mm_own o) i "java/lang/String" mj_len (mj_w mj_len prog_16_method_54_code 1 (some .int))) (by
    intro w hw
    simp only [wsV, mj_w, List.mem_append, List.mem_cons, List.not_mem_nil, or_false] at hw
    rcases hw with (rfl | rfl | rfl | rfl) | rfl | hw
    · exact w1
    · exact w5
    · exact w2
    · exact w4
    · exact w3
    · exact hw)) rfl rfl rfl (by decide +kernel) ⟨by simp only [mj_rm]; omega, by simp only [mj_rm]; omega⟩) ⟨mj_blind g X Y _, ⟨cell, q1, q2, q3⟩, fun U hU hW => ⟨rfl, F.2.2.2.2.2.1.enter hW hU hS⟩⟩ rfl rfl hl.1 rfl (lv_room (by rw [mm_cats_eq]; exact hcat)) hd hc) ?_
  rw [sb_shr0]
  exact hw
theorem mg_charat (F : mm_Fx g X Y p s m args c cc nL o n0) {i x : Nat} {j : Int32} (hd : decode cc pc = .ok (.invokevirtual i, 3)) (hj : mm_jok o i 15 = true) (hx : 2000000 ≤ x) (hx2 : x < 2000013) (hin : mm_inb j (Y (x - 2000000)).length = true) (hR : 12 ≤ R.frames ∧ 400 ≤ R.locals) (hc : σ.1.length - n0 ≤ R.cells ∧ mm_sz σ.1 - s0 ≤ R.slots) (hcat : mm_cats r ≤ 8) (hk : mm_G g nL n0 s0 p l e R s m args below meth c Q (pc + 3, ls, .int ((Y (x - 2000000)).getD j.toNatClampNeg 0) :: r, σ)) : mm_G g nL n0 s0 p l e R s m args below meth c Q (pc, ls, .int j :: .ref x :: r, σ) := by
  intro la H locs hl hH hS z1 z2
  have hw := hk la H locs hl hH hS z1 z2
  obtain ⟨a1, -, -, -, hYt⟩ := mj_str F.2.2.2.2.2.1 (j := x - 2000000) (by omega)
  obtain ⟨cell, q1, q2, q3, -⟩ := a1.kept hS.2.1
  have e4 : mm_vv g (.ref x) = .ref (mm_ex g (2000000 + (x - 2000000))) := by
    simp only [mm_vv, mm_ad]
    rw [if_neg (by omega), show 2000000 + (x - 2000000) = x by omega]
  have hvp := mm_inb_use hin
  have hlt : j.toNatClampNeg < (Y (x - 2000000)).length := Nat.not_le.mp fun q => hvp (Or.inr q)
  obtain ⟨c1, c2⟩ := hYt.2 _ hlt
  have e5 : mm_vv g (.int j) = .int j := rfl
  simp only [List.map_cons, e4, e5]
  have w1 := mm_jl_use hj
  have w2 := mm_all_of (i := 4229) (w := .selects "java/lang/String" mj_char mj_char) (by decide +kernel) rfl
  have w5 := mm_all_of (i := 4228) (w := .instanceMethod mj_char) (by decide +kernel) rfl
  have w3 := mm_all_of (i := 4230) (w := .code mj_char prog_16_method_56_code 2 (some .char)) rfl rfl
  have w4 := mm_all_of (i := 1015) (w := .initialized "java/lang/String") (by decide +kernel) rfl
  refine mj_callk (va_runV (As := [.int j]) (rest := r.map (mm_vv g)) ⟨F.1, F.2.1, F.2.2.1, F.2.2.2.1, F.2.2.2.2.1⟩ (mj_c_char (g := g) (X := X) (Y := Y) (j := x - 2000000) (by omega) hvp hYt.1 (by rw [c1]; exact c2)) (cwV (own := mm_own o) (index := i) (C := "java/lang/String") 1 F.2.2.2.2.1 (mm_good (ws := wsV (mm_own o) i "java/lang/String" mj_char (mj_w mj_char prog_16_method_56_code 2 (some .char))) (by
    intro w hw
    simp only [wsV, mj_w, List.mem_append, List.mem_cons, List.not_mem_nil, or_false] at hw
    rcases hw with (rfl | rfl | rfl | rfl) | rfl | hw
    · exact w1
    · exact w5
    · exact w2
    · exact w4
    · exact w3
    · exact hw)) rfl rfl rfl (by decide +kernel) ⟨by simp only [mj_rm]; omega, by simp only [mj_rm]; omega⟩) ⟨mj_blind g X Y _, ⟨cell, q1, q2, q3⟩, fun U hU hW => ⟨rfl, F.2.2.2.2.2.1.enter hW hU hS⟩⟩ rfl rfl hl.1 rfl (lv_room (by rw [mm_cats_eq]; exact hcat)) hd hc) ?_
  rw [c1]
  exact hw
end SIM6
