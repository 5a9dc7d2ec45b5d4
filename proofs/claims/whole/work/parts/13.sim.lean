/-! NEW CELLS. -/
theorem mm_wF_app (g : mm_G0) (σ : mm_S) : ∀ (a b : List mm_Kd) (k : Nat), mm_wF g σ k (a ++ b) = mm_wF g σ k a ++ mm_wF g σ (k + a.length) b
  | [], b, k => rfl
  | x :: a, b, k => by
    simp only [List.cons_append, mm_wF, mm_wF_app g σ a b (k + 1), List.length_cons]
    rw [show k + 1 + a.length = k + (a.length + 1) by omega]
theorem mm_wF_congr {g : mm_G0} {σ τ : mm_S} {n : Nat} (h : ∀ i, i < n → τ.2.1 i = σ.2.1 i ∧ τ.2.2.1 i = σ.2.2.1 i ∧ τ.2.2.2 i = σ.2.2.2 i) : ∀ (a : List mm_Kd) (k : Nat), k + a.length ≤ n → mm_wF g τ k a = mm_wF g σ k a
  | [], k, _ => rfl
  | x :: a, k, hk => by
    simp only [List.length_cons] at hk
    obtain ⟨h1, h2, h3⟩ := h k (by omega)
    simp only [mm_wF, mm_ce_congr h1 h2 h3, mm_wF_congr h a (k + 1) (by omega)]
theorem mm_ws_new (g : mm_G0) (σ : mm_S) (kd : mm_Kd) : mm_ws g (mm_new σ kd) = mm_ws g σ ++ [(mm_B g + σ.1.length, mm_ce g (mm_new σ kd) σ.1.length kd)] := by
  show mm_wF g (mm_new σ kd) 0 (σ.1 ++ [kd]) = _
  rw [mm_wF_app, mm_wF_congr (σ := σ) (n := σ.1.length) (fun i hi => ?_) σ.1 0 (by omega)]
  · simp [mm_wF, mm_ws]
  · have hne : i ≠ σ.1.length := by omega
    refine ⟨?_, ?_, ?_⟩ <;> (funext b; simp [mm_new, hne])
theorem mm_q_eq {g : mm_G0} {σ : mm_S} {q : Nat} {e : va_E} (hD : va_D (mm_Ao g) (mm_ws g σ ++ [(q, e)])) (hq : q < mm_B g + σ.1.length + 1) : q = mm_B g + σ.1.length := by
  have hl : (mm_ws g σ).length = σ.1.length := by
    have key : ∀ (K : List mm_Kd) (k : Nat), (mm_wF g σ k K).length = K.length := by
      intro K
      induction K with
      | nil => intro k; rfl
      | cons a r ih => intro k; simp [mm_wF, ih]
    exact key _ _
  have hlast : (mm_ws g σ ++ [(q, e)])[σ.1.length]? = some (q, e) := by
    rw [List.getElem?_append_right (by omega), hl, Nat.sub_self]
    rfl
  have hB : mm_B g ≤ q := hD.2 _ _ hlast
  rcases Nat.lt_or_ge q (mm_B g + σ.1.length) with z | z
  · exfalso
    have hi : q - mm_B g < σ.1.length := by omega
    have h1 := mm_ws_all g σ (q - mm_B g)
    rw [List.getElem?_eq_getElem hi] at h1
    have h2 : (mm_ws g σ ++ [(q, e)])[q - mm_B g]? = some (mm_B g + (q - mm_B g), mm_ce g σ (q - mm_B g) σ.1[q - mm_B g]) := by
      rw [List.getElem?_append_left (by omega)]
      exact h1
    have := hD.1 _ _ _ _ h2 hlast (by show mm_B g + (q - mm_B g) = q; omega)
    omega
  · omega
theorem mm_new_len (σ : mm_S) (kd : mm_Kd) : (mm_new σ kd).1.length = σ.1.length + 1 := by simp [mm_new]
theorem mm_new_sz (σ : mm_S) (kd : mm_Kd) : mm_sz (mm_new σ kd).1 = mm_sz σ.1 + mm_sz [kd] := mm_sz_app _ _
theorem mm_insA (a : Nat) (C : String) (T : u_T) (N : Nat) (h : mm_cls[a]? = some (C, T, N)) : Cond.instantiable C N ∈ mm_ALL ∧ Cond.initialized C ∈ mm_ALL := by
  match a, h with
  | 0, h => cases h; exact ⟨mm_all_of (mm_ins_ok (0, _) (List.mem_of_getElem? (i := 0) rfl)).1 rfl, mm_all_of (mm_ins_ok (0, _) (List.mem_of_getElem? (i := 0) rfl)).2 rfl⟩
  | 1, h => cases h; exact ⟨mm_all_of (mm_ins_ok (1, _) (List.mem_of_getElem? (i := 1) rfl)).1 rfl, mm_all_of (mm_ins_ok (1, _) (List.mem_of_getElem? (i := 1) rfl)).2 rfl⟩
  | 2, h => cases h; exact ⟨mm_all_of (mm_ins_ok (2, _) (List.mem_of_getElem? (i := 2) rfl)).1 rfl, mm_all_of (mm_ins_ok (2, _) (List.mem_of_getElem? (i := 2) rfl)).2 rfl⟩
  | 3, h => cases h; exact ⟨mm_all_of (mm_ins_ok (3, _) (List.mem_of_getElem? (i := 3) rfl)).1 rfl, mm_all_of (mm_ins_ok (3, _) (List.mem_of_getElem? (i := 3) rfl)).2 rfl⟩
  | 4, h => cases h; exact ⟨mm_all_of (mm_ins_ok (4, _) (List.mem_of_getElem? (i := 4) rfl)).1 rfl, mm_all_of (mm_ins_ok (4, _) (List.mem_of_getElem? (i := 4) rfl)).2 rfl⟩
  | 5, h => cases h; exact ⟨mm_all_of (mm_ins_ok (5, _) (List.mem_of_getElem? (i := 5) rfl)).1 rfl, mm_all_of (mm_ins_ok (5, _) (List.mem_of_getElem? (i := 5) rfl)).2 rfl⟩
  | 6, h => cases h; exact ⟨mm_all_of (mm_ins_ok (6, _) (List.mem_of_getElem? (i := 6) rfl)).1 rfl, mm_all_of (mm_ins_ok (6, _) (List.mem_of_getElem? (i := 6) rfl)).2 rfl⟩
  | 7, h => cases h; exact ⟨mm_all_of (mm_ins_ok (7, _) (List.mem_of_getElem? (i := 7) rfl)).1 rfl, mm_all_of (mm_ins_ok (7, _) (List.mem_of_getElem? (i := 7) rfl)).2 rfl⟩
  | 8, h => cases h; exact ⟨mm_all_of (mm_ins_ok (8, _) (List.mem_of_getElem? (i := 8) rfl)).1 rfl, mm_all_of (mm_ins_ok (8, _) (List.mem_of_getElem? (i := 8) rfl)).2 rfl⟩
  | 9, h => cases h; exact ⟨mm_all_of (mm_ins_ok (9, _) (List.mem_of_getElem? (i := 9) rfl)).1 rfl, mm_all_of (mm_ins_ok (9, _) (List.mem_of_getElem? (i := 9) rfl)).2 rfl⟩
  | 10, h => cases h; exact ⟨mm_all_of (mm_ins_ok (10, _) (List.mem_of_getElem? (i := 10) rfl)).1 rfl, mm_all_of (mm_ins_ok (10, _) (List.mem_of_getElem? (i := 10) rfl)).2 rfl⟩
  | 11, h => cases h; exact ⟨mm_all_of (mm_ins_ok (11, _) (List.mem_of_getElem? (i := 11) rfl)).1 rfl, mm_all_of (mm_ins_ok (11, _) (List.mem_of_getElem? (i := 11) rfl)).2 rfl⟩
  | 12, h => cases h; exact ⟨mm_all_of (mm_ins_ok (12, _) (List.mem_of_getElem? (i := 12) rfl)).1 rfl, mm_all_of (mm_ins_ok (12, _) (List.mem_of_getElem? (i := 12) rfl)).2 rfl⟩
  | n + 13, h => simp [mm_cls] at h
section SIM4
variable {p : Program} {l : Launch} {e : Env} {R : Room} {s : State} {m : MethodId} {args : Array Value} {below : List Frame} {meth : Method} {c : Code} {Q : State → Prop} {cc : ByteArray}
variable {g : mm_G0} {X : Nat → Nat × (Nat → Int32)} {Y : Nat → List Int32} {nL n0 s0 o : Nat} {pc : Nat} {ls : List (Option Value)} {st r : List Value} {σ : mm_S}
/-- behind a row that made the cell e at q -/
theorem mm_made (F : mm_Fx g X Y p s m args c cc nL o n0) {kd : mm_Kd} {q pc2 : Nat} {e1 : va_E} {H1 : Heap} {locs : List Loc} {la : Array Slot} (hl : mm_L g la nL ls) (hP : va_P (mm_D g) mm_cls (mm_ws g σ ++ [(q, e1)]) H1) (hD : va_D (mm_Ao g) (mm_ws g σ ++ [(q, e1)])) (hS : va_S (mm_Ao g) s.heap H1 locs) (z1 : n0 ≤ σ.1.length) (z2 : s0 ≤ mm_sz σ.1) (he : e1 = mm_ce g (mm_new σ kd) σ.1.length kd) (hx : σ.1.length < 1000000)
    (hk : mm_G g nL n0 s0 p l e R s m args below meth c Q (pc2, ls, .ref σ.1.length :: r, mm_new σ kd)) : W p l e R s m args below meth c H1 locs (σ.1.length - n0 + 1) (mm_sz σ.1 - s0 + mm_sz [kd]) Q (F0 m pc2 la (.ref q :: r.map (mm_vv g))) := by
  refine mm_W_size (fun hz => ?_)
  have hlt : q < H1.size := by
    have hlen : (mm_ws g σ ++ [(q, e1)])[(mm_ws g σ).length]? = some (q, e1) := by
      rw [List.getElem?_append_right (Nat.le_refl _), Nat.sub_self]; rfl
    exact (hP _ _ hlen).lt
  have hs := F.2.2.2.2.2.2
  have hq := mm_q_eq hD (by omega)
  subst hq
  rw [he, ← mm_ws_new] at hP
  have hw := hk la H1 locs hl hP hS (by show n0 ≤ (mm_new σ kd).1.length; rw [mm_new_len]; omega) (by show s0 ≤ mm_sz (mm_new σ kd).1; rw [mm_new_sz]; omega)
  have e2 : (mm_new σ kd).1.length - n0 = σ.1.length - n0 + 1 := by rw [mm_new_len]; omega
  have e3 : mm_sz (mm_new σ kd).1 - s0 = mm_sz σ.1 - s0 + mm_sz [kd] := by rw [mm_new_sz]; omega
  simp only [List.map_cons, mm_vv_in hx, e2, e3] at hw
  exact hw
theorem mm_nl_use {o i a : Nat} (h : mm_nok o i a = true) : ∃ C T N, mm_cls[a]? = some (C, T, N) ∧ Cond.classLink (mm_own o) i C ∈ mm_ALL ∧ Cond.instantiable C N ∈ mm_ALL ∧ Cond.initialized C ∈ mm_ALL := by
  obtain ⟨q, h1, h2⟩ := mm_any h
  have h3 := List.all_eq_true.mp mm_cl_ok _ h1
  simp only [Bool.and_eq_true] at h2
  have e1 := mm_beq h2.1
  have e2 := mm_beq h2.2
  dsimp only at h3
  rw [e2, e1] at h3
  cases hc : mm_cls[a]? with
  | none => rw [hc] at h3; cases h3
  | some r =>
    obtain ⟨C, T, N⟩ := r
    rw [hc] at h3
    have h4 := of_decide_eq_true h3
    obtain ⟨k1, k2⟩ := mm_insA a C T N hc
    exact ⟨C, T, N, rfl, mm_all_of h4 rfl, k1, k2⟩
theorem mg_new (F : mm_Fx g X Y p s m args c cc nL o n0) {i a : Nat} (hd : decode cc pc = .ok (.new i, 3)) (hn : mm_nok o i a = true) (hx : σ.1.length < 1000000) (hr : (mm_new σ (.inl a)).1.length - n0 ≤ R.cells ∧ mm_sz (mm_new σ (.inl a)).1 - s0 ≤ R.slots) (hk : mm_G g nL n0 s0 p l e R s m args below meth c Q (pc + 3, ls, .ref σ.1.length :: st, mm_new σ (.inl a))) : mm_G g nL n0 s0 p l e R s m args below meth c Q (pc, ls, st, σ) := by
  intro la H locs hl hH hS z1 z2
  obtain ⟨C, T, N, hc, k1, k2, k3⟩ := mm_nl_use hn
  obtain ⟨hin, htys, -, hN⟩ := mm_class hc
  rw [mm_new_len, mm_new_sz] at hr
  have hsz : mm_sz [Sum.inl a] = N := by rw [hN]; rfl
  rw [hsz] at hr
  dsimp only at z1 z2 hl hH
  have hA : ∀ q, s.heap.size ≤ q → mm_Ao g q := fun q h => Nat.le_trans F.2.2.2.2.2.1.2.1 h
  refine va_new (fs := (List.range (mm_nf a)).map (fun j => mm_fv g (mm_new σ (.inl a)) σ.1.length (mm_ft a j) j)) F.1 F.2.1 F.2.2.2.2.1 hin (mm_ty0 T) (mm_ty0_ok hc) F.2.2.2.1 (F.2.2.2.2.1 _ k1) (F.2.2.2.2.1 _ k2) (F.2.2.2.2.1 _ k3) F.2.2.2.2.2.1.1 hH (mm_wD g σ) hS hA hc ?_ (by show σ.1.length - n0 + 1 ≤ R.cells; omega) (by show mm_sz σ.1 - s0 + N ≤ R.slots; omega) hd (fun q H1 hP hD hS1 => ?_)
  · intro j hj
    obtain ⟨t1, t2, -⟩ := htys j hj
    have hty := mm_ty0_ok hc j hj
    rw [hty] at t1
    have hj2 : j < mm_nf a := by rw [← hN]; exact hj
    have hV : vp_V ((List.range (mm_nf a)).map (fun j => mm_fv g (mm_new σ (.inl a)) σ.1.length (mm_ft a j) j)) j = mm_fv g (mm_new σ (.inl a)) σ.1.length (mm_ft a j) j := by
      simp [vp_V, hj2]
    rw [hV, ← t1]
    cases htt : mm_ty0 T j <;> rw [htt] at t1 <;> simp [mm_tyc, mm_fv, mm_new, defaultValue, va_rf]
    all_goals (rw [← t1] at t2; exact absurd t2 (by decide))
  · have := mm_made F (r := st) hl hP hD hS1 z1 z2 rfl hx hk
    rw [hsz] at this
    exact this
theorem mm_cid {cA cB : ClassId} {ty : FieldType} {t0 : Nat} {tys : List (ClassId × FieldType)} {D : va_G} {cl : List vw_C} (hK : va_K D cl (tys ++ [(cA, ty)]) s) (ht : tys[t0]? = some (cB, ty)) : cA = cB := by
  have hlt := (List.getElem?_eq_some_iff.mp ht).1
  have h1 := (hK.2 tys.length (cA, ty) (by rw [List.getElem?_append_right (Nat.le_refl _), Nat.sub_self]; rfl)).2
  have h2 := (hK.2 t0 (cB, ty) (by rw [List.getElem?_append_left hlt]; exact ht)).2
  cases ty with
  | object C =>
    obtain ⟨_, _, _, _, _, h1⟩ := h1
    obtain ⟨_, _, _, _, _, h2⟩ := h2
    exact Option.some.inj (h1.symm.trans h2)
  | _ =>
    have h1 : s.vm.findClass _ = some cA := h1
    have h2 : s.vm.findClass _ = some cB := h2
    exact Option.some.inj (h1.symm.trans h2)
theorem mg_newarrayI (F : mm_Fx g X Y p s m args c cc nL o n0) {n : Int32} (hd : decode cc pc = .ok (.newarray .int, 2)) (hn : ¬ n < 0) (hb : n.toNatClampNeg < 60000) (hx : σ.1.length < 1000000) (hr : (mm_new σ (.inr (0, n.toNatClampNeg))).1.length - n0 ≤ R.cells ∧ mm_sz (mm_new σ (.inr (0, n.toNatClampNeg))).1 - s0 ≤ R.slots) (hk : mm_G g nL n0 s0 p l e R s m args below meth c Q (pc + 2, ls, .ref σ.1.length :: r, mm_new σ (.inr (0, n.toNatClampNeg)))) : mm_G g nL n0 s0 p l e R s m args below meth c Q (pc, ls, .int n :: r, σ) := by
  intro la H locs hl hH hS z1 z2
  rw [mm_new_len, mm_new_sz] at hr
  have hsz : mm_sz [Sum.inr (0, n.toNatClampNeg)] = n.toNatClampNeg := rfl
  rw [hsz] at hr
  dsimp only at z1 z2 hl hH
  have hA : ∀ q, s.heap.size ≤ q → mm_Ao g q := fun q h => Nat.le_trans F.2.2.2.2.2.1.2.1 h
  refine va_newa (atype := .int) (a0 := (n.toNatClampNeg, .inl (fun _ => 0))) F.1 F.2.1 (F.2.2.2.2.1 _ (mm_all_of mm_ac_int rfl)) rfl F.2.2.2.2.2.1.1 hH (mm_wD g σ) hS hA (fun _ => rfl) hn rfl (by show n.toNatClampNeg * 4 ≤ 536870912; omega) (by show σ.1.length - n0 + 1 ≤ R.cells; omega) (by show mm_sz σ.1 - s0 + n.toNatClampNeg ≤ R.slots; omega) hd (fun q cA H1 hK hP hD hS1 => ?_)
  have hc := mm_cid hK (t0 := 0) rfl
  subst hc
  refine mm_made F (kd := .inr (0, n.toNatClampNeg)) (r := r) hl hP hD hS1 z1 z2 ?_ hx hk
  simp [mm_ce, mm_new]
theorem mg_newarrayL (F : mm_Fx g X Y p s m args c cc nL o n0) {n : Int32} (hd : decode cc pc = .ok (.newarray .long, 2)) (hn : ¬ n < 0) (hb : n.toNatClampNeg < 60000) (hx : σ.1.length < 1000000) (hr : (mm_new σ (.inr (1, n.toNatClampNeg))).1.length - n0 ≤ R.cells ∧ mm_sz (mm_new σ (.inr (1, n.toNatClampNeg))).1 - s0 ≤ R.slots) (hk : mm_G g nL n0 s0 p l e R s m args below meth c Q (pc + 2, ls, .ref σ.1.length :: r, mm_new σ (.inr (1, n.toNatClampNeg)))) : mm_G g nL n0 s0 p l e R s m args below meth c Q (pc, ls, .int n :: r, σ) := by
  intro la H locs hl hH hS z1 z2
  rw [mm_new_len, mm_new_sz] at hr
  have hsz : mm_sz [Sum.inr (1, n.toNatClampNeg)] = n.toNatClampNeg := rfl
  rw [hsz] at hr
  dsimp only at z1 z2 hl hH
  have hA : ∀ q, s.heap.size ≤ q → mm_Ao g q := fun q h => Nat.le_trans F.2.2.2.2.2.1.2.1 h
  refine va_newa (atype := .long) (a0 := (n.toNatClampNeg, .inr (.inl (fun _ => 0)))) F.1 F.2.1 (F.2.2.2.2.1 _ (mm_all_of mm_ac_long rfl)) rfl F.2.2.2.2.2.1.1 hH (mm_wD g σ) hS hA (fun _ => rfl) hn rfl (by show n.toNatClampNeg * 8 ≤ 536870912; omega) (by show σ.1.length - n0 + 1 ≤ R.cells; omega) (by show mm_sz σ.1 - s0 + n.toNatClampNeg ≤ R.slots; omega) hd (fun q cA H1 hK hP hD hS1 => ?_)
  have hc := mm_cid hK (t0 := 1) rfl
  subst hc
  refine mm_made F (kd := .inr (1, n.toNatClampNeg)) (r := r) hl hP hD hS1 z1 z2 ?_ hx hk
  simp [mm_ce, mm_new]
theorem mg_newarrayZ (F : mm_Fx g X Y p s m args c cc nL o n0) {n : Int32} (hd : decode cc pc = .ok (.newarray .boolean, 2)) (hn : ¬ n < 0) (hb : n.toNatClampNeg < 60000) (hx : σ.1.length < 1000000) (hr : (mm_new σ (.inr (2, n.toNatClampNeg))).1.length - n0 ≤ R.cells ∧ mm_sz (mm_new σ (.inr (2, n.toNatClampNeg))).1 - s0 ≤ R.slots) (hk : mm_G g nL n0 s0 p l e R s m args below meth c Q (pc + 2, ls, .ref σ.1.length :: r, mm_new σ (.inr (2, n.toNatClampNeg)))) : mm_G g nL n0 s0 p l e R s m args below meth c Q (pc, ls, .int n :: r, σ) := by
  intro la H locs hl hH hS z1 z2
  rw [mm_new_len, mm_new_sz] at hr
  have hsz : mm_sz [Sum.inr (2, n.toNatClampNeg)] = n.toNatClampNeg := rfl
  rw [hsz] at hr
  dsimp only at z1 z2 hl hH
  have hA : ∀ q, s.heap.size ≤ q → mm_Ao g q := fun q h => Nat.le_trans F.2.2.2.2.2.1.2.1 h
  refine va_newa (atype := .boolean) (a0 := (n.toNatClampNeg, .inl (fun _ => 0))) F.1 F.2.1 (F.2.2.2.2.1 _ (mm_all_of mm_ac_boolean rfl)) rfl F.2.2.2.2.2.1.1 hH (mm_wD g σ) hS hA (fun _ => rfl) hn rfl (by show n.toNatClampNeg * 1 ≤ 536870912; omega) (by show σ.1.length - n0 + 1 ≤ R.cells; omega) (by show mm_sz σ.1 - s0 + n.toNatClampNeg ≤ R.slots; omega) hd (fun q cA H1 hK hP hD hS1 => ?_)
  have hc := mm_cid hK (t0 := 2) rfl
  subst hc
  refine mm_made F (kd := .inr (2, n.toNatClampNeg)) (r := r) hl hP hD hS1 z1 z2 ?_ hx hk
  simp [mm_ce, mm_new]
theorem mg_anewarray (F : mm_Fx g X Y p s m args c cc nL o n0) {i : Nat} {n : Int32} (hd : decode cc pc = .ok (.anewarray i, 3)) (hno : mm_nok o i 6 = true) (hn : ¬ n < 0) (hb : n.toNatClampNeg < 60000) (hx : σ.1.length < 1000000) (hr : (mm_new σ (.inr (3, n.toNatClampNeg))).1.length - n0 ≤ R.cells ∧ mm_sz (mm_new σ (.inr (3, n.toNatClampNeg))).1 - s0 ≤ R.slots) (hk : mm_G g nL n0 s0 p l e R s m args below meth c Q (pc + 3, ls, .ref σ.1.length :: r, mm_new σ (.inr (3, n.toNatClampNeg)))) : mm_G g nL n0 s0 p l e R s m args below meth c Q (pc, ls, .int n :: r, σ) := by
  intro la H locs hl hH hS z1 z2
  rw [mm_new_len, mm_new_sz] at hr
  have hsz : mm_sz [Sum.inr (3, n.toNatClampNeg)] = n.toNatClampNeg := rfl
  rw [hsz] at hr
  dsimp only at z1 z2 hl hH
  obtain ⟨C, T, N, hc, k1, -, -⟩ := mm_nl_use hno
  have hCe : C = "GasTown$Act" := by
    have h6 : mm_cls[6]? = some ("GasTown$Act", mm_T mm_F6, 13) := rfl
    rw [h6] at hc
    cases hc
    rfl
  subst hCe
  have hA : ∀ q, s.heap.size ≤ q → mm_Ao g q := fun q h => Nat.le_trans F.2.2.2.2.2.1.2.1 h
  refine va_newq F.1 F.2.1 F.2.2.2.1 (F.2.2.2.2.1 _ k1) F.2.2.2.2.2.1.2.2.2.2.2.1 F.2.2.2.2.2.1.1 hH (mm_wD g σ) hS hA hn rfl (by omega) (by show σ.1.length - n0 + 1 ≤ R.cells; omega) (by show mm_sz σ.1 - s0 + n.toNatClampNeg ≤ R.slots; omega) hd (fun q cA H1 hK hP hD hS1 => ?_)
  have hc2 := mm_cid hK (t0 := 3) rfl
  subst hc2
  refine mm_made F (kd := .inr (3, n.toNatClampNeg)) (r := r) hl hP hD hS1 z1 z2 ?_ hx hk
  simp [mm_ce, mm_new]
end SIM4
