/-! CALLS. -/
def mm_row (id : Nat) : mm_Mt := (mm_tab[id]?).getD (0, ⟨"", "", ""⟩, ⟨#[]⟩, 0, none, [])
def mm_w (id : Nat) : List Cond := mm_cwd (mm_row id) :: mm_ALL
def mm_Pc (g : mm_G0) (X : Nat → Nat × (Nat → Int32)) (Y : Nat → List Int32) (as : List Value) (σ : mm_S) : Array Value → State → Prop := fun a U => a = (as.map (mm_vv g)).toArray ∧ U.heap.size = mm_B g + σ.1.length ∧ mm_H g σ U.heap ∧ mm_A g X Y U
def mm_Qc (g : mm_G0) (r : mm_R) : Array Value → State → Outcome → State → Prop := fun _ st oc t => oc = .returned (r.1.map (mm_vv g)) ∧ mm_H g r.2 t.heap ∧ va_F (mm_Ao g) st t
def mm_rm (d n z : Nat) : Room := { frames := d + 12, cells := n, slots := z, locals := 60 * d + 400 }
/-- a call that ends: as a contract -/
def mm_Con (g : mm_G0) (X : Nat → Nat × (Nat → Int32)) (Y : Nat → List Int32) (l : Launch) (d id : Nat) (as : List Value) (σ : mm_S) (r : mm_R) : Prop :=
  σ.1.length ≤ r.2.1.length ∧ mm_sz σ.1 ≤ mm_sz r.2.1 ∧ Met l (mm_nm id) (mm_w id) (mm_rm d (r.2.1.length - σ.1.length) (mm_sz r.2.1 - mm_sz σ.1)) (mm_Pc g X Y as σ) (mm_Qc g r) (r.2.1.length - σ.1.length) (mm_sz r.2.1 - mm_sz σ.1) (mm_Ao g)
theorem mm_Pc_blind (g : mm_G0) (X : Nat → Nat × (Nat → Int32)) (Y : Nat → List Int32) (as : List Value) (σ : mm_S) : FrameBlind (mm_Pc g X Y as σ) := fun a U gf mk h => ⟨h.1, h.2.1, h.2.2.1, h.2.2.2.blind⟩
theorem mm_nm_row {id : Nat} {r : mm_Mt} (h : mm_tab[id]? = some r) : mm_row id = r ∧ mm_nm id = r.2.1 := by
  obtain ⟨o, y, q⟩ := r
  refine ⟨?_, ?_⟩
  · unfold mm_row; rw [h]; rfl
  · unfold mm_nm; rw [h]
theorem mm_tab_len : mm_tab.length = 252 := by decide +kernel
theorem mm_tab_at {id : Nat} (h : id < 252) : mm_tab[id]? = some (mm_row id) := by
  have hl : id < mm_tab.length := by rw [mm_tab_len]; exact h
  have e := List.getElem?_eq_getElem hl
  rw [(mm_nm_row e).1]
  exact e
theorem mm_code_in {id : Nat} (h : id < 251) : mm_cwd (mm_row id) ∈ mm_ALL := by
  have e := congrArg (fun l => l[id]?) mm_cod_ok
  simp only [List.getElem?_map, List.getElem?_take] at e
  rw [if_pos h, mm_tab_at (by omega)] at e
  simp only [Option.map_some] at e
  cases hp : mm_codP[id]? with
  | none => rw [hp] at e; cases e
  | some q =>
    rw [hp] at e
    simp only [Option.map_some, Option.some.injEq] at e
    exact mm_all_of e rfl
theorem mm_w_in {id : Nat} (h : id < 251) : ∀ w ∈ mm_w id, w ∈ mm_ALL := by
  intro w hw
  rcases List.mem_cons.mp hw with rfl | hw
  · exact mm_code_in h
  · exact hw
theorem mm_good {ws : List Cond} (h : ∀ w ∈ ws, w ∈ mm_ALL) : GoodIn mm_ALL ws := fun w hw => ⟨h w hw, good_of_word (List.mem_filter.mp (h w hw)).2⟩
theorem mm_w_eq {id : Nat} (h : id < 252) : mm_w id = Cond.code (mm_nm id) (mm_row id).2.2.1 (mm_row id).2.2.2.1 (mm_row id).2.2.2.2.1 :: mm_ALL := by
  rw [(mm_nm_row (mm_tab_at h)).2]; rfl
theorem mm_np_use {id : Nat} (h : id < 252) : mm_npar id = some (mm_nps.getD id 0) := by
  have hl : mm_nps.length = 252 := by decide +kernel
  have key : ∀ (l : List Nat) (n i : Nat) (x : Nat), l[i]? = some x → (n + i, x) ∈ mm_ix n l := by
    intro l
    induction l with
    | nil => intro n i x hx; simp at hx
    | cons a r ih =>
      intro n i x hx
      cases i with
      | zero =>
        rw [List.getElem?_cons_zero] at hx
        cases hx
        exact List.mem_cons_self
      | succ i =>
        rw [List.getElem?_cons_succ] at hx
        have := ih (n + 1) i x hx
        rw [show n + (i + 1) = n + 1 + i by omega]
        exact List.mem_cons_of_mem _ this
  have hx := List.getElem?_eq_getElem (l := mm_nps) (i := id) (by rw [hl]; exact h)
  have h1 := List.all_eq_true.mp mm_np_ok _ (key mm_nps 0 id _ hx)
  have h2 := of_decide_eq_true h1
  rw [Nat.zero_add] at h2
  rw [h2]
  simp [List.getD, hx]
theorem mm_cno_use {id : Nat} (h : id < 252) : mm_own (mm_cnos.getD id 0) = (mm_nm id).cls := by
  have hl : mm_cnos.length = 252 := by decide +kernel
  have key : ∀ (l : List Nat) (n i : Nat) (x : Nat), l[i]? = some x → (n + i, x) ∈ mm_ix n l := by
    intro l
    induction l with
    | nil => intro n i x hx; simp at hx
    | cons a r ih =>
      intro n i x hx
      cases i with
      | zero =>
        rw [List.getElem?_cons_zero] at hx
        cases hx
        exact List.mem_cons_self
      | succ i =>
        rw [List.getElem?_cons_succ] at hx
        have := ih (n + 1) i x hx
        rw [show n + (i + 1) = n + 1 + i by omega]
        exact List.mem_cons_of_mem _ this
  have hx := List.getElem?_eq_getElem (l := mm_cnos) (i := id) (by rw [hl]; exact h)
  have h1 := List.all_eq_true.mp mm_cno_ok _ (key mm_cnos 0 id _ hx)
  have h2 := of_decide_eq_true h1
  rw [Nat.zero_add] at h2
  rw [← h2]
  simp [List.getD, hx]
theorem mm_pops_spec : ∀ (n : Nat) (acc st as rest : List Value), mm_pops n acc st = some (as, rest) → ∃ k, k.length = n ∧ as = k.reverse ++ acc ∧ st = k ++ rest
  | 0, acc, st, as, rest, h => by
    cases h
    exact ⟨[], rfl, rfl, rfl⟩
  | n + 1, acc, [], as, rest, h => by cases h
  | n + 1, acc, v :: st, as, rest, h => by
    obtain ⟨k, h1, h2, h3⟩ := mm_pops_spec n (v :: acc) st as rest h
    refine ⟨v :: k, by simp [h1], by simp [h2], by simp [h3]⟩
theorem mm_pops_use {n : Nat} {st as rest : List Value} (h : mm_pops n [] st = some (as, rest)) : as.length = n ∧ st = as.reverse ++ rest := by
  obtain ⟨k, h1, h2, h3⟩ := mm_pops_spec n [] st as rest h
  rw [List.append_nil] at h2
  subst h2
  exact ⟨by simpa using h1, by simpa using h3⟩
theorem mm_cat_eq (v : Value) : mm_cat v = v.category := by cases v <;> rfl
theorem mm_cats_eq (g : mm_G0) : ∀ (r : List Value), ((r.map (mm_vv g)).map (fun v => v.category)).sum = mm_cats r
  | [] => rfl
  | v :: r => by simp only [List.map_cons, List.sum_cons, mm_cats, mm_cats_eq g r, mm_cat_eq, mm_cat_vv]
theorem mm_ix_mem {α : Type} : ∀ (l : List α) (n : Nat) (q : Nat × α), q ∈ mm_ix n l → ∃ i, l[i]? = some q.2 ∧ q.1 = n + i
  | [], n, q, h => by cases h
  | a :: r, n, q, h => by
    rcases List.mem_cons.mp h with rfl | h
    · exact ⟨0, rfl, rfl⟩
    · obtain ⟨i, h1, h2⟩ := mm_ix_mem r (n + 1) q h
      exact ⟨i + 1, by rw [List.getElem?_cons_succ]; exact h1, by omega⟩
/-- what the tables link -/
theorem mm_ml_all (o : Nat) (q : Nat × Nat × Nat × Nat × Nat × Nat × Nat) (h : (o, q) ∈ mm_rows mm_MLs) : mm_mlc (o, q) = true := by
  obtain ⟨r, h1, h2⟩ := List.mem_flatMap.mp h
  obtain ⟨x, h3, h4⟩ := List.mem_map.mp h2
  cases h4
  have key : ∀ (j : Nat) (L : List (Nat × Nat × Nat × Nat × Nat × Nat × Nat)), (L.map (fun x => (j, x))).all mm_mlc = true → q ∈ L → mm_mlc (j, q) = true := fun j L hL hq => List.all_eq_true.mp hL _ (List.mem_map.mpr ⟨q, hq, rfl⟩)
  obtain ⟨i, hi, e⟩ := mm_ix_mem mm_MLs 0 r h1
  have hlen : mm_MLs.length = 14 := by decide +kernel
  have hlt := (List.getElem?_eq_some_iff.mp hi).1
  rw [hlen] at hlt
  have hgd : mm_MLs.getD i [] = r.2 := by simp [List.getD, hi]
  rw [Nat.zero_add] at e
  rw [← hgd] at h3
  rw [e]
  match i, hlt with
  | 0, _ => exact key 0 _ mm_ml_ok0 h3
  | 1, _ => exact key 1 _ mm_ml_ok1 h3
  | 2, _ => exact key 2 _ mm_ml_ok2 h3
  | 3, _ => exact key 3 _ mm_ml_ok3 h3
  | 4, _ => exact key 4 _ mm_ml_ok4 h3
  | 5, _ => exact key 5 _ mm_ml_ok5 h3
  | 6, _ => exact key 6 _ mm_ml_ok6 h3
  | 7, _ => exact key 7 _ mm_ml_ok7 h3
  | 8, _ => exact key 8 _ mm_ml_ok8 h3
  | 9, _ => exact key 9 _ mm_ml_ok9 h3
  | 10, _ => exact key 10 _ mm_ml_ok10 h3
  | 11, _ => exact key 11 _ mm_ml_ok11 h3
  | 12, _ => exact key 12 _ mm_ml_ok12 h3
  | 13, _ => exact key 13 _ mm_ml_ok13 h3
  | n + 14, hlt => omega
theorem mm_mok_use {o i id kd : Nat} (h : mm_mok o i id kd = true) : ∃ p1 p2 p3 p4, mm_mlc (o, i, id, kd, p1, p2, p3, p4) = true ∧ (o, i, id, kd, p1, p2, p3, p4) ∈ mm_rows mm_MLs := by
  obtain ⟨q, h1, h2⟩ := mm_any h
  obtain ⟨i', id', kd', p1, p2, p3, p4⟩ := q
  simp only [Bool.and_eq_true] at h2
  have e1 := mm_beq h2.1.1
  have e2 := mm_beq h2.1.2
  have e3 := mm_beq h2.2
  subst e1 e2 e3
  exact ⟨p1, p2, p3, p4, mm_ml_all _ _ h1, h1⟩
section SIM5
variable {p : Program} {l : Launch} {e : Env} {R : Room} {s : State} {m : MethodId} {args : Array Value} {below : List Frame} {meth : Method} {c : Code} {Q : State → Prop} {cc : ByteArray}
variable {g : mm_G0} {X : Nat → Nat × (Nat → Int32)} {Y : Nat → List Int32} {nL n0 s0 o : Nat} {pc : Nat} {ls : List (Option Value)} {st r : List Value} {σ : mm_S}
theorem mm_callk {r0 : mm_R} {rest st0 : List Value} {la : Array Slot} {H : Heap} {locs : List Loc} {cells slots mc ms : Nat} {a0 : Array Value} (hr : va_Run p l e R s m args below meth c H locs cells slots mc ms (F0 m pc la st0) rest (mm_Qc g r0 a0) (mm_Ao g)) (hS : va_S (mm_Ao g) s.heap H locs)
    (kk : ∀ (H1 : Heap) (locs1 : List Loc), mm_H g r0.2 H1 → va_S (mm_Ao g) s.heap H1 locs1 → W p l e R s m args below meth c H1 locs1 (cells + mc) (slots + ms) Q (F0 m (pc + 3) la ((r0.1.map (mm_vv g)).toList ++ rest))) : W p l e R s m args below meth c H locs cells slots Q (F0 m pc la st0) := by
  intro T hT Z
  obtain ⟨v, st₀, t, T', L, h0, Z', hL, e1, e2, ⟨hv, hh, hz, hk⟩, st⟩ := hr T hT Z
  have hv2 : v = r0.1.map (mm_vv g) := by injection hv
  subst hv2
  rw [h0] at hz hk
  obtain ⟨t2, a1, b1⟩ := kk T'.heap (locs ++ L) (by rw [e1]; exact hh)
    ⟨Nat.le_trans hS.1 (by rw [e1]; exact hz), fun q h1 h2 => by rw [e1, hk q (Nat.lt_of_lt_of_le h1 hS.1) h2]; exact hS.2.1 q h1 h2, fun q hq => by
      rcases List.mem_append.mp hq with h | h
      · exact hS.2.2 q h
      · exact hL q h⟩ T' rfl Z'
  exact ⟨t2, st t2 a1, b1⟩
theorem mg_callV (F : mm_Fx g X Y p s m args c cc nL o n0) {i id d : Nat} {as rest : List Value} {r0 : mm_R} (hid : id < 251) (hc : mm_Con g X Y l d id as σ r0) (hRf : d + 13 ≤ R.frames) (hRl : 60 * d + 460 ≤ R.locals) (hroom : r0.2.1.length - n0 ≤ R.cells ∧ mm_sz r0.2.1 - s0 ≤ R.slots) (hml : (mm_row id).2.2.2.1 ≤ 30) (hcat : mm_cats rest ≤ 8) (hst : st = as.reverse ++ rest) {x : Nat} {as2 : List Value} (hd : decode cc pc = .ok (.invokevirtual i, 3)) (hm : mm_mok o i id 0 = true) (has : as = .ref x :: as2) (hn : as2.length = mm_nps.getD id 0) (hob : mm_obj σ.1 x (mm_cnos.getD id 0) = true) (hk13 : mm_cnos.getD id 0 < 13) (hk : mm_G g nL n0 s0 p l e R s m args below meth c Q (pc + 3, ls, r0.1.toList ++ rest, r0.2)) : mm_G g nL n0 s0 p l e R s m args below meth c Q (pc, ls, st, σ) := by
  intro la H locs hl hH hS z1 z2
  subst hst
  dsimp only at z1 z2 hl hH
  obtain ⟨p1, p2, p3, p4, hq, hqin⟩ := mm_mok_use hm
  simp only [mm_mlc, Bool.and_eq_true] at hq
  obtain ⟨⟨hcl, hini⟩, hq⟩ := hq
  have hcl := of_decide_eq_true hcl
  have hini := mm_all_of (of_decide_eq_true hini) rfl
  have w1 := mm_all_of (of_decide_eq_true hq.1.1) rfl
  have w2 := mm_all_of (of_decide_eq_true hq.1.2) rfl
  have w3 := mm_all_of (of_decide_eq_true hq.2) rfl
  obtain ⟨c1, c2, hM⟩ := hc
  have hnp := mm_np_use (id := id) (by omega)
  refine mm_W_size (fun hz => ?_)
  have hsz := mm_H_size hH hS.1 hz F.2.2.2.2.2.2 z1
  have hwi := mm_w_in hid
  have hpre : ∀ U : State, U.heap = H → s.WarmedH U.vm → mm_Pc g X Y as σ (as.map (mm_vv g)).toArray U := fun U hU hW => ⟨rfl, by rw [hU]; exact hsz, by rw [hU]; exact hH, F.2.2.2.2.2.1.enter hW hU hS⟩
  have hroomW : (mm_rm d (r0.2.1.length - σ.1.length) (mm_sz r0.2.1 - mm_sz σ.1)).frames + 1 ≤ R.frames ∧ 8 + ((mm_row id).2.2.2.1 + 11) + (mm_rm d (r0.2.1.length - σ.1.length) (mm_sz r0.2.1 - mm_sz σ.1)).locals ≤ R.locals := by
    simp only [mm_rm]
    omega
  have hcat2 : 2 * (F0 m pc la ((as.reverse ++ rest).map (mm_vv g))).monitorRoom + ((rest.map (mm_vv g)).map fun v => v.category).sum ≤ 8 := lv_room (by rw [mm_cats_eq]; exact hcat)
  have hfit : σ.1.length - n0 + (r0.2.1.length - σ.1.length) ≤ R.cells ∧ mm_sz σ.1 - s0 + (mm_sz r0.2.1 - mm_sz σ.1) ≤ R.slots := by omega
  have hgo : ∀ (H1 : Heap) (locs1 : List Loc), mm_H g r0.2 H1 → va_S (mm_Ao g) s.heap H1 locs1 → W p l e R s m args below meth c H1 locs1 (σ.1.length - n0 + (r0.2.1.length - σ.1.length)) (mm_sz σ.1 - s0 + (mm_sz r0.2.1 - mm_sz σ.1)) Q (F0 m (pc + 3) la ((r0.1.map (mm_vv g)).toList ++ rest.map (mm_vv g))) := by
    intro H1 locs1 h1 hS1
    have hw := hk la H1 locs1 hl h1 hS1 (by dsimp only; omega) (by dsimp only; omega)
    have e1 : r0.2.1.length - n0 = σ.1.length - n0 + (r0.2.1.length - σ.1.length) := by omega
    have e2 : mm_sz r0.2.1 - s0 = mm_sz σ.1 - s0 + (mm_sz r0.2.1 - mm_sz σ.1) := by omega
    have e3 : (r0.1.toList ++ rest).map (mm_vv g) = (r0.1.map (mm_vv g)).toList ++ rest.map (mm_vv g) := by
      cases r0.1 <;> simp
    dsimp only at hw
    rw [e1, e2, e3] at hw
    exact hw
  obtain ⟨hx, hkd⟩ := mm_obj_use hob
  have hcls : ∃ q : vw_C, mm_cls[mm_cnos.getD id 0]? = some q ∧ q.1 = (mm_nm id).cls := by
    have hl13 : mm_cls.length = 13 := rfl
    cases hx2 : mm_cls[mm_cnos.getD id 0]? with
    | none => rw [List.getElem?_eq_none_iff, hl13] at hx2; omega
    | some q =>
      obtain ⟨C, T, N⟩ := q
      exact ⟨_, rfl, (mm_own_cls hx2).trans (mm_cno_use (by omega))⟩
  obtain ⟨q, hqc, hq1⟩ := hcls
  have hrec := va_recv F.2.2.2.2.2.1.1 hH hqc (mm_ws_get (g := g) hkd)
  rw [hq1] at hrec
  have hcw := cwV (R := R) (s := s) (args := args) (own := mm_own o) (index := i) (C := (mm_nm id).cls) (y := mm_nm id) (n := as2.length) (rm := mm_rm d (r0.2.1.length - σ.1.length) (mm_sz r0.2.1 - mm_sz σ.1)) F.2.2.2.2.1 (mm_good (ws := wsV (mm_own o) i (mm_nm id).cls (mm_nm id) (mm_w id)) (by
    intro w hw
    simp only [wsV, List.mem_append, List.mem_cons, List.not_mem_nil, or_false] at hw
    rcases hw with (rfl | rfl | rfl | rfl) | hw
    · exact w1
    · exact w3
    · exact w2
    · exact hini
    · exact hwi w hw)) (mm_w_eq (by omega)) rfl rfl ⟨rfl, hcl.1, hcl.2, by rw [hn]; exact hnp⟩ hroomW
  subst has
  simp only [List.map_cons, mm_vv_in hx] at hpre
  have hstk : ((Value.ref x :: as2).reverse ++ rest).map (mm_vv g) = (as2.map (mm_vv g)).reverse ++ .ref (mm_B g + x) :: rest.map (mm_vv g) := by
    simp [mm_vv_in hx]
  exact mm_callk (va_runV (As := as2.map (mm_vv g)) (rest := rest.map (mm_vv g)) ⟨F.1, F.2.1, F.2.2.1, F.2.2.2.1, F.2.2.2.2.1⟩ hM hcw ⟨mm_Pc_blind g X Y _ σ, hrec, hpre⟩ (g := F0 m pc la (((Value.ref x :: as2).reverse ++ rest).map (mm_vv g))) rfl (by simp) hl.1 hstk hcat2 hd hfit) hS hgo
theorem mg_callS (F : mm_Fx g X Y p s m args c cc nL o n0) {i id d : Nat} {as rest : List Value} {r0 : mm_R} (hid : id < 251) (hc : mm_Con g X Y l d id as σ r0) (hRf : d + 13 ≤ R.frames) (hRl : 60 * d + 460 ≤ R.locals) (hroom : r0.2.1.length - n0 ≤ R.cells ∧ mm_sz r0.2.1 - s0 ≤ R.slots) (hml : (mm_row id).2.2.2.1 ≤ 30) (hcat : mm_cats rest ≤ 8) (hst : st = as.reverse ++ rest) (hd : decode cc pc = .ok (.invokestatic i, 3)) (hm : mm_mok o i id 1 = true) (hn : as.length = mm_nps.getD id 0) (hk : mm_G g nL n0 s0 p l e R s m args below meth c Q (pc + 3, ls, r0.1.toList ++ rest, r0.2)) : mm_G g nL n0 s0 p l e R s m args below meth c Q (pc, ls, st, σ) := by
  intro la H locs hl hH hS z1 z2
  subst hst
  dsimp only at z1 z2 hl hH
  obtain ⟨p1, p2, p3, p4, hq, hqin⟩ := mm_mok_use hm
  simp only [mm_mlc, Bool.and_eq_true] at hq
  obtain ⟨⟨hcl, hini⟩, hq⟩ := hq
  have hcl := of_decide_eq_true hcl
  have hini := mm_all_of (of_decide_eq_true hini) rfl
  have w1 := mm_all_of (of_decide_eq_true hq.1) rfl
  have w2 := mm_all_of (of_decide_eq_true hq.2) rfl
  obtain ⟨c1, c2, hM⟩ := hc
  have hnp := mm_np_use (id := id) (by omega)
  refine mm_W_size (fun hz => ?_)
  have hsz := mm_H_size hH hS.1 hz F.2.2.2.2.2.2 z1
  have hwi := mm_w_in hid
  have hpre : ∀ U : State, U.heap = H → s.WarmedH U.vm → mm_Pc g X Y as σ (as.map (mm_vv g)).toArray U := fun U hU hW => ⟨rfl, by rw [hU]; exact hsz, by rw [hU]; exact hH, F.2.2.2.2.2.1.enter hW hU hS⟩
  have hroomW : (mm_rm d (r0.2.1.length - σ.1.length) (mm_sz r0.2.1 - mm_sz σ.1)).frames + 1 ≤ R.frames ∧ 8 + ((mm_row id).2.2.2.1 + 11) + (mm_rm d (r0.2.1.length - σ.1.length) (mm_sz r0.2.1 - mm_sz σ.1)).locals ≤ R.locals := by
    simp only [mm_rm]
    omega
  have hcat2 : 2 * (F0 m pc la ((as.reverse ++ rest).map (mm_vv g))).monitorRoom + ((rest.map (mm_vv g)).map fun v => v.category).sum ≤ 8 := lv_room (by rw [mm_cats_eq]; exact hcat)
  have hfit : σ.1.length - n0 + (r0.2.1.length - σ.1.length) ≤ R.cells ∧ mm_sz σ.1 - s0 + (mm_sz r0.2.1 - mm_sz σ.1) ≤ R.slots := by omega
  have hgo : ∀ (H1 : Heap) (locs1 : List Loc), mm_H g r0.2 H1 → va_S (mm_Ao g) s.heap H1 locs1 → W p l e R s m args below meth c H1 locs1 (σ.1.length - n0 + (r0.2.1.length - σ.1.length)) (mm_sz σ.1 - s0 + (mm_sz r0.2.1 - mm_sz σ.1)) Q (F0 m (pc + 3) la ((r0.1.map (mm_vv g)).toList ++ rest.map (mm_vv g))) := by
    intro H1 locs1 h1 hS1
    have hw := hk la H1 locs1 hl h1 hS1 (by dsimp only; omega) (by dsimp only; omega)
    have e1 : r0.2.1.length - n0 = σ.1.length - n0 + (r0.2.1.length - σ.1.length) := by omega
    have e2 : mm_sz r0.2.1 - s0 = mm_sz σ.1 - s0 + (mm_sz r0.2.1 - mm_sz σ.1) := by omega
    have e3 : (r0.1.toList ++ rest).map (mm_vv g) = (r0.1.map (mm_vv g)).toList ++ rest.map (mm_vv g) := by
      cases r0.1 <;> simp
    dsimp only at hw
    rw [e1, e2, e3] at hw
    exact hw
  have hcw := va_cwS (R := R) (s := s) (args := args) (own := mm_own o) (index := i) (y := mm_nm id) (n := as.length) (rm := mm_rm d (r0.2.1.length - σ.1.length) (mm_sz r0.2.1 - mm_sz σ.1)) F.2.2.2.2.1 (mm_good (ws := va_wsS (mm_own o) i (mm_nm id) (mm_w id)) (by
    intro w hw
    simp only [va_wsS, List.mem_append, List.mem_cons, List.not_mem_nil, or_false] at hw
    rcases hw with (rfl | rfl | rfl) | hw
    · exact w1
    · exact w2
    · exact hini
    · exact hwi w hw)) (mm_w_eq (by omega)) rfl rfl ⟨hcl.1, hcl.2, by rw [hn]; exact hnp⟩ hroomW
  have hstk : (as.reverse ++ rest).map (mm_vv g) = (as.map (mm_vv g)).reverse ++ rest.map (mm_vv g) := by simp
  exact mm_callk (va_runS (As := as.map (mm_vv g)) (rest := rest.map (mm_vv g)) ⟨F.1, F.2.1, F.2.2.1, F.2.2.2.1, F.2.2.2.2.1⟩ hM hcw ⟨mm_Pc_blind g X Y _ σ, hpre⟩ (g := F0 m pc la ((as.reverse ++ rest).map (mm_vv g))) rfl (by simp) hl.1 hstk hcat2 hd hfit) hS hgo
theorem mg_callSN (F : mm_Fx g X Y p s m args c cc nL o n0) {i id d : Nat} {as rest : List Value} {r0 : mm_R} (hid : id < 251) (hc : mm_Con g X Y l d id as σ r0) (hRf : d + 13 ≤ R.frames) (hRl : 60 * d + 460 ≤ R.locals) (hroom : r0.2.1.length - n0 ≤ R.cells ∧ mm_sz r0.2.1 - s0 ≤ R.slots) (hml : (mm_row id).2.2.2.1 ≤ 30) (hcat : mm_cats rest ≤ 8) (hst : st = as.reverse ++ rest) (hd : decode cc pc = .ok (.invokestatic i, 3)) (hm : mm_mok o i id 5 = true) (hn : as.length = mm_nps.getD id 0) (hk : mm_G g nL n0 s0 p l e R s m args below meth c Q (pc + 3, ls, r0.1.toList ++ rest, r0.2)) : mm_G g nL n0 s0 p l e R s m args below meth c Q (pc, ls, st, σ) := by
  intro la H locs hl hH hS z1 z2
  subst hst
  dsimp only at z1 z2 hl hH
  obtain ⟨p1, p2, p3, p4, hq, hqin⟩ := mm_mok_use hm
  simp only [mm_mlc, Bool.and_eq_true] at hq
  obtain ⟨⟨hcl, hini⟩, hq⟩ := hq
  have hcl := of_decide_eq_true hcl
  have hini := mm_all_of (of_decide_eq_true hini) rfl
  have w2 := mm_all_of (of_decide_eq_true hq.2) rfl
  have hnw : va_Nw (.methodLinkNest (mm_own o) i (mm_nm id) "GasTown") s := F.2.2.2.2.2.1.2.2.2.2.1 _ (List.mem_filterMap.mpr ⟨_, hqin, rfl⟩)
  obtain ⟨c1, c2, hM⟩ := hc
  have hnp := mm_np_use (id := id) (by omega)
  refine mm_W_size (fun hz => ?_)
  have hsz := mm_H_size hH hS.1 hz F.2.2.2.2.2.2 z1
  have hwi := mm_w_in hid
  have hpre : ∀ U : State, U.heap = H → s.WarmedH U.vm → mm_Pc g X Y as σ (as.map (mm_vv g)).toArray U := fun U hU hW => ⟨rfl, by rw [hU]; exact hsz, by rw [hU]; exact hH, F.2.2.2.2.2.1.enter hW hU hS⟩
  have hroomW : (mm_rm d (r0.2.1.length - σ.1.length) (mm_sz r0.2.1 - mm_sz σ.1)).frames + 1 ≤ R.frames ∧ 8 + ((mm_row id).2.2.2.1 + 11) + (mm_rm d (r0.2.1.length - σ.1.length) (mm_sz r0.2.1 - mm_sz σ.1)).locals ≤ R.locals := by
    simp only [mm_rm]
    omega
  have hcat2 : 2 * (F0 m pc la ((as.reverse ++ rest).map (mm_vv g))).monitorRoom + ((rest.map (mm_vv g)).map fun v => v.category).sum ≤ 8 := lv_room (by rw [mm_cats_eq]; exact hcat)
  have hfit : σ.1.length - n0 + (r0.2.1.length - σ.1.length) ≤ R.cells ∧ mm_sz σ.1 - s0 + (mm_sz r0.2.1 - mm_sz σ.1) ≤ R.slots := by omega
  have hgo : ∀ (H1 : Heap) (locs1 : List Loc), mm_H g r0.2 H1 → va_S (mm_Ao g) s.heap H1 locs1 → W p l e R s m args below meth c H1 locs1 (σ.1.length - n0 + (r0.2.1.length - σ.1.length)) (mm_sz σ.1 - s0 + (mm_sz r0.2.1 - mm_sz σ.1)) Q (F0 m (pc + 3) la ((r0.1.map (mm_vv g)).toList ++ rest.map (mm_vv g))) := by
    intro H1 locs1 h1 hS1
    have hw := hk la H1 locs1 hl h1 hS1 (by dsimp only; omega) (by dsimp only; omega)
    have e1 : r0.2.1.length - n0 = σ.1.length - n0 + (r0.2.1.length - σ.1.length) := by omega
    have e2 : mm_sz r0.2.1 - s0 = mm_sz σ.1 - s0 + (mm_sz r0.2.1 - mm_sz σ.1) := by omega
    have e3 : (r0.1.toList ++ rest).map (mm_vv g) = (r0.1.map (mm_vv g)).toList ++ rest.map (mm_vv g) := by
      cases r0.1 <;> simp
    dsimp only at hw
    rw [e1, e2, e3] at hw
    exact hw
  have hcw := va_cnB (R := R) (s := s) (args := args) (own := mm_own o) (host := "GasTown") (index := i) (y := mm_nm id) (n := as.length) (rm := mm_rm d (r0.2.1.length - σ.1.length) (mm_sz r0.2.1 - mm_sz σ.1)) F.2.2.2.2.1 (mm_good hwi) (mm_w_eq (by omega)) rfl rfl hnw (F.2.2.2.2.1 _ hini) ⟨hcl.1, hcl.2, by rw [hn]; exact hnp⟩ hroomW
  have hstk : (as.reverse ++ rest).map (mm_vv g) = (as.map (mm_vv g)).reverse ++ rest.map (mm_vv g) := by simp
  exact mm_callk (va_runSN (As := as.map (mm_vv g)) (rest := rest.map (mm_vv g)) ⟨F.1, F.2.1, F.2.2.1, F.2.2.2.1, F.2.2.2.2.1⟩ hM ⟨hcw, F.2.2.2.2.1 _ w2, trivial⟩ ⟨mm_Pc_blind g X Y _ σ, hpre⟩ (g := F0 m pc la ((as.reverse ++ rest).map (mm_vv g))) rfl (by simp) hl.1 hstk hcat2 hd hfit) hS hgo
theorem mg_callI (F : mm_Fx g X Y p s m args c cc nL o n0) {i id d : Nat} {as rest : List Value} {r0 : mm_R} (hid : id < 251) (hc : mm_Con g X Y l d id as σ r0) (hRf : d + 13 ≤ R.frames) (hRl : 60 * d + 460 ≤ R.locals) (hroom : r0.2.1.length - n0 ≤ R.cells ∧ mm_sz r0.2.1 - s0 ≤ R.slots) (hml : (mm_row id).2.2.2.1 ≤ 30) (hcat : mm_cats rest ≤ 8) (hst : st = as.reverse ++ rest) {x : Nat} {as2 : List Value} (hd : decode cc pc = .ok (.invokespecial i, 3)) (hm : mm_mok o i id 2 = true) (has : as = .ref x :: as2) (hn : as2.length = mm_nps.getD id 0) (hret : (mm_row id).2.2.2.2.1 = none) (hk : mm_G g nL n0 s0 p l e R s m args below meth c Q (pc + 3, ls, r0.1.toList ++ rest, r0.2)) : mm_G g nL n0 s0 p l e R s m args below meth c Q (pc, ls, st, σ) := by
  intro la H locs hl hH hS z1 z2
  subst hst
  dsimp only at z1 z2 hl hH
  obtain ⟨p1, p2, p3, p4, hq, hqin⟩ := mm_mok_use hm
  simp only [mm_mlc, Bool.and_eq_true] at hq
  obtain ⟨⟨hcl, hini⟩, hq⟩ := hq
  have hcl := of_decide_eq_true hcl
  have hini := mm_all_of (of_decide_eq_true hini) rfl
  have w1 := mm_all_of (of_decide_eq_true hq.1.1) rfl
  have w3 := mm_all_of (of_decide_eq_true hq.1.2) rfl
  have hnm := of_decide_eq_true hq.2
  obtain ⟨c1, c2, hM⟩ := hc
  have hnp := mm_np_use (id := id) (by omega)
  refine mm_W_size (fun hz => ?_)
  have hsz := mm_H_size hH hS.1 hz F.2.2.2.2.2.2 z1
  have hwi := mm_w_in hid
  have hpre : ∀ U : State, U.heap = H → s.WarmedH U.vm → mm_Pc g X Y as σ (as.map (mm_vv g)).toArray U := fun U hU hW => ⟨rfl, by rw [hU]; exact hsz, by rw [hU]; exact hH, F.2.2.2.2.2.1.enter hW hU hS⟩
  have hroomW : (mm_rm d (r0.2.1.length - σ.1.length) (mm_sz r0.2.1 - mm_sz σ.1)).frames + 1 ≤ R.frames ∧ 8 + ((mm_row id).2.2.2.1 + 11) + (mm_rm d (r0.2.1.length - σ.1.length) (mm_sz r0.2.1 - mm_sz σ.1)).locals ≤ R.locals := by
    simp only [mm_rm]
    omega
  have hcat2 : 2 * (F0 m pc la ((as.reverse ++ rest).map (mm_vv g))).monitorRoom + ((rest.map (mm_vv g)).map fun v => v.category).sum ≤ 8 := lv_room (by rw [mm_cats_eq]; exact hcat)
  have hfit : σ.1.length - n0 + (r0.2.1.length - σ.1.length) ≤ R.cells ∧ mm_sz σ.1 - s0 + (mm_sz r0.2.1 - mm_sz σ.1) ≤ R.slots := by omega
  have hgo : ∀ (H1 : Heap) (locs1 : List Loc), mm_H g r0.2 H1 → va_S (mm_Ao g) s.heap H1 locs1 → W p l e R s m args below meth c H1 locs1 (σ.1.length - n0 + (r0.2.1.length - σ.1.length)) (mm_sz σ.1 - s0 + (mm_sz r0.2.1 - mm_sz σ.1)) Q (F0 m (pc + 3) la ((r0.1.map (mm_vv g)).toList ++ rest.map (mm_vv g))) := by
    intro H1 locs1 h1 hS1
    have hw := hk la H1 locs1 hl h1 hS1 (by dsimp only; omega) (by dsimp only; omega)
    have e1 : r0.2.1.length - n0 = σ.1.length - n0 + (r0.2.1.length - σ.1.length) := by omega
    have e2 : mm_sz r0.2.1 - s0 = mm_sz σ.1 - s0 + (mm_sz r0.2.1 - mm_sz σ.1) := by omega
    have e3 : (r0.1.toList ++ rest).map (mm_vv g) = (r0.1.map (mm_vv g)).toList ++ rest.map (mm_vv g) := by
      cases r0.1 <;> simp
    dsimp only at hw
    rw [e1, e2, e3] at hw
    exact hw
  have hweq := mm_w_eq (id := id) (by omega)
  rw [hret] at hweq
  have hcw := cwI (R := R) (s := s) (args := args) (own := mm_own o) (index := i) (y := mm_nm id) (n := as2.length) (rm := mm_rm d (r0.2.1.length - σ.1.length) (mm_sz r0.2.1 - mm_sz σ.1)) F.2.2.2.2.1 (mm_good hwi) hweq rfl rfl (F.2.2.2.2.1 _ hini) (F.2.2.2.2.1 _ w1) (F.2.2.2.2.1 _ w3) hnm ⟨hcl.1, hcl.2, by rw [hn]; exact hnp⟩ hroomW
  subst has
  simp only [List.map_cons, mm_vv] at hpre
  have hstk : ((Value.ref x :: as2).reverse ++ rest).map (mm_vv g) = (as2.map (mm_vv g)).reverse ++ .ref (mm_ad g x) :: rest.map (mm_vv g) := by
    simp [mm_vv]
  exact mm_callk (va_runI (As := as2.map (mm_vv g)) (rest := rest.map (mm_vv g)) ⟨F.1, F.2.1, F.2.2.1, F.2.2.2.1, F.2.2.2.2.1⟩ hM hcw ⟨mm_Pc_blind g X Y _ σ, hpre⟩ (g := F0 m pc la (((Value.ref x :: as2).reverse ++ rest).map (mm_vv g))) rfl (by simp) hl.1 hstk hcat2 hd hfit) hS hgo
theorem mg_callIN (F : mm_Fx g X Y p s m args c cc nL o n0) {i id d : Nat} {as rest : List Value} {r0 : mm_R} (hid : id < 251) (hc : mm_Con g X Y l d id as σ r0) (hRf : d + 13 ≤ R.frames) (hRl : 60 * d + 460 ≤ R.locals) (hroom : r0.2.1.length - n0 ≤ R.cells ∧ mm_sz r0.2.1 - s0 ≤ R.slots) (hml : (mm_row id).2.2.2.1 ≤ 30) (hcat : mm_cats rest ≤ 8) (hst : st = as.reverse ++ rest) {x : Nat} {as2 : List Value} (hd : decode cc pc = .ok (.invokespecial i, 3)) (hm : mm_mok o i id 6 = true) (has : as = .ref x :: as2) (hn : as2.length = mm_nps.getD id 0) (hret : (mm_row id).2.2.2.2.1 = none) (hk : mm_G g nL n0 s0 p l e R s m args below meth c Q (pc + 3, ls, r0.1.toList ++ rest, r0.2)) : mm_G g nL n0 s0 p l e R s m args below meth c Q (pc, ls, st, σ) := by
  intro la H locs hl hH hS z1 z2
  subst hst
  dsimp only at z1 z2 hl hH
  obtain ⟨p1, p2, p3, p4, hq, hqin⟩ := mm_mok_use hm
  simp only [mm_mlc, Bool.and_eq_true] at hq
  obtain ⟨⟨hcl, hini⟩, hq⟩ := hq
  have hcl := of_decide_eq_true hcl
  have hini := mm_all_of (of_decide_eq_true hini) rfl
  have w3 := mm_all_of (of_decide_eq_true hq.1.2) rfl
  have hnm := of_decide_eq_true hq.2
  have hnw : va_Nw (.methodLinkNest (mm_own o) i (mm_nm id) "GasTown") s := F.2.2.2.2.2.1.2.2.2.2.1 _ (List.mem_filterMap.mpr ⟨_, hqin, rfl⟩)
  obtain ⟨c1, c2, hM⟩ := hc
  have hnp := mm_np_use (id := id) (by omega)
  refine mm_W_size (fun hz => ?_)
  have hsz := mm_H_size hH hS.1 hz F.2.2.2.2.2.2 z1
  have hwi := mm_w_in hid
  have hpre : ∀ U : State, U.heap = H → s.WarmedH U.vm → mm_Pc g X Y as σ (as.map (mm_vv g)).toArray U := fun U hU hW => ⟨rfl, by rw [hU]; exact hsz, by rw [hU]; exact hH, F.2.2.2.2.2.1.enter hW hU hS⟩
  have hroomW : (mm_rm d (r0.2.1.length - σ.1.length) (mm_sz r0.2.1 - mm_sz σ.1)).frames + 1 ≤ R.frames ∧ 8 + ((mm_row id).2.2.2.1 + 11) + (mm_rm d (r0.2.1.length - σ.1.length) (mm_sz r0.2.1 - mm_sz σ.1)).locals ≤ R.locals := by
    simp only [mm_rm]
    omega
  have hcat2 : 2 * (F0 m pc la ((as.reverse ++ rest).map (mm_vv g))).monitorRoom + ((rest.map (mm_vv g)).map fun v => v.category).sum ≤ 8 := lv_room (by rw [mm_cats_eq]; exact hcat)
  have hfit : σ.1.length - n0 + (r0.2.1.length - σ.1.length) ≤ R.cells ∧ mm_sz σ.1 - s0 + (mm_sz r0.2.1 - mm_sz σ.1) ≤ R.slots := by omega
  have hgo : ∀ (H1 : Heap) (locs1 : List Loc), mm_H g r0.2 H1 → va_S (mm_Ao g) s.heap H1 locs1 → W p l e R s m args below meth c H1 locs1 (σ.1.length - n0 + (r0.2.1.length - σ.1.length)) (mm_sz σ.1 - s0 + (mm_sz r0.2.1 - mm_sz σ.1)) Q (F0 m (pc + 3) la ((r0.1.map (mm_vv g)).toList ++ rest.map (mm_vv g))) := by
    intro H1 locs1 h1 hS1
    have hw := hk la H1 locs1 hl h1 hS1 (by dsimp only; omega) (by dsimp only; omega)
    have e1 : r0.2.1.length - n0 = σ.1.length - n0 + (r0.2.1.length - σ.1.length) := by omega
    have e2 : mm_sz r0.2.1 - s0 = mm_sz σ.1 - s0 + (mm_sz r0.2.1 - mm_sz σ.1) := by omega
    have e3 : (r0.1.toList ++ rest).map (mm_vv g) = (r0.1.map (mm_vv g)).toList ++ rest.map (mm_vv g) := by
      cases r0.1 <;> simp
    dsimp only at hw
    rw [e1, e2, e3] at hw
    exact hw
  have hweq := mm_w_eq (id := id) (by omega)
  rw [hret] at hweq
  have hcw := va_cnB (R := R) (s := s) (args := args) (own := mm_own o) (host := "GasTown") (index := i) (y := mm_nm id) (n := as2.length) (rm := mm_rm d (r0.2.1.length - σ.1.length) (mm_sz r0.2.1 - mm_sz σ.1)) F.2.2.2.2.1 (mm_good hwi) hweq rfl rfl hnw (F.2.2.2.2.1 _ hini) ⟨hcl.1, hcl.2, by rw [hn]; exact hnp⟩ hroomW
  subst has
  simp only [List.map_cons, mm_vv] at hpre
  have hstk : ((Value.ref x :: as2).reverse ++ rest).map (mm_vv g) = (as2.map (mm_vv g)).reverse ++ .ref (mm_ad g x) :: rest.map (mm_vv g) := by
    simp [mm_vv]
  exact mm_callk (va_runIN (As := as2.map (mm_vv g)) (rest := rest.map (mm_vv g)) ⟨F.1, F.2.1, F.2.2.1, F.2.2.2.1, F.2.2.2.2.1⟩ hM ⟨hcw, hnm, F.2.2.2.2.1 _ w3⟩ ⟨mm_Pc_blind g X Y _ σ, hpre⟩ (g := F0 m pc la (((Value.ref x :: as2).reverse ++ rest).map (mm_vv g))) rfl (by simp) hl.1 hstk hcat2 hd hfit) hS hgo
end SIM5
