/-! THE CLAIM OUT OF ONE WALK OF THE LAW'S BODY. Your part is whole_start (and what it stands on); all else here is the same for every law, but numbers. -/
def R_law : String := "GasTownLaw"
def lw_P (b : Addr) (xs : List Int32) (args : Array Value) (s : State) : Prop := args = #[.ref b] ∧ s.IntsAt b xs ∧ xs.length ≤ 3072 ∧ (Jvm.Cond.and given_1 narrow_1).before args s = true
def lw_Q (_ : Array Value) (s : State) (o : Outcome) (t : State) : Prop := o = .returned (some (.int 1)) ∧ Framed s o t [] 600000 7302250
def lw_Z (below : List Frame) (a : Array Value) (s : State) : State → Prop := fun t => ∃ o, t.status = .running ∧ Ended t below o ∧ lw_Q a s o t
/-- the law's own end, with 1 on the stack, nothing written that was there before, its room as the claim has it -/
theorem lw_ret {p : Program} {l : Launch} {e : Env} {s : State} {m : MethodId} {below : List Frame} {meth : Method} {c : Code} {b : Nat} (hx : p.tables.exec = Jvm.exec) (hb : c.code = code) (hr : meth.sig.returnType = ret) (hlocks : meth.locks = false) {pc : Nat} {H : Heap} {ls : Array Slot} (hdg : decode code pc = .ok (.ireturn, 1)) : W p l e room_1 s m #[Value.ref b] below meth c H [] 600000 7302250 (lw_Z below #[Value.ref b] s) (F0 m pc ls [.int 1]) := by
  intro T hT X
  obtain ⟨fs, hret, hrun, hended, hW, hframe⟩ := X.leave (v := some (.int 1)) (hlocks := hlocks) (fun h => by rw [hr] at h; cases h)
  have hmeth' : T.vm.method? m = some meth := X.method'
  refine ⟨T.setFrames fs, ?_, .returned (some (.int 1)), hrun, hended, rfl, ⟨_, rfl⟩, hW, hframe⟩
  jvm_step X.here [X.here.top, hx, hb, hdg, hmeth', hr, ret, narrow_b1]
  (try refine ⟨rfl, ?_⟩); (try refine ⟨rfl, ?_⟩)
  first | (intro acts; rw [hret _ acts rfl rfl rfl]) | rw [hret _ _ rfl rfl rfl]
  exact Steps.refl _
/-- what holds at the law's entry: the machine, the code, the tables' words (any of lw_tbl by 'hts w (by decide +kernel)'), the script of L ints xs at the cell b, what the Statement gives of the start (any of its parts by flat_of_before) -/
def lw_At (p : Program) (s : State) (m : MethodId) (meth : Method) (c : Code) (b L : Nat) (xs : Nat → Int32) : Prop :=
  p.tables.exec = Jvm.exec ∧ c.code = code ∧ meth.sig.returnType = ret ∧ c.maxLocals = 4 ∧ s.vm.findClass R_law = some m.cls ∧ (∀ w ∈ lw_tbl, w.before #[Value.ref b] s = true) ∧ va_X b L xs s s.heap ∧ b < s.heap.size ∧ meth.locks = false ∧ (Jvm.Cond.and given_1 narrow_1).before #[Value.ref b] s = true

-- ===== YOUR PART BEGINS =====
def ml_pk : List Nat := [155, 161, 163, 165, 167, 169, 171, 173, 175, 177, 179, 181, 183]
def ml_mk : List Nat := [380, 385, 387, 389, 391, 400, 402, 404, 405, 393, 394, 396, 398]
def ml_tm (j : Nat) : Term := .string "GasTown$Parser" (ml_pk.getD j 0)
def ml_tn (j : Nat) : Term := .string "GasTownModel" (ml_mk.getD j 0)
abbrev ml_N : List Jvm.Cond := flatC (Jvm.Cond.and given_1 narrow_1)
theorem ml_ex : ∀ j, j < 13 → Cond.exactly (ml_tm j) "java/lang/String" ∈ ml_N := by decide +kernel
theorem ml_co : ∀ j, j < 13 → Cond.eq (.field (ml_tm j) "java/lang/String" "coder" "B") (.int 0) ∈ ml_N := by decide +kernel
theorem ml_ar : ∀ j, j < 13 → Cond.arrayOf (.field (ml_tm j) "java/lang/String" "value" "[B") .byte ∈ ml_N := by decide +kernel
theorem ml_le : ∀ j, j < 13 → Cond.eq (.length (.field (ml_tm j) "java/lang/String" "value" "[B")) (.int (Int32.ofNat (mm_Y j).length)) ∈ ml_N := by decide +kernel
theorem ml_el : ∀ j, j < 13 → ∀ i, i < (mm_Y j).length → Cond.eq (.elem (.field (ml_tm j) "java/lang/String" "value" "[B") (.int (Int32.ofNat i))) (.int ((mm_Y j).getD i 0)) ∈ ml_N := by decide +kernel
theorem ml_sm : ∀ j, j < 13 → Cond.eq (ml_tm j) (ml_tn j) ∈ ml_N := by decide +kernel
theorem ml_pa : Cond.arrayOf (.static "GasTown$Works" "PARTS" "[I") .int ∈ ml_N := by decide +kernel
theorem ml_pl : Cond.eq (.length (.static "GasTown$Works" "PARTS" "[I")) (.int (Int32.ofNat 17)) ∈ ml_N := by decide +kernel
theorem ml_pe : ∀ i, i < 17 → Cond.eq (.elem (.static "GasTown$Works" "PARTS" "[I") (.int (Int32.ofNat i))) (.int (mm_parts.getD i 0)) ∈ ml_N := by decide +kernel
theorem ml_cs : Cond.eq (.static "java/lang/String" "COMPACT_STRINGS" "Z") (.int 1) ∈ ml_N := by decide +kernel
theorem ml_si : Cond.isRef (.static "jdk/internal/util/Preconditions" "SIOOBE_FORMATTER" "Ljava/util/function/BiFunction;") ∈ ml_N := by decide +kernel
theorem ml_Yt : ∀ j, j < 13 → (mm_Y j).length < 2147483648 ∧ ∀ i, i < (mm_Y j).length → mj_c2 ((mm_Y j).getD i 0) = (mm_Y j).getD i 0 ∧ narrow .char (.int ((mm_Y j).getD i 0)) = .int ((mm_Y j).getD i 0) := by decide +kernel
/-- each text's row: whose pool, its place -/
theorem ml_sr : ∀ q ∈ mm_rows mm_SRs, q.2.2.1 < 13 ∧ ((mm_own q.1 = "GasTown$Parser" ∧ q.2.1 = ml_pk.getD q.2.2.1 0) ∨ (mm_own q.1 = "GasTownModel" ∧ q.2.1 = ml_mk.getD q.2.2.1 0)) := by decide +kernel
theorem ml_ls1 : mm_wd 4000 = some (.laysStatic "GasTown$Works" "PARTS" "[I") := by decide +kernel
theorem ml_in1 : mm_wd 1003 = some (.initialized "GasTown$Works") := by decide +kernel
theorem ml_ls2 : mm_wd 4226 = some (.laysStatic "java/lang/String" "COMPACT_STRINGS" "Z") := by decide +kernel
theorem ml_in2 : mm_wd 1015 = some (.initialized "java/lang/String") := by decide +kernel
theorem ml_ls3 : mm_wd 5002 = some (.laysStatic "jdk/internal/util/Preconditions" "SIOOBE_FORMATTER" "Ljava/util/function/BiFunction;") := by decide +kernel
theorem ml_in3 : mm_wd 1017 = some (.initialized "jdk/internal/util/Preconditions") := by decide +kernel
theorem ml_nest : ∀ w ∈ mm_nest, w ∈ lw_tbl := by
  intro w hw
  obtain ⟨q, hq, h⟩ := List.mem_filterMap.mp hw
  obtain ⟨o, i, id, kd, p1, p2, p3, p4⟩ := q
  have hc := mm_ml_all o _ hq
  simp only [mm_mlc, Bool.and_eq_true] at hc
  dsimp only at h
  split at h
  · cases h
    have hc2 := hc.2
    simp only [Bool.and_eq_true] at hc2
    exact mm_wd_in (of_decide_eq_true hc2.1)
  · cases h
    have hc2 := hc.2
    simp only [Bool.and_eq_true] at hc2
    exact mm_wd_in (of_decide_eq_true hc2.1.1)
  · cases h
theorem ml_srw : ∀ q ∈ mm_rows mm_SRs, Cond.stringRef (mm_own q.1) q.2.1 (mm_txs.getD q.2.2.1 "") ∈ lw_tbl := fun q hq => mm_wd_in (of_decide_eq_true (List.all_eq_true.mp mm_sr_ok q hq))
def ml_empty : mm_S := ([], fun _ _ => 0, fun _ _ => 0, fun _ _ => none)
theorem ml_ac {s : State} {args : Array Value} {ty : FieldType} (h : (Cond.arrayClass ty).before args s = true) : ∃ cA : ClassId, ArrOfT s cA ty ∧ s.vm.findClass ("[" ++ ty.toString) = some cA := by
  obtain ⟨c, k, comp, h1, h2, h3⟩ := Cond.arrayClass_spec h
  exact ⟨c, fun n z => ⟨(fun q w => by cases w), k, h2, comp, h3⟩, h1⟩
theorem ml_world {s : State} {b L : Nat} {xs : Nat → Int32} (hL : L ≤ 3072) (hts : ∀ w ∈ lw_tbl, w.before #[Value.ref b] s = true) (hX : va_X b L xs s s.heap) (hbl : b < s.heap.size) (hgv : (Jvm.Cond.and given_1 narrow_1).before #[Value.ref b] s = true) :
    ∃ g : mm_G0, mm_B g = s.heap.size ∧ mm_ex g 1000001 = b ∧ mm_A g (mm_X L xs) mm_Y s := by
  have hg := flat_of_before _ hgv
  have hall : ∀ w ∈ mm_ALL, w.before #[Value.ref b] s = true := fun w hw => hts w (List.mem_filter.mp hw).1
  have hA : ∀ a : Nat, a < s.heap.size → ¬ (fun q : Nat => s.heap.size ≤ q) a := fun a h => Nat.not_le.mpr h
  -- layouts
  have hcl : ∀ ci : Nat, ∃ (c : ClassId) (iS : Nat → Nat), ∀ q : vw_C, mm_cls[ci]? = some q → u_Kn s q.1 q.2.1 q.2.2 c iS := by
    intro ci
    cases hc : mm_cls[ci]? with
    | none => exact ⟨0, fun _ => 0, fun q h => by cases h⟩
    | some q =>
      obtain ⟨C, T, N⟩ := q
      obtain ⟨c, iS, h⟩ := u_known hall (mm_class hc).1 (hall _ (mm_insA ci C T N hc).1)
      exact ⟨c, iS, fun q hq => by cases hq; exact h⟩
  obtain ⟨dC, hdC⟩ := Classical.axiomOfChoice hcl
  obtain ⟨dI, hdI⟩ := Classical.axiomOfChoice hdC
  -- arrays
  obtain ⟨cI, hI1, hI2⟩ := ml_ac (hall _ (mm_all_of mm_ac_int rfl))
  obtain ⟨cL, hL1, hL2⟩ := ml_ac (hall _ (mm_all_of mm_ac_long rfl))
  obtain ⟨cZ, hZ1, hZ2⟩ := ml_ac (hall _ (mm_all_of mm_ac_boolean rfl))
  have hAO : va_AO "GasTown$Act" s := va_AO.of (hts _ (mm_wd_in mm_ao))
  obtain ⟨comp, cQ, kQ, o1, o2, o3, o4, o5⟩ := Cond.arrayOver_spec (hts _ (mm_wd_in mm_ao))
  -- texts
  have htx : ∀ j : Nat, ∃ q : Nat × Nat, j < 13 → (ml_tm j).eval #[Value.ref b] s none [] s = some (.ref q.1) ∧ va_O "java/lang/String" q.1 (fun q : Nat => s.heap.size ≤ q) s s.heap ∧ va_OF "java/lang/String" "coder" "B" (.int 0) q.1 (fun q : Nat => s.heap.size ≤ q) s s.heap ∧ va_OF "java/lang/String" "value" "[B" (.ref q.2) q.1 (fun q : Nat => s.heap.size ≤ q) s s.heap ∧ va_T .byte q.2 (mm_Y j).length (fun i => .int ((mm_Y j).getD i 0)) (fun q : Nat => s.heap.size ≤ q) s s.heap := by
    intro j
    by_cases hj : j < 13
    · obtain ⟨a, c, cA, kA, q1, q2, q3, q4, q5, q6, -⟩ := Cond.exactly_spec (hg _ (ml_ex j hj))
      obtain ⟨t, ht, hT⟩ := va_Tof (tm := .field (ml_tm j) "java/lang/String" "value" "[B") (ty := .byte) (N := (mm_Y j).length) (f := fun i => .int ((mm_Y j).getD i 0)) (A := fun q : Nat => s.heap.size ≤ q) (ml_Yt j hj).1 (hg _ (ml_ar j hj)) (va_eqt (hg _ (ml_le j hj))) (fun i hi => va_eqt (hg _ (ml_el j hj i hi))) hA
      exact ⟨(a, t), fun _ => ⟨q1, ⟨cA, q3, q5, by rw [q6]; exact q2, hA a (Array.getElem?_eq_some_iff.mp q3).1⟩, vk_OFof q1 (va_eqt (hg _ (ml_co j hj))) hA, vk_OFof q1 ht hA, hT⟩⟩
    · exact ⟨(0, 0), fun h => absurd h hj⟩
  obtain ⟨tx, htx⟩ := Classical.axiomOfChoice htx
  -- the shares
  obtain ⟨pa, hpa, hPT⟩ := va_Tof (tm := .static "GasTown$Works" "PARTS" "[I") (ty := .int) (N := 17) (f := fun i => .int (mm_parts.getD i 0)) (A := fun q : Nat => s.heap.size ≤ q) (by decide) (hg _ ml_pa) (va_eqt (hg _ ml_pl)) (fun i hi => va_eqt (hg _ (ml_pe i hi))) hA
  have hSX : va_T .int b L (fun i => .int (xs i)) (fun q : Nat => s.heap.size ≤ q) s s.heap := by
    obtain ⟨scr, h1, h2, h3, h4, h5⟩ := hX
    exact ⟨scr, h1, h2, h3, by omega, by rw [h4], h5, hA b hbl⟩
  refine ⟨(dC, dI, (cI, cL, cZ, cQ), s.heap.size, fun k => if k = 1000000 then pa else if k = 1000001 then b else if k < 3000000 then (tx (k - 2000000)).1 else (tx (k - 3000000)).2), rfl, rfl, ⟨fun ci q hq => hdI ci q hq, ?_⟩, Nat.le_refl _, ?_, ?_, ?_, hAO, ?_, ?_, ?_, ?_⟩
  · intro k q hk
    match k, hk with
    | 0, hk => cases hk; exact ⟨hI1, hI2⟩
    | 1, hk => cases hk; exact ⟨hL1, hL2⟩
    | 2, hk => cases hk; exact ⟨hZ1, hZ2⟩
    | 3, hk => cases hk; exact ⟨fun n z => ⟨(fun q w => by cases w), kQ, o3, comp, o4⟩, kQ, comp, o3, o4, o1, o5⟩
    | k + 4, hk => simp [mm_tys] at hk
  · intro j hj
    match j, hj with
    | 0, _ => exact hPT
    | 1, _ => exact hSX
    | j + 2, hj => omega
  · exact va_Zof (hts _ (mm_wd_in ml_ls1)) (hts _ (mm_wd_in ml_in1)) hpa hA
  · intro w hw
    obtain ⟨h1, -⟩ := mm_nest_onT w hw
    exact va_Nw.of h1 (hts _ (ml_nest w hw))
  · intro q hq
    obtain ⟨hj, hor⟩ := ml_sr q hq
    have hw := hts _ (ml_srw q hq)
    have hev : (Term.string (mm_own q.1) q.2.1).eval #[Value.ref b] s none [] s = some (.ref (tx q.2.2.1).1) := by
      rcases hor with ⟨e1, e2⟩ | ⟨e1, e2⟩
      · rw [e1, e2]; exact (htx _ hj).1
      · obtain ⟨w, h1, h2⟩ := Cond.eq_one (show (Cond.eq (ml_tm q.2.2.1) (ml_tn q.2.2.1)).holds #[Value.ref b] s none s [] = true from hg _ (ml_sm _ hj))
        rw [(htx _ hj).1] at h1
        cases h1
        rw [e1, e2]
        exact h2
    have e3 : (if 2000000 + q.2.2.1 = 1000000 then pa else if 2000000 + q.2.2.1 = 1000001 then b else if 2000000 + q.2.2.1 < 3000000 then (tx (2000000 + q.2.2.1 - 2000000)).1 else (tx (2000000 + q.2.2.1 - 3000000)).2) = (tx q.2.2.1).1 := by
      rw [if_neg (by omega), if_neg (by omega), if_pos (by omega), show 2000000 + q.2.2.1 - 2000000 = q.2.2.1 by omega]
    show vk_R _ _ _ (if 2000000 + q.2.2.1 = 1000000 then pa else if 2000000 + q.2.2.1 = 1000001 then b else if 2000000 + q.2.2.1 < 3000000 then (tx (2000000 + q.2.2.1 - 2000000)).1 else (tx (2000000 + q.2.2.1 - 3000000)).2) s
    rw [e3]
    exact vk_R.of hw hev
  · intro j hj
    obtain ⟨h1, h2, h3, h4, h5⟩ := htx j hj
    have e3 : (if 2000000 + j = 1000000 then pa else if 2000000 + j = 1000001 then b else if 2000000 + j < 3000000 then (tx (2000000 + j - 2000000)).1 else (tx (2000000 + j - 3000000)).2) = (tx j).1 := by
      rw [if_neg (by omega), if_neg (by omega), if_pos (by omega), show 2000000 + j - 2000000 = j by omega]
    have e4 : (if 3000000 + j = 1000000 then pa else if 3000000 + j = 1000001 then b else if 3000000 + j < 3000000 then (tx (3000000 + j - 2000000)).1 else (tx (3000000 + j - 3000000)).2) = (tx j).2 := by
      rw [if_neg (by omega), if_neg (by omega), if_neg (by omega), show 3000000 + j - 3000000 = j by omega]
    unfold mm_StrO mm_ex
    dsimp only
    rw [e3, e4]
    exact ⟨h2, h3, h4, h5, ml_Yt j hj⟩
  · exact va_Zof (hts _ (mm_wd_in ml_ls2)) (hts _ (mm_wd_in ml_in2)) (va_eqt (hg _ ml_cs)) hA
  · exact va_Zqof (hts _ (mm_wd_in ml_ls3)) (hts _ (mm_wd_in ml_in3)) (hg _ ml_si) hA
theorem ml_row : mm_tab[251]? = some (13, ⟨"GasTownLaw", "law", "([I)Z"⟩, code, 4, some .boolean, mc_Law_law) := by
  set_option maxRecDepth 100000 in
  rfl
/-- YOUR PART, out of a run of the small machine that ends with 1 -/
theorem whole_of_run {p : Program} {e : Env} {s : State} {m : MethodId} {below : List Frame} {meth : Method} {c : Code} (l : Launch) {b L : Nat} {xs : Nat → Int32} (hL : L ≤ 3072) (C0 : lw_At p s m meth c b L xs)
    (hrun : ∃ (d : Nat) (τ : mm_S), d ≤ 1000 ∧ mm_call (mm_X L xs) mm_Y (d + 1) 251 [.ref 1000001] ml_empty = some (some (.int 1), τ) ∧ τ.1.length ≤ 600000 ∧ mm_sz τ.1 ≤ 7302250) : W p l e room_1 s m #[Value.ref b] below meth c s.heap [] 0 0 (lw_Z below #[Value.ref b] s) (entryFrame m ([Value.ref b] : List Value).toArray 4) := by
  obtain ⟨hx, hb, hr, hml, hown, hts, hX, hbl, hlocks, hgv⟩ := id C0
  obtain ⟨g, hB, he, hA⟩ := ml_world hL hts hX hbl hgv
  obtain ⟨d, τ, hd, hcall, hτ1, hτ2⟩ := hrun
  unfold mm_call at hcall
  cases hmd : mm_md mm_tab 251 with
  | none => rw [hmd] at hcall; cases hcall
  | some q =>
    obtain ⟨n, LL⟩ := q
    rw [hmd] at hcall
    dsimp only at hcall
    cases hble : Nat.ble (mm_sl [.ref 1000001]).length n with
    | false => rw [hble] at hcall; cases hcall
    | true =>
      rw [hble] at hcall
      dsimp only at hcall
      have hble := Nat.le_of_ble_eq_true hble
      obtain ⟨row, hrow, rfl, rfl⟩ := mm_md_row _ _ _ _ hmd
      have hv := mm_v_all row (List.mem_of_getElem? hrow)
      have hre : row = (13, ⟨"GasTownLaw", "law", "([I)Z"⟩, code, 4, some .boolean, mc_Law_law) := Option.some.inj (hrow.symm.trans ml_row)
      obtain ⟨k, hk⟩ := (mm_fix_some (mm_X L xs) mm_Y (mm_call (mm_X L xs) mm_Y d) _).mp hcall
      subst hre
      have F : mm_Fx g (mm_X L xs) mm_Y p s m #[Value.ref b] c code 4 13 0 := ⟨hx, hb, hml, hown, fun w hw => hts w (List.mem_filter.mp hw).1, hA, by rw [hB]; rfl⟩
      rw [lg_entry_eq]
      have hbody := mm_body (Q := lw_Z below #[Value.ref b] s) (R := room_1) (l := l) (e := e) (below := below) (meth := meth) (s0 := 0) F (mm_sound g (mm_X L xs) mm_Y l d) (ini := false) (fun z => by cases z) (ret := some .boolean) (code := mm_look mc_Law_law) (fun pc e he => by
        have := mm_look_ok hv he
        exact this) (by simp only [room_1]; omega) (by simp only [room_1]; omega) (r0 := (some (.int 1), τ)) (by simp only [room_1]; omega) ?_ k _ hk
      · have hl := mm_ent_L g (as := [.ref 1000001]) hble
        have e1 : [Value.ref 1000001].map (mm_vv g) = [Value.ref b] := by
          simp only [List.map_cons, List.map_nil, mm_vv, mm_ad]
          rw [if_neg (by omega), he]
        rw [e1] at hl
        have hw := hbody.1 _ s.heap [] hl (fun k q h => by simp [mm_ws, mm_wF, ml_empty] at h) va_S.rf (Nat.le_refl _) (Nat.le_refl _)
        exact hw
      · intro pc ls st σ hs la H locs hl hHτ hS z1 z2
        cases hcode : mm_look mc_Law_law pc with
        | none => simp only [mm_step, hcode] at hs; cases hs
        | some en =>
          obtain ⟨ins, len, v, t, a, b2, k0, sw⟩ := en
          obtain ⟨hd, hok⟩ := mm_look_ok hv hcode
          dsimp only at hd
          rcases mm_step_ret hcode hs with ⟨rfl, x, rfl, hr0, hbit⟩ | ⟨rfl, x, rfl, hr0⟩ | ⟨rfl, rfl, hr0⟩ | ⟨rfl, x, rfl, hr0⟩
          · cases hr0
            have hl1 : len = 1 := by
              simp only [mm_ok, Bool.and_eq_true] at hok
              exact mm_beq hok.1
            subst hl1
            refine va_forget (fun q hq => ?_) ?_
            · have := hS.2.2 q hq
              rw [← hB]
              exact this
            · exact W.widen (by show τ.1.length - 0 ≤ 600000; omega) (by show mm_sz τ.1 - 0 ≤ 7302250; omega) (lw_ret hx hb hr hlocks hd)
          · cases hr0
          · cases hr0
          · cases hr0
