/-! A METHOD'S BODY; EVERY CALL. -/
theorem mm_maxl : mm_tab.all (fun r => Nat.ble r.2.2.2.1 30 && (!(decide (r.2.1.name = "<init>")) || decide (r.2.2.2.2.1 = none)) && plainName r.2.1.cls) = true := by decide +kernel
theorem mm_maxl_use {id : Nat} (h : id < 252) : (mm_row id).2.2.2.1 ≤ 30 ∧ ((mm_nm id).name = "<init>" → (mm_row id).2.2.2.2.1 = none) ∧ plainName (mm_nm id).cls = true := by
  have h0 := mm_tab_at h
  have h1 := List.all_eq_true.mp mm_maxl _ (List.mem_of_getElem? h0)
  simp only [Bool.and_eq_true, Bool.or_eq_true, Bool.not_eq_true', decide_eq_false_iff_not, decide_eq_true_eq] at h1
  rw [(mm_nm_row h0).2]
  exact ⟨Nat.le_of_ble_eq_true h1.1.1, fun z => h1.1.2.resolve_left (fun q => q z), h1.2⟩
theorem mm_find_mem : ∀ (l : List (Nat × mm_E)) (pc : Nat) (e : mm_E), mm_find l pc = some e → (pc, e) ∈ l
  | [], pc, e, h => by cases h
  | (p, e0) :: r, pc, e, h => by
    unfold mm_find at h
    cases hb : Nat.beq p pc with
    | true =>
      rw [hb] at h
      have h : some e0 = some e := h
      rw [← mm_beq hb, ← Option.some.inj h]
      exact List.mem_cons_self
    | false =>
      rw [hb] at h
      exact List.mem_cons_of_mem _ (mm_find_mem r pc e h)
theorem mm_nth_mem : ∀ (L : List (List (Nat × mm_E))) (n : Nat) (x : Nat × mm_E), x ∈ mm_nth L n → ∃ r ∈ L, x ∈ r
  | [], n, x, h => by cases h
  | a :: r, 0, x, h => ⟨a, List.mem_cons_self, h⟩
  | a :: r, n + 1, x, h => by
    obtain ⟨q, h1, h2⟩ := mm_nth_mem r n x h
    exact ⟨q, List.mem_cons_of_mem _ h1, h2⟩
theorem mm_look_ok {r : mm_Mt} (hv : mm_vr r = true) {pc : Nat} {e : mm_E} (h : mm_look r.2.2.2.2.2 pc = some e) : decode r.2.2.1 pc = .ok (e.1, e.2.1) ∧ mm_ok r.1 r.2.2.2.1 (decide (r.2.1.name = "<init>")) r.2.2.2.2.1 pc e = true := by
  obtain ⟨q, h1, h2⟩ := mm_nth_mem _ _ _ (mm_find_mem _ _ _ h)
  have h3 := List.all_eq_true.mp (List.all_eq_true.mp hv q h1) _ h2
  rw [Bool.and_eq_true] at h3
  exact ⟨of_decide_eq_true h3.1, h3.2⟩
section SIM9
variable {p : Program} {l : Launch} {e : Env} {R : Room} {s : State} {m : MethodId} {args : Array Value} {below : List Frame} {meth : Method} {c : Code} {Q : State → Prop} {cc : ByteArray}
variable {g : mm_G0} {X : Nat → Nat × (Nat → Int32)} {Y : Nat → List Int32} {nL n0 s0 o : Nat} {pc : Nat} {ls : List (Option Value)} {st r : List Value} {σ : mm_S}
set_option maxHeartbeats 4000000 in
theorem mm_callstep (F : mm_Fx g X Y p s m args c cc nL o n0) {cf : Nat → List Value → mm_S → Option mm_R} {d : Nat} (hcon : ∀ id as σ r, id < 251 → cf id as σ = some r → mm_Con g X Y l d id as σ r) {ini : Bool} {ret : Option FieldType} {code : Nat → Option mm_E} (hv : ∀ pc e, code pc = some e → decode cc pc = .ok (e.1, e.2.1) ∧ mm_ok o nL ini ret pc e = true) (hRf : d + 13 ≤ R.frames) (hRl : 60 * d + 460 ≤ R.locals)
    {id : Nat} {as : List Value} {c2 : mm_C} {r0 : mm_R} (hs : mm_step X Y code (pc, ls, st, σ) = some (.inr (.inr (id, as, c2)))) (hcf : cf id as c2.2.2.2 = some r0) (hroom : r0.2.1.length - n0 ≤ R.cells ∧ mm_sz r0.2.1 - s0 ≤ R.slots) (hk : mm_G g nL n0 s0 p l e R s m args below meth c Q (c2.1, c2.2.1, r0.1.toList ++ c2.2.2.1, r0.2)) : mm_G g nL n0 s0 p l e R s m args below meth c Q (pc, ls, st, σ) ∧ σ.1.length ≤ r0.2.1.length ∧ mm_sz σ.1 ≤ mm_sz r0.2.1 := by
  cases hcode : code pc with
  | none => simp only [mm_step, hcode] at hs; cases hs
  | some en =>
    obtain ⟨ins, len, v, t, a, b, k, sw⟩ := en
    obtain ⟨hd, hok⟩ := hv pc _ hcode
    dsimp only at hd
    obtain ⟨hins, hcall⟩ := mm_step_call hcode hs
    obtain ⟨rest, rfl, hp, hcat, hhead, rfl, ht10⟩ := mm_call1_call hcall
    obtain ⟨hlen, hst⟩ := mm_pops_use hp
    dsimp only at hcf hk
    have fin : id < 251 → (mm_Con g X Y l d id as σ r0 → mm_G g nL n0 s0 p l e R s m args below meth c Q (pc, ls, st, σ)) → mm_G g nL n0 s0 p l e R s m args below meth c Q (pc, ls, st, σ) ∧ σ.1.length ≤ r0.2.1.length ∧ mm_sz σ.1 ≤ mm_sz r0.2.1 := fun hid f => ⟨f (hcon _ _ _ _ hid hcf), (hcon _ _ _ _ hid hcf).1, (hcon _ _ _ _ hid hcf).2.1⟩
    rcases hins with ⟨i, rfl⟩ | ⟨i, rfl⟩ | ⟨i, rfl, h9⟩
    · simp only [mm_ok, Bool.and_eq_true] at hok
      have hl := mm_beq hok.1
      subst hl
      have h2 := hok.2
      split at h2
      · simp only [Bool.and_eq_true] at h2
        obtain ⟨⟨⟨⟨q1, q2⟩, q3⟩, q4⟩, q5⟩ := h2
        have hid := mm_blt q4
        have q2 := mm_beq q2
        have q3 := mm_beq q3
        refine fin hid (fun hc => ?_)
        rcases as with _ | ⟨v1, as2⟩
        · cases hhead
        · cases v1 <;> try (cases hhead; done)
          rename_i x
          have hob : mm_obj σ.1 x (mm_cnos.getD id 0) = true := by
            rw [← q3]
            unfold mm_head at hhead
            have hhead : (Nat.blt x 1000000 && (match mm_kd σ.1 x with
              | some (.inl ci) => Nat.beq ci k
              | _ => false)) = true := hhead
            rw [Bool.and_eq_true] at hhead
            unfold mm_obj
            rw [hhead.1]
            exact hhead.2
          exact mg_callV F hid hc hRf hRl hroom (mm_maxl_use (by omega)).1 hcat hst hd q1 rfl (by simp only [List.length_cons] at hlen; omega) hob (by rw [← q3]; exact mm_blt q5) hk
      · omega
      · omega
      · cases h2
    · simp only [mm_ok, Bool.and_eq_true] at hok
      have hl := mm_beq hok.1
      subst hl
      have h2 := hok.2
      split at h2
      · simp only [Bool.and_eq_true] at h2
        obtain ⟨⟨q1, q2⟩, q4⟩ := h2
        have hid := mm_blt q4
        have q2 := mm_beq q2
        exact fin hid (fun hc => mg_callS F hid hc hRf hRl hroom (mm_maxl_use (by omega)).1 hcat hst hd q1 (by omega) hk)
      · simp only [Bool.and_eq_true] at h2
        obtain ⟨⟨q1, q2⟩, q4⟩ := h2
        have hid := mm_blt q4
        have q2 := mm_beq q2
        exact fin hid (fun hc => mg_callSN F hid hc hRf hRl hroom (mm_maxl_use (by omega)).1 hcat hst hd q1 (by omega) hk)
      · omega
      · omega
      · omega
      · omega
      · cases h2
    · simp only [mm_ok, Bool.and_eq_true] at hok
      have hl := mm_beq hok.1
      subst hl
      have h2 := hok.2
      split at h2
      · simp only [Bool.and_eq_true] at h2
        obtain ⟨⟨q1, q2⟩, q4⟩ := h2
        have hid := mm_blt q4
        have q2 := mm_beq q2
        have hname : (mm_nm id).name = "<init>" := by
          obtain ⟨p1, p2, p3, p4, hq, -⟩ := mm_mok_use q1
          simp only [mm_mlc, Bool.and_eq_true] at hq
          exact of_decide_eq_true hq.2.2
        refine fin hid (fun hc => ?_)
        rcases as with _ | ⟨v1, as2⟩
        · cases hhead
        · cases v1 <;> try (cases hhead; done)
          exact mg_callI F hid hc hRf hRl hroom (mm_maxl_use (by omega)).1 hcat hst hd q1 rfl (by simp only [List.length_cons] at hlen; omega) ((mm_maxl_use (by omega)).2.1 hname) hk
      · simp only [Bool.and_eq_true] at h2
        obtain ⟨⟨q1, q2⟩, q4⟩ := h2
        have hid := mm_blt q4
        have q2 := mm_beq q2
        have hname : (mm_nm id).name = "<init>" := by
          obtain ⟨p1, p2, p3, p4, hq, -⟩ := mm_mok_use q1
          simp only [mm_mlc, Bool.and_eq_true] at hq
          exact of_decide_eq_true hq.2.2
        refine fin hid (fun hc => ?_)
        rcases as with _ | ⟨v1, as2⟩
        · cases hhead
        · cases v1 <;> try (cases hhead; done)
          exact mg_callIN F hid hc hRf hRl hroom (mm_maxl_use (by omega)).1 hcat hst hd q1 rfl (by simp only [List.length_cons] at hlen; omega) ((mm_maxl_use (by omega)).2.1 hname) hk
      · cases h9
      · cases h2
set_option maxHeartbeats 4000000 in
/-- from any point on, if the small machine's run ends -/
theorem mm_body (F : mm_Fx g X Y p s m args c cc nL o n0) {cf : Nat → List Value → mm_S → Option mm_R} {d : Nat} (hcon : ∀ id as σ r, id < 251 → cf id as σ = some r → mm_Con g X Y l d id as σ r) {ini : Bool} (hini : ini = true → meth.name = "<init>") {ret : Option FieldType} {code : Nat → Option mm_E} (hv : ∀ pc e, code pc = some e → decode cc pc = .ok (e.1, e.2.1) ∧ mm_ok o nL ini ret pc e = true) (hRf : d + 13 ≤ R.frames) (hRl : 60 * d + 460 ≤ R.locals) {r0 : mm_R} (hroom : r0.2.1.length - n0 ≤ R.cells ∧ mm_sz r0.2.1 - s0 ≤ R.slots)
    (hend : ∀ pc ls st σ, mm_step X Y code (pc, ls, st, σ) = some (.inr (.inl r0)) → mm_G g nL n0 s0 p l e R s m args below meth c Q (pc, ls, st, σ)) : ∀ (n : Nat) (k : mm_C), mm_run X Y cf code n k = some r0 → mm_G g nL n0 s0 p l e R s m args below meth c Q (k) ∧ k.2.2.2.1.length ≤ r0.2.1.length ∧ mm_sz k.2.2.2.1 ≤ mm_sz r0.2.1 := by
  intro n
  induction n with
  | zero => intro k h; cases h
  | succ n ih =>
    intro k h
    obtain ⟨pc, ls, st, σ⟩ := k
    simp only [mm_run] at h
    cases hs : mm_step X Y code (pc, ls, st, σ) with
    | none => rw [hs] at h; cases h
    | some q =>
      rw [hs] at h
      rcases q with c2 | r1 | ⟨id, as, pc2, ls2, st2, σ2⟩
      · obtain ⟨g1, g2, g3⟩ := ih c2 h
        have hg := mm_step_grow hs
        dsimp only at hg ⊢
        refine ⟨?_, by omega, by omega⟩
        cases hcode : code pc with
        | none => simp only [mm_step, hcode] at hs; cases hs
        | some en =>
          obtain ⟨ins, len, v, t, a, b, k, sw⟩ := en
          obtain ⟨hd, hok⟩ := hv pc _ hcode
          exact mm_next F hini hcode hd hok hs (by omega) (by omega) g1
      · have h : some r1 = some r0 := h
        cases h
        refine ⟨hend _ _ _ _ hs, ?_⟩
        cases hcode : code pc with
        | none => simp only [mm_step, hcode] at hs; cases hs
        | some en =>
          obtain ⟨ins, len, v, t, a, b, k, sw⟩ := en
          rcases mm_step_ret hcode hs with ⟨-, x, -, e2, -⟩ | ⟨-, x, -, e2⟩ | ⟨-, -, e2⟩ | ⟨-, x, -, e2⟩ <;> rw [e2] <;> exact ⟨Nat.le_refl _, Nat.le_refl _⟩
      · dsimp only at h
        cases hcf : cf id as σ2 with
        | none => rw [hcf] at h; cases h
        | some r1 =>
          rw [hcf] at h
          obtain ⟨g1, g2, g3⟩ := ih _ h
          dsimp only at g1 g2 g3 ⊢
          obtain ⟨k1, k2, k3⟩ := mm_callstep F hcon hv hRf hRl (c2 := (pc2, ls2, st2, σ2)) hs hcf (by omega) g1
          exact ⟨k1, by omega, by omega⟩
theorem mm_sl_len (g : mm_G0) : ∀ (as : List Value), (lg_sl (as.map (mm_vv g))).length = (mm_sl as).length
  | [] => rfl
  | v :: r => by
    have ih := mm_sl_len g r
    have e : lg_sl ((v :: r).map (mm_vv g)) = (if (mm_vv g v).category = 2 then [.val (mm_vv g v), .second] else [.val (mm_vv g v)]) ++ lg_sl (r.map (mm_vv g)) := by simp [lg_sl]
    rw [e, mm_cat_vv, List.length_append, ih]
    cases hl : mm_long (some v) with
    | true =>
      rw [if_pos (mm_long_cat.mp hl)]
      simp only [mm_sl, hl, List.length_cons, List.length_nil]
      omega
    | false =>
      rw [if_neg (fun z => by rw [mm_long_cat.mpr z] at hl; cases hl)]
      simp only [mm_sl, hl, List.length_cons, List.length_nil]
      omega
theorem mm_pad_get : ∀ (l : List (Option Value)) (n j : Nat) (w : Value), mm_get (l ++ List.replicate n none) j = some w → mm_get l j = some w
  | [], n, j, w, h => by
    exfalso
    have key : ∀ (n j : Nat), mm_get (List.replicate n none) j ≠ some w := by
      intro n
      induction n with
      | zero => intro j z; cases z
      | succ n ih =>
        intro j z
        rw [List.replicate_succ] at z
        cases j with
        | zero => cases z
        | succ j => exact ih j z
    exact key n j (by simpa using h)
  | a :: l, n, 0, w, h => h
  | a :: l, n, j + 1, w, h => mm_pad_get l n j w h
theorem mm_sl_args (g : mm_G0) : ∀ (as : List Value) (i j : Nat) (w : Value), mm_get (mm_sl as) j = some w → (i + j, mm_vv g w) ∈ lv_args i (as.map (mm_vv g))
  | [], i, j, w, h => by cases h
  | v :: r, i, j, w, h => by
    simp only [List.map_cons, lv_args, mm_cat_vv]
    unfold mm_sl at h
    cases hl : mm_long (some v) with
    | true =>
      rw [hl] at h
      rw [if_pos (mm_long_cat.mp hl)]
      match j, h with
      | 0, h =>
        have h : some v = some w := h
        cases h
        exact List.mem_cons_self
      | 1, h => cases h
      | j + 2, h =>
        have := mm_sl_args g r (i + 2) j w h
        rw [show i + (j + 2) = i + 2 + j by omega]
        exact List.mem_cons_of_mem _ this
    | false =>
      rw [hl] at h
      rw [if_neg (fun z => by rw [mm_long_cat.mpr z] at hl; cases hl)]
      match j, h with
      | 0, h =>
        have h : some v = some w := h
        cases h
        exact List.mem_cons_self
      | j + 1, h =>
        have := mm_sl_args g r (i + 1) j w h
        rw [show i + (j + 1) = i + 1 + j by omega]
        exact List.mem_cons_of_mem _ this
theorem mm_ent_L (g : mm_G0) {as : List Value} {n : Nat} (h : (mm_sl as).length ≤ n) : mm_L g ((lg_sl (as.map (mm_vv g)) ++ List.replicate (n - (lg_sl (as.map (mm_vv g))).length) Slot.unset).toArray) n (mm_ent n as) := by
  have hl := lv_entry (as.map (mm_vv g)) (n := n) (by rw [mm_sl_len]; exact h)
  refine ⟨hl.1, hl.2.1, fun j w hw => ?_⟩
  have h1 := mm_sl_args g as 0 j w (mm_pad_get _ _ _ _ hw)
  rw [Nat.zero_add] at h1
  exact hl.2.2 _ h1
end SIM9
theorem mm_md_row : ∀ (T : List mm_Mt) (id n : Nat) (L : List (List (Nat × mm_E))), mm_md T id = some (n, L) → ∃ r, T[id]? = some r ∧ r.2.2.2.1 = n ∧ r.2.2.2.2.2 = L
  | [], id, n, L, h => by cases h
  | (o, y, b, n0, ret, L0) :: r, 0, n, L, h => by
    cases h
    exact ⟨_, rfl, rfl, rfl⟩
  | a :: r, k + 1, n, L, h => by
    obtain ⟨o, y, b, n0, ret, L0⟩ := a
    obtain ⟨q, h1, h2⟩ := mm_md_row r k n L h
    exact ⟨q, by rw [List.getElem?_cons_succ]; exact h1, h2⟩
theorem mm_own_row : ∀ r ∈ mm_tab, mm_own r.1 = r.2.1.cls := by
  have h : mm_tab.all (fun r => decide (mm_own r.1 = r.2.1.cls)) = true := by decide +kernel
  intro r hr
  exact of_decide_eq_true (List.all_eq_true.mp h r hr)
theorem mm_run_grow {X : Nat → Nat × (Nat → Int32)} {Y : Nat → List Int32} {cf : Nat → List Value → mm_S → Option mm_R} {code : Nat → Option mm_E} (hcf : ∀ id as σ r, cf id as σ = some r → σ.1.length ≤ r.2.1.length ∧ mm_sz σ.1 ≤ mm_sz r.2.1) : ∀ (n : Nat) (k : mm_C) (r : mm_R), mm_run X Y cf code n k = some r → k.2.2.2.1.length ≤ r.2.1.length ∧ mm_sz k.2.2.2.1 ≤ mm_sz r.2.1 := by
  intro n
  induction n with
  | zero => intro k r h; cases h
  | succ n ih =>
    intro k r h
    obtain ⟨pc, ls, st, σ⟩ := k
    simp only [mm_run] at h
    cases hs : mm_step X Y code (pc, ls, st, σ) with
    | none => rw [hs] at h; cases h
    | some q =>
      rw [hs] at h
      rcases q with c2 | r1 | ⟨id, as, pc2, ls2, st2, σ2⟩
      · have h1 := ih c2 r h
        have hg := mm_step_grow hs
        omega
      · have h : some r1 = some r := h
        cases h
        cases hcode : code pc with
        | none => simp only [mm_step, hcode] at hs; cases hs
        | some en =>
          obtain ⟨ins, len, v, t, a, b, k, sw⟩ := en
          rcases mm_step_ret hcode hs with ⟨-, x, -, e2, -⟩ | ⟨-, x, -, e2⟩ | ⟨-, -, e2⟩ | ⟨-, x, -, e2⟩ <;> rw [e2] <;> exact ⟨Nat.le_refl _, Nat.le_refl _⟩
      · dsimp only at h
        cases hc : cf id as σ2 with
        | none => rw [hc] at h; cases h
        | some r1 =>
          rw [hc] at h
          have h1 := ih _ r h
          have h2 := hcf _ _ _ _ hc
          have hσ : σ2 = σ := by
            cases hcode : code pc with
            | none => simp only [mm_step, hcode] at hs; cases hs
            | some en =>
              obtain ⟨ins, len, v, t, a, b, k, sw⟩ := en
              obtain ⟨-, hcall⟩ := mm_step_call hcode hs
              obtain ⟨rest, -, -, -, -, e, -⟩ := mm_call1_call hcall
              cases e
              rfl
          subst hσ
          dsimp only at h1 ⊢
          omega
theorem mm_grow_all (X : Nat → Nat × (Nat → Int32)) (Y : Nat → List Int32) : ∀ (d id : Nat) (as : List Value) (σ : mm_S) (r : mm_R), mm_call X Y d id as σ = some r → σ.1.length ≤ r.2.1.length ∧ mm_sz σ.1 ≤ mm_sz r.2.1 := by
  intro d
  induction d with
  | zero => intro id as σ r h; cases h
  | succ d ih =>
    intro id as σ r h
    unfold mm_call at h
    cases hmd : mm_md mm_tab id with
    | none => rw [hmd] at h; cases h
    | some q =>
      obtain ⟨n, L⟩ := q
      rw [hmd] at h
      dsimp only at h
      cases hb : Nat.ble (mm_sl as).length n with
      | false => rw [hb] at h; cases h
      | true =>
        rw [hb] at h
        dsimp only at h
        obtain ⟨k, hk⟩ := (mm_fix_some X Y (mm_call X Y d) _).mp h
        exact mm_run_grow ih k _ _ hk
set_option maxHeartbeats 4000000 in
/-- EVERY CALL OF THE SMALL MACHINE THAT ENDS IS A CONTRACT OF THE MACHINE -/
theorem mm_sound (g : mm_G0) (X : Nat → Nat × (Nat → Int32)) (Y : Nat → List Int32) (l : Launch) : ∀ (d id : Nat) (as : List Value) (σ : mm_S) (r : mm_R), id < 251 → mm_call X Y d id as σ = some r → mm_Con g X Y l d id as σ r := by
  intro d
  induction d with
  | zero => intro id as σ r _ h; cases h
  | succ d ih =>
    intro id as σ r hid h
    unfold mm_call at h
    cases hmd : mm_md mm_tab id with
    | none => rw [hmd] at h; cases h
    | some q =>
      obtain ⟨n, L⟩ := q
      rw [hmd] at h
      dsimp only at h
      cases hb : Nat.ble (mm_sl as).length n with
      | false => rw [hb] at h; cases h
      | true =>
        rw [hb] at h
        dsimp only at h
        have hb := Nat.le_of_ble_eq_true hb
        obtain ⟨row, hrow, rfl, rfl⟩ := mm_md_row _ _ _ _ hmd
        obtain ⟨k, hk⟩ := (mm_fix_some X Y (mm_call X Y d) _).mp h
        have hv := mm_v_all row (List.mem_of_getElem? hrow)
        obtain ⟨e1, e2⟩ := mm_nm_row hrow
        -- the sizes
        have hgrow : σ.1.length ≤ r.2.1.length ∧ mm_sz σ.1 ≤ mm_sz r.2.1 := mm_run_grow (fun id as σ r hc => (mm_grow_all X Y d id as σ r hc)) k _ _ hk
        refine ⟨hgrow.1, hgrow.2, ?_⟩
        refine Met.ofW (cc := row.2.2.1) (maxL := row.2.2.2.1) (ret := row.2.2.2.2.1) (mm_maxl_use (by omega)).2.2 (by rw [mm_w_eq (by omega), e1]) ?_
        intro p e s m args below meth c s₁ B hml hP
        obtain ⟨rfl, hsz, hH, hA⟩ := hP
        have hts := atoms_spec (ws := mm_w id) B.pre
        have hownr : mm_own row.1 = (mm_nm id).cls := by
          rw [e2]
          exact mm_own_row row (List.mem_of_getElem? hrow)
        have F : mm_Fx g X Y p s m (as.map (mm_vv g)).toArray c row.2.2.1 row.2.2.2.1 row.1 σ.1.length := ⟨B.exec, B.bytes, hml, by rw [hownr]; exact findClass_of_methodNamed B.named, fun w hw => hts w (List.mem_cons_of_mem _ hw), hA, hsz⟩
        have hname := (name_of_methodNamed B.named B.method).1
        rw [lg_entry_eq]
        have hbody := mm_body (Q := MQ below (mm_Qc g r) (as.map (mm_vv g)).toArray s (r.2.1.length - σ.1.length) (mm_sz r.2.1 - mm_sz σ.1) (mm_Ao g)) (R := (headSpec (mm_w id) (mm_rm (d + 1) (r.2.1.length - σ.1.length) (mm_sz r.2.1 - mm_sz σ.1))).room) (l := l) (e := e) (below := below) (meth := meth) (s0 := mm_sz σ.1) F ih (ini := decide (row.2.1.name = "<init>")) (fun z => by rw [hname, e2]; exact of_decide_eq_true z) (ret := row.2.2.2.2.1) (code := mm_look row.2.2.2.2.2) (fun pc e he => mm_look_ok hv he) (by simp only [headSpec, mm_rm]; omega) (by simp only [headSpec, mm_rm]; omega) (r0 := r) (by simp only [headSpec, mm_rm]; omega) ?_ k _ hk
        · have hw := hbody.1 _ s.heap [] (mm_ent_L g hb) hH va_S.rf (Nat.le_refl _) (Nat.le_refl _)
          dsimp only at hw
          rw [Nat.sub_self, Nat.sub_self] at hw
          exact hw
        · intro pc ls st τ hs la H locs hl hHτ hS z1 z2
          dsimp only at z1 z2 hHτ hl
          cases hcode : mm_look row.2.2.2.2.2 pc with
          | none => simp only [mm_step, hcode] at hs; cases hs
          | some en =>
            obtain ⟨ins, len, v, t, a, b, k0, sw⟩ := en
            obtain ⟨hd, hok⟩ := mm_look_ok hv hcode
            dsimp only at hd
            rcases mm_step_ret hcode hs with ⟨rfl, x, rfl, rfl, hbit⟩ | ⟨rfl, x, rfl, rfl⟩ | ⟨rfl, rfl, rfl⟩ | ⟨rfl, x, rfl, rfl⟩
            · simp only [mm_ok, Bool.and_eq_true] at hok
              have hl1 := mm_beq hok.1
              subst hl1
              have h2 := hok.2
              have hq : ∀ t : State, t.heap = H → s.WarmedH t.vm → mm_Qc g (some (.int x), τ) (as.map (mm_vv g)).toArray s (.returned (some (.int x))) t := fun t ht hW => ⟨rfl, by rw [ht]; exact hHτ, hS.F ht⟩
              split at h2
              · rename_i hret
                exact W.iret B.exec B.bytes (B.returns.trans hret) hq hS.2.2 hd B.notSynchronized
              · rename_i hret
                have hx : mm_bit x = true := by
                  rcases hbit with z | z
                  · rw [mm_beq z] at h2; cases h2
                  · exact z
                refine W.zret (ty := .boolean) B.exec B.bytes (B.returns.trans hret) ?_ hq hS.2.2 hd B.notSynchronized
                rcases mm_bit_use hx with rfl | rfl <;> decide +kernel
              · cases h2
            · simp only [mm_ok, Bool.and_eq_true] at hok
              have hl1 := mm_beq hok.1
              subst hl1
              have h2 := hok.2
              split at h2
              · rename_i hret
                exact W.lret B.exec B.bytes (B.returns.trans hret) (fun t ht hW => ⟨rfl, by rw [ht]; exact hHτ, hS.F ht⟩) hS.2.2 hd B.notSynchronized
              · cases h2
            · simp only [mm_ok, Bool.and_eq_true] at hok
              have hl1 := mm_beq hok.1
              subst hl1
              have h2 := hok.2
              split at h2
              · rename_i hret
                exact W.vret B.exec B.bytes (B.returns.trans hret) (fun t ht hW => ⟨rfl, by rw [ht]; exact hHτ, hS.F ht⟩) hS.2.2 hd B.notSynchronized
              · cases h2
            · simp only [mm_ok, Bool.and_eq_true] at hok
              have hl1 := mm_beq hok.1
              subst hl1
              have h2 := hok.2
              split at h2
              · rename_i hret
                exact W.aret B.exec B.bytes (B.returns.trans hret) (Or.inl ⟨_, rfl⟩) (Or.inr ⟨_, rfl⟩) (fun t ht hW => ⟨rfl, by rw [ht]; exact hHτ, hS.F ht⟩) hS.2.2 hd B.notSynchronized
              · cases h2
