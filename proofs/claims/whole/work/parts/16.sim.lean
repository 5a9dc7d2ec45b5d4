/-! ONE STEP OF THE SMALL MACHINE THAT GOES ON WITHIN A METHOD. -/
theorem mm_call1_inv {Y : Nat → List Int32} {t a b k pc : Nat} {ls : List (Option Value)} {st : List Value} {σ : mm_S} {c2 : mm_C} (h : mm_call1 Y t a b k pc ls st σ = some (.inl c2)) : Nat.ble 10 t = true ∧ cond (Nat.ble (mm_cats st) 9) (mm_intr Y t pc ls st σ) none = some (.inl c2) := by
  unfold mm_call1 at h
  cases hb : Nat.ble 10 t with
  | true => rw [hb] at h; exact ⟨rfl, h⟩
  | false =>
    rw [hb] at h
    dsimp only at h
    cases hp : mm_pops b [] st with
    | none => rw [hp] at h; cases h
    | some q =>
      rw [hp] at h
      obtain ⟨-, h⟩ := mm_cond_inv h
      cases h
section SIM7
variable {p : Program} {l : Launch} {e : Env} {R : Room} {s : State} {m : MethodId} {args : Array Value} {below : List Frame} {meth : Method} {c : Code} {Q : State → Prop} {cc : ByteArray}
variable {g : mm_G0} {X : Nat → Nat × (Nat → Int32)} {Y : Nat → List Int32} {nL n0 s0 o : Nat} {pc : Nat} {ls : List (Option Value)} {st r : List Value} {σ : mm_S}
set_option maxHeartbeats 4000000 in
set_option maxRecDepth 100000 in
theorem mm_next (F : mm_Fx g X Y p s m args c cc nL o n0) {ini : Bool} (hini : ini = true → meth.name = "<init>") {ret : Option FieldType} {code : Nat → Option mm_E} {ins : Instr} {len t a b k : Nat} {v : Value} {sw : List (Int32 × Nat)} (hcode : code pc = some (ins, len, v, t, a, b, k, sw)) (hd : decode cc pc = .ok (ins, len)) (hok : mm_ok o nL ini ret pc (ins, len, v, t, a, b, k, sw) = true) {c2 : mm_C} (hs : mm_step X Y code (pc, ls, st, σ) = some (.inl c2))
    (hr : c2.2.2.2.1.length - n0 ≤ R.cells ∧ mm_sz c2.2.2.2.1 - s0 ≤ R.slots) (hR : 12 ≤ R.frames ∧ 400 ≤ R.locals) (hk : mm_G g nL n0 s0 p l e R s m args below meth c Q c2) : mm_G g nL n0 s0 p l e R s m args below meth c Q (pc, ls, st, σ) := by
  simp only [mm_step, hcode] at hs
  cases ins <;> dsimp only at hs <;> try (cases hs; done)
  case aload i =>
    have hl := mm_beq hok
    subst hl
    cases hg : mm_get ls i with
    | none => rw [hg] at hs; cases hs
    | some w =>
      rw [hg] at hs
      cases w with
      | ref x =>
        obtain rfl := mm_nx_inv hs
        exact mg_aload F hd hg hk
      | _ => cases hs
  case aload_n i =>
    simp only [mm_ok, Bool.and_eq_true] at hok
    have hl := mm_beq hok.1
    have ht := mm_beq hok.2
    subst hl
    cases hg : mm_get ls t with
    | none => rw [hg] at hs; cases hs
    | some w =>
      rw [hg] at hs
      cases w with
      | ref x =>
        obtain rfl := mm_nx_inv hs
        exact mg_aload_n F hd ht hg hk
      | _ => cases hs
  case iload i =>
    have hl := mm_beq hok
    subst hl
    cases hg : mm_get ls i with
    | none => rw [hg] at hs; cases hs
    | some w =>
      rw [hg] at hs
      cases w with
      | int x =>
        obtain rfl := mm_nx_inv hs
        exact mg_iload F hd hg hk
      | _ => cases hs
  case iload_n i =>
    simp only [mm_ok, Bool.and_eq_true] at hok
    have hl := mm_beq hok.1
    have ht := mm_beq hok.2
    subst hl
    cases hg : mm_get ls t with
    | none => rw [hg] at hs; cases hs
    | some w =>
      rw [hg] at hs
      cases w with
      | int x =>
        obtain rfl := mm_nx_inv hs
        exact mg_iload_n F hd ht hg hk
      | _ => cases hs
  case lload i =>
    have hl := mm_beq hok
    subst hl
    cases hg : mm_get ls i with
    | none => rw [hg] at hs; cases hs
    | some w =>
      rw [hg] at hs
      cases w with
      | long x =>
        obtain rfl := mm_nx_inv hs
        exact mg_lload F hd hg hk
      | _ => cases hs
  case lload_n i =>
    simp only [mm_ok, Bool.and_eq_true] at hok
    have hl := mm_beq hok.1
    have ht := mm_beq hok.2
    subst hl
    cases hg : mm_get ls t with
    | none => rw [hg] at hs; cases hs
    | some w =>
      rw [hg] at hs
      cases w with
      | long x =>
        obtain rfl := mm_nx_inv hs
        exact mg_lload_n F hd ht hg hk
      | _ => cases hs
  case istore i =>
    simp only [mm_ok, Bool.and_eq_true] at hok
    have hl := mm_beq hok.1
    have hi := mm_blt hok.2
    subst hl
    rcases st with _ | ⟨v1, r⟩
    · cases hs
    · cases v1 with
      | int x =>
        obtain rfl := mm_nx_inv hs
        exact mg_istore F hd hi hk
      | _ => cases hs
  case istore_n i =>
    simp only [mm_ok, Bool.and_eq_true] at hok
    have hl := mm_beq hok.1.1
    have ht := mm_beq hok.1.2
    have hi := mm_blt hok.2
    subst hl
    rcases st with _ | ⟨v1, r⟩
    · cases hs
    · cases v1 with
      | int x =>
        obtain rfl := mm_nx_inv hs
        exact mg_istore_n F hd ht hi hk
      | _ => cases hs
  case astore i =>
    simp only [mm_ok, Bool.and_eq_true] at hok
    have hl := mm_beq hok.1
    have hi := mm_blt hok.2
    subst hl
    rcases st with _ | ⟨v1, r⟩
    · cases hs
    · cases v1 with
      | ref x =>
        obtain rfl := mm_nx_inv hs
        exact mg_astore F hd hi hk
      | _ => cases hs
  case astore_n i =>
    simp only [mm_ok, Bool.and_eq_true] at hok
    have hl := mm_beq hok.1.1
    have ht := mm_beq hok.1.2
    have hi := mm_blt hok.2
    subst hl
    rcases st with _ | ⟨v1, r⟩
    · cases hs
    · cases v1 with
      | ref x =>
        obtain rfl := mm_nx_inv hs
        exact mg_astore_n F hd ht hi hk
      | _ => cases hs
  case lstore i =>
    simp only [mm_ok, Bool.and_eq_true] at hok
    have hl := mm_beq hok.1
    have hi := mm_blt hok.2
    subst hl
    rcases st with _ | ⟨v1, r⟩
    · cases hs
    · cases v1 with
      | long x =>
        obtain rfl := mm_nx_inv hs
        exact mg_lstore F hd hi hk
      | _ => cases hs
  case lstore_n i =>
    simp only [mm_ok, Bool.and_eq_true] at hok
    have hl := mm_beq hok.1.1
    have ht := mm_beq hok.1.2
    have hi := mm_blt hok.2
    subst hl
    rcases st with _ | ⟨v1, r⟩
    · cases hs
    · cases v1 with
      | long x =>
        obtain rfl := mm_nx_inv hs
        exact mg_lstore_n F hd ht hi hk
      | _ => cases hs
  case iinc i n =>
    simp only [mm_ok, Bool.and_eq_true] at hok
    have hl := mm_beq hok.1.1
    have hi := mm_blt hok.1.2
    have hv := of_decide_eq_true hok.2
    subst hl
    subst hv
    cases hg : mm_get ls i with
    | none => rw [hg] at hs; cases hs
    | some w =>
      rw [hg] at hs
      cases w with
      | int x =>
        obtain rfl := mm_nx_inv hs
        exact mg_iinc F hd hi hg hk
      | _ => cases hs
  case iconst n =>
    simp only [mm_ok, Bool.and_eq_true] at hok
    have hl := mm_beq hok.1
    have hv := of_decide_eq_true hok.2
    subst hl
    obtain rfl := mm_nx_inv hs
    exact mg_iconst F hd hv hk
  case bipush n =>
    simp only [mm_ok, Bool.and_eq_true] at hok
    have hl := mm_beq hok.1
    have hv := of_decide_eq_true hok.2
    subst hl
    obtain rfl := mm_nx_inv hs
    exact mg_bipush F hd hv hk
  case sipush n =>
    simp only [mm_ok, Bool.and_eq_true] at hok
    have hl := mm_beq hok.1
    have hv := of_decide_eq_true hok.2
    subst hl
    obtain rfl := mm_nx_inv hs
    exact mg_sipush F hd hv hk
  case lconst n =>
    simp only [mm_ok, Bool.and_eq_true] at hok
    have hl := mm_beq hok.1
    have hv := of_decide_eq_true hok.2
    subst hl
    obtain rfl := mm_nx_inv hs
    exact mg_lconst F hd hv hk
  case ldc i =>
    simp only [mm_ok, Bool.and_eq_true] at hok
    have hl := mm_beq hok.1.1
    subst hl
    obtain rfl := mm_nx_inv hs
    exact mg_ldc F hd hok.1.2 (fun x hx => by rw [hx] at hok; exact absurd hok.2 (by simp)) hk
  case ldc_w i =>
    simp only [mm_ok, Bool.and_eq_true] at hok
    have hl := mm_beq hok.1.1
    subst hl
    obtain rfl := mm_nx_inv hs
    exact mg_ldc_w F hd hok.1.2 (fun x hx => by rw [hx] at hok; exact absurd hok.2 (by simp)) hk
  case ldc2_w i =>
    simp only [mm_ok, Bool.and_eq_true] at hok
    have hl := mm_beq hok.1.1
    subst hl
    obtain rfl := mm_nx_inv hs
    cases v with
    | long x => exact mg_ldc2_w F hd hok.1.2 hk
    | _ => exact absurd hok.2 (by simp)
  case getstatic i =>
    simp only [mm_ok, Bool.and_eq_true] at hok
    have hl := mm_beq hok.1.1.1
    have ho := mm_beq hok.1.1.2
    have hi := mm_beq hok.1.2
    have hv := of_decide_eq_true hok.2
    subst hl
    subst hi
    subst hv
    obtain rfl := mm_nx_inv hs
    exact mg_getstatic F ho hd hk
  case iadd =>
    have hl := mm_beq hok
    subst hl
    rcases st with _ | ⟨v1, _ | ⟨v2, r⟩⟩
    · cases hs
    · cases v1 <;> cases hs
    · cases v1 <;> try (cases hs; done)
      cases v2 <;> try (cases hs; done)
      obtain rfl := mm_nx_inv hs
      exact mg_iadd F hd hk
  case isub =>
    have hl := mm_beq hok
    subst hl
    rcases st with _ | ⟨v1, _ | ⟨v2, r⟩⟩
    · cases hs
    · cases v1 <;> cases hs
    · cases v1 <;> try (cases hs; done)
      cases v2 <;> try (cases hs; done)
      obtain rfl := mm_nx_inv hs
      exact mg_isub F hd hk
  case imul =>
    have hl := mm_beq hok
    subst hl
    rcases st with _ | ⟨v1, _ | ⟨v2, r⟩⟩
    · cases hs
    · cases v1 <;> cases hs
    · cases v1 <;> try (cases hs; done)
      cases v2 <;> try (cases hs; done)
      obtain rfl := mm_nx_inv hs
      exact mg_imul F hd hk
  case iand =>
    have hl := mm_beq hok
    subst hl
    rcases st with _ | ⟨v1, _ | ⟨v2, r⟩⟩
    · cases hs
    · cases v1 <;> cases hs
    · cases v1 <;> try (cases hs; done)
      cases v2 <;> try (cases hs; done)
      obtain rfl := mm_nx_inv hs
      exact mg_iand F hd hk
  case ior =>
    have hl := mm_beq hok
    subst hl
    rcases st with _ | ⟨v1, _ | ⟨v2, r⟩⟩
    · cases hs
    · cases v1 <;> cases hs
    · cases v1 <;> try (cases hs; done)
      cases v2 <;> try (cases hs; done)
      obtain rfl := mm_nx_inv hs
      exact mg_ior F hd hk
  case ishl =>
    have hl := mm_beq hok
    subst hl
    rcases st with _ | ⟨v1, _ | ⟨v2, r⟩⟩
    · cases hs
    · cases v1 <;> cases hs
    · cases v1 <;> try (cases hs; done)
      cases v2 <;> try (cases hs; done)
      obtain rfl := mm_nx_inv hs
      exact mg_ishl F hd hk
  case ishr =>
    have hl := mm_beq hok
    subst hl
    rcases st with _ | ⟨v1, _ | ⟨v2, r⟩⟩
    · cases hs
    · cases v1 <;> cases hs
    · cases v1 <;> try (cases hs; done)
      cases v2 <;> try (cases hs; done)
      obtain rfl := mm_nx_inv hs
      exact mg_ishr F hd hk
  case iushr =>
    have hl := mm_beq hok
    subst hl
    rcases st with _ | ⟨v1, _ | ⟨v2, r⟩⟩
    · cases hs
    · cases v1 <;> cases hs
    · cases v1 <;> try (cases hs; done)
      cases v2 <;> try (cases hs; done)
      obtain rfl := mm_nx_inv hs
      exact mg_iushr F hd hk
  case idiv =>
    have hl := mm_beq hok
    subst hl
    rcases st with _ | ⟨v1, _ | ⟨v2, r⟩⟩
    · cases hs
    · cases v1 <;> cases hs
    · cases v1 <;> try (cases hs; done)
      cases v2 <;> try (cases hs; done)
      obtain ⟨hy, hs⟩ := mm_cond_inv hs
      obtain rfl := mm_nx_inv hs
      exact mg_idiv F hd (by simpa using hy) hk
  case irem =>
    have hl := mm_beq hok
    subst hl
    rcases st with _ | ⟨v1, _ | ⟨v2, r⟩⟩
    · cases hs
    · cases v1 <;> cases hs
    · cases v1 <;> try (cases hs; done)
      cases v2 <;> try (cases hs; done)
      obtain ⟨hy, hs⟩ := mm_cond_inv hs
      obtain rfl := mm_nx_inv hs
      exact mg_irem F hd (by simpa using hy) hk
  case ladd =>
    have hl := mm_beq hok
    subst hl
    rcases st with _ | ⟨v1, _ | ⟨v2, r⟩⟩
    · cases hs
    · cases v1 <;> cases hs
    · cases v1 <;> try (cases hs; done)
      cases v2 <;> try (cases hs; done)
      obtain rfl := mm_nx_inv hs
      exact mg_ladd F hd hk
  case lsub =>
    have hl := mm_beq hok
    subst hl
    rcases st with _ | ⟨v1, _ | ⟨v2, r⟩⟩
    · cases hs
    · cases v1 <;> cases hs
    · cases v1 <;> try (cases hs; done)
      cases v2 <;> try (cases hs; done)
      obtain rfl := mm_nx_inv hs
      exact mg_lsub F hd hk
  case lmul =>
    have hl := mm_beq hok
    subst hl
    rcases st with _ | ⟨v1, _ | ⟨v2, r⟩⟩
    · cases hs
    · cases v1 <;> cases hs
    · cases v1 <;> try (cases hs; done)
      cases v2 <;> try (cases hs; done)
      obtain rfl := mm_nx_inv hs
      exact mg_lmul F hd hk
  case lcmp =>
    have hl := mm_beq hok
    subst hl
    rcases st with _ | ⟨v1, _ | ⟨v2, r⟩⟩
    · cases hs
    · cases v1 <;> cases hs
    · cases v1 <;> try (cases hs; done)
      cases v2 <;> try (cases hs; done)
      obtain rfl := mm_nx_inv hs
      exact mg_lcmp F hd hk
  case ldiv =>
    have hl := mm_beq hok
    subst hl
    rcases st with _ | ⟨v1, _ | ⟨v2, r⟩⟩
    · cases hs
    · cases v1 <;> cases hs
    · cases v1 <;> try (cases hs; done)
      cases v2 <;> try (cases hs; done)
      obtain ⟨hy, hs⟩ := mm_cond_inv hs
      obtain rfl := mm_nx_inv hs
      exact mg_ldiv F hd (by simpa using hy) hk
  case lrem =>
    have hl := mm_beq hok
    subst hl
    rcases st with _ | ⟨v1, _ | ⟨v2, r⟩⟩
    · cases hs
    · cases v1 <;> cases hs
    · cases v1 <;> try (cases hs; done)
      cases v2 <;> try (cases hs; done)
      obtain ⟨hy, hs⟩ := mm_cond_inv hs
      obtain rfl := mm_nx_inv hs
      exact mg_lrem F hd (by simpa using hy) hk
  case i2l =>
    have hl := mm_beq hok
    subst hl
    rcases st with _ | ⟨v1, r⟩
    · cases hs
    · cases v1 <;> try (cases hs; done)
      obtain rfl := mm_nx_inv hs
      exact mg_i2l F hd hk
  case l2i =>
    have hl := mm_beq hok
    subst hl
    rcases st with _ | ⟨v1, r⟩
    · cases hs
    · cases v1 <;> try (cases hs; done)
      obtain rfl := mm_nx_inv hs
      exact mg_l2i F hd hk
  case pop =>
    have hl := mm_beq hok
    subst hl
    rcases st with _ | ⟨v1, r⟩
    · cases hs
    · cases v1 <;> try (cases hs; done)
      obtain rfl := mm_nx_inv hs
      exact mg_pop F hd hk
  case dup =>
    have hl := mm_beq hok
    subst hl
    rcases st with _ | ⟨v1, r⟩
    · cases hs
    · cases v1 with
      | int x =>
        obtain rfl := mm_nx_inv hs
        exact mg_dupi F hd hk
      | ref x =>
        obtain rfl := mm_nx_inv hs
        exact mg_dupr F hd hk
      | _ => cases hs
  case dup2 =>
    have hl := mm_beq hok
    subst hl
    rcases st with _ | ⟨v1, _ | ⟨v2, r⟩⟩
    · cases hs
    · cases v1 <;> cases hs
    · cases v1 <;> try (cases hs; done)
      cases v2 <;> try (cases hs; done)
      obtain rfl := mm_nx_inv hs
      exact mg_dup2 F hd hk
  case dup_x1 =>
    have hl := mm_beq hok
    subst hl
    rcases st with _ | ⟨v1, _ | ⟨v2, r⟩⟩
    · cases hs
    · cases v1 <;> cases hs
    · cases v1 <;> try (cases hs; done)
      cases v2 <;> try (cases hs; done)
      obtain rfl := mm_nx_inv hs
      exact mg_dup_x1 F hd hk
  case goto off =>
    simp only [mm_ok, Bool.and_eq_true] at hok
    have hl := mm_beq hok.1
    subst hl
    obtain rfl := mm_nx_inv hs
    exact mg_goto F hd (mm_on_use hok.2) hk
  case ifCond cd off =>
    simp only [mm_ok, Bool.and_eq_true] at hok
    have hl := mm_beq hok.1
    subst hl
    rcases st with _ | ⟨v1, r⟩
    · cases hs
    · cases v1 <;> try (cases hs; done)
      obtain rfl := mm_nx_inv hs
      exact mg_ifc (y := 0) F hd (mm_on_use hok.2) hk
  case if_icmp cd off =>
    simp only [mm_ok, Bool.and_eq_true] at hok
    have hl := mm_beq hok.1
    subst hl
    rcases st with _ | ⟨v1, _ | ⟨v2, r⟩⟩
    · cases hs
    · cases v1 <;> cases hs
    · cases v1 <;> try (cases hs; done)
      cases v2 <;> try (cases hs; done)
      obtain rfl := mm_nx_inv hs
      exact mg_icmp F hd (mm_on_use hok.2) hk
  case tableswitch d lo hi offs =>
    simp only [mm_ok, Bool.and_eq_true] at hok
    obtain ⟨⟨⟨⟨⟨⟨q1, q2⟩, q3⟩, q4⟩, q5⟩, q6⟩, q7⟩ := hok
    have q2 := of_decide_eq_true q2
    subst q2
    rcases st with _ | ⟨v1, r⟩
    · cases hs
    · cases v1 <;> try (cases hs; done)
      obtain rfl := mm_nx_inv hs
      exact mg_table F hd (mm_on_use q1) (of_decide_eq_true q3) q4 q5 (mm_blt q6) q7 hk
  case lookupswitch d ps =>
    simp only [mm_ok, Bool.and_eq_true] at hok
    obtain ⟨⟨⟨q1, q2⟩, q3⟩, q4⟩ := hok
    have q2 := of_decide_eq_true q2
    subst q2
    rcases st with _ | ⟨v1, r⟩
    · cases hs
    · cases v1 <;> try (cases hs; done)
      obtain rfl := mm_nx_inv hs
      exact mg_lookup F hd (mm_on_use q1) q3 q4 hk
  case getfield i =>
    simp only [mm_ok, Bool.and_eq_true] at hok
    have hl := mm_beq hok.1.1
    have hkk := mm_beq hok.2
    subst hl
    rcases st with _ | ⟨v1, r⟩
    · cases hs
    · cases v1 <;> try (cases hs; done)
      rename_i x
      cases ho : mm_obj σ.1 x a with
      | false => simp only [ho] at hs; cases hs
      | true =>
        simp only [ho] at hs
        have hle : mm_ft a b ≤ 3 := by
          obtain ⟨C, T, N, hc, hb, -, -⟩ := mm_fl_use hok.1.2
          exact ((mm_class hc).2.1 b hb).2.1
        generalize hft : mm_ft a b = f at hkk hle
        match f, hle with
        | 0, _ =>
          subst hkk
          obtain rfl := mm_nx_inv hs
          exact mg_getfield F hd hok.1.2 ho (by rw [hft]; rfl) hk
        | 1, _ =>
          subst hkk
          obtain rfl := mm_nx_inv hs
          exact mg_getfield F hd hok.1.2 ho (by rw [hft]; rfl) hk
        | 2, _ =>
          subst hkk
          obtain rfl := mm_nx_inv hs
          exact mg_getfield F hd hok.1.2 ho (by rw [hft, mm_rv_vv]; rfl) hk
        | 3, _ =>
          subst hkk
          obtain rfl := mm_nx_inv hs
          exact mg_getfield F hd hok.1.2 ho (by rw [hft]; rfl) hk
  case putfield i =>
    simp only [mm_ok, Bool.and_eq_true] at hok
    obtain ⟨⟨⟨⟨q1, q2⟩, q3⟩, q4⟩, q5⟩ := hok
    have hl := mm_beq q1
    have hkk := mm_beq q3
    have ht := mm_beq q5
    subst hl
    have hfin : (match (mm_cls[a]?).map (fun q => (q.2.1 b).2.2.2) with | some true => 1 | _ => 0) = 1 → ini = true ∧ o = a := by
      intro z
      have z2 : t = 1 := ht.trans z
      rw [z2] at q4
      simp only [Nat.beq_refl, Bool.not_true, Bool.false_or, Bool.and_eq_true] at q4
      exact ⟨q4.1, mm_beq q4.2⟩
    rcases st with _ | ⟨w, _ | ⟨v2, r⟩⟩
    · cases hs
    · cases hs
    · cases v2 <;> try (cases hs; done)
      rename_i x
      cases ho : mm_obj σ.1 x a with
      | false => simp only [ho] at hs; cases hs
      | true =>
        simp only [ho] at hs
        have hle : mm_ft a b ≤ 3 := by
          obtain ⟨C, T, N, hc, hb, -, -⟩ := mm_fl_use q2
          exact ((mm_class hc).2.1 b hb).2.1
        generalize hft : mm_ft a b = f at hkk hle
        subst hkk
        match k, hle with
        | 0, _ =>
          cases w <;> try (cases hs; done)
          obtain rfl := mm_nx_inv hs
          exact mg_putI F hini hd q2 hfin ho hft hk
        | 1, _ =>
          cases w <;> try (cases hs; done)
          obtain rfl := mm_nx_inv hs
          exact mg_putL F hini hd q2 hfin ho hft hk
        | 2, _ =>
          cases w <;> try (cases hs; done)
          obtain rfl := mm_nx_inv hs
          exact mg_putR F hini hd q2 hfin ho hft hk
        | 3, _ =>
          cases w <;> try (cases hs; done)
          obtain ⟨hy, hs⟩ := mm_cond_inv hs
          obtain rfl := mm_nx_inv hs
          exact mg_putZ F hini hd q2 hfin ho hft hy hk
  case iaload =>
    have hl := mm_beq hok
    subst hl
    rcases st with _ | ⟨v1, _ | ⟨v2, r⟩⟩
    · cases hs
    · cases v1 <;> cases hs
    · cases v1 <;> try (cases hs; done)
      cases v2 <;> try (cases hs; done)
      rename_i i x
      cases hx : Nat.blt x 1000000 with
      | true =>
        simp only [hx] at hs
        cases ha : mm_arr σ.1 x 0 with
        | none => simp only [ha] at hs; cases hs
        | some n =>
          simp only [ha] at hs
          obtain ⟨hi, hs⟩ := mm_cond_inv hs
          obtain rfl := mm_nx_inv hs
          exact mg_iaload F hd ha hi hk
      | false =>
        simp only [hx] at hs
        obtain ⟨hi, hs⟩ := mm_cond_inv hs
        rw [Bool.and_eq_true] at hi
        obtain rfl := mm_nx_inv hs
        have h1 : ¬ x < 1000000 := fun z => by rw [show Nat.blt x 1000000 = true from Nat.ble_eq_true_of_le z] at hx; cases hx
        exact mg_xaload F hd (Nat.not_lt.mp h1) (mm_blt hi.1) hi.2 hk
  case baload =>
    have hl := mm_beq hok
    subst hl
    rcases st with _ | ⟨v1, _ | ⟨v2, r⟩⟩
    · cases hs
    · cases v1 <;> cases hs
    · cases v1 <;> try (cases hs; done)
      cases v2 <;> try (cases hs; done)
      rename_i i x
      cases ha : mm_arr σ.1 x 2 with
      | none => simp only [ha] at hs; cases hs
      | some n =>
        simp only [ha] at hs
        obtain ⟨hi, hs⟩ := mm_cond_inv hs
        obtain rfl := mm_nx_inv hs
        exact mg_baload F hd ha hi hk
  case laload =>
    have hl := mm_beq hok
    subst hl
    rcases st with _ | ⟨v1, _ | ⟨v2, r⟩⟩
    · cases hs
    · cases v1 <;> cases hs
    · cases v1 <;> try (cases hs; done)
      cases v2 <;> try (cases hs; done)
      rename_i i x
      cases ha : mm_arr σ.1 x 1 with
      | none => simp only [ha] at hs; cases hs
      | some n =>
        simp only [ha] at hs
        obtain ⟨hi, hs⟩ := mm_cond_inv hs
        obtain rfl := mm_nx_inv hs
        exact mg_laload F hd ha hi hk
  case aaload =>
    have hl := mm_beq hok
    subst hl
    rcases st with _ | ⟨v1, _ | ⟨v2, r⟩⟩
    · cases hs
    · cases v1 <;> cases hs
    · cases v1 <;> try (cases hs; done)
      cases v2 <;> try (cases hs; done)
      rename_i i x
      cases ha : mm_arr σ.1 x 3 with
      | none => simp only [ha] at hs; cases hs
      | some n =>
        simp only [ha] at hs
        obtain ⟨hi, hs⟩ := mm_cond_inv hs
        obtain rfl := mm_nx_inv hs
        exact mg_aaload F hd ha hi hk
  case iastore =>
    have hl := mm_beq hok
    subst hl
    rcases st with _ | ⟨v1, _ | ⟨v2, _ | ⟨v3, r⟩⟩⟩
    · cases hs
    · cases v1 <;> cases hs
    · cases v1 <;> cases v2 <;> cases hs
    · cases v1 <;> try (cases hs; done)
      cases v2 <;> try (cases hs; done)
      cases v3 <;> try (cases hs; done)
      rename_i y i x
      cases ha : mm_arr σ.1 x 0 with
      | none => simp only [ha] at hs; cases hs
      | some n =>
        simp only [ha] at hs
        obtain ⟨hi, hs⟩ := mm_cond_inv hs
        obtain rfl := mm_nx_inv hs
        exact mg_iastore F hd ha hi hk
  case bastore =>
    have hl := mm_beq hok
    subst hl
    rcases st with _ | ⟨v1, _ | ⟨v2, _ | ⟨v3, r⟩⟩⟩
    · cases hs
    · cases v1 <;> cases hs
    · cases v1 <;> cases v2 <;> cases hs
    · cases v1 <;> try (cases hs; done)
      cases v2 <;> try (cases hs; done)
      cases v3 <;> try (cases hs; done)
      rename_i y i x
      cases ha : mm_arr σ.1 x 2 with
      | none => simp only [ha] at hs; cases hs
      | some n =>
        simp only [ha] at hs
        obtain ⟨hi, hs⟩ := mm_cond_inv hs
        rw [Bool.and_eq_true] at hi
        obtain rfl := mm_nx_inv hs
        exact mg_bastore F hd ha hi.1 hi.2 hk
  case lastore =>
    have hl := mm_beq hok
    subst hl
    rcases st with _ | ⟨v1, _ | ⟨v2, _ | ⟨v3, r⟩⟩⟩
    · cases hs
    · cases v1 <;> cases hs
    · cases v1 <;> cases v2 <;> cases hs
    · cases v1 <;> try (cases hs; done)
      cases v2 <;> try (cases hs; done)
      cases v3 <;> try (cases hs; done)
      rename_i y i x
      cases ha : mm_arr σ.1 x 1 with
      | none => simp only [ha] at hs; cases hs
      | some n =>
        simp only [ha] at hs
        obtain ⟨hi, hs⟩ := mm_cond_inv hs
        obtain rfl := mm_nx_inv hs
        exact mg_lastore F hd ha hi hk
  case aastore =>
    simp only [mm_ok, Bool.and_eq_true] at hok
    have hl := mm_beq hok.1
    have ha6 := mm_beq hok.2
    subst hl
    subst ha6
    rcases st with _ | ⟨v1, _ | ⟨v2, _ | ⟨v3, r⟩⟩⟩
    · cases hs
    · cases v1 <;> cases hs
    · cases v1 <;> cases v2 <;> cases hs
    · cases v1 <;> try (cases hs; done)
      cases v2 <;> try (cases hs; done)
      cases v3 <;> try (cases hs; done)
      rename_i y i x
      cases ho : mm_obj σ.1 y 6 with
      | false => simp only [ho] at hs; cases hs
      | true =>
        simp only [ho] at hs
        cases ha : mm_arr σ.1 x 3 with
        | none => simp only [ha] at hs; cases hs
        | some n =>
          simp only [ha] at hs
          obtain ⟨hi, hs⟩ := mm_cond_inv hs
          obtain rfl := mm_nx_inv hs
          exact mg_aastore F hd ho ha hi hk
  case arraylength =>
    have hl := mm_beq hok
    subst hl
    rcases st with _ | ⟨v1, r⟩
    · cases hs
    · cases v1 <;> try (cases hs; done)
      rename_i x
      cases hx : Nat.blt x 1000000 with
      | true =>
        simp only [hx] at hs
        cases hkd : mm_kd σ.1 x with
        | none => simp only [hkd] at hs; cases hs
        | some kd =>
          simp only [hkd] at hs
          cases kd with
          | inl ci => cases hs
          | inr q =>
            obtain ⟨ty, n⟩ := q
            obtain rfl := mm_nx_inv hs
            exact mg_alen F hd (mm_blt hx) hkd hk
      | false =>
        simp only [hx] at hs
        obtain ⟨hi, hs⟩ := mm_cond_inv hs
        obtain rfl := mm_nx_inv hs
        have h1 : ¬ x < 1000000 := fun z => by rw [show Nat.blt x 1000000 = true from Nat.ble_eq_true_of_le z] at hx; cases hx
        exact mg_xlen F hd (Nat.not_lt.mp h1) (mm_blt hi) hk
  case new i =>
    simp only [mm_ok, Bool.and_eq_true] at hok
    have hl := mm_beq hok.1
    subst hl
    obtain ⟨hx, hs⟩ := mm_cond_inv hs
    obtain rfl := mm_nx_inv hs
    exact mg_new F hd hok.2 (mm_blt hx) hr hk
  case newarray ty =>
    simp only [mm_ok, Bool.and_eq_true] at hok
    have hl := mm_beq hok.1
    subst hl
    rcases st with _ | ⟨v1, r⟩
    · cases hs
    · cases v1 <;> try (cases hs; done)
      obtain ⟨hx, hs⟩ := mm_cond_inv hs
      simp only [Bool.and_eq_true, Bool.not_eq_true', decide_eq_false_iff_not] at hx
      obtain rfl := mm_nx_inv hs
      cases ty with
      | int => have hk0 := mm_beq hok.2; subst hk0; exact mg_newarrayI F hd hx.1.1 (mm_blt hx.1.2) (mm_blt hx.2) hr hk
      | long => have hk0 := mm_beq hok.2; subst hk0; exact mg_newarrayL F hd hx.1.1 (mm_blt hx.1.2) (mm_blt hx.2) hr hk
      | boolean => have hk0 := mm_beq hok.2; subst hk0; exact mg_newarrayZ F hd hx.1.1 (mm_blt hx.1.2) (mm_blt hx.2) hr hk
      | _ => exact absurd hok.2 (by simp)
  case anewarray i =>
    simp only [mm_ok, Bool.and_eq_true] at hok
    have hl := mm_beq hok.1
    subst hl
    rcases st with _ | ⟨v1, r⟩
    · cases hs
    · cases v1 <;> try (cases hs; done)
      obtain ⟨hx, hs⟩ := mm_cond_inv hs
      simp only [Bool.and_eq_true, Bool.not_eq_true', decide_eq_false_iff_not] at hx
      obtain rfl := mm_nx_inv hs
      exact mg_anewarray F hd hok.2 hx.1.1 (mm_blt hx.1.2) (mm_blt hx.2) hr hk
  case invokevirtual i =>
    simp only [mm_ok, Bool.and_eq_true] at hok
    have hl := mm_beq hok.1
    subst hl
    obtain ⟨hb, hin⟩ := mm_call1_inv hs
    match t, hb with
    | 14, _ =>
      obtain ⟨hcat, hs⟩ := mm_cond_inv hin
      rcases st with _ | ⟨v1, r⟩
      · cases hs
      · cases v1 <;> try (cases hs; done)
        obtain ⟨hx, hs⟩ := mm_cond_inv hs
        rw [Bool.and_eq_true] at hx
        obtain rfl := mm_nx_inv hs
        have hcat := Nat.le_of_ble_eq_true hcat
        simp only [mm_cats, mm_cat] at hcat
        exact mg_strlen F hd hok.2 (Nat.le_of_ble_eq_true hx.1) (mm_blt hx.2) hR hr (by omega) hk
    | 15, _ =>
      obtain ⟨hcat, hs⟩ := mm_cond_inv hin
      rcases st with _ | ⟨v1, _ | ⟨v2, r⟩⟩
      · cases hs
      · cases v1 <;> cases hs
      · cases v1 <;> try (cases hs; done)
        cases v2 <;> try (cases hs; done)
        obtain ⟨hx, hs⟩ := mm_cond_inv hs
        rw [Bool.and_eq_true, Bool.and_eq_true] at hx
        obtain rfl := mm_nx_inv hs
        have hcat := Nat.le_of_ble_eq_true hcat
        simp only [mm_cats, mm_cat] at hcat
        exact mg_charat F hd hok.2 (Nat.le_of_ble_eq_true hx.1.1) (mm_blt hx.1.2) hx.2 hR hr (by omega) hk
    | 0, hb => cases hb
    | 10, _ => exact absurd hok.2 (by simp)
    | 11, _ => exact absurd hok.2 (by simp)
    | 12, _ => exact absurd hok.2 (by simp)
    | 13, _ => exact absurd hok.2 (by simp)
    | n + 16, _ => exact absurd hok.2 (by simp)
    | 1, hb => cases hb
    | 2, hb => cases hb
    | 3, hb => cases hb
    | 4, hb => cases hb
    | 5, hb => cases hb
    | 6, hb => cases hb
    | 7, hb => cases hb
    | 8, hb => cases hb
    | 9, hb => cases hb
  case invokestatic i =>
    simp only [mm_ok, Bool.and_eq_true] at hok
    have hl := mm_beq hok.1
    subst hl
    obtain ⟨hb, hin⟩ := mm_call1_inv hs
    match t, hb with
    | 10, _ =>
      obtain ⟨hcat, hs⟩ := mm_cond_inv hin
      rcases st with _ | ⟨v1, _ | ⟨v2, r⟩⟩
      · cases hs
      · cases v1 <;> cases hs
      · cases v1 <;> try (cases hs; done)
        cases v2 <;> try (cases hs; done)
        obtain rfl := mm_nx_inv hs
        have hcat := Nat.le_of_ble_eq_true hcat
        simp only [mm_cats, mm_cat] at hcat
        exact mg_mmin F hd hok.2 hR hr (by omega) hk
    | 11, _ =>
      obtain ⟨hcat, hs⟩ := mm_cond_inv hin
      rcases st with _ | ⟨v1, _ | ⟨v2, r⟩⟩
      · cases hs
      · cases v1 <;> cases hs
      · cases v1 <;> try (cases hs; done)
        cases v2 <;> try (cases hs; done)
        obtain rfl := mm_nx_inv hs
        have hcat := Nat.le_of_ble_eq_true hcat
        simp only [mm_cats, mm_cat] at hcat
        exact mg_mmax F hd hok.2 hR hr (by omega) hk
    | 12, _ =>
      obtain ⟨hcat, hs⟩ := mm_cond_inv hin
      rcases st with _ | ⟨v1, _ | ⟨v2, r⟩⟩
      · cases hs
      · cases v1 <;> cases hs
      · cases v1 <;> try (cases hs; done)
        cases v2 <;> try (cases hs; done)
        obtain rfl := mm_nx_inv hs
        have hcat := Nat.le_of_ble_eq_true hcat
        simp only [mm_cats, mm_cat] at hcat
        exact mg_lmin F hd hok.2 hR hr (by omega) hk
    | 13, _ =>
      obtain ⟨hcat, hs⟩ := mm_cond_inv hin
      rcases st with _ | ⟨v1, _ | ⟨v2, r⟩⟩
      · cases hs
      · cases v1 <;> cases hs
      · cases v1 <;> try (cases hs; done)
        cases v2 <;> try (cases hs; done)
        obtain rfl := mm_nx_inv hs
        have hcat := Nat.le_of_ble_eq_true hcat
        simp only [mm_cats, mm_cat] at hcat
        exact mg_lmax F hd hok.2 hR hr (by omega) hk
    | n + 14, _ => exact absurd hok.2 (by simp)
    | 0, hb => cases hb
    | 1, hb => cases hb
    | 2, hb => cases hb
    | 3, hb => cases hb
    | 4, hb => cases hb
    | 5, hb => cases hb
    | 6, hb => cases hb
    | 7, hb => cases hb
    | 8, hb => cases hb
    | 9, hb => cases hb
  case invokespecial i =>
    simp only [mm_ok, Bool.and_eq_true] at hok
    have hl := mm_beq hok.1
    subst hl
    cases h9 : Nat.beq t 9 with
    | true =>
      simp only [h9] at hs
      have h9 := mm_beq h9
      subst h9
      rcases st with _ | ⟨v1, r⟩
      · cases hs
      · cases v1 <;> try (cases hs; done)
        obtain ⟨hcat, hs⟩ := mm_cond_inv hs
        obtain rfl := mm_nx_inv hs
        have hcat := Nat.le_of_ble_eq_true hcat
        exact mg_objinit F hd hok.2 hR (by omega) hk
    | false =>
      simp only [h9] at hs
      obtain ⟨hb, hin⟩ := mm_call1_inv hs
      have hb := Nat.le_of_ble_eq_true hb
      have h2 := hok.2
      split at h2
      · omega
      · omega
      · omega
      · cases h2
  case ireturn =>
    rcases st with _ | ⟨v1, _ | ⟨v2, r⟩⟩
    · cases hs
    · cases v1 <;> try (cases hs; done)
      cases hk0 : Nat.beq k 0 with
      | true => simp only [hk0] at hs; cases hs
      | false =>
        simp only [hk0] at hs
        obtain ⟨-, hs⟩ := mm_cond_inv hs
        cases hs
    · cases v1 <;> cases hs
  case areturn =>
    rcases st with _ | ⟨v1, _ | ⟨v2, r⟩⟩
    · cases hs
    · cases v1 <;> cases hs
    · cases v1 <;> cases hs
  case lreturn =>
    rcases st with _ | ⟨v1, _ | ⟨v2, r⟩⟩
    · cases hs
    · cases v1 <;> cases hs
    · cases v1 <;> cases hs
  case return_ =>
    rcases st with _ | ⟨v1, r⟩
    · cases hs
    · cases hs
end SIM7
