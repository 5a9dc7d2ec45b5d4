/-! OTHER NAMES FOR THE CELLS: one row, a run, a call. By program (wip/whole/gen4/perm.py). -/
section RN2
variable {π : Nat → Nat} {n0 : Nat} {X : Nat → Nat × (Nat → Int32)} {Y : Nat → List Int32}
set_option maxHeartbeats 4000000 in
set_option maxRecDepth 100000 in
theorem rn_step (hP : rn_P π n0) {code : Nat → Option mm_E} (hv : ∀ pc e, code pc = some e → rn_v π e.2.2.1 = e.2.2.1) {σ τ : mm_S} (hR : rn_R π n0 σ τ) {pc : Nat} {ls : List (Option Value)} {st : List Value} {o} (hs : mm_step X Y code (pc, ls, st, σ) = some o) : ∃ o', mm_step X Y code (pc, ls.map (Option.map (rn_v π)), st.map (rn_v π), τ) = some o' ∧ rn_O π n0 o o' := by
  cases hcode : code pc with
  | none => simp only [mm_step, hcode] at hs; cases hs
  | some en =>
    obtain ⟨ins, len, v, t, a, b, k, sw⟩ := en
    have hv := hv pc _ hcode
    dsimp only at hv
    simp only [mm_step, hcode] at hs ⊢
    cases ins <;> dsimp only at hs ⊢ <;> (try (cases hs; done))
    case aload i =>
      rw [rn_get]
      cases hg : mm_get ls i with
      | none => rw [hg] at hs; cases hs
      | some w =>
        rw [hg] at hs
        cases w <;> try (cases hs; done)
        obtain rfl := rn_nx hs
        exact rn_go rfl rfl hR
    case aload_n i =>
      rw [rn_get]
      cases hg : mm_get ls t with
      | none => rw [hg] at hs; cases hs
      | some w =>
        rw [hg] at hs
        cases w <;> try (cases hs; done)
        obtain rfl := rn_nx hs
        exact rn_go rfl rfl hR
    case iload i =>
      rw [rn_get]
      cases hg : mm_get ls i with
      | none => rw [hg] at hs; cases hs
      | some w =>
        rw [hg] at hs
        cases w <;> try (cases hs; done)
        obtain rfl := rn_nx hs
        exact rn_go rfl rfl hR
    case iload_n i =>
      rw [rn_get]
      cases hg : mm_get ls t with
      | none => rw [hg] at hs; cases hs
      | some w =>
        rw [hg] at hs
        cases w <;> try (cases hs; done)
        obtain rfl := rn_nx hs
        exact rn_go rfl rfl hR
    case lload i =>
      rw [rn_get]
      cases hg : mm_get ls i with
      | none => rw [hg] at hs; cases hs
      | some w =>
        rw [hg] at hs
        cases w <;> try (cases hs; done)
        obtain rfl := rn_nx hs
        exact rn_go rfl rfl hR
    case lload_n i =>
      rw [rn_get]
      cases hg : mm_get ls t with
      | none => rw [hg] at hs; cases hs
      | some w =>
        rw [hg] at hs
        cases w <;> try (cases hs; done)
        obtain rfl := rn_nx hs
        exact rn_go rfl rfl hR
    case istore i =>
      rcases st with _ | ⟨v1, r⟩
      · cases hs
      · cases v1 <;> try (cases hs; done)
        rename_i x
        obtain rfl := rn_nx hs
        exact rn_go (rn_set1 (π := π) ls i (.int x)) rfl hR
    case istore_n i =>
      rcases st with _ | ⟨v1, r⟩
      · cases hs
      · cases v1 <;> try (cases hs; done)
        rename_i x
        obtain rfl := rn_nx hs
        exact rn_go (rn_set1 (π := π) ls t (.int x)) rfl hR
    case astore i =>
      rcases st with _ | ⟨v1, r⟩
      · cases hs
      · cases v1 <;> try (cases hs; done)
        rename_i x
        obtain rfl := rn_nx hs
        exact rn_go (rn_set1 (π := π) ls i (.ref x)) rfl hR
    case astore_n i =>
      rcases st with _ | ⟨v1, r⟩
      · cases hs
      · cases v1 <;> try (cases hs; done)
        rename_i x
        obtain rfl := rn_nx hs
        exact rn_go (rn_set1 (π := π) ls t (.ref x)) rfl hR
    case lstore i =>
      rcases st with _ | ⟨v1, r⟩
      · cases hs
      · cases v1 <;> try (cases hs; done)
        rename_i x
        obtain rfl := rn_nx hs
        exact rn_go (rn_set2 (π := π) ls i (.long x)) rfl hR
    case lstore_n i =>
      rcases st with _ | ⟨v1, r⟩
      · cases hs
      · cases v1 <;> try (cases hs; done)
        rename_i x
        obtain rfl := rn_nx hs
        exact rn_go (rn_set2 (π := π) ls t (.long x)) rfl hR
    case iinc i n =>
      rw [rn_get]
      cases hg : mm_get ls i with
      | none => rw [hg] at hs; cases hs
      | some w =>
        rw [hg] at hs
        cases w <;> try (cases hs; done)
        rename_i x
        cases v <;> try (cases hs; done)
        rename_i y
        obtain rfl := rn_nx hs
        exact rn_go (rn_set1 (π := π) ls i (.int (x + y))) rfl hR
    case iconst n =>
      obtain rfl := rn_nx hs
      exact rn_go rfl (by rw [List.map_cons, hv]) hR
    case bipush n =>
      obtain rfl := rn_nx hs
      exact rn_go rfl (by rw [List.map_cons, hv]) hR
    case sipush n =>
      obtain rfl := rn_nx hs
      exact rn_go rfl (by rw [List.map_cons, hv]) hR
    case lconst n =>
      obtain rfl := rn_nx hs
      exact rn_go rfl (by rw [List.map_cons, hv]) hR
    case ldc n =>
      obtain rfl := rn_nx hs
      exact rn_go rfl (by rw [List.map_cons, hv]) hR
    case ldc_w n =>
      obtain rfl := rn_nx hs
      exact rn_go rfl (by rw [List.map_cons, hv]) hR
    case ldc2_w n =>
      obtain rfl := rn_nx hs
      exact rn_go rfl (by rw [List.map_cons, hv]) hR
    case getstatic n =>
      obtain rfl := rn_nx hs
      exact rn_go rfl (by rw [List.map_cons, hv]) hR
    case iadd =>
      rcases st with _ | ⟨v1, _ | ⟨v2, r⟩⟩
      · cases hs
      · cases v1 <;> cases hs
      · cases v1 <;> try (cases hs; done)
        all_goals (cases v2 <;> try (cases hs; done))
        obtain rfl := rn_nx hs
        exact rn_go rfl rfl hR
    case isub =>
      rcases st with _ | ⟨v1, _ | ⟨v2, r⟩⟩
      · cases hs
      · cases v1 <;> cases hs
      · cases v1 <;> try (cases hs; done)
        all_goals (cases v2 <;> try (cases hs; done))
        obtain rfl := rn_nx hs
        exact rn_go rfl rfl hR
    case imul =>
      rcases st with _ | ⟨v1, _ | ⟨v2, r⟩⟩
      · cases hs
      · cases v1 <;> cases hs
      · cases v1 <;> try (cases hs; done)
        all_goals (cases v2 <;> try (cases hs; done))
        obtain rfl := rn_nx hs
        exact rn_go rfl rfl hR
    case iand =>
      rcases st with _ | ⟨v1, _ | ⟨v2, r⟩⟩
      · cases hs
      · cases v1 <;> cases hs
      · cases v1 <;> try (cases hs; done)
        all_goals (cases v2 <;> try (cases hs; done))
        obtain rfl := rn_nx hs
        exact rn_go rfl rfl hR
    case ior =>
      rcases st with _ | ⟨v1, _ | ⟨v2, r⟩⟩
      · cases hs
      · cases v1 <;> cases hs
      · cases v1 <;> try (cases hs; done)
        all_goals (cases v2 <;> try (cases hs; done))
        obtain rfl := rn_nx hs
        exact rn_go rfl rfl hR
    case ishl =>
      rcases st with _ | ⟨v1, _ | ⟨v2, r⟩⟩
      · cases hs
      · cases v1 <;> cases hs
      · cases v1 <;> try (cases hs; done)
        all_goals (cases v2 <;> try (cases hs; done))
        obtain rfl := rn_nx hs
        exact rn_go rfl rfl hR
    case ishr =>
      rcases st with _ | ⟨v1, _ | ⟨v2, r⟩⟩
      · cases hs
      · cases v1 <;> cases hs
      · cases v1 <;> try (cases hs; done)
        all_goals (cases v2 <;> try (cases hs; done))
        obtain rfl := rn_nx hs
        exact rn_go rfl rfl hR
    case iushr =>
      rcases st with _ | ⟨v1, _ | ⟨v2, r⟩⟩
      · cases hs
      · cases v1 <;> cases hs
      · cases v1 <;> try (cases hs; done)
        all_goals (cases v2 <;> try (cases hs; done))
        obtain rfl := rn_nx hs
        exact rn_go rfl rfl hR
    case ladd =>
      rcases st with _ | ⟨v1, _ | ⟨v2, r⟩⟩
      · cases hs
      · cases v1 <;> cases hs
      · cases v1 <;> try (cases hs; done)
        all_goals (cases v2 <;> try (cases hs; done))
        obtain rfl := rn_nx hs
        exact rn_go rfl rfl hR
    case lsub =>
      rcases st with _ | ⟨v1, _ | ⟨v2, r⟩⟩
      · cases hs
      · cases v1 <;> cases hs
      · cases v1 <;> try (cases hs; done)
        all_goals (cases v2 <;> try (cases hs; done))
        obtain rfl := rn_nx hs
        exact rn_go rfl rfl hR
    case lmul =>
      rcases st with _ | ⟨v1, _ | ⟨v2, r⟩⟩
      · cases hs
      · cases v1 <;> cases hs
      · cases v1 <;> try (cases hs; done)
        all_goals (cases v2 <;> try (cases hs; done))
        obtain rfl := rn_nx hs
        exact rn_go rfl rfl hR
    case lcmp =>
      rcases st with _ | ⟨v1, _ | ⟨v2, r⟩⟩
      · cases hs
      · cases v1 <;> cases hs
      · cases v1 <;> try (cases hs; done)
        all_goals (cases v2 <;> try (cases hs; done))
        obtain rfl := rn_nx hs
        exact rn_go rfl rfl hR
    case dup2 =>
      rcases st with _ | ⟨v1, _ | ⟨v2, r⟩⟩
      · cases hs
      · cases v1 <;> cases hs
      · cases v1 <;> try (cases hs; done)
        all_goals (cases v2 <;> try (cases hs; done))
        obtain rfl := rn_nx hs
        exact rn_go rfl rfl hR
    case dup_x1 =>
      rcases st with _ | ⟨v1, _ | ⟨v2, r⟩⟩
      · cases hs
      · cases v1 <;> cases hs
      · cases v1 <;> try (cases hs; done)
        all_goals (cases v2 <;> try (cases hs; done))
        obtain rfl := rn_nx hs
        exact rn_go rfl rfl hR
    case if_icmp c n =>
      rcases st with _ | ⟨v1, _ | ⟨v2, r⟩⟩
      · cases hs
      · cases v1 <;> cases hs
      · cases v1 <;> try (cases hs; done)
        all_goals (cases v2 <;> try (cases hs; done))
        obtain rfl := rn_nx hs
        exact rn_go rfl rfl hR
    case idiv =>
      rcases st with _ | ⟨v1, _ | ⟨v2, r⟩⟩
      · cases hs
      · cases v1 <;> cases hs
      · cases v1 <;> try (cases hs; done)
        all_goals (cases v2 <;> try (cases hs; done))
        obtain ⟨hb, hs⟩ := rn_cd hs
        obtain rfl := rn_nx hs
        exact rn_gc hb rfl rfl hR
    case irem =>
      rcases st with _ | ⟨v1, _ | ⟨v2, r⟩⟩
      · cases hs
      · cases v1 <;> cases hs
      · cases v1 <;> try (cases hs; done)
        all_goals (cases v2 <;> try (cases hs; done))
        obtain ⟨hb, hs⟩ := rn_cd hs
        obtain rfl := rn_nx hs
        exact rn_gc hb rfl rfl hR
    case ldiv =>
      rcases st with _ | ⟨v1, _ | ⟨v2, r⟩⟩
      · cases hs
      · cases v1 <;> cases hs
      · cases v1 <;> try (cases hs; done)
        all_goals (cases v2 <;> try (cases hs; done))
        obtain ⟨hb, hs⟩ := rn_cd hs
        obtain rfl := rn_nx hs
        exact rn_gc hb rfl rfl hR
    case lrem =>
      rcases st with _ | ⟨v1, _ | ⟨v2, r⟩⟩
      · cases hs
      · cases v1 <;> cases hs
      · cases v1 <;> try (cases hs; done)
        all_goals (cases v2 <;> try (cases hs; done))
        obtain ⟨hb, hs⟩ := rn_cd hs
        obtain rfl := rn_nx hs
        exact rn_gc hb rfl rfl hR
    case i2l =>
      rcases st with _ | ⟨v1, r⟩
      · cases hs
      · cases v1 <;> try (cases hs; done)
        obtain rfl := rn_nx hs
        exact rn_go rfl rfl hR
    case l2i =>
      rcases st with _ | ⟨v1, r⟩
      · cases hs
      · cases v1 <;> try (cases hs; done)
        obtain rfl := rn_nx hs
        exact rn_go rfl rfl hR
    case pop =>
      rcases st with _ | ⟨v1, r⟩
      · cases hs
      · cases v1 <;> try (cases hs; done)
        obtain rfl := rn_nx hs
        exact rn_go rfl rfl hR
    case ifCond c n =>
      rcases st with _ | ⟨v1, r⟩
      · cases hs
      · cases v1 <;> try (cases hs; done)
        obtain rfl := rn_nx hs
        exact rn_go rfl rfl hR
    case tableswitch a1 a2 a3 a4 =>
      rcases st with _ | ⟨v1, r⟩
      · cases hs
      · cases v1 <;> try (cases hs; done)
        obtain rfl := rn_nx hs
        exact rn_go rfl rfl hR
    case lookupswitch a1 a2 =>
      rcases st with _ | ⟨v1, r⟩
      · cases hs
      · cases v1 <;> try (cases hs; done)
        obtain rfl := rn_nx hs
        exact rn_go rfl rfl hR
    case dup =>
      rcases st with _ | ⟨v1, r⟩
      · cases hs
      · cases v1 <;> try (cases hs; done)
        all_goals (obtain rfl := rn_nx hs; exact rn_go rfl rfl hR)
    case goto n =>
      obtain rfl := rn_nx hs
      exact rn_go rfl rfl hR
    case getfield n =>
      rcases st with _ | ⟨v1, r⟩
      · cases hs
      · cases v1 <;> try (cases hs; done)
        rename_i x
        dsimp only at hs
        simp only [List.map_cons, rn_v]
        rw [rn_obj hP hR]
        cases ho : mm_obj σ.1 x a with
        | false => rw [ho] at hs; cases hs
        | true =>
          rw [ho] at hs
          rcases k with _ | _ | k
          · obtain rfl := rn_nx hs
            exact rn_go rfl (by rw [hR.2.2.2.1]; rfl) hR
          · obtain rfl := rn_nx hs
            exact rn_go rfl (by rw [hR.2.2.2.2.1]; rfl) hR
          · obtain rfl := rn_nx hs
            exact rn_go rfl (by rw [hR.2.2.2.2.2.1, rn_rv]; rfl) hR
    case putfield n =>
      rcases st with _ | ⟨w, _ | ⟨v2, r⟩⟩
      · cases hs
      · cases hs
      · cases v2 <;> try (cases hs; done)
        rename_i x
        dsimp only at hs
        simp only [List.map_cons, rn_v]
        rw [rn_obj hP hR]
        cases ho : mm_obj σ.1 x a with
        | false => rw [ho] at hs; cases hs
        | true =>
          rw [ho] at hs
          rcases k with _ | _ | _ | k
          · cases w <;> try (cases hs; done)
            obtain rfl := rn_nx hs
            exact rn_go rfl rfl (rn_I hP hR _ _ _)
          · cases w <;> try (cases hs; done)
            obtain rfl := rn_nx hs
            exact rn_go rfl rfl (rn_L hP hR _ _ _)
          · cases w <;> try (cases hs; done)
            obtain rfl := rn_nx hs
            exact rn_go rfl rfl (rn_W hP hR _ _ _)
          · cases w <;> try (cases hs; done)
            obtain ⟨hb, hs⟩ := rn_cd hs
            obtain rfl := rn_nx hs
            exact rn_gc hb rfl rfl (rn_I hP hR _ _ _)
    case iaload =>
      rcases st with _ | ⟨v1, _ | ⟨v2, r⟩⟩
      · cases hs
      · cases v1 <;> cases hs
      · cases v1 <;> try (cases hs; done)
        all_goals (cases v2 <;> try (cases hs; done))
        rename_i i x
        dsimp only at hs
        simp only [List.map_cons, rn_v]
        rw [rn_blt hP]
        cases hx : Nat.blt x 1000000 with
        | true =>
          rw [hx] at hs
          rw [rn_arr hP hR]
          cases ha : mm_arr σ.1 x 0 with
          | none => rw [ha] at hs; cases hs
          | some n =>
            rw [ha] at hs
            obtain ⟨hb, hs⟩ := rn_cd hs
            obtain rfl := rn_nx hs
            exact rn_gc hb rfl (by rw [hR.2.2.2.1]; rfl) hR
        | false =>
          rw [hx] at hs
          rw [rn_big hP hx]
          obtain ⟨hb, hs⟩ := rn_cd hs
          obtain rfl := rn_nx hs
          refine rn_gc hb rfl ?_ hR
          rfl
    case baload =>
      rcases st with _ | ⟨v1, _ | ⟨v2, r⟩⟩
      · cases hs
      · cases v1 <;> cases hs
      · cases v1 <;> try (cases hs; done)
        all_goals (cases v2 <;> try (cases hs; done))
        rename_i i x
        dsimp only at hs
        simp only [List.map_cons, rn_v]
        rw [rn_arr hP hR]
        cases ha : mm_arr σ.1 x 2 with
        | none => rw [ha] at hs; cases hs
        | some n =>
          rw [ha] at hs
          obtain ⟨hb, hs⟩ := rn_cd hs
          obtain rfl := rn_nx hs
          exact rn_gc hb rfl (by rw [hR.2.2.2.1]; rfl) hR
    case laload =>
      rcases st with _ | ⟨v1, _ | ⟨v2, r⟩⟩
      · cases hs
      · cases v1 <;> cases hs
      · cases v1 <;> try (cases hs; done)
        all_goals (cases v2 <;> try (cases hs; done))
        rename_i i x
        dsimp only at hs
        simp only [List.map_cons, rn_v]
        rw [rn_arr hP hR]
        cases ha : mm_arr σ.1 x 1 with
        | none => rw [ha] at hs; cases hs
        | some n =>
          rw [ha] at hs
          obtain ⟨hb, hs⟩ := rn_cd hs
          obtain rfl := rn_nx hs
          exact rn_gc hb rfl (by rw [hR.2.2.2.2.1]; rfl) hR
    case aaload =>
      rcases st with _ | ⟨v1, _ | ⟨v2, r⟩⟩
      · cases hs
      · cases v1 <;> cases hs
      · cases v1 <;> try (cases hs; done)
        all_goals (cases v2 <;> try (cases hs; done))
        rename_i i x
        dsimp only at hs
        simp only [List.map_cons, rn_v]
        rw [rn_arr hP hR]
        cases ha : mm_arr σ.1 x 3 with
        | none => rw [ha] at hs; cases hs
        | some n =>
          rw [ha] at hs
          obtain ⟨hb, hs⟩ := rn_cd hs
          obtain rfl := rn_nx hs
          exact rn_gc hb rfl (by rw [hR.2.2.2.2.2.1, rn_rv]; rfl) hR
    case iastore =>
      rcases st with _ | ⟨v1, _ | ⟨v2, _ | ⟨v3, r⟩⟩⟩
      · cases hs
      · cases v1 <;> cases hs
      · cases v1 <;> cases v2 <;> cases hs
      · cases v1 <;> try (cases hs; done)
        all_goals (cases v2 <;> try (cases hs; done))
        all_goals (cases v3 <;> try (cases hs; done))
        rename_i y i x
        dsimp only at hs
        simp only [List.map_cons, rn_v]
        rw [rn_arr hP hR]
        cases ha : mm_arr σ.1 x 0 with
        | none => rw [ha] at hs; cases hs
        | some n =>
          rw [ha] at hs
          obtain ⟨hb, hs⟩ := rn_cd hs
          obtain rfl := rn_nx hs
          exact rn_gc hb rfl rfl (rn_I hP hR _ _ _)
    case bastore =>
      rcases st with _ | ⟨v1, _ | ⟨v2, _ | ⟨v3, r⟩⟩⟩
      · cases hs
      · cases v1 <;> cases hs
      · cases v1 <;> cases v2 <;> cases hs
      · cases v1 <;> try (cases hs; done)
        all_goals (cases v2 <;> try (cases hs; done))
        all_goals (cases v3 <;> try (cases hs; done))
        rename_i y i x
        dsimp only at hs
        simp only [List.map_cons, rn_v]
        rw [rn_arr hP hR]
        cases ha : mm_arr σ.1 x 2 with
        | none => rw [ha] at hs; cases hs
        | some n =>
          rw [ha] at hs
          obtain ⟨hb, hs⟩ := rn_cd hs
          obtain rfl := rn_nx hs
          exact rn_gc hb rfl rfl (rn_I hP hR _ _ _)
    case lastore =>
      rcases st with _ | ⟨v1, _ | ⟨v2, _ | ⟨v3, r⟩⟩⟩
      · cases hs
      · cases v1 <;> cases hs
      · cases v1 <;> cases v2 <;> cases hs
      · cases v1 <;> try (cases hs; done)
        all_goals (cases v2 <;> try (cases hs; done))
        all_goals (cases v3 <;> try (cases hs; done))
        rename_i y i x
        dsimp only at hs
        simp only [List.map_cons, rn_v]
        rw [rn_arr hP hR]
        cases ha : mm_arr σ.1 x 1 with
        | none => rw [ha] at hs; cases hs
        | some n =>
          rw [ha] at hs
          obtain ⟨hb, hs⟩ := rn_cd hs
          obtain rfl := rn_nx hs
          exact rn_gc hb rfl rfl (rn_L hP hR _ _ _)
    case aastore =>
      rcases st with _ | ⟨v1, _ | ⟨v2, _ | ⟨v3, r⟩⟩⟩
      · cases hs
      · cases v1 <;> cases hs
      · cases v1 <;> cases v2 <;> cases hs
      · cases v1 <;> try (cases hs; done)
        all_goals (cases v2 <;> try (cases hs; done))
        all_goals (cases v3 <;> try (cases hs; done))
        rename_i y i x
        dsimp only at hs
        simp only [List.map_cons, rn_v]
        rw [rn_obj hP hR]
        cases ho : mm_obj σ.1 y a with
        | false => rw [ho] at hs; cases hs
        | true =>
          rw [ho] at hs
          rw [rn_arr hP hR]
          cases ha : mm_arr σ.1 x 3 with
          | none => rw [ha] at hs; cases hs
          | some n =>
            rw [ha] at hs
            obtain ⟨hb, hs⟩ := rn_cd hs
            obtain rfl := rn_nx hs
            exact rn_gc hb rfl rfl (rn_W hP hR _ _ _)
    case arraylength =>
      rcases st with _ | ⟨v1, r⟩
      · cases hs
      · cases v1 <;> try (cases hs; done)
        rename_i x
        dsimp only at hs
        simp only [List.map_cons, rn_v]
        rw [rn_blt hP]
        cases hx : Nat.blt x 1000000 with
        | true =>
          rw [hx] at hs
          rw [hR.2.2.1]
          cases hk : mm_kd σ.1 x with
          | none => rw [hk] at hs; cases hs
          | some kd =>
            rw [hk] at hs
            rcases kd with c | ⟨q, n⟩
            · cases hs
            · obtain rfl := rn_nx hs
              exact rn_go rfl rfl hR
        | false =>
          rw [hx] at hs
          rw [rn_big hP hx]
          obtain ⟨hb, hs⟩ := rn_cd hs
          obtain rfl := rn_nx hs
          exact rn_gc hb rfl rfl hR
    case new n =>
      obtain ⟨hb, hs⟩ := rn_cd hs
      obtain rfl := rn_nx hs
      refine rn_gc (by rw [hR.2.1]; exact hb) rfl ?_ (rn_N hP hR _).1
      show Value.ref τ.1.length :: _ = Value.ref (π σ.1.length) :: _
      rw [(rn_N hP hR (.inl 0)).2]
    case newarray n =>
      rcases st with _ | ⟨v1, r⟩
      · cases hs
      · cases v1 <;> try (cases hs; done)
        obtain ⟨hb, hs⟩ := rn_cd hs
        obtain rfl := rn_nx hs
        refine rn_gc (by rw [hR.2.1]; exact hb) rfl ?_ (rn_N hP hR _).1
        show Value.ref τ.1.length :: _ = Value.ref (π σ.1.length) :: _
        rw [(rn_N hP hR (.inl 0)).2]
    case anewarray n =>
      rcases st with _ | ⟨v1, r⟩
      · cases hs
      · cases v1 <;> try (cases hs; done)
        obtain ⟨hb, hs⟩ := rn_cd hs
        obtain rfl := rn_nx hs
        refine rn_gc (by rw [hR.2.1]; exact hb) rfl ?_ (rn_N hP hR _).1
        show Value.ref τ.1.length :: _ = Value.ref (π σ.1.length) :: _
        rw [(rn_N hP hR (.inl 0)).2]
    case invokevirtual n =>
      exact rn_call1 hP hR hs
    case invokestatic n =>
      exact rn_call1 hP hR hs
    case invokespecial n =>
      cases h9 : Nat.beq t 9 with
      | true =>
        rw [h9] at hs
        rcases st with _ | ⟨v1, r⟩
        · cases hs
        · cases v1 <;> try (cases hs; done)
          obtain ⟨hb, hs⟩ := rn_cd hs
          obtain rfl := rn_nx hs
          exact rn_gc (by rw [rn_cats]; exact hb) rfl rfl hR
      | false =>
        rw [h9] at hs
        exact rn_call1 hP hR hs
    case ireturn =>
      rcases st with _ | ⟨v1, _ | ⟨v2, r⟩⟩
      · cases hs
      · cases v1 <;> try (cases hs; done)
        cases hk : Nat.beq k 0 with
        | true =>
          rw [hk] at hs
          obtain rfl := (Option.some.inj hs).symm
          exact ⟨_, rfl, rfl, hR⟩
        | false =>
          rw [hk] at hs
          obtain ⟨hb, hs⟩ := rn_cd hs
          obtain rfl := (Option.some.inj hs).symm
          refine ⟨.inr (.inl (some _, τ)), ?_, rfl, hR⟩
          simp only [List.map_cons, List.map_nil, rn_v, hb]
          rfl
      · cases v1 <;> cases hs
    case areturn =>
      rcases st with _ | ⟨v1, _ | ⟨v2, r⟩⟩
      · cases hs
      · cases v1 <;> try (cases hs; done)
        obtain rfl := (Option.some.inj hs).symm
        exact ⟨_, rfl, rfl, hR⟩
      · cases v1 <;> cases hs
    case lreturn =>
      rcases st with _ | ⟨v1, _ | ⟨v2, r⟩⟩
      · cases hs
      · cases v1 <;> try (cases hs; done)
        obtain rfl := (Option.some.inj hs).symm
        exact ⟨_, rfl, rfl, hR⟩
      · cases v1 <;> cases hs
    case return_ =>
      rcases st with _ | ⟨v1, r⟩
      · obtain rfl := (Option.some.inj hs).symm
        exact ⟨_, rfl, rfl, hR⟩
      · cases hs
theorem rn_run (hP : rn_P π n0) {code : Nat → Option mm_E} (hv : ∀ pc e, code pc = some e → rn_v π e.2.2.1 = e.2.2.1) {cf : Nat → List Value → mm_S → Option mm_R} (hcf : ∀ id as σ τ r, rn_R π n0 σ τ → cf id as σ = some r → ∃ q, cf id (as.map (rn_v π)) τ = some q ∧ rn_A π n0 r q) : ∀ (n : Nat) (c d : mm_C) (r : mm_R), rn_C π n0 c d → mm_run X Y cf code n c = some r → ∃ q, mm_run X Y cf code n d = some q ∧ rn_A π n0 r q := by
  intro n
  induction n with
  | zero => intro c d r _ h; cases h
  | succ n ih =>
    intro c d r hC h
    obtain ⟨pc, ls, st, σ⟩ := c
    obtain ⟨pc', ls', st', τ⟩ := d
    obtain ⟨e1, e2, e3, hR⟩ := hC
    dsimp only at e1 e2 e3 hR
    have e1 := e1.symm
    subst e1; subst e2; subst e3
    simp only [mm_run] at h ⊢
    cases hs : mm_step X Y code (pc, ls, st, σ) with
    | none => rw [hs] at h; cases h
    | some o =>
      rw [hs] at h
      obtain ⟨o', ho, hO⟩ := rn_step hP hv hR hs
      rw [ho]
      rcases o with c2 | r1 | ⟨id, as, c2⟩ <;> rcases o' with d2 | q1 | ⟨id', as', d2⟩ <;> try (exact hO.elim)
      · exact ih c2 d2 r hO h
      · have h : some r1 = some r := h
        cases h
        exact ⟨q1, rfl, hO⟩
      · obtain ⟨rfl, rfl, hC2⟩ := hO
        obtain ⟨pc2, ls2, st2, σ2⟩ := c2
        obtain ⟨pc3, ls3, st3, τ2⟩ := d2
        obtain ⟨e1, e2, e3, hR2⟩ := hC2
        dsimp only at e1 e2 e3 hR2
        subst e1; subst e2; subst e3
        dsimp only at h ⊢
        cases hc : cf id' as σ2 with
        | none => rw [hc] at h; cases h
        | some r1 =>
          rw [hc] at h
          obtain ⟨q1, hq, hA1, hA2⟩ := hcf _ _ _ _ _ hR2 hc
          rw [hq]
          refine ih (_, ls2, r1.1.toList ++ st2, r1.2) _ r ⟨rfl, rfl, ?_, hA2⟩ h
          show q1.1.toList ++ st2.map (rn_v π) = (r1.1.toList ++ st2).map (rn_v π)
          rw [hA1, List.map_append]
          cases r1.1 <;> rfl
def rn_lit : Value → Bool
  | .ref x => Nat.ble 1000000 x
  | _ => true
theorem rn_lits : mm_tab.all (fun r => r.2.2.2.2.2.all (fun c => c.all (fun q => rn_lit q.2.2.2.1))) = true := by decide +kernel
theorem rn_litv (hP : rn_P π n0) {v : Value} (h : rn_lit v = true) : rn_v π v = v := by
  cases v <;> try rfl
  rename_i x
  have h := Nat.le_of_ble_eq_true h
  show Value.ref (π x) = Value.ref x
  rw [hP.2.1 x (Nat.le_trans hP.2.2.2 h)]
theorem rn_code (hP : rn_P π n0) {r : mm_Mt} (hr : r ∈ mm_tab) (pc : Nat) (e : mm_E) (h : mm_look r.2.2.2.2.2 pc = some e) : rn_v π e.2.2.1 = e.2.2.1 := by
  have h0 := List.all_eq_true.mp rn_lits r hr
  obtain ⟨q, h1, h2⟩ := mm_nth_mem _ _ _ (mm_find_mem _ _ _ h)
  exact rn_litv hP (List.all_eq_true.mp (List.all_eq_true.mp h0 q h1) _ h2)
theorem rn_call (hP : rn_P π n0) : ∀ (d id : Nat) (as : List Value) (σ τ : mm_S) (r : mm_R), rn_R π n0 σ τ → mm_call X Y d id as σ = some r → ∃ q, mm_call X Y d id (as.map (rn_v π)) τ = some q ∧ rn_A π n0 r q := by
  intro d
  induction d with
  | zero => intro id as σ τ r _ h; cases h
  | succ d ih =>
    intro id as σ τ r hR h
    unfold mm_call at h ⊢
    cases hmd : mm_md mm_tab id with
    | none => rw [hmd] at h; cases h
    | some q =>
      obtain ⟨n, L⟩ := q
      rw [hmd] at h
      dsimp only at h ⊢
      rw [rn_sl, List.length_map]
      cases hb : Nat.ble (mm_sl as).length n with
      | false => rw [hb] at h; cases h
      | true =>
        rw [hb] at h
        dsimp only at h ⊢
        obtain ⟨row, hrow, rfl, rfl⟩ := mm_md_row _ _ _ _ hmd
        obtain ⟨k, hk⟩ := (mm_fix_some X Y (mm_call X Y d) _).mp h
        obtain ⟨q, hq, hA⟩ := rn_run hP (rn_code hP (List.mem_of_getElem? hrow)) ih k (0, mm_ent row.2.2.2.1 as, [], σ) (0, mm_ent row.2.2.2.1 (as.map (rn_v π)), [], τ) r ⟨rfl, rn_ent _ as, rfl, hR⟩ hk
        exact ⟨q, (mm_fix_some X Y (mm_call X Y d) _).mpr ⟨k, hq⟩, hA⟩
/-- a run from anywhere in a method of the table, its calls included -/
theorem rn_fix (hP : rn_P π n0) {row : mm_Mt} (hr : row ∈ mm_tab) {D : Nat} {c d : mm_C} {r : mm_R} (hC : rn_C π n0 c d) (h : mm_fix X Y (mm_call X Y D) (mm_look row.2.2.2.2.2) c = some r) : ∃ q, mm_fix X Y (mm_call X Y D) (mm_look row.2.2.2.2.2) d = some q ∧ rn_A π n0 r q := by
  obtain ⟨k, hk⟩ := (mm_fix_some X Y (mm_call X Y D) _).mp h
  obtain ⟨q, hq, hA⟩ := rn_run hP (rn_code hP hr) (rn_call hP D) k c d r hC hk
  exact ⟨q, (mm_fix_some X Y (mm_call X Y D) _).mpr ⟨k, hq⟩, hA⟩
end RN2
