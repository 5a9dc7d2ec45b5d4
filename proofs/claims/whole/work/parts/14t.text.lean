/-! TEXTS: length and charAt of a constant, through the JDK's own rows. -/
def mj_w (y : MethodName) (b : ByteArray) (n : Nat) (ret : Option FieldType) : List Cond := .code y b n ret :: mm_ALL
def mj_P (g : mm_G0) (X : Nat → Nat × (Nat → Int32)) (Y : Nat → List Int32) (av : List Value) : Array Value → State → Prop := fun a U => a = av.toArray ∧ mm_A g X Y U
def mj_Q (v : Option Value) : Array Value → State → Outcome → State → Prop := fun _ st oc t => oc = .returned v ∧ t.heap = st.heap
def mj_rm (k : Nat) : Room := { frames := k, cells := 0, slots := 0, locals := 40 * k }
def mj_C (g : mm_G0) (X : Nat → Nat × (Nat → Int32)) (Y : Nat → List Int32) (l : Launch) (k : Nat) (y : MethodName) (b : ByteArray) (n : Nat) (ret : Option FieldType) (av : List Value) (v : Option Value) : Prop := Met l y (mj_w y b n ret) (mj_rm k) (mj_P g X Y av) (mj_Q v) 0 0 (fun _ => False)
theorem mj_blind (g : mm_G0) (X : Nat → Nat × (Nat → Int32)) (Y : Nat → List Int32) (av : List Value) : FrameBlind (mj_P g X Y av) := fun a U gf mk h => ⟨h.1, h.2.blind⟩
section MJ
variable {p : Program} {l : Launch} {e : Env} {R : Room} {s : State} {m : MethodId} {args : Array Value} {below : List Frame} {meth : Method} {c : Code} {Q : State → Prop} {cc : ByteArray}
variable {g : mm_G0} {X : Nat → Nat × (Nat → Int32)} {Y : Nat → List Int32}
theorem mj_callk {v : Option Value} {rest st0 : List Value} {la : Array Slot} {H : Heap} {locs : List Loc} {cells slots : Nat} {a0 : Array Value} {pc : Nat} (hr : va_Run p l e R s m args below meth c H locs cells slots 0 0 (F0 m pc la st0) rest (mj_Q v a0) (fun _ => False)) (kk : W p l e R s m args below meth c H locs cells slots Q (F0 m (pc + 3) la (v.toList ++ rest))) : W p l e R s m args below meth c H locs cells slots Q (F0 m pc la st0) := by
  intro T hT Z
  obtain ⟨v2, st₀, t, T', L, h0, Z', hL, e1, e2, ⟨hv, hh⟩, st⟩ := hr T hT Z
  have hv2 : v2 = v := by injection hv
  subst hv2
  have hLn : L = [] := by
    cases L with
    | nil => rfl
    | cons x r => exact (hL x List.mem_cons_self).elim
  subst hLn
  rw [List.append_nil] at Z'
  obtain ⟨t2, a1, b1⟩ := kk T' (by rw [e1, hh, h0]) Z'
  exact ⟨t2, st t2 a1, b1⟩
def mj_fx (g : mm_G0) (X : Nat → Nat × (Nat → Int32)) (Y : Nat → List Int32) (p : Program) (s : State) (m : MethodId) (args : Array Value) (c : Code) (cc : ByteArray) (nL : Nat) (own : String) : Prop := p.tables.exec = Jvm.exec ∧ c.code = cc ∧ c.maxLocals = nL ∧ s.vm.findClass own = some m.cls ∧ (∀ w ∈ mm_ALL, w.before args s = true) ∧ mm_A g X Y s
theorem mj_body {y : MethodName} {b : ByteArray} {n k : Nat} {ret : Option FieldType} {av : List Value} {v : Option Value} (hy : plainName y.cls = true) (hn : (lg_sl av).length ≤ n)
    (body : ∀ (p : Program) (e : Env) (s : State) (m : MethodId) (args : Array Value) (below : List Frame) (meth : Method) (c : Code) (ls : Array Slot), mj_fx g X Y p s m args c b n y.cls → meth.sig.returnType = ret → meth.locks = false → lv_has ls n (lv_args 0 av) → W p l e (mj_rm k) s m args below meth c s.heap [] 0 0 (MQ below (mj_Q v) args s 0 0 (fun _ => False)) (F0 m 0 ls [])) : mj_C g X Y l k y b n ret av v := by
  refine Met.ofW (cc := b) (maxL := n) (ret := ret) hy rfl ?_
  intro p e s m args below meth c s₁ B hml hv
  obtain ⟨rfl, hA⟩ := hv
  have hts := atoms_spec (ws := mj_w y b n ret) B.pre
  rw [lg_entry_eq]
  exact body p e s m _ below meth c _ ⟨B.exec, B.bytes, hml, findClass_of_methodNamed B.named, fun w hw => hts w (List.mem_cons_of_mem _ hw), hA⟩ B.returns B.notSynchronized (lv_entry av hn)
theorem mj_q {v : Option Value} : ∀ t : State, t.heap = s.heap → s.WarmedH t.vm → mj_Q v args s (.returned v) t := fun t ht _ => ⟨rfl, ht⟩
theorem mj_str {j : Nat} (h : mm_A g X Y s) (hj : j < 13) : mm_StrO g Y j s s.heap := h.2.2.2.2.2.2.2.1 j hj
theorem mj_cs (h : mm_A g X Y s) : va_Z "java/lang/String" "COMPACT_STRINGS" "Z" (.int 1) (mm_Ao g) s s.heap := h.2.2.2.2.2.2.2.2.1
theorem mj_enter {U : State} (h : mm_A g X Y s) (hU : U.heap = s.heap) (hW : s.WarmedH U.vm) : mm_A g X Y U := h.enter (locs := []) hW hU va_S.rf
end MJ
section MJ2
variable {l : Launch} {g : mm_G0} {X : Nat → Nat × (Nat → Int32)} {Y : Nat → List Int32}
theorem mj_fl {p : Nat} {o r n d : String} {i : Nat} (h : mm_wd p = some (.fieldLink o i r n d)) : Cond.fieldLink o i r n d ∈ mm_ALL := mm_all_of h rfl
def mj_coder : MethodName := ⟨"java/lang/String", "coder", "()B"⟩
theorem mj_c_coder {j : Nat} (hj : j < 13) : mj_C g X Y l 1 mj_coder prog_16_method_152_code 1 (some .byte) [.ref (mm_ex g (2000000 + j))] (some (.int 0)) := by
  refine mj_body (by decide) (by simp [lg_sl, Value.category]) ?_
  intro p e s m args below meth c ls F hret hlk hl
  obtain ⟨hx, hb, hml, hown, hts, hA⟩ := F
  obtain ⟨a1, a2, a3, a4, -⟩ := mj_str hA hj
  have hl : lv_has ls 1 [(0, .ref (mm_ex g (2000000 + j)))] := hl
  refine va_gets (own := "java/lang/String") (ref := "java/lang/String") (index := 38) hx hb (mj_cs hA) va_S.rf hown (hts _ (mm_all_of (i := 4225) (by decide +kernel) rfl)) (fun x h => h) (by decide +kernel) ?_
  refine lv_if_eq (tgt := 13) (off := 10) hx hb (by decide +kernel) (by decide) (fun z => absurd z (by decide)) (fun _ => ?_)
  refine lv_aload_n hx hb (k := 0) (i := 0) (by decide +kernel) rfl (lv_at hl 0 rfl) ?_
  refine vk_getf (own := "java/lang/String") (ref := "java/lang/String") (index := 15) hx hb a2 va_S.rf hown (hts _ (mm_all_of (i := 9057) (by decide +kernel) rfl)) (fun x h => h) (by decide +kernel) ?_
  refine lv_goto (tgt := 14) (off := 4) hx hb (by decide +kernel) (by decide) ?_
  exact W.zret (ty := .byte) hx hb hret (by decide +kernel) mj_q (fun q h => by cases h) (by decide +kernel) hlk
def mj_latin : MethodName := ⟨"java/lang/String", "isLatin1", "()Z"⟩
theorem mj_c_latin {j : Nat} (hj : j < 13) : mj_C g X Y l 1 mj_latin prog_16_method_154_code 1 (some .boolean) [.ref (mm_ex g (2000000 + j))] (some (.int 1)) := by
  refine mj_body (by decide) (by simp [lg_sl, Value.category]) ?_
  intro p e s m args below meth c ls F hret hlk hl
  obtain ⟨hx, hb, hml, hown, hts, hA⟩ := F
  obtain ⟨a1, a2, a3, a4, -⟩ := mj_str hA hj
  have hl : lv_has ls 1 [(0, .ref (mm_ex g (2000000 + j)))] := hl
  refine va_gets (own := "java/lang/String") (ref := "java/lang/String") (index := 38) hx hb (mj_cs hA) va_S.rf hown (hts _ (mm_all_of (i := 4225) (by decide +kernel) rfl)) (fun x h => h) (by decide +kernel) ?_
  refine lv_if_eq (tgt := 17) (off := 14) hx hb (by decide +kernel) (by decide) (fun z => absurd z (by decide)) (fun _ => ?_)
  refine lv_aload_n hx hb (k := 0) (i := 0) (by decide +kernel) rfl (lv_at hl 0 rfl) ?_
  refine vk_getf (own := "java/lang/String") (ref := "java/lang/String") (index := 15) hx hb a2 va_S.rf hown (hts _ (mm_all_of (i := 9057) (by decide +kernel) rfl)) (fun x h => h) (by decide +kernel) ?_
  refine lv_if_ne (tgt := 17) (off := 7) hx hb (by decide +kernel) (by decide) (fun z => absurd rfl z) (fun _ => ?_)
  refine lv_iconst (n := 1) (v := 1) hx hb (by decide +kernel) (by decide) ?_
  refine lv_goto (tgt := 18) (off := 4) hx hb (by decide +kernel) (by decide) ?_
  exact W.zret (ty := .boolean) hx hb hret (by decide +kernel) mj_q (fun q h => by cases h) (by decide +kernel) hlk
def mj_pre : MethodName := ⟨"jdk/internal/util/Preconditions", "checkIndex", "(IILjava/util/function/BiFunction;)I"⟩
theorem mj_c_pre {i : Int32} {n : Nat} (hi : vp_in i n) (hn : n < 2147483648) (f : Value) (hf : f = .null ∨ ∃ t, f = .ref t) : mj_C g X Y l 1 mj_pre prog_19_method_11_code 3 (some .int) [.int i, .int (Int32.ofNat n), f] (some (.int i)) := by
  refine mj_body (by decide) (by rcases hf with rfl | ⟨t, rfl⟩ <;> simp [lg_sl, Value.category]) ?_
  intro p e s m args below meth c ls F hret hlk hl
  obtain ⟨hx, hb, hml, hown, hts, hA⟩ := F
  have hl : lv_has ls 3 [(0, .int i), (1, .int (Int32.ofNat n)), (2, f)] := hl
  have h0 : ¬ i < 0 := fun z => hi (Or.inl z)
  have hlt : i < Int32.ofNat n := by
    obtain ⟨k, hk, rfl⟩ := vp_in_of hi (by omega)
    exact nI_lt hk (by omega)
  refine lv_iload_n hx hb (k := 0) (i := 0) (by decide +kernel) rfl (lv_at hl 0 rfl) ?_
  refine lv_if_lt (tgt := 9) (off := 8) hx hb (by decide +kernel) (by decide) (fun z => absurd z h0) (fun _ => ?_)
  refine lv_iload_n hx hb (k := 0) (i := 0) (by decide +kernel) rfl (lv_at hl 0 rfl) ?_
  refine lv_iload_n hx hb (k := 1) (i := 1) (by decide +kernel) rfl (lv_at hl 1 rfl) ?_
  refine lv_icmp_lt (tgt := 16) (off := 10) hx hb (by decide +kernel) (by decide) (fun _ => ?_) (fun z => absurd hlt z)
  refine lv_iload_n hx hb (k := 0) (i := 0) (by decide +kernel) rfl (lv_at hl 0 rfl) ?_
  exact W.iret hx hb hret mj_q (fun q h => by cases h) (by decide +kernel) hlk
def mj_chk : MethodName := ⟨"java/lang/String", "checkIndex", "(II)V"⟩
theorem mj_c_chk {i : Int32} {n : Nat} (hi : vp_in i n) (hn : n < 2147483648) : mj_C g X Y l 2 mj_chk prog_16_method_155_code 2 none [.int i, .int (Int32.ofNat n)] none := by
  refine mj_body (by decide) (by simp [lg_sl, Value.category]) ?_
  intro p e s m args below meth c ls F hret hlk hl
  obtain ⟨hx, hb, hml, hown, hts, hA⟩ := F
  have hl : lv_has ls 2 [(0, .int i), (1, .int (Int32.ofNat n))] := hl
  refine lv_iload_n hx hb (k := 0) (i := 0) (by decide +kernel) rfl (lv_at hl 0 rfl) ?_
  refine lv_iload_n hx hb (k := 1) (i := 1) (by decide +kernel) rfl (lv_at hl 1 rfl) ?_
  have w1 := mm_all_of (i := 5003) (w := .methodLink "java/lang/String" 1059 mj_pre) (by decide +kernel) rfl
  have w2 := mm_all_of (i := 5004) (w := .static mj_pre) (by decide +kernel) rfl
  have w3 := mm_all_of (i := 5005) (w := .code mj_pre prog_19_method_11_code 3 (some .int)) rfl rfl
  have w4 := mm_all_of (i := 1017) (w := .initialized mj_pre.cls) (by decide +kernel) rfl
  have step : ∀ f : Value, (f = .null ∨ ∃ t, f = .ref t) → va_Z "jdk/internal/util/Preconditions" "SIOOBE_FORMATTER" "Ljava/util/function/BiFunction;" f (mm_Ao g) s s.heap → W p l e (mj_rm 2) s m args below meth c s.heap [] 0 0 (MQ below (mj_Q none) args s 0 0 (fun _ => False)) (F0 m 2 ls [.int (Int32.ofNat n), .int i]) := by
    intro f hf hZ
    refine va_gets (own := "java/lang/String") (ref := "jdk/internal/util/Preconditions") (index := 1053) hx hb hZ va_S.rf hown (hts _ (mm_all_of (i := 5001) (by decide +kernel) rfl)) (fun x h => h) (by decide +kernel) ?_
    refine mj_callk (va_runS (As := [.int i, .int (Int32.ofNat n), f]) (rest := []) ⟨hx, hb, hml, hown, hts⟩ (mj_c_pre (g := g) (X := X) (Y := Y) hi hn f hf) (va_cwS 3 hts (mm_good (ws := va_wsS "java/lang/String" 1059 mj_pre (mj_w mj_pre prog_19_method_11_code 3 (some .int))) (by
      intro w hw
      simp only [va_wsS, mj_w, List.mem_append, List.mem_cons, List.not_mem_nil, or_false] at hw
      rcases hw with (rfl | rfl | rfl) | rfl | hw
      · exact w1
      · exact w2
      · exact w4
      · exact w3
      · exact hw)) rfl rfl rfl (by decide +kernel) ⟨by decide, by decide⟩) ⟨mj_blind g X Y _, fun U hU hW => ⟨rfl, mj_enter hA hU hW⟩⟩ rfl rfl hl.1 rfl (lv_room (by decide)) (show decode prog_16_method_155_code 5 = .ok (.invokestatic 1059, 3) by decide +kernel) ⟨by decide, by decide⟩) ?_
    refine lv_pop hx hb (by decide +kernel) rfl ?_
    exact W.vret hx hb hret mj_q (fun q h => by cases h) (by decide +kernel) hlk
  rcases hA.2.2.2.2.2.2.2.2.2 with h | ⟨t, h⟩
  · exact step .null (Or.inl rfl) h
  · exact step (.ref t) (Or.inr ⟨t, rfl⟩) h
theorem mj_alen {p : Program} {l : Launch} {e : Env} {R : Room} {s : State} {m : MethodId} {args : Array Value} {below : List Frame} {meth : Method} {c : Code} {Q : State → Prop} {cc : ByteArray} {cells slots pc : Nat} {ls : Array Slot} {rest : List Value} {t N : Nat} {f : Nat → Value} {A : Nat → Prop} {ty : FieldType} (hx : p.tables.exec = Jvm.exec) (hb : c.code = cc) (hT : va_T ty t N f A s s.heap) (hdg : decode cc pc = .ok (.arraylength, 1)) (kk : W p l e R s m args below meth c s.heap [] cells slots Q (F0 m (pc + 1) ls (.int (Int32.ofNat N) :: rest))) : W p l e R s m args below meth c s.heap [] cells slots Q (F0 m pc ls (.ref t :: rest)) := by
  obtain ⟨cell, h1, h2, h3, h4, h5, h6, h7⟩ := hT
  exact W.alen hx hb h1 h2 h5 rfl rfl hdg kk
def mj_len : MethodName := ⟨"java/lang/String", "length", "()I"⟩
theorem mj_c_len {j : Nat} (hj : j < 13) : mj_C g X Y l 2 mj_len prog_16_method_54_code 1 (some .int) [.ref (mm_ex g (2000000 + j))] (some (.int (Int32.ofNat (Y j).length >>> ((0 : Int32) &&& 31)))) := by
  refine mj_body (by decide) (by simp [lg_sl, Value.category]) ?_
  intro p e s m args below meth c ls F hret hlk hl
  obtain ⟨hx, hb, hml, hown, hts, hA⟩ := F
  obtain ⟨a1, a2, a3, a4, -⟩ := mj_str hA hj
  have hl : lv_has ls 1 [(0, .ref (mm_ex g (2000000 + j)))] := hl
  refine lv_aload_n hx hb (k := 0) (i := 0) (by decide +kernel) rfl (lv_at hl 0 rfl) ?_
  refine vk_getf (own := "java/lang/String") (ref := "java/lang/String") (index := 9) hx hb a3 va_S.rf hown (hts _ (mm_all_of (i := 9056) (by decide +kernel) rfl)) (fun x h => h) (by decide +kernel) ?_
  refine mj_alen hx hb a4 (by decide +kernel) ?_
  refine lv_aload_n hx hb (k := 0) (i := 0) (by decide +kernel) rfl (lv_at hl 0 rfl) ?_
  have w1 := mm_all_of (i := 4221) (w := .methodLink "java/lang/String" 335 mj_coder) (by decide +kernel) rfl
  have w2 := mm_all_of (i := 4223) (w := .selects "java/lang/String" mj_coder mj_coder) (by decide +kernel) rfl
  have w5 := mm_all_of (i := 4222) (w := .instanceMethod mj_coder) (by decide +kernel) rfl
  have w3 := mm_all_of (i := 4224) (w := .code mj_coder prog_16_method_152_code 1 (some .byte)) rfl rfl
  have w4 := mm_all_of (i := 1015) (w := .initialized "java/lang/String") (by decide +kernel) rfl
  obtain ⟨cell, q1, q2, q3, -⟩ := a1
  refine mj_callk (va_runV (As := []) (rest := [.int (Int32.ofNat (Y j).length)]) ⟨hx, hb, hml, hown, hts⟩ (mj_c_coder (g := g) (X := X) (Y := Y) hj) (cwV (C := "java/lang/String") 0 hts (mm_good (ws := wsV "java/lang/String" 335 "java/lang/String" mj_coder (mj_w mj_coder prog_16_method_152_code 1 (some .byte))) (by
    intro w hw
    simp only [wsV, mj_w, List.mem_append, List.mem_cons, List.not_mem_nil, or_false] at hw
    rcases hw with (rfl | rfl | rfl | rfl) | rfl | hw
    · exact w1
    · exact w5
    · exact w2
    · exact w4
    · exact w3
    · exact hw)) rfl rfl rfl (by decide +kernel) ⟨by decide, by decide⟩) ⟨mj_blind g X Y _, ⟨cell, q1, q2, q3⟩, fun U hU hW => ⟨rfl, mj_enter hA hU hW⟩⟩ rfl rfl hl.1 rfl (lv_room (by simp [Value.category])) (show decode prog_16_method_54_code 6 = .ok (.invokevirtual 335, 3) by decide +kernel) ⟨by decide, by decide⟩) ?_
  refine lv_ishr hx hb (by decide +kernel) ?_
  exact W.iret hx hb hret mj_q (fun q h => by cases h) (by decide +kernel) hlk
def mj_lchar : MethodName := ⟨"java/lang/StringLatin1", "charAt", "([BI)C"⟩
theorem mj_c_lchar {j : Nat} (hj : j < 13) {i : Int32} (hi : vp_in i (Y j).length) (hn : (Y j).length < 2147483648) (hc : narrow .char (.int (mj_c2 ((Y j).getD i.toNatClampNeg 0))) = .int (mj_c2 ((Y j).getD i.toNatClampNeg 0))) : mj_C g X Y l 3 mj_lchar prog_17_method_2_code 2 (some .char) [.ref (mm_ex g (3000000 + j)), .int i] (some (.int (mj_c2 ((Y j).getD i.toNatClampNeg 0)))) := by
  refine mj_body (by decide) (by simp [lg_sl, Value.category]) ?_
  intro p e s m args below meth c ls F hret hlk hl
  obtain ⟨hx, hb, hml, hown, hts, hA⟩ := F
  obtain ⟨a1, a2, a3, a4, -⟩ := mj_str hA hj
  have hl : lv_has ls 2 [(0, .ref (mm_ex g (3000000 + j))), (1, .int i)] := hl
  refine lv_iload_n hx hb (k := 1) (i := 1) (by decide +kernel) rfl (lv_at hl 1 rfl) ?_
  refine lv_aload_n hx hb (k := 0) (i := 0) (by decide +kernel) rfl (lv_at hl 0 rfl) ?_
  refine mj_alen hx hb a4 (by decide +kernel) ?_
  have w1 := mm_all_of (i := 4238) (w := .methodLink "java/lang/StringLatin1" 9 mj_chk) (by decide +kernel) rfl
  have w2 := mm_all_of (i := 4239) (w := .static mj_chk) (by decide +kernel) rfl
  have w3 := mm_all_of (i := 5000) (w := .code mj_chk prog_16_method_155_code 2 none) rfl rfl
  have w4 := mm_all_of (i := 1015) (w := .initialized mj_chk.cls) (by decide +kernel) rfl
  refine mj_callk (va_runS (As := [.int i, .int (Int32.ofNat (Y j).length)]) (rest := []) ⟨hx, hb, hml, hown, hts⟩ (mj_c_chk (g := g) (X := X) (Y := Y) hi hn) (va_cwS 2 hts (mm_good (ws := va_wsS "java/lang/StringLatin1" 9 mj_chk (mj_w mj_chk prog_16_method_155_code 2 none)) (by
    intro w hw
    simp only [va_wsS, mj_w, List.mem_append, List.mem_cons, List.not_mem_nil, or_false] at hw
    rcases hw with (rfl | rfl | rfl) | rfl | hw
    · exact w1
    · exact w2
    · exact w4
    · exact w3
    · exact hw)) rfl rfl rfl (by decide +kernel) ⟨by decide, by decide⟩) ⟨mj_blind g X Y _, fun U hU hW => ⟨rfl, mj_enter hA hU hW⟩⟩ rfl rfl hl.1 rfl (lv_room (by decide)) (show decode prog_17_method_2_code 3 = .ok (.invokestatic 9, 3) by decide +kernel) ⟨by decide, by decide⟩) ?_
  refine lv_aload_n hx hb (k := 0) (i := 0) (by decide +kernel) rfl (lv_at hl 0 rfl) ?_
  refine lv_iload_n hx hb (k := 1) (i := 1) (by decide +kernel) rfl (lv_at hl 1 rfl) ?_
  refine va_tb hx hb a4 va_S.rf hi rfl (by decide +kernel) ?_
  refine lv_sipush (n := 255) (v := 255) hx hb (by decide +kernel) (by decide) ?_
  refine lv_iand hx hb (by decide +kernel) ?_
  refine lv_i2c (v := mj_c2 ((Y j).getD i.toNatClampNeg 0)) hx hb (by decide +kernel) rfl ?_
  exact W.zret (ty := .char) hx hb hret hc mj_q (fun q h => by cases h) (by decide +kernel) hlk
def mj_char : MethodName := ⟨"java/lang/String", "charAt", "(I)C"⟩
theorem mj_c_char {j : Nat} (hj : j < 13) {i : Int32} (hi : vp_in i (Y j).length) (hn : (Y j).length < 2147483648) (hc : narrow .char (.int (mj_c2 ((Y j).getD i.toNatClampNeg 0))) = .int (mj_c2 ((Y j).getD i.toNatClampNeg 0))) : mj_C g X Y l 4 mj_char prog_16_method_56_code 2 (some .char) [.ref (mm_ex g (2000000 + j)), .int i] (some (.int (mj_c2 ((Y j).getD i.toNatClampNeg 0)))) := by
  refine mj_body (by decide) (by simp [lg_sl, Value.category]) ?_
  intro p e s m args below meth c ls F hret hlk hl
  obtain ⟨hx, hb, hml, hown, hts, hA⟩ := F
  obtain ⟨a1, a2, a3, a4, -⟩ := mj_str hA hj
  have hl : lv_has ls 2 [(0, .ref (mm_ex g (2000000 + j))), (1, .int i)] := hl
  refine lv_aload_n hx hb (k := 0) (i := 0) (by decide +kernel) rfl (lv_at hl 0 rfl) ?_
  have w1 := mm_all_of (i := 4231) (w := .methodLink "java/lang/String" 492 mj_latin) (by decide +kernel) rfl
  have w2 := mm_all_of (i := 4233) (w := .selects "java/lang/String" mj_latin mj_latin) (by decide +kernel) rfl
  have w5 := mm_all_of (i := 4232) (w := .instanceMethod mj_latin) (by decide +kernel) rfl
  have w3 := mm_all_of (i := 4234) (w := .code mj_latin prog_16_method_154_code 1 (some .boolean)) rfl rfl
  have w4 := mm_all_of (i := 1015) (w := .initialized "java/lang/String") (by decide +kernel) rfl
  obtain ⟨cell, q1, q2, q3, -⟩ := a1
  refine mj_callk (va_runV (As := []) (rest := []) ⟨hx, hb, hml, hown, hts⟩ (mj_c_latin (g := g) (X := X) (Y := Y) hj) (cwV (C := "java/lang/String") 0 hts (mm_good (ws := wsV "java/lang/String" 492 "java/lang/String" mj_latin (mj_w mj_latin prog_16_method_154_code 1 (some .boolean))) (by
    intro w hw
    simp only [wsV, mj_w, List.mem_append, List.mem_cons, List.not_mem_nil, or_false] at hw
    rcases hw with (rfl | rfl | rfl | rfl) | rfl | hw
    · exact w1
    · exact w5
    · exact w2
    · exact w4
    · exact w3
    · exact hw)) rfl rfl rfl (by decide +kernel) ⟨by decide, by decide⟩) ⟨mj_blind g X Y _, ⟨cell, q1, q2, q3⟩, fun U hU hW => ⟨rfl, mj_enter hA hU hW⟩⟩ rfl rfl hl.1 rfl (lv_room (by decide)) (show decode prog_16_method_56_code 1 = .ok (.invokevirtual 492, 3) by decide +kernel) ⟨by decide, by decide⟩) ?_
  refine lv_if_eq (tgt := 16) (off := 12) hx hb (by decide +kernel) (by decide) (fun z => absurd z (by decide)) (fun _ => ?_)
  refine lv_aload_n hx hb (k := 0) (i := 0) (by decide +kernel) rfl (lv_at hl 0 rfl) ?_
  refine vk_getf (own := "java/lang/String") (ref := "java/lang/String") (index := 9) hx hb a3 va_S.rf hown (hts _ (mm_all_of (i := 9056) (by decide +kernel) rfl)) (fun x h => h) (by decide +kernel) ?_
  refine lv_iload_n hx hb (k := 1) (i := 1) (by decide +kernel) rfl (lv_at hl 1 rfl) ?_
  have u1 := mm_all_of (i := 4235) (w := .methodLink "java/lang/String" 495 mj_lchar) (by decide +kernel) rfl
  have u2 := mm_all_of (i := 4236) (w := .static mj_lchar) (by decide +kernel) rfl
  have u3 := mm_all_of (i := 4237) (w := .code mj_lchar prog_17_method_2_code 2 (some .char)) rfl rfl
  have u4 := mm_all_of (i := 1016) (w := .initialized mj_lchar.cls) (by decide +kernel) rfl
  refine mj_callk (va_runS (As := [.ref (mm_ex g (3000000 + j)), .int i]) (rest := []) ⟨hx, hb, hml, hown, hts⟩ (mj_c_lchar (g := g) (X := X) (Y := Y) hj hi hn hc) (va_cwS 2 hts (mm_good (ws := va_wsS "java/lang/String" 495 mj_lchar (mj_w mj_lchar prog_17_method_2_code 2 (some .char))) (by
    intro w hw
    simp only [va_wsS, mj_w, List.mem_append, List.mem_cons, List.not_mem_nil, or_false] at hw
    rcases hw with (rfl | rfl | rfl) | rfl | hw
    · exact u1
    · exact u2
    · exact u4
    · exact u3
    · exact hw)) rfl rfl rfl (by decide +kernel) ⟨by decide, by decide⟩) ⟨mj_blind g X Y _, fun U hU hW => ⟨rfl, mj_enter hA hU hW⟩⟩ rfl rfl hl.1 rfl (lv_room (by decide)) (show decode prog_16_method_56_code 12 = .ok (.invokestatic 495, 3) by decide +kernel) ⟨by decide, by decide⟩) ?_
  exact W.zret (ty := .char) hx hb hret hc mj_q (fun q h => by cases h) (by decide +kernel) hlk
end MJ2
