/-! EACH ROW OF THE CODE IS WHAT THE BYTES SAY, and links where the tables say. -/
def mm_swT (pc : Nat) (lo : Int) : List Int → List (Int32 × Nat)
  | [] => []
  | off :: r => (Int32.ofInt lo, mm_tg pc off) :: mm_swT pc (lo + 1) r
def mm_swL (pc : Nat) : List (Int × Int) → List (Int32 × Nat)
  | [] => []
  | (x, off) :: r => (Int32.ofInt x, mm_tg pc off) :: mm_swL pc r
def mm_on (pc : Nat) (off : Int) (t : Nat) : Bool := decide ((pc : Int) + off = (t : Int))
def mm_sm (n : Int) : Bool := decide (-2147483648 ≤ n) && decide (n ≤ 2147483647)
def mm_ok (o nL : Nat) (ini : Bool) (ret : Option FieldType) (pc : Nat) : mm_E → Bool
  | (ins, len, v, t, a, b, k, sw) => match ins with
    | .aload _ => Nat.beq len 2
    | .iload _ => Nat.beq len 2
    | .lload _ => Nat.beq len 2
    | .aload_n i => Nat.beq len 1 && Nat.beq t i.val
    | .iload_n i => Nat.beq len 1 && Nat.beq t i.val
    | .lload_n i => Nat.beq len 1 && Nat.beq t i.val
    | .istore i => Nat.beq len 2 && Nat.blt i nL
    | .astore i => Nat.beq len 2 && Nat.blt i nL
    | .lstore i => Nat.beq len 2 && Nat.blt (i + 1) nL
    | .istore_n i => Nat.beq len 1 && Nat.beq t i.val && Nat.blt t nL
    | .astore_n i => Nat.beq len 1 && Nat.beq t i.val && Nat.blt t nL
    | .lstore_n i => Nat.beq len 1 && Nat.beq t i.val && Nat.blt (t + 1) nL
    | .iinc i n => Nat.beq len 3 && Nat.blt i nL && decide (v = .int (Int32.ofInt n))
    | .iconst n => Nat.beq len 1 && decide (v = .int (Int32.ofInt n))
    | .bipush n => Nat.beq len 2 && decide (v = .int (Int8.ofInt n).toInt32)
    | .sipush n => Nat.beq len 3 && decide (v = .int (Int16.ofInt n).toInt32)
    | .lconst n => Nat.beq len 1 && decide (v = .long (Int64.ofNat n))
    | .ldc i => Nat.beq len 2 && mm_cok o i v && (match v with | .long _ => false | _ => true)
    | .ldc_w i => Nat.beq len 3 && mm_cok o i v && (match v with | .long _ => false | _ => true)
    | .ldc2_w i => Nat.beq len 3 && mm_cok o i v && (match v with | .long _ => true | _ => false)
    | .getstatic i => Nat.beq len 3 && Nat.beq o 2 && Nat.beq i 54 && decide (v = .ref 1000000)
    | .goto off => Nat.beq len 3 && mm_on pc off t
    | .ifCond _ off => Nat.beq len 3 && mm_on pc off t
    | .if_icmp _ off => Nat.beq len 3 && mm_on pc off t
    | .tableswitch d lo hi offs => mm_on pc d t && decide (sw = mm_swT pc lo offs.toList) && decide (hi = lo + (offs.toList.length : Int) - 1) && mm_sm lo && mm_sm hi && Nat.blt 0 offs.toList.length && offs.toList.all (fun off => decide (0 ≤ (pc : Int) + off))
    | .lookupswitch d ps => mm_on pc d t && decide (sw = mm_swL pc ps.toList) && ps.toList.all (fun q => mm_sm q.1 && decide (0 ≤ (pc : Int) + q.2)) && (ps.toList.zip (ps.toList.drop 1)).all (fun (a, next) => a.1 < next.1)
    | .getfield i => Nat.beq len 3 && mm_fok o i a b && Nat.beq k (match mm_ft a b with | 3 => 0 | x => x)
    | .putfield i => Nat.beq len 3 && mm_fok o i a b && Nat.beq k (mm_ft a b) && (!(Nat.beq t 1) || (ini && Nat.beq o a)) && Nat.beq t (match (mm_cls[a]?).map (fun q => (q.2.1 b).2.2.2) with | some true => 1 | _ => 0)
    | .new i => Nat.beq len 3 && mm_nok o i a
    | .newarray ty => Nat.beq len 2 && (match ty with | .int => Nat.beq k 0 | .long => Nat.beq k 1 | .boolean => Nat.beq k 2 | _ => false)
    | .anewarray i => Nat.beq len 3 && mm_nok o i 6
    | .aastore => Nat.beq len 1 && Nat.beq a 6
    | .invokevirtual i => Nat.beq len 3 && (match t with
      | 0 => mm_mok o i a 0 && Nat.beq b ((mm_nps.getD a 0) + 1) && Nat.beq k (mm_cnos.getD a 0) && Nat.blt a 251 && Nat.blt k 13
      | 14 => mm_jok o i 14
      | 15 => mm_jok o i 15
      | _ => false)
    | .invokestatic i => Nat.beq len 3 && (match t with
      | 1 => mm_mok o i a 1 && Nat.beq b (mm_nps.getD a 0) && Nat.blt a 251
      | 5 => mm_mok o i a 5 && Nat.beq b (mm_nps.getD a 0) && Nat.blt a 251
      | 10 => mm_jok o i 10
      | 11 => mm_jok o i 11
      | 12 => mm_jok o i 12
      | 13 => mm_jok o i 13
      | _ => false)
    | .invokespecial i => Nat.beq len 3 && (match t with
      | 2 => mm_mok o i a 2 && Nat.beq b ((mm_nps.getD a 0) + 1) && Nat.blt a 251
      | 6 => mm_mok o i a 6 && Nat.beq b ((mm_nps.getD a 0) + 1) && Nat.blt a 251
      | 9 => mm_jok o i 9
      | _ => false)
    | .ireturn => Nat.beq len 1 && (match ret with | some .int => Nat.beq k 0 | some .boolean => Nat.beq k 1 | _ => false)
    | .areturn => Nat.beq len 1 && (match ret with | some (.object _) => true | _ => false)
    | .lreturn => Nat.beq len 1 && (match ret with | some .long => true | _ => false)
    | .return_ => Nat.beq len 1 && (match ret with | none => true | _ => false)
    | .iaload => Nat.beq len 1
    | .baload => Nat.beq len 1
    | .laload => Nat.beq len 1
    | .aaload => Nat.beq len 1
    | .iastore => Nat.beq len 1
    | .bastore => Nat.beq len 1
    | .lastore => Nat.beq len 1
    | .arraylength => Nat.beq len 1
    | .iadd => Nat.beq len 1
    | .isub => Nat.beq len 1
    | .imul => Nat.beq len 1
    | .iand => Nat.beq len 1
    | .ior => Nat.beq len 1
    | .idiv => Nat.beq len 1
    | .irem => Nat.beq len 1
    | .ishl => Nat.beq len 1
    | .ishr => Nat.beq len 1
    | .iushr => Nat.beq len 1
    | .ladd => Nat.beq len 1
    | .lsub => Nat.beq len 1
    | .lmul => Nat.beq len 1
    | .ldiv => Nat.beq len 1
    | .lrem => Nat.beq len 1
    | .lcmp => Nat.beq len 1
    | .i2l => Nat.beq len 1
    | .l2i => Nat.beq len 1
    | .dup => Nat.beq len 1
    | .dup2 => Nat.beq len 1
    | .dup_x1 => Nat.beq len 1
    | .pop => Nat.beq len 1
    | _ => false
abbrev mm_Mt : Type := Nat × MethodName × ByteArray × Nat × Option FieldType × List (List (Nat × mm_E))
def mm_vd (b : ByteArray) (o nL : Nat) (ini : Bool) (ret : Option FieldType) (L : List (List (Nat × mm_E))) : Bool := L.all (fun r => r.all (fun q => decide (decode b q.1 = .ok (q.2.1, q.2.2.1)) && mm_ok o nL ini ret q.1 q.2))
def mm_vr (r : mm_Mt) : Bool := mm_vd r.2.2.1 r.1 r.2.2.2.1 (decide (r.2.1.name = "<init>")) r.2.2.2.2.1 r.2.2.2.2.2
theorem mm_vd_cut {b : ByteArray} {o nL : Nat} {ini : Bool} {ret : Option FieldType} {L : List (List (Nat × mm_E))} (n : Nat) (h1 : mm_vd b o nL ini ret (L.take n) = true) (h2 : mm_vd b o nL ini ret (L.drop n) = true) : mm_vd b o nL ini ret L = true := by
  have e : mm_vd b o nL ini ret L = mm_vd b o nL ini ret (L.take n ++ L.drop n) := by rw [List.take_append_drop]
  rw [e]
  simp only [mm_vd, List.all_append, Bool.and_eq_true]
  exact ⟨h1, h2⟩
theorem mv_G_init : mm_vr (0, ⟨"GasTown", "<init>", "()V"⟩, prog_1_method_1_code, 1, none, mc_G_init) = true := by decide +kernel
theorem mv_Sky_init : mm_vr (1, ⟨"GasTown$Sky", "<init>", "()V"⟩, prog_10_method_1_code, 1, none, mc_Sky_init) = true := by decide +kernel
theorem mv_Works_init : mm_vr (2, ⟨"GasTown$Works", "<init>", "()V"⟩, prog_12_method_1_code, 1, none, mc_Works_init) = true := by decide +kernel
theorem mv_Things_init : mm_vr (3, ⟨"GasTown$Things", "<init>", "()V"⟩, prog_11_method_1_code, 1, none, mc_Things_init) = true := by decide +kernel
theorem mv_Net_init : mm_vr (4, ⟨"GasTown$Net", "<init>", "()V"⟩, prog_7_method_1_code, 1, none, mc_Net_init) = true := by decide +kernel
theorem mv_Laws_init : mm_vr (5, ⟨"GasTown$Laws", "<init>", "()V"⟩, prog_6_method_1_code, 2, none, mc_Laws_init) = true := by decide +kernel
theorem mv_Parser_init : mm_vr (7, ⟨"GasTown$Parser", "<init>", "()V"⟩, prog_9_method_1_code, 1, none, mc_Parser_init) = true := by decide +kernel
theorem mv_Act_init : mm_vr (6, ⟨"GasTown$Act", "<init>", "()V"⟩, prog_2_method_1_code, 1, none, mc_Act_init) = true := by decide +kernel
theorem mv_Books_init : mm_vr (8, ⟨"GasTown$Books", "<init>", "()V"⟩, prog_3_method_1_code, 1, none, mc_Books_init) = true := by decide +kernel
theorem mv_Night_init : mm_vr (9, ⟨"GasTown$Night", "<init>", "()V"⟩, prog_8_method_1_code, 1, none, mc_Night_init) = true := by decide +kernel
theorem mv_Eyes_init : mm_vr (10, ⟨"GasTown$Eyes", "<init>", "()V"⟩, prog_4_method_1_code, 2, none, mc_Eyes_init) = true := by decide +kernel
theorem mv_Improvements_init : mm_vr (11, ⟨"GasTown$Improvements", "<init>", "()V"⟩, prog_5_method_1_code, 1, none, mc_Improvements_init) = true := by decide +kernel
theorem mv_G_coal : mm_vr (0, ⟨"GasTown", "coal", "(IIII)Z"⟩, prog_1_method_2_code, 5, some .boolean, mc_G_coal) = true := by decide +kernel
theorem mv_Works_isCoal : mm_vr (2, ⟨"GasTown$Works", "isCoal", "(I)Z"⟩, prog_12_method_2_code, 2, some .boolean, mc_Works_isCoal) = true := by decide +kernel
theorem mv_G_within : mm_vr (0, ⟨"GasTown", "within", "(III)Z"⟩, prog_1_method_44_code, 3, some .boolean, mc_G_within) = true := by decide +kernel
theorem mv_G_buy : mm_vr (0, ⟨"GasTown", "buy", "(III)I"⟩, prog_1_method_3_code, 4, some .int, mc_G_buy) = true := by decide +kernel
theorem mv_G_bench : mm_vr (0, ⟨"GasTown", "bench", "()I"⟩, prog_1_method_4_code, 1, some .int, mc_G_bench) = true := by decide +kernel
theorem mv_Works_build : mm_vr (2, ⟨"GasTown$Works", "build", "()I"⟩, prog_12_method_3_code, 1, some .int, mc_Works_build) = true := by decide +kernel
theorem mv_G_charge : mm_vr (0, ⟨"GasTown", "charge", "(III)I"⟩, prog_1_method_5_code, 4, some .int, mc_G_charge) = true := by decide +kernel
theorem mv_Works_light : mm_vr (2, ⟨"GasTown$Works", "light", "(III)I"⟩, prog_12_method_4_code, 4, some .int, mc_Works_light) = true := by decide +kernel
theorem mv_G_hands : mm_vr (0, ⟨"GasTown", "hands", "(I)Z"⟩, prog_1_method_6_code, 2, some .boolean, mc_G_hands) = true := by decide +kernel
theorem mv_G_holder : mm_vr (0, ⟨"GasTown", "holder", "(I)Z"⟩, prog_1_method_7_code, 2, some .boolean, mc_G_holder) = true := by decide +kernel
theorem mv_Works_letOff : mm_vr (2, ⟨"GasTown$Works", "letOff", "()V"⟩, prog_12_method_8_code, 1, none, mc_Works_letOff) = true := by decide +kernel
theorem mv_G_round : mm_vr (0, ⟨"GasTown", "round", "(II)Z"⟩, prog_1_method_8_code, 3, some .boolean, mc_G_round) = true := by decide +kernel
theorem mv_G_fog : mm_vr (0, ⟨"GasTown", "fog", "(II)Z"⟩, prog_1_method_9_code, 3, some .boolean, mc_G_fog) = true := by decide +kernel
theorem mv_G_gate : mm_vr (0, ⟨"GasTown", "gate", "(I)Z"⟩, prog_1_method_10_code, 2, some .boolean, mc_G_gate) = true := by decide +kernel
theorem mv_G_node : mm_vr (0, ⟨"GasTown", "node", "(III)I"⟩, prog_1_method_11_code, 4, some .int, mc_G_node) = true := by decide +kernel
theorem mv_Net_has : mm_vr (4, ⟨"GasTown$Net", "has", "(I)Z"⟩, prog_7_method_2_code, 2, some .boolean, mc_Net_has) = true := by decide +kernel
theorem mv_Net_lay : mm_vr (4, ⟨"GasTown$Net", "lay", "(III)I"⟩, prog_7_method_4_code, 4, some .int, mc_Net_lay) = true := by decide +kernel
theorem mv_G_water : mm_vr (0, ⟨"GasTown", "water", "(IZ)Z"⟩, prog_1_method_12_code, 3, some .boolean, mc_G_water) = true := by decide +kernel
theorem mv_Net_hasPipe : mm_vr (4, ⟨"GasTown$Net", "hasPipe", "(I)Z"⟩, prog_7_method_3_code, 2, some .boolean, mc_Net_hasPipe) = true := by decide +kernel
theorem mv_G_thing : mm_vr (0, ⟨"GasTown", "thing", "(IIII)I"⟩, prog_1_method_13_code, 5, some .int, mc_G_thing) = true := by decide +kernel
theorem mv_Things_put : mm_vr (3, ⟨"GasTown$Things", "put", "(IIII)I"⟩, prog_11_method_4_code, 5, some .int, mc_Things_put) = true := by decide +kernel
theorem mv_G_cut : mm_vr (0, ⟨"GasTown", "cut", "(IZ)Z"⟩, prog_1_method_14_code, 3, some .boolean, mc_G_cut) = true := by decide +kernel
theorem mv_Things_has : mm_vr (3, ⟨"GasTown$Things", "has", "(I)Z"⟩, prog_11_method_2_code, 2, some .boolean, mc_Things_has) = true := by decide +kernel
theorem mv_G_coin : mm_vr (0, ⟨"GasTown", "coin", "(II)I"⟩, prog_1_method_15_code, 3, some .int, mc_G_coin) = true := by decide +kernel
theorem mv_Things_isA : mm_vr (3, ⟨"GasTown$Things", "isA", "(II)Z"⟩, prog_11_method_3_code, 3, some .boolean, mc_Things_isA) = true := by decide +kernel
theorem mv_G_frost : mm_vr (0, ⟨"GasTown", "frost", "(IZ)Z"⟩, prog_1_method_16_code, 3, some .boolean, mc_G_frost) = true := by decide +kernel
theorem mv_G_steps : mm_vr (0, ⟨"GasTown", "steps", "(I)I"⟩, prog_1_method_17_code, 3, some .int, mc_G_steps) = true := by decide +kernel
theorem mv_G_goOneStep : mm_vr (0, ⟨"GasTown", "goOneStep", "()V"⟩, prog_1_method_18_code, 2, none, mc_G_goOneStep) = true := by decide +kernel
theorem mv_Works_bake : mm_vr (2, ⟨"GasTown$Works", "bake", "()V"⟩, prog_12_method_7_code, 3, none, mc_Works_bake) = true := by decide +kernel
theorem mv_Works_gasLater : mm_vr (2, ⟨"GasTown$Works", "gasLater", "(I)I"⟩, prog_12_method_6_code, 4, some .int, mc_Works_gasLater) = true := by decide +kernel
theorem mv_Works_gasOf : mm_vr (2, ⟨"GasTown$Works", "gasOf", "(II)I"⟩, prog_12_method_5_code, 2, some .int, mc_Works_gasOf) = true := by decide +kernel
theorem mv_Things_askAll : mm_vr (3, ⟨"GasTown$Things", "askAll", "(ILGasTown$Sky;)V"⟩, prog_11_method_7_code, 4, none, mc_Things_askAll) = true := by decide +kernel
theorem mv_Things_wantOf : mm_vr (3, ⟨"GasTown$Things", "wantOf", "(IILGasTown$Sky;)I"⟩, prog_11_method_5_code, 4, some .int, mc_Things_wantOf) = true := by decide +kernel
theorem mv_Sky_houseWant : mm_vr (1, ⟨"GasTown$Sky", "houseWant", "(II)I"⟩, prog_10_method_5_code, 3, some .int, mc_Sky_houseWant) = true := by decide +kernel
theorem mv_Sky_hourOf : mm_vr (1, ⟨"GasTown$Sky", "hourOf", "(I)I"⟩, prog_10_method_3_code, 1, some .int, mc_Sky_hourOf) = true := by decide +kernel
theorem mv_Sky_dayOf : mm_vr (1, ⟨"GasTown$Sky", "dayOf", "(I)I"⟩, prog_10_method_2_code, 1, some .int, mc_Sky_dayOf) = true := by decide +kernel
theorem mv_Sky_hourlyWant : mm_vr (1, ⟨"GasTown$Sky", "hourlyWant", "(II)I"⟩, prog_10_method_6_code, 2, some .int, mc_Sky_hourlyWant) = true := by decide +kernel
theorem mv_Sky_fogIn : mm_vr (1, ⟨"GasTown$Sky", "fogIn", "(I)I"⟩, prog_10_method_4_code, 3, some .int, mc_Sky_fogIn) = true := by decide +kernel
theorem mv_Sky_lampBurns : mm_vr (1, ⟨"GasTown$Sky", "lampBurns", "(II)Z"⟩, prog_10_method_7_code, 4, some .boolean, mc_Sky_lampBurns) = true := by decide +kernel
theorem mv_Net_settle : mm_vr (4, ⟨"GasTown$Net", "settle", "(LGasTown$Things;[I)Z"⟩, prog_7_method_5_code, 6, some .boolean, mc_Net_settle) = true := by decide +kernel
theorem mv_Things_takeWants : mm_vr (3, ⟨"GasTown$Things", "takeWants", "()V"⟩, prog_11_method_8_code, 2, none, mc_Things_takeWants) = true := by decide +kernel
theorem mv_Net_gatherFlow : mm_vr (4, ⟨"GasTown$Net", "gatherFlow", "(LGasTown$Things;)V"⟩, prog_7_method_6_code, 4, none, mc_Net_gatherFlow) = true := by decide +kernel
theorem mv_Net_press : mm_vr (4, ⟨"GasTown$Net", "press", "([I)Z"⟩, prog_7_method_7_code, 6, some .boolean, mc_Net_press) = true := by decide +kernel
theorem mv_Net_pressureBehind : mm_vr (4, ⟨"GasTown$Net", "pressureBehind", "(II)I"⟩, prog_7_method_8_code, 4, some .int, mc_Net_pressureBehind) = true := by decide +kernel
theorem mv_Things_takeBy : mm_vr (3, ⟨"GasTown$Things", "takeBy", "([I)V"⟩, prog_11_method_10_code, 6, none, mc_Things_takeBy) = true := by decide +kernel
theorem mv_Things_usedInAll : mm_vr (3, ⟨"GasTown$Things", "usedInAll", "()I"⟩, prog_11_method_11_code, 3, some .int, mc_Things_usedInAll) = true := by decide +kernel
theorem mv_Things_takeNothing : mm_vr (3, ⟨"GasTown$Things", "takeNothing", "()V"⟩, prog_11_method_9_code, 2, none, mc_Things_takeNothing) = true := by decide +kernel
theorem mv_Things_keep : mm_vr (3, ⟨"GasTown$Things", "keep", "()V"⟩, prog_11_method_12_code, 2, none, mc_Things_keep) = true := by decide +kernel
theorem mv_Net_keep : mm_vr (4, ⟨"GasTown$Net", "keep", "(LGasTown$Things;Z)V"⟩, prog_7_method_9_code, 4, none, mc_Net_keep) = true := by decide +kernel
theorem mv_G_countFails : mm_vr (0, ⟨"GasTown", "countFails", "()V"⟩, prog_1_method_19_code, 2, none, mc_G_countFails) = true := by decide +kernel
theorem mv_Laws_judge : mm_vr (5, ⟨"GasTown$Laws", "judge", "(IIILGasTown$Sky;)V"⟩, prog_6_method_4_code, 5, none, mc_Laws_judge) = true := by decide +kernel
theorem mv_Laws_weigh : mm_vr (5, ⟨"GasTown$Laws", "weigh", "(I)V"⟩, prog_6_method_5_code, 5, none, mc_Laws_weigh) = true := by decide +kernel
theorem mv_Act_tells : mm_vr (6, ⟨"GasTown$Act", "tells", "(I[I)Z"⟩, prog_2_method_7_code, 7, some .boolean, mc_Act_tells) = true := by decide +kernel
theorem mv_Act_valueOf : mm_vr (6, ⟨"GasTown$Act", "valueOf", "(II[I)I"⟩, prog_2_method_8_code, 7, some .int, mc_Act_valueOf) = true := by decide +kernel
theorem mv_Act_isLeaf : mm_vr (6, ⟨"GasTown$Act", "isLeaf", "(I)Z"⟩, prog_2_method_9_code, 1, some .boolean, mc_Act_isLeaf) = true := by decide +kernel
theorem mv_Act_leaf : mm_vr (6, ⟨"GasTown$Act", "leaf", "(II[I)I"⟩, prog_2_method_10_code, 3, some .int, mc_Act_leaf) = true := by decide +kernel
theorem mv_Act_joined : mm_vr (6, ⟨"GasTown$Act", "joined", "(III)I"⟩, prog_2_method_11_code, 3, some .int, mc_Act_joined) = true := by decide +kernel
theorem mv_Things_anyWantsAt : mm_vr (3, ⟨"GasTown$Things", "anyWantsAt", "(I)Z"⟩, prog_11_method_13_code, 3, some .boolean, mc_Things_anyWantsAt) = true := by decide +kernel
theorem mv_G_read : mm_vr (0, ⟨"GasTown", "read", "(I)I"⟩, prog_1_method_20_code, 2, some .int, mc_G_read) = true := by decide +kernel
theorem mv_Books_note : mm_vr (8, ⟨"GasTown$Books", "note", "(IIIZ)I"⟩, prog_3_method_2_code, 7, some .int, mc_Books_note) = true := by decide +kernel
theorem mv_G_right : mm_vr (0, ⟨"GasTown", "right", "(III)Z"⟩, prog_1_method_21_code, 5, some .boolean, mc_G_right) = true := by decide +kernel
theorem mv_Books_readingOf : mm_vr (8, ⟨"GasTown$Books", "readingOf", "(II)I"⟩, prog_3_method_3_code, 4, some .int, mc_Books_readingOf) = true := by decide +kernel
theorem mv_Books_correct : mm_vr (8, ⟨"GasTown$Books", "correct", "(III)Z"⟩, prog_3_method_4_code, 4, some .boolean, mc_Books_correct) = true := by decide +kernel
theorem mv_G_bill : mm_vr (0, ⟨"GasTown", "bill", "(IIII)J"⟩, prog_1_method_22_code, 6, some .long, mc_G_bill) = true := by decide +kernel
theorem mv_Books_know : mm_vr (8, ⟨"GasTown$Books", "know", "(I)V"⟩, prog_3_method_5_code, 4, none, mc_Books_know) = true := by decide +kernel
theorem mv_Books_unitsOf : mm_vr (8, ⟨"GasTown$Books", "unitsOf", "(I)J"⟩, prog_3_method_6_code, 5, some .long, mc_Books_unitsOf) = true := by decide +kernel
theorem mv_G_billOf : mm_vr (0, ⟨"GasTown", "billOf", "(I)J"⟩, prog_1_method_23_code, 2, some .long, mc_G_billOf) = true := by decide +kernel
theorem mv_G_sell : mm_vr (0, ⟨"GasTown", "sell", "(II)I"⟩, prog_1_method_24_code, 3, some .int, mc_G_sell) = true := by decide +kernel
theorem mv_G_feed : mm_vr (0, ⟨"GasTown", "feed", "(IIIII)I"⟩, prog_1_method_25_code, 6, some .int, mc_G_feed) = true := by decide +kernel
theorem mv_Laws_store : mm_vr (5, ⟨"GasTown$Laws", "store", "(I)V"⟩, prog_6_method_2_code, 3, none, mc_Laws_store) = true := by decide +kernel
theorem mv_G_end : mm_vr (0, ⟨"GasTown", "end", "(I)Z"⟩, prog_1_method_26_code, 2, some .boolean, mc_G_end) = true := by decide +kernel
theorem mv_G_act : mm_vr (0, ⟨"GasTown", "act", "(II)I"⟩, prog_1_method_27_code, 3, some .int, mc_G_act) = true := by decide +kernel
theorem mv_Laws_enact : mm_vr (5, ⟨"GasTown$Laws", "enact", "(II)I"⟩, prog_6_method_3_code, 4, some .int, mc_Laws_enact) = true := by decide +kernel
theorem mv_Parser_reads : mm_vr (7, ⟨"GasTown$Parser", "reads", "([II)Z"⟩, prog_9_method_2_code, 4, some .boolean, mc_Parser_reads) = true := by decide +kernel
theorem mv_Act_clear : mm_vr (6, ⟨"GasTown$Act", "clear", "()V"⟩, prog_2_method_2_code, 1, none, mc_Act_clear) = true := by decide +kernel
theorem mv_Parser_advance : mm_vr (7, ⟨"GasTown$Parser", "advance", "()V"⟩, prog_9_method_18_code, 2, none, mc_Parser_advance) = true := by decide +kernel
theorem mv_Parser_signAt : mm_vr (7, ⟨"GasTown$Parser", "signAt", "(I)I"⟩, prog_9_method_17_code, 2, some .int, mc_Parser_signAt) = true := by decide +kernel
theorem mv_Parser_isBlank : mm_vr (7, ⟨"GasTown$Parser", "isBlank", "(I)Z"⟩, prog_9_method_21_code, 1, some .boolean, mc_Parser_isBlank) = true := by decide +kernel
theorem mv_Parser_isLetter : mm_vr (7, ⟨"GasTown$Parser", "isLetter", "(I)Z"⟩, prog_9_method_22_code, 1, some .boolean, mc_Parser_isLetter) = true := by decide +kernel
theorem mv_Parser_readWord : mm_vr (7, ⟨"GasTown$Parser", "readWord", "()V"⟩, prog_9_method_19_code, 2, none, mc_Parser_readWord) = true := by decide +kernel
theorem mv_Parser_kindOfWord : mm_vr (7, ⟨"GasTown$Parser", "kindOfWord", "()I"⟩, prog_9_method_25_code, 1, some .int, mc_Parser_kindOfWord) = true := by decide +kernel
theorem mv_Parser_isWord : mm_vr (7, ⟨"GasTown$Parser", "isWord", "(Ljava/lang/String;)Z"⟩, prog_9_method_26_code, 3, some .boolean, mc_Parser_isWord) = true := by decide +kernel
theorem mv_Parser_isDigit : mm_vr (7, ⟨"GasTown$Parser", "isDigit", "(I)Z"⟩, prog_9_method_23_code, 1, some .boolean, mc_Parser_isDigit) = true := by decide +kernel
theorem mv_Parser_readNumber : mm_vr (7, ⟨"GasTown$Parser", "readNumber", "()V"⟩, prog_9_method_20_code, 2, none, mc_Parser_readNumber) = true := by decide +kernel
theorem mv_Parser_kindOfSign : mm_vr (7, ⟨"GasTown$Parser", "kindOfSign", "(I)I"⟩, prog_9_method_24_code, 1, some .int, mc_Parser_kindOfSign) = true := by decide +kernel
theorem mv_Parser_take : mm_vr (7, ⟨"GasTown$Parser", "take", "()V"⟩, prog_9_method_5_code, 1, none, mc_Parser_take) = true := by decide +kernel
theorem mv_Parser_takeSubject : mm_vr (7, ⟨"GasTown$Parser", "takeSubject", "()V"⟩, prog_9_method_6_code, 1, none, mc_Parser_takeSubject) = true := by decide +kernel
theorem mv_Parser_fail : mm_vr (7, ⟨"GasTown$Parser", "fail", "(I)V"⟩, prog_9_method_4_code, 2, none, mc_Parser_fail) = true := by decide +kernel
theorem mv_Act_beginLine : mm_vr (6, ⟨"GasTown$Act", "beginLine", "(I)V"⟩, prog_2_method_3_code, 2, none, mc_Act_beginLine) = true := by decide +kernel
theorem mv_Parser_takePart : mm_vr (7, ⟨"GasTown$Parser", "takePart", "()V"⟩, prog_9_method_7_code, 1, none, mc_Parser_takePart) = true := by decide +kernel
theorem mv_Act_emit : mm_vr (6, ⟨"GasTown$Act", "emit", "(II)V"⟩, prog_2_method_6_code, 3, none, mc_Act_emit) = true := by decide +kernel
theorem mv_Parser_takeDivisor : mm_vr (7, ⟨"GasTown$Parser", "takeDivisor", "()V"⟩, prog_9_method_8_code, 1, none, mc_Parser_takeDivisor) = true := by decide +kernel
theorem mv_Parser_takeTest : mm_vr (7, ⟨"GasTown$Parser", "takeTest", "()V"⟩, prog_9_method_9_code, 1, none, mc_Parser_takeTest) = true := by decide +kernel
theorem mv_Parser_putAside : mm_vr (7, ⟨"GasTown$Parser", "putAside", "()V"⟩, prog_9_method_12_code, 1, none, mc_Parser_putAside) = true := by decide +kernel
theorem mv_Parser_takeBehind : mm_vr (7, ⟨"GasTown$Parser", "takeBehind", "()V"⟩, prog_9_method_10_code, 2, none, mc_Parser_takeBehind) = true := by decide +kernel
theorem mv_Parser_operate : mm_vr (7, ⟨"GasTown$Parser", "operate", "(I)V"⟩, prog_9_method_11_code, 2, none, mc_Parser_operate) = true := by decide +kernel
theorem mv_Parser_rankOf : mm_vr (7, ⟨"GasTown$Parser", "rankOf", "(I)I"⟩, prog_9_method_16_code, 1, some .int, mc_Parser_rankOf) = true := by decide +kernel
theorem mv_Parser_unwind : mm_vr (7, ⟨"GasTown$Parser", "unwind", "(I)V"⟩, prog_9_method_13_code, 3, none, mc_Parser_unwind) = true := by decide +kernel
theorem mv_Parser_closeBracket : mm_vr (7, ⟨"GasTown$Parser", "closeBracket", "()V"⟩, prog_9_method_14_code, 1, none, mc_Parser_closeBracket) = true := by decide +kernel
theorem mv_Act_beginCondition : mm_vr (6, ⟨"GasTown$Act", "beginCondition", "()V"⟩, prog_2_method_4_code, 1, none, mc_Act_beginCondition) = true := by decide +kernel
theorem mv_Parser_closeLine : mm_vr (7, ⟨"GasTown$Parser", "closeLine", "()V"⟩, prog_9_method_15_code, 1, none, mc_Parser_closeLine) = true := by decide +kernel
theorem mv_Act_closeLine : mm_vr (6, ⟨"GasTown$Act", "closeLine", "()V"⟩, prog_2_method_5_code, 1, none, mc_Act_closeLine) = true := by decide +kernel
theorem mv_Parser_swap : mm_vr (7, ⟨"GasTown$Parser", "swap", "(LGasTown$Act;)LGasTown$Act;"⟩, prog_9_method_3_code, 3, some (.object "GasTown$Act"), mc_Parser_swap) = true := by decide +kernel
theorem mv_G_fault : mm_vr (0, ⟨"GasTown", "fault", "(I)I"⟩, prog_1_method_28_code, 2, some .int, mc_G_fault) = true := by decide +kernel
theorem mv_G_due : mm_vr (0, ⟨"GasTown", "due", "(IIII)I"⟩, prog_1_method_29_code, 5, some .int, mc_G_due) = true := by decide +kernel
theorem mv_G_tries : mm_vr (0, ⟨"GasTown", "tries", "(I)I"⟩, prog_1_method_30_code, 3, some .int, mc_G_tries) = true := by decide +kernel
theorem mv_G_share : mm_vr (0, ⟨"GasTown", "share", "(I)J"⟩, prog_1_method_31_code, 2, some .long, mc_G_share) = true := by decide +kernel
theorem mv_G_gain : mm_vr (0, ⟨"GasTown", "gain", "()J"⟩, prog_1_method_32_code, 4, some .long, mc_G_gain) = true := by decide +kernel
theorem mv_G_mayBePaid : mm_vr (0, ⟨"GasTown", "mayBePaid", "()J"⟩, prog_1_method_33_code, 1, some .long, mc_G_mayBePaid) = true := by decide +kernel
theorem mv_G_at : mm_vr (0, ⟨"GasTown", "at", "(II)I"⟩, prog_1_method_34_code, 3, some .int, mc_G_at) = true := by decide +kernel
theorem mv_G_of : mm_vr (0, ⟨"GasTown", "of", "(II)I"⟩, prog_1_method_35_code, 3, some .int, mc_G_of) = true := by decide +kernel
theorem mv_G_why : mm_vr (0, ⟨"GasTown", "why", "(II)I"⟩, prog_1_method_36_code, 4, some .int, mc_G_why) = true := by decide +kernel
theorem mv_Net_firstWetOnWay : mm_vr (4, ⟨"GasTown$Net", "firstWetOnWay", "(I)I"⟩, prog_7_method_11_code, 5, some .int, mc_Net_firstWetOnWay) = true := by decide +kernel
theorem mv_Net_walkTo : mm_vr (4, ⟨"GasTown$Net", "walkTo", "(I)I"⟩, prog_7_method_10_code, 5, some .int, mc_Net_walkTo) = true := by decide +kernel
theorem mv_Net_greatestLossOnWay : mm_vr (4, ⟨"GasTown$Net", "greatestLossOnWay", "(I)I"⟩, prog_7_method_12_code, 8, some .int, mc_Net_greatestLossOnWay) = true := by decide +kernel
theorem mv_G_best : mm_vr (0, ⟨"GasTown", "best", "(III)I"⟩, prog_1_method_37_code, 4, some .int, mc_G_best) = true := by decide +kernel
theorem mv_Night_foresee : mm_vr (9, ⟨"GasTown$Night", "foresee", "(ILGasTown$Works;LGasTown$Things;LGasTown$Sky;)V"⟩, prog_8_method_3_code, 6, none, mc_Night_foresee) = true := by decide +kernel
theorem mv_Things_allWants : mm_vr (3, ⟨"GasTown$Things", "allWants", "(ILGasTown$Sky;)I"⟩, prog_11_method_6_code, 5, some .int, mc_Things_allWants) = true := by decide +kernel
theorem mv_Night_plan : mm_vr (9, ⟨"GasTown$Night", "plan", "(LGasTown$Works;II)Z"⟩, prog_8_method_4_code, 6, some .boolean, mc_Night_plan) = true := by decide +kernel
theorem mv_Works_coldLater : mm_vr (2, ⟨"GasTown$Works", "coldLater", "(I)I"⟩, prog_12_method_10_code, 4, some .int, mc_Works_coldLater) = true := by decide +kernel
theorem mv_Night_seek : mm_vr (9, ⟨"GasTown$Night", "seek", "(LGasTown$Night;III)V"⟩, prog_8_method_5_code, 7, none, mc_Night_seek) = true := by decide +kernel
theorem mv_Night_keepTried : mm_vr (9, ⟨"GasTown$Night", "keepTried", "(I)V"⟩, prog_8_method_6_code, 3, none, mc_Night_keepTried) = true := by decide +kernel
theorem mv_Night_mostAt : mm_vr (9, ⟨"GasTown$Night", "mostAt", "(II)I"⟩, prog_8_method_7_code, 4, some .int, mc_Night_mostAt) = true := by decide +kernel
theorem mv_Night_stillBurning : mm_vr (9, ⟨"GasTown$Night", "stillBurning", "(I)I"⟩, prog_8_method_8_code, 4, some .int, mc_Night_stillBurning) = true := by decide +kernel
theorem mv_Night_levelBehind : mm_vr (9, ⟨"GasTown$Night", "levelBehind", "(II)I"⟩, prog_8_method_9_code, 5, some .int, mc_Night_levelBehind) = true := by decide +kernel
theorem mv_Night_gasOfPlan : mm_vr (9, ⟨"GasTown$Night", "gasOfPlan", "(II)I"⟩, prog_8_method_10_code, 6, some .int, mc_Night_gasOfPlan) = true := by decide +kernel
theorem mv_G_last : mm_vr (0, ⟨"GasTown", "last", "()I"⟩, prog_1_method_38_code, 1, some .int, mc_G_last) = true := by decide +kernel
theorem mv_Night_firstShort : mm_vr (9, ⟨"GasTown$Night", "firstShort", "(ILGasTown$Works;LGasTown$Things;LGasTown$Sky;)I"⟩, prog_8_method_2_code, 7, some .int, mc_Night_firstShort) = true := by decide +kernel
theorem mv_G_sees : mm_vr (0, ⟨"GasTown", "sees", "(II)Z"⟩, prog_1_method_39_code, 3, some .boolean, mc_G_sees) = true := by decide +kernel
theorem mv_G_find : mm_vr (0, ⟨"GasTown", "find", "(I)I"⟩, prog_1_method_40_code, 2, some .int, mc_G_find) = true := by decide +kernel
theorem mv_Eyes_explain : mm_vr (10, ⟨"GasTown$Eyes", "explain", "(LGasTown$Net;)Z"⟩, prog_4_method_2_code, 4, some .boolean, mc_Eyes_explain) = true := by decide +kernel
theorem mv_Eyes_weigh : mm_vr (10, ⟨"GasTown$Eyes", "weigh", "(I)V"⟩, prog_4_method_3_code, 4, none, mc_Eyes_weigh) = true := by decide +kernel
theorem mv_Eyes_reach : mm_vr (10, ⟨"GasTown$Eyes", "reach", "(LGasTown$Net;)V"⟩, prog_4_method_4_code, 5, none, mc_Eyes_reach) = true := by decide +kernel
theorem mv_Eyes_fewest : mm_vr (10, ⟨"GasTown$Eyes", "fewest", "()I"⟩, prog_4_method_5_code, 1, some .int, mc_Eyes_fewest) = true := by decide +kernel
theorem mv_Eyes_howManySets : mm_vr (10, ⟨"GasTown$Eyes", "howManySets", "()I"⟩, prog_4_method_6_code, 1, some .int, mc_Eyes_howManySets) = true := by decide +kernel
theorem mv_Eyes_sharePipe : mm_vr (10, ⟨"GasTown$Eyes", "sharePipe", "(I)I"⟩, prog_4_method_7_code, 2, some .int, mc_Eyes_sharePipe) = true := by decide +kernel
theorem mv_G_work : mm_vr (0, ⟨"GasTown", "work", "(III)I"⟩, prog_1_method_41_code, 4, some .int, mc_G_work) = true := by decide +kernel
theorem mv_Improvements_offer : mm_vr (11, ⟨"GasTown$Improvements", "offer", "(III)I"⟩, prog_5_method_2_code, 4, some .int, mc_Improvements_offer) = true := by decide +kernel
theorem mv_G_choice : mm_vr (0, ⟨"GasTown", "choice", "(III)I"⟩, prog_1_method_42_code, 4, some .int, mc_G_choice) = true := by decide +kernel
theorem mv_Improvements_choose : mm_vr (11, ⟨"GasTown$Improvements", "choose", "(ILGasTown$Net;LGasTown$Things;)V"⟩, prog_5_method_3_code, 7, none, mc_Improvements_choose) = true := by decide +kernel
theorem mv_Improvements_priceOf : mm_vr (11, ⟨"GasTown$Improvements", "priceOf", "(I)I"⟩, prog_5_method_4_code, 4, some .int, mc_Improvements_priceOf) = true := by decide +kernel
theorem mv_Improvements_putIn : mm_vr (11, ⟨"GasTown$Improvements", "putIn", "(ILGasTown$Net;)V"⟩, prog_5_method_5_code, 5, none, mc_Improvements_putIn) = true := by decide +kernel
theorem mv_Things_burnFully : mm_vr (3, ⟨"GasTown$Things", "burnFully", "([I)I"⟩, prog_11_method_14_code, 6, some .int, mc_Things_burnFully) = true := by decide +kernel
theorem mv_G_look : mm_vr (0, ⟨"GasTown", "look", "(I)J"⟩, prog_1_method_43_code, 2, some .long, mc_G_look) = true := by decide +kernel
theorem mv_Works_burning : mm_vr (2, ⟨"GasTown$Works", "burning", "()I"⟩, prog_12_method_9_code, 3, some .int, mc_Works_burning) = true := by decide +kernel
