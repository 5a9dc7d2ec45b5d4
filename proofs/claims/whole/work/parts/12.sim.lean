/-! PUTS, ARRAYS, NEW CELLS. -/
section SIM3
variable {p : Program} {l : Launch} {e : Env} {R : Room} {s : State} {m : MethodId} {args : Array Value} {below : List Frame} {meth : Method} {c : Code} {Q : State → Prop} {cc : ByteArray}
variable {g : mm_G0} {X : Nat → Nat × (Nat → Int32)} {Y : Nat → List Int32} {nL n0 s0 o : Nat} {pc : Nat} {ls : List (Option Value)} {st r : List Value} {σ : mm_S}
theorem mm_tyc_use {d : Option FieldType} {n : Nat} (h : mm_tyc d = n) : (n = 0 → d = some .int) ∧ (n = 1 → d = some .long) ∧ (n = 3 → d = some .boolean) ∧ (n = 2 → (∃ C, d = some (.object C)) ∨ ∃ t, d = some (.array t)) := by
  subst h
  cases d with
  | none => simp [mm_tyc]
  | some t => cases t <;> simp [mm_tyc]
theorem mm_bit_use {x : Int32} (h : mm_bit x = true) : x = 0 ∨ x = 1 := by
  unfold mm_bit at h
  rw [Bool.or_eq_true] at h
  rcases h with h | h
  · exact Or.inl (of_decide_eq_true h)
  · exact Or.inr (of_decide_eq_true h)
theorem mg_putI (F : mm_Fx g X Y p s m args c cc nL o n0) {i a b x : Nat} {hini : Bool} (hin2 : hini = true → meth.name = "<init>") (hd : decode cc pc = .ok (.putfield i, 3)) (hf : mm_fok o i a b = true) (hfin : (match (mm_cls[a]?).map (fun q => (q.2.1 b).2.2.2) with | some true => 1 | _ => 0) = 1 → hini = true ∧ o = a) (ho : mm_obj σ.1 x a = true) {y : Int32} (hk0 : mm_ft a b = 0) (hk : mm_G g nL n0 s0 p l e R s m args below meth c Q (pc + 3, ls, r, mm_setI σ x b y)) : mm_G g nL n0 s0 p l e R s m args below meth c Q (pc, ls, .int y :: .ref x :: r, σ) := by
  refine mg_put F hini hin2 (w := .int y) (v := .int y) (τ := mm_setI σ x b y) hd hf hfin ho rfl (fun T hT => ⟨.int, (mm_tyc_use hT).1 hk0, rfl, rfl⟩) rfl mm_offI ?_ ?_ hk
  · rw [hk0]; simp [mm_fv, mm_setI]
  · intro j hj t
    simp [mm_fv, mm_setI, hj]
theorem mg_putZ (F : mm_Fx g X Y p s m args c cc nL o n0) {i a b x : Nat} {hini : Bool} (hin2 : hini = true → meth.name = "<init>") (hd : decode cc pc = .ok (.putfield i, 3)) (hf : mm_fok o i a b = true) (hfin : (match (mm_cls[a]?).map (fun q => (q.2.1 b).2.2.2) with | some true => 1 | _ => 0) = 1 → hini = true ∧ o = a) (ho : mm_obj σ.1 x a = true) {y : Int32} (hk0 : mm_ft a b = 3) (hy : mm_bit y = true) (hk : mm_G g nL n0 s0 p l e R s m args below meth c Q (pc + 3, ls, r, mm_setI σ x b y)) : mm_G g nL n0 s0 p l e R s m args below meth c Q (pc, ls, .int y :: .ref x :: r, σ) := by
  refine mg_put F hini hin2 (w := .int y) (v := .int y) (τ := mm_setI σ x b y) hd hf hfin ho rfl (fun T hT => ⟨.boolean, (mm_tyc_use hT).2.2.1 hk0, ?_⟩) rfl mm_offI ?_ ?_ hk
  · rcases mm_bit_use hy with rfl | rfl <;> exact ⟨by decide +kernel, by decide +kernel⟩
  · rw [hk0]; simp [mm_fv, mm_setI]
  · intro j hj t
    simp [mm_fv, mm_setI, hj]
theorem mg_putL (F : mm_Fx g X Y p s m args c cc nL o n0) {i a b x : Nat} {hini : Bool} (hin2 : hini = true → meth.name = "<init>") (hd : decode cc pc = .ok (.putfield i, 3)) (hf : mm_fok o i a b = true) (hfin : (match (mm_cls[a]?).map (fun q => (q.2.1 b).2.2.2) with | some true => 1 | _ => 0) = 1 → hini = true ∧ o = a) (ho : mm_obj σ.1 x a = true) {y : Int64} (hk0 : mm_ft a b = 1) (hk : mm_G g nL n0 s0 p l e R s m args below meth c Q (pc + 3, ls, r, mm_setL σ x b y)) : mm_G g nL n0 s0 p l e R s m args below meth c Q (pc, ls, .long y :: .ref x :: r, σ) := by
  refine mg_put F hini hin2 (w := .long y) (v := .long y) (τ := mm_setL σ x b y) hd hf hfin ho rfl (fun T hT => ⟨.long, (mm_tyc_use hT).2.1 hk0, rfl, rfl⟩) rfl mm_offL ?_ ?_ hk
  · rw [hk0]; simp [mm_fv, mm_setL]
  · intro j hj t
    simp [mm_fv, mm_setL, hj]
theorem mg_putR (F : mm_Fx g X Y p s m args c cc nL o n0) {i a b x : Nat} {hini : Bool} (hin2 : hini = true → meth.name = "<init>") (hd : decode cc pc = .ok (.putfield i, 3)) (hf : mm_fok o i a b = true) (hfin : (match (mm_cls[a]?).map (fun q => (q.2.1 b).2.2.2) with | some true => 1 | _ => 0) = 1 → hini = true ∧ o = a) (ho : mm_obj σ.1 x a = true) {y : Nat} (hk0 : mm_ft a b = 2) (hk : mm_G g nL n0 s0 p l e R s m args below meth c Q (pc + 3, ls, r, mm_setR σ x b (some y))) : mm_G g nL n0 s0 p l e R s m args below meth c Q (pc, ls, .ref y :: .ref x :: r, σ) := by
  refine mg_put F hini hin2 (w := .ref y) (v := .ref (mm_ad g y)) (τ := mm_setR σ x b (some y)) hd hf hfin ho rfl (fun T hT => ?_) rfl mm_offR ?_ ?_ hk
  · rcases (mm_tyc_use hT).2.2.2 hk0 with ⟨C, h⟩ | ⟨t, h⟩ <;> exact ⟨_, h, rfl, rfl⟩
  · rw [hk0]; simp [mm_fv, mm_setR, va_rf]
  · intro j hj t
    simp [mm_fv, mm_setR, hj]
theorem mg_iaload (F : mm_Fx g X Y p s m args c cc nL o n0) {i : Int32} {x n : Nat} (hd : decode cc pc = .ok (.iaload, 1)) (ha : mm_arr σ.1 x 0 = some n) (hi : mm_inb i n = true) (hk : mm_G g nL n0 s0 p l e R s m args below meth c Q (pc + 1, ls, .int (σ.2.1 x i.toNatClampNeg) :: r, σ)) : mm_G g nL n0 s0 p l e R s m args below meth c Q (pc, ls, .int i :: .ref x :: r, σ) := by
  intro la H locs hl hH hS z1 z2
  obtain ⟨hx, hkd⟩ := mm_arr_use ha
  have hw := hk la H locs hl hH hS z1 z2
  simp only [List.map_cons, mm_vv_in hx]
  exact va_iald F.1 F.2.1 F.2.2.2.2.2.1.1 hH x 0 (mm_ws_get (g := g) hkd) rfl (mm_inb_use hi) hd hw
theorem mg_baload (F : mm_Fx g X Y p s m args c cc nL o n0) {i : Int32} {x n : Nat} (hd : decode cc pc = .ok (.baload, 1)) (ha : mm_arr σ.1 x 2 = some n) (hi : mm_inb i n = true) (hk : mm_G g nL n0 s0 p l e R s m args below meth c Q (pc + 1, ls, .int (σ.2.1 x i.toNatClampNeg) :: r, σ)) : mm_G g nL n0 s0 p l e R s m args below meth c Q (pc, ls, .int i :: .ref x :: r, σ) := by
  intro la H locs hl hH hS z1 z2
  obtain ⟨hx, hkd⟩ := mm_arr_use ha
  have hw := hk la H locs hl hH hS z1 z2
  simp only [List.map_cons, mm_vv_in hx]
  exact va_zald F.1 F.2.1 F.2.2.2.2.2.1.1 hH x 2 (mm_ws_get (g := g) hkd) rfl (mm_inb_use hi) hd hw
theorem mg_laload (F : mm_Fx g X Y p s m args c cc nL o n0) {i : Int32} {x n : Nat} (hd : decode cc pc = .ok (.laload, 1)) (ha : mm_arr σ.1 x 1 = some n) (hi : mm_inb i n = true) (hk : mm_G g nL n0 s0 p l e R s m args below meth c Q (pc + 1, ls, .long (σ.2.2.1 x i.toNatClampNeg) :: r, σ)) : mm_G g nL n0 s0 p l e R s m args below meth c Q (pc, ls, .int i :: .ref x :: r, σ) := by
  intro la H locs hl hH hS z1 z2
  obtain ⟨hx, hkd⟩ := mm_arr_use ha
  have hw := hk la H locs hl hH hS z1 z2
  simp only [List.map_cons, mm_vv_in hx]
  exact va_lald F.1 F.2.1 F.2.2.2.2.2.1.1 hH x 1 (mm_ws_get (g := g) hkd) rfl (mm_inb_use hi) hd hw
theorem mg_aaload (F : mm_Fx g X Y p s m args c cc nL o n0) {i : Int32} {x n : Nat} (hd : decode cc pc = .ok (.aaload, 1)) (ha : mm_arr σ.1 x 3 = some n) (hi : mm_inb i n = true) (hk : mm_G g nL n0 s0 p l e R s m args below meth c Q (pc + 1, ls, mm_rv (σ.2.2.2 x i.toNatClampNeg) :: r, σ)) : mm_G g nL n0 s0 p l e R s m args below meth c Q (pc, ls, .int i :: .ref x :: r, σ) := by
  intro la H locs hl hH hS z1 z2
  obtain ⟨hx, hkd⟩ := mm_arr_use ha
  have hw := hk la H locs hl hH hS z1 z2
  simp only [List.map_cons, mm_rv_vv] at hw
  simp only [List.map_cons, mm_vv_in hx]
  exact va_aldq F.1 F.2.1 F.2.2.2.2.2.1.1 hH x 3 (mm_ws_get (g := g) hkd) rfl (mm_inb_use hi) hd hw
theorem mg_xaload (F : mm_Fx g X Y p s m args c cc nL o n0) {i : Int32} {x : Nat} (hd : decode cc pc = .ok (.iaload, 1)) (hx1 : 1000000 ≤ x) (hx2 : x < 1000002) (hi : mm_inb i (X (x - 1000000)).1 = true) (hk : mm_G g nL n0 s0 p l e R s m args below meth c Q (pc + 1, ls, .int ((X (x - 1000000)).2 i.toNatClampNeg) :: r, σ)) : mm_G g nL n0 s0 p l e R s m args below meth c Q (pc, ls, .int i :: .ref x :: r, σ) := by
  intro la H locs hl hH hS z1 z2
  have hw := hk la H locs hl hH hS z1 z2
  have h1 := F.2.2.2.2.2.1.2.2.1 (x - 1000000) (by omega)
  have e : mm_vv g (.ref x) = .ref (mm_ex g (1000000 + (x - 1000000))) := by
    simp only [mm_vv, mm_ad]
    rw [if_neg (by omega), show 1000000 + (x - 1000000) = x by omega]
  simp only [List.map_cons, e]
  exact va_ti F.1 F.2.1 h1 hS (mm_inb_use hi) rfl hd hw
theorem mg_xlen (F : mm_Fx g X Y p s m args c cc nL o n0) {x : Nat} (hd : decode cc pc = .ok (.arraylength, 1)) (hx1 : 1000000 ≤ x) (hx2 : x < 1000002) (hk : mm_G g nL n0 s0 p l e R s m args below meth c Q (pc + 1, ls, .int (Int32.ofNat (X (x - 1000000)).1) :: r, σ)) : mm_G g nL n0 s0 p l e R s m args below meth c Q (pc, ls, .ref x :: r, σ) := by
  intro la H locs hl hH hS z1 z2
  have hw := hk la H locs hl hH hS z1 z2
  have h1 := F.2.2.2.2.2.1.2.2.1 (x - 1000000) (by omega)
  have e : mm_vv g (.ref x) = .ref (mm_ex g (1000000 + (x - 1000000))) := by
    simp only [mm_vv, mm_ad]
    rw [if_neg (by omega), show 1000000 + (x - 1000000) = x by omega]
  simp only [List.map_cons, e]
  exact va_tlen F.1 F.2.1 h1 hS rfl hd hw
theorem mg_alen (F : mm_Fx g X Y p s m args c cc nL o n0) {x n t : Nat} (hd : decode cc pc = .ok (.arraylength, 1)) (hx : x < 1000000) (hkd : mm_kd σ.1 x = some (.inr (t, n))) (hk : mm_G g nL n0 s0 p l e R s m args below meth c Q (pc + 1, ls, .int (Int32.ofNat n) :: r, σ)) : mm_G g nL n0 s0 p l e R s m args below meth c Q (pc, ls, .ref x :: r, σ) := by
  intro la H locs hl hH hS z1 z2
  have hw := hk la H locs hl hH hS z1 z2
  simp only [List.map_cons, mm_vv_in hx]
  have hat := mm_ws_get (g := g) hkd
  match t, hat with
  | 0, hat => exact va_alen F.1 F.2.1 F.2.2.2.2.2.1.1 hH x 0 (ty := .int) hat rfl rfl hd hw
  | 1, hat => exact va_alen F.1 F.2.1 F.2.2.2.2.2.1.1 hH x 1 (ty := .long) hat rfl rfl hd hw
  | 2, hat => exact va_alen F.1 F.2.1 F.2.2.2.2.2.1.1 hH x 2 (ty := .boolean) hat rfl rfl hd hw
  | t + 3, hat => exact va_alen F.1 F.2.1 F.2.2.2.2.2.1.1 hH x 3 (ty := .object "GasTown$Act") hat rfl rfl hd hw
theorem mg_iastore (F : mm_Fx g X Y p s m args c cc nL o n0) {i : Int32} {y : Int32} {x n : Nat} (hd : decode cc pc = .ok (.iastore, 1)) (ha : mm_arr σ.1 x 0 = some n) (hi : mm_inb i n = true) (hk : mm_G g nL n0 s0 p l e R s m args below meth c Q (pc + 1, ls, r, mm_setI σ x i.toNatClampNeg y)) : mm_G g nL n0 s0 p l e R s m args below meth c Q (pc, ls, .int y :: .int i :: .ref x :: r, σ) := by
  intro la H locs hl hH hS z1 z2
  obtain ⟨hx, hkd⟩ := mm_arr_use ha
  simp only [List.map_cons, mm_vv_in hx]
  have hfun : upd (σ.2.1 x) i.toNatClampNeg y = (mm_setI σ x i.toNatClampNeg y).2.1 x := by
    funext b
    by_cases hb : b = i.toNatClampNeg
    · subst hb
      simp [mm_setI, upd, vp_updL]
    · simp [mm_setI, upd, vp_updL, hb]
  refine va_iast F.1 F.2.1 F.2.2.2.2.2.1.1 hH (mm_wD g σ) hS x 0 (mm_ws_get (g := g) hkd) rfl (mm_inb_use hi) hd (fun H1 locs1 hP hD hS1 => ?_)
  rw [hfun] at hP
  have hset : (mm_ws g σ).set x (mm_B g + x, mm_ce g (mm_setI σ x i.toNatClampNeg y) x (.inr (0, n))) = mm_ws g (mm_setI σ x i.toNatClampNeg y) := mm_ws_set rfl hkd mm_offI
  have hP2 : va_P (mm_D g) mm_cls (mm_ws g (mm_setI σ x i.toNatClampNeg y)) H1 := by rw [← hset]; exact hP
  exact hk la H1 locs1 hl hP2 hS1 z1 z2
theorem mg_lastore (F : mm_Fx g X Y p s m args c cc nL o n0) {i : Int32} {y : Int64} {x n : Nat} (hd : decode cc pc = .ok (.lastore, 1)) (ha : mm_arr σ.1 x 1 = some n) (hi : mm_inb i n = true) (hk : mm_G g nL n0 s0 p l e R s m args below meth c Q (pc + 1, ls, r, mm_setL σ x i.toNatClampNeg y)) : mm_G g nL n0 s0 p l e R s m args below meth c Q (pc, ls, .long y :: .int i :: .ref x :: r, σ) := by
  intro la H locs hl hH hS z1 z2
  obtain ⟨hx, hkd⟩ := mm_arr_use ha
  simp only [List.map_cons, mm_vv_in hx]
  have hfun : vp_updL (σ.2.2.1 x) i.toNatClampNeg y = (mm_setL σ x i.toNatClampNeg y).2.2.1 x := by
    funext b
    by_cases hb : b = i.toNatClampNeg
    · subst hb
      simp [mm_setL, upd, vp_updL]
    · simp [mm_setL, upd, vp_updL, hb]
  refine va_last F.1 F.2.1 F.2.2.2.2.2.1.1 hH (mm_wD g σ) hS x 1 (mm_ws_get (g := g) hkd) rfl (mm_inb_use hi) hd (fun H1 locs1 hP hD hS1 => ?_)
  rw [hfun] at hP
  have hset : (mm_ws g σ).set x (mm_B g + x, mm_ce g (mm_setL σ x i.toNatClampNeg y) x (.inr (1, n))) = mm_ws g (mm_setL σ x i.toNatClampNeg y) := mm_ws_set rfl hkd mm_offL
  have hP2 : va_P (mm_D g) mm_cls (mm_ws g (mm_setL σ x i.toNatClampNeg y)) H1 := by rw [← hset]; exact hP
  exact hk la H1 locs1 hl hP2 hS1 z1 z2
theorem mg_bastore (F : mm_Fx g X Y p s m args c cc nL o n0) {i : Int32} {y : Int32} {x n : Nat} (hd : decode cc pc = .ok (.bastore, 1)) (ha : mm_arr σ.1 x 2 = some n) (hi : mm_inb i n = true) (hy : mm_bit y = true) (hk : mm_G g nL n0 s0 p l e R s m args below meth c Q (pc + 1, ls, r, mm_setI σ x i.toNatClampNeg y)) : mm_G g nL n0 s0 p l e R s m args below meth c Q (pc, ls, .int y :: .int i :: .ref x :: r, σ) := by
  intro la H locs hl hH hS z1 z2
  obtain ⟨hx, hkd⟩ := mm_arr_use ha
  simp only [List.map_cons, mm_vv_in hx]
  have hbit : vp_nar .boolean y = y := by rcases mm_bit_use hy with rfl | rfl <;> decide +kernel
  have hfun : upd (σ.2.1 x) i.toNatClampNeg (vp_nar .boolean y) = (mm_setI σ x i.toNatClampNeg y).2.1 x := by
    funext b
    by_cases hb : b = i.toNatClampNeg
    · subst hb
      simp [mm_setI, upd, vp_updL, hbit]
    · simp [mm_setI, upd, vp_updL, hb]
  refine va_zast F.1 F.2.1 F.2.2.2.2.2.1.1 hH (mm_wD g σ) hS x 2 (mm_ws_get (g := g) hkd) rfl (mm_inb_use hi) hd (fun H1 locs1 hP hD hS1 => ?_)
  rw [hfun] at hP
  have hset : (mm_ws g σ).set x (mm_B g + x, mm_ce g (mm_setI σ x i.toNatClampNeg y) x (.inr (2, n))) = mm_ws g (mm_setI σ x i.toNatClampNeg y) := mm_ws_set rfl hkd mm_offI
  have hP2 : va_P (mm_D g) mm_cls (mm_ws g (mm_setI σ x i.toNatClampNeg y)) H1 := by rw [← hset]; exact hP
  exact hk la H1 locs1 hl hP2 hS1 z1 z2
theorem mg_aastore (F : mm_Fx g X Y p s m args c cc nL o n0) {i : Int32} {x y n : Nat} (hd : decode cc pc = .ok (.aastore, 1)) (hob : mm_obj σ.1 y 6 = true) (ha : mm_arr σ.1 x 3 = some n) (hi : mm_inb i n = true) (hk : mm_G g nL n0 s0 p l e R s m args below meth c Q (pc + 1, ls, r, mm_setR σ x i.toNatClampNeg (some y))) : mm_G g nL n0 s0 p l e R s m args below meth c Q (pc, ls, .ref y :: .int i :: .ref x :: r, σ) := by
  intro la H locs hl hH hS z1 z2
  obtain ⟨hx, hkd⟩ := mm_arr_use ha
  obtain ⟨hy, hkd2⟩ := mm_obj_use hob
  simp only [List.map_cons, mm_vv_in hx, mm_vv_in hy]
  have hfun : va_up (fun j => (σ.2.2.2 x j).map (mm_ad g)) i.toNatClampNeg (some (mm_B g + y)) = fun j => ((mm_setR σ x i.toNatClampNeg (some y)).2.2.2 x j).map (mm_ad g) := by
    funext b
    by_cases hb : b = i.toNatClampNeg
    · subst hb
      simp [mm_setR, va_up, mm_ad, hy]
    · simp [mm_setR, va_up, hb]
  refine va_astq F.1 F.2.1 F.2.2.2.2.2.1.1 hH (mm_wD g σ) hS x 3 y 6 (r := ("GasTown$Act", mm_T mm_F6, 13)) (mm_ws_get (g := g) hkd) rfl (mm_ws_get (g := g) hkd2) rfl (mm_inb_use hi) hd (fun H1 locs1 hP hD hS1 => ?_)
  rw [hfun] at hP
  have hset : (mm_ws g σ).set x (mm_B g + x, mm_ce g (mm_setR σ x i.toNatClampNeg (some y)) x (.inr (3, n))) = mm_ws g (mm_setR σ x i.toNatClampNeg (some y)) := mm_ws_set rfl hkd mm_offR
  have hP2 : va_P (mm_D g) mm_cls (mm_ws g (mm_setR σ x i.toNatClampNeg (some y))) H1 := by rw [← hset]; exact hP
  exact hk la H1 locs1 hl hP2 hS1 z1 z2
end SIM3
