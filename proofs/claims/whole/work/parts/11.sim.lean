/-! FIELDS AND ARRAYS. -/
theorem mm_blt {a b : Nat} (h : Nat.blt a b = true) : a < b := Nat.le_of_ble_eq_true h
theorem mm_lay_good (C : String) (T : u_T) (k : Nat) : goodWord (u_lay C T k) = true := by
  unfold u_lay
  split <;> rfl
theorem mm_clc_use {ci N : Nat} {C : String} {T : u_T} (h : mm_clc (ci, (C, T, N)) = true) : (∀ w ∈ u_ws C T N, w ∈ mm_ALL) ∧ ∀ k, k < N → mm_tyc (parseFieldDescriptor (T k).2.2.1) = mm_ft ci k ∧ mm_ft ci k ≤ 3 ∧ (T k).1 = C := by
  have h1 := List.all_eq_true.mp h
  have key : ∀ k, k < N → mm_wd ((mm_lays.getD ci []).getD k 0) = some (u_lay C T k) ∧ mm_tyc (parseFieldDescriptor (T k).2.2.1) = mm_ft ci k ∧ mm_ft ci k ≤ 3 ∧ (T k).1 = C := by
    intro k hk
    have h2 := h1 k (List.mem_range.mpr hk)
    simp only [Bool.and_eq_true] at h2
    exact ⟨of_decide_eq_true h2.1.1.1, mm_beq h2.1.1.2, Nat.le_of_ble_eq_true h2.1.2, of_decide_eq_true h2.2⟩
  refine ⟨fun w hw => ?_, fun k hk => (key k hk).2⟩
  obtain ⟨k, hk, rfl⟩ := List.mem_map.mp hw
  exact mm_all_of (key k (List.mem_range.mp hk)).1 (mm_lay_good C T k)
theorem mm_class {ci N : Nat} {C : String} {T : u_T} (h : mm_cls[ci]? = some (C, T, N)) : (∀ w ∈ u_ws C T N, w ∈ mm_ALL) ∧ (∀ k, k < N → mm_tyc (parseFieldDescriptor (T k).2.2.1) = mm_ft ci k ∧ mm_ft ci k ≤ 3 ∧ (T k).1 = C) ∧ (∀ a, a < N → ∀ b, b < N → a ≠ b → (T a).2.1 ≠ (T b).2.1) ∧ N = mm_nf ci := by
  match ci, h with
  | 0, h => cases h; exact ⟨(mm_clc_use mm_clc0).1, (mm_clc_use mm_clc0).2, mm_nam0, by decide +kernel⟩
  | 1, h => cases h; exact ⟨(mm_clc_use mm_clc1).1, (mm_clc_use mm_clc1).2, mm_nam1, by decide +kernel⟩
  | 2, h => cases h; exact ⟨(mm_clc_use mm_clc2).1, (mm_clc_use mm_clc2).2, mm_nam2, by decide +kernel⟩
  | 3, h => cases h; exact ⟨(mm_clc_use mm_clc3).1, (mm_clc_use mm_clc3).2, mm_nam3, by decide +kernel⟩
  | 4, h => cases h; exact ⟨(mm_clc_use mm_clc4).1, (mm_clc_use mm_clc4).2, mm_nam4, by decide +kernel⟩
  | 5, h => cases h; exact ⟨(mm_clc_use mm_clc5).1, (mm_clc_use mm_clc5).2, mm_nam5, by decide +kernel⟩
  | 6, h => cases h; exact ⟨(mm_clc_use mm_clc6).1, (mm_clc_use mm_clc6).2, mm_nam6, by decide +kernel⟩
  | 7, h => cases h; exact ⟨(mm_clc_use mm_clc7).1, (mm_clc_use mm_clc7).2, mm_nam7, by decide +kernel⟩
  | 8, h => cases h; exact ⟨(mm_clc_use mm_clc8).1, (mm_clc_use mm_clc8).2, mm_nam8, by decide +kernel⟩
  | 9, h => cases h; exact ⟨(mm_clc_use mm_clc9).1, (mm_clc_use mm_clc9).2, mm_nam9, by decide +kernel⟩
  | 10, h => cases h; exact ⟨(mm_clc_use mm_clc10).1, (mm_clc_use mm_clc10).2, mm_nam10, by decide +kernel⟩
  | 11, h => cases h; exact ⟨(mm_clc_use mm_clc11).1, (mm_clc_use mm_clc11).2, mm_nam11, by decide +kernel⟩
  | 12, h => cases h; exact ⟨(mm_clc_use mm_clc12).1, (mm_clc_use mm_clc12).2, mm_nam12, by decide +kernel⟩
  | n + 13, h => simp [mm_cls] at h
theorem mm_own_cls {ci N : Nat} {C : String} {T : u_T} (h : mm_cls[ci]? = some (C, T, N)) : C = mm_own ci := by
  match ci, h with
  | 0, h => cases h; rfl
  | 1, h => cases h; rfl
  | 2, h => cases h; rfl
  | 3, h => cases h; rfl
  | 4, h => cases h; rfl
  | 5, h => cases h; rfl
  | 6, h => cases h; rfl
  | 7, h => cases h; rfl
  | 8, h => cases h; rfl
  | 9, h => cases h; rfl
  | 10, h => cases h; rfl
  | 11, h => cases h; rfl
  | 12, h => cases h; rfl
  | n + 13, h => simp [mm_cls] at h
def mm_ty0 (T : u_T) (k : Nat) : FieldType := (parseFieldDescriptor (T k).2.2.1).getD .int
theorem mm_ty0_ok {ci N : Nat} {C : String} {T : u_T} (h : mm_cls[ci]? = some (C, T, N)) : ∀ k, k < N → parseFieldDescriptor (T k).2.2.1 = some (mm_ty0 T k) := by
  intro k hk
  obtain ⟨h1, h2, -⟩ := (mm_class h).2.1 k hk
  unfold mm_ty0
  cases hp : parseFieldDescriptor (T k).2.2.1 with
  | none => rw [hp] at h1; rw [← h1] at h2; exact absurd h2 (by decide)
  | some t => rfl
theorem mm_fl_use {o i a b : Nat} (h : mm_fok o i a b = true) : ∃ C T N, mm_cls[a]? = some (C, T, N) ∧ b < N ∧ (T b).1 = C ∧ Cond.fieldLink (mm_own o) i C (T b).2.1 (T b).2.2.1 ∈ mm_ALL := by
  obtain ⟨q, h1, h2⟩ := mm_any h
  have h3 := List.all_eq_true.mp mm_fl_ok _ h1
  simp only [Bool.and_eq_true] at h2
  have e1 := mm_beq h2.1.1
  have e2 := mm_beq h2.1.2
  have e3 := mm_beq h2.2
  unfold mm_flc at h3
  dsimp only at h3
  rw [e2, e3, e1] at h3
  cases hc : mm_cls[a]? with
  | none => rw [hc] at h3; cases h3
  | some r =>
    obtain ⟨C, T, N⟩ := r
    rw [hc] at h3
    simp only [Bool.and_eq_true] at h3
    exact ⟨C, T, N, rfl, mm_blt h3.2, of_decide_eq_true h3.1.2, mm_all_of (of_decide_eq_true h3.1.1) rfl⟩
theorem mm_obj_use {K : List mm_Kd} {x ci : Nat} (h : mm_obj K x ci = true) : x < 1000000 ∧ mm_kd K x = some (.inl ci) := by
  unfold mm_obj at h
  cases hb : Nat.blt x 1000000 with
  | false => rw [hb] at h; cases h
  | true =>
    rw [hb] at h
    refine ⟨mm_blt hb, ?_⟩
    cases hk : mm_kd K x with
    | none => rw [hk] at h; cases h
    | some kd =>
      rw [hk] at h
      cases kd with
      | inl c => rw [mm_beq h]
      | inr q => cases h
theorem mm_arr_use {K : List mm_Kd} {x ty n : Nat} (h : mm_arr K x ty = some n) : x < 1000000 ∧ mm_kd K x = some (.inr (ty, n)) := by
  unfold mm_arr at h
  cases hb : Nat.blt x 1000000 with
  | false => rw [hb] at h; cases h
  | true =>
    rw [hb] at h
    refine ⟨mm_blt hb, ?_⟩
    cases hk : mm_kd K x with
    | none => rw [hk] at h; cases h
    | some kd =>
      rw [hk] at h
      cases kd with
      | inl c => cases h
      | inr q =>
        obtain ⟨t, n'⟩ := q
        dsimp only at h
        cases ht : Nat.beq t ty with
        | false => rw [ht] at h; cases h
        | true => rw [ht] at h; rw [mm_beq ht, Option.some.inj h]
theorem mm_vv_in {g : mm_G0} {x : Nat} (h : x < 1000000) : mm_vv g (.ref x) = .ref (mm_B g + x) := by
  simp only [mm_vv, mm_ad]
  rw [if_pos h]
theorem mm_inb_use {i : Int32} {n : Nat} (h : mm_inb i n = true) : vp_in i n := by
  unfold mm_inb at h
  simp only [Bool.and_eq_true, Bool.not_eq_true', decide_eq_false_iff_not] at h
  intro z
  rcases z with z | z
  · exact h.1 z
  · have := mm_blt h.2
    omega
theorem mm_rv_vv (g : mm_G0) (r : Option Nat) : mm_vv g (mm_rv r) = va_rf (r.map (mm_ad g)) := by cases r <;> rfl
section SIM2
variable {p : Program} {l : Launch} {e : Env} {R : Room} {s : State} {m : MethodId} {args : Array Value} {below : List Frame} {meth : Method} {c : Code} {Q : State → Prop} {cc : ByteArray}
variable {g : mm_G0} {X : Nat → Nat × (Nat → Int32)} {Y : Nat → List Int32} {nL n0 s0 o : Nat} {pc : Nat} {ls : List (Option Value)} {st r : List Value} {σ : mm_S}
theorem mg_getfield (F : mm_Fx g X Y p s m args c cc nL o n0) {i a b x : Nat} {v : Value} (hd : decode cc pc = .ok (.getfield i, 3)) (hf : mm_fok o i a b = true) (ho : mm_obj σ.1 x a = true) (hv : mm_vv g v = mm_fv g σ x (mm_ft a b) b) (hk : mm_G g nL n0 s0 p l e R s m args below meth c Q (pc + 3, ls, v :: r, σ)) : mm_G g nL n0 s0 p l e R s m args below meth c Q (pc, ls, .ref x :: r, σ) := by
  intro la H locs hl hH hS h1 h2
  have hw := hk la H locs hl hH hS h1 h2
  obtain ⟨C, T, N, hc, hb, hC, hlink⟩ := mm_fl_use hf
  obtain ⟨hx, hkd⟩ := mm_obj_use ho
  obtain ⟨hin, -, -, hN⟩ := mm_class hc
  have hlk := F.2.2.2.2.1 _ hlink
  simp only [List.map_cons, hv] at hw
  simp only [List.map_cons, mm_vv_in hx]
  exact va_get F.1 F.2.1 F.2.2.2.2.1 hin F.2.2.2.1 F.2.2.2.2.2.1.1 hH x (mm_ws_get (g := g) hkd) hc b hb hlk (fun y hy => by rw [hC] at hy; exact hy) (by rw [List.getElem?_map, List.getElem?_range (by rw [← hN]; exact hb)]; rfl) hd hw
theorem mm_fs_len {σ : mm_S} {x a b N : Nat} (hb : b < N) (hN : N = mm_nf a) : b < ((List.range (mm_nf a)).map (fun j => mm_fv g σ x (mm_ft a j) j)).length := by
  rw [List.length_map, List.length_range, ← hN]; exact hb
theorem mg_put (F : mm_Fx g X Y p s m args c cc nL o n0) (hini : Bool) (hin2 : hini = true → meth.name = "<init>") {i a b x : Nat} {w v : Value} {τ : mm_S} (hd : decode cc pc = .ok (.putfield i, 3)) (hf : mm_fok o i a b = true)
    (hfin : (match (mm_cls[a]?).map (fun q => (q.2.1 b).2.2.2) with | some true => 1 | _ => 0) = 1 → hini = true ∧ o = a) (ho : mm_obj σ.1 x a = true) (hvv : mm_vv g w = v)
    (hn : ∀ T : u_T, mm_tyc (parseFieldDescriptor (T b).2.2.1) = mm_ft a b → ∃ ty, parseFieldDescriptor (T b).2.2.1 = some ty ∧ narrow ty v = v ∧ fits ty v = true)
    (hK : τ.1 = σ.1) (hoff : ∀ i, i ≠ x → τ.2.1 i = σ.2.1 i ∧ τ.2.2.1 i = σ.2.2.1 i ∧ τ.2.2.2 i = σ.2.2.2 i) (h0 : mm_fv g τ x (mm_ft a b) b = v) (h1 : ∀ j, j ≠ b → ∀ t, mm_fv g τ x t j = mm_fv g σ x t j)
    (hk : mm_G g nL n0 s0 p l e R s m args below meth c Q (pc + 3, ls, r, τ)) : mm_G g nL n0 s0 p l e R s m args below meth c Q (pc, ls, w :: .ref x :: r, σ) := by
  intro la H locs hl hH hS z1 z2
  obtain ⟨C, T, N, hc, hb, hC, hlink⟩ := mm_fl_use hf
  obtain ⟨hx, hkd⟩ := mm_obj_use ho
  obtain ⟨hin, htys, hnm, hN⟩ := mm_class hc
  have hlk := F.2.2.2.2.1 _ hlink
  obtain ⟨ty, hty, hnar, hfit⟩ := hn T (htys b hb).1
  simp only [List.map_cons, mm_vv_in hx, hvv]
  have hset : (mm_ws g σ).set x (mm_B g + x, .inr (a, ((List.range (mm_nf a)).map (fun j => mm_fv g σ x (mm_ft a j) j)).set b v)) = mm_ws g τ := by
    rw [mm_fs_set (h := fun j => mm_fv g τ x (mm_ft a j) j) h0 (fun j hj => h1 j hj _)]
    exact mm_ws_set (kd := .inl a) hK hkd hoff
  have goes : ∀ (H1 : Heap) (locs1 : List Loc), va_P (mm_D g) mm_cls ((mm_ws g σ).set x (mm_B g + x, .inr (a, ((List.range (mm_nf a)).map (fun j => mm_fv g σ x (mm_ft a j) j)).set b v))) H1 → va_D (mm_Ao g) ((mm_ws g σ).set x (mm_B g + x, .inr (a, ((List.range (mm_nf a)).map (fun j => mm_fv g σ x (mm_ft a j) j)).set b v))) → va_S (mm_Ao g) s.heap H1 locs1 → W p l e R s m args below meth c H1 locs1 (σ.1.length - n0) (mm_sz σ.1 - s0) Q (F0 m (pc + 3) la (r.map (mm_vv g))) := by
    intro H1 locs1 hP hD hS1
    rw [hset] at hP
    have hw := hk la H1 locs1 hl hP hS1 (by simp only [hK]; exact z1) (by simp only [hK]; exact z2)
    simp only [hK] at hw
    exact hw
  have hat : (mm_ws g σ)[x]? = some (mm_B g + x, .inr (a, (List.range (mm_nf a)).map (fun j => mm_fv g σ x (mm_ft a j) j))) := mm_ws_get (g := g) hkd
  have hlen := mm_fs_len (g := g) (σ := σ) (x := x) hb hN
  have hsame : ∀ y, s.fieldFound? (T b).1 (T b).2.1 (T b).2.2.1 = some y → s.fieldFound? C (T b).2.1 (T b).2.2.1 = some y := fun y hy => by rw [hC] at hy; exact hy
  cases hfb : (T b).2.2.2 with
  | false => exact va_put F.1 F.2.1 F.2.2.2.2.1 hin (mm_ty0 T) (mm_ty0_ok hc) hnm F.2.2.2.1 F.2.2.2.2.2.1.1 hH (mm_wD g σ) hS x hat hc b hb hlk hsame hfb hty hnar hfit hlen hd goes
  | true =>
    have hz := hfin (by rw [hc]; simp only [Option.map_some]; rw [hfb])
    have hown : (T b).1 = mm_own o := by
      rw [hC, hz.2]
      exact mm_own_cls hc
    exact va_putF F.1 F.2.1 F.2.2.2.2.1 hin (mm_ty0 T) (mm_ty0_ok hc) hnm F.2.2.2.1 F.2.2.2.2.2.1.1 hH (mm_wD g σ) hS x hat hc b hb hlk hsame hfb (hin2 hz.1) hown hty hnar hfit hlen hd goes
end SIM2
