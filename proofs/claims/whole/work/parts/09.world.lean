/-! THE WORLD: the cells of the small machine as cells of the heap, one behind another from B on. -/
/-- layouts' ids, slots; the four array classes; B; addresses of what was there before -/
abbrev mm_G0 : Type := (Nat → ClassId) × (Nat → Nat → Nat) × (ClassId × ClassId × ClassId × ClassId) × Nat × (Nat → Nat)
def mm_D (g : mm_G0) : va_G := (g.1, g.2.1)
def mm_B (g : mm_G0) : Nat := g.2.2.2.1
def mm_ex (g : mm_G0) : Nat → Nat := g.2.2.2.2
def mm_Ao (g : mm_G0) : Nat → Prop := fun q => mm_B g ≤ q
def mm_tys (g : mm_G0) : List (ClassId × FieldType) := [(g.2.2.1.1, .int), (g.2.2.1.2.1, .long), (g.2.2.1.2.2.1, .boolean), (g.2.2.1.2.2.2, .object "GasTown$Act")]
def mm_ad (g : mm_G0) (k : Nat) : Nat := if k < 1000000 then mm_B g + k else mm_ex g k
def mm_vv (g : mm_G0) : Value → Value
  | .ref k => .ref (mm_ad g k)
  | v => v
def mm_fv (g : mm_G0) (σ : mm_S) (k t j : Nat) : Value := match t with
  | 1 => .long (σ.2.2.1 k j)
  | 2 => va_rf ((σ.2.2.2 k j).map (mm_ad g))
  | _ => .int (σ.2.1 k j)
def mm_nf (ci : Nat) : Nat := (mm_fts.getD ci []).length
def mm_ce (g : mm_G0) (σ : mm_S) (k : Nat) : mm_Kd → va_E
  | .inl ci => .inr (ci, (List.range (mm_nf ci)).map (fun j => mm_fv g σ k (mm_ft ci j) j))
  | .inr (t, n) => match t with
    | 0 => .inl (g.2.2.1.1, (n, .inl (σ.2.1 k)))
    | 1 => .inl (g.2.2.1.2.1, (n, .inr (.inl (σ.2.2.1 k))))
    | 2 => .inl (g.2.2.1.2.2.1, (n, .inl (σ.2.1 k)))
    | _ => .inl (g.2.2.1.2.2.2, (n, .inr (.inr (.inr (.inr (fun j => (σ.2.2.2 k j).map (mm_ad g)))))))
def mm_wF (g : mm_G0) (σ : mm_S) : Nat → List mm_Kd → va_W
  | _, [] => []
  | k, kd :: r => (mm_B g + k, mm_ce g σ k kd) :: mm_wF g σ (k + 1) r
def mm_ws (g : mm_G0) (σ : mm_S) : va_W := mm_wF g σ 0 σ.1
theorem mm_kd_get : ∀ (K : List mm_Kd) (i : Nat), mm_kd K i = K[i]?
  | [], i => by cases i <;> rfl
  | a :: r, 0 => rfl
  | a :: r, i + 1 => by rw [List.getElem?_cons_succ]; exact mm_kd_get r i
theorem mm_wF_get (g : mm_G0) (σ : mm_S) : ∀ (K : List mm_Kd) (k i : Nat), (mm_wF g σ k K)[i]? = (K[i]?).map (fun kd => (mm_B g + (k + i), mm_ce g σ (k + i) kd))
  | [], k, i => by simp [mm_wF]
  | a :: r, k, 0 => by simp [mm_wF]
  | a :: r, k, i + 1 => by
    rw [mm_wF, List.getElem?_cons_succ, List.getElem?_cons_succ, mm_wF_get g σ r (k + 1) i]
    simp [Nat.add_assoc, Nat.add_comm 1 i]
theorem mm_ws_all (g : mm_G0) (σ : mm_S) (i : Nat) : (mm_ws g σ)[i]? = (σ.1[i]?).map (fun kd => (mm_B g + i, mm_ce g σ i kd)) := by
  rw [mm_ws, mm_wF_get]
  simp
theorem mm_ws_get {g : mm_G0} {σ : mm_S} {i : Nat} {kd : mm_Kd} (h : mm_kd σ.1 i = some kd) : (mm_ws g σ)[i]? = some (mm_B g + i, mm_ce g σ i kd) := by
  rw [mm_ws_all, ← mm_kd_get, h]
  rfl
theorem mm_wD (g : mm_G0) (σ : mm_S) : va_D (mm_Ao g) (mm_ws g σ) := by
  have key : ∀ (k : Nat) (q : Nat × va_E), (mm_ws g σ)[k]? = some q → q.1 = mm_B g + k := by
    intro k q h
    rw [mm_ws_all] at h
    cases hk : σ.1[k]? with
    | none => rw [hk] at h; cases h
    | some kd => rw [hk] at h; rw [← Option.some.inj h]
  refine ⟨fun i j p q hi hj e => ?_, fun k q h => ?_⟩
  · have h1 := key i p hi
    have h2 := key j q hj
    omega
  · show mm_B g ≤ q.1
    have h1 := key k q h
    omega
theorem mm_ce_congr {g : mm_G0} {σ τ : mm_S} {k : Nat} (h1 : τ.2.1 k = σ.2.1 k) (h2 : τ.2.2.1 k = σ.2.2.1 k) (h3 : τ.2.2.2 k = σ.2.2.2 k) (kd : mm_Kd) : mm_ce g τ k kd = mm_ce g σ k kd := by
  cases kd with
  | inl ci => simp only [mm_ce, mm_fv, h1, h2, h3]
  | inr q =>
    obtain ⟨t, n⟩ := q
    simp only [mm_ce, h1, h2, h3]
theorem mm_ws_set {g : mm_G0} {σ τ : mm_S} {x : Nat} {kd : mm_Kd} (hK : τ.1 = σ.1) (hx : mm_kd σ.1 x = some kd) (hoff : ∀ i, i ≠ x → τ.2.1 i = σ.2.1 i ∧ τ.2.2.1 i = σ.2.2.1 i ∧ τ.2.2.2 i = σ.2.2.2 i) : (mm_ws g σ).set x (mm_B g + x, mm_ce g τ x kd) = mm_ws g τ := by
  apply List.ext_getElem?
  intro i
  have hl := (List.getElem?_eq_some_iff.mp (mm_ws_get (g := g) hx)).1
  by_cases hi : i = x
  · subst hi
    rw [List.getElem?_set_self hl, mm_ws_get (g := g) (σ := τ) (by rw [hK]; exact hx)]
  · rw [List.getElem?_set_ne (Ne.symm hi), mm_ws_all, mm_ws_all, hK]
    obtain ⟨h1, h2, h3⟩ := hoff i hi
    cases σ.1[i]? with
    | none => rfl
    | some kd2 => simp only [Option.map_some, mm_ce_congr h1 h2 h3]
theorem mm_offI {σ : mm_S} {x j : Nat} {y : Int32} : ∀ i, i ≠ x → (mm_setI σ x j y).2.1 i = σ.2.1 i ∧ (mm_setI σ x j y).2.2.1 i = σ.2.2.1 i ∧ (mm_setI σ x j y).2.2.2 i = σ.2.2.2 i := by
  intro i hi
  refine ⟨?_, rfl, rfl⟩
  funext b
  simp [mm_setI, hi]
theorem mm_offL {σ : mm_S} {x j : Nat} {y : Int64} : ∀ i, i ≠ x → (mm_setL σ x j y).2.1 i = σ.2.1 i ∧ (mm_setL σ x j y).2.2.1 i = σ.2.2.1 i ∧ (mm_setL σ x j y).2.2.2 i = σ.2.2.2 i := by
  intro i hi
  refine ⟨rfl, ?_, rfl⟩
  funext b
  simp [mm_setL, hi]
theorem mm_offR {σ : mm_S} {x j : Nat} {y : Option Nat} : ∀ i, i ≠ x → (mm_setR σ x j y).2.1 i = σ.2.1 i ∧ (mm_setR σ x j y).2.2.1 i = σ.2.2.1 i ∧ (mm_setR σ x j y).2.2.2 i = σ.2.2.2 i := by
  intro i hi
  refine ⟨rfl, rfl, ?_⟩
  funext b
  simp [mm_setR, hi]
/-- one field put: the list of fields -/
theorem mm_fs_set {f h : Nat → Value} {n b : Nat} {v : Value} (hb : h b = v) (ho : ∀ j, j ≠ b → h j = f j) : ((List.range n).map f).set b v = (List.range n).map h := by
  apply List.ext_getElem?
  intro i
  by_cases hi : i = b
  · subst hi
    by_cases hn : i < n
    · rw [List.getElem?_set_self (by simpa using hn)]
      simp [hn, hb]
    · rw [List.getElem?_eq_none (by simpa using hn), List.getElem?_eq_none (by simpa using hn)]
  · rw [List.getElem?_set_ne (Ne.symm hi)]
    by_cases hn : i < n
    · simp [hn, ho i hi]
    · rw [List.getElem?_eq_none (by simpa using hn), List.getElem?_eq_none (by simpa using hn)]
def mm_sz : List mm_Kd → Nat
  | [] => 0
  | .inl ci :: r => mm_nf ci + mm_sz r
  | .inr (_, n) :: r => n + mm_sz r
theorem mm_sz_app : ∀ (a b : List mm_Kd), mm_sz (a ++ b) = mm_sz a + mm_sz b
  | [], b => by simp [mm_sz]
  | .inl ci :: r, b => by simp only [List.cons_append, mm_sz, mm_sz_app r b]; omega
  | .inr (t, n) :: r, b => by simp only [List.cons_append, mm_sz, mm_sz_app r b]; omega
/-- the heap holds the cells -/
def mm_H (g : mm_G0) (σ : mm_S) (H : Heap) : Prop := va_P (mm_D g) mm_cls (mm_ws g σ) H
theorem mm_H_size {g : mm_G0} {σ : mm_S} {H : Heap} {z n0 : Nat} (h : mm_H g σ H) (h1 : z ≤ H.size) (h2 : H.size ≤ z + (σ.1.length - n0)) (h3 : z = mm_B g + n0) (h4 : n0 ≤ σ.1.length) : H.size = mm_B g + σ.1.length := by
  cases hk : σ.1.length with
  | zero => omega
  | succ n =>
    have hlt : n < σ.1.length := by omega
    have hq := mm_ws_all g σ n
    rw [List.getElem?_eq_getElem hlt] at hq
    have := (h n _ hq).lt
    have : mm_B g + n < H.size := this
    omega
def mm_L (g : mm_G0) (ls : Array Slot) (nL : Nat) (mls : List (Option Value)) : Prop := ls.size = nL ∧ lv_wf ls ∧ ∀ j w, mm_get mls j = some w → ls[j]? = some (.val (mm_vv g w))
def mm_alF (g : mm_G0) : Nat → List (Option Value) → List (Nat × Value)
  | _, [] => []
  | k, none :: r => mm_alF g (k + 1) r
  | k, some v :: r => (k, mm_vv g v) :: mm_alF g (k + 1) r
theorem mm_alF_mem (g : mm_G0) : ∀ (mls : List (Option Value)) (k j : Nat) (u : Value), (j, u) ∈ mm_alF g k mls ↔ ∃ i w, mm_get mls i = some w ∧ j = k + i ∧ u = mm_vv g w
  | [], k, j, u => by simp [mm_alF, mm_get]
  | none :: r, k, j, u => by
    rw [mm_alF, mm_alF_mem g r (k + 1) j u]
    constructor
    · rintro ⟨i, w, h1, h2, h3⟩
      exact ⟨i + 1, w, h1, by omega, h3⟩
    · rintro ⟨i, w, h1, h2, h3⟩
      cases i with
      | zero => cases h1
      | succ i => exact ⟨i, w, h1, by omega, h3⟩
  | some v :: r, k, j, u => by
    rw [mm_alF, List.mem_cons, mm_alF_mem g r (k + 1) j u]
    constructor
    · rintro (h | ⟨i, w, h1, h2, h3⟩)
      · cases h; exact ⟨0, v, rfl, rfl, rfl⟩
      · exact ⟨i + 1, w, h1, by omega, h3⟩
    · rintro ⟨i, w, h1, h2, h3⟩
      cases i with
      | zero =>
        have e : v = w := Option.some.inj h1
        left; rw [h2, h3, e]; rfl
      | succ i => right; exact ⟨i, w, h1, by omega, h3⟩
theorem mm_L.has {g : mm_G0} {ls : Array Slot} {nL : Nat} {mls : List (Option Value)} (h : mm_L g ls nL mls) : lv_has ls nL (mm_alF g 0 mls) := by
  refine ⟨h.1, h.2.1, fun q hq => ?_⟩
  obtain ⟨j, u⟩ := q
  obtain ⟨i, w, h1, h2, h3⟩ := (mm_alF_mem g mls 0 j u).mp hq
  have := h.2.2 i w h1
  show ls[j]? = some (.val u)
  rw [h2, h3, Nat.zero_add]
  exact this
theorem mm_cat_vv (g : mm_G0) (w : Value) : (mm_vv g w).category = w.category := by cases w <;> rfl
theorem mm_long_cat {w : Value} : mm_long (some w) = true ↔ w.category = 2 := by cases w <;> simp [mm_long, Value.category]
theorem mm_set1_get : ∀ (mls : List (Option Value)) (i : Nat) (v : Value) (j : Nat) (u : Value), mm_get (mm_set1 mls i v) j = some u → (j = i ∧ u = v) ∨ (j ≠ i ∧ mm_get mls j = some u ∧ ¬ (j + 1 = i ∧ u.category = 2))
  | [], i, v, j, u, h => by cases h
  | a :: r, 0, v, 0, u, h => Or.inl ⟨rfl, (Option.some.inj h).symm⟩
  | a :: r, 0, v, j + 1, u, h => Or.inr ⟨by omega, h, by omega⟩
  | a :: r, n + 1, v, 0, u, h => by
    have h : mm_cut a n = some u := h
    cases n with
    | zero =>
      rw [mm_cut] at h
      cases hl : mm_long a with
      | true => rw [hl] at h; cases h
      | false =>
        rw [hl] at h
        have h : a = some u := h
        refine Or.inr ⟨by omega, h, fun z => ?_⟩
        rw [h] at hl
        rw [mm_long_cat.mpr z.2] at hl
        cases hl
    | succ n => exact Or.inr ⟨by omega, h, by omega⟩
  | a :: r, n + 1, v, j + 1, u, h => by
    rcases mm_set1_get r n v j u h with ⟨h1, h2⟩ | ⟨h1, h2, h3⟩
    · exact Or.inl ⟨by omega, h2⟩
    · exact Or.inr ⟨by omega, h2, by omega⟩
theorem mm_set2_get : ∀ (mls : List (Option Value)) (i : Nat) (v : Value) (j : Nat) (u : Value), mm_get (mm_set2 mls i v) j = some u → (j = i ∧ u = v) ∨ (j ≠ i ∧ j ≠ i + 1 ∧ mm_get mls j = some u ∧ ¬ (j + 1 = i ∧ u.category = 2))
  | [], i, v, j, u, h => by cases i <;> cases h
  | [a], 0, v, 0, u, h => Or.inl ⟨rfl, (Option.some.inj h).symm⟩
  | [a], 0, v, j + 1, u, h => by cases h
  | a :: b :: r, 0, v, 0, u, h => Or.inl ⟨rfl, (Option.some.inj h).symm⟩
  | a :: b :: r, 0, v, 1, u, h => by cases h
  | a :: b :: r, 0, v, j + 2, u, h => Or.inr ⟨by omega, by omega, h, by omega⟩
  | a :: r, n + 1, v, 0, u, h => by
    have h : mm_cut a n = some u := by cases r <;> exact h
    cases n with
    | zero =>
      rw [mm_cut] at h
      cases hl : mm_long a with
      | true => rw [hl] at h; cases h
      | false =>
        rw [hl] at h
        have h : a = some u := h
        refine Or.inr ⟨by omega, by omega, h, fun z => ?_⟩
        rw [h] at hl
        rw [mm_long_cat.mpr z.2] at hl
        cases hl
    | succ n => exact Or.inr ⟨by omega, by omega, h, by omega⟩
  | a :: r, n + 1, v, j + 1, u, h => by
    have h : mm_get (mm_set2 r n v) j = some u := by cases r <;> exact h
    rcases mm_set2_get r n v j u h with ⟨h1, h2⟩ | ⟨h1, h2, h3, h4⟩
    · exact Or.inl ⟨by omega, h2⟩
    · exact Or.inr ⟨by omega, by omega, h3, by omega⟩
theorem mm_L.st1 {g : mm_G0} {ls' : Array Slot} {nL i : Nat} {mls : List (Option Value)} {v : Value} (h : lv_has ls' nL ((i, mm_vv g v) :: (mm_alF g 0 mls).filter (fun q => !(q.1 == i) && !(q.1 + 1 == i && q.2.category == 2)))) : mm_L g ls' nL (mm_set1 mls i v) := by
  refine ⟨h.1, h.2.1, fun j w hw => ?_⟩
  refine h.2.2 (j, mm_vv g w) ?_
  rcases mm_set1_get mls i v j w hw with ⟨h1, h2⟩ | ⟨h1, h2, h3⟩
  · rw [h1, h2]; exact List.mem_cons_self
  · refine List.mem_cons_of_mem _ (List.mem_filter.mpr ⟨(mm_alF_mem g mls 0 j _).mpr ⟨j, w, h2, by omega, rfl⟩, ?_⟩)
    rw [← mm_cat_vv g w] at h3
    simp only [Bool.and_eq_true, Bool.not_eq_true', beq_eq_false_iff_ne, ne_eq, Bool.and_eq_false_iff]
    refine ⟨h1, ?_⟩
    by_cases z : j + 1 = i
    · exact Or.inr (fun y => h3 ⟨z, y⟩)
    · exact Or.inl z
theorem mm_L.st2 {g : mm_G0} {ls' : Array Slot} {nL i : Nat} {mls : List (Option Value)} {v : Value} (h : lv_has ls' nL ((i, mm_vv g v) :: (mm_alF g 0 mls).filter (fun q => !(q.1 == i) && (!(q.1 == i + 1) && !(q.1 + 1 == i && q.2.category == 2))))) : mm_L g ls' nL (mm_set2 mls i v) := by
  refine ⟨h.1, h.2.1, fun j w hw => ?_⟩
  refine h.2.2 (j, mm_vv g w) ?_
  rcases mm_set2_get mls i v j w hw with ⟨h1, h2⟩ | ⟨h1, h2, h3, h4⟩
  · rw [h1, h2]; exact List.mem_cons_self
  · refine List.mem_cons_of_mem _ (List.mem_filter.mpr ⟨(mm_alF_mem g mls 0 j _).mpr ⟨j, w, h3, by omega, rfl⟩, ?_⟩)
    rw [← mm_cat_vv g w] at h4
    simp only [Bool.and_eq_true, Bool.not_eq_true', beq_eq_false_iff_ne, ne_eq, Bool.and_eq_false_iff]
    refine ⟨h1, h2, ?_⟩
    by_cases z : j + 1 = i
    · exact Or.inr (fun y => h4 ⟨z, y⟩)
    · exact Or.inl z
/-- what was there before the law began and stays: the layouts, two arrays, the static that holds the first, nest mates, texts -/
def mm_nest : List Cond := (mm_rows mm_MLs).filterMap (fun q => match q.2.2.2.1 with
  | 5 => some (.methodLinkNest (mm_own q.1) q.2.1 (mm_nm q.2.2.1) "GasTown")
  | 6 => some (.methodLinkNest (mm_own q.1) q.2.1 (mm_nm q.2.2.1) "GasTown")
  | _ => none)
def mj_c2 (x : Int32) : Int32 := ((x &&& 255).toUInt32 % 65536).toInt32
/-- a text that is told byte by byte -/
def mm_Yt (w : List Int32) : Prop := w.length < 2147483648 ∧ ∀ i, i < w.length → mj_c2 (w.getD i 0) = w.getD i 0 ∧ narrow .char (.int (w.getD i 0)) = .int (w.getD i 0)
def mm_StrO (g : mm_G0) (Y : Nat → List Int32) (j : Nat) (U : State) (H : Heap) : Prop := va_O "java/lang/String" (mm_ex g (2000000 + j)) (mm_Ao g) U H ∧ va_OF "java/lang/String" "coder" "B" (.int 0) (mm_ex g (2000000 + j)) (mm_Ao g) U H ∧ va_OF "java/lang/String" "value" "[B" (.ref (mm_ex g (3000000 + j))) (mm_ex g (2000000 + j)) (mm_Ao g) U H ∧ va_T .byte (mm_ex g (3000000 + j)) (Y j).length (fun i => .int ((Y j).getD i 0)) (mm_Ao g) U H ∧ mm_Yt (Y j)
def mm_A (g : mm_G0) (X : Nat → Nat × (Nat → Int32)) (Y : Nat → List Int32) (U : State) : Prop :=
  va_K (mm_D g) mm_cls (mm_tys g) U ∧ mm_B g ≤ U.heap.size ∧ (∀ j, j < 2 → va_T .int (mm_ex g (1000000 + j)) (X j).1 (fun i => .int ((X j).2 i)) (mm_Ao g) U U.heap) ∧ va_Z "GasTown$Works" "PARTS" "[I" (.ref (mm_ex g 1000000)) (mm_Ao g) U U.heap ∧ (∀ w ∈ mm_nest, va_Nw w U) ∧ va_AO "GasTown$Act" U
  ∧ (∀ q ∈ mm_rows mm_SRs, vk_R (mm_own q.1) q.2.1 (mm_txs.getD q.2.2.1 "") (mm_ex g (2000000 + q.2.2.1)) U) ∧ (∀ j, j < 13 → mm_StrO g Y j U U.heap)
  ∧ va_Z "java/lang/String" "COMPACT_STRINGS" "Z" (.int 1) (mm_Ao g) U U.heap ∧ va_Zq "jdk/internal/util/Preconditions" "SIOOBE_FORMATTER" "Ljava/util/function/BiFunction;" (mm_Ao g) U U.heap
theorem mm_nest_onT : ∀ w ∈ mm_nest, w.onTables = true ∧ ∃ o i y h, w = .methodLinkNest o i y h := by
  intro w hw
  obtain ⟨q, -, h⟩ := List.mem_filterMap.mp hw
  split at h
  · cases h; exact ⟨rfl, _, _, _, _, rfl⟩
  · cases h; exact ⟨rfl, _, _, _, _, rfl⟩
  · cases h
theorem mm_keep {g : mm_G0} {H H1 : Heap} (h : ∀ q, q < mm_B g → H1[q]? = H[q]?) : ∀ a : Nat, a < H.size → ¬ mm_Ao g a → H1[a]? = H[a]? := fun a _ h2 => h a (Nat.not_le.mp h2)
theorem mm_A.move {g : mm_G0} {X : Nat → Nat × (Nat → Int32)} {Y : Nat → List Int32} {u U : State} (h : mm_A g X Y u) (hvm : u.vm.Alike U.vm) (hR : ∀ o k t a, vk_R o k t a u → vk_R o k t a U) (hN : ∀ o i y h, va_Nw (.methodLinkNest o i y h) u → va_Nw (.methodLinkNest o i y h) U) (hz : mm_B g ≤ U.heap.size) (hH : ∀ q, q < mm_B g → U.heap[q]? = u.heap[q]?) : mm_A g X Y U := by
  obtain ⟨h1, h2, h3, h4, h5, h6, h7, h8, h9, h10⟩ := h
  have hk := mm_keep hH
  refine ⟨h1.moved hvm, hz, fun j hj => ((h3 j hj).moved hvm).kept hk, (h4.moved hvm).kept hk, fun w hw => ?_, h6.moved hvm, fun q hq => hR _ _ _ _ (h7 q hq), fun j hj => ?_, (h9.moved hvm).kept hk, ?_⟩
  · obtain ⟨-, o, i, y, h, e⟩ := mm_nest_onT w hw
    have := h5 w hw
    rw [e] at this ⊢
    exact hN _ _ _ _ this
  · obtain ⟨a1, a2, a3, a4, a5⟩ := h8 j hj
    exact ⟨(a1.moved hvm).kept hk, (a2.moved hvm).kept hk, (a3.moved hvm).kept hk, (a4.moved hvm).kept hk, a5⟩
  · rcases h10 with h | ⟨t, h⟩
    · exact Or.inl ((h.moved hvm).kept hk)
    · exact Or.inr ⟨t, (h.moved hvm).kept hk⟩
/-- at a method that is called: the caller's entry s, now the heap H -/
theorem mm_A.enter {g : mm_G0} {X : Nat → Nat × (Nat → Int32)} {Y : Nat → List Int32} {s U : State} {H : Heap} {locs : List Loc} (h : mm_A g X Y s) (hW : s.WarmedH U.vm) (hU : U.heap = H) (hS : va_S (mm_Ao g) s.heap H locs) : mm_A g X Y U := by
  refine h.move hW.alike (fun o k t a z => vk_R.warm hW z) (fun o i y h z => va_Nw.warmM hW z) ?_ (fun q hq => ?_)
  · rw [hU]; exact Nat.le_trans h.2.1 hS.1
  · rw [hU]; exact hS.2.1 q (Nat.lt_of_lt_of_le hq h.2.1) (Nat.not_le.mpr hq)
theorem mm_A.blind {g : mm_G0} {X : Nat → Nat × (Nat → Int32)} {Y : Nat → List Int32} {U : State} {gf : JFrame} {mk : MethodId} {a : Array Value} (h : mm_A g X Y U) : mm_A g X Y (U.calling gf mk a) :=
  h.move (Vm.Alike.refl U.vm) (fun o k t b z => vk_R.same (u := U) (U := U.calling gf mk a) rfl z) (fun o i y h z => va_Nw.same (u := U) (U := U.calling gf mk a) rfl rfl z) h.2.1 (fun q _ => rfl)
section MMG
variable {p : Program} {l : Launch} {e : Env} {R : Room} {s : State} {m : MethodId} {args : Array Value} {below : List Frame} {meth : Method} {c : Code} {Q : State → Prop} {cc : ByteArray}
variable {g : mm_G0} {X : Nat → Nat × (Nat → Int32)} {Y : Nat → List Int32} {nL n0 s0 o : Nat}
/-- what stays the same through a method -/
def mm_Fx (g : mm_G0) (X : Nat → Nat × (Nat → Int32)) (Y : Nat → List Int32) (p : Program) (s : State) (m : MethodId) (args : Array Value) (c : Code) (cc : ByteArray) (nL o n0 : Nat) : Prop :=
  p.tables.exec = Jvm.exec ∧ c.code = cc ∧ c.maxLocals = nL ∧ s.vm.findClass (mm_own o) = some m.cls ∧ (∀ w ∈ mm_ALL, w.before args s = true) ∧ mm_A g X Y s ∧ s.heap.size = mm_B g + n0
/-- from this point of the small machine on, the machine comes to Q -/
def mm_G (g : mm_G0) (nL n0 s0 : Nat) (p : Program) (l : Launch) (e : Env) (R : Room) (s : State) (m : MethodId) (args : Array Value) (below : List Frame) (meth : Method) (c : Code) (Q : State → Prop) (k : mm_C) : Prop :=
  ∀ (ls : Array Slot) (H : Heap) (locs : List Loc), mm_L g ls nL k.2.1 → mm_H g k.2.2.2 H → va_S (mm_Ao g) s.heap H locs → n0 ≤ k.2.2.2.1.length → s0 ≤ mm_sz k.2.2.2.1 →
    W p l e R s m args below meth c H locs (k.2.2.2.1.length - n0) (mm_sz k.2.2.2.1 - s0) Q (F0 m k.1 ls (k.2.2.1.map (mm_vv g)))
theorem mm_W_size {H : Heap} {locs : List Loc} {cells slots : Nat} {f : JFrame} (k : H.size ≤ s.heap.size + cells → W p l e R s m args below meth c H locs cells slots Q f) : W p l e R s m args below meth c H locs cells slots Q f := fun T hT X => k (by rw [← hT]; exact X.same.2.2.1) T hT X
end MMG
