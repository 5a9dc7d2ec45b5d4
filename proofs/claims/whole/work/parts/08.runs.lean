/-! THE SMALL MACHINE'S STEP. X: arrays that nobody writes, from 1000000 on; Y: texts, from 2000000 on. -/
def mm_intr (Y : Nat → List Int32) (kind pc : Nat) (ls : List (Option Value)) (st : List Value) (σ : mm_S) : mm_O :=
  match kind with
  | 10 => match st with
    | .int y :: .int x :: r => mm_nx pc ls (.int (if y < x then y else x) :: r) σ
    | _ => none
  | 11 => match st with
    | .int y :: .int x :: r => mm_nx pc ls (.int (if x < y then y else x) :: r) σ
    | _ => none
  | 12 => match st with
    | .long y :: .long x :: r => mm_nx pc ls (.long (if y < x then y else x) :: r) σ
    | _ => none
  | 13 => match st with
    | .long y :: .long x :: r => mm_nx pc ls (.long (if y < x then x else y) :: r) σ
    | _ => none
  | 14 => match st with
    | .ref a :: r => cond (Nat.ble 2000000 a && Nat.blt a 2000013) (mm_nx pc ls (.int (Int32.ofNat (Y (a - 2000000)).length) :: r) σ) none
    | _ => none
  | 15 => match st with
    | .int i :: .ref a :: r => cond (Nat.ble 2000000 a && Nat.blt a 2000013 && mm_inb i (Y (a - 2000000)).length) (mm_nx pc ls (.int ((Y (a - 2000000)).getD i.toNatClampNeg 0) :: r) σ) none
    | _ => none
  | _ => none
/-- the object that a method is called on: of the layout k (t is 0), or any (2, 6); 1, 5: none -/
def mm_head (t k : Nat) (K : List mm_Kd) (args : List Value) : Bool := match t with
  | 0 => match args with
    | .ref x :: _ => Nat.blt x 1000000 && (match mm_kd K x with
      | some (.inl ci) => Nat.beq ci k
      | _ => false)
    | _ => false
  | 1 => true
  | 5 => true
  | _ => match args with
    | .ref _ :: _ => true
    | _ => false
def mm_call1 (Y : Nat → List Int32) (t a b k pc : Nat) (ls : List (Option Value)) (st : List Value) (σ : mm_S) : mm_O :=
  match Nat.ble 10 t with
  | true => cond (Nat.ble (mm_cats st) 9) (mm_intr Y t pc ls st σ) none
  | false => match mm_pops b [] st with
    | some (args, rest) => cond (Nat.ble (mm_cats rest) 8 && mm_head t k σ.1 args) (some (.inr (.inr (a, args, (pc, ls, rest, σ))))) none
    | none => none
def mm_bc (cd : ClassFile.Cond) (x y : Int32) (t f : Nat) : Nat := match cd with
  | .eq => if x = y then t else f
  | .ne => if x = y then f else t
  | .lt => if x < y then t else f
  | .ge => if y ≤ x then t else f
  | .gt => if y < x then t else f
  | .le => if x ≤ y then t else f
def mm_arr (K : List mm_Kd) (x ty : Nat) : Option Nat := match Nat.blt x 1000000 with
  | true => match mm_kd K x with
    | some (.inr (t, n)) => match Nat.beq t ty with
      | true => some n
      | false => none
    | _ => none
  | false => none
def mm_obj (K : List mm_Kd) (x ci : Nat) : Bool := match Nat.blt x 1000000 with
  | true => match mm_kd K x with
    | some (.inl c) => Nat.beq c ci
    | _ => false
  | false => false
def mm_step (X : Nat → Nat × (Nat → Int32)) (Y : Nat → List Int32) (code : Nat → Option mm_E) : mm_C → mm_O
  | (pc, ls, st, σ) => match code pc with
    | none => none
    | some (ins, len, v, t, a, b, k, sw) => match ins with
      | .aload i => match mm_get ls i with
        | some (.ref x) => mm_nx (pc + len) ls (.ref x :: st) σ
        | _ => none
      | .aload_n _ => match mm_get ls t with
        | some (.ref x) => mm_nx (pc + len) ls (.ref x :: st) σ
        | _ => none
      | .iload i => match mm_get ls i with
        | some (.int x) => mm_nx (pc + len) ls (.int x :: st) σ
        | _ => none
      | .iload_n _ => match mm_get ls t with
        | some (.int x) => mm_nx (pc + len) ls (.int x :: st) σ
        | _ => none
      | .lload i => match mm_get ls i with
        | some (.long x) => mm_nx (pc + len) ls (.long x :: st) σ
        | _ => none
      | .lload_n _ => match mm_get ls t with
        | some (.long x) => mm_nx (pc + len) ls (.long x :: st) σ
        | _ => none
      | .istore i => match st with
        | .int x :: r => mm_nx (pc + len) (mm_set1 ls i (.int x)) r σ
        | _ => none
      | .istore_n _ => match st with
        | .int x :: r => mm_nx (pc + len) (mm_set1 ls t (.int x)) r σ
        | _ => none
      | .astore i => match st with
        | .ref x :: r => mm_nx (pc + len) (mm_set1 ls i (.ref x)) r σ
        | _ => none
      | .astore_n _ => match st with
        | .ref x :: r => mm_nx (pc + len) (mm_set1 ls t (.ref x)) r σ
        | _ => none
      | .lstore i => match st with
        | .long x :: r => mm_nx (pc + len) (mm_set2 ls i (.long x)) r σ
        | _ => none
      | .lstore_n _ => match st with
        | .long x :: r => mm_nx (pc + len) (mm_set2 ls t (.long x)) r σ
        | _ => none
      | .iinc i _ => match mm_get ls i with
        | some (.int x) => match v with
          | .int c => mm_nx (pc + len) (mm_set1 ls i (.int (x + c))) st σ
          | _ => none
        | _ => none
      | .iconst _ => mm_nx (pc + len) ls (v :: st) σ
      | .bipush _ => mm_nx (pc + len) ls (v :: st) σ
      | .sipush _ => mm_nx (pc + len) ls (v :: st) σ
      | .lconst _ => mm_nx (pc + len) ls (v :: st) σ
      | .ldc _ => mm_nx (pc + len) ls (v :: st) σ
      | .ldc_w _ => mm_nx (pc + len) ls (v :: st) σ
      | .ldc2_w _ => mm_nx (pc + len) ls (v :: st) σ
      | .getstatic _ => mm_nx (pc + len) ls (v :: st) σ
      | .iadd => match st with
        | .int y :: .int x :: r => mm_nx (pc + len) ls (.int (x + y) :: r) σ
        | _ => none
      | .isub => match st with
        | .int y :: .int x :: r => mm_nx (pc + len) ls (.int (x - y) :: r) σ
        | _ => none
      | .imul => match st with
        | .int y :: .int x :: r => mm_nx (pc + len) ls (.int (x * y) :: r) σ
        | _ => none
      | .iand => match st with
        | .int y :: .int x :: r => mm_nx (pc + len) ls (.int (x &&& y) :: r) σ
        | _ => none
      | .ior => match st with
        | .int y :: .int x :: r => mm_nx (pc + len) ls (.int (x ||| y) :: r) σ
        | _ => none
      | .idiv => match st with
        | .int y :: .int x :: r => cond (!(decide (y = 0))) (mm_nx (pc + len) ls (.int (x / y) :: r) σ) none
        | _ => none
      | .irem => match st with
        | .int y :: .int x :: r => cond (!(decide (y = 0))) (mm_nx (pc + len) ls (.int (x - x / y * y) :: r) σ) none
        | _ => none
      | .ishl => match st with
        | .int y :: .int x :: r => mm_nx (pc + len) ls (.int (x <<< (y &&& 31)) :: r) σ
        | _ => none
      | .ishr => match st with
        | .int y :: .int x :: r => mm_nx (pc + len) ls (.int (x >>> (y &&& 31)) :: r) σ
        | _ => none
      | .iushr => match st with
        | .int y :: .int x :: r => mm_nx (pc + len) ls (.int (x.toUInt32 >>> (y.toUInt32 &&& Int32.toUInt32 31)).toInt32 :: r) σ
        | _ => none
      | .ladd => match st with
        | .long y :: .long x :: r => mm_nx (pc + len) ls (.long (x + y) :: r) σ
        | _ => none
      | .lsub => match st with
        | .long y :: .long x :: r => mm_nx (pc + len) ls (.long (x - y) :: r) σ
        | _ => none
      | .lmul => match st with
        | .long y :: .long x :: r => mm_nx (pc + len) ls (.long (x * y) :: r) σ
        | _ => none
      | .ldiv => match st with
        | .long y :: .long x :: r => cond (!(decide (y = 0))) (mm_nx (pc + len) ls (.long (x / y) :: r) σ) none
        | _ => none
      | .lrem => match st with
        | .long y :: .long x :: r => cond (!(decide (y = 0))) (mm_nx (pc + len) ls (.long (x - x / y * y) :: r) σ) none
        | _ => none
      | .lcmp => match st with
        | .long y :: .long x :: r => mm_nx (pc + len) ls (.int (lg_cmp x y) :: r) σ
        | _ => none
      | .i2l => match st with
        | .int x :: r => mm_nx (pc + len) ls (.long x.toInt64 :: r) σ
        | _ => none
      | .l2i => match st with
        | .long x :: r => mm_nx (pc + len) ls (.int x.toInt32 :: r) σ
        | _ => none
      | .dup => match st with
        | .int x :: r => mm_nx (pc + len) ls (.int x :: .int x :: r) σ
        | .ref x :: r => mm_nx (pc + len) ls (.ref x :: .ref x :: r) σ
        | _ => none
      | .dup2 => match st with
        | .int y :: .ref x :: r => mm_nx (pc + len) ls (.int y :: .ref x :: .int y :: .ref x :: r) σ
        | _ => none
      | .dup_x1 => match st with
        | .int y :: .ref x :: r => mm_nx (pc + len) ls (.int y :: .ref x :: .int y :: r) σ
        | _ => none
      | .pop => match st with
        | .int _ :: r => mm_nx (pc + len) ls r σ
        | _ => none
      | .goto _ => mm_nx t ls st σ
      | .ifCond cd _ => match st with
        | .int x :: r => mm_nx (mm_bc cd x 0 t (pc + len)) ls r σ
        | _ => none
      | .if_icmp cd _ => match st with
        | .int y :: .int x :: r => mm_nx (mm_bc cd x y t (pc + len)) ls r σ
        | _ => none
      | .tableswitch _ _ _ _ => match st with
        | .int x :: r => mm_nx (mm_sw sw t x) ls r σ
        | _ => none
      | .lookupswitch _ _ => match st with
        | .int x :: r => mm_nx (mm_sw sw t x) ls r σ
        | _ => none
      | .getfield _ => match st with
        | .ref x :: r => match mm_obj σ.1 x a with
          | true => match k with
            | 0 => mm_nx (pc + len) ls (.int (σ.2.1 x b) :: r) σ
            | 1 => mm_nx (pc + len) ls (.long (σ.2.2.1 x b) :: r) σ
            | _ => mm_nx (pc + len) ls (mm_rv (σ.2.2.2 x b) :: r) σ
          | false => none
        | _ => none
      | .putfield _ => match st with
        | w :: .ref x :: r => match mm_obj σ.1 x a with
          | true => match k with
            | 0 => match w with
              | .int y => mm_nx (pc + len) ls r (mm_setI σ x b y)
              | _ => none
            | 1 => match w with
              | .long y => mm_nx (pc + len) ls r (mm_setL σ x b y)
              | _ => none
            | 2 => match w with
              | .ref y => mm_nx (pc + len) ls r (mm_setR σ x b (some y))
              | _ => none
            | _ => match w with
              | .int y => cond (mm_bit y) (mm_nx (pc + len) ls r (mm_setI σ x b y)) none
              | _ => none
          | false => none
        | _ => none
      | .iaload => match st with
        | .int i :: .ref x :: r => match Nat.blt x 1000000 with
          | true => match mm_arr σ.1 x 0 with
            | some n => cond (mm_inb i n) (mm_nx (pc + len) ls (.int (σ.2.1 x i.toNatClampNeg) :: r) σ) none
            | none => none
          | false => cond (Nat.blt x 1000002 && mm_inb i (X (x - 1000000)).1) (mm_nx (pc + len) ls (.int ((X (x - 1000000)).2 i.toNatClampNeg) :: r) σ) none
        | _ => none
      | .baload => match st with
        | .int i :: .ref x :: r => match mm_arr σ.1 x 2 with
          | some n => cond (mm_inb i n) (mm_nx (pc + len) ls (.int (σ.2.1 x i.toNatClampNeg) :: r) σ) none
          | none => none
        | _ => none
      | .laload => match st with
        | .int i :: .ref x :: r => match mm_arr σ.1 x 1 with
          | some n => cond (mm_inb i n) (mm_nx (pc + len) ls (.long (σ.2.2.1 x i.toNatClampNeg) :: r) σ) none
          | none => none
        | _ => none
      | .aaload => match st with
        | .int i :: .ref x :: r => match mm_arr σ.1 x 3 with
          | some n => cond (mm_inb i n) (mm_nx (pc + len) ls (mm_rv (σ.2.2.2 x i.toNatClampNeg) :: r) σ) none
          | none => none
        | _ => none
      | .iastore => match st with
        | .int y :: .int i :: .ref x :: r => match mm_arr σ.1 x 0 with
          | some n => cond (mm_inb i n) (mm_nx (pc + len) ls r (mm_setI σ x i.toNatClampNeg y)) none
          | none => none
        | _ => none
      | .bastore => match st with
        | .int y :: .int i :: .ref x :: r => match mm_arr σ.1 x 2 with
          | some n => cond (mm_inb i n && mm_bit y) (mm_nx (pc + len) ls r (mm_setI σ x i.toNatClampNeg y)) none
          | none => none
        | _ => none
      | .lastore => match st with
        | .long y :: .int i :: .ref x :: r => match mm_arr σ.1 x 1 with
          | some n => cond (mm_inb i n) (mm_nx (pc + len) ls r (mm_setL σ x i.toNatClampNeg y)) none
          | none => none
        | _ => none
      | .aastore => match st with
        | .ref y :: .int i :: .ref x :: r => match mm_obj σ.1 y a with
          | true => match mm_arr σ.1 x 3 with
            | some n => cond (mm_inb i n) (mm_nx (pc + len) ls r (mm_setR σ x i.toNatClampNeg (some y))) none
            | none => none
          | false => none
        | _ => none
      | .arraylength => match st with
        | .ref x :: r => match Nat.blt x 1000000 with
          | true => match mm_kd σ.1 x with
            | some (.inr (_, n)) => mm_nx (pc + len) ls (.int (Int32.ofNat n) :: r) σ
            | _ => none
          | false => cond (Nat.blt x 1000002) (mm_nx (pc + len) ls (.int (Int32.ofNat (X (x - 1000000)).1) :: r) σ) none
        | _ => none
      | .new _ => cond (Nat.blt σ.1.length 1000000) (mm_nx (pc + len) ls (.ref σ.1.length :: st) (mm_new σ (.inl a))) none
      | .newarray _ => match st with
        | .int n :: r => cond (!(decide (n < 0)) && Nat.blt n.toNatClampNeg 60000 && Nat.blt σ.1.length 1000000) (mm_nx (pc + len) ls (.ref σ.1.length :: r) (mm_new σ (.inr (k, n.toNatClampNeg)))) none
        | _ => none
      | .anewarray _ => match st with
        | .int n :: r => cond (!(decide (n < 0)) && Nat.blt n.toNatClampNeg 60000 && Nat.blt σ.1.length 1000000) (mm_nx (pc + len) ls (.ref σ.1.length :: r) (mm_new σ (.inr (3, n.toNatClampNeg)))) none
        | _ => none
      | .invokevirtual _ => mm_call1 Y t a b k (pc + len) ls st σ
      | .invokestatic _ => mm_call1 Y t a b k (pc + len) ls st σ
      | .invokespecial _ => match Nat.beq t 9 with
        | true => match st with
          | .ref _ :: r => cond (Nat.ble (mm_cats r) 8) (mm_nx (pc + len) ls r σ) none
          | _ => none
        | false => mm_call1 Y t a b k (pc + len) ls st σ
      | .ireturn => match st with
        | [.int x] => match Nat.beq k 0 with
          | true => some (.inr (.inl (some (.int x), σ)))
          | false => cond (mm_bit x) (some (.inr (.inl (some (.int x), σ)))) none
        | _ => none
      | .areturn => match st with
        | [.ref x] => some (.inr (.inl (some (.ref x), σ)))
        | _ => none
      | .lreturn => match st with
        | [.long x] => some (.inr (.inl (some (.long x), σ)))
        | _ => none
      | .return_ => match st with
        | [] => some (.inr (.inl (none, σ)))
        | _ => none
      | _ => none

section
variable (X : Nat → Nat × (Nat → Int32)) (Y : Nat → List Int32) (cf : Nat → List Value → mm_S → Option mm_R) (code : Nat → Option mm_E)
def mm_run : Nat → mm_C → Option mm_R
  | 0, _ => none
  | n + 1, c => match mm_step X Y code c with
    | none => none
    | some (.inl c') => mm_run n c'
    | some (.inr (.inl r)) => some r
    | some (.inr (.inr (id, args, pc, ls, st, σ))) => match cf id args σ with
      | none => none
      | some r => mm_run n (pc, ls, r.1.toList ++ st, r.2)
theorem mm_run_mono : ∀ (n k : Nat) (c : mm_C) (r : mm_R), mm_run X Y cf code n c = some r → mm_run X Y cf code (n + k) c = some r := by
  intro n
  induction n with
  | zero => intro k c r h; cases h
  | succ n ih =>
    intro k c r h
    rw [Nat.succ_add]
    simp only [mm_run] at h ⊢
    cases hs : mm_step X Y code c with
    | none => rw [hs] at h; cases h
    | some o =>
      rw [hs] at h
      rcases o with c' | r' | ⟨id, args, pc, ls, st, σ⟩
      · exact ih k c' r h
      · exact h
      · dsimp only at h ⊢
        cases hc : cf id args σ with
        | none => rw [hc] at h; cases h
        | some q => rw [hc] at h; exact ih k _ r h
noncomputable def mm_fix (c : mm_C) : Option mm_R := @dite _ (∃ r n, mm_run X Y cf code n c = some r) (Classical.propDecidable _) (fun h => some h.choose) (fun _ => none)
theorem mm_fix_some {c : mm_C} {r : mm_R} : mm_fix X Y cf code c = some r ↔ ∃ n, mm_run X Y cf code n c = some r := by
  unfold mm_fix
  by_cases h : ∃ r n, mm_run X Y cf code n c = some r
  · rw [dif_pos h]
    constructor
    · intro e
      rw [← Option.some.inj e]
      exact h.choose_spec
    · rintro ⟨n, hn⟩
      obtain ⟨k, hk⟩ := h.choose_spec
      have h1 := mm_run_mono X Y cf code n k c r hn
      have h2 := mm_run_mono X Y cf code k n c _ hk
      rw [Nat.add_comm] at h2
      rw [h1] at h2
      exact h2.symm
  · rw [dif_neg h]
    constructor
    · intro e; cases e
    · rintro ⟨n, hn⟩; exact absurd ⟨r, n, hn⟩ h
theorem mm_fix_none {c : mm_C} (h : mm_step X Y code c = none) : mm_fix X Y cf code c = none := by
  cases e : mm_fix X Y cf code c with
  | none => rfl
  | some r =>
    obtain ⟨n, hn⟩ := (mm_fix_some X Y cf code).mp e
    cases n with
    | zero => cases hn
    | succ n => simp only [mm_run, h] at hn; cases hn
theorem mm_fix_ret {c : mm_C} {r : mm_R} (h : mm_step X Y code c = some (.inr (.inl r))) : mm_fix X Y cf code c = some r :=
  (mm_fix_some X Y cf code).mpr ⟨1, by simp only [mm_run, h]⟩
theorem mm_fix_next {c c' : mm_C} (h : mm_step X Y code c = some (.inl c')) : mm_fix X Y cf code c = mm_fix X Y cf code c' := by
  apply Option.ext
  intro r
  rw [mm_fix_some, mm_fix_some]
  constructor
  · rintro ⟨n, hn⟩
    cases n with
    | zero => cases hn
    | succ n => simp only [mm_run, h] at hn; exact ⟨n, hn⟩
  · rintro ⟨n, hn⟩
    exact ⟨n + 1, by simp only [mm_run, h]; exact hn⟩
theorem mm_fix_call {c : mm_C} {id : Nat} {args : List Value} {pc : Nat} {ls : List (Option Value)} {st : List Value} {σ : mm_S} (h : mm_step X Y code c = some (.inr (.inr (id, args, pc, ls, st, σ)))) :
    mm_fix X Y cf code c = (cf id args σ).bind (fun r => mm_fix X Y cf code (pc, ls, r.1.toList ++ st, r.2)) := by
  apply Option.ext
  intro r
  rw [mm_fix_some]
  cases hc : cf id args σ with
  | none =>
    constructor
    · rintro ⟨n, hn⟩
      cases n with
      | zero => cases hn
      | succ n => simp only [mm_run, h, hc] at hn; cases hn
    · intro e; cases e
  | some q =>
    show _ ↔ mm_fix X Y cf code (pc, ls, q.1.toList ++ st, q.2) = some r
    rw [mm_fix_some]
    constructor
    · rintro ⟨n, hn⟩
      cases n with
      | zero => cases hn
      | succ n => simp only [mm_run, h, hc] at hn; exact ⟨n, hn⟩
    · rintro ⟨n, hn⟩
      exact ⟨n + 1, by simp only [mm_run, h, hc]; exact hn⟩
/-- so many rows on -/
def mm_go : Nat → mm_C → Option mm_C
  | 0, c => some c
  | n + 1, c => match mm_step X Y code c with
    | some (.inl c') => mm_go n c'
    | _ => none
theorem mm_fix_go : ∀ (n : Nat) {c c' : mm_C}, mm_go X Y code n c = some c' → mm_fix X Y cf code c = mm_fix X Y cf code c' := by
  intro n
  induction n with
  | zero => intro c c' h; cases h; rfl
  | succ n ih =>
    intro c c' h
    simp only [mm_go] at h
    cases hs : mm_step X Y code c with
    | none => rw [hs] at h; cases h
    | some o =>
      rw [hs] at h
      rcases o with c1 | r' | q
      · rw [mm_fix_next X Y cf code hs]; exact ih h
      · cases h
      · cases h
end
section
variable {X : Nat → Nat × (Nat → Int32)} {Y : Nat → List Int32} {cf : Nat → List Value → mm_S → Option mm_R} {code : Nat → Option mm_E}
theorem fx_go (n : Nat) {c c' : mm_C} {t : Option mm_R} (h : mm_go X Y code n c = some c') (k : mm_fix X Y cf code c' = t) : mm_fix X Y cf code c = t := (mm_fix_go X Y cf code n h).trans k
theorem fx_ret {c : mm_C} {r : mm_R} (h : mm_step X Y code c = some (.inr (.inl r))) : mm_fix X Y cf code c = some r := mm_fix_ret X Y cf code h
theorem fx_call {c : mm_C} {id : Nat} {args : List Value} {pc : Nat} {ls : List (Option Value)} {st : List Value} {σ : mm_S} {T : mm_R → Option mm_R} (h : mm_step X Y code c = some (.inr (.inr (id, args, pc, ls, st, σ)))) (k : ∀ v τ, mm_fix X Y cf code (pc, ls, v.toList ++ st, τ) = T (v, τ)) :
    mm_fix X Y cf code c = (cf id args σ).bind T := by
  rw [mm_fix_call X Y cf code h]
  congr 1
  funext r
  exact k r.1 r.2
theorem fx_br {c : mm_C} {p : Prop} [Decidable p] {a b : Nat} {ls : List (Option Value)} {st : List Value} {σ : mm_S} {t f : Option mm_R} (h : mm_step X Y code c = some (.inl (if p then a else b, ls, st, σ))) (kt : p → mm_fix X Y cf code (a, ls, st, σ) = t) (kf : ¬ p → mm_fix X Y cf code (b, ls, st, σ) = f) :
    mm_fix X Y cf code c = if p then t else f := by
  rw [mm_fix_next X Y cf code h]
  by_cases hp : p
  · rw [if_pos hp, if_pos hp]; exact kt hp
  · rw [if_neg hp, if_neg hp]; exact kf hp
theorem fx_ck {c c' : mm_C} {b : Bool} {t : Option mm_R} (h : mm_step X Y code c = cond b (some (.inl c')) none) (k : b = true → mm_fix X Y cf code c' = t) : mm_fix X Y cf code c = if b = true then t else none := by
  cases b with
  | true => rw [if_pos rfl, mm_fix_next X Y cf code h]; exact k rfl
  | false => rw [if_neg (by decide), mm_fix_none X Y cf code h]
end
/-- arguments as locals -/
def mm_sl : List Value → List (Option Value)
  | [] => []
  | v :: r => match mm_long (some v) with
    | true => some v :: none :: mm_sl r
    | false => some v :: mm_sl r
def mm_pad (n : Nat) (l : List (Option Value)) : List (Option Value) := l ++ List.replicate (n - l.length) none
def mm_ent (n : Nat) (args : List Value) : List (Option Value) := mm_pad n (mm_sl args)
def mm_md : List (Nat × MethodName × ByteArray × Nat × Option FieldType × List (List (Nat × mm_E))) → Nat → Option (Nat × List (List (Nat × mm_E)))
  | [], _ => none
  | (_, _, _, n, _, L) :: _, 0 => some (n, L)
  | _ :: r, k + 1 => mm_md r k
/-- a call, at most so deep -/
noncomputable def mm_call (X : Nat → Nat × (Nat → Int32)) (Y : Nat → List Int32) : Nat → Nat → List Value → mm_S → Option mm_R
  | 0, _, _, _ => none
  | d + 1, id, args, σ => match mm_md mm_tab id with
    | none => none
    | some (n, L) => match Nat.ble (mm_sl args).length n with
      | true => mm_fix X Y (mm_call X Y d) (mm_look L) (0, mm_ent n args, [], σ)
      | false => none
