/-! THE TWO CONSTRUCTORS, by program, over literal cells: ops (0, k: a new cell; 1, k, j, x: an int; 2, k, j, _, r: a reference). -/
abbrev mo_Op : Type := Nat × Nat × Nat × Int32 × Nat
def mo_I : List mo_Op → Nat → Nat → Int32
  | [], _, _ => 0
  | (t, k, j, x, _) :: O, a, b => match t with
    | 0 => if a = k then 0 else mo_I O a b
    | 1 => if a = k ∧ b = j then x else mo_I O a b
    | _ => mo_I O a b
def mo_L : List mo_Op → Nat → Nat → Int64
  | [], _, _ => 0
  | (t, k, _, _, _) :: O, a, b => match t with
    | 0 => if a = k then 0 else mo_L O a b
    | 1 => mo_L O a b
    | _ => mo_L O a b
def mo_R : List mo_Op → Nat → Nat → Option Nat
  | [], _, _ => none
  | (t, k, j, _, r) :: O, a, b => match t with
    | 0 => if a = k then none else mo_R O a b
    | 1 => mo_R O a b
    | _ => if a = k ∧ b = j then some r else mo_R O a b
def mm_KA : List mm_Kd := [.inl 0, .inl 1, .inr (0, 42), .inl 2, .inr (0, 3), .inr (0, 3), .inr (0, 3), .inr (0, 3), .inr (0, 6), .inr (0, 6), .inr (0, 6), .inr (0, 6), .inl 3, .inr (0, 40), .inr (0, 40), .inr (0, 40), .inr (0, 40), .inr (2, 40), .inr (2, 40), .inr (0, 40), .inr (0, 40), .inr (0, 40), .inr (0, 40), .inr (0, 40), .inr (0, 40), .inl 4, .inr (0, 16), .inr (0, 16), .inr (0, 16), .inr (2, 16), .inr (0, 16), .inr (0, 16), .inr (0, 16), .inr (0, 16), .inr (2, 16), .inr (0, 16), .inl 5, .inr (0, 600), .inr (3, 4), .inr (0, 5), .inl 7, .inr (0, 0), .inl 6, .inr (0, 24), .inr (0, 24), .inr (0, 24), .inr (0, 24), .inr (0, 600), .inr (0, 600), .inr (0, 64), .inr (0, 64), .inl 6, .inr (0, 24), .inr (0, 24), .inr (0, 24), .inr (0, 24), .inr (0, 600), .inr (0, 600), .inr (0, 64), .inl 6, .inr (0, 24), .inr (0, 24), .inr (0, 24), .inr (0, 24), .inr (0, 600), .inr (0, 600), .inr (0, 64), .inl 6, .inr (0, 24), .inr (0, 24), .inr (0, 24), .inr (0, 24), .inr (0, 600), .inr (0, 600), .inr (0, 64), .inl 6, .inr (0, 24), .inr (0, 24), .inr (0, 24), .inr (0, 24), .inr (0, 600), .inr (0, 600), .inr (0, 64), .inl 8, .inr (0, 200), .inr (0, 200), .inr (0, 200), .inr (0, 200), .inr (0, 200), .inr (2, 200), .inr (0, 200), .inr (1, 200), .inr (0, 100), .inr (0, 100), .inr (0, 100), .inl 9, .inr (0, 32), .inr (0, 32), .inr (0, 17), .inr (0, 8), .inr (0, 8), .inr (0, 8), .inr (0, 8), .inl 10, .inr (0, 16), .inr (2, 16), .inr (2, 16), .inr (0, 16), .inr (0, 16), .inr (0, 16), .inr (0, 16), .inr (0, 16), .inl 11, .inr (0, 8), .inr (0, 8), .inr (0, 8), .inr (0, 16), .inl 12, .inr (0, 17), .inr (0, 3), .inr (0, 3), .inr (0, 3), .inr (0, 3), .inr (0, 42), .inr (0, 6), .inr (0, 6), .inr (0, 6), .inr (0, 6), .inr (0, 16), .inr (0, 16), .inr (0, 16), .inr (2, 16), .inr (2, 16), .inr (0, 40), .inr (0, 40), .inr (0, 40), .inr (0, 40), .inr (0, 40), .inr (0, 40), .inr (0, 40), .inr (1, 40), .inr (2, 40), .inr (2, 40), .inr (0, 40), .inr (0, 40), .inr (0, 16), .inr (0, 16), .inr (0, 16), .inr (0, 16), .inr (0, 16), .inr (0, 16), .inr (0, 200), .inr (0, 200), .inr (0, 200), .inr (0, 100), .inr (0, 100), .inr (0, 100), .inr (2, 200), .inr (0, 4), .inr (0, 4), .inr (0, 96), .inr (0, 100), .inr (0, 96), .inr (0, 4880), .inr (0, 24), .inr (0, 25), .inr (0, 24), .inr (0, 1220), .inr (0, 600), .inr (0, 620), .inr (0, 6), .inr (0, 8), .inr (0, 8), .inr (0, 32), .inr (0, 32), .inr (0, 16), .inr (0, 16), .inr (0, 8), .inr (0, 8), .inr (0, 8)]
def mU (n : Nat) (O : List mo_Op) : mm_S := (mm_KA.take n, mo_I O, mo_L O, mo_R O)
theorem mm_kd_take : ∀ (K : List mm_Kd) (n x : Nat), x < n → mm_kd (K.take n) x = mm_kd K x
  | [], n, x, _ => by rw [List.take_nil]
  | a :: K, 0, x, h => absurd h (Nat.not_lt_zero _)
  | a :: K, n + 1, 0, _ => rfl
  | a :: K, n + 1, x + 1, h => mm_kd_take K n x (Nat.lt_of_succ_lt_succ h)
theorem mm_take_kd : ∀ (K : List mm_Kd) (n : Nat) (kd : mm_Kd), mm_kd K n = some kd → K.take n ++ [kd] = K.take (n + 1) ∧ (K.take n).length = n
  | [], n, kd, h => by cases n <;> cases h
  | a :: K, 0, kd, h => by
    have : a = kd := Option.some.inj h
    subst this
    exact ⟨rfl, rfl⟩
  | a :: K, n + 1, kd, h => by
    have := mm_take_kd K n kd h
    exact ⟨congrArg (a :: ·) this.1, congrArg Nat.succ this.2⟩
section UNIT
variable {X : Nat → Nat × (Nat → Int32)} {Y : Nat → List Int32} {cf : Nat → List Value → mm_S → Option mm_R} {code : Nat → Option mm_E} {pc len a b k t n x y : Nat} {v : Value} {sw : List (Int32 × Nat)} {ls : List (Option Value)} {st : List Value} {O : List mo_Op} {T : Option mm_R}
theorem mU_new {kd : mm_Kd} (hk : mm_kd mm_KA n = some kd) : mm_new (mU n O) kd = mU (n + 1) ((0, n, 0, 0, 0) :: O) := by
  have := mm_take_kd mm_KA n kd hk
  show (mm_KA.take n ++ [kd], (fun a b => if a = (mm_KA.take n).length then 0 else mo_I O a b), (fun a b => if a = (mm_KA.take n).length then 0 else mo_L O a b), fun a b => if a = (mm_KA.take n).length then none else mo_R O a b) = _
  rw [this.1, this.2]
  rfl
theorem mU_obj {c : Nat} (h : Nat.blt x n = true) (ho : mm_obj mm_KA x c = true) : mm_obj (mU n O).1 x c = true := by
  have h' : x < n := Nat.le_of_ble_eq_true h
  unfold mm_obj at ho ⊢
  have e : mm_kd (mU n O).1 x = mm_kd mm_KA x := mm_kd_take mm_KA n x h'
  rw [e]
  exact ho
theorem mU_arr {c m : Nat} (h : Nat.blt x n = true) (ho : mm_arr mm_KA x c = some m) : mm_arr (mU n O).1 x c = some m := by
  have h' : x < n := Nat.le_of_ble_eq_true h
  unfold mm_arr at ho ⊢
  have e : mm_kd (mU n O).1 x = mm_kd mm_KA x := mm_kd_take mm_KA n x h'
  rw [e]
  exact ho
theorem mU_len {kd : mm_Kd} (hk : mm_kd mm_KA n = some kd) : (mU n O).1.length = n := (mm_take_kd mm_KA n kd hk).2
theorem sv_st {c c' : mm_C} (h : mm_step X Y code c = some (.inl c')) (k : mm_fix X Y cf code c' = T) : mm_fix X Y cf code c = T := (mm_fix_next X Y cf code h).trans k
theorem sv_call {c : mm_C} {id : Nat} {args : List Value} {pc : Nat} {ls : List (Option Value)} {st : List Value} {σ τ : mm_S} (h : mm_step X Y code c = some (.inr (.inr (id, args, pc, ls, st, σ)))) (hc : cf id args σ = some (none, τ)) (k : mm_fix X Y cf code (pc, ls, st, τ) = T) : mm_fix X Y cf code c = T := by
  rw [mm_fix_call X Y cf code h, hc]
  exact k
theorem su_new {i} (hc : code pc = some (.new i, len, v, t, a, b, k, sw)) (hk : mm_kd mm_KA n = some (.inl a)) (hn : Nat.blt n 1000000 = true) : mm_step X Y code (pc, ls, st, mU n O) = some (.inl (pc + len, ls, .ref n :: st, mU (n + 1) ((0, n, 0, 0, 0) :: O))) := by
  simp only [mm_step, hc, mU_len hk, hn, mU_new hk]
  rfl
theorem su_na {i} {m : Int32} {w : Nat} (hc : code pc = some (.newarray i, len, v, t, a, b, k, sw)) (hm : (!(decide (m < 0)) && Nat.blt w 60000) = true) (hw : m.toNatClampNeg = w) (hk : mm_kd mm_KA n = some (.inr (k, w))) (hn : Nat.blt n 1000000 = true) : mm_step X Y code (pc, ls, .int m :: st, mU n O) = some (.inl (pc + len, ls, .ref n :: st, mU (n + 1) ((0, n, 0, 0, 0) :: O))) := by
  simp only [mm_step, hc, mU_len hk, hn, hw, hm, mU_new hk, Bool.and_true]
  rfl
theorem su_an {i} {m : Int32} {w : Nat} (hc : code pc = some (.anewarray i, len, v, t, a, b, k, sw)) (hm : (!(decide (m < 0)) && Nat.blt w 60000) = true) (hw : m.toNatClampNeg = w) (hk : mm_kd mm_KA n = some (.inr (3, w))) (hn : Nat.blt n 1000000 = true) : mm_step X Y code (pc, ls, .int m :: st, mU n O) = some (.inl (pc + len, ls, .ref n :: st, mU (n + 1) ((0, n, 0, 0, 0) :: O))) := by
  simp only [mm_step, hc, mU_len hk, hn, hw, hm, mU_new hk, Bool.and_true]
  rfl
theorem su_pI {i} {w : Int32} (hc : code pc = some (.putfield i, len, v, t, a, b, 0, sw)) (hx : Nat.blt x n = true) (ho : mm_obj mm_KA x a = true) : mm_step X Y code (pc, ls, .int w :: .ref x :: st, mU n O) = some (.inl (pc + len, ls, st, mU n ((1, x, b, w, 0) :: O))) := by
  simp only [mm_step, hc, mU_obj hx ho]
  rfl
theorem su_pR {i} (hc : code pc = some (.putfield i, len, v, t, a, b, 2, sw)) (hx : Nat.blt x n = true) (ho : mm_obj mm_KA x a = true) : mm_step X Y code (pc, ls, .ref y :: .ref x :: st, mU n O) = some (.inl (pc + len, ls, st, mU n ((2, x, b, 0, y) :: O))) := by
  simp only [mm_step, hc, mU_obj hx ho]
  rfl
theorem su_gR {i} (hc : code pc = some (.getfield i, len, v, t, a, b, 2, sw)) (hx : Nat.blt x n = true) (ho : mm_obj mm_KA x a = true) (hy : mo_R O x b = some y) : mm_step X Y code (pc, ls, .ref x :: st, mU n O) = some (.inl (pc + len, ls, .ref y :: st, mU n O)) := by
  have e : (mU n O).2.2.2 x b = some y := hy
  simp only [mm_step, hc, mU_obj hx ho, e]
  rfl
theorem su_iS {m w : Int32} {j N : Nat} (hc : code pc = some (.iastore, 1, v, t, a, b, k, sw)) (hx : Nat.blt x n = true) (ho : mm_arr mm_KA x 0 = some N) (hi : mm_inb m N = true) (hj : m.toNatClampNeg = j) : mm_step X Y code (pc, ls, .int w :: .int m :: .ref x :: st, mU n O) = some (.inl (pc + 1, ls, st, mU n ((1, x, j, w, 0) :: O))) := by
  simp only [mm_step, hc, mU_arr hx ho, hi, hj]
  rfl
theorem su_aS {m : Int32} {j N : Nat} (hc : code pc = some (.aastore, 1, v, t, a, b, k, sw)) (hx : Nat.blt x n = true) (ho : mm_arr mm_KA x 3 = some N) (hi : mm_inb m N = true) (hj : m.toNatClampNeg = j) (hy : Nat.blt y n = true) (ho2 : mm_obj mm_KA y a = true) : mm_step X Y code (pc, ls, .ref y :: .int m :: .ref x :: st, mU n O) = some (.inl (pc + 1, ls, st, mU n ((2, x, j, 0, y) :: O))) := by
  simp only [mm_step, hc, mU_arr hx ho, mU_obj hy ho2, hi, hj]
  rfl
theorem su_c {id pc' : Nat} {args rest : List Value} {c : mm_C} (h1 : mm_step X Y code c = mm_call1 Y 0 id b k pc' ls st (mU n O)) (h2 : mm_pops b [] st = some (.ref x :: args, rest)) (h3 : Nat.ble (mm_cats rest) 8 = true) (hx : Nat.blt x n = true) (ho : mm_obj mm_KA x k = true) : mm_step X Y code c = some (.inr (.inr (id, .ref x :: args, pc', ls, rest, mU n O))) := by
  rw [h1]
  unfold mm_call1
  have e : Nat.ble 10 0 = false := rfl
  have e2 : mm_head 0 k (mU n O).1 (.ref x :: args) = true := by
    have h := mU_obj (O := O) hx ho
    unfold mm_obj at h
    show (Nat.blt x 1000000 && (match mm_kd (mU n O).1 x with | some (.inl ci) => Nat.beq ci k | _ => false)) = true
    cases hb : Nat.blt x 1000000 with
    | false => rw [hb] at h; cases h
    | true =>
      rw [hb] at h
      cases hk : mm_kd (mU n O).1 x with
      | none => rw [hk] at h; cases h
      | some o =>
        rw [hk] at h
        rcases o with o | o
        · exact h
        · cases h
  simp only [e, h2, h3, e2]
  rfl
end UNIT
def oo_1 : List mo_Op := (0, 0, 0, 0, 0) :: []
def oo_2 : List mo_Op := (0, 1, 0, 0, 0) :: oo_1
def oo_3 : List mo_Op := (0, 2, 0, 0, 0) :: oo_2
def oo_4 : List mo_Op := (2, 1, 0, 0, 2) :: oo_3
def oo_5 : List mo_Op := (1, 1, 1, 64, 0) :: oo_4
def oo_6 : List mo_Op := (1, 1, 2, 28, 0) :: oo_5
def oo_7 : List mo_Op := (2, 0, 0, 0, 1) :: oo_6
def oo_8 : List mo_Op := (0, 3, 0, 0, 0) :: oo_7
def oo_9 : List mo_Op := (0, 4, 0, 0, 0) :: oo_8
def oo_10 : List mo_Op := (1, 4, 0, 100, 0) :: oo_9
def oo_11 : List mo_Op := (1, 4, 1, 100, 0) :: oo_10
def oo_12 : List mo_Op := (1, 4, 2, 100, 0) :: oo_11
def oo_13 : List mo_Op := (2, 3, 0, 0, 4) :: oo_12
def oo_14 : List mo_Op := (0, 5, 0, 0, 0) :: oo_13
def oo_15 : List mo_Op := (1, 5, 0, 60, 0) :: oo_14
def oo_16 : List mo_Op := (1, 5, 1, 60, 0) :: oo_15
def oo_17 : List mo_Op := (1, 5, 2, 60, 0) :: oo_16
def oo_18 : List mo_Op := (2, 3, 1, 0, 5) :: oo_17
def oo_19 : List mo_Op := (0, 6, 0, 0, 0) :: oo_18
def oo_20 : List mo_Op := (1, 6, 0, 5, 0) :: oo_19
def oo_21 : List mo_Op := (1, 6, 1, 5, 0) :: oo_20
def oo_22 : List mo_Op := (1, 6, 2, 5, 0) :: oo_21
def oo_23 : List mo_Op := (2, 3, 2, 0, 6) :: oo_22
def oo_24 : List mo_Op := (0, 7, 0, 0, 0) :: oo_23
def oo_25 : List mo_Op := (2, 3, 3, 0, 7) :: oo_24
def oo_26 : List mo_Op := (0, 8, 0, 0, 0) :: oo_25
def oo_27 : List mo_Op := (2, 3, 4, 0, 8) :: oo_26
def oo_28 : List mo_Op := (0, 9, 0, 0, 0) :: oo_27
def oo_29 : List mo_Op := (2, 3, 5, 0, 9) :: oo_28
def oo_30 : List mo_Op := (0, 10, 0, 0, 0) :: oo_29
def oo_31 : List mo_Op := (2, 3, 6, 0, 10) :: oo_30
def oo_32 : List mo_Op := (0, 11, 0, 0, 0) :: oo_31
def oo_33 : List mo_Op := (2, 3, 7, 0, 11) :: oo_32
def oo_34 : List mo_Op := (1, 3, 9, 6, 0) :: oo_33
def oo_35 : List mo_Op := (2, 0, 1, 0, 3) :: oo_34
def oo_36 : List mo_Op := (0, 12, 0, 0, 0) :: oo_35
def oo_37 : List mo_Op := (0, 13, 0, 0, 0) :: oo_36
def oo_38 : List mo_Op := (2, 12, 0, 0, 13) :: oo_37
def oo_39 : List mo_Op := (0, 14, 0, 0, 0) :: oo_38
def oo_40 : List mo_Op := (2, 12, 1, 0, 14) :: oo_39
def oo_41 : List mo_Op := (0, 15, 0, 0, 0) :: oo_40
def oo_42 : List mo_Op := (2, 12, 2, 0, 15) :: oo_41
def oo_43 : List mo_Op := (0, 16, 0, 0, 0) :: oo_42
def oo_44 : List mo_Op := (2, 12, 3, 0, 16) :: oo_43
def oo_45 : List mo_Op := (0, 17, 0, 0, 0) :: oo_44
def oo_46 : List mo_Op := (2, 12, 4, 0, 17) :: oo_45
def oo_47 : List mo_Op := (0, 18, 0, 0, 0) :: oo_46
def oo_48 : List mo_Op := (2, 12, 5, 0, 18) :: oo_47
def oo_49 : List mo_Op := (0, 19, 0, 0, 0) :: oo_48
def oo_50 : List mo_Op := (2, 12, 6, 0, 19) :: oo_49
def oo_51 : List mo_Op := (0, 20, 0, 0, 0) :: oo_50
def oo_52 : List mo_Op := (2, 12, 7, 0, 20) :: oo_51
def oo_53 : List mo_Op := (0, 21, 0, 0, 0) :: oo_52
def oo_54 : List mo_Op := (2, 12, 8, 0, 21) :: oo_53
def oo_55 : List mo_Op := (0, 22, 0, 0, 0) :: oo_54
def oo_56 : List mo_Op := (2, 12, 9, 0, 22) :: oo_55
def oo_57 : List mo_Op := (0, 23, 0, 0, 0) :: oo_56
def oo_58 : List mo_Op := (2, 12, 10, 0, 23) :: oo_57
def oo_59 : List mo_Op := (0, 24, 0, 0, 0) :: oo_58
def oo_60 : List mo_Op := (2, 12, 11, 0, 24) :: oo_59
def oo_61 : List mo_Op := (2, 0, 2, 0, 12) :: oo_60
def oo_62 : List mo_Op := (0, 25, 0, 0, 0) :: oo_61
def oo_63 : List mo_Op := (0, 26, 0, 0, 0) :: oo_62
def oo_64 : List mo_Op := (2, 25, 0, 0, 26) :: oo_63
def oo_65 : List mo_Op := (0, 27, 0, 0, 0) :: oo_64
def oo_66 : List mo_Op := (2, 25, 1, 0, 27) :: oo_65
def oo_67 : List mo_Op := (0, 28, 0, 0, 0) :: oo_66
def oo_68 : List mo_Op := (2, 25, 2, 0, 28) :: oo_67
def oo_69 : List mo_Op := (0, 29, 0, 0, 0) :: oo_68
def oo_70 : List mo_Op := (2, 25, 3, 0, 29) :: oo_69
def oo_71 : List mo_Op := (0, 30, 0, 0, 0) :: oo_70
def oo_72 : List mo_Op := (2, 25, 4, 0, 30) :: oo_71
def oo_73 : List mo_Op := (0, 31, 0, 0, 0) :: oo_72
def oo_74 : List mo_Op := (2, 25, 5, 0, 31) :: oo_73
def oo_75 : List mo_Op := (0, 32, 0, 0, 0) :: oo_74
def oo_76 : List mo_Op := (2, 25, 6, 0, 32) :: oo_75
def oo_77 : List mo_Op := (0, 33, 0, 0, 0) :: oo_76
def oo_78 : List mo_Op := (2, 25, 7, 0, 33) :: oo_77
def oo_79 : List mo_Op := (0, 34, 0, 0, 0) :: oo_78
def oo_80 : List mo_Op := (2, 25, 8, 0, 34) :: oo_79
def oo_81 : List mo_Op := (0, 35, 0, 0, 0) :: oo_80
def oo_82 : List mo_Op := (2, 25, 9, 0, 35) :: oo_81
def oo_83 : List mo_Op := (1, 25, 10, 1, 0) :: oo_82
def oo_84 : List mo_Op := (1, 25, 11, 40, 0) :: oo_83
def oo_85 : List mo_Op := (1, 26, 0, (-1), 0) :: oo_84
def oo_86 : List mo_Op := (2, 0, 3, 0, 25) :: oo_85
def oo_87 : List mo_Op := (0, 36, 0, 0, 0) :: oo_86
def oo_88 : List mo_Op := (0, 37, 0, 0, 0) :: oo_87
def oo_89 : List mo_Op := (2, 36, 0, 0, 37) :: oo_88
def oo_90 : List mo_Op := (0, 38, 0, 0, 0) :: oo_89
def oo_91 : List mo_Op := (2, 36, 1, 0, 38) :: oo_90
def oo_92 : List mo_Op := (0, 39, 0, 0, 0) :: oo_91
def oo_93 : List mo_Op := (2, 36, 2, 0, 39) :: oo_92
def oo_94 : List mo_Op := (0, 40, 0, 0, 0) :: oo_93
def oo_95 : List mo_Op := (0, 41, 0, 0, 0) :: oo_94
def oo_96 : List mo_Op := (2, 40, 0, 0, 41) :: oo_95
def oo_97 : List mo_Op := (0, 42, 0, 0, 0) :: oo_96
def oo_98 : List mo_Op := (0, 43, 0, 0, 0) :: oo_97
def oo_99 : List mo_Op := (2, 42, 0, 0, 43) :: oo_98
def oo_100 : List mo_Op := (0, 44, 0, 0, 0) :: oo_99
def oo_101 : List mo_Op := (2, 42, 1, 0, 44) :: oo_100
def oo_102 : List mo_Op := (0, 45, 0, 0, 0) :: oo_101
def oo_103 : List mo_Op := (2, 42, 2, 0, 45) :: oo_102
def oo_104 : List mo_Op := (0, 46, 0, 0, 0) :: oo_103
def oo_105 : List mo_Op := (2, 42, 3, 0, 46) :: oo_104
def oo_106 : List mo_Op := (0, 47, 0, 0, 0) :: oo_105
def oo_107 : List mo_Op := (2, 42, 4, 0, 47) :: oo_106
def oo_108 : List mo_Op := (0, 48, 0, 0, 0) :: oo_107
def oo_109 : List mo_Op := (2, 42, 5, 0, 48) :: oo_108
def oo_110 : List mo_Op := (0, 49, 0, 0, 0) :: oo_109
def oo_111 : List mo_Op := (2, 42, 6, 0, 49) :: oo_110
def oo_112 : List mo_Op := (2, 40, 6, 0, 42) :: oo_111
def oo_113 : List mo_Op := (0, 50, 0, 0, 0) :: oo_112
def oo_114 : List mo_Op := (2, 40, 9, 0, 50) :: oo_113
def oo_115 : List mo_Op := (2, 36, 4, 0, 40) :: oo_114
def oo_116 : List mo_Op := (1, 36, 7, (-1), 0) :: oo_115
def oo_117 : List mo_Op := (1, 36, 9, (-1), 0) :: oo_116
def oo_118 : List mo_Op := (0, 51, 0, 0, 0) :: oo_117
def oo_119 : List mo_Op := (0, 52, 0, 0, 0) :: oo_118
def oo_120 : List mo_Op := (2, 51, 0, 0, 52) :: oo_119
def oo_121 : List mo_Op := (0, 53, 0, 0, 0) :: oo_120
def oo_122 : List mo_Op := (2, 51, 1, 0, 53) :: oo_121
def oo_123 : List mo_Op := (0, 54, 0, 0, 0) :: oo_122
def oo_124 : List mo_Op := (2, 51, 2, 0, 54) :: oo_123
def oo_125 : List mo_Op := (0, 55, 0, 0, 0) :: oo_124
def oo_126 : List mo_Op := (2, 51, 3, 0, 55) :: oo_125
def oo_127 : List mo_Op := (0, 56, 0, 0, 0) :: oo_126
def oo_128 : List mo_Op := (2, 51, 4, 0, 56) :: oo_127
def oo_129 : List mo_Op := (0, 57, 0, 0, 0) :: oo_128
def oo_130 : List mo_Op := (2, 51, 5, 0, 57) :: oo_129
def oo_131 : List mo_Op := (0, 58, 0, 0, 0) :: oo_130
def oo_132 : List mo_Op := (2, 51, 6, 0, 58) :: oo_131
def oo_133 : List mo_Op := (2, 38, 0, 0, 51) :: oo_132
def oo_134 : List mo_Op := (0, 59, 0, 0, 0) :: oo_133
def oo_135 : List mo_Op := (0, 60, 0, 0, 0) :: oo_134
def oo_136 : List mo_Op := (2, 59, 0, 0, 60) :: oo_135
def oo_137 : List mo_Op := (0, 61, 0, 0, 0) :: oo_136
def oo_138 : List mo_Op := (2, 59, 1, 0, 61) :: oo_137
def oo_139 : List mo_Op := (0, 62, 0, 0, 0) :: oo_138
def oo_140 : List mo_Op := (2, 59, 2, 0, 62) :: oo_139
def oo_141 : List mo_Op := (0, 63, 0, 0, 0) :: oo_140
def oo_142 : List mo_Op := (2, 59, 3, 0, 63) :: oo_141
def oo_143 : List mo_Op := (0, 64, 0, 0, 0) :: oo_142
def oo_144 : List mo_Op := (2, 59, 4, 0, 64) :: oo_143
def oo_145 : List mo_Op := (0, 65, 0, 0, 0) :: oo_144
def oo_146 : List mo_Op := (2, 59, 5, 0, 65) :: oo_145
def oo_147 : List mo_Op := (0, 66, 0, 0, 0) :: oo_146
def oo_148 : List mo_Op := (2, 59, 6, 0, 66) :: oo_147
def oo_149 : List mo_Op := (2, 38, 1, 0, 59) :: oo_148
def oo_150 : List mo_Op := (0, 67, 0, 0, 0) :: oo_149
def oo_151 : List mo_Op := (0, 68, 0, 0, 0) :: oo_150
def oo_152 : List mo_Op := (2, 67, 0, 0, 68) :: oo_151
def oo_153 : List mo_Op := (0, 69, 0, 0, 0) :: oo_152
def oo_154 : List mo_Op := (2, 67, 1, 0, 69) :: oo_153
def oo_155 : List mo_Op := (0, 70, 0, 0, 0) :: oo_154
def oo_156 : List mo_Op := (2, 67, 2, 0, 70) :: oo_155
def oo_157 : List mo_Op := (0, 71, 0, 0, 0) :: oo_156
def oo_158 : List mo_Op := (2, 67, 3, 0, 71) :: oo_157
def oo_159 : List mo_Op := (0, 72, 0, 0, 0) :: oo_158
def oo_160 : List mo_Op := (2, 67, 4, 0, 72) :: oo_159
def oo_161 : List mo_Op := (0, 73, 0, 0, 0) :: oo_160
def oo_162 : List mo_Op := (2, 67, 5, 0, 73) :: oo_161
def oo_163 : List mo_Op := (0, 74, 0, 0, 0) :: oo_162
def oo_164 : List mo_Op := (2, 67, 6, 0, 74) :: oo_163
def oo_165 : List mo_Op := (2, 38, 2, 0, 67) :: oo_164
def oo_166 : List mo_Op := (0, 75, 0, 0, 0) :: oo_165
def oo_167 : List mo_Op := (0, 76, 0, 0, 0) :: oo_166
def oo_168 : List mo_Op := (2, 75, 0, 0, 76) :: oo_167
def oo_169 : List mo_Op := (0, 77, 0, 0, 0) :: oo_168
def oo_170 : List mo_Op := (2, 75, 1, 0, 77) :: oo_169
def oo_171 : List mo_Op := (0, 78, 0, 0, 0) :: oo_170
def oo_172 : List mo_Op := (2, 75, 2, 0, 78) :: oo_171
def oo_173 : List mo_Op := (0, 79, 0, 0, 0) :: oo_172
def oo_174 : List mo_Op := (2, 75, 3, 0, 79) :: oo_173
def oo_175 : List mo_Op := (0, 80, 0, 0, 0) :: oo_174
def oo_176 : List mo_Op := (2, 75, 4, 0, 80) :: oo_175
def oo_177 : List mo_Op := (0, 81, 0, 0, 0) :: oo_176
def oo_178 : List mo_Op := (2, 75, 5, 0, 81) :: oo_177
def oo_179 : List mo_Op := (0, 82, 0, 0, 0) :: oo_178
def oo_180 : List mo_Op := (2, 75, 6, 0, 82) :: oo_179
def oo_181 : List mo_Op := (2, 38, 3, 0, 75) :: oo_180
def oo_182 : List mo_Op := (2, 0, 4, 0, 36) :: oo_181
def oo_183 : List mo_Op := (0, 83, 0, 0, 0) :: oo_182
def oo_184 : List mo_Op := (0, 84, 0, 0, 0) :: oo_183
def oo_185 : List mo_Op := (2, 83, 0, 0, 84) :: oo_184
def oo_186 : List mo_Op := (0, 85, 0, 0, 0) :: oo_185
def oo_187 : List mo_Op := (2, 83, 1, 0, 85) :: oo_186
def oo_188 : List mo_Op := (0, 86, 0, 0, 0) :: oo_187
def oo_189 : List mo_Op := (2, 83, 2, 0, 86) :: oo_188
def oo_190 : List mo_Op := (0, 87, 0, 0, 0) :: oo_189
def oo_191 : List mo_Op := (2, 83, 3, 0, 87) :: oo_190
def oo_192 : List mo_Op := (0, 88, 0, 0, 0) :: oo_191
def oo_193 : List mo_Op := (2, 83, 4, 0, 88) :: oo_192
def oo_194 : List mo_Op := (0, 89, 0, 0, 0) :: oo_193
def oo_195 : List mo_Op := (2, 83, 5, 0, 89) :: oo_194
def oo_196 : List mo_Op := (0, 90, 0, 0, 0) :: oo_195
def oo_197 : List mo_Op := (2, 83, 6, 0, 90) :: oo_196
def oo_198 : List mo_Op := (0, 91, 0, 0, 0) :: oo_197
def oo_199 : List mo_Op := (2, 83, 7, 0, 91) :: oo_198
def oo_200 : List mo_Op := (0, 92, 0, 0, 0) :: oo_199
def oo_201 : List mo_Op := (2, 83, 9, 0, 92) :: oo_200
def oo_202 : List mo_Op := (0, 93, 0, 0, 0) :: oo_201
def oo_203 : List mo_Op := (2, 83, 10, 0, 93) :: oo_202
def oo_204 : List mo_Op := (0, 94, 0, 0, 0) :: oo_203
def oo_205 : List mo_Op := (2, 83, 11, 0, 94) :: oo_204
def oo_206 : List mo_Op := (2, 0, 5, 0, 83) :: oo_205
def oo_207 : List mo_Op := (0, 95, 0, 0, 0) :: oo_206
def oo_208 : List mo_Op := (0, 96, 0, 0, 0) :: oo_207
def oo_209 : List mo_Op := (2, 95, 0, 0, 96) :: oo_208
def oo_210 : List mo_Op := (0, 97, 0, 0, 0) :: oo_209
def oo_211 : List mo_Op := (2, 95, 1, 0, 97) :: oo_210
def oo_212 : List mo_Op := (0, 98, 0, 0, 0) :: oo_211
def oo_213 : List mo_Op := (2, 95, 2, 0, 98) :: oo_212
def oo_214 : List mo_Op := (0, 99, 0, 0, 0) :: oo_213
def oo_215 : List mo_Op := (2, 95, 3, 0, 99) :: oo_214
def oo_216 : List mo_Op := (0, 100, 0, 0, 0) :: oo_215
def oo_217 : List mo_Op := (2, 95, 4, 0, 100) :: oo_216
def oo_218 : List mo_Op := (0, 101, 0, 0, 0) :: oo_217
def oo_219 : List mo_Op := (2, 95, 5, 0, 101) :: oo_218
def oo_220 : List mo_Op := (0, 102, 0, 0, 0) :: oo_219
def oo_221 : List mo_Op := (2, 95, 6, 0, 102) :: oo_220
def oo_222 : List mo_Op := (2, 0, 6, 0, 95) :: oo_221
def oo_223 : List mo_Op := (0, 103, 0, 0, 0) :: oo_222
def oo_224 : List mo_Op := (0, 104, 0, 0, 0) :: oo_223
def oo_225 : List mo_Op := (2, 103, 0, 0, 104) :: oo_224
def oo_226 : List mo_Op := (0, 105, 0, 0, 0) :: oo_225
def oo_227 : List mo_Op := (2, 103, 1, 0, 105) :: oo_226
def oo_228 : List mo_Op := (0, 106, 0, 0, 0) :: oo_227
def oo_229 : List mo_Op := (2, 103, 2, 0, 106) :: oo_228
def oo_230 : List mo_Op := (0, 107, 0, 0, 0) :: oo_229
def oo_231 : List mo_Op := (2, 103, 3, 0, 107) :: oo_230
def oo_232 : List mo_Op := (0, 108, 0, 0, 0) :: oo_231
def oo_233 : List mo_Op := (2, 103, 4, 0, 108) :: oo_232
def oo_234 : List mo_Op := (0, 109, 0, 0, 0) :: oo_233
def oo_235 : List mo_Op := (2, 103, 5, 0, 109) :: oo_234
def oo_236 : List mo_Op := (0, 110, 0, 0, 0) :: oo_235
def oo_237 : List mo_Op := (2, 103, 6, 0, 110) :: oo_236
def oo_238 : List mo_Op := (0, 111, 0, 0, 0) :: oo_237
def oo_239 : List mo_Op := (2, 103, 7, 0, 111) :: oo_238
def oo_240 : List mo_Op := (1, 104, 0, (-1), 0) :: oo_239
def oo_241 : List mo_Op := (1, 104, 1, (-1), 0) :: oo_240
def oo_242 : List mo_Op := (1, 104, 2, (-1), 0) :: oo_241
def oo_243 : List mo_Op := (1, 104, 3, (-1), 0) :: oo_242
def oo_244 : List mo_Op := (1, 104, 4, (-1), 0) :: oo_243
def oo_245 : List mo_Op := (1, 104, 5, (-1), 0) :: oo_244
def oo_246 : List mo_Op := (1, 104, 6, (-1), 0) :: oo_245
def oo_247 : List mo_Op := (1, 104, 7, (-1), 0) :: oo_246
def oo_248 : List mo_Op := (1, 104, 8, (-1), 0) :: oo_247
def oo_249 : List mo_Op := (1, 104, 9, (-1), 0) :: oo_248
def oo_250 : List mo_Op := (1, 104, 10, (-1), 0) :: oo_249
def oo_251 : List mo_Op := (1, 104, 11, (-1), 0) :: oo_250
def oo_252 : List mo_Op := (1, 104, 12, (-1), 0) :: oo_251
def oo_253 : List mo_Op := (1, 104, 13, (-1), 0) :: oo_252
def oo_254 : List mo_Op := (1, 104, 14, (-1), 0) :: oo_253
def oo_255 : List mo_Op := (1, 104, 15, (-1), 0) :: oo_254
def oo_256 : List mo_Op := (2, 0, 7, 0, 103) :: oo_255
def oo_257 : List mo_Op := (0, 112, 0, 0, 0) :: oo_256
def oo_258 : List mo_Op := (0, 113, 0, 0, 0) :: oo_257
def oo_259 : List mo_Op := (2, 112, 0, 0, 113) :: oo_258
def oo_260 : List mo_Op := (0, 114, 0, 0, 0) :: oo_259
def oo_261 : List mo_Op := (2, 112, 1, 0, 114) :: oo_260
def oo_262 : List mo_Op := (0, 115, 0, 0, 0) :: oo_261
def oo_263 : List mo_Op := (2, 112, 2, 0, 115) :: oo_262
def oo_264 : List mo_Op := (0, 116, 0, 0, 0) :: oo_263
def oo_265 : List mo_Op := (2, 112, 3, 0, 116) :: oo_264
def oo_266 : List mo_Op := (2, 0, 8, 0, 112) :: oo_265
def oo_267 : List mo_Op := (0, 117, 0, 0, 0) :: oo_266
def oo_268 : List mo_Op := (0, 118, 0, 0, 0) :: oo_267
def oo_269 : List mo_Op := (1, 118, 0, 0, 0) :: oo_268
def oo_270 : List mo_Op := (1, 118, 1, 1, 0) :: oo_269
def oo_271 : List mo_Op := (1, 118, 2, 3, 0) :: oo_270
def oo_272 : List mo_Op := (1, 118, 3, 6, 0) :: oo_271
def oo_273 : List mo_Op := (1, 118, 4, 10, 0) :: oo_272
def oo_274 : List mo_Op := (1, 118, 5, 15, 0) :: oo_273
def oo_275 : List mo_Op := (1, 118, 6, 21, 0) :: oo_274
def oo_276 : List mo_Op := (1, 118, 7, 28, 0) :: oo_275
def oo_277 : List mo_Op := (1, 118, 8, 36, 0) :: oo_276
def oo_278 : List mo_Op := (1, 118, 9, 44, 0) :: oo_277
def oo_279 : List mo_Op := (1, 118, 10, 51, 0) :: oo_278
def oo_280 : List mo_Op := (1, 118, 11, 57, 0) :: oo_279
def oo_281 : List mo_Op := (1, 118, 12, 62, 0) :: oo_280
def oo_282 : List mo_Op := (1, 118, 13, 66, 0) :: oo_281
def oo_283 : List mo_Op := (1, 118, 14, 69, 0) :: oo_282
def oo_284 : List mo_Op := (1, 118, 15, 71, 0) :: oo_283
def oo_285 : List mo_Op := (1, 118, 16, 72, 0) :: oo_284
def oo_286 : List mo_Op := (2, 117, 0, 0, 118) :: oo_285
def oo_287 : List mo_Op := (1, 117, 2, 6, 0) :: oo_286
def oo_288 : List mo_Op := (1, 117, 7, 1, 0) :: oo_287
def oo_289 : List mo_Op := (1, 117, 9, 64, 0) :: oo_288
def oo_290 : List mo_Op := (1, 117, 10, 28, 0) :: oo_289
def oo_291 : List mo_Op := (1, 117, 11, 40, 0) :: oo_290
def oo_292 : List mo_Op := (0, 119, 0, 0, 0) :: oo_291
def oo_293 : List mo_Op := (1, 119, 0, 100, 0) :: oo_292
def oo_294 : List mo_Op := (1, 119, 1, 100, 0) :: oo_293
def oo_295 : List mo_Op := (1, 119, 2, 100, 0) :: oo_294
def oo_296 : List mo_Op := (2, 117, 12, 0, 119) :: oo_295
def oo_297 : List mo_Op := (0, 120, 0, 0, 0) :: oo_296
def oo_298 : List mo_Op := (1, 120, 0, 60, 0) :: oo_297
def oo_299 : List mo_Op := (1, 120, 1, 60, 0) :: oo_298
def oo_300 : List mo_Op := (1, 120, 2, 60, 0) :: oo_299
def oo_301 : List mo_Op := (2, 117, 13, 0, 120) :: oo_300
def oo_302 : List mo_Op := (0, 121, 0, 0, 0) :: oo_301
def oo_303 : List mo_Op := (1, 121, 0, 5, 0) :: oo_302
def oo_304 : List mo_Op := (1, 121, 1, 5, 0) :: oo_303
def oo_305 : List mo_Op := (1, 121, 2, 5, 0) :: oo_304
def oo_306 : List mo_Op := (2, 117, 14, 0, 121) :: oo_305
def oo_307 : List mo_Op := (0, 122, 0, 0, 0) :: oo_306
def oo_308 : List mo_Op := (2, 117, 15, 0, 122) :: oo_307
def oo_309 : List mo_Op := (0, 123, 0, 0, 0) :: oo_308
def oo_310 : List mo_Op := (2, 117, 16, 0, 123) :: oo_309
def oo_311 : List mo_Op := (0, 124, 0, 0, 0) :: oo_310
def oo_312 : List mo_Op := (2, 117, 17, 0, 124) :: oo_311
def oo_313 : List mo_Op := (0, 125, 0, 0, 0) :: oo_312
def oo_314 : List mo_Op := (2, 117, 18, 0, 125) :: oo_313
def oo_315 : List mo_Op := (0, 126, 0, 0, 0) :: oo_314
def oo_316 : List mo_Op := (2, 117, 19, 0, 126) :: oo_315
def oo_317 : List mo_Op := (0, 127, 0, 0, 0) :: oo_316
def oo_318 : List mo_Op := (2, 117, 20, 0, 127) :: oo_317
def oo_319 : List mo_Op := (0, 128, 0, 0, 0) :: oo_318
def oo_320 : List mo_Op := (2, 117, 21, 0, 128) :: oo_319
def oo_321 : List mo_Op := (0, 129, 0, 0, 0) :: oo_320
def oo_322 : List mo_Op := (2, 117, 22, 0, 129) :: oo_321
def oo_323 : List mo_Op := (0, 130, 0, 0, 0) :: oo_322
def oo_324 : List mo_Op := (2, 117, 23, 0, 130) :: oo_323
def oo_325 : List mo_Op := (0, 131, 0, 0, 0) :: oo_324
def oo_326 : List mo_Op := (2, 117, 24, 0, 131) :: oo_325
def oo_327 : List mo_Op := (0, 132, 0, 0, 0) :: oo_326
def oo_328 : List mo_Op := (2, 117, 25, 0, 132) :: oo_327
def oo_329 : List mo_Op := (0, 133, 0, 0, 0) :: oo_328
def oo_330 : List mo_Op := (2, 117, 26, 0, 133) :: oo_329
def oo_331 : List mo_Op := (0, 134, 0, 0, 0) :: oo_330
def oo_332 : List mo_Op := (2, 117, 27, 0, 134) :: oo_331
def oo_333 : List mo_Op := (0, 135, 0, 0, 0) :: oo_332
def oo_334 : List mo_Op := (2, 117, 28, 0, 135) :: oo_333
def oo_335 : List mo_Op := (0, 136, 0, 0, 0) :: oo_334
def oo_336 : List mo_Op := (2, 117, 29, 0, 136) :: oo_335
def oo_337 : List mo_Op := (0, 137, 0, 0, 0) :: oo_336
def oo_338 : List mo_Op := (2, 117, 30, 0, 137) :: oo_337
def oo_339 : List mo_Op := (0, 138, 0, 0, 0) :: oo_338
def oo_340 : List mo_Op := (2, 117, 31, 0, 138) :: oo_339
def oo_341 : List mo_Op := (0, 139, 0, 0, 0) :: oo_340
def oo_342 : List mo_Op := (2, 117, 32, 0, 139) :: oo_341
def oo_343 : List mo_Op := (0, 140, 0, 0, 0) :: oo_342
def oo_344 : List mo_Op := (2, 117, 33, 0, 140) :: oo_343
def oo_345 : List mo_Op := (0, 141, 0, 0, 0) :: oo_344
def oo_346 : List mo_Op := (2, 117, 34, 0, 141) :: oo_345
def oo_347 : List mo_Op := (0, 142, 0, 0, 0) :: oo_346
def oo_348 : List mo_Op := (2, 117, 35, 0, 142) :: oo_347
def oo_349 : List mo_Op := (0, 143, 0, 0, 0) :: oo_348
def oo_350 : List mo_Op := (2, 117, 47, 0, 143) :: oo_349
def oo_351 : List mo_Op := (0, 144, 0, 0, 0) :: oo_350
def oo_352 : List mo_Op := (2, 117, 48, 0, 144) :: oo_351
def oo_353 : List mo_Op := (0, 145, 0, 0, 0) :: oo_352
def oo_354 : List mo_Op := (2, 117, 49, 0, 145) :: oo_353
def oo_355 : List mo_Op := (0, 146, 0, 0, 0) :: oo_354
def oo_356 : List mo_Op := (2, 117, 50, 0, 146) :: oo_355
def oo_357 : List mo_Op := (0, 147, 0, 0, 0) :: oo_356
def oo_358 : List mo_Op := (2, 117, 51, 0, 147) :: oo_357
def oo_359 : List mo_Op := (0, 148, 0, 0, 0) :: oo_358
def oo_360 : List mo_Op := (2, 117, 52, 0, 148) :: oo_359
def oo_361 : List mo_Op := (0, 149, 0, 0, 0) :: oo_360
def oo_362 : List mo_Op := (2, 117, 53, 0, 149) :: oo_361
def oo_363 : List mo_Op := (0, 150, 0, 0, 0) :: oo_362
def oo_364 : List mo_Op := (2, 117, 54, 0, 150) :: oo_363
def oo_365 : List mo_Op := (0, 151, 0, 0, 0) :: oo_364
def oo_366 : List mo_Op := (2, 117, 59, 0, 151) :: oo_365
def oo_367 : List mo_Op := (0, 152, 0, 0, 0) :: oo_366
def oo_368 : List mo_Op := (2, 117, 60, 0, 152) :: oo_367
def oo_369 : List mo_Op := (0, 153, 0, 0, 0) :: oo_368
def oo_370 : List mo_Op := (2, 117, 61, 0, 153) :: oo_369
def oo_371 : List mo_Op := (0, 154, 0, 0, 0) :: oo_370
def oo_372 : List mo_Op := (2, 117, 62, 0, 154) :: oo_371
def oo_373 : List mo_Op := (0, 155, 0, 0, 0) :: oo_372
def oo_374 : List mo_Op := (2, 117, 63, 0, 155) :: oo_373
def oo_375 : List mo_Op := (0, 156, 0, 0, 0) :: oo_374
def oo_376 : List mo_Op := (2, 117, 64, 0, 156) :: oo_375
def oo_377 : List mo_Op := (0, 157, 0, 0, 0) :: oo_376
def oo_378 : List mo_Op := (2, 117, 65, 0, 157) :: oo_377
def oo_379 : List mo_Op := (0, 158, 0, 0, 0) :: oo_378
def oo_380 : List mo_Op := (2, 117, 66, 0, 158) :: oo_379
def oo_381 : List mo_Op := (0, 159, 0, 0, 0) :: oo_380
def oo_382 : List mo_Op := (2, 117, 67, 0, 159) :: oo_381
def oo_383 : List mo_Op := (0, 160, 0, 0, 0) :: oo_382
def oo_384 : List mo_Op := (2, 117, 68, 0, 160) :: oo_383
def oo_385 : List mo_Op := (0, 161, 0, 0, 0) :: oo_384
def oo_386 : List mo_Op := (2, 117, 69, 0, 161) :: oo_385
def oo_387 : List mo_Op := (0, 162, 0, 0, 0) :: oo_386
def oo_388 : List mo_Op := (2, 117, 70, 0, 162) :: oo_387
def oo_389 : List mo_Op := (0, 163, 0, 0, 0) :: oo_388
def oo_390 : List mo_Op := (2, 117, 71, 0, 163) :: oo_389
def oo_391 : List mo_Op := (0, 164, 0, 0, 0) :: oo_390
def oo_392 : List mo_Op := (2, 117, 72, 0, 164) :: oo_391
def oo_393 : List mo_Op := (0, 165, 0, 0, 0) :: oo_392
def oo_394 : List mo_Op := (2, 117, 73, 0, 165) :: oo_393
def oo_395 : List mo_Op := (0, 166, 0, 0, 0) :: oo_394
def oo_396 : List mo_Op := (2, 117, 74, 0, 166) :: oo_395
def oo_397 : List mo_Op := (0, 167, 0, 0, 0) :: oo_396
def oo_398 : List mo_Op := (2, 117, 75, 0, 167) :: oo_397
def oo_399 : List mo_Op := (0, 168, 0, 0, 0) :: oo_398
def oo_400 : List mo_Op := (2, 117, 76, 0, 168) :: oo_399
def oo_401 : List mo_Op := (0, 169, 0, 0, 0) :: oo_400
def oo_402 : List mo_Op := (2, 117, 77, 0, 169) :: oo_401
def oo_403 : List mo_Op := (1, 117, 89, (-1), 0) :: oo_402
def oo_404 : List mo_Op := (0, 170, 0, 0, 0) :: oo_403
def oo_405 : List mo_Op := (2, 117, 90, 0, 170) :: oo_404
def oo_406 : List mo_Op := (0, 171, 0, 0, 0) :: oo_405
def oo_407 : List mo_Op := (2, 117, 94, 0, 171) :: oo_406
def oo_408 : List mo_Op := (0, 172, 0, 0, 0) :: oo_407
def oo_409 : List mo_Op := (2, 117, 95, 0, 172) :: oo_408
def oo_410 : List mo_Op := (0, 173, 0, 0, 0) :: oo_409
def oo_411 : List mo_Op := (2, 117, 96, 0, 173) :: oo_410
def oo_412 : List mo_Op := (0, 174, 0, 0, 0) :: oo_411
def oo_413 : List mo_Op := (2, 117, 97, 0, 174) :: oo_412
def oo_414 : List mo_Op := (0, 175, 0, 0, 0) :: oo_413
def oo_415 : List mo_Op := (2, 117, 98, 0, 175) :: oo_414
def oo_416 : List mo_Op := (0, 176, 0, 0, 0) :: oo_415
def oo_417 : List mo_Op := (2, 117, 99, 0, 176) :: oo_416
def oo_418 : List mo_Op := (0, 177, 0, 0, 0) :: oo_417
def oo_419 : List mo_Op := (2, 117, 104, 0, 177) :: oo_418
def oo_420 : List mo_Op := (0, 178, 0, 0, 0) :: oo_419
def oo_421 : List mo_Op := (2, 117, 105, 0, 178) :: oo_420
def oo_422 : List mo_Op := (0, 179, 0, 0, 0) :: oo_421
def oo_423 : List mo_Op := (2, 117, 106, 0, 179) :: oo_422
def oo_424 : List mo_Op := (1, 127, 0, (-1), 0) :: oo_423
def oo_425 : List mo_Op := (1, 127, 1, (-1), 0) :: oo_424
def oo_426 : List mo_Op := (1, 127, 2, (-1), 0) :: oo_425
def oo_427 : List mo_Op := (1, 127, 3, (-1), 0) :: oo_426
def oo_428 : List mo_Op := (1, 127, 4, (-1), 0) :: oo_427
def oo_429 : List mo_Op := (1, 127, 5, (-1), 0) :: oo_428
def oo_430 : List mo_Op := (1, 175, 0, (-1), 0) :: oo_429
def oo_431 : List mo_Op := (1, 175, 1, (-1), 0) :: oo_430
def oo_432 : List mo_Op := (1, 175, 2, (-1), 0) :: oo_431
def oo_433 : List mo_Op := (1, 175, 3, (-1), 0) :: oo_432
def oo_434 : List mo_Op := (1, 175, 4, (-1), 0) :: oo_433
def oo_435 : List mo_Op := (1, 175, 5, (-1), 0) :: oo_434
def oo_436 : List mo_Op := (1, 175, 6, (-1), 0) :: oo_435
def oo_437 : List mo_Op := (1, 175, 7, (-1), 0) :: oo_436
def oo_438 : List mo_Op := (1, 175, 8, (-1), 0) :: oo_437
def oo_439 : List mo_Op := (1, 175, 9, (-1), 0) :: oo_438
def oo_440 : List mo_Op := (1, 175, 10, (-1), 0) :: oo_439
def oo_441 : List mo_Op := (1, 175, 11, (-1), 0) :: oo_440
def oo_442 : List mo_Op := (1, 175, 12, (-1), 0) :: oo_441
def oo_443 : List mo_Op := (1, 175, 13, (-1), 0) :: oo_442
def oo_444 : List mo_Op := (1, 175, 14, (-1), 0) :: oo_443
def oo_445 : List mo_Op := (1, 175, 15, (-1), 0) :: oo_444
def oo_446 : List mo_Op := (1, 158, 0, (-1), 0) :: oo_445
def oo_447 : List mo_Op := (1, 158, 1, (-1), 0) :: oo_446
def oo_448 : List mo_Op := (1, 158, 2, (-1), 0) :: oo_447
def oo_449 : List mo_Op := (1, 158, 3, (-1), 0) :: oo_448
def oo_450 : List mo_Op := (1, 128, 0, (-1), 0) :: oo_449
def ov_1 : List mo_Op := (0, 0, 0, 0, 0) :: []
def ov_2 : List mo_Op := (0, 1, 0, 0, 0) :: ov_1
def ov_3 : List mo_Op := (0, 2, 0, 0, 0) :: ov_2
def ov_4 : List mo_Op := (2, 1, 0, 0, 2) :: ov_3
def ov_5 : List mo_Op := (1, 1, 1, 64, 0) :: ov_4
def ov_6 : List mo_Op := (1, 1, 2, 28, 0) :: ov_5
def ov_7 : List mo_Op := (2, 0, 0, 0, 1) :: ov_6
def ov_8 : List mo_Op := (0, 3, 0, 0, 0) :: ov_7
def ov_9 : List mo_Op := (0, 4, 0, 0, 0) :: ov_8
def ov_10 : List mo_Op := (1, 4, 0, 100, 0) :: ov_9
def ov_11 : List mo_Op := (1, 4, 1, 100, 0) :: ov_10
def ov_12 : List mo_Op := (1, 4, 2, 100, 0) :: ov_11
def ov_13 : List mo_Op := (2, 3, 0, 0, 4) :: ov_12
def ov_14 : List mo_Op := (0, 5, 0, 0, 0) :: ov_13
def ov_15 : List mo_Op := (1, 5, 0, 60, 0) :: ov_14
def ov_16 : List mo_Op := (1, 5, 1, 60, 0) :: ov_15
def ov_17 : List mo_Op := (1, 5, 2, 60, 0) :: ov_16
def ov_18 : List mo_Op := (2, 3, 1, 0, 5) :: ov_17
def ov_19 : List mo_Op := (0, 6, 0, 0, 0) :: ov_18
def ov_20 : List mo_Op := (1, 6, 0, 5, 0) :: ov_19
def ov_21 : List mo_Op := (1, 6, 1, 5, 0) :: ov_20
def ov_22 : List mo_Op := (1, 6, 2, 5, 0) :: ov_21
def ov_23 : List mo_Op := (2, 3, 2, 0, 6) :: ov_22
def ov_24 : List mo_Op := (0, 7, 0, 0, 0) :: ov_23
def ov_25 : List mo_Op := (2, 3, 3, 0, 7) :: ov_24
def ov_26 : List mo_Op := (0, 8, 0, 0, 0) :: ov_25
def ov_27 : List mo_Op := (2, 3, 4, 0, 8) :: ov_26
def ov_28 : List mo_Op := (0, 9, 0, 0, 0) :: ov_27
def ov_29 : List mo_Op := (2, 3, 5, 0, 9) :: ov_28
def ov_30 : List mo_Op := (0, 10, 0, 0, 0) :: ov_29
def ov_31 : List mo_Op := (2, 3, 6, 0, 10) :: ov_30
def ov_32 : List mo_Op := (0, 11, 0, 0, 0) :: ov_31
def ov_33 : List mo_Op := (2, 3, 7, 0, 11) :: ov_32
def ov_34 : List mo_Op := (1, 3, 9, 6, 0) :: ov_33
def ov_35 : List mo_Op := (2, 0, 1, 0, 3) :: ov_34
def ov_36 : List mo_Op := (0, 12, 0, 0, 0) :: ov_35
def ov_37 : List mo_Op := (0, 13, 0, 0, 0) :: ov_36
def ov_38 : List mo_Op := (2, 12, 0, 0, 13) :: ov_37
def ov_39 : List mo_Op := (0, 14, 0, 0, 0) :: ov_38
def ov_40 : List mo_Op := (2, 12, 1, 0, 14) :: ov_39
def ov_41 : List mo_Op := (0, 15, 0, 0, 0) :: ov_40
def ov_42 : List mo_Op := (2, 12, 2, 0, 15) :: ov_41
def ov_43 : List mo_Op := (0, 16, 0, 0, 0) :: ov_42
def ov_44 : List mo_Op := (2, 12, 3, 0, 16) :: ov_43
def ov_45 : List mo_Op := (0, 17, 0, 0, 0) :: ov_44
def ov_46 : List mo_Op := (2, 12, 4, 0, 17) :: ov_45
def ov_47 : List mo_Op := (0, 18, 0, 0, 0) :: ov_46
def ov_48 : List mo_Op := (2, 12, 5, 0, 18) :: ov_47
def ov_49 : List mo_Op := (0, 19, 0, 0, 0) :: ov_48
def ov_50 : List mo_Op := (2, 12, 6, 0, 19) :: ov_49
def ov_51 : List mo_Op := (0, 20, 0, 0, 0) :: ov_50
def ov_52 : List mo_Op := (2, 12, 7, 0, 20) :: ov_51
def ov_53 : List mo_Op := (0, 21, 0, 0, 0) :: ov_52
def ov_54 : List mo_Op := (2, 12, 8, 0, 21) :: ov_53
def ov_55 : List mo_Op := (0, 22, 0, 0, 0) :: ov_54
def ov_56 : List mo_Op := (2, 12, 9, 0, 22) :: ov_55
def ov_57 : List mo_Op := (0, 23, 0, 0, 0) :: ov_56
def ov_58 : List mo_Op := (2, 12, 10, 0, 23) :: ov_57
def ov_59 : List mo_Op := (0, 24, 0, 0, 0) :: ov_58
def ov_60 : List mo_Op := (2, 12, 11, 0, 24) :: ov_59
def ov_61 : List mo_Op := (2, 0, 2, 0, 12) :: ov_60
def ov_62 : List mo_Op := (0, 25, 0, 0, 0) :: ov_61
def ov_63 : List mo_Op := (0, 26, 0, 0, 0) :: ov_62
def ov_64 : List mo_Op := (2, 25, 0, 0, 26) :: ov_63
def ov_65 : List mo_Op := (0, 27, 0, 0, 0) :: ov_64
def ov_66 : List mo_Op := (2, 25, 1, 0, 27) :: ov_65
def ov_67 : List mo_Op := (0, 28, 0, 0, 0) :: ov_66
def ov_68 : List mo_Op := (2, 25, 2, 0, 28) :: ov_67
def ov_69 : List mo_Op := (0, 29, 0, 0, 0) :: ov_68
def ov_70 : List mo_Op := (2, 25, 3, 0, 29) :: ov_69
def ov_71 : List mo_Op := (0, 30, 0, 0, 0) :: ov_70
def ov_72 : List mo_Op := (2, 25, 4, 0, 30) :: ov_71
def ov_73 : List mo_Op := (0, 31, 0, 0, 0) :: ov_72
def ov_74 : List mo_Op := (2, 25, 5, 0, 31) :: ov_73
def ov_75 : List mo_Op := (0, 32, 0, 0, 0) :: ov_74
def ov_76 : List mo_Op := (2, 25, 6, 0, 32) :: ov_75
def ov_77 : List mo_Op := (0, 33, 0, 0, 0) :: ov_76
def ov_78 : List mo_Op := (2, 25, 7, 0, 33) :: ov_77
def ov_79 : List mo_Op := (0, 34, 0, 0, 0) :: ov_78
def ov_80 : List mo_Op := (2, 25, 8, 0, 34) :: ov_79
def ov_81 : List mo_Op := (0, 35, 0, 0, 0) :: ov_80
def ov_82 : List mo_Op := (2, 25, 9, 0, 35) :: ov_81
def ov_83 : List mo_Op := (1, 25, 10, 1, 0) :: ov_82
def ov_84 : List mo_Op := (1, 25, 11, 40, 0) :: ov_83
def ov_85 : List mo_Op := (1, 26, 0, (-1), 0) :: ov_84
def ov_86 : List mo_Op := (2, 0, 3, 0, 25) :: ov_85
def ov_87 : List mo_Op := (0, 36, 0, 0, 0) :: ov_86
def ov_88 : List mo_Op := (0, 37, 0, 0, 0) :: ov_87
def ov_89 : List mo_Op := (2, 36, 0, 0, 37) :: ov_88
def ov_90 : List mo_Op := (0, 38, 0, 0, 0) :: ov_89
def ov_91 : List mo_Op := (2, 36, 1, 0, 38) :: ov_90
def ov_92 : List mo_Op := (0, 39, 0, 0, 0) :: ov_91
def ov_93 : List mo_Op := (2, 36, 2, 0, 39) :: ov_92
def ov_94 : List mo_Op := (0, 80, 0, 0, 0) :: ov_93
def ov_95 : List mo_Op := (0, 179, 0, 0, 0) :: ov_94
def ov_96 : List mo_Op := (2, 80, 0, 0, 179) :: ov_95
def ov_97 : List mo_Op := (0, 40, 0, 0, 0) :: ov_96
def ov_98 : List mo_Op := (0, 41, 0, 0, 0) :: ov_97
def ov_99 : List mo_Op := (2, 40, 0, 0, 41) :: ov_98
def ov_100 : List mo_Op := (0, 42, 0, 0, 0) :: ov_99
def ov_101 : List mo_Op := (2, 40, 1, 0, 42) :: ov_100
def ov_102 : List mo_Op := (0, 43, 0, 0, 0) :: ov_101
def ov_103 : List mo_Op := (2, 40, 2, 0, 43) :: ov_102
def ov_104 : List mo_Op := (0, 44, 0, 0, 0) :: ov_103
def ov_105 : List mo_Op := (2, 40, 3, 0, 44) :: ov_104
def ov_106 : List mo_Op := (0, 45, 0, 0, 0) :: ov_105
def ov_107 : List mo_Op := (2, 40, 4, 0, 45) :: ov_106
def ov_108 : List mo_Op := (0, 46, 0, 0, 0) :: ov_107
def ov_109 : List mo_Op := (2, 40, 5, 0, 46) :: ov_108
def ov_110 : List mo_Op := (0, 47, 0, 0, 0) :: ov_109
def ov_111 : List mo_Op := (2, 40, 6, 0, 47) :: ov_110
def ov_112 : List mo_Op := (2, 80, 6, 0, 40) :: ov_111
def ov_113 : List mo_Op := (0, 81, 0, 0, 0) :: ov_112
def ov_114 : List mo_Op := (2, 80, 9, 0, 81) :: ov_113
def ov_115 : List mo_Op := (2, 36, 4, 0, 80) :: ov_114
def ov_116 : List mo_Op := (1, 36, 7, (-1), 0) :: ov_115
def ov_117 : List mo_Op := (1, 36, 9, (-1), 0) :: ov_116
def ov_118 : List mo_Op := (0, 48, 0, 0, 0) :: ov_117
def ov_119 : List mo_Op := (0, 49, 0, 0, 0) :: ov_118
def ov_120 : List mo_Op := (2, 48, 0, 0, 49) :: ov_119
def ov_121 : List mo_Op := (0, 50, 0, 0, 0) :: ov_120
def ov_122 : List mo_Op := (2, 48, 1, 0, 50) :: ov_121
def ov_123 : List mo_Op := (0, 51, 0, 0, 0) :: ov_122
def ov_124 : List mo_Op := (2, 48, 2, 0, 51) :: ov_123
def ov_125 : List mo_Op := (0, 52, 0, 0, 0) :: ov_124
def ov_126 : List mo_Op := (2, 48, 3, 0, 52) :: ov_125
def ov_127 : List mo_Op := (0, 53, 0, 0, 0) :: ov_126
def ov_128 : List mo_Op := (2, 48, 4, 0, 53) :: ov_127
def ov_129 : List mo_Op := (0, 54, 0, 0, 0) :: ov_128
def ov_130 : List mo_Op := (2, 48, 5, 0, 54) :: ov_129
def ov_131 : List mo_Op := (0, 55, 0, 0, 0) :: ov_130
def ov_132 : List mo_Op := (2, 48, 6, 0, 55) :: ov_131
def ov_133 : List mo_Op := (2, 38, 0, 0, 48) :: ov_132
def ov_134 : List mo_Op := (0, 56, 0, 0, 0) :: ov_133
def ov_135 : List mo_Op := (0, 57, 0, 0, 0) :: ov_134
def ov_136 : List mo_Op := (2, 56, 0, 0, 57) :: ov_135
def ov_137 : List mo_Op := (0, 58, 0, 0, 0) :: ov_136
def ov_138 : List mo_Op := (2, 56, 1, 0, 58) :: ov_137
def ov_139 : List mo_Op := (0, 59, 0, 0, 0) :: ov_138
def ov_140 : List mo_Op := (2, 56, 2, 0, 59) :: ov_139
def ov_141 : List mo_Op := (0, 60, 0, 0, 0) :: ov_140
def ov_142 : List mo_Op := (2, 56, 3, 0, 60) :: ov_141
def ov_143 : List mo_Op := (0, 61, 0, 0, 0) :: ov_142
def ov_144 : List mo_Op := (2, 56, 4, 0, 61) :: ov_143
def ov_145 : List mo_Op := (0, 62, 0, 0, 0) :: ov_144
def ov_146 : List mo_Op := (2, 56, 5, 0, 62) :: ov_145
def ov_147 : List mo_Op := (0, 63, 0, 0, 0) :: ov_146
def ov_148 : List mo_Op := (2, 56, 6, 0, 63) :: ov_147
def ov_149 : List mo_Op := (2, 38, 1, 0, 56) :: ov_148
def ov_150 : List mo_Op := (0, 64, 0, 0, 0) :: ov_149
def ov_151 : List mo_Op := (0, 65, 0, 0, 0) :: ov_150
def ov_152 : List mo_Op := (2, 64, 0, 0, 65) :: ov_151
def ov_153 : List mo_Op := (0, 66, 0, 0, 0) :: ov_152
def ov_154 : List mo_Op := (2, 64, 1, 0, 66) :: ov_153
def ov_155 : List mo_Op := (0, 67, 0, 0, 0) :: ov_154
def ov_156 : List mo_Op := (2, 64, 2, 0, 67) :: ov_155
def ov_157 : List mo_Op := (0, 68, 0, 0, 0) :: ov_156
def ov_158 : List mo_Op := (2, 64, 3, 0, 68) :: ov_157
def ov_159 : List mo_Op := (0, 69, 0, 0, 0) :: ov_158
def ov_160 : List mo_Op := (2, 64, 4, 0, 69) :: ov_159
def ov_161 : List mo_Op := (0, 70, 0, 0, 0) :: ov_160
def ov_162 : List mo_Op := (2, 64, 5, 0, 70) :: ov_161
def ov_163 : List mo_Op := (0, 71, 0, 0, 0) :: ov_162
def ov_164 : List mo_Op := (2, 64, 6, 0, 71) :: ov_163
def ov_165 : List mo_Op := (2, 38, 2, 0, 64) :: ov_164
def ov_166 : List mo_Op := (0, 72, 0, 0, 0) :: ov_165
def ov_167 : List mo_Op := (0, 73, 0, 0, 0) :: ov_166
def ov_168 : List mo_Op := (2, 72, 0, 0, 73) :: ov_167
def ov_169 : List mo_Op := (0, 74, 0, 0, 0) :: ov_168
def ov_170 : List mo_Op := (2, 72, 1, 0, 74) :: ov_169
def ov_171 : List mo_Op := (0, 75, 0, 0, 0) :: ov_170
def ov_172 : List mo_Op := (2, 72, 2, 0, 75) :: ov_171
def ov_173 : List mo_Op := (0, 76, 0, 0, 0) :: ov_172
def ov_174 : List mo_Op := (2, 72, 3, 0, 76) :: ov_173
def ov_175 : List mo_Op := (0, 77, 0, 0, 0) :: ov_174
def ov_176 : List mo_Op := (2, 72, 4, 0, 77) :: ov_175
def ov_177 : List mo_Op := (0, 78, 0, 0, 0) :: ov_176
def ov_178 : List mo_Op := (2, 72, 5, 0, 78) :: ov_177
def ov_179 : List mo_Op := (0, 79, 0, 0, 0) :: ov_178
def ov_180 : List mo_Op := (2, 72, 6, 0, 79) :: ov_179
def ov_181 : List mo_Op := (2, 38, 3, 0, 72) :: ov_180
def ov_182 : List mo_Op := (2, 0, 4, 0, 36) :: ov_181
def ov_183 : List mo_Op := (0, 82, 0, 0, 0) :: ov_182
def ov_184 : List mo_Op := (0, 83, 0, 0, 0) :: ov_183
def ov_185 : List mo_Op := (2, 82, 0, 0, 83) :: ov_184
def ov_186 : List mo_Op := (0, 84, 0, 0, 0) :: ov_185
def ov_187 : List mo_Op := (2, 82, 1, 0, 84) :: ov_186
def ov_188 : List mo_Op := (0, 85, 0, 0, 0) :: ov_187
def ov_189 : List mo_Op := (2, 82, 2, 0, 85) :: ov_188
def ov_190 : List mo_Op := (0, 86, 0, 0, 0) :: ov_189
def ov_191 : List mo_Op := (2, 82, 3, 0, 86) :: ov_190
def ov_192 : List mo_Op := (0, 87, 0, 0, 0) :: ov_191
def ov_193 : List mo_Op := (2, 82, 4, 0, 87) :: ov_192
def ov_194 : List mo_Op := (0, 88, 0, 0, 0) :: ov_193
def ov_195 : List mo_Op := (2, 82, 5, 0, 88) :: ov_194
def ov_196 : List mo_Op := (0, 89, 0, 0, 0) :: ov_195
def ov_197 : List mo_Op := (2, 82, 6, 0, 89) :: ov_196
def ov_198 : List mo_Op := (0, 90, 0, 0, 0) :: ov_197
def ov_199 : List mo_Op := (2, 82, 7, 0, 90) :: ov_198
def ov_200 : List mo_Op := (0, 91, 0, 0, 0) :: ov_199
def ov_201 : List mo_Op := (2, 82, 9, 0, 91) :: ov_200
def ov_202 : List mo_Op := (0, 92, 0, 0, 0) :: ov_201
def ov_203 : List mo_Op := (2, 82, 10, 0, 92) :: ov_202
def ov_204 : List mo_Op := (0, 93, 0, 0, 0) :: ov_203
def ov_205 : List mo_Op := (2, 82, 11, 0, 93) :: ov_204
def ov_206 : List mo_Op := (2, 0, 5, 0, 82) :: ov_205
def ov_207 : List mo_Op := (0, 94, 0, 0, 0) :: ov_206
def ov_208 : List mo_Op := (0, 95, 0, 0, 0) :: ov_207
def ov_209 : List mo_Op := (2, 94, 0, 0, 95) :: ov_208
def ov_210 : List mo_Op := (0, 96, 0, 0, 0) :: ov_209
def ov_211 : List mo_Op := (2, 94, 1, 0, 96) :: ov_210
def ov_212 : List mo_Op := (0, 97, 0, 0, 0) :: ov_211
def ov_213 : List mo_Op := (2, 94, 2, 0, 97) :: ov_212
def ov_214 : List mo_Op := (0, 98, 0, 0, 0) :: ov_213
def ov_215 : List mo_Op := (2, 94, 3, 0, 98) :: ov_214
def ov_216 : List mo_Op := (0, 99, 0, 0, 0) :: ov_215
def ov_217 : List mo_Op := (2, 94, 4, 0, 99) :: ov_216
def ov_218 : List mo_Op := (0, 100, 0, 0, 0) :: ov_217
def ov_219 : List mo_Op := (2, 94, 5, 0, 100) :: ov_218
def ov_220 : List mo_Op := (0, 101, 0, 0, 0) :: ov_219
def ov_221 : List mo_Op := (2, 94, 6, 0, 101) :: ov_220
def ov_222 : List mo_Op := (2, 0, 6, 0, 94) :: ov_221
def ov_223 : List mo_Op := (0, 102, 0, 0, 0) :: ov_222
def ov_224 : List mo_Op := (0, 103, 0, 0, 0) :: ov_223
def ov_225 : List mo_Op := (2, 102, 0, 0, 103) :: ov_224
def ov_226 : List mo_Op := (0, 104, 0, 0, 0) :: ov_225
def ov_227 : List mo_Op := (2, 102, 1, 0, 104) :: ov_226
def ov_228 : List mo_Op := (0, 105, 0, 0, 0) :: ov_227
def ov_229 : List mo_Op := (2, 102, 2, 0, 105) :: ov_228
def ov_230 : List mo_Op := (0, 106, 0, 0, 0) :: ov_229
def ov_231 : List mo_Op := (2, 102, 3, 0, 106) :: ov_230
def ov_232 : List mo_Op := (0, 107, 0, 0, 0) :: ov_231
def ov_233 : List mo_Op := (2, 102, 4, 0, 107) :: ov_232
def ov_234 : List mo_Op := (0, 108, 0, 0, 0) :: ov_233
def ov_235 : List mo_Op := (2, 102, 5, 0, 108) :: ov_234
def ov_236 : List mo_Op := (0, 109, 0, 0, 0) :: ov_235
def ov_237 : List mo_Op := (2, 102, 6, 0, 109) :: ov_236
def ov_238 : List mo_Op := (0, 110, 0, 0, 0) :: ov_237
def ov_239 : List mo_Op := (2, 102, 7, 0, 110) :: ov_238
def ov_240 : List mo_Op := (1, 103, 0, (-1), 0) :: ov_239
def ov_241 : List mo_Op := (1, 103, 1, (-1), 0) :: ov_240
def ov_242 : List mo_Op := (1, 103, 2, (-1), 0) :: ov_241
def ov_243 : List mo_Op := (1, 103, 3, (-1), 0) :: ov_242
def ov_244 : List mo_Op := (1, 103, 4, (-1), 0) :: ov_243
def ov_245 : List mo_Op := (1, 103, 5, (-1), 0) :: ov_244
def ov_246 : List mo_Op := (1, 103, 6, (-1), 0) :: ov_245
def ov_247 : List mo_Op := (1, 103, 7, (-1), 0) :: ov_246
def ov_248 : List mo_Op := (1, 103, 8, (-1), 0) :: ov_247
def ov_249 : List mo_Op := (1, 103, 9, (-1), 0) :: ov_248
def ov_250 : List mo_Op := (1, 103, 10, (-1), 0) :: ov_249
def ov_251 : List mo_Op := (1, 103, 11, (-1), 0) :: ov_250
def ov_252 : List mo_Op := (1, 103, 12, (-1), 0) :: ov_251
def ov_253 : List mo_Op := (1, 103, 13, (-1), 0) :: ov_252
def ov_254 : List mo_Op := (1, 103, 14, (-1), 0) :: ov_253
def ov_255 : List mo_Op := (1, 103, 15, (-1), 0) :: ov_254
def ov_256 : List mo_Op := (2, 0, 7, 0, 102) :: ov_255
def ov_257 : List mo_Op := (0, 111, 0, 0, 0) :: ov_256
def ov_258 : List mo_Op := (0, 112, 0, 0, 0) :: ov_257
def ov_259 : List mo_Op := (2, 111, 0, 0, 112) :: ov_258
def ov_260 : List mo_Op := (0, 113, 0, 0, 0) :: ov_259
def ov_261 : List mo_Op := (2, 111, 1, 0, 113) :: ov_260
def ov_262 : List mo_Op := (0, 114, 0, 0, 0) :: ov_261
def ov_263 : List mo_Op := (2, 111, 2, 0, 114) :: ov_262
def ov_264 : List mo_Op := (0, 115, 0, 0, 0) :: ov_263
def ov_265 : List mo_Op := (2, 111, 3, 0, 115) :: ov_264
def ov_266 : List mo_Op := (2, 0, 8, 0, 111) :: ov_265
def ov_267 : List mo_Op := (0, 116, 0, 0, 0) :: ov_266
def ov_268 : List mo_Op := (0, 117, 0, 0, 0) :: ov_267
def ov_269 : List mo_Op := (1, 117, 0, 0, 0) :: ov_268
def ov_270 : List mo_Op := (1, 117, 1, 1, 0) :: ov_269
def ov_271 : List mo_Op := (1, 117, 2, 3, 0) :: ov_270
def ov_272 : List mo_Op := (1, 117, 3, 6, 0) :: ov_271
def ov_273 : List mo_Op := (1, 117, 4, 10, 0) :: ov_272
def ov_274 : List mo_Op := (1, 117, 5, 15, 0) :: ov_273
def ov_275 : List mo_Op := (1, 117, 6, 21, 0) :: ov_274
def ov_276 : List mo_Op := (1, 117, 7, 28, 0) :: ov_275
def ov_277 : List mo_Op := (1, 117, 8, 36, 0) :: ov_276
def ov_278 : List mo_Op := (1, 117, 9, 44, 0) :: ov_277
def ov_279 : List mo_Op := (1, 117, 10, 51, 0) :: ov_278
def ov_280 : List mo_Op := (1, 117, 11, 57, 0) :: ov_279
def ov_281 : List mo_Op := (1, 117, 12, 62, 0) :: ov_280
def ov_282 : List mo_Op := (1, 117, 13, 66, 0) :: ov_281
def ov_283 : List mo_Op := (1, 117, 14, 69, 0) :: ov_282
def ov_284 : List mo_Op := (1, 117, 15, 71, 0) :: ov_283
def ov_285 : List mo_Op := (1, 117, 16, 72, 0) :: ov_284
def ov_286 : List mo_Op := (2, 116, 0, 0, 117) :: ov_285
def ov_287 : List mo_Op := (1, 116, 2, 6, 0) :: ov_286
def ov_288 : List mo_Op := (1, 116, 7, 1, 0) :: ov_287
def ov_289 : List mo_Op := (1, 116, 9, 64, 0) :: ov_288
def ov_290 : List mo_Op := (1, 116, 10, 28, 0) :: ov_289
def ov_291 : List mo_Op := (1, 116, 11, 40, 0) :: ov_290
def ov_292 : List mo_Op := (0, 118, 0, 0, 0) :: ov_291
def ov_293 : List mo_Op := (1, 118, 0, 100, 0) :: ov_292
def ov_294 : List mo_Op := (1, 118, 1, 100, 0) :: ov_293
def ov_295 : List mo_Op := (1, 118, 2, 100, 0) :: ov_294
def ov_296 : List mo_Op := (2, 116, 12, 0, 118) :: ov_295
def ov_297 : List mo_Op := (0, 119, 0, 0, 0) :: ov_296
def ov_298 : List mo_Op := (1, 119, 0, 60, 0) :: ov_297
def ov_299 : List mo_Op := (1, 119, 1, 60, 0) :: ov_298
def ov_300 : List mo_Op := (1, 119, 2, 60, 0) :: ov_299
def ov_301 : List mo_Op := (2, 116, 13, 0, 119) :: ov_300
def ov_302 : List mo_Op := (0, 120, 0, 0, 0) :: ov_301
def ov_303 : List mo_Op := (1, 120, 0, 5, 0) :: ov_302
def ov_304 : List mo_Op := (1, 120, 1, 5, 0) :: ov_303
def ov_305 : List mo_Op := (1, 120, 2, 5, 0) :: ov_304
def ov_306 : List mo_Op := (2, 116, 14, 0, 120) :: ov_305
def ov_307 : List mo_Op := (0, 121, 0, 0, 0) :: ov_306
def ov_308 : List mo_Op := (2, 116, 15, 0, 121) :: ov_307
def ov_309 : List mo_Op := (0, 122, 0, 0, 0) :: ov_308
def ov_310 : List mo_Op := (2, 116, 16, 0, 122) :: ov_309
def ov_311 : List mo_Op := (0, 123, 0, 0, 0) :: ov_310
def ov_312 : List mo_Op := (2, 116, 17, 0, 123) :: ov_311
def ov_313 : List mo_Op := (0, 124, 0, 0, 0) :: ov_312
def ov_314 : List mo_Op := (2, 116, 18, 0, 124) :: ov_313
def ov_315 : List mo_Op := (0, 125, 0, 0, 0) :: ov_314
def ov_316 : List mo_Op := (2, 116, 19, 0, 125) :: ov_315
def ov_317 : List mo_Op := (0, 126, 0, 0, 0) :: ov_316
def ov_318 : List mo_Op := (2, 116, 20, 0, 126) :: ov_317
def ov_319 : List mo_Op := (0, 127, 0, 0, 0) :: ov_318
def ov_320 : List mo_Op := (2, 116, 21, 0, 127) :: ov_319
def ov_321 : List mo_Op := (0, 128, 0, 0, 0) :: ov_320
def ov_322 : List mo_Op := (2, 116, 22, 0, 128) :: ov_321
def ov_323 : List mo_Op := (0, 129, 0, 0, 0) :: ov_322
def ov_324 : List mo_Op := (2, 116, 23, 0, 129) :: ov_323
def ov_325 : List mo_Op := (0, 130, 0, 0, 0) :: ov_324
def ov_326 : List mo_Op := (2, 116, 24, 0, 130) :: ov_325
def ov_327 : List mo_Op := (0, 131, 0, 0, 0) :: ov_326
def ov_328 : List mo_Op := (2, 116, 25, 0, 131) :: ov_327
def ov_329 : List mo_Op := (0, 132, 0, 0, 0) :: ov_328
def ov_330 : List mo_Op := (2, 116, 26, 0, 132) :: ov_329
def ov_331 : List mo_Op := (0, 133, 0, 0, 0) :: ov_330
def ov_332 : List mo_Op := (2, 116, 27, 0, 133) :: ov_331
def ov_333 : List mo_Op := (0, 134, 0, 0, 0) :: ov_332
def ov_334 : List mo_Op := (2, 116, 28, 0, 134) :: ov_333
def ov_335 : List mo_Op := (0, 135, 0, 0, 0) :: ov_334
def ov_336 : List mo_Op := (2, 116, 29, 0, 135) :: ov_335
def ov_337 : List mo_Op := (0, 136, 0, 0, 0) :: ov_336
def ov_338 : List mo_Op := (2, 116, 30, 0, 136) :: ov_337
def ov_339 : List mo_Op := (0, 137, 0, 0, 0) :: ov_338
def ov_340 : List mo_Op := (2, 116, 31, 0, 137) :: ov_339
def ov_341 : List mo_Op := (0, 138, 0, 0, 0) :: ov_340
def ov_342 : List mo_Op := (2, 116, 32, 0, 138) :: ov_341
def ov_343 : List mo_Op := (0, 139, 0, 0, 0) :: ov_342
def ov_344 : List mo_Op := (2, 116, 33, 0, 139) :: ov_343
def ov_345 : List mo_Op := (0, 140, 0, 0, 0) :: ov_344
def ov_346 : List mo_Op := (2, 116, 34, 0, 140) :: ov_345
def ov_347 : List mo_Op := (0, 141, 0, 0, 0) :: ov_346
def ov_348 : List mo_Op := (2, 116, 35, 0, 141) :: ov_347
def ov_349 : List mo_Op := (0, 142, 0, 0, 0) :: ov_348
def ov_350 : List mo_Op := (2, 116, 47, 0, 142) :: ov_349
def ov_351 : List mo_Op := (0, 143, 0, 0, 0) :: ov_350
def ov_352 : List mo_Op := (2, 116, 48, 0, 143) :: ov_351
def ov_353 : List mo_Op := (0, 144, 0, 0, 0) :: ov_352
def ov_354 : List mo_Op := (2, 116, 49, 0, 144) :: ov_353
def ov_355 : List mo_Op := (0, 145, 0, 0, 0) :: ov_354
def ov_356 : List mo_Op := (2, 116, 50, 0, 145) :: ov_355
def ov_357 : List mo_Op := (0, 146, 0, 0, 0) :: ov_356
def ov_358 : List mo_Op := (2, 116, 51, 0, 146) :: ov_357
def ov_359 : List mo_Op := (0, 147, 0, 0, 0) :: ov_358
def ov_360 : List mo_Op := (2, 116, 52, 0, 147) :: ov_359
def ov_361 : List mo_Op := (0, 148, 0, 0, 0) :: ov_360
def ov_362 : List mo_Op := (2, 116, 53, 0, 148) :: ov_361
def ov_363 : List mo_Op := (0, 149, 0, 0, 0) :: ov_362
def ov_364 : List mo_Op := (2, 116, 54, 0, 149) :: ov_363
def ov_365 : List mo_Op := (0, 150, 0, 0, 0) :: ov_364
def ov_366 : List mo_Op := (2, 116, 59, 0, 150) :: ov_365
def ov_367 : List mo_Op := (0, 151, 0, 0, 0) :: ov_366
def ov_368 : List mo_Op := (2, 116, 60, 0, 151) :: ov_367
def ov_369 : List mo_Op := (0, 152, 0, 0, 0) :: ov_368
def ov_370 : List mo_Op := (2, 116, 61, 0, 152) :: ov_369
def ov_371 : List mo_Op := (0, 153, 0, 0, 0) :: ov_370
def ov_372 : List mo_Op := (2, 116, 62, 0, 153) :: ov_371
def ov_373 : List mo_Op := (0, 154, 0, 0, 0) :: ov_372
def ov_374 : List mo_Op := (2, 116, 63, 0, 154) :: ov_373
def ov_375 : List mo_Op := (0, 155, 0, 0, 0) :: ov_374
def ov_376 : List mo_Op := (2, 116, 64, 0, 155) :: ov_375
def ov_377 : List mo_Op := (0, 156, 0, 0, 0) :: ov_376
def ov_378 : List mo_Op := (2, 116, 65, 0, 156) :: ov_377
def ov_379 : List mo_Op := (0, 157, 0, 0, 0) :: ov_378
def ov_380 : List mo_Op := (2, 116, 66, 0, 157) :: ov_379
def ov_381 : List mo_Op := (0, 158, 0, 0, 0) :: ov_380
def ov_382 : List mo_Op := (2, 116, 67, 0, 158) :: ov_381
def ov_383 : List mo_Op := (0, 159, 0, 0, 0) :: ov_382
def ov_384 : List mo_Op := (2, 116, 68, 0, 159) :: ov_383
def ov_385 : List mo_Op := (0, 160, 0, 0, 0) :: ov_384
def ov_386 : List mo_Op := (2, 116, 69, 0, 160) :: ov_385
def ov_387 : List mo_Op := (0, 161, 0, 0, 0) :: ov_386
def ov_388 : List mo_Op := (2, 116, 70, 0, 161) :: ov_387
def ov_389 : List mo_Op := (0, 162, 0, 0, 0) :: ov_388
def ov_390 : List mo_Op := (2, 116, 71, 0, 162) :: ov_389
def ov_391 : List mo_Op := (0, 163, 0, 0, 0) :: ov_390
def ov_392 : List mo_Op := (2, 116, 72, 0, 163) :: ov_391
def ov_393 : List mo_Op := (0, 164, 0, 0, 0) :: ov_392
def ov_394 : List mo_Op := (2, 116, 73, 0, 164) :: ov_393
def ov_395 : List mo_Op := (0, 165, 0, 0, 0) :: ov_394
def ov_396 : List mo_Op := (2, 116, 74, 0, 165) :: ov_395
def ov_397 : List mo_Op := (0, 166, 0, 0, 0) :: ov_396
def ov_398 : List mo_Op := (2, 116, 75, 0, 166) :: ov_397
def ov_399 : List mo_Op := (0, 167, 0, 0, 0) :: ov_398
def ov_400 : List mo_Op := (2, 116, 76, 0, 167) :: ov_399
def ov_401 : List mo_Op := (0, 168, 0, 0, 0) :: ov_400
def ov_402 : List mo_Op := (2, 116, 77, 0, 168) :: ov_401
def ov_403 : List mo_Op := (1, 116, 89, (-1), 0) :: ov_402
def ov_404 : List mo_Op := (0, 169, 0, 0, 0) :: ov_403
def ov_405 : List mo_Op := (2, 116, 90, 0, 169) :: ov_404
def ov_406 : List mo_Op := (0, 170, 0, 0, 0) :: ov_405
def ov_407 : List mo_Op := (2, 116, 94, 0, 170) :: ov_406
def ov_408 : List mo_Op := (0, 171, 0, 0, 0) :: ov_407
def ov_409 : List mo_Op := (2, 116, 95, 0, 171) :: ov_408
def ov_410 : List mo_Op := (0, 172, 0, 0, 0) :: ov_409
def ov_411 : List mo_Op := (2, 116, 96, 0, 172) :: ov_410
def ov_412 : List mo_Op := (0, 173, 0, 0, 0) :: ov_411
def ov_413 : List mo_Op := (2, 116, 97, 0, 173) :: ov_412
def ov_414 : List mo_Op := (0, 174, 0, 0, 0) :: ov_413
def ov_415 : List mo_Op := (2, 116, 98, 0, 174) :: ov_414
def ov_416 : List mo_Op := (0, 175, 0, 0, 0) :: ov_415
def ov_417 : List mo_Op := (2, 116, 99, 0, 175) :: ov_416
def ov_418 : List mo_Op := (0, 176, 0, 0, 0) :: ov_417
def ov_419 : List mo_Op := (2, 116, 104, 0, 176) :: ov_418
def ov_420 : List mo_Op := (0, 177, 0, 0, 0) :: ov_419
def ov_421 : List mo_Op := (2, 116, 105, 0, 177) :: ov_420
def ov_422 : List mo_Op := (0, 178, 0, 0, 0) :: ov_421
def ov_423 : List mo_Op := (2, 116, 106, 0, 178) :: ov_422
def ov_424 : List mo_Op := (1, 126, 0, (-1), 0) :: ov_423
def ov_425 : List mo_Op := (1, 126, 1, (-1), 0) :: ov_424
def ov_426 : List mo_Op := (1, 126, 2, (-1), 0) :: ov_425
def ov_427 : List mo_Op := (1, 126, 3, (-1), 0) :: ov_426
def ov_428 : List mo_Op := (1, 126, 4, (-1), 0) :: ov_427
def ov_429 : List mo_Op := (1, 126, 5, (-1), 0) :: ov_428
def ov_430 : List mo_Op := (1, 174, 0, (-1), 0) :: ov_429
def ov_431 : List mo_Op := (1, 174, 1, (-1), 0) :: ov_430
def ov_432 : List mo_Op := (1, 174, 2, (-1), 0) :: ov_431
def ov_433 : List mo_Op := (1, 174, 3, (-1), 0) :: ov_432
def ov_434 : List mo_Op := (1, 174, 4, (-1), 0) :: ov_433
def ov_435 : List mo_Op := (1, 174, 5, (-1), 0) :: ov_434
def ov_436 : List mo_Op := (1, 174, 6, (-1), 0) :: ov_435
def ov_437 : List mo_Op := (1, 174, 7, (-1), 0) :: ov_436
def ov_438 : List mo_Op := (1, 174, 8, (-1), 0) :: ov_437
def ov_439 : List mo_Op := (1, 174, 9, (-1), 0) :: ov_438
def ov_440 : List mo_Op := (1, 174, 10, (-1), 0) :: ov_439
def ov_441 : List mo_Op := (1, 174, 11, (-1), 0) :: ov_440
def ov_442 : List mo_Op := (1, 174, 12, (-1), 0) :: ov_441
def ov_443 : List mo_Op := (1, 174, 13, (-1), 0) :: ov_442
def ov_444 : List mo_Op := (1, 174, 14, (-1), 0) :: ov_443
def ov_445 : List mo_Op := (1, 174, 15, (-1), 0) :: ov_444
def ov_446 : List mo_Op := (1, 157, 0, (-1), 0) :: ov_445
def ov_447 : List mo_Op := (1, 157, 1, (-1), 0) :: ov_446
def ov_448 : List mo_Op := (1, 157, 2, (-1), 0) :: ov_447
def ov_449 : List mo_Op := (1, 157, 3, (-1), 0) :: ov_448
def ov_450 : List mo_Op := (1, 127, 0, (-1), 0) :: ov_449
set_option maxRecDepth 4000 in
theorem mi_Sky_init_1 {len : Nat} {xs : Nat → Int32} (d : Nat) : mm_call (mm_X len xs) mm_Y (d + 1) 1 [.ref 1] (mU 2 oo_2) = some (none, mU 3 oo_6) := by
  show mm_fix (mm_X len xs) mm_Y (mm_call (mm_X len xs) mm_Y (d + 0)) (mm_look mc_Sky_init) (0, [some (.ref 1)], [], mU 2 oo_2) = _
  refine fx_go 4 (c' := (7, [some (.ref 1)], [.int 42, .ref 1], mU 2 oo_2)) rfl ?_
  refine sv_st (c' := (9, [some (.ref 1)], [.ref 2, .ref 1], mU 3 oo_3)) (su_na (len := 2) rfl rfl rfl rfl rfl) ?_
  refine sv_st (c' := (12, [some (.ref 1)], [], mU 3 oo_4)) (su_pR (len := 3) rfl rfl rfl) ?_
  refine fx_go 2 (c' := (15, [some (.ref 1)], [.int 64, .ref 1], mU 3 oo_4)) rfl ?_
  refine sv_st (c' := (18, [some (.ref 1)], [], mU 3 oo_5)) (su_pI (len := 3) rfl rfl rfl) ?_
  refine fx_go 2 (c' := (21, [some (.ref 1)], [.int 28, .ref 1], mU 3 oo_5)) rfl ?_
  refine sv_st (c' := (24, [some (.ref 1)], [], mU 3 oo_6)) (su_pI (len := 3) rfl rfl rfl) ?_
  exact fx_ret rfl
set_option maxRecDepth 4000 in
theorem mi_Works_init_3 {len : Nat} {xs : Nat → Int32} (d : Nat) : mm_call (mm_X len xs) mm_Y (d + 1) 2 [.ref 3] (mU 4 oo_8) = some (none, mU 12 oo_34) := by
  show mm_fix (mm_X len xs) mm_Y (mm_call (mm_X len xs) mm_Y (d + 0)) (mm_look mc_Works_init) (0, [some (.ref 3)], [], mU 4 oo_8) = _
  refine fx_go 4 (c' := (6, [some (.ref 3)], [.int 3, .ref 3], mU 4 oo_8)) rfl ?_
  refine sv_st (c' := (8, [some (.ref 3)], [.ref 4, .ref 3], mU 5 oo_9)) (su_na (len := 2) rfl rfl rfl rfl rfl) ?_
  refine fx_go 3 (c' := (12, [some (.ref 3)], [.int 100, .int 0, .ref 4, .ref 4, .ref 3], mU 5 oo_9)) rfl ?_
  refine sv_st (c' := (13, [some (.ref 3)], [.ref 4, .ref 3], mU 5 oo_10)) (su_iS rfl rfl rfl rfl rfl) ?_
  refine fx_go 3 (c' := (17, [some (.ref 3)], [.int 100, .int 1, .ref 4, .ref 4, .ref 3], mU 5 oo_10)) rfl ?_
  refine sv_st (c' := (18, [some (.ref 3)], [.ref 4, .ref 3], mU 5 oo_11)) (su_iS rfl rfl rfl rfl rfl) ?_
  refine fx_go 3 (c' := (22, [some (.ref 3)], [.int 100, .int 2, .ref 4, .ref 4, .ref 3], mU 5 oo_11)) rfl ?_
  refine sv_st (c' := (23, [some (.ref 3)], [.ref 4, .ref 3], mU 5 oo_12)) (su_iS rfl rfl rfl rfl rfl) ?_
  refine sv_st (c' := (26, [some (.ref 3)], [], mU 5 oo_13)) (su_pR (len := 3) rfl rfl rfl) ?_
  refine fx_go 2 (c' := (28, [some (.ref 3)], [.int 3, .ref 3], mU 5 oo_13)) rfl ?_
  refine sv_st (c' := (30, [some (.ref 3)], [.ref 5, .ref 3], mU 6 oo_14)) (su_na (len := 2) rfl rfl rfl rfl rfl) ?_
  refine fx_go 3 (c' := (34, [some (.ref 3)], [.int 60, .int 0, .ref 5, .ref 5, .ref 3], mU 6 oo_14)) rfl ?_
  refine sv_st (c' := (35, [some (.ref 3)], [.ref 5, .ref 3], mU 6 oo_15)) (su_iS rfl rfl rfl rfl rfl) ?_
  refine fx_go 3 (c' := (39, [some (.ref 3)], [.int 60, .int 1, .ref 5, .ref 5, .ref 3], mU 6 oo_15)) rfl ?_
  refine sv_st (c' := (40, [some (.ref 3)], [.ref 5, .ref 3], mU 6 oo_16)) (su_iS rfl rfl rfl rfl rfl) ?_
  refine fx_go 3 (c' := (44, [some (.ref 3)], [.int 60, .int 2, .ref 5, .ref 5, .ref 3], mU 6 oo_16)) rfl ?_
  refine sv_st (c' := (45, [some (.ref 3)], [.ref 5, .ref 3], mU 6 oo_17)) (su_iS rfl rfl rfl rfl rfl) ?_
  refine sv_st (c' := (48, [some (.ref 3)], [], mU 6 oo_18)) (su_pR (len := 3) rfl rfl rfl) ?_
  refine fx_go 2 (c' := (50, [some (.ref 3)], [.int 3, .ref 3], mU 6 oo_18)) rfl ?_
  refine sv_st (c' := (52, [some (.ref 3)], [.ref 6, .ref 3], mU 7 oo_19)) (su_na (len := 2) rfl rfl rfl rfl rfl) ?_
  refine fx_go 3 (c' := (55, [some (.ref 3)], [.int 5, .int 0, .ref 6, .ref 6, .ref 3], mU 7 oo_19)) rfl ?_
  refine sv_st (c' := (56, [some (.ref 3)], [.ref 6, .ref 3], mU 7 oo_20)) (su_iS rfl rfl rfl rfl rfl) ?_
  refine fx_go 3 (c' := (59, [some (.ref 3)], [.int 5, .int 1, .ref 6, .ref 6, .ref 3], mU 7 oo_20)) rfl ?_
  refine sv_st (c' := (60, [some (.ref 3)], [.ref 6, .ref 3], mU 7 oo_21)) (su_iS rfl rfl rfl rfl rfl) ?_
  refine fx_go 3 (c' := (63, [some (.ref 3)], [.int 5, .int 2, .ref 6, .ref 6, .ref 3], mU 7 oo_21)) rfl ?_
  refine sv_st (c' := (64, [some (.ref 3)], [.ref 6, .ref 3], mU 7 oo_22)) (su_iS rfl rfl rfl rfl rfl) ?_
  refine sv_st (c' := (67, [some (.ref 3)], [], mU 7 oo_23)) (su_pR (len := 3) rfl rfl rfl) ?_
  refine fx_go 2 (c' := (69, [some (.ref 3)], [.int 3, .ref 3], mU 7 oo_23)) rfl ?_
  refine sv_st (c' := (71, [some (.ref 3)], [.ref 7, .ref 3], mU 8 oo_24)) (su_na (len := 2) rfl rfl rfl rfl rfl) ?_
  refine sv_st (c' := (74, [some (.ref 3)], [], mU 8 oo_25)) (su_pR (len := 3) rfl rfl rfl) ?_
  refine fx_go 2 (c' := (77, [some (.ref 3)], [.int 6, .ref 3], mU 8 oo_25)) rfl ?_
  refine sv_st (c' := (79, [some (.ref 3)], [.ref 8, .ref 3], mU 9 oo_26)) (su_na (len := 2) rfl rfl rfl rfl rfl) ?_
  refine sv_st (c' := (82, [some (.ref 3)], [], mU 9 oo_27)) (su_pR (len := 3) rfl rfl rfl) ?_
  refine fx_go 2 (c' := (85, [some (.ref 3)], [.int 6, .ref 3], mU 9 oo_27)) rfl ?_
  refine sv_st (c' := (87, [some (.ref 3)], [.ref 9, .ref 3], mU 10 oo_28)) (su_na (len := 2) rfl rfl rfl rfl rfl) ?_
  refine sv_st (c' := (90, [some (.ref 3)], [], mU 10 oo_29)) (su_pR (len := 3) rfl rfl rfl) ?_
  refine fx_go 2 (c' := (93, [some (.ref 3)], [.int 6, .ref 3], mU 10 oo_29)) rfl ?_
  refine sv_st (c' := (95, [some (.ref 3)], [.ref 10, .ref 3], mU 11 oo_30)) (su_na (len := 2) rfl rfl rfl rfl rfl) ?_
  refine sv_st (c' := (98, [some (.ref 3)], [], mU 11 oo_31)) (su_pR (len := 3) rfl rfl rfl) ?_
  refine fx_go 2 (c' := (101, [some (.ref 3)], [.int 6, .ref 3], mU 11 oo_31)) rfl ?_
  refine sv_st (c' := (103, [some (.ref 3)], [.ref 11, .ref 3], mU 12 oo_32)) (su_na (len := 2) rfl rfl rfl rfl rfl) ?_
  refine sv_st (c' := (106, [some (.ref 3)], [], mU 12 oo_33)) (su_pR (len := 3) rfl rfl rfl) ?_
  refine fx_go 2 (c' := (109, [some (.ref 3)], [.int 6, .ref 3], mU 12 oo_33)) rfl ?_
  refine sv_st (c' := (112, [some (.ref 3)], [], mU 12 oo_34)) (su_pI (len := 3) rfl rfl rfl) ?_
  exact fx_ret rfl
set_option maxRecDepth 4000 in
theorem mi_Things_init_12 {len : Nat} {xs : Nat → Int32} (d : Nat) : mm_call (mm_X len xs) mm_Y (d + 1) 3 [.ref 12] (mU 13 oo_36) = some (none, mU 25 oo_60) := by
  show mm_fix (mm_X len xs) mm_Y (mm_call (mm_X len xs) mm_Y (d + 0)) (mm_look mc_Things_init) (0, [some (.ref 12)], [], mU 13 oo_36) = _
  refine fx_go 4 (c' := (7, [some (.ref 12)], [.int 40, .ref 12], mU 13 oo_36)) rfl ?_
  refine sv_st (c' := (9, [some (.ref 12)], [.ref 13, .ref 12], mU 14 oo_37)) (su_na (len := 2) rfl rfl rfl rfl rfl) ?_
  refine sv_st (c' := (12, [some (.ref 12)], [], mU 14 oo_38)) (su_pR (len := 3) rfl rfl rfl) ?_
  refine fx_go 2 (c' := (15, [some (.ref 12)], [.int 40, .ref 12], mU 14 oo_38)) rfl ?_
  refine sv_st (c' := (17, [some (.ref 12)], [.ref 14, .ref 12], mU 15 oo_39)) (su_na (len := 2) rfl rfl rfl rfl rfl) ?_
  refine sv_st (c' := (20, [some (.ref 12)], [], mU 15 oo_40)) (su_pR (len := 3) rfl rfl rfl) ?_
  refine fx_go 2 (c' := (23, [some (.ref 12)], [.int 40, .ref 12], mU 15 oo_40)) rfl ?_
  refine sv_st (c' := (25, [some (.ref 12)], [.ref 15, .ref 12], mU 16 oo_41)) (su_na (len := 2) rfl rfl rfl rfl rfl) ?_
  refine sv_st (c' := (28, [some (.ref 12)], [], mU 16 oo_42)) (su_pR (len := 3) rfl rfl rfl) ?_
  refine fx_go 2 (c' := (31, [some (.ref 12)], [.int 40, .ref 12], mU 16 oo_42)) rfl ?_
  refine sv_st (c' := (33, [some (.ref 12)], [.ref 16, .ref 12], mU 17 oo_43)) (su_na (len := 2) rfl rfl rfl rfl rfl) ?_
  refine sv_st (c' := (36, [some (.ref 12)], [], mU 17 oo_44)) (su_pR (len := 3) rfl rfl rfl) ?_
  refine fx_go 2 (c' := (39, [some (.ref 12)], [.int 40, .ref 12], mU 17 oo_44)) rfl ?_
  refine sv_st (c' := (41, [some (.ref 12)], [.ref 17, .ref 12], mU 18 oo_45)) (su_na (len := 2) rfl rfl rfl rfl rfl) ?_
  refine sv_st (c' := (44, [some (.ref 12)], [], mU 18 oo_46)) (su_pR (len := 3) rfl rfl rfl) ?_
  refine fx_go 2 (c' := (47, [some (.ref 12)], [.int 40, .ref 12], mU 18 oo_46)) rfl ?_
  refine sv_st (c' := (49, [some (.ref 12)], [.ref 18, .ref 12], mU 19 oo_47)) (su_na (len := 2) rfl rfl rfl rfl rfl) ?_
  refine sv_st (c' := (52, [some (.ref 12)], [], mU 19 oo_48)) (su_pR (len := 3) rfl rfl rfl) ?_
  refine fx_go 2 (c' := (55, [some (.ref 12)], [.int 40, .ref 12], mU 19 oo_48)) rfl ?_
  refine sv_st (c' := (57, [some (.ref 12)], [.ref 19, .ref 12], mU 20 oo_49)) (su_na (len := 2) rfl rfl rfl rfl rfl) ?_
  refine sv_st (c' := (60, [some (.ref 12)], [], mU 20 oo_50)) (su_pR (len := 3) rfl rfl rfl) ?_
  refine fx_go 2 (c' := (63, [some (.ref 12)], [.int 40, .ref 12], mU 20 oo_50)) rfl ?_
  refine sv_st (c' := (65, [some (.ref 12)], [.ref 20, .ref 12], mU 21 oo_51)) (su_na (len := 2) rfl rfl rfl rfl rfl) ?_
  refine sv_st (c' := (68, [some (.ref 12)], [], mU 21 oo_52)) (su_pR (len := 3) rfl rfl rfl) ?_
  refine fx_go 2 (c' := (71, [some (.ref 12)], [.int 40, .ref 12], mU 21 oo_52)) rfl ?_
  refine sv_st (c' := (73, [some (.ref 12)], [.ref 21, .ref 12], mU 22 oo_53)) (su_na (len := 2) rfl rfl rfl rfl rfl) ?_
  refine sv_st (c' := (76, [some (.ref 12)], [], mU 22 oo_54)) (su_pR (len := 3) rfl rfl rfl) ?_
  refine fx_go 2 (c' := (79, [some (.ref 12)], [.int 40, .ref 12], mU 22 oo_54)) rfl ?_
  refine sv_st (c' := (81, [some (.ref 12)], [.ref 22, .ref 12], mU 23 oo_55)) (su_na (len := 2) rfl rfl rfl rfl rfl) ?_
  refine sv_st (c' := (84, [some (.ref 12)], [], mU 23 oo_56)) (su_pR (len := 3) rfl rfl rfl) ?_
  refine fx_go 2 (c' := (87, [some (.ref 12)], [.int 40, .ref 12], mU 23 oo_56)) rfl ?_
  refine sv_st (c' := (89, [some (.ref 12)], [.ref 23, .ref 12], mU 24 oo_57)) (su_na (len := 2) rfl rfl rfl rfl rfl) ?_
  refine sv_st (c' := (92, [some (.ref 12)], [], mU 24 oo_58)) (su_pR (len := 3) rfl rfl rfl) ?_
  refine fx_go 2 (c' := (95, [some (.ref 12)], [.int 40, .ref 12], mU 24 oo_58)) rfl ?_
  refine sv_st (c' := (97, [some (.ref 12)], [.ref 24, .ref 12], mU 25 oo_59)) (su_na (len := 2) rfl rfl rfl rfl rfl) ?_
  refine sv_st (c' := (100, [some (.ref 12)], [], mU 25 oo_60)) (su_pR (len := 3) rfl rfl rfl) ?_
  exact fx_ret rfl
set_option maxRecDepth 4000 in
theorem mi_Net_init_25 {len : Nat} {xs : Nat → Int32} (d : Nat) : mm_call (mm_X len xs) mm_Y (d + 1) 4 [.ref 25] (mU 26 oo_62) = some (none, mU 36 oo_85) := by
  show mm_fix (mm_X len xs) mm_Y (mm_call (mm_X len xs) mm_Y (d + 0)) (mm_look mc_Net_init) (0, [some (.ref 25)], [], mU 26 oo_62) = _
  refine fx_go 4 (c' := (7, [some (.ref 25)], [.int 16, .ref 25], mU 26 oo_62)) rfl ?_
  refine sv_st (c' := (9, [some (.ref 25)], [.ref 26, .ref 25], mU 27 oo_63)) (su_na (len := 2) rfl rfl rfl rfl rfl) ?_
  refine sv_st (c' := (12, [some (.ref 25)], [], mU 27 oo_64)) (su_pR (len := 3) rfl rfl rfl) ?_
  refine fx_go 2 (c' := (15, [some (.ref 25)], [.int 16, .ref 25], mU 27 oo_64)) rfl ?_
  refine sv_st (c' := (17, [some (.ref 25)], [.ref 27, .ref 25], mU 28 oo_65)) (su_na (len := 2) rfl rfl rfl rfl rfl) ?_
  refine sv_st (c' := (20, [some (.ref 25)], [], mU 28 oo_66)) (su_pR (len := 3) rfl rfl rfl) ?_
  refine fx_go 2 (c' := (23, [some (.ref 25)], [.int 16, .ref 25], mU 28 oo_66)) rfl ?_
  refine sv_st (c' := (25, [some (.ref 25)], [.ref 28, .ref 25], mU 29 oo_67)) (su_na (len := 2) rfl rfl rfl rfl rfl) ?_
  refine sv_st (c' := (28, [some (.ref 25)], [], mU 29 oo_68)) (su_pR (len := 3) rfl rfl rfl) ?_
  refine fx_go 2 (c' := (31, [some (.ref 25)], [.int 16, .ref 25], mU 29 oo_68)) rfl ?_
  refine sv_st (c' := (33, [some (.ref 25)], [.ref 29, .ref 25], mU 30 oo_69)) (su_na (len := 2) rfl rfl rfl rfl rfl) ?_
  refine sv_st (c' := (36, [some (.ref 25)], [], mU 30 oo_70)) (su_pR (len := 3) rfl rfl rfl) ?_
  refine fx_go 2 (c' := (39, [some (.ref 25)], [.int 16, .ref 25], mU 30 oo_70)) rfl ?_
  refine sv_st (c' := (41, [some (.ref 25)], [.ref 30, .ref 25], mU 31 oo_71)) (su_na (len := 2) rfl rfl rfl rfl rfl) ?_
  refine sv_st (c' := (44, [some (.ref 25)], [], mU 31 oo_72)) (su_pR (len := 3) rfl rfl rfl) ?_
  refine fx_go 2 (c' := (47, [some (.ref 25)], [.int 16, .ref 25], mU 31 oo_72)) rfl ?_
  refine sv_st (c' := (49, [some (.ref 25)], [.ref 31, .ref 25], mU 32 oo_73)) (su_na (len := 2) rfl rfl rfl rfl rfl) ?_
  refine sv_st (c' := (52, [some (.ref 25)], [], mU 32 oo_74)) (su_pR (len := 3) rfl rfl rfl) ?_
  refine fx_go 2 (c' := (55, [some (.ref 25)], [.int 16, .ref 25], mU 32 oo_74)) rfl ?_
  refine sv_st (c' := (57, [some (.ref 25)], [.ref 32, .ref 25], mU 33 oo_75)) (su_na (len := 2) rfl rfl rfl rfl rfl) ?_
  refine sv_st (c' := (60, [some (.ref 25)], [], mU 33 oo_76)) (su_pR (len := 3) rfl rfl rfl) ?_
  refine fx_go 2 (c' := (63, [some (.ref 25)], [.int 16, .ref 25], mU 33 oo_76)) rfl ?_
  refine sv_st (c' := (65, [some (.ref 25)], [.ref 33, .ref 25], mU 34 oo_77)) (su_na (len := 2) rfl rfl rfl rfl rfl) ?_
  refine sv_st (c' := (68, [some (.ref 25)], [], mU 34 oo_78)) (su_pR (len := 3) rfl rfl rfl) ?_
  refine fx_go 2 (c' := (71, [some (.ref 25)], [.int 16, .ref 25], mU 34 oo_78)) rfl ?_
  refine sv_st (c' := (73, [some (.ref 25)], [.ref 34, .ref 25], mU 35 oo_79)) (su_na (len := 2) rfl rfl rfl rfl rfl) ?_
  refine sv_st (c' := (76, [some (.ref 25)], [], mU 35 oo_80)) (su_pR (len := 3) rfl rfl rfl) ?_
  refine fx_go 2 (c' := (79, [some (.ref 25)], [.int 16, .ref 25], mU 35 oo_80)) rfl ?_
  refine sv_st (c' := (81, [some (.ref 25)], [.ref 35, .ref 25], mU 36 oo_81)) (su_na (len := 2) rfl rfl rfl rfl rfl) ?_
  refine sv_st (c' := (84, [some (.ref 25)], [], mU 36 oo_82)) (su_pR (len := 3) rfl rfl rfl) ?_
  refine fx_go 2 (c' := (86, [some (.ref 25)], [.int 1, .ref 25], mU 36 oo_82)) rfl ?_
  refine sv_st (c' := (89, [some (.ref 25)], [], mU 36 oo_83)) (su_pI (len := 3) rfl rfl rfl) ?_
  refine fx_go 2 (c' := (92, [some (.ref 25)], [.int 40, .ref 25], mU 36 oo_83)) rfl ?_
  refine sv_st (c' := (95, [some (.ref 25)], [], mU 36 oo_84)) (su_pI (len := 3) rfl rfl rfl) ?_
  refine fx_go 1 (c' := (96, [some (.ref 25)], [.ref 25], mU 36 oo_84)) rfl ?_
  refine sv_st (c' := (99, [some (.ref 25)], [.ref 26], mU 36 oo_84)) (su_gR (len := 3) rfl rfl rfl (by decide +kernel)) ?_
  refine fx_go 2 (c' := (101, [some (.ref 25)], [.int (-1), .int 0, .ref 26], mU 36 oo_84)) rfl ?_
  refine sv_st (c' := (102, [some (.ref 25)], [], mU 36 oo_85)) (su_iS rfl rfl rfl rfl rfl) ?_
  exact fx_ret rfl
set_option maxRecDepth 4000 in
theorem mi_Act_init_42 {len : Nat} {xs : Nat → Int32} (d : Nat) : mm_call (mm_X len xs) mm_Y (d + 1) 7 [.ref 42] (mU 43 oo_97) = some (none, mU 50 oo_111) := by
  show mm_fix (mm_X len xs) mm_Y (mm_call (mm_X len xs) mm_Y (d + 0)) (mm_look mc_Act_init) (0, [some (.ref 42)], [], mU 43 oo_97) = _
  refine fx_go 4 (c' := (7, [some (.ref 42)], [.int 24, .ref 42], mU 43 oo_97)) rfl ?_
  refine sv_st (c' := (9, [some (.ref 42)], [.ref 43, .ref 42], mU 44 oo_98)) (su_na (len := 2) rfl rfl rfl rfl rfl) ?_
  refine sv_st (c' := (12, [some (.ref 42)], [], mU 44 oo_99)) (su_pR (len := 3) rfl rfl rfl) ?_
  refine fx_go 2 (c' := (15, [some (.ref 42)], [.int 24, .ref 42], mU 44 oo_99)) rfl ?_
  refine sv_st (c' := (17, [some (.ref 42)], [.ref 44, .ref 42], mU 45 oo_100)) (su_na (len := 2) rfl rfl rfl rfl rfl) ?_
  refine sv_st (c' := (20, [some (.ref 42)], [], mU 45 oo_101)) (su_pR (len := 3) rfl rfl rfl) ?_
  refine fx_go 2 (c' := (23, [some (.ref 42)], [.int 24, .ref 42], mU 45 oo_101)) rfl ?_
  refine sv_st (c' := (25, [some (.ref 42)], [.ref 45, .ref 42], mU 46 oo_102)) (su_na (len := 2) rfl rfl rfl rfl rfl) ?_
  refine sv_st (c' := (28, [some (.ref 42)], [], mU 46 oo_103)) (su_pR (len := 3) rfl rfl rfl) ?_
  refine fx_go 2 (c' := (31, [some (.ref 42)], [.int 24, .ref 42], mU 46 oo_103)) rfl ?_
  refine sv_st (c' := (33, [some (.ref 42)], [.ref 46, .ref 42], mU 47 oo_104)) (su_na (len := 2) rfl rfl rfl rfl rfl) ?_
  refine sv_st (c' := (36, [some (.ref 42)], [], mU 47 oo_105)) (su_pR (len := 3) rfl rfl rfl) ?_
  refine fx_go 2 (c' := (40, [some (.ref 42)], [.int 600, .ref 42], mU 47 oo_105)) rfl ?_
  refine sv_st (c' := (42, [some (.ref 42)], [.ref 47, .ref 42], mU 48 oo_106)) (su_na (len := 2) rfl rfl rfl rfl rfl) ?_
  refine sv_st (c' := (45, [some (.ref 42)], [], mU 48 oo_107)) (su_pR (len := 3) rfl rfl rfl) ?_
  refine fx_go 2 (c' := (49, [some (.ref 42)], [.int 600, .ref 42], mU 48 oo_107)) rfl ?_
  refine sv_st (c' := (51, [some (.ref 42)], [.ref 48, .ref 42], mU 49 oo_108)) (su_na (len := 2) rfl rfl rfl rfl rfl) ?_
  refine sv_st (c' := (54, [some (.ref 42)], [], mU 49 oo_109)) (su_pR (len := 3) rfl rfl rfl) ?_
  refine fx_go 2 (c' := (57, [some (.ref 42)], [.int 64, .ref 42], mU 49 oo_109)) rfl ?_
  refine sv_st (c' := (59, [some (.ref 42)], [.ref 49, .ref 42], mU 50 oo_110)) (su_na (len := 2) rfl rfl rfl rfl rfl) ?_
  refine sv_st (c' := (62, [some (.ref 42)], [], mU 50 oo_111)) (su_pR (len := 3) rfl rfl rfl) ?_
  exact fx_ret rfl
set_option maxRecDepth 4000 in
theorem mi_Parser_init_40 {len : Nat} {xs : Nat → Int32} (d : Nat) : mm_call (mm_X len xs) mm_Y (d + 2) 6 [.ref 40] (mU 41 oo_94) = some (none, mU 51 oo_114) := by
  show mm_fix (mm_X len xs) mm_Y (mm_call (mm_X len xs) mm_Y (d + 1)) (mm_look mc_Parser_init) (0, [some (.ref 40)], [], mU 41 oo_94) = _
  refine fx_go 4 (c' := (6, [some (.ref 40)], [.int 0, .ref 40], mU 41 oo_94)) rfl ?_
  refine sv_st (c' := (8, [some (.ref 40)], [.ref 41, .ref 40], mU 42 oo_95)) (su_na (len := 2) rfl rfl rfl rfl rfl) ?_
  refine sv_st (c' := (11, [some (.ref 40)], [], mU 42 oo_96)) (su_pR (len := 3) rfl rfl rfl) ?_
  refine fx_go 1 (c' := (12, [some (.ref 40)], [.ref 40], mU 42 oo_96)) rfl ?_
  refine sv_st (c' := (15, [some (.ref 40)], [.ref 42, .ref 40], mU 43 oo_97)) (su_new (len := 3) rfl rfl rfl) ?_
  refine fx_go 1 (c' := (16, [some (.ref 40)], [.ref 42, .ref 42, .ref 40], mU 43 oo_97)) rfl ?_
  refine sv_call rfl (mi_Act_init_42 (len := len) (xs := xs) (d + 0)) ?_
  refine sv_st (c' := (22, [some (.ref 40)], [], mU 50 oo_112)) (su_pR (len := 3) rfl rfl rfl) ?_
  refine fx_go 2 (c' := (25, [some (.ref 40)], [.int 64, .ref 40], mU 50 oo_112)) rfl ?_
  refine sv_st (c' := (27, [some (.ref 40)], [.ref 50, .ref 40], mU 51 oo_113)) (su_na (len := 2) rfl rfl rfl rfl rfl) ?_
  refine sv_st (c' := (30, [some (.ref 40)], [], mU 51 oo_114)) (su_pR (len := 3) rfl rfl rfl) ?_
  exact fx_ret rfl
set_option maxRecDepth 4000 in
theorem mi_Act_init_51 {len : Nat} {xs : Nat → Int32} (d : Nat) : mm_call (mm_X len xs) mm_Y (d + 1) 7 [.ref 51] (mU 52 oo_118) = some (none, mU 59 oo_132) := by
  show mm_fix (mm_X len xs) mm_Y (mm_call (mm_X len xs) mm_Y (d + 0)) (mm_look mc_Act_init) (0, [some (.ref 51)], [], mU 52 oo_118) = _
  refine fx_go 4 (c' := (7, [some (.ref 51)], [.int 24, .ref 51], mU 52 oo_118)) rfl ?_
  refine sv_st (c' := (9, [some (.ref 51)], [.ref 52, .ref 51], mU 53 oo_119)) (su_na (len := 2) rfl rfl rfl rfl rfl) ?_
  refine sv_st (c' := (12, [some (.ref 51)], [], mU 53 oo_120)) (su_pR (len := 3) rfl rfl rfl) ?_
  refine fx_go 2 (c' := (15, [some (.ref 51)], [.int 24, .ref 51], mU 53 oo_120)) rfl ?_
  refine sv_st (c' := (17, [some (.ref 51)], [.ref 53, .ref 51], mU 54 oo_121)) (su_na (len := 2) rfl rfl rfl rfl rfl) ?_
  refine sv_st (c' := (20, [some (.ref 51)], [], mU 54 oo_122)) (su_pR (len := 3) rfl rfl rfl) ?_
  refine fx_go 2 (c' := (23, [some (.ref 51)], [.int 24, .ref 51], mU 54 oo_122)) rfl ?_
  refine sv_st (c' := (25, [some (.ref 51)], [.ref 54, .ref 51], mU 55 oo_123)) (su_na (len := 2) rfl rfl rfl rfl rfl) ?_
  refine sv_st (c' := (28, [some (.ref 51)], [], mU 55 oo_124)) (su_pR (len := 3) rfl rfl rfl) ?_
  refine fx_go 2 (c' := (31, [some (.ref 51)], [.int 24, .ref 51], mU 55 oo_124)) rfl ?_
  refine sv_st (c' := (33, [some (.ref 51)], [.ref 55, .ref 51], mU 56 oo_125)) (su_na (len := 2) rfl rfl rfl rfl rfl) ?_
  refine sv_st (c' := (36, [some (.ref 51)], [], mU 56 oo_126)) (su_pR (len := 3) rfl rfl rfl) ?_
  refine fx_go 2 (c' := (40, [some (.ref 51)], [.int 600, .ref 51], mU 56 oo_126)) rfl ?_
  refine sv_st (c' := (42, [some (.ref 51)], [.ref 56, .ref 51], mU 57 oo_127)) (su_na (len := 2) rfl rfl rfl rfl rfl) ?_
  refine sv_st (c' := (45, [some (.ref 51)], [], mU 57 oo_128)) (su_pR (len := 3) rfl rfl rfl) ?_
  refine fx_go 2 (c' := (49, [some (.ref 51)], [.int 600, .ref 51], mU 57 oo_128)) rfl ?_
  refine sv_st (c' := (51, [some (.ref 51)], [.ref 57, .ref 51], mU 58 oo_129)) (su_na (len := 2) rfl rfl rfl rfl rfl) ?_
  refine sv_st (c' := (54, [some (.ref 51)], [], mU 58 oo_130)) (su_pR (len := 3) rfl rfl rfl) ?_
  refine fx_go 2 (c' := (57, [some (.ref 51)], [.int 64, .ref 51], mU 58 oo_130)) rfl ?_
  refine sv_st (c' := (59, [some (.ref 51)], [.ref 58, .ref 51], mU 59 oo_131)) (su_na (len := 2) rfl rfl rfl rfl rfl) ?_
  refine sv_st (c' := (62, [some (.ref 51)], [], mU 59 oo_132)) (su_pR (len := 3) rfl rfl rfl) ?_
  exact fx_ret rfl
set_option maxRecDepth 4000 in
theorem mi_Act_init_59 {len : Nat} {xs : Nat → Int32} (d : Nat) : mm_call (mm_X len xs) mm_Y (d + 1) 7 [.ref 59] (mU 60 oo_134) = some (none, mU 67 oo_148) := by
  show mm_fix (mm_X len xs) mm_Y (mm_call (mm_X len xs) mm_Y (d + 0)) (mm_look mc_Act_init) (0, [some (.ref 59)], [], mU 60 oo_134) = _
  refine fx_go 4 (c' := (7, [some (.ref 59)], [.int 24, .ref 59], mU 60 oo_134)) rfl ?_
  refine sv_st (c' := (9, [some (.ref 59)], [.ref 60, .ref 59], mU 61 oo_135)) (su_na (len := 2) rfl rfl rfl rfl rfl) ?_
  refine sv_st (c' := (12, [some (.ref 59)], [], mU 61 oo_136)) (su_pR (len := 3) rfl rfl rfl) ?_
  refine fx_go 2 (c' := (15, [some (.ref 59)], [.int 24, .ref 59], mU 61 oo_136)) rfl ?_
  refine sv_st (c' := (17, [some (.ref 59)], [.ref 61, .ref 59], mU 62 oo_137)) (su_na (len := 2) rfl rfl rfl rfl rfl) ?_
  refine sv_st (c' := (20, [some (.ref 59)], [], mU 62 oo_138)) (su_pR (len := 3) rfl rfl rfl) ?_
  refine fx_go 2 (c' := (23, [some (.ref 59)], [.int 24, .ref 59], mU 62 oo_138)) rfl ?_
  refine sv_st (c' := (25, [some (.ref 59)], [.ref 62, .ref 59], mU 63 oo_139)) (su_na (len := 2) rfl rfl rfl rfl rfl) ?_
  refine sv_st (c' := (28, [some (.ref 59)], [], mU 63 oo_140)) (su_pR (len := 3) rfl rfl rfl) ?_
  refine fx_go 2 (c' := (31, [some (.ref 59)], [.int 24, .ref 59], mU 63 oo_140)) rfl ?_
  refine sv_st (c' := (33, [some (.ref 59)], [.ref 63, .ref 59], mU 64 oo_141)) (su_na (len := 2) rfl rfl rfl rfl rfl) ?_
  refine sv_st (c' := (36, [some (.ref 59)], [], mU 64 oo_142)) (su_pR (len := 3) rfl rfl rfl) ?_
  refine fx_go 2 (c' := (40, [some (.ref 59)], [.int 600, .ref 59], mU 64 oo_142)) rfl ?_
  refine sv_st (c' := (42, [some (.ref 59)], [.ref 64, .ref 59], mU 65 oo_143)) (su_na (len := 2) rfl rfl rfl rfl rfl) ?_
  refine sv_st (c' := (45, [some (.ref 59)], [], mU 65 oo_144)) (su_pR (len := 3) rfl rfl rfl) ?_
  refine fx_go 2 (c' := (49, [some (.ref 59)], [.int 600, .ref 59], mU 65 oo_144)) rfl ?_
  refine sv_st (c' := (51, [some (.ref 59)], [.ref 65, .ref 59], mU 66 oo_145)) (su_na (len := 2) rfl rfl rfl rfl rfl) ?_
  refine sv_st (c' := (54, [some (.ref 59)], [], mU 66 oo_146)) (su_pR (len := 3) rfl rfl rfl) ?_
  refine fx_go 2 (c' := (57, [some (.ref 59)], [.int 64, .ref 59], mU 66 oo_146)) rfl ?_
  refine sv_st (c' := (59, [some (.ref 59)], [.ref 66, .ref 59], mU 67 oo_147)) (su_na (len := 2) rfl rfl rfl rfl rfl) ?_
  refine sv_st (c' := (62, [some (.ref 59)], [], mU 67 oo_148)) (su_pR (len := 3) rfl rfl rfl) ?_
  exact fx_ret rfl
set_option maxRecDepth 4000 in
theorem mi_Act_init_67 {len : Nat} {xs : Nat → Int32} (d : Nat) : mm_call (mm_X len xs) mm_Y (d + 1) 7 [.ref 67] (mU 68 oo_150) = some (none, mU 75 oo_164) := by
  show mm_fix (mm_X len xs) mm_Y (mm_call (mm_X len xs) mm_Y (d + 0)) (mm_look mc_Act_init) (0, [some (.ref 67)], [], mU 68 oo_150) = _
  refine fx_go 4 (c' := (7, [some (.ref 67)], [.int 24, .ref 67], mU 68 oo_150)) rfl ?_
  refine sv_st (c' := (9, [some (.ref 67)], [.ref 68, .ref 67], mU 69 oo_151)) (su_na (len := 2) rfl rfl rfl rfl rfl) ?_
  refine sv_st (c' := (12, [some (.ref 67)], [], mU 69 oo_152)) (su_pR (len := 3) rfl rfl rfl) ?_
  refine fx_go 2 (c' := (15, [some (.ref 67)], [.int 24, .ref 67], mU 69 oo_152)) rfl ?_
  refine sv_st (c' := (17, [some (.ref 67)], [.ref 69, .ref 67], mU 70 oo_153)) (su_na (len := 2) rfl rfl rfl rfl rfl) ?_
  refine sv_st (c' := (20, [some (.ref 67)], [], mU 70 oo_154)) (su_pR (len := 3) rfl rfl rfl) ?_
  refine fx_go 2 (c' := (23, [some (.ref 67)], [.int 24, .ref 67], mU 70 oo_154)) rfl ?_
  refine sv_st (c' := (25, [some (.ref 67)], [.ref 70, .ref 67], mU 71 oo_155)) (su_na (len := 2) rfl rfl rfl rfl rfl) ?_
  refine sv_st (c' := (28, [some (.ref 67)], [], mU 71 oo_156)) (su_pR (len := 3) rfl rfl rfl) ?_
  refine fx_go 2 (c' := (31, [some (.ref 67)], [.int 24, .ref 67], mU 71 oo_156)) rfl ?_
  refine sv_st (c' := (33, [some (.ref 67)], [.ref 71, .ref 67], mU 72 oo_157)) (su_na (len := 2) rfl rfl rfl rfl rfl) ?_
  refine sv_st (c' := (36, [some (.ref 67)], [], mU 72 oo_158)) (su_pR (len := 3) rfl rfl rfl) ?_
  refine fx_go 2 (c' := (40, [some (.ref 67)], [.int 600, .ref 67], mU 72 oo_158)) rfl ?_
  refine sv_st (c' := (42, [some (.ref 67)], [.ref 72, .ref 67], mU 73 oo_159)) (su_na (len := 2) rfl rfl rfl rfl rfl) ?_
  refine sv_st (c' := (45, [some (.ref 67)], [], mU 73 oo_160)) (su_pR (len := 3) rfl rfl rfl) ?_
  refine fx_go 2 (c' := (49, [some (.ref 67)], [.int 600, .ref 67], mU 73 oo_160)) rfl ?_
  refine sv_st (c' := (51, [some (.ref 67)], [.ref 73, .ref 67], mU 74 oo_161)) (su_na (len := 2) rfl rfl rfl rfl rfl) ?_
  refine sv_st (c' := (54, [some (.ref 67)], [], mU 74 oo_162)) (su_pR (len := 3) rfl rfl rfl) ?_
  refine fx_go 2 (c' := (57, [some (.ref 67)], [.int 64, .ref 67], mU 74 oo_162)) rfl ?_
  refine sv_st (c' := (59, [some (.ref 67)], [.ref 74, .ref 67], mU 75 oo_163)) (su_na (len := 2) rfl rfl rfl rfl rfl) ?_
  refine sv_st (c' := (62, [some (.ref 67)], [], mU 75 oo_164)) (su_pR (len := 3) rfl rfl rfl) ?_
  exact fx_ret rfl
set_option maxRecDepth 4000 in
theorem mi_Act_init_75 {len : Nat} {xs : Nat → Int32} (d : Nat) : mm_call (mm_X len xs) mm_Y (d + 1) 7 [.ref 75] (mU 76 oo_166) = some (none, mU 83 oo_180) := by
  show mm_fix (mm_X len xs) mm_Y (mm_call (mm_X len xs) mm_Y (d + 0)) (mm_look mc_Act_init) (0, [some (.ref 75)], [], mU 76 oo_166) = _
  refine fx_go 4 (c' := (7, [some (.ref 75)], [.int 24, .ref 75], mU 76 oo_166)) rfl ?_
  refine sv_st (c' := (9, [some (.ref 75)], [.ref 76, .ref 75], mU 77 oo_167)) (su_na (len := 2) rfl rfl rfl rfl rfl) ?_
  refine sv_st (c' := (12, [some (.ref 75)], [], mU 77 oo_168)) (su_pR (len := 3) rfl rfl rfl) ?_
  refine fx_go 2 (c' := (15, [some (.ref 75)], [.int 24, .ref 75], mU 77 oo_168)) rfl ?_
  refine sv_st (c' := (17, [some (.ref 75)], [.ref 77, .ref 75], mU 78 oo_169)) (su_na (len := 2) rfl rfl rfl rfl rfl) ?_
  refine sv_st (c' := (20, [some (.ref 75)], [], mU 78 oo_170)) (su_pR (len := 3) rfl rfl rfl) ?_
  refine fx_go 2 (c' := (23, [some (.ref 75)], [.int 24, .ref 75], mU 78 oo_170)) rfl ?_
  refine sv_st (c' := (25, [some (.ref 75)], [.ref 78, .ref 75], mU 79 oo_171)) (su_na (len := 2) rfl rfl rfl rfl rfl) ?_
  refine sv_st (c' := (28, [some (.ref 75)], [], mU 79 oo_172)) (su_pR (len := 3) rfl rfl rfl) ?_
  refine fx_go 2 (c' := (31, [some (.ref 75)], [.int 24, .ref 75], mU 79 oo_172)) rfl ?_
  refine sv_st (c' := (33, [some (.ref 75)], [.ref 79, .ref 75], mU 80 oo_173)) (su_na (len := 2) rfl rfl rfl rfl rfl) ?_
  refine sv_st (c' := (36, [some (.ref 75)], [], mU 80 oo_174)) (su_pR (len := 3) rfl rfl rfl) ?_
  refine fx_go 2 (c' := (40, [some (.ref 75)], [.int 600, .ref 75], mU 80 oo_174)) rfl ?_
  refine sv_st (c' := (42, [some (.ref 75)], [.ref 80, .ref 75], mU 81 oo_175)) (su_na (len := 2) rfl rfl rfl rfl rfl) ?_
  refine sv_st (c' := (45, [some (.ref 75)], [], mU 81 oo_176)) (su_pR (len := 3) rfl rfl rfl) ?_
  refine fx_go 2 (c' := (49, [some (.ref 75)], [.int 600, .ref 75], mU 81 oo_176)) rfl ?_
  refine sv_st (c' := (51, [some (.ref 75)], [.ref 81, .ref 75], mU 82 oo_177)) (su_na (len := 2) rfl rfl rfl rfl rfl) ?_
  refine sv_st (c' := (54, [some (.ref 75)], [], mU 82 oo_178)) (su_pR (len := 3) rfl rfl rfl) ?_
  refine fx_go 2 (c' := (57, [some (.ref 75)], [.int 64, .ref 75], mU 82 oo_178)) rfl ?_
  refine sv_st (c' := (59, [some (.ref 75)], [.ref 82, .ref 75], mU 83 oo_179)) (su_na (len := 2) rfl rfl rfl rfl rfl) ?_
  refine sv_st (c' := (62, [some (.ref 75)], [], mU 83 oo_180)) (su_pR (len := 3) rfl rfl rfl) ?_
  exact fx_ret rfl
set_option maxRecDepth 4000 in
theorem mi_Laws_init_36 {len : Nat} {xs : Nat → Int32} (d : Nat) : mm_call (mm_X len xs) mm_Y (d + 3) 5 [.ref 36] (mU 37 oo_87) = some (none, mU 83 oo_181) := by
  show mm_fix (mm_X len xs) mm_Y (mm_call (mm_X len xs) mm_Y (d + 2)) (mm_look mc_Laws_init) (0, [some (.ref 36), none], [], mU 37 oo_87) = _
  refine fx_go 4 (c' := (8, [some (.ref 36), none], [.int 600, .ref 36], mU 37 oo_87)) rfl ?_
  refine sv_st (c' := (10, [some (.ref 36), none], [.ref 37, .ref 36], mU 38 oo_88)) (su_na (len := 2) rfl rfl rfl rfl rfl) ?_
  refine sv_st (c' := (13, [some (.ref 36), none], [], mU 38 oo_89)) (su_pR (len := 3) rfl rfl rfl) ?_
  refine fx_go 2 (c' := (15, [some (.ref 36), none], [.int 4, .ref 36], mU 38 oo_89)) rfl ?_
  refine sv_st (c' := (18, [some (.ref 36), none], [.ref 38, .ref 36], mU 39 oo_90)) (su_an (len := 3) rfl rfl rfl rfl rfl) ?_
  refine sv_st (c' := (21, [some (.ref 36), none], [], mU 39 oo_91)) (su_pR (len := 3) rfl rfl rfl) ?_
  refine fx_go 2 (c' := (23, [some (.ref 36), none], [.int 5, .ref 36], mU 39 oo_91)) rfl ?_
  refine sv_st (c' := (25, [some (.ref 36), none], [.ref 39, .ref 36], mU 40 oo_92)) (su_na (len := 2) rfl rfl rfl rfl rfl) ?_
  refine sv_st (c' := (28, [some (.ref 36), none], [], mU 40 oo_93)) (su_pR (len := 3) rfl rfl rfl) ?_
  refine fx_go 1 (c' := (29, [some (.ref 36), none], [.ref 36], mU 40 oo_93)) rfl ?_
  refine sv_st (c' := (32, [some (.ref 36), none], [.ref 40, .ref 36], mU 41 oo_94)) (su_new (len := 3) rfl rfl rfl) ?_
  refine fx_go 1 (c' := (33, [some (.ref 36), none], [.ref 40, .ref 40, .ref 36], mU 41 oo_94)) rfl ?_
  refine sv_call rfl (mi_Parser_init_40 (len := len) (xs := xs) (d + 0)) ?_
  refine sv_st (c' := (39, [some (.ref 36), none], [], mU 51 oo_115)) (su_pR (len := 3) rfl rfl rfl) ?_
  refine fx_go 2 (c' := (41, [some (.ref 36), none], [.int (-1), .ref 36], mU 51 oo_115)) rfl ?_
  refine sv_st (c' := (44, [some (.ref 36), none], [], mU 51 oo_116)) (su_pI (len := 3) rfl rfl rfl) ?_
  refine fx_go 2 (c' := (46, [some (.ref 36), none], [.int (-1), .ref 36], mU 51 oo_116)) rfl ?_
  refine sv_st (c' := (49, [some (.ref 36), none], [], mU 51 oo_117)) (su_pI (len := 3) rfl rfl rfl) ?_
  refine fx_go 6 (c' := (57, [some (.ref 36), some (.int 0)], [.ref 36], mU 51 oo_117)) rfl ?_
  refine sv_st (c' := (60, [some (.ref 36), some (.int 0)], [.ref 38], mU 51 oo_117)) (su_gR (len := 3) rfl rfl rfl (by decide +kernel)) ?_
  refine fx_go 1 (c' := (61, [some (.ref 36), some (.int 0)], [.int 0, .ref 38], mU 51 oo_117)) rfl ?_
  refine sv_st (c' := (64, [some (.ref 36), some (.int 0)], [.ref 51, .int 0, .ref 38], mU 52 oo_118)) (su_new (len := 3) rfl rfl rfl) ?_
  refine fx_go 1 (c' := (65, [some (.ref 36), some (.int 0)], [.ref 51, .ref 51, .int 0, .ref 38], mU 52 oo_118)) rfl ?_
  refine sv_call rfl (mi_Act_init_51 (len := len) (xs := xs) (d + 1)) ?_
  refine sv_st (c' := (69, [some (.ref 36), some (.int 0)], [], mU 59 oo_133)) (su_aS rfl rfl rfl rfl rfl rfl rfl) ?_
  refine fx_go 6 (c' := (57, [some (.ref 36), some (.int 1)], [.ref 36], mU 59 oo_133)) rfl ?_
  refine sv_st (c' := (60, [some (.ref 36), some (.int 1)], [.ref 38], mU 59 oo_133)) (su_gR (len := 3) rfl rfl rfl (by decide +kernel)) ?_
  refine fx_go 1 (c' := (61, [some (.ref 36), some (.int 1)], [.int 1, .ref 38], mU 59 oo_133)) rfl ?_
  refine sv_st (c' := (64, [some (.ref 36), some (.int 1)], [.ref 59, .int 1, .ref 38], mU 60 oo_134)) (su_new (len := 3) rfl rfl rfl) ?_
  refine fx_go 1 (c' := (65, [some (.ref 36), some (.int 1)], [.ref 59, .ref 59, .int 1, .ref 38], mU 60 oo_134)) rfl ?_
  refine sv_call rfl (mi_Act_init_59 (len := len) (xs := xs) (d + 1)) ?_
  refine sv_st (c' := (69, [some (.ref 36), some (.int 1)], [], mU 67 oo_149)) (su_aS rfl rfl rfl rfl rfl rfl rfl) ?_
  refine fx_go 6 (c' := (57, [some (.ref 36), some (.int 2)], [.ref 36], mU 67 oo_149)) rfl ?_
  refine sv_st (c' := (60, [some (.ref 36), some (.int 2)], [.ref 38], mU 67 oo_149)) (su_gR (len := 3) rfl rfl rfl (by decide +kernel)) ?_
  refine fx_go 1 (c' := (61, [some (.ref 36), some (.int 2)], [.int 2, .ref 38], mU 67 oo_149)) rfl ?_
  refine sv_st (c' := (64, [some (.ref 36), some (.int 2)], [.ref 67, .int 2, .ref 38], mU 68 oo_150)) (su_new (len := 3) rfl rfl rfl) ?_
  refine fx_go 1 (c' := (65, [some (.ref 36), some (.int 2)], [.ref 67, .ref 67, .int 2, .ref 38], mU 68 oo_150)) rfl ?_
  refine sv_call rfl (mi_Act_init_67 (len := len) (xs := xs) (d + 1)) ?_
  refine sv_st (c' := (69, [some (.ref 36), some (.int 2)], [], mU 75 oo_165)) (su_aS rfl rfl rfl rfl rfl rfl rfl) ?_
  refine fx_go 6 (c' := (57, [some (.ref 36), some (.int 3)], [.ref 36], mU 75 oo_165)) rfl ?_
  refine sv_st (c' := (60, [some (.ref 36), some (.int 3)], [.ref 38], mU 75 oo_165)) (su_gR (len := 3) rfl rfl rfl (by decide +kernel)) ?_
  refine fx_go 1 (c' := (61, [some (.ref 36), some (.int 3)], [.int 3, .ref 38], mU 75 oo_165)) rfl ?_
  refine sv_st (c' := (64, [some (.ref 36), some (.int 3)], [.ref 75, .int 3, .ref 38], mU 76 oo_166)) (su_new (len := 3) rfl rfl rfl) ?_
  refine fx_go 1 (c' := (65, [some (.ref 36), some (.int 3)], [.ref 75, .ref 75, .int 3, .ref 38], mU 76 oo_166)) rfl ?_
  refine sv_call rfl (mi_Act_init_75 (len := len) (xs := xs) (d + 1)) ?_
  refine sv_st (c' := (69, [some (.ref 36), some (.int 3)], [], mU 83 oo_181)) (su_aS rfl rfl rfl rfl rfl rfl rfl) ?_
  refine fx_go 5 (c' := (75, [some (.ref 36), some (.int 4)], [], mU 83 oo_181)) rfl ?_
  exact fx_ret rfl
set_option maxRecDepth 4000 in
theorem mi_Books_init_83 {len : Nat} {xs : Nat → Int32} (d : Nat) : mm_call (mm_X len xs) mm_Y (d + 1) 8 [.ref 83] (mU 84 oo_183) = some (none, mU 95 oo_205) := by
  show mm_fix (mm_X len xs) mm_Y (mm_call (mm_X len xs) mm_Y (d + 0)) (mm_look mc_Books_init) (0, [some (.ref 83)], [], mU 84 oo_183) = _
  refine fx_go 4 (c' := (8, [some (.ref 83)], [.int 200, .ref 83], mU 84 oo_183)) rfl ?_
  refine sv_st (c' := (10, [some (.ref 83)], [.ref 84, .ref 83], mU 85 oo_184)) (su_na (len := 2) rfl rfl rfl rfl rfl) ?_
  refine sv_st (c' := (13, [some (.ref 83)], [], mU 85 oo_185)) (su_pR (len := 3) rfl rfl rfl) ?_
  refine fx_go 2 (c' := (17, [some (.ref 83)], [.int 200, .ref 83], mU 85 oo_185)) rfl ?_
  refine sv_st (c' := (19, [some (.ref 83)], [.ref 85, .ref 83], mU 86 oo_186)) (su_na (len := 2) rfl rfl rfl rfl rfl) ?_
  refine sv_st (c' := (22, [some (.ref 83)], [], mU 86 oo_187)) (su_pR (len := 3) rfl rfl rfl) ?_
  refine fx_go 2 (c' := (26, [some (.ref 83)], [.int 200, .ref 83], mU 86 oo_187)) rfl ?_
  refine sv_st (c' := (28, [some (.ref 83)], [.ref 86, .ref 83], mU 87 oo_188)) (su_na (len := 2) rfl rfl rfl rfl rfl) ?_
  refine sv_st (c' := (31, [some (.ref 83)], [], mU 87 oo_189)) (su_pR (len := 3) rfl rfl rfl) ?_
  refine fx_go 2 (c' := (35, [some (.ref 83)], [.int 200, .ref 83], mU 87 oo_189)) rfl ?_
  refine sv_st (c' := (37, [some (.ref 83)], [.ref 87, .ref 83], mU 88 oo_190)) (su_na (len := 2) rfl rfl rfl rfl rfl) ?_
  refine sv_st (c' := (40, [some (.ref 83)], [], mU 88 oo_191)) (su_pR (len := 3) rfl rfl rfl) ?_
  refine fx_go 2 (c' := (44, [some (.ref 83)], [.int 200, .ref 83], mU 88 oo_191)) rfl ?_
  refine sv_st (c' := (46, [some (.ref 83)], [.ref 88, .ref 83], mU 89 oo_192)) (su_na (len := 2) rfl rfl rfl rfl rfl) ?_
  refine sv_st (c' := (49, [some (.ref 83)], [], mU 89 oo_193)) (su_pR (len := 3) rfl rfl rfl) ?_
  refine fx_go 2 (c' := (53, [some (.ref 83)], [.int 200, .ref 83], mU 89 oo_193)) rfl ?_
  refine sv_st (c' := (55, [some (.ref 83)], [.ref 89, .ref 83], mU 90 oo_194)) (su_na (len := 2) rfl rfl rfl rfl rfl) ?_
  refine sv_st (c' := (58, [some (.ref 83)], [], mU 90 oo_195)) (su_pR (len := 3) rfl rfl rfl) ?_
  refine fx_go 2 (c' := (62, [some (.ref 83)], [.int 200, .ref 83], mU 90 oo_195)) rfl ?_
  refine sv_st (c' := (64, [some (.ref 83)], [.ref 90, .ref 83], mU 91 oo_196)) (su_na (len := 2) rfl rfl rfl rfl rfl) ?_
  refine sv_st (c' := (67, [some (.ref 83)], [], mU 91 oo_197)) (su_pR (len := 3) rfl rfl rfl) ?_
  refine fx_go 2 (c' := (71, [some (.ref 83)], [.int 200, .ref 83], mU 91 oo_197)) rfl ?_
  refine sv_st (c' := (73, [some (.ref 83)], [.ref 91, .ref 83], mU 92 oo_198)) (su_na (len := 2) rfl rfl rfl rfl rfl) ?_
  refine sv_st (c' := (76, [some (.ref 83)], [], mU 92 oo_199)) (su_pR (len := 3) rfl rfl rfl) ?_
  refine fx_go 2 (c' := (79, [some (.ref 83)], [.int 100, .ref 83], mU 92 oo_199)) rfl ?_
  refine sv_st (c' := (81, [some (.ref 83)], [.ref 92, .ref 83], mU 93 oo_200)) (su_na (len := 2) rfl rfl rfl rfl rfl) ?_
  refine sv_st (c' := (84, [some (.ref 83)], [], mU 93 oo_201)) (su_pR (len := 3) rfl rfl rfl) ?_
  refine fx_go 2 (c' := (87, [some (.ref 83)], [.int 100, .ref 83], mU 93 oo_201)) rfl ?_
  refine sv_st (c' := (89, [some (.ref 83)], [.ref 93, .ref 83], mU 94 oo_202)) (su_na (len := 2) rfl rfl rfl rfl rfl) ?_
  refine sv_st (c' := (92, [some (.ref 83)], [], mU 94 oo_203)) (su_pR (len := 3) rfl rfl rfl) ?_
  refine fx_go 2 (c' := (95, [some (.ref 83)], [.int 100, .ref 83], mU 94 oo_203)) rfl ?_
  refine sv_st (c' := (97, [some (.ref 83)], [.ref 94, .ref 83], mU 95 oo_204)) (su_na (len := 2) rfl rfl rfl rfl rfl) ?_
  refine sv_st (c' := (100, [some (.ref 83)], [], mU 95 oo_205)) (su_pR (len := 3) rfl rfl rfl) ?_
  exact fx_ret rfl
set_option maxRecDepth 4000 in
theorem mi_Night_init_95 {len : Nat} {xs : Nat → Int32} (d : Nat) : mm_call (mm_X len xs) mm_Y (d + 1) 9 [.ref 95] (mU 96 oo_207) = some (none, mU 103 oo_221) := by
  show mm_fix (mm_X len xs) mm_Y (mm_call (mm_X len xs) mm_Y (d + 0)) (mm_look mc_Night_init) (0, [some (.ref 95)], [], mU 96 oo_207) = _
  refine fx_go 4 (c' := (7, [some (.ref 95)], [.int 32, .ref 95], mU 96 oo_207)) rfl ?_
  refine sv_st (c' := (9, [some (.ref 95)], [.ref 96, .ref 95], mU 97 oo_208)) (su_na (len := 2) rfl rfl rfl rfl rfl) ?_
  refine sv_st (c' := (12, [some (.ref 95)], [], mU 97 oo_209)) (su_pR (len := 3) rfl rfl rfl) ?_
  refine fx_go 2 (c' := (15, [some (.ref 95)], [.int 32, .ref 95], mU 97 oo_209)) rfl ?_
  refine sv_st (c' := (17, [some (.ref 95)], [.ref 97, .ref 95], mU 98 oo_210)) (su_na (len := 2) rfl rfl rfl rfl rfl) ?_
  refine sv_st (c' := (20, [some (.ref 95)], [], mU 98 oo_211)) (su_pR (len := 3) rfl rfl rfl) ?_
  refine fx_go 2 (c' := (23, [some (.ref 95)], [.int 17, .ref 95], mU 98 oo_211)) rfl ?_
  refine sv_st (c' := (25, [some (.ref 95)], [.ref 98, .ref 95], mU 99 oo_212)) (su_na (len := 2) rfl rfl rfl rfl rfl) ?_
  refine sv_st (c' := (28, [some (.ref 95)], [], mU 99 oo_213)) (su_pR (len := 3) rfl rfl rfl) ?_
  refine fx_go 2 (c' := (31, [some (.ref 95)], [.int 8, .ref 95], mU 99 oo_213)) rfl ?_
  refine sv_st (c' := (33, [some (.ref 95)], [.ref 99, .ref 95], mU 100 oo_214)) (su_na (len := 2) rfl rfl rfl rfl rfl) ?_
  refine sv_st (c' := (36, [some (.ref 95)], [], mU 100 oo_215)) (su_pR (len := 3) rfl rfl rfl) ?_
  refine fx_go 2 (c' := (39, [some (.ref 95)], [.int 8, .ref 95], mU 100 oo_215)) rfl ?_
  refine sv_st (c' := (41, [some (.ref 95)], [.ref 100, .ref 95], mU 101 oo_216)) (su_na (len := 2) rfl rfl rfl rfl rfl) ?_
  refine sv_st (c' := (44, [some (.ref 95)], [], mU 101 oo_217)) (su_pR (len := 3) rfl rfl rfl) ?_
  refine fx_go 2 (c' := (47, [some (.ref 95)], [.int 8, .ref 95], mU 101 oo_217)) rfl ?_
  refine sv_st (c' := (49, [some (.ref 95)], [.ref 101, .ref 95], mU 102 oo_218)) (su_na (len := 2) rfl rfl rfl rfl rfl) ?_
  refine sv_st (c' := (52, [some (.ref 95)], [], mU 102 oo_219)) (su_pR (len := 3) rfl rfl rfl) ?_
  refine fx_go 2 (c' := (55, [some (.ref 95)], [.int 8, .ref 95], mU 102 oo_219)) rfl ?_
  refine sv_st (c' := (57, [some (.ref 95)], [.ref 102, .ref 95], mU 103 oo_220)) (su_na (len := 2) rfl rfl rfl rfl rfl) ?_
  refine sv_st (c' := (60, [some (.ref 95)], [], mU 103 oo_221)) (su_pR (len := 3) rfl rfl rfl) ?_
  exact fx_ret rfl
set_option maxRecDepth 4000 in
theorem mi_Eyes_init_103 {len : Nat} {xs : Nat → Int32} (d : Nat) : mm_call (mm_X len xs) mm_Y (d + 1) 10 [.ref 103] (mU 104 oo_223) = some (none, mU 112 oo_255) := by
  show mm_fix (mm_X len xs) mm_Y (mm_call (mm_X len xs) mm_Y (d + 0)) (mm_look mc_Eyes_init) (0, [some (.ref 103), none], [], mU 104 oo_223) = _
  refine fx_go 4 (c' := (7, [some (.ref 103), none], [.int 16, .ref 103], mU 104 oo_223)) rfl ?_
  refine sv_st (c' := (9, [some (.ref 103), none], [.ref 104, .ref 103], mU 105 oo_224)) (su_na (len := 2) rfl rfl rfl rfl rfl) ?_
  refine sv_st (c' := (12, [some (.ref 103), none], [], mU 105 oo_225)) (su_pR (len := 3) rfl rfl rfl) ?_
  refine fx_go 2 (c' := (15, [some (.ref 103), none], [.int 16, .ref 103], mU 105 oo_225)) rfl ?_
  refine sv_st (c' := (17, [some (.ref 103), none], [.ref 105, .ref 103], mU 106 oo_226)) (su_na (len := 2) rfl rfl rfl rfl rfl) ?_
  refine sv_st (c' := (20, [some (.ref 103), none], [], mU 106 oo_227)) (su_pR (len := 3) rfl rfl rfl) ?_
  refine fx_go 2 (c' := (23, [some (.ref 103), none], [.int 16, .ref 103], mU 106 oo_227)) rfl ?_
  refine sv_st (c' := (25, [some (.ref 103), none], [.ref 106, .ref 103], mU 107 oo_228)) (su_na (len := 2) rfl rfl rfl rfl rfl) ?_
  refine sv_st (c' := (28, [some (.ref 103), none], [], mU 107 oo_229)) (su_pR (len := 3) rfl rfl rfl) ?_
  refine fx_go 2 (c' := (31, [some (.ref 103), none], [.int 16, .ref 103], mU 107 oo_229)) rfl ?_
  refine sv_st (c' := (33, [some (.ref 103), none], [.ref 107, .ref 103], mU 108 oo_230)) (su_na (len := 2) rfl rfl rfl rfl rfl) ?_
  refine sv_st (c' := (36, [some (.ref 103), none], [], mU 108 oo_231)) (su_pR (len := 3) rfl rfl rfl) ?_
  refine fx_go 2 (c' := (39, [some (.ref 103), none], [.int 16, .ref 103], mU 108 oo_231)) rfl ?_
  refine sv_st (c' := (41, [some (.ref 103), none], [.ref 108, .ref 103], mU 109 oo_232)) (su_na (len := 2) rfl rfl rfl rfl rfl) ?_
  refine sv_st (c' := (44, [some (.ref 103), none], [], mU 109 oo_233)) (su_pR (len := 3) rfl rfl rfl) ?_
  refine fx_go 2 (c' := (47, [some (.ref 103), none], [.int 16, .ref 103], mU 109 oo_233)) rfl ?_
  refine sv_st (c' := (49, [some (.ref 103), none], [.ref 109, .ref 103], mU 110 oo_234)) (su_na (len := 2) rfl rfl rfl rfl rfl) ?_
  refine sv_st (c' := (52, [some (.ref 103), none], [], mU 110 oo_235)) (su_pR (len := 3) rfl rfl rfl) ?_
  refine fx_go 2 (c' := (55, [some (.ref 103), none], [.int 16, .ref 103], mU 110 oo_235)) rfl ?_
  refine sv_st (c' := (57, [some (.ref 103), none], [.ref 110, .ref 103], mU 111 oo_236)) (su_na (len := 2) rfl rfl rfl rfl rfl) ?_
  refine sv_st (c' := (60, [some (.ref 103), none], [], mU 111 oo_237)) (su_pR (len := 3) rfl rfl rfl) ?_
  refine fx_go 2 (c' := (63, [some (.ref 103), none], [.int 16, .ref 103], mU 111 oo_237)) rfl ?_
  refine sv_st (c' := (65, [some (.ref 103), none], [.ref 111, .ref 103], mU 112 oo_238)) (su_na (len := 2) rfl rfl rfl rfl rfl) ?_
  refine sv_st (c' := (68, [some (.ref 103), none], [], mU 112 oo_239)) (su_pR (len := 3) rfl rfl rfl) ?_
  refine fx_go 6 (c' := (77, [some (.ref 103), some (.int 0)], [.ref 103], mU 112 oo_239)) rfl ?_
  refine sv_st (c' := (80, [some (.ref 103), some (.int 0)], [.ref 104], mU 112 oo_239)) (su_gR (len := 3) rfl rfl rfl (by decide +kernel)) ?_
  refine fx_go 2 (c' := (82, [some (.ref 103), some (.int 0)], [.int (-1), .int 0, .ref 104], mU 112 oo_239)) rfl ?_
  refine sv_st (c' := (83, [some (.ref 103), some (.int 0)], [], mU 112 oo_240)) (su_iS rfl rfl rfl rfl rfl) ?_
  refine fx_go 6 (c' := (77, [some (.ref 103), some (.int 1)], [.ref 103], mU 112 oo_240)) rfl ?_
  refine sv_st (c' := (80, [some (.ref 103), some (.int 1)], [.ref 104], mU 112 oo_240)) (su_gR (len := 3) rfl rfl rfl (by decide +kernel)) ?_
  refine fx_go 2 (c' := (82, [some (.ref 103), some (.int 1)], [.int (-1), .int 1, .ref 104], mU 112 oo_240)) rfl ?_
  refine sv_st (c' := (83, [some (.ref 103), some (.int 1)], [], mU 112 oo_241)) (su_iS rfl rfl rfl rfl rfl) ?_
  refine fx_go 6 (c' := (77, [some (.ref 103), some (.int 2)], [.ref 103], mU 112 oo_241)) rfl ?_
  refine sv_st (c' := (80, [some (.ref 103), some (.int 2)], [.ref 104], mU 112 oo_241)) (su_gR (len := 3) rfl rfl rfl (by decide +kernel)) ?_
  refine fx_go 2 (c' := (82, [some (.ref 103), some (.int 2)], [.int (-1), .int 2, .ref 104], mU 112 oo_241)) rfl ?_
  refine sv_st (c' := (83, [some (.ref 103), some (.int 2)], [], mU 112 oo_242)) (su_iS rfl rfl rfl rfl rfl) ?_
  refine fx_go 6 (c' := (77, [some (.ref 103), some (.int 3)], [.ref 103], mU 112 oo_242)) rfl ?_
  refine sv_st (c' := (80, [some (.ref 103), some (.int 3)], [.ref 104], mU 112 oo_242)) (su_gR (len := 3) rfl rfl rfl (by decide +kernel)) ?_
  refine fx_go 2 (c' := (82, [some (.ref 103), some (.int 3)], [.int (-1), .int 3, .ref 104], mU 112 oo_242)) rfl ?_
  refine sv_st (c' := (83, [some (.ref 103), some (.int 3)], [], mU 112 oo_243)) (su_iS rfl rfl rfl rfl rfl) ?_
  refine fx_go 6 (c' := (77, [some (.ref 103), some (.int 4)], [.ref 103], mU 112 oo_243)) rfl ?_
  refine sv_st (c' := (80, [some (.ref 103), some (.int 4)], [.ref 104], mU 112 oo_243)) (su_gR (len := 3) rfl rfl rfl (by decide +kernel)) ?_
  refine fx_go 2 (c' := (82, [some (.ref 103), some (.int 4)], [.int (-1), .int 4, .ref 104], mU 112 oo_243)) rfl ?_
  refine sv_st (c' := (83, [some (.ref 103), some (.int 4)], [], mU 112 oo_244)) (su_iS rfl rfl rfl rfl rfl) ?_
  refine fx_go 6 (c' := (77, [some (.ref 103), some (.int 5)], [.ref 103], mU 112 oo_244)) rfl ?_
  refine sv_st (c' := (80, [some (.ref 103), some (.int 5)], [.ref 104], mU 112 oo_244)) (su_gR (len := 3) rfl rfl rfl (by decide +kernel)) ?_
  refine fx_go 2 (c' := (82, [some (.ref 103), some (.int 5)], [.int (-1), .int 5, .ref 104], mU 112 oo_244)) rfl ?_
  refine sv_st (c' := (83, [some (.ref 103), some (.int 5)], [], mU 112 oo_245)) (su_iS rfl rfl rfl rfl rfl) ?_
  refine fx_go 6 (c' := (77, [some (.ref 103), some (.int 6)], [.ref 103], mU 112 oo_245)) rfl ?_
  refine sv_st (c' := (80, [some (.ref 103), some (.int 6)], [.ref 104], mU 112 oo_245)) (su_gR (len := 3) rfl rfl rfl (by decide +kernel)) ?_
  refine fx_go 2 (c' := (82, [some (.ref 103), some (.int 6)], [.int (-1), .int 6, .ref 104], mU 112 oo_245)) rfl ?_
  refine sv_st (c' := (83, [some (.ref 103), some (.int 6)], [], mU 112 oo_246)) (su_iS rfl rfl rfl rfl rfl) ?_
  refine fx_go 6 (c' := (77, [some (.ref 103), some (.int 7)], [.ref 103], mU 112 oo_246)) rfl ?_
  refine sv_st (c' := (80, [some (.ref 103), some (.int 7)], [.ref 104], mU 112 oo_246)) (su_gR (len := 3) rfl rfl rfl (by decide +kernel)) ?_
  refine fx_go 2 (c' := (82, [some (.ref 103), some (.int 7)], [.int (-1), .int 7, .ref 104], mU 112 oo_246)) rfl ?_
  refine sv_st (c' := (83, [some (.ref 103), some (.int 7)], [], mU 112 oo_247)) (su_iS rfl rfl rfl rfl rfl) ?_
  refine fx_go 6 (c' := (77, [some (.ref 103), some (.int 8)], [.ref 103], mU 112 oo_247)) rfl ?_
  refine sv_st (c' := (80, [some (.ref 103), some (.int 8)], [.ref 104], mU 112 oo_247)) (su_gR (len := 3) rfl rfl rfl (by decide +kernel)) ?_
  refine fx_go 2 (c' := (82, [some (.ref 103), some (.int 8)], [.int (-1), .int 8, .ref 104], mU 112 oo_247)) rfl ?_
  refine sv_st (c' := (83, [some (.ref 103), some (.int 8)], [], mU 112 oo_248)) (su_iS rfl rfl rfl rfl rfl) ?_
  refine fx_go 6 (c' := (77, [some (.ref 103), some (.int 9)], [.ref 103], mU 112 oo_248)) rfl ?_
  refine sv_st (c' := (80, [some (.ref 103), some (.int 9)], [.ref 104], mU 112 oo_248)) (su_gR (len := 3) rfl rfl rfl (by decide +kernel)) ?_
  refine fx_go 2 (c' := (82, [some (.ref 103), some (.int 9)], [.int (-1), .int 9, .ref 104], mU 112 oo_248)) rfl ?_
  refine sv_st (c' := (83, [some (.ref 103), some (.int 9)], [], mU 112 oo_249)) (su_iS rfl rfl rfl rfl rfl) ?_
  refine fx_go 6 (c' := (77, [some (.ref 103), some (.int 10)], [.ref 103], mU 112 oo_249)) rfl ?_
  refine sv_st (c' := (80, [some (.ref 103), some (.int 10)], [.ref 104], mU 112 oo_249)) (su_gR (len := 3) rfl rfl rfl (by decide +kernel)) ?_
  refine fx_go 2 (c' := (82, [some (.ref 103), some (.int 10)], [.int (-1), .int 10, .ref 104], mU 112 oo_249)) rfl ?_
  refine sv_st (c' := (83, [some (.ref 103), some (.int 10)], [], mU 112 oo_250)) (su_iS rfl rfl rfl rfl rfl) ?_
  refine fx_go 6 (c' := (77, [some (.ref 103), some (.int 11)], [.ref 103], mU 112 oo_250)) rfl ?_
  refine sv_st (c' := (80, [some (.ref 103), some (.int 11)], [.ref 104], mU 112 oo_250)) (su_gR (len := 3) rfl rfl rfl (by decide +kernel)) ?_
  refine fx_go 2 (c' := (82, [some (.ref 103), some (.int 11)], [.int (-1), .int 11, .ref 104], mU 112 oo_250)) rfl ?_
  refine sv_st (c' := (83, [some (.ref 103), some (.int 11)], [], mU 112 oo_251)) (su_iS rfl rfl rfl rfl rfl) ?_
  refine fx_go 6 (c' := (77, [some (.ref 103), some (.int 12)], [.ref 103], mU 112 oo_251)) rfl ?_
  refine sv_st (c' := (80, [some (.ref 103), some (.int 12)], [.ref 104], mU 112 oo_251)) (su_gR (len := 3) rfl rfl rfl (by decide +kernel)) ?_
  refine fx_go 2 (c' := (82, [some (.ref 103), some (.int 12)], [.int (-1), .int 12, .ref 104], mU 112 oo_251)) rfl ?_
  refine sv_st (c' := (83, [some (.ref 103), some (.int 12)], [], mU 112 oo_252)) (su_iS rfl rfl rfl rfl rfl) ?_
  refine fx_go 6 (c' := (77, [some (.ref 103), some (.int 13)], [.ref 103], mU 112 oo_252)) rfl ?_
  refine sv_st (c' := (80, [some (.ref 103), some (.int 13)], [.ref 104], mU 112 oo_252)) (su_gR (len := 3) rfl rfl rfl (by decide +kernel)) ?_
  refine fx_go 2 (c' := (82, [some (.ref 103), some (.int 13)], [.int (-1), .int 13, .ref 104], mU 112 oo_252)) rfl ?_
  refine sv_st (c' := (83, [some (.ref 103), some (.int 13)], [], mU 112 oo_253)) (su_iS rfl rfl rfl rfl rfl) ?_
  refine fx_go 6 (c' := (77, [some (.ref 103), some (.int 14)], [.ref 103], mU 112 oo_253)) rfl ?_
  refine sv_st (c' := (80, [some (.ref 103), some (.int 14)], [.ref 104], mU 112 oo_253)) (su_gR (len := 3) rfl rfl rfl (by decide +kernel)) ?_
  refine fx_go 2 (c' := (82, [some (.ref 103), some (.int 14)], [.int (-1), .int 14, .ref 104], mU 112 oo_253)) rfl ?_
  refine sv_st (c' := (83, [some (.ref 103), some (.int 14)], [], mU 112 oo_254)) (su_iS rfl rfl rfl rfl rfl) ?_
  refine fx_go 6 (c' := (77, [some (.ref 103), some (.int 15)], [.ref 103], mU 112 oo_254)) rfl ?_
  refine sv_st (c' := (80, [some (.ref 103), some (.int 15)], [.ref 104], mU 112 oo_254)) (su_gR (len := 3) rfl rfl rfl (by decide +kernel)) ?_
  refine fx_go 2 (c' := (82, [some (.ref 103), some (.int 15)], [.int (-1), .int 15, .ref 104], mU 112 oo_254)) rfl ?_
  refine sv_st (c' := (83, [some (.ref 103), some (.int 15)], [], mU 112 oo_255)) (su_iS rfl rfl rfl rfl rfl) ?_
  refine fx_go 5 (c' := (89, [some (.ref 103), some (.int 16)], [], mU 112 oo_255)) rfl ?_
  exact fx_ret rfl
set_option maxRecDepth 4000 in
theorem mi_Improvements_init_112 {len : Nat} {xs : Nat → Int32} (d : Nat) : mm_call (mm_X len xs) mm_Y (d + 1) 11 [.ref 112] (mU 113 oo_257) = some (none, mU 117 oo_265) := by
  show mm_fix (mm_X len xs) mm_Y (mm_call (mm_X len xs) mm_Y (d + 0)) (mm_look mc_Improvements_init) (0, [some (.ref 112)], [], mU 113 oo_257) = _
  refine fx_go 4 (c' := (7, [some (.ref 112)], [.int 8, .ref 112], mU 113 oo_257)) rfl ?_
  refine sv_st (c' := (9, [some (.ref 112)], [.ref 113, .ref 112], mU 114 oo_258)) (su_na (len := 2) rfl rfl rfl rfl rfl) ?_
  refine sv_st (c' := (12, [some (.ref 112)], [], mU 114 oo_259)) (su_pR (len := 3) rfl rfl rfl) ?_
  refine fx_go 2 (c' := (15, [some (.ref 112)], [.int 8, .ref 112], mU 114 oo_259)) rfl ?_
  refine sv_st (c' := (17, [some (.ref 112)], [.ref 114, .ref 112], mU 115 oo_260)) (su_na (len := 2) rfl rfl rfl rfl rfl) ?_
  refine sv_st (c' := (20, [some (.ref 112)], [], mU 115 oo_261)) (su_pR (len := 3) rfl rfl rfl) ?_
  refine fx_go 2 (c' := (23, [some (.ref 112)], [.int 8, .ref 112], mU 115 oo_261)) rfl ?_
  refine sv_st (c' := (25, [some (.ref 112)], [.ref 115, .ref 112], mU 116 oo_262)) (su_na (len := 2) rfl rfl rfl rfl rfl) ?_
  refine sv_st (c' := (28, [some (.ref 112)], [], mU 116 oo_263)) (su_pR (len := 3) rfl rfl rfl) ?_
  refine fx_go 2 (c' := (31, [some (.ref 112)], [.int 16, .ref 112], mU 116 oo_263)) rfl ?_
  refine sv_st (c' := (33, [some (.ref 112)], [.ref 116, .ref 112], mU 117 oo_264)) (su_na (len := 2) rfl rfl rfl rfl rfl) ?_
  refine sv_st (c' := (36, [some (.ref 112)], [], mU 117 oo_265)) (su_pR (len := 3) rfl rfl rfl) ?_
  exact fx_ret rfl
set_option maxRecDepth 4000 in
theorem mi_G_init_0 {len : Nat} {xs : Nat → Int32} (d : Nat) : mm_call (mm_X len xs) mm_Y (d + 4) 0 [.ref 0] (mU 1 oo_1) = some (none, mU 117 oo_266) := by
  show mm_fix (mm_X len xs) mm_Y (mm_call (mm_X len xs) mm_Y (d + 3)) (mm_look mc_G_init) (0, [some (.ref 0)], [], mU 1 oo_1) = _
  refine fx_go 3 (c' := (5, [some (.ref 0)], [.ref 0], mU 1 oo_1)) rfl ?_
  refine sv_st (c' := (8, [some (.ref 0)], [.ref 1, .ref 0], mU 2 oo_2)) (su_new (len := 3) rfl rfl rfl) ?_
  refine fx_go 1 (c' := (9, [some (.ref 0)], [.ref 1, .ref 1, .ref 0], mU 2 oo_2)) rfl ?_
  refine sv_call rfl (mi_Sky_init_1 (len := len) (xs := xs) (d + 2)) ?_
  refine sv_st (c' := (15, [some (.ref 0)], [], mU 3 oo_7)) (su_pR (len := 3) rfl rfl rfl) ?_
  refine fx_go 1 (c' := (16, [some (.ref 0)], [.ref 0], mU 3 oo_7)) rfl ?_
  refine sv_st (c' := (19, [some (.ref 0)], [.ref 3, .ref 0], mU 4 oo_8)) (su_new (len := 3) rfl rfl rfl) ?_
  refine fx_go 1 (c' := (20, [some (.ref 0)], [.ref 3, .ref 3, .ref 0], mU 4 oo_8)) rfl ?_
  refine sv_call rfl (mi_Works_init_3 (len := len) (xs := xs) (d + 2)) ?_
  refine sv_st (c' := (26, [some (.ref 0)], [], mU 12 oo_35)) (su_pR (len := 3) rfl rfl rfl) ?_
  refine fx_go 1 (c' := (27, [some (.ref 0)], [.ref 0], mU 12 oo_35)) rfl ?_
  refine sv_st (c' := (30, [some (.ref 0)], [.ref 12, .ref 0], mU 13 oo_36)) (su_new (len := 3) rfl rfl rfl) ?_
  refine fx_go 1 (c' := (31, [some (.ref 0)], [.ref 12, .ref 12, .ref 0], mU 13 oo_36)) rfl ?_
  refine sv_call rfl (mi_Things_init_12 (len := len) (xs := xs) (d + 2)) ?_
  refine sv_st (c' := (37, [some (.ref 0)], [], mU 25 oo_61)) (su_pR (len := 3) rfl rfl rfl) ?_
  refine fx_go 1 (c' := (38, [some (.ref 0)], [.ref 0], mU 25 oo_61)) rfl ?_
  refine sv_st (c' := (41, [some (.ref 0)], [.ref 25, .ref 0], mU 26 oo_62)) (su_new (len := 3) rfl rfl rfl) ?_
  refine fx_go 1 (c' := (42, [some (.ref 0)], [.ref 25, .ref 25, .ref 0], mU 26 oo_62)) rfl ?_
  refine sv_call rfl (mi_Net_init_25 (len := len) (xs := xs) (d + 2)) ?_
  refine sv_st (c' := (48, [some (.ref 0)], [], mU 36 oo_86)) (su_pR (len := 3) rfl rfl rfl) ?_
  refine fx_go 1 (c' := (49, [some (.ref 0)], [.ref 0], mU 36 oo_86)) rfl ?_
  refine sv_st (c' := (52, [some (.ref 0)], [.ref 36, .ref 0], mU 37 oo_87)) (su_new (len := 3) rfl rfl rfl) ?_
  refine fx_go 1 (c' := (53, [some (.ref 0)], [.ref 36, .ref 36, .ref 0], mU 37 oo_87)) rfl ?_
  refine sv_call rfl (mi_Laws_init_36 (len := len) (xs := xs) (d + 0)) ?_
  refine sv_st (c' := (59, [some (.ref 0)], [], mU 83 oo_182)) (su_pR (len := 3) rfl rfl rfl) ?_
  refine fx_go 1 (c' := (60, [some (.ref 0)], [.ref 0], mU 83 oo_182)) rfl ?_
  refine sv_st (c' := (63, [some (.ref 0)], [.ref 83, .ref 0], mU 84 oo_183)) (su_new (len := 3) rfl rfl rfl) ?_
  refine fx_go 1 (c' := (64, [some (.ref 0)], [.ref 83, .ref 83, .ref 0], mU 84 oo_183)) rfl ?_
  refine sv_call rfl (mi_Books_init_83 (len := len) (xs := xs) (d + 2)) ?_
  refine sv_st (c' := (70, [some (.ref 0)], [], mU 95 oo_206)) (su_pR (len := 3) rfl rfl rfl) ?_
  refine fx_go 1 (c' := (71, [some (.ref 0)], [.ref 0], mU 95 oo_206)) rfl ?_
  refine sv_st (c' := (74, [some (.ref 0)], [.ref 95, .ref 0], mU 96 oo_207)) (su_new (len := 3) rfl rfl rfl) ?_
  refine fx_go 1 (c' := (75, [some (.ref 0)], [.ref 95, .ref 95, .ref 0], mU 96 oo_207)) rfl ?_
  refine sv_call rfl (mi_Night_init_95 (len := len) (xs := xs) (d + 2)) ?_
  refine sv_st (c' := (81, [some (.ref 0)], [], mU 103 oo_222)) (su_pR (len := 3) rfl rfl rfl) ?_
  refine fx_go 1 (c' := (82, [some (.ref 0)], [.ref 0], mU 103 oo_222)) rfl ?_
  refine sv_st (c' := (85, [some (.ref 0)], [.ref 103, .ref 0], mU 104 oo_223)) (su_new (len := 3) rfl rfl rfl) ?_
  refine fx_go 1 (c' := (86, [some (.ref 0)], [.ref 103, .ref 103, .ref 0], mU 104 oo_223)) rfl ?_
  refine sv_call rfl (mi_Eyes_init_103 (len := len) (xs := xs) (d + 2)) ?_
  refine sv_st (c' := (92, [some (.ref 0)], [], mU 112 oo_256)) (su_pR (len := 3) rfl rfl rfl) ?_
  refine fx_go 1 (c' := (93, [some (.ref 0)], [.ref 0], mU 112 oo_256)) rfl ?_
  refine sv_st (c' := (96, [some (.ref 0)], [.ref 112, .ref 0], mU 113 oo_257)) (su_new (len := 3) rfl rfl rfl) ?_
  refine fx_go 1 (c' := (97, [some (.ref 0)], [.ref 112, .ref 112, .ref 0], mU 113 oo_257)) rfl ?_
  refine sv_call rfl (mi_Improvements_init_112 (len := len) (xs := xs) (d + 2)) ?_
  refine sv_st (c' := (103, [some (.ref 0)], [], mU 117 oo_266)) (su_pR (len := 3) rfl rfl rfl) ?_
  exact fx_ret rfl
set_option maxRecDepth 4000 in
theorem mi_M_init_117 {len : Nat} {xs : Nat → Int32} (d : Nat) : mm_call (mm_X len xs) mm_Y (d + 1) 157 [.ref 117] (mU 118 oo_267) = some (none, mU 180 oo_450) := by
  show mm_fix (mm_X len xs) mm_Y (mm_call (mm_X len xs) mm_Y (d + 0)) (mm_look mc_M_init) (0, [some (.ref 117), none], [], mU 118 oo_267) = _
  refine fx_go 4 (c' := (7, [some (.ref 117), none], [.int 17, .ref 117], mU 118 oo_267)) rfl ?_
  refine sv_st (c' := (9, [some (.ref 117), none], [.ref 118, .ref 117], mU 119 oo_268)) (su_na (len := 2) rfl rfl rfl rfl rfl) ?_
  refine fx_go 3 (c' := (12, [some (.ref 117), none], [.int 0, .int 0, .ref 118, .ref 118, .ref 117], mU 119 oo_268)) rfl ?_
  refine sv_st (c' := (13, [some (.ref 117), none], [.ref 118, .ref 117], mU 119 oo_269)) (su_iS rfl rfl rfl rfl rfl) ?_
  refine fx_go 3 (c' := (16, [some (.ref 117), none], [.int 1, .int 1, .ref 118, .ref 118, .ref 117], mU 119 oo_269)) rfl ?_
  refine sv_st (c' := (17, [some (.ref 117), none], [.ref 118, .ref 117], mU 119 oo_270)) (su_iS rfl rfl rfl rfl rfl) ?_
  refine fx_go 3 (c' := (20, [some (.ref 117), none], [.int 3, .int 2, .ref 118, .ref 118, .ref 117], mU 119 oo_270)) rfl ?_
  refine sv_st (c' := (21, [some (.ref 117), none], [.ref 118, .ref 117], mU 119 oo_271)) (su_iS rfl rfl rfl rfl rfl) ?_
  refine fx_go 3 (c' := (25, [some (.ref 117), none], [.int 6, .int 3, .ref 118, .ref 118, .ref 117], mU 119 oo_271)) rfl ?_
  refine sv_st (c' := (26, [some (.ref 117), none], [.ref 118, .ref 117], mU 119 oo_272)) (su_iS rfl rfl rfl rfl rfl) ?_
  refine fx_go 3 (c' := (30, [some (.ref 117), none], [.int 10, .int 4, .ref 118, .ref 118, .ref 117], mU 119 oo_272)) rfl ?_
  refine sv_st (c' := (31, [some (.ref 117), none], [.ref 118, .ref 117], mU 119 oo_273)) (su_iS rfl rfl rfl rfl rfl) ?_
  refine fx_go 3 (c' := (35, [some (.ref 117), none], [.int 15, .int 5, .ref 118, .ref 118, .ref 117], mU 119 oo_273)) rfl ?_
  refine sv_st (c' := (36, [some (.ref 117), none], [.ref 118, .ref 117], mU 119 oo_274)) (su_iS rfl rfl rfl rfl rfl) ?_
  refine fx_go 3 (c' := (41, [some (.ref 117), none], [.int 21, .int 6, .ref 118, .ref 118, .ref 117], mU 119 oo_274)) rfl ?_
  refine sv_st (c' := (42, [some (.ref 117), none], [.ref 118, .ref 117], mU 119 oo_275)) (su_iS rfl rfl rfl rfl rfl) ?_
  refine fx_go 3 (c' := (47, [some (.ref 117), none], [.int 28, .int 7, .ref 118, .ref 118, .ref 117], mU 119 oo_275)) rfl ?_
  refine sv_st (c' := (48, [some (.ref 117), none], [.ref 118, .ref 117], mU 119 oo_276)) (su_iS rfl rfl rfl rfl rfl) ?_
  refine fx_go 3 (c' := (53, [some (.ref 117), none], [.int 36, .int 8, .ref 118, .ref 118, .ref 117], mU 119 oo_276)) rfl ?_
  refine sv_st (c' := (54, [some (.ref 117), none], [.ref 118, .ref 117], mU 119 oo_277)) (su_iS rfl rfl rfl rfl rfl) ?_
  refine fx_go 3 (c' := (59, [some (.ref 117), none], [.int 44, .int 9, .ref 118, .ref 118, .ref 117], mU 119 oo_277)) rfl ?_
  refine sv_st (c' := (60, [some (.ref 117), none], [.ref 118, .ref 117], mU 119 oo_278)) (su_iS rfl rfl rfl rfl rfl) ?_
  refine fx_go 3 (c' := (65, [some (.ref 117), none], [.int 51, .int 10, .ref 118, .ref 118, .ref 117], mU 119 oo_278)) rfl ?_
  refine sv_st (c' := (66, [some (.ref 117), none], [.ref 118, .ref 117], mU 119 oo_279)) (su_iS rfl rfl rfl rfl rfl) ?_
  refine fx_go 3 (c' := (71, [some (.ref 117), none], [.int 57, .int 11, .ref 118, .ref 118, .ref 117], mU 119 oo_279)) rfl ?_
  refine sv_st (c' := (72, [some (.ref 117), none], [.ref 118, .ref 117], mU 119 oo_280)) (su_iS rfl rfl rfl rfl rfl) ?_
  refine fx_go 3 (c' := (77, [some (.ref 117), none], [.int 62, .int 12, .ref 118, .ref 118, .ref 117], mU 119 oo_280)) rfl ?_
  refine sv_st (c' := (78, [some (.ref 117), none], [.ref 118, .ref 117], mU 119 oo_281)) (su_iS rfl rfl rfl rfl rfl) ?_
  refine fx_go 3 (c' := (83, [some (.ref 117), none], [.int 66, .int 13, .ref 118, .ref 118, .ref 117], mU 119 oo_281)) rfl ?_
  refine sv_st (c' := (84, [some (.ref 117), none], [.ref 118, .ref 117], mU 119 oo_282)) (su_iS rfl rfl rfl rfl rfl) ?_
  refine fx_go 3 (c' := (89, [some (.ref 117), none], [.int 69, .int 14, .ref 118, .ref 118, .ref 117], mU 119 oo_282)) rfl ?_
  refine sv_st (c' := (90, [some (.ref 117), none], [.ref 118, .ref 117], mU 119 oo_283)) (su_iS rfl rfl rfl rfl rfl) ?_
  refine fx_go 3 (c' := (95, [some (.ref 117), none], [.int 71, .int 15, .ref 118, .ref 118, .ref 117], mU 119 oo_283)) rfl ?_
  refine sv_st (c' := (96, [some (.ref 117), none], [.ref 118, .ref 117], mU 119 oo_284)) (su_iS rfl rfl rfl rfl rfl) ?_
  refine fx_go 3 (c' := (101, [some (.ref 117), none], [.int 72, .int 16, .ref 118, .ref 118, .ref 117], mU 119 oo_284)) rfl ?_
  refine sv_st (c' := (102, [some (.ref 117), none], [.ref 118, .ref 117], mU 119 oo_285)) (su_iS rfl rfl rfl rfl rfl) ?_
  refine sv_st (c' := (105, [some (.ref 117), none], [], mU 119 oo_286)) (su_pR (len := 3) rfl rfl rfl) ?_
  refine fx_go 2 (c' := (108, [some (.ref 117), none], [.int 6, .ref 117], mU 119 oo_286)) rfl ?_
  refine sv_st (c' := (111, [some (.ref 117), none], [], mU 119 oo_287)) (su_pI (len := 3) rfl rfl rfl) ?_
  refine fx_go 2 (c' := (113, [some (.ref 117), none], [.int 1, .ref 117], mU 119 oo_287)) rfl ?_
  refine sv_st (c' := (116, [some (.ref 117), none], [], mU 119 oo_288)) (su_pI (len := 3) rfl rfl rfl) ?_
  refine fx_go 2 (c' := (119, [some (.ref 117), none], [.int 64, .ref 117], mU 119 oo_288)) rfl ?_
  refine sv_st (c' := (122, [some (.ref 117), none], [], mU 119 oo_289)) (su_pI (len := 3) rfl rfl rfl) ?_
  refine fx_go 2 (c' := (125, [some (.ref 117), none], [.int 28, .ref 117], mU 119 oo_289)) rfl ?_
  refine sv_st (c' := (128, [some (.ref 117), none], [], mU 119 oo_290)) (su_pI (len := 3) rfl rfl rfl) ?_
  refine fx_go 2 (c' := (131, [some (.ref 117), none], [.int 40, .ref 117], mU 119 oo_290)) rfl ?_
  refine sv_st (c' := (134, [some (.ref 117), none], [], mU 119 oo_291)) (su_pI (len := 3) rfl rfl rfl) ?_
  refine fx_go 2 (c' := (136, [some (.ref 117), none], [.int 3, .ref 117], mU 119 oo_291)) rfl ?_
  refine sv_st (c' := (138, [some (.ref 117), none], [.ref 119, .ref 117], mU 120 oo_292)) (su_na (len := 2) rfl rfl rfl rfl rfl) ?_
  refine fx_go 3 (c' := (142, [some (.ref 117), none], [.int 100, .int 0, .ref 119, .ref 119, .ref 117], mU 120 oo_292)) rfl ?_
  refine sv_st (c' := (143, [some (.ref 117), none], [.ref 119, .ref 117], mU 120 oo_293)) (su_iS rfl rfl rfl rfl rfl) ?_
  refine fx_go 3 (c' := (147, [some (.ref 117), none], [.int 100, .int 1, .ref 119, .ref 119, .ref 117], mU 120 oo_293)) rfl ?_
  refine sv_st (c' := (148, [some (.ref 117), none], [.ref 119, .ref 117], mU 120 oo_294)) (su_iS rfl rfl rfl rfl rfl) ?_
  refine fx_go 3 (c' := (152, [some (.ref 117), none], [.int 100, .int 2, .ref 119, .ref 119, .ref 117], mU 120 oo_294)) rfl ?_
  refine sv_st (c' := (153, [some (.ref 117), none], [.ref 119, .ref 117], mU 120 oo_295)) (su_iS rfl rfl rfl rfl rfl) ?_
  refine sv_st (c' := (156, [some (.ref 117), none], [], mU 120 oo_296)) (su_pR (len := 3) rfl rfl rfl) ?_
  refine fx_go 2 (c' := (158, [some (.ref 117), none], [.int 3, .ref 117], mU 120 oo_296)) rfl ?_
  refine sv_st (c' := (160, [some (.ref 117), none], [.ref 120, .ref 117], mU 121 oo_297)) (su_na (len := 2) rfl rfl rfl rfl rfl) ?_
  refine fx_go 3 (c' := (164, [some (.ref 117), none], [.int 60, .int 0, .ref 120, .ref 120, .ref 117], mU 121 oo_297)) rfl ?_
  refine sv_st (c' := (165, [some (.ref 117), none], [.ref 120, .ref 117], mU 121 oo_298)) (su_iS rfl rfl rfl rfl rfl) ?_
  refine fx_go 3 (c' := (169, [some (.ref 117), none], [.int 60, .int 1, .ref 120, .ref 120, .ref 117], mU 121 oo_298)) rfl ?_
  refine sv_st (c' := (170, [some (.ref 117), none], [.ref 120, .ref 117], mU 121 oo_299)) (su_iS rfl rfl rfl rfl rfl) ?_
  refine fx_go 3 (c' := (174, [some (.ref 117), none], [.int 60, .int 2, .ref 120, .ref 120, .ref 117], mU 121 oo_299)) rfl ?_
  refine sv_st (c' := (175, [some (.ref 117), none], [.ref 120, .ref 117], mU 121 oo_300)) (su_iS rfl rfl rfl rfl rfl) ?_
  refine sv_st (c' := (178, [some (.ref 117), none], [], mU 121 oo_301)) (su_pR (len := 3) rfl rfl rfl) ?_
  refine fx_go 2 (c' := (180, [some (.ref 117), none], [.int 3, .ref 117], mU 121 oo_301)) rfl ?_
  refine sv_st (c' := (182, [some (.ref 117), none], [.ref 121, .ref 117], mU 122 oo_302)) (su_na (len := 2) rfl rfl rfl rfl rfl) ?_
  refine fx_go 3 (c' := (185, [some (.ref 117), none], [.int 5, .int 0, .ref 121, .ref 121, .ref 117], mU 122 oo_302)) rfl ?_
  refine sv_st (c' := (186, [some (.ref 117), none], [.ref 121, .ref 117], mU 122 oo_303)) (su_iS rfl rfl rfl rfl rfl) ?_
  refine fx_go 3 (c' := (189, [some (.ref 117), none], [.int 5, .int 1, .ref 121, .ref 121, .ref 117], mU 122 oo_303)) rfl ?_
  refine sv_st (c' := (190, [some (.ref 117), none], [.ref 121, .ref 117], mU 122 oo_304)) (su_iS rfl rfl rfl rfl rfl) ?_
  refine fx_go 3 (c' := (193, [some (.ref 117), none], [.int 5, .int 2, .ref 121, .ref 121, .ref 117], mU 122 oo_304)) rfl ?_
  refine sv_st (c' := (194, [some (.ref 117), none], [.ref 121, .ref 117], mU 122 oo_305)) (su_iS rfl rfl rfl rfl rfl) ?_
  refine sv_st (c' := (197, [some (.ref 117), none], [], mU 122 oo_306)) (su_pR (len := 3) rfl rfl rfl) ?_
  refine fx_go 2 (c' := (199, [some (.ref 117), none], [.int 3, .ref 117], mU 122 oo_306)) rfl ?_
  refine sv_st (c' := (201, [some (.ref 117), none], [.ref 122, .ref 117], mU 123 oo_307)) (su_na (len := 2) rfl rfl rfl rfl rfl) ?_
  refine sv_st (c' := (204, [some (.ref 117), none], [], mU 123 oo_308)) (su_pR (len := 3) rfl rfl rfl) ?_
  refine fx_go 2 (c' := (207, [some (.ref 117), none], [.int 42, .ref 117], mU 123 oo_308)) rfl ?_
  refine sv_st (c' := (209, [some (.ref 117), none], [.ref 123, .ref 117], mU 124 oo_309)) (su_na (len := 2) rfl rfl rfl rfl rfl) ?_
  refine sv_st (c' := (212, [some (.ref 117), none], [], mU 124 oo_310)) (su_pR (len := 3) rfl rfl rfl) ?_
  refine fx_go 2 (c' := (215, [some (.ref 117), none], [.int 6, .ref 117], mU 124 oo_310)) rfl ?_
  refine sv_st (c' := (217, [some (.ref 117), none], [.ref 124, .ref 117], mU 125 oo_311)) (su_na (len := 2) rfl rfl rfl rfl rfl) ?_
  refine sv_st (c' := (220, [some (.ref 117), none], [], mU 125 oo_312)) (su_pR (len := 3) rfl rfl rfl) ?_
  refine fx_go 2 (c' := (223, [some (.ref 117), none], [.int 6, .ref 117], mU 125 oo_312)) rfl ?_
  refine sv_st (c' := (225, [some (.ref 117), none], [.ref 125, .ref 117], mU 126 oo_313)) (su_na (len := 2) rfl rfl rfl rfl rfl) ?_
  refine sv_st (c' := (228, [some (.ref 117), none], [], mU 126 oo_314)) (su_pR (len := 3) rfl rfl rfl) ?_
  refine fx_go 2 (c' := (231, [some (.ref 117), none], [.int 6, .ref 117], mU 126 oo_314)) rfl ?_
  refine sv_st (c' := (233, [some (.ref 117), none], [.ref 126, .ref 117], mU 127 oo_315)) (su_na (len := 2) rfl rfl rfl rfl rfl) ?_
  refine sv_st (c' := (236, [some (.ref 117), none], [], mU 127 oo_316)) (su_pR (len := 3) rfl rfl rfl) ?_
  refine fx_go 2 (c' := (239, [some (.ref 117), none], [.int 6, .ref 117], mU 127 oo_316)) rfl ?_
  refine sv_st (c' := (241, [some (.ref 117), none], [.ref 127, .ref 117], mU 128 oo_317)) (su_na (len := 2) rfl rfl rfl rfl rfl) ?_
  refine sv_st (c' := (244, [some (.ref 117), none], [], mU 128 oo_318)) (su_pR (len := 3) rfl rfl rfl) ?_
  refine fx_go 2 (c' := (247, [some (.ref 117), none], [.int 16, .ref 117], mU 128 oo_318)) rfl ?_
  refine sv_st (c' := (249, [some (.ref 117), none], [.ref 128, .ref 117], mU 129 oo_319)) (su_na (len := 2) rfl rfl rfl rfl rfl) ?_
  refine sv_st (c' := (252, [some (.ref 117), none], [], mU 129 oo_320)) (su_pR (len := 3) rfl rfl rfl) ?_
  refine fx_go 2 (c' := (255, [some (.ref 117), none], [.int 16, .ref 117], mU 129 oo_320)) rfl ?_
  refine sv_st (c' := (257, [some (.ref 117), none], [.ref 129, .ref 117], mU 130 oo_321)) (su_na (len := 2) rfl rfl rfl rfl rfl) ?_
  refine sv_st (c' := (260, [some (.ref 117), none], [], mU 130 oo_322)) (su_pR (len := 3) rfl rfl rfl) ?_
  refine fx_go 2 (c' := (263, [some (.ref 117), none], [.int 16, .ref 117], mU 130 oo_322)) rfl ?_
  refine sv_st (c' := (265, [some (.ref 117), none], [.ref 130, .ref 117], mU 131 oo_323)) (su_na (len := 2) rfl rfl rfl rfl rfl) ?_
  refine sv_st (c' := (268, [some (.ref 117), none], [], mU 131 oo_324)) (su_pR (len := 3) rfl rfl rfl) ?_
  refine fx_go 2 (c' := (271, [some (.ref 117), none], [.int 16, .ref 117], mU 131 oo_324)) rfl ?_
  refine sv_st (c' := (273, [some (.ref 117), none], [.ref 131, .ref 117], mU 132 oo_325)) (su_na (len := 2) rfl rfl rfl rfl rfl) ?_
  refine sv_st (c' := (276, [some (.ref 117), none], [], mU 132 oo_326)) (su_pR (len := 3) rfl rfl rfl) ?_
  refine fx_go 2 (c' := (279, [some (.ref 117), none], [.int 16, .ref 117], mU 132 oo_326)) rfl ?_
  refine sv_st (c' := (281, [some (.ref 117), none], [.ref 132, .ref 117], mU 133 oo_327)) (su_na (len := 2) rfl rfl rfl rfl rfl) ?_
  refine sv_st (c' := (284, [some (.ref 117), none], [], mU 133 oo_328)) (su_pR (len := 3) rfl rfl rfl) ?_
  refine fx_go 2 (c' := (287, [some (.ref 117), none], [.int 40, .ref 117], mU 133 oo_328)) rfl ?_
  refine sv_st (c' := (289, [some (.ref 117), none], [.ref 133, .ref 117], mU 134 oo_329)) (su_na (len := 2) rfl rfl rfl rfl rfl) ?_
  refine sv_st (c' := (292, [some (.ref 117), none], [], mU 134 oo_330)) (su_pR (len := 3) rfl rfl rfl) ?_
  refine fx_go 2 (c' := (295, [some (.ref 117), none], [.int 40, .ref 117], mU 134 oo_330)) rfl ?_
  refine sv_st (c' := (297, [some (.ref 117), none], [.ref 134, .ref 117], mU 135 oo_331)) (su_na (len := 2) rfl rfl rfl rfl rfl) ?_
  refine sv_st (c' := (300, [some (.ref 117), none], [], mU 135 oo_332)) (su_pR (len := 3) rfl rfl rfl) ?_
  refine fx_go 2 (c' := (303, [some (.ref 117), none], [.int 40, .ref 117], mU 135 oo_332)) rfl ?_
  refine sv_st (c' := (305, [some (.ref 117), none], [.ref 135, .ref 117], mU 136 oo_333)) (su_na (len := 2) rfl rfl rfl rfl rfl) ?_
  refine sv_st (c' := (308, [some (.ref 117), none], [], mU 136 oo_334)) (su_pR (len := 3) rfl rfl rfl) ?_
  refine fx_go 2 (c' := (311, [some (.ref 117), none], [.int 40, .ref 117], mU 136 oo_334)) rfl ?_
  refine sv_st (c' := (313, [some (.ref 117), none], [.ref 136, .ref 117], mU 137 oo_335)) (su_na (len := 2) rfl rfl rfl rfl rfl) ?_
  refine sv_st (c' := (316, [some (.ref 117), none], [], mU 137 oo_336)) (su_pR (len := 3) rfl rfl rfl) ?_
  refine fx_go 2 (c' := (319, [some (.ref 117), none], [.int 40, .ref 117], mU 137 oo_336)) rfl ?_
  refine sv_st (c' := (321, [some (.ref 117), none], [.ref 137, .ref 117], mU 138 oo_337)) (su_na (len := 2) rfl rfl rfl rfl rfl) ?_
  refine sv_st (c' := (324, [some (.ref 117), none], [], mU 138 oo_338)) (su_pR (len := 3) rfl rfl rfl) ?_
  refine fx_go 2 (c' := (327, [some (.ref 117), none], [.int 40, .ref 117], mU 138 oo_338)) rfl ?_
  refine sv_st (c' := (329, [some (.ref 117), none], [.ref 138, .ref 117], mU 139 oo_339)) (su_na (len := 2) rfl rfl rfl rfl rfl) ?_
  refine sv_st (c' := (332, [some (.ref 117), none], [], mU 139 oo_340)) (su_pR (len := 3) rfl rfl rfl) ?_
  refine fx_go 2 (c' := (335, [some (.ref 117), none], [.int 40, .ref 117], mU 139 oo_340)) rfl ?_
  refine sv_st (c' := (337, [some (.ref 117), none], [.ref 139, .ref 117], mU 140 oo_341)) (su_na (len := 2) rfl rfl rfl rfl rfl) ?_
  refine sv_st (c' := (340, [some (.ref 117), none], [], mU 140 oo_342)) (su_pR (len := 3) rfl rfl rfl) ?_
  refine fx_go 2 (c' := (343, [some (.ref 117), none], [.int 40, .ref 117], mU 140 oo_342)) rfl ?_
  refine sv_st (c' := (345, [some (.ref 117), none], [.ref 140, .ref 117], mU 141 oo_343)) (su_na (len := 2) rfl rfl rfl rfl rfl) ?_
  refine sv_st (c' := (348, [some (.ref 117), none], [], mU 141 oo_344)) (su_pR (len := 3) rfl rfl rfl) ?_
  refine fx_go 2 (c' := (351, [some (.ref 117), none], [.int 40, .ref 117], mU 141 oo_344)) rfl ?_
  refine sv_st (c' := (353, [some (.ref 117), none], [.ref 141, .ref 117], mU 142 oo_345)) (su_na (len := 2) rfl rfl rfl rfl rfl) ?_
  refine sv_st (c' := (356, [some (.ref 117), none], [], mU 142 oo_346)) (su_pR (len := 3) rfl rfl rfl) ?_
  refine fx_go 2 (c' := (359, [some (.ref 117), none], [.int 40, .ref 117], mU 142 oo_346)) rfl ?_
  refine sv_st (c' := (361, [some (.ref 117), none], [.ref 142, .ref 117], mU 143 oo_347)) (su_na (len := 2) rfl rfl rfl rfl rfl) ?_
  refine sv_st (c' := (364, [some (.ref 117), none], [], mU 143 oo_348)) (su_pR (len := 3) rfl rfl rfl) ?_
  refine fx_go 2 (c' := (367, [some (.ref 117), none], [.int 40, .ref 117], mU 143 oo_348)) rfl ?_
  refine sv_st (c' := (369, [some (.ref 117), none], [.ref 143, .ref 117], mU 144 oo_349)) (su_na (len := 2) rfl rfl rfl rfl rfl) ?_
  refine sv_st (c' := (372, [some (.ref 117), none], [], mU 144 oo_350)) (su_pR (len := 3) rfl rfl rfl) ?_
  refine fx_go 2 (c' := (375, [some (.ref 117), none], [.int 40, .ref 117], mU 144 oo_350)) rfl ?_
  refine sv_st (c' := (377, [some (.ref 117), none], [.ref 144, .ref 117], mU 145 oo_351)) (su_na (len := 2) rfl rfl rfl rfl rfl) ?_
  refine sv_st (c' := (380, [some (.ref 117), none], [], mU 145 oo_352)) (su_pR (len := 3) rfl rfl rfl) ?_
  refine fx_go 2 (c' := (383, [some (.ref 117), none], [.int 16, .ref 117], mU 145 oo_352)) rfl ?_
  refine sv_st (c' := (385, [some (.ref 117), none], [.ref 145, .ref 117], mU 146 oo_353)) (su_na (len := 2) rfl rfl rfl rfl rfl) ?_
  refine sv_st (c' := (388, [some (.ref 117), none], [], mU 146 oo_354)) (su_pR (len := 3) rfl rfl rfl) ?_
  refine fx_go 2 (c' := (391, [some (.ref 117), none], [.int 16, .ref 117], mU 146 oo_354)) rfl ?_
  refine sv_st (c' := (393, [some (.ref 117), none], [.ref 146, .ref 117], mU 147 oo_355)) (su_na (len := 2) rfl rfl rfl rfl rfl) ?_
  refine sv_st (c' := (396, [some (.ref 117), none], [], mU 147 oo_356)) (su_pR (len := 3) rfl rfl rfl) ?_
  refine fx_go 2 (c' := (399, [some (.ref 117), none], [.int 16, .ref 117], mU 147 oo_356)) rfl ?_
  refine sv_st (c' := (401, [some (.ref 117), none], [.ref 147, .ref 117], mU 148 oo_357)) (su_na (len := 2) rfl rfl rfl rfl rfl) ?_
  refine sv_st (c' := (404, [some (.ref 117), none], [], mU 148 oo_358)) (su_pR (len := 3) rfl rfl rfl) ?_
  refine fx_go 2 (c' := (407, [some (.ref 117), none], [.int 16, .ref 117], mU 148 oo_358)) rfl ?_
  refine sv_st (c' := (409, [some (.ref 117), none], [.ref 148, .ref 117], mU 149 oo_359)) (su_na (len := 2) rfl rfl rfl rfl rfl) ?_
  refine sv_st (c' := (412, [some (.ref 117), none], [], mU 149 oo_360)) (su_pR (len := 3) rfl rfl rfl) ?_
  refine fx_go 2 (c' := (415, [some (.ref 117), none], [.int 16, .ref 117], mU 149 oo_360)) rfl ?_
  refine sv_st (c' := (417, [some (.ref 117), none], [.ref 149, .ref 117], mU 150 oo_361)) (su_na (len := 2) rfl rfl rfl rfl rfl) ?_
  refine sv_st (c' := (420, [some (.ref 117), none], [], mU 150 oo_362)) (su_pR (len := 3) rfl rfl rfl) ?_
  refine fx_go 2 (c' := (423, [some (.ref 117), none], [.int 16, .ref 117], mU 150 oo_362)) rfl ?_
  refine sv_st (c' := (425, [some (.ref 117), none], [.ref 150, .ref 117], mU 151 oo_363)) (su_na (len := 2) rfl rfl rfl rfl rfl) ?_
  refine sv_st (c' := (428, [some (.ref 117), none], [], mU 151 oo_364)) (su_pR (len := 3) rfl rfl rfl) ?_
  refine fx_go 2 (c' := (432, [some (.ref 117), none], [.int 200, .ref 117], mU 151 oo_364)) rfl ?_
  refine sv_st (c' := (434, [some (.ref 117), none], [.ref 151, .ref 117], mU 152 oo_365)) (su_na (len := 2) rfl rfl rfl rfl rfl) ?_
  refine sv_st (c' := (437, [some (.ref 117), none], [], mU 152 oo_366)) (su_pR (len := 3) rfl rfl rfl) ?_
  refine fx_go 2 (c' := (441, [some (.ref 117), none], [.int 200, .ref 117], mU 152 oo_366)) rfl ?_
  refine sv_st (c' := (443, [some (.ref 117), none], [.ref 152, .ref 117], mU 153 oo_367)) (su_na (len := 2) rfl rfl rfl rfl rfl) ?_
  refine sv_st (c' := (446, [some (.ref 117), none], [], mU 153 oo_368)) (su_pR (len := 3) rfl rfl rfl) ?_
  refine fx_go 2 (c' := (450, [some (.ref 117), none], [.int 200, .ref 117], mU 153 oo_368)) rfl ?_
  refine sv_st (c' := (452, [some (.ref 117), none], [.ref 153, .ref 117], mU 154 oo_369)) (su_na (len := 2) rfl rfl rfl rfl rfl) ?_
  refine sv_st (c' := (455, [some (.ref 117), none], [], mU 154 oo_370)) (su_pR (len := 3) rfl rfl rfl) ?_
  refine fx_go 2 (c' := (458, [some (.ref 117), none], [.int 100, .ref 117], mU 154 oo_370)) rfl ?_
  refine sv_st (c' := (460, [some (.ref 117), none], [.ref 154, .ref 117], mU 155 oo_371)) (su_na (len := 2) rfl rfl rfl rfl rfl) ?_
  refine sv_st (c' := (463, [some (.ref 117), none], [], mU 155 oo_372)) (su_pR (len := 3) rfl rfl rfl) ?_
  refine fx_go 2 (c' := (466, [some (.ref 117), none], [.int 100, .ref 117], mU 155 oo_372)) rfl ?_
  refine sv_st (c' := (468, [some (.ref 117), none], [.ref 155, .ref 117], mU 156 oo_373)) (su_na (len := 2) rfl rfl rfl rfl rfl) ?_
  refine sv_st (c' := (471, [some (.ref 117), none], [], mU 156 oo_374)) (su_pR (len := 3) rfl rfl rfl) ?_
  refine fx_go 2 (c' := (474, [some (.ref 117), none], [.int 100, .ref 117], mU 156 oo_374)) rfl ?_
  refine sv_st (c' := (476, [some (.ref 117), none], [.ref 156, .ref 117], mU 157 oo_375)) (su_na (len := 2) rfl rfl rfl rfl rfl) ?_
  refine sv_st (c' := (479, [some (.ref 117), none], [], mU 157 oo_376)) (su_pR (len := 3) rfl rfl rfl) ?_
  refine fx_go 2 (c' := (483, [some (.ref 117), none], [.int 200, .ref 117], mU 157 oo_376)) rfl ?_
  refine sv_st (c' := (485, [some (.ref 117), none], [.ref 157, .ref 117], mU 158 oo_377)) (su_na (len := 2) rfl rfl rfl rfl rfl) ?_
  refine sv_st (c' := (488, [some (.ref 117), none], [], mU 158 oo_378)) (su_pR (len := 3) rfl rfl rfl) ?_
  refine fx_go 2 (c' := (490, [some (.ref 117), none], [.int 4, .ref 117], mU 158 oo_378)) rfl ?_
  refine sv_st (c' := (492, [some (.ref 117), none], [.ref 158, .ref 117], mU 159 oo_379)) (su_na (len := 2) rfl rfl rfl rfl rfl) ?_
  refine sv_st (c' := (495, [some (.ref 117), none], [], mU 159 oo_380)) (su_pR (len := 3) rfl rfl rfl) ?_
  refine fx_go 2 (c' := (497, [some (.ref 117), none], [.int 4, .ref 117], mU 159 oo_380)) rfl ?_
  refine sv_st (c' := (499, [some (.ref 117), none], [.ref 159, .ref 117], mU 160 oo_381)) (su_na (len := 2) rfl rfl rfl rfl rfl) ?_
  refine sv_st (c' := (502, [some (.ref 117), none], [], mU 160 oo_382)) (su_pR (len := 3) rfl rfl rfl) ?_
  refine fx_go 2 (c' := (505, [some (.ref 117), none], [.int 96, .ref 117], mU 160 oo_382)) rfl ?_
  refine sv_st (c' := (507, [some (.ref 117), none], [.ref 160, .ref 117], mU 161 oo_383)) (su_na (len := 2) rfl rfl rfl rfl rfl) ?_
  refine sv_st (c' := (510, [some (.ref 117), none], [], mU 161 oo_384)) (su_pR (len := 3) rfl rfl rfl) ?_
  refine fx_go 2 (c' := (513, [some (.ref 117), none], [.int 100, .ref 117], mU 161 oo_384)) rfl ?_
  refine sv_st (c' := (515, [some (.ref 117), none], [.ref 161, .ref 117], mU 162 oo_385)) (su_na (len := 2) rfl rfl rfl rfl rfl) ?_
  refine sv_st (c' := (518, [some (.ref 117), none], [], mU 162 oo_386)) (su_pR (len := 3) rfl rfl rfl) ?_
  refine fx_go 2 (c' := (521, [some (.ref 117), none], [.int 96, .ref 117], mU 162 oo_386)) rfl ?_
  refine sv_st (c' := (523, [some (.ref 117), none], [.ref 162, .ref 117], mU 163 oo_387)) (su_na (len := 2) rfl rfl rfl rfl rfl) ?_
  refine sv_st (c' := (526, [some (.ref 117), none], [], mU 163 oo_388)) (su_pR (len := 3) rfl rfl rfl) ?_
  refine fx_go 2 (c' := (530, [some (.ref 117), none], [.int 4880, .ref 117], mU 163 oo_388)) rfl ?_
  refine sv_st (c' := (532, [some (.ref 117), none], [.ref 163, .ref 117], mU 164 oo_389)) (su_na (len := 2) rfl rfl rfl rfl rfl) ?_
  refine sv_st (c' := (535, [some (.ref 117), none], [], mU 164 oo_390)) (su_pR (len := 3) rfl rfl rfl) ?_
  refine fx_go 2 (c' := (538, [some (.ref 117), none], [.int 24, .ref 117], mU 164 oo_390)) rfl ?_
  refine sv_st (c' := (540, [some (.ref 117), none], [.ref 164, .ref 117], mU 165 oo_391)) (su_na (len := 2) rfl rfl rfl rfl rfl) ?_
  refine sv_st (c' := (543, [some (.ref 117), none], [], mU 165 oo_392)) (su_pR (len := 3) rfl rfl rfl) ?_
  refine fx_go 2 (c' := (546, [some (.ref 117), none], [.int 25, .ref 117], mU 165 oo_392)) rfl ?_
  refine sv_st (c' := (548, [some (.ref 117), none], [.ref 165, .ref 117], mU 166 oo_393)) (su_na (len := 2) rfl rfl rfl rfl rfl) ?_
  refine sv_st (c' := (551, [some (.ref 117), none], [], mU 166 oo_394)) (su_pR (len := 3) rfl rfl rfl) ?_
  refine fx_go 2 (c' := (554, [some (.ref 117), none], [.int 24, .ref 117], mU 166 oo_394)) rfl ?_
  refine sv_st (c' := (556, [some (.ref 117), none], [.ref 166, .ref 117], mU 167 oo_395)) (su_na (len := 2) rfl rfl rfl rfl rfl) ?_
  refine sv_st (c' := (559, [some (.ref 117), none], [], mU 167 oo_396)) (su_pR (len := 3) rfl rfl rfl) ?_
  refine fx_go 2 (c' := (563, [some (.ref 117), none], [.int 1220, .ref 117], mU 167 oo_396)) rfl ?_
  refine sv_st (c' := (565, [some (.ref 117), none], [.ref 167, .ref 117], mU 168 oo_397)) (su_na (len := 2) rfl rfl rfl rfl rfl) ?_
  refine sv_st (c' := (568, [some (.ref 117), none], [], mU 168 oo_398)) (su_pR (len := 3) rfl rfl rfl) ?_
  refine fx_go 2 (c' := (572, [some (.ref 117), none], [.int 600, .ref 117], mU 168 oo_398)) rfl ?_
  refine sv_st (c' := (574, [some (.ref 117), none], [.ref 168, .ref 117], mU 169 oo_399)) (su_na (len := 2) rfl rfl rfl rfl rfl) ?_
  refine sv_st (c' := (577, [some (.ref 117), none], [], mU 169 oo_400)) (su_pR (len := 3) rfl rfl rfl) ?_
  refine fx_go 2 (c' := (581, [some (.ref 117), none], [.int 620, .ref 117], mU 169 oo_400)) rfl ?_
  refine sv_st (c' := (583, [some (.ref 117), none], [.ref 169, .ref 117], mU 170 oo_401)) (su_na (len := 2) rfl rfl rfl rfl rfl) ?_
  refine sv_st (c' := (586, [some (.ref 117), none], [], mU 170 oo_402)) (su_pR (len := 3) rfl rfl rfl) ?_
  refine fx_go 2 (c' := (588, [some (.ref 117), none], [.int (-1), .ref 117], mU 170 oo_402)) rfl ?_
  refine sv_st (c' := (591, [some (.ref 117), none], [], mU 170 oo_403)) (su_pI (len := 3) rfl rfl rfl) ?_
  refine fx_go 2 (c' := (594, [some (.ref 117), none], [.int 6, .ref 117], mU 170 oo_403)) rfl ?_
  refine sv_st (c' := (596, [some (.ref 117), none], [.ref 170, .ref 117], mU 171 oo_404)) (su_na (len := 2) rfl rfl rfl rfl rfl) ?_
  refine sv_st (c' := (599, [some (.ref 117), none], [], mU 171 oo_405)) (su_pR (len := 3) rfl rfl rfl) ?_
  refine fx_go 2 (c' := (602, [some (.ref 117), none], [.int 8, .ref 117], mU 171 oo_405)) rfl ?_
  refine sv_st (c' := (604, [some (.ref 117), none], [.ref 171, .ref 117], mU 172 oo_406)) (su_na (len := 2) rfl rfl rfl rfl rfl) ?_
  refine sv_st (c' := (607, [some (.ref 117), none], [], mU 172 oo_407)) (su_pR (len := 3) rfl rfl rfl) ?_
  refine fx_go 2 (c' := (610, [some (.ref 117), none], [.int 8, .ref 117], mU 172 oo_407)) rfl ?_
  refine sv_st (c' := (612, [some (.ref 117), none], [.ref 172, .ref 117], mU 173 oo_408)) (su_na (len := 2) rfl rfl rfl rfl rfl) ?_
  refine sv_st (c' := (615, [some (.ref 117), none], [], mU 173 oo_409)) (su_pR (len := 3) rfl rfl rfl) ?_
  refine fx_go 2 (c' := (618, [some (.ref 117), none], [.int 32, .ref 117], mU 173 oo_409)) rfl ?_
  refine sv_st (c' := (620, [some (.ref 117), none], [.ref 173, .ref 117], mU 174 oo_410)) (su_na (len := 2) rfl rfl rfl rfl rfl) ?_
  refine sv_st (c' := (623, [some (.ref 117), none], [], mU 174 oo_411)) (su_pR (len := 3) rfl rfl rfl) ?_
  refine fx_go 2 (c' := (626, [some (.ref 117), none], [.int 32, .ref 117], mU 174 oo_411)) rfl ?_
  refine sv_st (c' := (628, [some (.ref 117), none], [.ref 174, .ref 117], mU 175 oo_412)) (su_na (len := 2) rfl rfl rfl rfl rfl) ?_
  refine sv_st (c' := (631, [some (.ref 117), none], [], mU 175 oo_413)) (su_pR (len := 3) rfl rfl rfl) ?_
  refine fx_go 2 (c' := (634, [some (.ref 117), none], [.int 16, .ref 117], mU 175 oo_413)) rfl ?_
  refine sv_st (c' := (636, [some (.ref 117), none], [.ref 175, .ref 117], mU 176 oo_414)) (su_na (len := 2) rfl rfl rfl rfl rfl) ?_
  refine sv_st (c' := (639, [some (.ref 117), none], [], mU 176 oo_415)) (su_pR (len := 3) rfl rfl rfl) ?_
  refine fx_go 2 (c' := (642, [some (.ref 117), none], [.int 16, .ref 117], mU 176 oo_415)) rfl ?_
  refine sv_st (c' := (644, [some (.ref 117), none], [.ref 176, .ref 117], mU 177 oo_416)) (su_na (len := 2) rfl rfl rfl rfl rfl) ?_
  refine sv_st (c' := (647, [some (.ref 117), none], [], mU 177 oo_417)) (su_pR (len := 3) rfl rfl rfl) ?_
  refine fx_go 2 (c' := (650, [some (.ref 117), none], [.int 8, .ref 117], mU 177 oo_417)) rfl ?_
  refine sv_st (c' := (652, [some (.ref 117), none], [.ref 177, .ref 117], mU 178 oo_418)) (su_na (len := 2) rfl rfl rfl rfl rfl) ?_
  refine sv_st (c' := (655, [some (.ref 117), none], [], mU 178 oo_419)) (su_pR (len := 3) rfl rfl rfl) ?_
  refine fx_go 2 (c' := (658, [some (.ref 117), none], [.int 8, .ref 117], mU 178 oo_419)) rfl ?_
  refine sv_st (c' := (660, [some (.ref 117), none], [.ref 178, .ref 117], mU 179 oo_420)) (su_na (len := 2) rfl rfl rfl rfl rfl) ?_
  refine sv_st (c' := (663, [some (.ref 117), none], [], mU 179 oo_421)) (su_pR (len := 3) rfl rfl rfl) ?_
  refine fx_go 2 (c' := (666, [some (.ref 117), none], [.int 8, .ref 117], mU 179 oo_421)) rfl ?_
  refine sv_st (c' := (668, [some (.ref 117), none], [.ref 179, .ref 117], mU 180 oo_422)) (su_na (len := 2) rfl rfl rfl rfl rfl) ?_
  refine sv_st (c' := (671, [some (.ref 117), none], [], mU 180 oo_423)) (su_pR (len := 3) rfl rfl rfl) ?_
  refine fx_go 6 (c' := (680, [some (.ref 117), some (.int 0)], [.ref 117], mU 180 oo_423)) rfl ?_
  refine sv_st (c' := (683, [some (.ref 117), some (.int 0)], [.ref 127], mU 180 oo_423)) (su_gR (len := 3) rfl rfl rfl (by decide +kernel)) ?_
  refine fx_go 2 (c' := (685, [some (.ref 117), some (.int 0)], [.int (-1), .int 0, .ref 127], mU 180 oo_423)) rfl ?_
  refine sv_st (c' := (686, [some (.ref 117), some (.int 0)], [], mU 180 oo_424)) (su_iS rfl rfl rfl rfl rfl) ?_
  refine fx_go 6 (c' := (680, [some (.ref 117), some (.int 1)], [.ref 117], mU 180 oo_424)) rfl ?_
  refine sv_st (c' := (683, [some (.ref 117), some (.int 1)], [.ref 127], mU 180 oo_424)) (su_gR (len := 3) rfl rfl rfl (by decide +kernel)) ?_
  refine fx_go 2 (c' := (685, [some (.ref 117), some (.int 1)], [.int (-1), .int 1, .ref 127], mU 180 oo_424)) rfl ?_
  refine sv_st (c' := (686, [some (.ref 117), some (.int 1)], [], mU 180 oo_425)) (su_iS rfl rfl rfl rfl rfl) ?_
  refine fx_go 6 (c' := (680, [some (.ref 117), some (.int 2)], [.ref 117], mU 180 oo_425)) rfl ?_
  refine sv_st (c' := (683, [some (.ref 117), some (.int 2)], [.ref 127], mU 180 oo_425)) (su_gR (len := 3) rfl rfl rfl (by decide +kernel)) ?_
  refine fx_go 2 (c' := (685, [some (.ref 117), some (.int 2)], [.int (-1), .int 2, .ref 127], mU 180 oo_425)) rfl ?_
  refine sv_st (c' := (686, [some (.ref 117), some (.int 2)], [], mU 180 oo_426)) (su_iS rfl rfl rfl rfl rfl) ?_
  refine fx_go 6 (c' := (680, [some (.ref 117), some (.int 3)], [.ref 117], mU 180 oo_426)) rfl ?_
  refine sv_st (c' := (683, [some (.ref 117), some (.int 3)], [.ref 127], mU 180 oo_426)) (su_gR (len := 3) rfl rfl rfl (by decide +kernel)) ?_
  refine fx_go 2 (c' := (685, [some (.ref 117), some (.int 3)], [.int (-1), .int 3, .ref 127], mU 180 oo_426)) rfl ?_
  refine sv_st (c' := (686, [some (.ref 117), some (.int 3)], [], mU 180 oo_427)) (su_iS rfl rfl rfl rfl rfl) ?_
  refine fx_go 6 (c' := (680, [some (.ref 117), some (.int 4)], [.ref 117], mU 180 oo_427)) rfl ?_
  refine sv_st (c' := (683, [some (.ref 117), some (.int 4)], [.ref 127], mU 180 oo_427)) (su_gR (len := 3) rfl rfl rfl (by decide +kernel)) ?_
  refine fx_go 2 (c' := (685, [some (.ref 117), some (.int 4)], [.int (-1), .int 4, .ref 127], mU 180 oo_427)) rfl ?_
  refine sv_st (c' := (686, [some (.ref 117), some (.int 4)], [], mU 180 oo_428)) (su_iS rfl rfl rfl rfl rfl) ?_
  refine fx_go 6 (c' := (680, [some (.ref 117), some (.int 5)], [.ref 117], mU 180 oo_428)) rfl ?_
  refine sv_st (c' := (683, [some (.ref 117), some (.int 5)], [.ref 127], mU 180 oo_428)) (su_gR (len := 3) rfl rfl rfl (by decide +kernel)) ?_
  refine fx_go 2 (c' := (685, [some (.ref 117), some (.int 5)], [.int (-1), .int 5, .ref 127], mU 180 oo_428)) rfl ?_
  refine sv_st (c' := (686, [some (.ref 117), some (.int 5)], [], mU 180 oo_429)) (su_iS rfl rfl rfl rfl rfl) ?_
  refine fx_go 11 (c' := (701, [some (.ref 117), some (.int 0)], [.ref 117], mU 180 oo_429)) rfl ?_
  refine sv_st (c' := (704, [some (.ref 117), some (.int 0)], [.ref 175], mU 180 oo_429)) (su_gR (len := 3) rfl rfl rfl (by decide +kernel)) ?_
  refine fx_go 2 (c' := (706, [some (.ref 117), some (.int 0)], [.int (-1), .int 0, .ref 175], mU 180 oo_429)) rfl ?_
  refine sv_st (c' := (707, [some (.ref 117), some (.int 0)], [], mU 180 oo_430)) (su_iS rfl rfl rfl rfl rfl) ?_
  refine fx_go 6 (c' := (701, [some (.ref 117), some (.int 1)], [.ref 117], mU 180 oo_430)) rfl ?_
  refine sv_st (c' := (704, [some (.ref 117), some (.int 1)], [.ref 175], mU 180 oo_430)) (su_gR (len := 3) rfl rfl rfl (by decide +kernel)) ?_
  refine fx_go 2 (c' := (706, [some (.ref 117), some (.int 1)], [.int (-1), .int 1, .ref 175], mU 180 oo_430)) rfl ?_
  refine sv_st (c' := (707, [some (.ref 117), some (.int 1)], [], mU 180 oo_431)) (su_iS rfl rfl rfl rfl rfl) ?_
  refine fx_go 6 (c' := (701, [some (.ref 117), some (.int 2)], [.ref 117], mU 180 oo_431)) rfl ?_
  refine sv_st (c' := (704, [some (.ref 117), some (.int 2)], [.ref 175], mU 180 oo_431)) (su_gR (len := 3) rfl rfl rfl (by decide +kernel)) ?_
  refine fx_go 2 (c' := (706, [some (.ref 117), some (.int 2)], [.int (-1), .int 2, .ref 175], mU 180 oo_431)) rfl ?_
  refine sv_st (c' := (707, [some (.ref 117), some (.int 2)], [], mU 180 oo_432)) (su_iS rfl rfl rfl rfl rfl) ?_
  refine fx_go 6 (c' := (701, [some (.ref 117), some (.int 3)], [.ref 117], mU 180 oo_432)) rfl ?_
  refine sv_st (c' := (704, [some (.ref 117), some (.int 3)], [.ref 175], mU 180 oo_432)) (su_gR (len := 3) rfl rfl rfl (by decide +kernel)) ?_
  refine fx_go 2 (c' := (706, [some (.ref 117), some (.int 3)], [.int (-1), .int 3, .ref 175], mU 180 oo_432)) rfl ?_
  refine sv_st (c' := (707, [some (.ref 117), some (.int 3)], [], mU 180 oo_433)) (su_iS rfl rfl rfl rfl rfl) ?_
  refine fx_go 6 (c' := (701, [some (.ref 117), some (.int 4)], [.ref 117], mU 180 oo_433)) rfl ?_
  refine sv_st (c' := (704, [some (.ref 117), some (.int 4)], [.ref 175], mU 180 oo_433)) (su_gR (len := 3) rfl rfl rfl (by decide +kernel)) ?_
  refine fx_go 2 (c' := (706, [some (.ref 117), some (.int 4)], [.int (-1), .int 4, .ref 175], mU 180 oo_433)) rfl ?_
  refine sv_st (c' := (707, [some (.ref 117), some (.int 4)], [], mU 180 oo_434)) (su_iS rfl rfl rfl rfl rfl) ?_
  refine fx_go 6 (c' := (701, [some (.ref 117), some (.int 5)], [.ref 117], mU 180 oo_434)) rfl ?_
  refine sv_st (c' := (704, [some (.ref 117), some (.int 5)], [.ref 175], mU 180 oo_434)) (su_gR (len := 3) rfl rfl rfl (by decide +kernel)) ?_
  refine fx_go 2 (c' := (706, [some (.ref 117), some (.int 5)], [.int (-1), .int 5, .ref 175], mU 180 oo_434)) rfl ?_
  refine sv_st (c' := (707, [some (.ref 117), some (.int 5)], [], mU 180 oo_435)) (su_iS rfl rfl rfl rfl rfl) ?_
  refine fx_go 6 (c' := (701, [some (.ref 117), some (.int 6)], [.ref 117], mU 180 oo_435)) rfl ?_
  refine sv_st (c' := (704, [some (.ref 117), some (.int 6)], [.ref 175], mU 180 oo_435)) (su_gR (len := 3) rfl rfl rfl (by decide +kernel)) ?_
  refine fx_go 2 (c' := (706, [some (.ref 117), some (.int 6)], [.int (-1), .int 6, .ref 175], mU 180 oo_435)) rfl ?_
  refine sv_st (c' := (707, [some (.ref 117), some (.int 6)], [], mU 180 oo_436)) (su_iS rfl rfl rfl rfl rfl) ?_
  refine fx_go 6 (c' := (701, [some (.ref 117), some (.int 7)], [.ref 117], mU 180 oo_436)) rfl ?_
  refine sv_st (c' := (704, [some (.ref 117), some (.int 7)], [.ref 175], mU 180 oo_436)) (su_gR (len := 3) rfl rfl rfl (by decide +kernel)) ?_
  refine fx_go 2 (c' := (706, [some (.ref 117), some (.int 7)], [.int (-1), .int 7, .ref 175], mU 180 oo_436)) rfl ?_
  refine sv_st (c' := (707, [some (.ref 117), some (.int 7)], [], mU 180 oo_437)) (su_iS rfl rfl rfl rfl rfl) ?_
  refine fx_go 6 (c' := (701, [some (.ref 117), some (.int 8)], [.ref 117], mU 180 oo_437)) rfl ?_
  refine sv_st (c' := (704, [some (.ref 117), some (.int 8)], [.ref 175], mU 180 oo_437)) (su_gR (len := 3) rfl rfl rfl (by decide +kernel)) ?_
  refine fx_go 2 (c' := (706, [some (.ref 117), some (.int 8)], [.int (-1), .int 8, .ref 175], mU 180 oo_437)) rfl ?_
  refine sv_st (c' := (707, [some (.ref 117), some (.int 8)], [], mU 180 oo_438)) (su_iS rfl rfl rfl rfl rfl) ?_
  refine fx_go 6 (c' := (701, [some (.ref 117), some (.int 9)], [.ref 117], mU 180 oo_438)) rfl ?_
  refine sv_st (c' := (704, [some (.ref 117), some (.int 9)], [.ref 175], mU 180 oo_438)) (su_gR (len := 3) rfl rfl rfl (by decide +kernel)) ?_
  refine fx_go 2 (c' := (706, [some (.ref 117), some (.int 9)], [.int (-1), .int 9, .ref 175], mU 180 oo_438)) rfl ?_
  refine sv_st (c' := (707, [some (.ref 117), some (.int 9)], [], mU 180 oo_439)) (su_iS rfl rfl rfl rfl rfl) ?_
  refine fx_go 6 (c' := (701, [some (.ref 117), some (.int 10)], [.ref 117], mU 180 oo_439)) rfl ?_
  refine sv_st (c' := (704, [some (.ref 117), some (.int 10)], [.ref 175], mU 180 oo_439)) (su_gR (len := 3) rfl rfl rfl (by decide +kernel)) ?_
  refine fx_go 2 (c' := (706, [some (.ref 117), some (.int 10)], [.int (-1), .int 10, .ref 175], mU 180 oo_439)) rfl ?_
  refine sv_st (c' := (707, [some (.ref 117), some (.int 10)], [], mU 180 oo_440)) (su_iS rfl rfl rfl rfl rfl) ?_
  refine fx_go 6 (c' := (701, [some (.ref 117), some (.int 11)], [.ref 117], mU 180 oo_440)) rfl ?_
  refine sv_st (c' := (704, [some (.ref 117), some (.int 11)], [.ref 175], mU 180 oo_440)) (su_gR (len := 3) rfl rfl rfl (by decide +kernel)) ?_
  refine fx_go 2 (c' := (706, [some (.ref 117), some (.int 11)], [.int (-1), .int 11, .ref 175], mU 180 oo_440)) rfl ?_
  refine sv_st (c' := (707, [some (.ref 117), some (.int 11)], [], mU 180 oo_441)) (su_iS rfl rfl rfl rfl rfl) ?_
  refine fx_go 6 (c' := (701, [some (.ref 117), some (.int 12)], [.ref 117], mU 180 oo_441)) rfl ?_
  refine sv_st (c' := (704, [some (.ref 117), some (.int 12)], [.ref 175], mU 180 oo_441)) (su_gR (len := 3) rfl rfl rfl (by decide +kernel)) ?_
  refine fx_go 2 (c' := (706, [some (.ref 117), some (.int 12)], [.int (-1), .int 12, .ref 175], mU 180 oo_441)) rfl ?_
  refine sv_st (c' := (707, [some (.ref 117), some (.int 12)], [], mU 180 oo_442)) (su_iS rfl rfl rfl rfl rfl) ?_
  refine fx_go 6 (c' := (701, [some (.ref 117), some (.int 13)], [.ref 117], mU 180 oo_442)) rfl ?_
  refine sv_st (c' := (704, [some (.ref 117), some (.int 13)], [.ref 175], mU 180 oo_442)) (su_gR (len := 3) rfl rfl rfl (by decide +kernel)) ?_
  refine fx_go 2 (c' := (706, [some (.ref 117), some (.int 13)], [.int (-1), .int 13, .ref 175], mU 180 oo_442)) rfl ?_
  refine sv_st (c' := (707, [some (.ref 117), some (.int 13)], [], mU 180 oo_443)) (su_iS rfl rfl rfl rfl rfl) ?_
  refine fx_go 6 (c' := (701, [some (.ref 117), some (.int 14)], [.ref 117], mU 180 oo_443)) rfl ?_
  refine sv_st (c' := (704, [some (.ref 117), some (.int 14)], [.ref 175], mU 180 oo_443)) (su_gR (len := 3) rfl rfl rfl (by decide +kernel)) ?_
  refine fx_go 2 (c' := (706, [some (.ref 117), some (.int 14)], [.int (-1), .int 14, .ref 175], mU 180 oo_443)) rfl ?_
  refine sv_st (c' := (707, [some (.ref 117), some (.int 14)], [], mU 180 oo_444)) (su_iS rfl rfl rfl rfl rfl) ?_
  refine fx_go 6 (c' := (701, [some (.ref 117), some (.int 15)], [.ref 117], mU 180 oo_444)) rfl ?_
  refine sv_st (c' := (704, [some (.ref 117), some (.int 15)], [.ref 175], mU 180 oo_444)) (su_gR (len := 3) rfl rfl rfl (by decide +kernel)) ?_
  refine fx_go 2 (c' := (706, [some (.ref 117), some (.int 15)], [.int (-1), .int 15, .ref 175], mU 180 oo_444)) rfl ?_
  refine sv_st (c' := (707, [some (.ref 117), some (.int 15)], [], mU 180 oo_445)) (su_iS rfl rfl rfl rfl rfl) ?_
  refine fx_go 11 (c' := (721, [some (.ref 117), some (.int 0)], [.ref 117], mU 180 oo_445)) rfl ?_
  refine sv_st (c' := (724, [some (.ref 117), some (.int 0)], [.ref 158], mU 180 oo_445)) (su_gR (len := 3) rfl rfl rfl (by decide +kernel)) ?_
  refine fx_go 2 (c' := (726, [some (.ref 117), some (.int 0)], [.int (-1), .int 0, .ref 158], mU 180 oo_445)) rfl ?_
  refine sv_st (c' := (727, [some (.ref 117), some (.int 0)], [], mU 180 oo_446)) (su_iS rfl rfl rfl rfl rfl) ?_
  refine fx_go 6 (c' := (721, [some (.ref 117), some (.int 1)], [.ref 117], mU 180 oo_446)) rfl ?_
  refine sv_st (c' := (724, [some (.ref 117), some (.int 1)], [.ref 158], mU 180 oo_446)) (su_gR (len := 3) rfl rfl rfl (by decide +kernel)) ?_
  refine fx_go 2 (c' := (726, [some (.ref 117), some (.int 1)], [.int (-1), .int 1, .ref 158], mU 180 oo_446)) rfl ?_
  refine sv_st (c' := (727, [some (.ref 117), some (.int 1)], [], mU 180 oo_447)) (su_iS rfl rfl rfl rfl rfl) ?_
  refine fx_go 6 (c' := (721, [some (.ref 117), some (.int 2)], [.ref 117], mU 180 oo_447)) rfl ?_
  refine sv_st (c' := (724, [some (.ref 117), some (.int 2)], [.ref 158], mU 180 oo_447)) (su_gR (len := 3) rfl rfl rfl (by decide +kernel)) ?_
  refine fx_go 2 (c' := (726, [some (.ref 117), some (.int 2)], [.int (-1), .int 2, .ref 158], mU 180 oo_447)) rfl ?_
  refine sv_st (c' := (727, [some (.ref 117), some (.int 2)], [], mU 180 oo_448)) (su_iS rfl rfl rfl rfl rfl) ?_
  refine fx_go 6 (c' := (721, [some (.ref 117), some (.int 3)], [.ref 117], mU 180 oo_448)) rfl ?_
  refine sv_st (c' := (724, [some (.ref 117), some (.int 3)], [.ref 158], mU 180 oo_448)) (su_gR (len := 3) rfl rfl rfl (by decide +kernel)) ?_
  refine fx_go 2 (c' := (726, [some (.ref 117), some (.int 3)], [.int (-1), .int 3, .ref 158], mU 180 oo_448)) rfl ?_
  refine sv_st (c' := (727, [some (.ref 117), some (.int 3)], [], mU 180 oo_449)) (su_iS rfl rfl rfl rfl rfl) ?_
  refine fx_go 6 (c' := (734, [some (.ref 117), some (.int 4)], [.ref 117], mU 180 oo_449)) rfl ?_
  refine sv_st (c' := (737, [some (.ref 117), some (.int 4)], [.ref 128], mU 180 oo_449)) (su_gR (len := 3) rfl rfl rfl (by decide +kernel)) ?_
  refine fx_go 2 (c' := (739, [some (.ref 117), some (.int 4)], [.int (-1), .int 0, .ref 128], mU 180 oo_449)) rfl ?_
  refine sv_st (c' := (740, [some (.ref 117), some (.int 4)], [], mU 180 oo_450)) (su_iS rfl rfl rfl rfl rfl) ?_
  exact fx_ret rfl
/-! The state behind them is a state of mT. -/
def mi_P (j : Nat) : Nat := match j with
  | 0 => 48
  | 1 => 56
  | 2 => 64
  | 3 => 72
  | 4 => 40
  | 5 => 40
  | _ => 0
def mi_s : mS := (mo_I ov_450, mo_L ov_450, mi_P)
def mi_keys : List mo_Op → List (Nat × Nat)
  | [] => []
  | (t, k, j, _, _) :: O => match t with
    | 2 => (k, j) :: mi_keys O
    | _ => mi_keys O
def mi_row (a : Nat) : Nat → List (Option Nat) → List (Nat × Nat)
  | _, [] => []
  | b, none :: r => mi_row a (b + 1) r
  | b, some _ :: r => (a, b) :: mi_row a (b + 1) r
def mi_tab : Nat → List (List (Option Nat)) → List (Nat × Nat)
  | _, [] => []
  | a, x :: T => mi_row a 0 x ++ mi_tab (a + 1) T
def mi_two (O : List mo_Op) : Bool := O.all (fun op => Nat.ble op.1 2)
theorem mi_kn : ∀ (O : List mo_Op) (a b : Nat), mi_two O = true → (a, b) ∉ mi_keys O → mo_R O a b = none
  | [], _, _, _, _ => rfl
  | (t, k, j, x, r) :: O, a, b, h, h2 => by
    have h' : Nat.ble t 2 = true ∧ mi_two O = true := by
      have := h
      unfold mi_two at this
      rw [List.all_cons, Bool.and_eq_true] at this
      exact this
    match t, h', h2 with
    | 0, h', h2 =>
      show (if a = k then none else mo_R O a b) = none
      by_cases e : a = k
      · rw [if_pos e]
      · rw [if_neg e]; exact mi_kn O a b h'.2 h2
    | 1, h', h2 => exact mi_kn O a b h'.2 h2
    | 2, h', h2 =>
      show (if a = k ∧ b = j then some r else mo_R O a b) = none
      have h3 : (a, b) ∉ (k, j) :: mi_keys O := h2
      rw [List.mem_cons, not_or] at h3
      rw [if_neg (fun e => h3.1 (by rw [e.1, e.2]))]
      exact mi_kn O a b h'.2 h3.2
    | n + 3, h', _ => exact absurd h'.1 (by simp [Nat.ble])
theorem mi_rm (a : Nat) : ∀ (r : List (Option Nat)) (c b : Nat), mm_no r b ≠ none → (a, c + b) ∈ mi_row a c r
  | [], _, b, h => absurd (by cases b <;> rfl) h
  | none :: r, c, 0, h => absurd rfl h
  | some x :: r, c, 0, _ => List.mem_cons_self
  | none :: r, c, b + 1, h => by
    have := mi_rm a r (c + 1) b h
    rw [Nat.add_right_comm] at this
    exact this
  | some x :: r, c, b + 1, h => by
    have := mi_rm a r (c + 1) b h
    rw [Nat.add_right_comm] at this
    exact List.mem_cons_of_mem _ this
theorem mi_tm : ∀ (T : List (List (Option Nat))) (c a b : Nat), mm_no (mm_nr T a) b ≠ none → (c + a, b) ∈ mi_tab c T
  | [], _, a, b, h => absurd (by cases a <;> cases b <;> rfl) h
  | x :: T, c, 0, b, h => by
    have := mi_rm c x 0 b h
    rw [Nat.zero_add] at this
    exact List.mem_append_left _ this
  | x :: T, c, a + 1, b, h => by
    have := mi_tm T (c + 1) a b h
    rw [Nat.add_right_comm] at this
    exact List.mem_append_right _ this
theorem mi_d1 : (mi_tab 0 mm_R0t).all (fun p => (mi_keys ov_450).contains p) = true := by decide +kernel
theorem mi_d2 : (mi_keys ov_450).all (fun p => decide (mo_R ov_450 p.1 p.2 = mm_R0 mi_P p.1 p.2)) = true := by decide +kernel
theorem mi_d3 : mi_two ov_450 = true := by decide +kernel
theorem mi_d4 : ((38, 0) ∈ mi_keys ov_450 ∧ (38, 1) ∈ mi_keys ov_450 ∧ (38, 2) ∈ mi_keys ov_450 ∧ (38, 3) ∈ mi_keys ov_450) ∧ (80, 6) ∈ mi_keys ov_450 ∧ (80, 0) ∈ mi_keys ov_450 := by decide +kernel
theorem mi_nk {a b : Nat} (h : (a, b) ∉ mi_keys ov_450) : mm_R0 mi_P a b = none := by
  have ht : mm_no (mm_nr mm_R0t a) b = none := by
    refine Classical.byContradiction fun hn => ?_
    have := mi_tm mm_R0t 0 a b hn
    rw [Nat.zero_add] at this
    have h2 := List.all_eq_true.mp mi_d1 _ this
    exact h (List.contains_iff_mem.mp h2)
  unfold mm_R0
  cases e1 : Nat.beq a 38 with
  | true =>
    have ea := Nat.eq_of_beq_eq_true e1
    subst ea
    cases e2 : Nat.blt b 4 with
    | true =>
      have hb : b < 4 := Nat.le_of_ble_eq_true e2
      match b, hb with
      | 0, _ => exact absurd mi_d4.1.1 h
      | 1, _ => exact absurd mi_d4.1.2.1 h
      | 2, _ => exact absurd mi_d4.1.2.2.1 h
      | 3, _ => exact absurd mi_d4.1.2.2.2 h
    | false => rfl
  | false =>
    cases e2 : (Nat.beq a 80 && Nat.beq b 6) with
    | true =>
      rw [Bool.and_eq_true] at e2
      have ea := Nat.eq_of_beq_eq_true e2.1
      have eb := Nat.eq_of_beq_eq_true e2.2
      subst ea; subst eb
      exact absurd mi_d4.2.1 h
    | false =>
      cases e3 : (Nat.beq a 80 && Nat.beq b 0) with
      | true =>
        rw [Bool.and_eq_true] at e3
        have ea := Nat.eq_of_beq_eq_true e3.1
        have eb := Nat.eq_of_beq_eq_true e3.2
        subst ea; subst eb
        exact absurd mi_d4.2.2 h
      | false => exact ht
theorem mi_fin : mT mi_s = (mm_K0, mo_I ov_450, mo_L ov_450, mo_R ov_450) := by
  have hR : mo_R ov_450 = mm_R0 mi_P := by
    funext a b
    by_cases h : (a, b) ∈ mi_keys ov_450
    · exact of_decide_eq_true (List.all_eq_true.mp mi_d2 (a, b) h)
    · rw [mi_nk h, mi_kn _ a b mi_d3 h]
  rw [hR]
  rfl
/-! The cells' other names. -/
def rn_pl : List Nat := [0, 1, 2, 3, 4, 5, 6, 7, 8, 9, 10, 11, 12, 13, 14, 15, 16, 17, 18, 19, 20, 21, 22, 23, 24, 25, 26, 27, 28, 29, 30, 31, 32, 33, 34, 35, 36, 37, 38, 39, 42, 43, 44, 45, 46, 47, 48, 49, 51, 52, 53, 54, 55, 56, 57, 58, 59, 60, 61, 62, 63, 64, 65, 66, 67, 68, 69, 70, 71, 72, 73, 74, 75, 76, 77, 78, 79, 80, 81, 82, 40, 50, 83, 84, 85, 86, 87, 88, 89, 90, 91, 92, 93, 94, 95, 96, 97, 98, 99, 100, 101, 102, 103, 104, 105, 106, 107, 108, 109, 110, 111, 112, 113, 114, 115, 116, 117, 118, 119, 120, 121, 122, 123, 124, 125, 126, 127, 128, 129, 130, 131, 132, 133, 134, 135, 136, 137, 138, 139, 140, 141, 142, 143, 144, 145, 146, 147, 148, 149, 150, 151, 152, 153, 154, 155, 156, 157, 158, 159, 160, 161, 162, 163, 164, 165, 166, 167, 168, 169, 170, 171, 172, 173, 174, 175, 176, 177, 178, 179, 41]
def rn_ql : List Nat := [0, 1, 2, 3, 4, 5, 6, 7, 8, 9, 10, 11, 12, 13, 14, 15, 16, 17, 18, 19, 20, 21, 22, 23, 24, 25, 26, 27, 28, 29, 30, 31, 32, 33, 34, 35, 36, 37, 38, 39, 80, 179, 40, 41, 42, 43, 44, 45, 46, 47, 81, 48, 49, 50, 51, 52, 53, 54, 55, 56, 57, 58, 59, 60, 61, 62, 63, 64, 65, 66, 67, 68, 69, 70, 71, 72, 73, 74, 75, 76, 77, 78, 79, 82, 83, 84, 85, 86, 87, 88, 89, 90, 91, 92, 93, 94, 95, 96, 97, 98, 99, 100, 101, 102, 103, 104, 105, 106, 107, 108, 109, 110, 111, 112, 113, 114, 115, 116, 117, 118, 119, 120, 121, 122, 123, 124, 125, 126, 127, 128, 129, 130, 131, 132, 133, 134, 135, 136, 137, 138, 139, 140, 141, 142, 143, 144, 145, 146, 147, 148, 149, 150, 151, 152, 153, 154, 155, 156, 157, 158, 159, 160, 161, 162, 163, 164, 165, 166, 167, 168, 169, 170, 171, 172, 173, 174, 175, 176, 177, 178]
def rn_p (x : Nat) : Nat := if x < 180 then rn_pl.getD x x else x
def rn_q (x : Nat) : Nat := if x < 180 then rn_ql.getD x x else x
theorem rn_d1 : (List.range 180).all (fun x => Nat.beq (rn_q (rn_p x)) x && Nat.beq (rn_p (rn_q x)) x && Nat.blt (rn_p x) 180) = true := by decide +kernel
theorem rn_lo {x : Nat} (h : x < 180) : rn_q (rn_p x) = x ∧ rn_p (rn_q x) = x ∧ rn_p x < 180 := by
  have := List.all_eq_true.mp rn_d1 x (List.mem_range.mpr h)
  simp only [Bool.and_eq_true] at this
  exact ⟨Nat.eq_of_beq_eq_true this.1.1, Nat.eq_of_beq_eq_true this.1.2, Nat.le_of_ble_eq_true this.2⟩
theorem rn_hi {x : Nat} (h : ¬ x < 180) : rn_p x = x ∧ rn_q x = x := ⟨if_neg h, if_neg h⟩
theorem rn_qp (x : Nat) : rn_q (rn_p x) = x := by
  by_cases h : x < 180
  · exact (rn_lo h).1
  · rw [(rn_hi h).1, (rn_hi h).2]
theorem rn_pq (x : Nat) : rn_p (rn_q x) = x := by
  by_cases h : x < 180
  · exact (rn_lo h).2.1
  · rw [(rn_hi h).2, (rn_hi h).1]
theorem rn_ok : rn_P rn_p 180 := ⟨fun a b h => by rw [← rn_qp a, h, rn_qp], fun a h => (rn_hi (Nat.not_lt.mpr h)).1, fun a h => (rn_lo h).2.2, by decide⟩
def rn_op (q : Nat → Nat) : mo_Op → mo_Op
  | (t, k, j, x, r) => (t, q k, j, x, q r)
theorem mo_Ir {p q : Nat → Nat} (h1 : ∀ a, q (p a) = a) (h2 : ∀ a, p (q a) = a) : ∀ (O : List mo_Op) (a b : Nat), mo_I O (p a) b = mo_I (O.map (rn_op q)) a b
  | [], _, _ => rfl
  | (t, k, j, x, r) :: O, a, b => by
    have ih := mo_Ir h1 h2 O a b
    match t with
    | 0 =>
      show (if p a = k then 0 else mo_I O (p a) b) = if a = q k then 0 else mo_I (O.map (rn_op q)) a b
      by_cases c : a = q k
      · rw [if_pos c, if_pos (show p a = k by rw [c, h2])]
      · rw [if_neg c, if_neg (fun z => c (by rw [← z, h1])), ih]
    | 1 =>
      show (if p a = k ∧ b = j then x else mo_I O (p a) b) = if a = q k ∧ b = j then x else mo_I (O.map (rn_op q)) a b
      by_cases c : a = q k ∧ b = j
      · rw [if_pos c, if_pos ⟨show p a = k by rw [c.1, h2], c.2⟩]
      · rw [if_neg c, if_neg (fun z => c ⟨by rw [← z.1, h1], z.2⟩), ih]
    | n + 2 => exact ih
theorem mo_Lr {p q : Nat → Nat} (h1 : ∀ a, q (p a) = a) (h2 : ∀ a, p (q a) = a) : ∀ (O : List mo_Op) (a b : Nat), mo_L O (p a) b = mo_L (O.map (rn_op q)) a b
  | [], _, _ => rfl
  | (t, k, j, x, r) :: O, a, b => by
    have ih := mo_Lr h1 h2 O a b
    match t with
    | 0 =>
      show (if p a = k then 0 else mo_L O (p a) b) = if a = q k then 0 else mo_L (O.map (rn_op q)) a b
      by_cases c : a = q k
      · rw [if_pos c, if_pos (show p a = k by rw [c, h2])]
      · rw [if_neg c, if_neg (fun z => c (by rw [← z, h1])), ih]
    | 1 => exact ih
    | n + 2 => exact ih
theorem mo_Rr {p q : Nat → Nat} (h1 : ∀ a, q (p a) = a) (h2 : ∀ a, p (q a) = a) : ∀ (O : List mo_Op) (a b : Nat), mo_R O (p a) b = (mo_R (O.map (rn_op q)) a b).map p
  | [], _, _ => rfl
  | (t, k, j, x, r) :: O, a, b => by
    have ih := mo_Rr h1 h2 O a b
    match t with
    | 0 =>
      show (if p a = k then none else mo_R O (p a) b) = (if a = q k then none else mo_R (O.map (rn_op q)) a b).map p
      by_cases c : a = q k
      · rw [if_pos c, if_pos (show p a = k by rw [c, h2])]; rfl
      · rw [if_neg c, if_neg (fun z => c (by rw [← z, h1])), ih]
    | 1 => exact ih
    | n + 2 =>
      show (if p a = k ∧ b = j then some r else mo_R O (p a) b) = (if a = q k ∧ b = j then some (q r) else mo_R (O.map (rn_op q)) a b).map p
      by_cases c : a = q k ∧ b = j
      · rw [if_pos c, if_pos ⟨show p a = k by rw [c.1, h2], c.2⟩]
        show some r = some (p (q r))
        rw [h2]
      · rw [if_neg c, if_neg (fun z => c ⟨by rw [← z.1, h1], z.2⟩), ih]
theorem mi_ov : oo_450.map (rn_op rn_q) = ov_450 := by decide +kernel
theorem mi_kk : (List.range 180).all (fun x => decide (mm_kd (mm_KA.take 180) (rn_p x) = mm_kd mm_K0 x)) = true := by decide +kernel
theorem mi_kl : mm_K0.length = 180 ∧ (mm_KA.take 180).length = 180 ∧ mm_sz (mm_KA.take 180) = mm_sz mm_K0 := by decide +kernel
theorem mi_kR : rn_R rn_p 180 (mT mi_s) (mU 180 oo_450) := by
  rw [mi_fin]
  refine ⟨?_, ?_, fun x => ?_, fun x j => ?_, fun x j => ?_, fun x j => ?_, mi_kl.2.2⟩
  · show 180 ≤ mm_K0.length
    rw [mi_kl.1]
    exact Nat.le_refl _
  · show (mm_KA.take 180).length = mm_K0.length
    rw [mi_kl.1, mi_kl.2.1]
  · show mm_kd (mm_KA.take 180) (rn_p x) = mm_kd mm_K0 x
    by_cases h : x < 180
    · exact of_decide_eq_true (List.all_eq_true.mp mi_kk x (List.mem_range.mpr h))
    · rw [(rn_hi h).1, mm_kd_get, mm_kd_get, List.getElem?_eq_none (by rw [mi_kl.2.1]; omega), List.getElem?_eq_none (by rw [mi_kl.1]; omega)]
  · show mo_I oo_450 (rn_p x) j = mo_I ov_450 x j
    rw [← mi_ov]
    exact mo_Ir rn_qp rn_pq _ x j
  · show mo_L oo_450 (rn_p x) j = mo_L ov_450 x j
    rw [← mi_ov]
    exact mo_Lr rn_qp rn_pq _ x j
  · show mo_R oo_450 (rn_p x) j = (mo_R ov_450 x j).map rn_p
    rw [← mi_ov]
    exact mo_Rr rn_qp rn_pq _ x j
