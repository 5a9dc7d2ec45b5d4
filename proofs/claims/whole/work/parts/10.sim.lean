/-! EACH ROW OF THE SMALL MACHINE IS A ROW OF THE MACHINE. -/
section SIM
variable {p : Program} {l : Launch} {e : Env} {R : Room} {s : State} {m : MethodId} {args : Array Value} {below : List Frame} {meth : Method} {c : Code} {Q : State → Prop} {cc : ByteArray}
variable {g : mm_G0} {X : Nat → Nat × (Nat → Int32)} {Y : Nat → List Int32} {nL n0 s0 o : Nat} {pc : Nat} {ls : List (Option Value)} {st r : List Value} {σ : mm_S}
theorem mg_iadd (F : mm_Fx g X Y p s m args c cc nL o n0) {x y : Int32} (hd : decode cc pc = .ok (.iadd, 1))  (hk : mm_G g nL n0 s0 p l e R s m args below meth c Q (pc + 1, ls, .int (x + y) :: r, σ)) : mm_G g nL n0 s0 p l e R s m args below meth c Q (pc, ls, .int y :: .int x :: r, σ) := fun la H locs hl hH hS h1 h2 => lv_iadd F.1 F.2.1  hd  (hk la H locs hl hH hS h1 h2)
theorem mg_isub (F : mm_Fx g X Y p s m args c cc nL o n0) {x y : Int32} (hd : decode cc pc = .ok (.isub, 1))  (hk : mm_G g nL n0 s0 p l e R s m args below meth c Q (pc + 1, ls, .int (x - y) :: r, σ)) : mm_G g nL n0 s0 p l e R s m args below meth c Q (pc, ls, .int y :: .int x :: r, σ) := fun la H locs hl hH hS h1 h2 => lv_isub F.1 F.2.1  hd  (hk la H locs hl hH hS h1 h2)
theorem mg_imul (F : mm_Fx g X Y p s m args c cc nL o n0) {x y : Int32} (hd : decode cc pc = .ok (.imul, 1))  (hk : mm_G g nL n0 s0 p l e R s m args below meth c Q (pc + 1, ls, .int (x * y) :: r, σ)) : mm_G g nL n0 s0 p l e R s m args below meth c Q (pc, ls, .int y :: .int x :: r, σ) := fun la H locs hl hH hS h1 h2 => lv_imul F.1 F.2.1  hd  (hk la H locs hl hH hS h1 h2)
theorem mg_iand (F : mm_Fx g X Y p s m args c cc nL o n0) {x y : Int32} (hd : decode cc pc = .ok (.iand, 1))  (hk : mm_G g nL n0 s0 p l e R s m args below meth c Q (pc + 1, ls, .int (x &&& y) :: r, σ)) : mm_G g nL n0 s0 p l e R s m args below meth c Q (pc, ls, .int y :: .int x :: r, σ) := fun la H locs hl hH hS h1 h2 => lv_iand F.1 F.2.1  hd  (hk la H locs hl hH hS h1 h2)
theorem mg_ior (F : mm_Fx g X Y p s m args c cc nL o n0) {x y : Int32} (hd : decode cc pc = .ok (.ior, 1))  (hk : mm_G g nL n0 s0 p l e R s m args below meth c Q (pc + 1, ls, .int (x ||| y) :: r, σ)) : mm_G g nL n0 s0 p l e R s m args below meth c Q (pc, ls, .int y :: .int x :: r, σ) := fun la H locs hl hH hS h1 h2 => lv_ior F.1 F.2.1  hd  (hk la H locs hl hH hS h1 h2)
theorem mg_ishl (F : mm_Fx g X Y p s m args c cc nL o n0) {x y : Int32} (hd : decode cc pc = .ok (.ishl, 1))  (hk : mm_G g nL n0 s0 p l e R s m args below meth c Q (pc + 1, ls, .int (x <<< (y &&& 31)) :: r, σ)) : mm_G g nL n0 s0 p l e R s m args below meth c Q (pc, ls, .int y :: .int x :: r, σ) := fun la H locs hl hH hS h1 h2 => lv_ishl F.1 F.2.1  hd  (hk la H locs hl hH hS h1 h2)
theorem mg_ishr (F : mm_Fx g X Y p s m args c cc nL o n0) {x y : Int32} (hd : decode cc pc = .ok (.ishr, 1))  (hk : mm_G g nL n0 s0 p l e R s m args below meth c Q (pc + 1, ls, .int (x >>> (y &&& 31)) :: r, σ)) : mm_G g nL n0 s0 p l e R s m args below meth c Q (pc, ls, .int y :: .int x :: r, σ) := fun la H locs hl hH hS h1 h2 => lv_ishr F.1 F.2.1  hd  (hk la H locs hl hH hS h1 h2)
theorem mg_iushr (F : mm_Fx g X Y p s m args c cc nL o n0) {x y : Int32} (hd : decode cc pc = .ok (.iushr, 1))  (hk : mm_G g nL n0 s0 p l e R s m args below meth c Q (pc + 1, ls, .int (x.toUInt32 >>> (y.toUInt32 &&& Int32.toUInt32 31)).toInt32 :: r, σ)) : mm_G g nL n0 s0 p l e R s m args below meth c Q (pc, ls, .int y :: .int x :: r, σ) := fun la H locs hl hH hS h1 h2 => lv_iushr F.1 F.2.1  hd rfl (hk la H locs hl hH hS h1 h2)
theorem mg_idiv (F : mm_Fx g X Y p s m args c cc nL o n0) {x y : Int32} (hd : decode cc pc = .ok (.idiv, 1)) (hy : ¬ y = 0) (hk : mm_G g nL n0 s0 p l e R s m args below meth c Q (pc + 1, ls, .int (x / y) :: r, σ)) : mm_G g nL n0 s0 p l e R s m args below meth c Q (pc, ls, .int y :: .int x :: r, σ) := fun la H locs hl hH hS h1 h2 => lv_idiv F.1 F.2.1  hd hy (hk la H locs hl hH hS h1 h2)
theorem mg_irem (F : mm_Fx g X Y p s m args c cc nL o n0) {x y : Int32} (hd : decode cc pc = .ok (.irem, 1)) (hy : ¬ y = 0) (hk : mm_G g nL n0 s0 p l e R s m args below meth c Q (pc + 1, ls, .int (x - x / y * y) :: r, σ)) : mm_G g nL n0 s0 p l e R s m args below meth c Q (pc, ls, .int y :: .int x :: r, σ) := fun la H locs hl hH hS h1 h2 => lv_irem F.1 F.2.1  hd hy (hk la H locs hl hH hS h1 h2)
theorem mg_ladd (F : mm_Fx g X Y p s m args c cc nL o n0) {x y : Int64} (hd : decode cc pc = .ok (.ladd, 1))  (hk : mm_G g nL n0 s0 p l e R s m args below meth c Q (pc + 1, ls, .long (x + y) :: r, σ)) : mm_G g nL n0 s0 p l e R s m args below meth c Q (pc, ls, .long y :: .long x :: r, σ) := fun la H locs hl hH hS h1 h2 => lv_ladd F.1 F.2.1  hd  (hk la H locs hl hH hS h1 h2)
theorem mg_lsub (F : mm_Fx g X Y p s m args c cc nL o n0) {x y : Int64} (hd : decode cc pc = .ok (.lsub, 1))  (hk : mm_G g nL n0 s0 p l e R s m args below meth c Q (pc + 1, ls, .long (x - y) :: r, σ)) : mm_G g nL n0 s0 p l e R s m args below meth c Q (pc, ls, .long y :: .long x :: r, σ) := fun la H locs hl hH hS h1 h2 => lv_lsub F.1 F.2.1  hd  (hk la H locs hl hH hS h1 h2)
theorem mg_lmul (F : mm_Fx g X Y p s m args c cc nL o n0) {x y : Int64} (hd : decode cc pc = .ok (.lmul, 1))  (hk : mm_G g nL n0 s0 p l e R s m args below meth c Q (pc + 1, ls, .long (x * y) :: r, σ)) : mm_G g nL n0 s0 p l e R s m args below meth c Q (pc, ls, .long y :: .long x :: r, σ) := fun la H locs hl hH hS h1 h2 => lv_lmul F.1 F.2.1  hd  (hk la H locs hl hH hS h1 h2)
theorem mg_ldiv (F : mm_Fx g X Y p s m args c cc nL o n0) {x y : Int64} (hd : decode cc pc = .ok (.ldiv, 1)) (hy : ¬ y = 0) (hk : mm_G g nL n0 s0 p l e R s m args below meth c Q (pc + 1, ls, .long (x / y) :: r, σ)) : mm_G g nL n0 s0 p l e R s m args below meth c Q (pc, ls, .long y :: .long x :: r, σ) := fun la H locs hl hH hS h1 h2 => lv_ldiv F.1 F.2.1  hd hy (hk la H locs hl hH hS h1 h2)
theorem mg_lrem (F : mm_Fx g X Y p s m args c cc nL o n0) {x y : Int64} (hd : decode cc pc = .ok (.lrem, 1)) (hy : ¬ y = 0) (hk : mm_G g nL n0 s0 p l e R s m args below meth c Q (pc + 1, ls, .long (x - x / y * y) :: r, σ)) : mm_G g nL n0 s0 p l e R s m args below meth c Q (pc, ls, .long y :: .long x :: r, σ) := fun la H locs hl hH hS h1 h2 => lv_lrem F.1 F.2.1  hd hy (hk la H locs hl hH hS h1 h2)
theorem mg_lcmp (F : mm_Fx g X Y p s m args c cc nL o n0) {x y : Int64} (hd : decode cc pc = .ok (.lcmp, 1))  (hk : mm_G g nL n0 s0 p l e R s m args below meth c Q (pc + 1, ls, .int (lg_cmp x y) :: r, σ)) : mm_G g nL n0 s0 p l e R s m args below meth c Q (pc, ls, .long y :: .long x :: r, σ) := fun la H locs hl hH hS h1 h2 => W.lcmp F.1 F.2.1  hd  (hk la H locs hl hH hS h1 h2)
theorem mg_i2l (F : mm_Fx g X Y p s m args c cc nL o n0) {x : Int32} (hd : decode cc pc = .ok (.i2l, 1))  (hk : mm_G g nL n0 s0 p l e R s m args below meth c Q (pc + 1, ls, .long x.toInt64 :: r, σ)) : mm_G g nL n0 s0 p l e R s m args below meth c Q (pc, ls, .int x :: r, σ) := fun la H locs hl hH hS h1 h2 => lv_i2l F.1 F.2.1  hd rfl (hk la H locs hl hH hS h1 h2)
theorem mg_l2i (F : mm_Fx g X Y p s m args c cc nL o n0) {x : Int64} (hd : decode cc pc = .ok (.l2i, 1))  (hk : mm_G g nL n0 s0 p l e R s m args below meth c Q (pc + 1, ls, .int x.toInt32 :: r, σ)) : mm_G g nL n0 s0 p l e R s m args below meth c Q (pc, ls, .long x :: r, σ) := fun la H locs hl hH hS h1 h2 => lv_l2i F.1 F.2.1  hd rfl (hk la H locs hl hH hS h1 h2)
theorem mg_dupi (F : mm_Fx g X Y p s m args c cc nL o n0) {x : Int32} (hd : decode cc pc = .ok (.dup, 1))  (hk : mm_G g nL n0 s0 p l e R s m args below meth c Q (pc + 1, ls, .int x :: .int x :: r, σ)) : mm_G g nL n0 s0 p l e R s m args below meth c Q (pc, ls, .int x :: r, σ) := fun la H locs hl hH hS h1 h2 => lv_dup F.1 F.2.1  hd rfl (hk la H locs hl hH hS h1 h2)
theorem mg_dupr (F : mm_Fx g X Y p s m args c cc nL o n0) {x : Nat} (hd : decode cc pc = .ok (.dup, 1))  (hk : mm_G g nL n0 s0 p l e R s m args below meth c Q (pc + 1, ls, .ref x :: .ref x :: r, σ)) : mm_G g nL n0 s0 p l e R s m args below meth c Q (pc, ls, .ref x :: r, σ) := fun la H locs hl hH hS h1 h2 => lv_dup F.1 F.2.1  hd rfl (hk la H locs hl hH hS h1 h2)
theorem mg_dup2 (F : mm_Fx g X Y p s m args c cc nL o n0) {y : Int32} {x : Nat} (hd : decode cc pc = .ok (.dup2, 1))  (hk : mm_G g nL n0 s0 p l e R s m args below meth c Q (pc + 1, ls, .int y :: .ref x :: .int y :: .ref x :: r, σ)) : mm_G g nL n0 s0 p l e R s m args below meth c Q (pc, ls, .int y :: .ref x :: r, σ) := fun la H locs hl hH hS h1 h2 => lv_dup2_11 F.1 F.2.1  hd rfl rfl (hk la H locs hl hH hS h1 h2)
theorem mg_dup_x1 (F : mm_Fx g X Y p s m args c cc nL o n0) {y : Int32} {x : Nat} (hd : decode cc pc = .ok (.dup_x1, 1))  (hk : mm_G g nL n0 s0 p l e R s m args below meth c Q (pc + 1, ls, .int y :: .ref x :: .int y :: r, σ)) : mm_G g nL n0 s0 p l e R s m args below meth c Q (pc, ls, .int y :: .ref x :: r, σ) := fun la H locs hl hH hS h1 h2 => lv_dup_x1 F.1 F.2.1  hd rfl rfl (hk la H locs hl hH hS h1 h2)
theorem mg_pop (F : mm_Fx g X Y p s m args c cc nL o n0) {y : Int32} (hd : decode cc pc = .ok (.pop, 1))  (hk : mm_G g nL n0 s0 p l e R s m args below meth c Q (pc + 1, ls, r, σ)) : mm_G g nL n0 s0 p l e R s m args below meth c Q (pc, ls, .int y :: r, σ) := fun la H locs hl hH hS h1 h2 => lv_pop F.1 F.2.1  hd rfl (hk la H locs hl hH hS h1 h2)
theorem mg_iconst (F : mm_Fx g X Y p s m args c cc nL o n0) {n : Int} {v : Value} (hd : decode cc pc = .ok (.iconst n, 1)) (hv : v = .int (Int32.ofInt n)) (hk : mm_G g nL n0 s0 p l e R s m args below meth c Q (pc + 1, ls, v :: r, σ)) : mm_G g nL n0 s0 p l e R s m args below meth c Q (pc, ls, r, σ) := by
  subst hv
  exact fun la H locs hl hH hS h1 h2 => lv_iconst F.1 F.2.1  hd rfl (hk la H locs hl hH hS h1 h2)
theorem mg_bipush (F : mm_Fx g X Y p s m args c cc nL o n0) {n : Int} {v : Value} (hd : decode cc pc = .ok (.bipush n, 2)) (hv : v = .int (Int8.ofInt n).toInt32) (hk : mm_G g nL n0 s0 p l e R s m args below meth c Q (pc + 2, ls, v :: r, σ)) : mm_G g nL n0 s0 p l e R s m args below meth c Q (pc, ls, r, σ) := by
  subst hv
  exact fun la H locs hl hH hS h1 h2 => lv_bipush F.1 F.2.1  hd rfl (hk la H locs hl hH hS h1 h2)
theorem mg_sipush (F : mm_Fx g X Y p s m args c cc nL o n0) {n : Int} {v : Value} (hd : decode cc pc = .ok (.sipush n, 3)) (hv : v = .int (Int16.ofInt n).toInt32) (hk : mm_G g nL n0 s0 p l e R s m args below meth c Q (pc + 3, ls, v :: r, σ)) : mm_G g nL n0 s0 p l e R s m args below meth c Q (pc, ls, r, σ) := by
  subst hv
  exact fun la H locs hl hH hS h1 h2 => lv_sipush F.1 F.2.1  hd rfl (hk la H locs hl hH hS h1 h2)
theorem mg_lconst (F : mm_Fx g X Y p s m args c cc nL o n0) {n : Fin 2} {v : Value} (hd : decode cc pc = .ok (.lconst n, 1)) (hv : v = .long (Int64.ofNat n)) (hk : mm_G g nL n0 s0 p l e R s m args below meth c Q (pc + 1, ls, v :: r, σ)) : mm_G g nL n0 s0 p l e R s m args below meth c Q (pc, ls, r, σ) := by
  subst hv
  exact fun la H locs hl hH hS h1 h2 => lv_lconst F.1 F.2.1  hd rfl (hk la H locs hl hH hS h1 h2)
theorem mg_iload (F : mm_Fx g X Y p s m args c cc nL o n0) {i : Nat} {x : Int32} (hd : decode cc pc = .ok (.iload i, 2)) (hg : mm_get ls i = some (.int x)) (hk : mm_G g nL n0 s0 p l e R s m args below meth c Q (pc + 2, ls, .int x :: st, σ)) : mm_G g nL n0 s0 p l e R s m args below meth c Q (pc, ls, st, σ) := fun la H locs hl hH hS h1 h2 => lv_iload F.1 F.2.1 hd (hl.2.2 i _ hg) (hk la H locs hl hH hS h1 h2)
theorem mg_iload_n (F : mm_Fx g X Y p s m args c cc nL o n0) {i : Fin 4} {t : Nat} {x : Int32} (hd : decode cc pc = .ok (.iload_n i, 1)) (ht : t = i.val) (hg : mm_get ls t = some (.int x)) (hk : mm_G g nL n0 s0 p l e R s m args below meth c Q (pc + 1, ls, .int x :: st, σ)) : mm_G g nL n0 s0 p l e R s m args below meth c Q (pc, ls, st, σ) := fun la H locs hl hH hS h1 h2 => lv_iload_n F.1 F.2.1 hd ht.symm (hl.2.2 t _ hg) (hk la H locs hl hH hS h1 h2)
theorem mg_lload (F : mm_Fx g X Y p s m args c cc nL o n0) {i : Nat} {x : Int64} (hd : decode cc pc = .ok (.lload i, 2)) (hg : mm_get ls i = some (.long x)) (hk : mm_G g nL n0 s0 p l e R s m args below meth c Q (pc + 2, ls, .long x :: st, σ)) : mm_G g nL n0 s0 p l e R s m args below meth c Q (pc, ls, st, σ) := fun la H locs hl hH hS h1 h2 => lv_lload F.1 F.2.1 hd (hl.2.2 i _ hg) (hk la H locs hl hH hS h1 h2)
theorem mg_lload_n (F : mm_Fx g X Y p s m args c cc nL o n0) {i : Fin 4} {t : Nat} {x : Int64} (hd : decode cc pc = .ok (.lload_n i, 1)) (ht : t = i.val) (hg : mm_get ls t = some (.long x)) (hk : mm_G g nL n0 s0 p l e R s m args below meth c Q (pc + 1, ls, .long x :: st, σ)) : mm_G g nL n0 s0 p l e R s m args below meth c Q (pc, ls, st, σ) := fun la H locs hl hH hS h1 h2 => lv_lload_n F.1 F.2.1 hd ht.symm (hl.2.2 t _ hg) (hk la H locs hl hH hS h1 h2)
theorem mg_aload (F : mm_Fx g X Y p s m args c cc nL o n0) {i : Nat} {x : Nat} (hd : decode cc pc = .ok (.aload i, 2)) (hg : mm_get ls i = some (.ref x)) (hk : mm_G g nL n0 s0 p l e R s m args below meth c Q (pc + 2, ls, .ref x :: st, σ)) : mm_G g nL n0 s0 p l e R s m args below meth c Q (pc, ls, st, σ) := fun la H locs hl hH hS h1 h2 => lv_aload F.1 F.2.1 hd (hl.2.2 i _ hg) (hk la H locs hl hH hS h1 h2)
theorem mg_aload_n (F : mm_Fx g X Y p s m args c cc nL o n0) {i : Fin 4} {t : Nat} {x : Nat} (hd : decode cc pc = .ok (.aload_n i, 1)) (ht : t = i.val) (hg : mm_get ls t = some (.ref x)) (hk : mm_G g nL n0 s0 p l e R s m args below meth c Q (pc + 1, ls, .ref x :: st, σ)) : mm_G g nL n0 s0 p l e R s m args below meth c Q (pc, ls, st, σ) := fun la H locs hl hH hS h1 h2 => lv_aload_n F.1 F.2.1 hd ht.symm (hl.2.2 t _ hg) (hk la H locs hl hH hS h1 h2)
theorem mg_istore (F : mm_Fx g X Y p s m args c cc nL o n0) {i : Nat} {x : Int32} (hd : decode cc pc = .ok (.istore i, 2)) (hi : i < nL) (hk : mm_G g nL n0 s0 p l e R s m args below meth c Q (pc + 2, mm_set1 ls i (.int x), r, σ)) : mm_G g nL n0 s0 p l e R s m args below meth c Q (pc, ls, .int x :: r, σ) := fun la H locs hl hH hS h1 h2 => lv_istore F.1 F.2.1 hd hl.has hi rfl (fun ls2 h => hk ls2 H locs (mm_L.st1 (v := .int x) h) hH hS h1 h2)
theorem mg_istore_n (F : mm_Fx g X Y p s m args c cc nL o n0) {i : Fin 4} {t : Nat} {x : Int32} (hd : decode cc pc = .ok (.istore_n i, 1)) (ht : t = i.val) (hi : t < nL) (hk : mm_G g nL n0 s0 p l e R s m args below meth c Q (pc + 1, mm_set1 ls t (.int x), r, σ)) : mm_G g nL n0 s0 p l e R s m args below meth c Q (pc, ls, .int x :: r, σ) := fun la H locs hl hH hS h1 h2 => lv_istore_n F.1 F.2.1 hd ht.symm hl.has hi rfl (fun ls2 h => hk ls2 H locs (mm_L.st1 (v := .int x) h) hH hS h1 h2)
theorem mg_lstore (F : mm_Fx g X Y p s m args c cc nL o n0) {i : Nat} {x : Int64} (hd : decode cc pc = .ok (.lstore i, 2)) (hi : i + 1 < nL) (hk : mm_G g nL n0 s0 p l e R s m args below meth c Q (pc + 2, mm_set2 ls i (.long x), r, σ)) : mm_G g nL n0 s0 p l e R s m args below meth c Q (pc, ls, .long x :: r, σ) := fun la H locs hl hH hS h1 h2 => lv_lstore F.1 F.2.1 hd hl.has hi rfl (fun ls2 h => hk ls2 H locs (mm_L.st2 (v := .long x) h) hH hS h1 h2)
theorem mg_lstore_n (F : mm_Fx g X Y p s m args c cc nL o n0) {i : Fin 4} {t : Nat} {x : Int64} (hd : decode cc pc = .ok (.lstore_n i, 1)) (ht : t = i.val) (hi : t + 1 < nL) (hk : mm_G g nL n0 s0 p l e R s m args below meth c Q (pc + 1, mm_set2 ls t (.long x), r, σ)) : mm_G g nL n0 s0 p l e R s m args below meth c Q (pc, ls, .long x :: r, σ) := fun la H locs hl hH hS h1 h2 => lv_lstore_n F.1 F.2.1 hd ht.symm hl.has hi rfl (fun ls2 h => hk ls2 H locs (mm_L.st2 (v := .long x) h) hH hS h1 h2)
theorem mg_astore (F : mm_Fx g X Y p s m args c cc nL o n0) {i : Nat} {x : Nat} (hd : decode cc pc = .ok (.astore i, 2)) (hi : i < nL) (hk : mm_G g nL n0 s0 p l e R s m args below meth c Q (pc + 2, mm_set1 ls i (.ref x), r, σ)) : mm_G g nL n0 s0 p l e R s m args below meth c Q (pc, ls, .ref x :: r, σ) := fun la H locs hl hH hS h1 h2 => lv_astore F.1 F.2.1 hd hl.has hi rfl (fun ls2 h => hk ls2 H locs (mm_L.st1 (v := .ref x) h) hH hS h1 h2)
theorem mg_astore_n (F : mm_Fx g X Y p s m args c cc nL o n0) {i : Fin 4} {t : Nat} {x : Nat} (hd : decode cc pc = .ok (.astore_n i, 1)) (ht : t = i.val) (hi : t < nL) (hk : mm_G g nL n0 s0 p l e R s m args below meth c Q (pc + 1, mm_set1 ls t (.ref x), r, σ)) : mm_G g nL n0 s0 p l e R s m args below meth c Q (pc, ls, .ref x :: r, σ) := fun la H locs hl hH hS h1 h2 => lv_astore_n F.1 F.2.1 hd ht.symm hl.has hi rfl (fun ls2 h => hk ls2 H locs (mm_L.st1 (v := .ref x) h) hH hS h1 h2)
theorem mg_iinc (F : mm_Fx g X Y p s m args c cc nL o n0) {i : Nat} {n : Int} {x : Int32} (hd : decode cc pc = .ok (.iinc i n, 3)) (hi : i < nL) (hg : mm_get ls i = some (.int x)) (hk : mm_G g nL n0 s0 p l e R s m args below meth c Q (pc + 3, mm_set1 ls i (.int (x + Int32.ofInt n)), st, σ)) : mm_G g nL n0 s0 p l e R s m args below meth c Q (pc, ls, st, σ) := by
  intro la H locs hl hH hS h1 h2
  have hm : (i, Value.int x) ∈ mm_alF g 0 ls := (mm_alF_mem g ls 0 i _).mpr ⟨i, .int x, hg, by omega, rfl⟩
  obtain ⟨k, hk2⟩ := List.getElem?_of_mem hm
  exact lv_iinc F.1 F.2.1 hd hl.has hk2 rfl hi rfl (fun ls2 h => hk ls2 H locs (mm_L.st1 (v := .int (x + Int32.ofInt n)) h) hH hS h1 h2)
theorem mg_goto (F : mm_Fx g X Y p s m args c cc nL o n0) {off : Int} {t : Nat} (hd : decode cc pc = .ok (.goto off, 3)) (ht : (pc : Int) + off = (t : Int)) (hk : mm_G g nL n0 s0 p l e R s m args below meth c Q (t, ls, st, σ)) : mm_G g nL n0 s0 p l e R s m args below meth c Q (pc, ls, st, σ) := fun la H locs hl hH hS h1 h2 => lv_goto F.1 F.2.1 hd ht (hk la H locs hl hH hS h1 h2)
theorem mg_ifc (F : mm_Fx g X Y p s m args c cc nL o n0) {cd : ClassFile.Cond} {off : Int} {t : Nat} {x y : Int32} (hd : decode cc pc = .ok (.ifCond cd off, 3)) (ht : (pc : Int) + off = (t : Int)) (hk : mm_G g nL n0 s0 p l e R s m args below meth c Q (mm_bc cd x 0 t (pc + 3), ls, r, σ)) : mm_G g nL n0 s0 p l e R s m args below meth c Q (pc, ls, .int x :: r, σ) := by
  intro la H locs hl hH hS h1 h2
  have hw := hk la H locs hl hH hS h1 h2
  cases cd with
  | eq => exact lv_if_eq F.1 F.2.1 hd ht (fun z => by rw [mm_bc, if_pos z] at hw; exact hw) (fun z => by rw [mm_bc, if_neg z] at hw; exact hw)
  | ne => exact lv_if_ne F.1 F.2.1 hd ht (fun z => by rw [mm_bc, if_neg z] at hw; exact hw) (fun z => by rw [mm_bc, if_pos z] at hw; exact hw)
  | lt => exact lv_if_lt F.1 F.2.1 hd ht (fun z => by rw [mm_bc, if_pos z] at hw; exact hw) (fun z => by rw [mm_bc, if_neg z] at hw; exact hw)
  | ge => exact lv_if_ge F.1 F.2.1 hd ht (fun z => by rw [mm_bc, if_pos z] at hw; exact hw) (fun z => by rw [mm_bc, if_neg z] at hw; exact hw)
  | gt => exact lv_if_gt F.1 F.2.1 hd ht (fun z => by rw [mm_bc, if_pos z] at hw; exact hw) (fun z => by rw [mm_bc, if_neg z] at hw; exact hw)
  | le => exact lv_if_le F.1 F.2.1 hd ht (fun z => by rw [mm_bc, if_pos z] at hw; exact hw) (fun z => by rw [mm_bc, if_neg z] at hw; exact hw)
theorem mg_icmp (F : mm_Fx g X Y p s m args c cc nL o n0) {cd : ClassFile.Cond} {off : Int} {t : Nat} {x y : Int32} (hd : decode cc pc = .ok (.if_icmp cd off, 3)) (ht : (pc : Int) + off = (t : Int)) (hk : mm_G g nL n0 s0 p l e R s m args below meth c Q (mm_bc cd x y t (pc + 3), ls, r, σ)) : mm_G g nL n0 s0 p l e R s m args below meth c Q (pc, ls, .int y :: .int x :: r, σ) := by
  intro la H locs hl hH hS h1 h2
  have hw := hk la H locs hl hH hS h1 h2
  cases cd with
  | eq => exact lv_icmp_eq F.1 F.2.1 hd ht (fun z => by rw [mm_bc, if_pos z] at hw; exact hw) (fun z => by rw [mm_bc, if_neg z] at hw; exact hw)
  | ne => exact lv_icmp_ne F.1 F.2.1 hd ht (fun z => by rw [mm_bc, if_neg z] at hw; exact hw) (fun z => by rw [mm_bc, if_pos z] at hw; exact hw)
  | lt => exact lv_icmp_lt F.1 F.2.1 hd ht (fun z => by rw [mm_bc, if_pos z] at hw; exact hw) (fun z => by rw [mm_bc, if_neg z] at hw; exact hw)
  | ge => exact lv_icmp_ge F.1 F.2.1 hd ht (fun z => by rw [mm_bc, if_pos z] at hw; exact hw) (fun z => by rw [mm_bc, if_neg z] at hw; exact hw)
  | gt => exact lv_icmp_gt F.1 F.2.1 hd ht (fun z => by rw [mm_bc, if_pos z] at hw; exact hw) (fun z => by rw [mm_bc, if_neg z] at hw; exact hw)
  | le => exact lv_icmp_le F.1 F.2.1 hd ht (fun z => by rw [mm_bc, if_pos z] at hw; exact hw) (fun z => by rw [mm_bc, if_neg z] at hw; exact hw)
theorem mm_any {α : Type} {l : List (List α)} {o : Nat} {f : α → Bool} (h : (l.getD o []).any f = true) : ∃ x, (o, x) ∈ mm_rows l ∧ f x = true := by
  obtain ⟨x, hx, hf⟩ := List.any_eq_true.mp h
  refine ⟨x, ?_, hf⟩
  have key : ∀ (l : List (List α)) (n o : Nat), x ∈ l.getD o [] → ∃ q ∈ mm_ix n l, q.1 = n + o ∧ x ∈ q.2 := by
    intro l
    induction l with
    | nil => intro n o hx; simp at hx
    | cons a r ih =>
      intro n o hx
      cases o with
      | zero => exact ⟨(n, a), List.mem_cons_self, rfl, by simpa using hx⟩
      | succ o =>
        obtain ⟨q, h1, h2, h3⟩ := ih (n + 1) o (by simpa using hx)
        exact ⟨q, List.mem_cons_of_mem _ h1, by omega, h3⟩
  obtain ⟨q, h1, h2, h3⟩ := key l 0 o hx
  rw [Nat.zero_add] at h2
  exact List.mem_flatMap.mpr ⟨q, h1, List.mem_map.mpr ⟨x, h3, by rw [h2]⟩⟩
theorem mm_beq {a b : Nat} (h : Nat.beq a b = true) : a = b := Nat.eq_of_beq_eq_true h
theorem mm_ci_use {o i : Nat} {x : Int32} (h : mm_cok o i (.int x) = true) : Cond.constant (mm_own o) i x ∈ mm_ALL := by
  obtain ⟨q, h1, h2⟩ := mm_any h
  have h3 := List.all_eq_true.mp mm_ci_ok _ h1
  rw [Bool.and_eq_true] at h2
  have e1 := mm_beq h2.1
  have e2 := of_decide_eq_true h2.2
  have h4 := of_decide_eq_true h3
  rw [← e1, ← e2]
  exact mm_all_of h4 rfl
theorem mm_cj_use {o i : Nat} {x : Int64} (h : mm_cok o i (.long x) = true) : Cond.constantLong (mm_own o) i x ∈ mm_ALL := by
  obtain ⟨q, h1, h2⟩ := mm_any h
  have h3 := List.all_eq_true.mp mm_cj_ok _ h1
  rw [Bool.and_eq_true] at h2
  have e1 := mm_beq h2.1
  have e2 := of_decide_eq_true h2.2
  have h4 := of_decide_eq_true h3
  rw [← e1, ← e2]
  exact mm_all_of h4 rfl
theorem mm_sr_use {o i x : Nat} (h : mm_cok o i (.ref x) = true) : ∃ j, x = 2000000 + j ∧ ∃ q ∈ mm_rows mm_SRs, q.1 = o ∧ q.2.1 = i ∧ q.2.2.1 = j := by
  have h' : (Nat.ble 2000000 x && (mm_SRs.getD o []).any (fun q => Nat.beq q.1 i && Nat.beq (q.2.1 + 2000000) x)) = true := h
  rw [Bool.and_eq_true] at h'
  obtain ⟨q, h1, h2⟩ := mm_any h'.2
  rw [Bool.and_eq_true] at h2
  have e1 := mm_beq h2.1
  have e2 := mm_beq h2.2
  exact ⟨q.2.1, by omega, (o, q), h1, rfl, e1, rfl⟩
theorem mm_ldcW {p : Program} {l : Launch} {e : Env} {R : Room} {s : State} {m : MethodId} {args : Array Value} {below : List Frame} {meth : Method} {c : Code} {H : Heap} {locs : List Loc} {cells slots : Nat} {Q : State → Prop} {cc : ByteArray} {pc : Nat} {ls : Array Slot} {rest : List Value} (hexec : p.tables.exec = Jvm.exec) (hb : c.code = cc) {own tx : String} {index q : Nat} (hown : s.vm.findClass own = some m.cls) (hZ : vk_R own index tx q s) (hdg : decode cc pc = .ok (.ldc_w index, 3))
    (k : W p l e R s m args below meth c H locs cells slots Q (F0 m (pc + 3) ls (.ref q :: rest))) : W p l e R s m args below meth c H locs cells slots Q (F0 m pc ls rest) := by
  intro T hT X
  obtain ⟨t, a1, b1⟩ := k T hT X
  refine ⟨t, ?_, b1⟩
  obtain ⟨kc, cf, i, a', hk, hcf, hcp, -, hr, hev'⟩ := Cond.stringRef_spec hown hZ.1
  cases hZ.2.symm.trans hev'
  obtain ⟨k', hk', he⟩ := X.warmed.alike.2.2 _ _ hk
  have hr' : k'.resolved[index]? = some (some (.string q)) := by
    rcases X.warmed.entry hk hk' index with h | ⟨h, -⟩
    · rw [h]; exact hr
    · rw [hr] at h; cases h
  have hd2 : decode c.code (F0 m pc ls rest).pc = .ok (.ldc_w index, 3) := by rw [hb]; exact hdg
  have hm : (F0 m pc ls rest).method = m := rfl
  jvm_step X.here [hexec, hd2, ldc_w.wp_string (e := e) (s := T) (f := F0 m pc ls rest) X.here.top hk' (by rw [he]; exact hcf) hcp hr']
  exact a1
theorem mg_ldc (F : mm_Fx g X Y p s m args c cc nL o n0) {i : Nat} {v : Value} (hd : decode cc pc = .ok (.ldc i, 2)) (hv : mm_cok o i v = true) (hn : ∀ x, v ≠ .long x) (hk : mm_G g nL n0 s0 p l e R s m args below meth c Q (pc + 2, ls, v :: st, σ)) : mm_G g nL n0 s0 p l e R s m args below meth c Q (pc, ls, st, σ) := by
  intro la H locs hl hH hS h1 h2
  have hw := hk la H locs hl hH hS h1 h2
  cases v with
  | int x => exact lv_ldc F.1 F.2.1 F.2.2.2.1 (F.2.2.2.2.1 _ (mm_ci_use hv)) hd hw
  | ref x =>
    obtain ⟨j, rfl, q, hq, e1, e2, e3⟩ := mm_sr_use hv
    have hR := F.2.2.2.2.2.1.2.2.2.2.2.2.1 q hq
    rw [e1, e2, e3] at hR
    refine va_ldcS F.1 F.2.1 F.2.2.2.1 hR hd ?_
    have e4 : mm_vv g (.ref (2000000 + j)) = .ref (mm_ex g (2000000 + j)) := by simp only [mm_vv, mm_ad]; rw [if_neg (by omega)]
    simp only [List.map_cons, e4] at hw
    exact hw
  | long x => exact absurd rfl (hn x)
  | _ => cases hv
theorem mg_ldc_w (F : mm_Fx g X Y p s m args c cc nL o n0) {i : Nat} {v : Value} (hd : decode cc pc = .ok (.ldc_w i, 3)) (hv : mm_cok o i v = true) (hn : ∀ x, v ≠ .long x) (hk : mm_G g nL n0 s0 p l e R s m args below meth c Q (pc + 3, ls, v :: st, σ)) : mm_G g nL n0 s0 p l e R s m args below meth c Q (pc, ls, st, σ) := by
  intro la H locs hl hH hS h1 h2
  have hw := hk la H locs hl hH hS h1 h2
  cases v with
  | int x => exact lv_ldcw F.1 F.2.1 F.2.2.2.1 (F.2.2.2.2.1 _ (mm_ci_use hv)) hd hw
  | ref x =>
    obtain ⟨j, rfl, q, hq, e1, e2, e3⟩ := mm_sr_use hv
    have hR := F.2.2.2.2.2.1.2.2.2.2.2.2.1 q hq
    rw [e1, e2, e3] at hR
    refine mm_ldcW F.1 F.2.1 F.2.2.2.1 hR hd ?_
    have e4 : mm_vv g (.ref (2000000 + j)) = .ref (mm_ex g (2000000 + j)) := by simp only [mm_vv, mm_ad]; rw [if_neg (by omega)]
    simp only [List.map_cons, e4] at hw
    exact hw
  | long x => exact absurd rfl (hn x)
  | _ => cases hv
theorem mg_ldc2_w (F : mm_Fx g X Y p s m args c cc nL o n0) {i : Nat} {x : Int64} (hd : decode cc pc = .ok (.ldc2_w i, 3)) (hv : mm_cok o i (.long x) = true) (hk : mm_G g nL n0 s0 p l e R s m args below meth c Q (pc + 3, ls, .long x :: st, σ)) : mm_G g nL n0 s0 p l e R s m args below meth c Q (pc, ls, st, σ) := fun la H locs hl hH hS h1 h2 => lv_ldc2 F.1 F.2.1 F.2.2.2.1 (F.2.2.2.2.1 _ (mm_cj_use hv)) hd (hk la H locs hl hH hS h1 h2)
theorem mg_getstatic (F : mm_Fx g X Y p s m args c cc nL o n0) (ho : o = 2) (hd : decode cc pc = .ok (.getstatic 54, 3)) (hk : mm_G g nL n0 s0 p l e R s m args below meth c Q (pc + 3, ls, .ref 1000000 :: st, σ)) : mm_G g nL n0 s0 p l e R s m args below meth c Q (pc, ls, st, σ) := by
  intro la H locs hl hH hS h1 h2
  have hw := hk la H locs hl hH hS h1 h2
  have hown := F.2.2.2.1
  rw [ho] at hown
  exact va_gets F.1 F.2.1 F.2.2.2.2.2.1.2.2.2.1 hS hown (F.2.2.2.2.1 _ (mm_all_of mm_gs_ok rfl)) (fun x h => h) hd hw
end SIM
