/-! FUNCTIONS OF METHODS, by program: f_ what it does, ok_ that no row fails, m_ the small machine does so. -/
def lp_M_step_6  : Nat → Int32 → mS → Int32 × mS
  | 0, v1, s => (v1, s)
  | n + 1, v1, s => (if (gI s 116 7) ≤ v1 then (v1, s) else (lp_M_step_6 n (v1 + 1) (sI s 147 (ix v1) (gI s 128 (ix v1)))))
def okl_M_step_6  : Nat → Int32 → mS → Prop
  | 0, v1, s => False
  | n + 1, v1, s => (if (gI s 116 7) ≤ v1 then True else (mm_inb v1 16 = true ∧ (mm_inb v1 16 = true ∧ (okl_M_step_6 n (v1 + 1) (sI s 147 (ix v1) (gI s 128 (ix v1)))))))
set_option maxRecDepth 4000 in
theorem tl_M_step_6 {len : Nat} {xs : Nat → Int32}  (d : Nat)   {T : Option mm_R} (K : Int32 × mS → Prop) (hX : ∀ r, K r → ∀ (o2 : Option Value) (o3 : Option Value) (o4 : Option Value) (o5 : Option Value), mm_fix (mm_X len xs) mm_Y (mm_call (mm_X len xs) mm_Y (d + 5)) (mm_look mc_M_step) (32, [some (.ref 116), some (.int r.1), o2, o3, o4, o5], [], mT r.2) = T) : ∀ (n : Nat), ∀ (v1 : Int32) (o2 : Option Value) (o3 : Option Value) (o4 : Option Value) (o5 : Option Value) (s : mS), okl_M_step_6 n v1 s → K (lp_M_step_6 n v1 s) → mm_fix (mm_X len xs) mm_Y (mm_call (mm_X len xs) mm_Y (d + 5)) (mm_look mc_M_step) (6, [some (.ref 116), some (.int v1), o2, o3, o4, o5], [], mT s) = T := by
  intro n
  induction n with
  | zero => intro v1 o2 o3 o4 o5 s; exact fun h => h.elim
  | succ n ih =>
    intro v1 o2 o3 o4 o5 s
    rw [okl_M_step_6, lp_M_step_6]
    refine w_go K 3 (c' := (11, [some (.ref 116), some (.int v1), o2, o3, o4, o5], [.int (gI s 116 7), .int v1], mT s)) rfl ?_
    refine w_ige K rfl (fun _ => ?_) (fun _ => ?_)
    · refine w_go K 0 (c' := (32, [some (.ref 116), some (.int v1), o2, o3, o4, o5], [], mT s)) rfl ?_
      exact fun _ b => hX _ b _ _ _ _
    · refine w_go K 6 (c' := (24, [some (.ref 116), some (.int v1), o2, o3, o4, o5], [.int v1, .ref 128, .int v1, .ref 147], mT s)) rfl ?_
      refine w_ck K (st_iL rfl rfl) ?_
      refine w_go K 0 (c' := (25, [some (.ref 116), some (.int v1), o2, o3, o4, o5], [.int (gI s 128 (ix v1)), .int v1, .ref 147], mT s)) rfl ?_
      refine w_ck K (st_iS rfl rfl) ?_
      refine w_go K 2 (c' := (6, [some (.ref 116), some (.int (v1 + 1)), o2, o3, o4, o5], [], mT (sI s 147 (ix v1) (gI s 128 (ix v1))))) rfl ?_
      exact fun a b => ih (v1 + 1) _ _ _ _ (sI s 147 (ix v1) (gI s 128 (ix v1))) a b
def lp_M_step_57 (s : mS) : Nat → Int32 → Int32 → Int32 × Int32
  | 0, v1, v2 => (v1, v2)
  | n + 1, v1, v2 => (if (gI s 116 8) ≤ v2 then (v1, v2) else (lp_M_step_57 s n (v1 + (gI s 143 (ix v2))) (v2 + 1)))
def okl_M_step_57 (s : mS) : Nat → Int32 → Int32 → Prop
  | 0, v1, v2 => False
  | n + 1, v1, v2 => (if (gI s 116 8) ≤ v2 then True else (mm_inb v2 40 = true ∧ (okl_M_step_57 s n (v1 + (gI s 143 (ix v2))) (v2 + 1))))
set_option maxRecDepth 4000 in
theorem tl_M_step_57 {len : Nat} {xs : Nat → Int32}  (d : Nat)  (s : mS) {T : Option mm_R} (K : Int32 × Int32 → Prop) (hX : ∀ r, K r → ∀ (o3 : Option Value) (o4 : Option Value) (o5 : Option Value), mm_fix (mm_X len xs) mm_Y (mm_call (mm_X len xs) mm_Y (d + 5)) (mm_look mc_M_step) (80, [some (.ref 116), some (.int r.1), some (.int r.2), o3, o4, o5], [], mT s) = T) : ∀ (n : Nat), ∀ (v1 : Int32) (v2 : Int32) (o3 : Option Value) (o4 : Option Value) (o5 : Option Value), okl_M_step_57 s n v1 v2 → K (lp_M_step_57 s n v1 v2) → mm_fix (mm_X len xs) mm_Y (mm_call (mm_X len xs) mm_Y (d + 5)) (mm_look mc_M_step) (57, [some (.ref 116), some (.int v1), some (.int v2), o3, o4, o5], [], mT s) = T := by
  intro n
  induction n with
  | zero => intro v1 v2 o3 o4 o5; exact fun h => h.elim
  | succ n ih =>
    intro v1 v2 o3 o4 o5
    rw [okl_M_step_57, lp_M_step_57]
    refine w_go K 3 (c' := (62, [some (.ref 116), some (.int v1), some (.int v2), o3, o4, o5], [.int (gI s 116 8), .int v2], mT s)) rfl ?_
    refine w_ige K rfl (fun _ => ?_) (fun _ => ?_)
    · refine w_go K 0 (c' := (80, [some (.ref 116), some (.int v1), some (.int v2), o3, o4, o5], [], mT s)) rfl ?_
      exact fun _ b => hX _ b _ _ _
    · refine w_go K 4 (c' := (71, [some (.ref 116), some (.int v1), some (.int v2), o3, o4, o5], [.int v2, .ref 143, .int v1], mT s)) rfl ?_
      refine w_ck K (st_iL rfl rfl) ?_
      refine w_go K 4 (c' := (57, [some (.ref 116), some (.int (v1 + (gI s 143 (ix v2)))), some (.int (v2 + 1)), o3, o4, o5], [], mT s)) rfl ?_
      exact fun a b => ih (v1 + (gI s 143 (ix v2))) (v2 + 1) _ _ _ a b
def lp_M_step_120 (a1 : Int32) : Nat → Int32 → mS → Int32 × mS
  | 0, v2, s => (v2, s)
  | n + 1, v2, s => (if (gI s 116 8) ≤ v2 then (v2, s) else (mq_let (if (gI s 116 56) = 0 then s else sI s 143 (ix v2) 0) (fun (x24 : mS) => (mq_let (if (gI x24 133 (ix v2)) = 0 then (if (gI x24 141 (ix v2)) = 0 then (gI x24 143 (ix v2)) else (0 : Int32)) else (0 : Int32)) (fun (x25 : Int32) => (mq_let (if (gI x24 133 (ix v2)) = 2 then (gI x24 143 (ix v2)) else (0 : Int32)) (fun (x26 : Int32) => (lp_M_step_120 a1 n (v2 + 1) (sI (sI (sL (sI x24 138 (ix v2) (gI x24 143 (ix v2))) 139 (ix v2) ((gL x24 139 (ix v2)) + (Int32.toInt64 (gI x24 143 (ix v2))))) 137 (ix v2) ((gI x24 137 (ix v2)) + x25)) 136 (ix v2) ((gI x24 136 (ix v2)) - x26))))))))))
def okl_M_step_120 (a1 : Int32) : Nat → Int32 → mS → Prop
  | 0, v2, s => False
  | n + 1, v2, s => (if (gI s 116 8) ≤ v2 then True else ((if (gI s 116 56) = 0 then True else (mm_inb v2 40 = true ∧ True)) ∧ mq_letP (if (gI s 116 56) = 0 then s else sI s 143 (ix v2) 0) (fun (x24 : mS) => (mm_inb v2 40 = true ∧ (mm_inb v2 40 = true ∧ (mm_inb v2 40 = true ∧ (mm_inb v2 40 = true ∧ (mm_inb v2 40 = true ∧ (mm_inb v2 40 = true ∧ (mm_inb v2 40 = true ∧ ((if (gI x24 133 (ix v2)) = 0 then (mm_inb v2 40 = true ∧ (if (gI x24 141 (ix v2)) = 0 then (mm_inb v2 40 = true ∧ True) else True)) else True) ∧ mq_letP (if (gI x24 133 (ix v2)) = 0 then (if (gI x24 141 (ix v2)) = 0 then (gI x24 143 (ix v2)) else (0 : Int32)) else (0 : Int32)) (fun (x25 : Int32) => (mm_inb v2 40 = true ∧ (mm_inb v2 40 = true ∧ (mm_inb v2 40 = true ∧ ((if (gI x24 133 (ix v2)) = 2 then (mm_inb v2 40 = true ∧ True) else True) ∧ mq_letP (if (gI x24 133 (ix v2)) = 2 then (gI x24 143 (ix v2)) else (0 : Int32)) (fun (x26 : Int32) => (mm_inb v2 40 = true ∧ (okl_M_step_120 a1 n (v2 + 1) (sI (sI (sL (sI x24 138 (ix v2) (gI x24 143 (ix v2))) 139 (ix v2) ((gL x24 139 (ix v2)) + (Int32.toInt64 (gI x24 143 (ix v2))))) 137 (ix v2) ((gI x24 137 (ix v2)) + x25)) 136 (ix v2) ((gI x24 136 (ix v2)) - x26)))))))))))))))))))))
set_option maxRecDepth 4000 in
theorem tl_M_step_120 {len : Nat} {xs : Nat → Int32}  (d : Nat) (a1 : Int32)  {T : Option mm_R} (K : Int32 × mS → Prop) (hX : ∀ r, K r → ∀ (o3 : Option Value) (o4 : Option Value) (o5 : Option Value), mm_fix (mm_X len xs) mm_Y (mm_call (mm_X len xs) mm_Y (d + 5)) (mm_look mc_M_step) (242, [some (.ref 116), some (.int a1), some (.int r.1), o3, o4, o5], [], mT r.2) = T) : ∀ (n : Nat), ∀ (v2 : Int32) (o3 : Option Value) (o4 : Option Value) (o5 : Option Value) (s : mS), okl_M_step_120 a1 n v2 s → K (lp_M_step_120 a1 n v2 s) → mm_fix (mm_X len xs) mm_Y (mm_call (mm_X len xs) mm_Y (d + 5)) (mm_look mc_M_step) (120, [some (.ref 116), some (.int a1), some (.int v2), o3, o4, o5], [], mT s) = T := by
  intro n
  induction n with
  | zero => intro v2 o3 o4 o5 s; exact fun h => h.elim
  | succ n ih =>
    intro v2 o3 o4 o5 s
    rw [okl_M_step_120, lp_M_step_120]
    refine w_go K 3 (c' := (125, [some (.ref 116), some (.int a1), some (.int v2), o3, o4, o5], [.int (gI s 116 8), .int v2], mT s)) rfl ?_
    refine w_ige K rfl (fun _ => ?_) (fun _ => ?_)
    · refine w_go K 0 (c' := (242, [some (.ref 116), some (.int a1), some (.int v2), o3, o4, o5], [], mT s)) rfl ?_
      exact fun _ b => hX _ b _ _ _
    · refine w_go K 2 (c' := (132, [some (.ref 116), some (.int a1), some (.int v2), o3, o4, o5], [.int (gI s 116 56)], mT s)) rfl ?_
      refine w_join K (fun (x24 : mS) => mm_fix (mm_X len xs) mm_Y (mm_call (mm_X len xs) mm_Y (d + 5)) (mm_look mc_M_step) (142, [some (.ref 116), some (.int a1), some (.int v2), o3, o4, o5], [], mT x24) = T) (fun K hJ => ?_) (fun x24 h1 h2 => ?_)
      · refine w_go K 0 (c' := (132, [some (.ref 116), some (.int a1), some (.int v2), o3, o4, o5], [.int (gI s 116 56)], mT s)) rfl ?_
        refine w_zeq K rfl (fun _ => ?_) (fun _ => ?_)
        · refine w_go K 0 (c' := (142, [some (.ref 116), some (.int a1), some (.int v2), o3, o4, o5], [], mT s)) rfl ?_
          exact fun _ h => hJ _ h
        · refine w_go K 4 (c' := (141, [some (.ref 116), some (.int a1), some (.int v2), o3, o4, o5], [.int 0, .int v2, .ref 143], mT s)) rfl ?_
          refine w_ck K (st_iS rfl rfl) ?_
          refine w_go K 0 (c' := (142, [some (.ref 116), some (.int a1), some (.int v2), o3, o4, o5], [], mT (sI s 143 (ix v2) 0))) rfl ?_
          exact fun _ h => hJ _ h
      · revert h1 h2
        refine w_go K 6 (c' := (152, [some (.ref 116), some (.int a1), some (.int v2), o3, o4, o5], [.int v2, .ref 143, .int v2, .ref 138], mT x24)) rfl ?_
        refine w_ck K (st_iL rfl rfl) ?_
        refine w_go K 0 (c' := (153, [some (.ref 116), some (.int a1), some (.int v2), o3, o4, o5], [.int (gI x24 143 (ix v2)), .int v2, .ref 138], mT x24)) rfl ?_
        refine w_ck K (st_iS rfl rfl) ?_
        refine w_go K 4 (c' := (160, [some (.ref 116), some (.int a1), some (.int v2), o3, o4, o5], [.int v2, .ref 139, .int v2, .ref 139], mT (sI x24 138 (ix v2) (gI x24 143 (ix v2))))) rfl ?_
        refine w_ck K (st_lL rfl rfl) ?_
        refine w_go K 3 (c' := (166, [some (.ref 116), some (.int a1), some (.int v2), o3, o4, o5], [.int v2, .ref 143, .long (gL x24 139 (ix v2)), .int v2, .ref 139], mT (sI x24 138 (ix v2) (gI x24 143 (ix v2))))) rfl ?_
        refine w_ck K (st_iL rfl rfl) ?_
        refine w_go K 2 (c' := (169, [some (.ref 116), some (.int a1), some (.int v2), o3, o4, o5], [.long ((gL x24 139 (ix v2)) + (Int32.toInt64 (gI x24 143 (ix v2)))), .int v2, .ref 139], mT (sI x24 138 (ix v2) (gI x24 143 (ix v2))))) rfl ?_
        refine w_ck K (st_lS rfl rfl) ?_
        refine w_go K 4 (c' := (176, [some (.ref 116), some (.int a1), some (.int v2), o3, o4, o5], [.int v2, .ref 137, .int v2, .ref 137], mT (sL (sI x24 138 (ix v2) (gI x24 143 (ix v2))) 139 (ix v2) ((gL x24 139 (ix v2)) + (Int32.toInt64 (gI x24 143 (ix v2))))))) rfl ?_
        refine w_ck K (st_iL rfl rfl) ?_
        refine w_go K 3 (c' := (182, [some (.ref 116), some (.int a1), some (.int v2), o3, o4, o5], [.int v2, .ref 133, .int (gI x24 137 (ix v2)), .int v2, .ref 137], mT (sL (sI x24 138 (ix v2) (gI x24 143 (ix v2))) 139 (ix v2) ((gL x24 139 (ix v2)) + (Int32.toInt64 (gI x24 143 (ix v2))))))) rfl ?_
        refine w_ck K (st_iL rfl rfl) ?_
        refine w_go K 0 (c' := (183, [some (.ref 116), some (.int a1), some (.int v2), o3, o4, o5], [.int (gI x24 133 (ix v2)), .int (gI x24 137 (ix v2)), .int v2, .ref 137], mT (sL (sI x24 138 (ix v2) (gI x24 143 (ix v2))) 139 (ix v2) ((gL x24 139 (ix v2)) + (Int32.toInt64 (gI x24 143 (ix v2))))))) rfl ?_
        refine w_join K (fun (x25 : Int32) => mm_fix (mm_X len xs) mm_Y (mm_call (mm_X len xs) mm_Y (d + 5)) (mm_look mc_M_step) (205, [some (.ref 116), some (.int a1), some (.int v2), o3, o4, o5], [.int x25, .int (gI x24 137 (ix v2)), .int v2, .ref 137], mT (sL (sI x24 138 (ix v2) (gI x24 143 (ix v2))) 139 (ix v2) ((gL x24 139 (ix v2)) + (Int32.toInt64 (gI x24 143 (ix v2)))))) = T) (fun K hJ => ?_) (fun x25 h1 h2 => ?_)
        · refine w_go K 0 (c' := (183, [some (.ref 116), some (.int a1), some (.int v2), o3, o4, o5], [.int (gI x24 133 (ix v2)), .int (gI x24 137 (ix v2)), .int v2, .ref 137], mT (sL (sI x24 138 (ix v2) (gI x24 143 (ix v2))) 139 (ix v2) ((gL x24 139 (ix v2)) + (Int32.toInt64 (gI x24 143 (ix v2))))))) rfl ?_
          refine w_zne K rfl (fun _ => ?_) (fun _ => ?_)
          · refine w_go K 3 (c' := (191, [some (.ref 116), some (.int a1), some (.int v2), o3, o4, o5], [.int v2, .ref 141, .int (gI x24 137 (ix v2)), .int v2, .ref 137], mT (sL (sI x24 138 (ix v2) (gI x24 143 (ix v2))) 139 (ix v2) ((gL x24 139 (ix v2)) + (Int32.toInt64 (gI x24 143 (ix v2))))))) rfl ?_
            refine w_ck K (st_bL rfl rfl) ?_
            refine w_go K 0 (c' := (192, [some (.ref 116), some (.int a1), some (.int v2), o3, o4, o5], [.int (gI x24 141 (ix v2)), .int (gI x24 137 (ix v2)), .int v2, .ref 137], mT (sL (sI x24 138 (ix v2) (gI x24 143 (ix v2))) 139 (ix v2) ((gL x24 139 (ix v2)) + (Int32.toInt64 (gI x24 143 (ix v2))))))) rfl ?_
            refine w_zne K rfl (fun _ => ?_) (fun _ => ?_)
            · refine w_go K 3 (c' := (200, [some (.ref 116), some (.int a1), some (.int v2), o3, o4, o5], [.int v2, .ref 143, .int (gI x24 137 (ix v2)), .int v2, .ref 137], mT (sL (sI x24 138 (ix v2) (gI x24 143 (ix v2))) 139 (ix v2) ((gL x24 139 (ix v2)) + (Int32.toInt64 (gI x24 143 (ix v2))))))) rfl ?_
              refine w_ck K (st_iL rfl rfl) ?_
              refine w_go K 1 (c' := (205, [some (.ref 116), some (.int a1), some (.int v2), o3, o4, o5], [.int (gI x24 143 (ix v2)), .int (gI x24 137 (ix v2)), .int v2, .ref 137], mT (sL (sI x24 138 (ix v2) (gI x24 143 (ix v2))) 139 (ix v2) ((gL x24 139 (ix v2)) + (Int32.toInt64 (gI x24 143 (ix v2))))))) rfl ?_
              exact fun _ h => hJ _ h
            · refine w_go K 1 (c' := (205, [some (.ref 116), some (.int a1), some (.int v2), o3, o4, o5], [.int 0, .int (gI x24 137 (ix v2)), .int v2, .ref 137], mT (sL (sI x24 138 (ix v2) (gI x24 143 (ix v2))) 139 (ix v2) ((gL x24 139 (ix v2)) + (Int32.toInt64 (gI x24 143 (ix v2))))))) rfl ?_
              exact fun _ h => hJ _ h
          · refine w_go K 1 (c' := (205, [some (.ref 116), some (.int a1), some (.int v2), o3, o4, o5], [.int 0, .int (gI x24 137 (ix v2)), .int v2, .ref 137], mT (sL (sI x24 138 (ix v2) (gI x24 143 (ix v2))) 139 (ix v2) ((gL x24 139 (ix v2)) + (Int32.toInt64 (gI x24 143 (ix v2))))))) rfl ?_
            exact fun _ h => hJ _ h
        · revert h1 h2
          refine w_go K 1 (c' := (206, [some (.ref 116), some (.int a1), some (.int v2), o3, o4, o5], [.int ((gI x24 137 (ix v2)) + x25), .int v2, .ref 137], mT (sL (sI x24 138 (ix v2) (gI x24 143 (ix v2))) 139 (ix v2) ((gL x24 139 (ix v2)) + (Int32.toInt64 (gI x24 143 (ix v2))))))) rfl ?_
          refine w_ck K (st_iS rfl rfl) ?_
          refine w_go K 4 (c' := (213, [some (.ref 116), some (.int a1), some (.int v2), o3, o4, o5], [.int v2, .ref 136, .int v2, .ref 136], mT (sI (sL (sI x24 138 (ix v2) (gI x24 143 (ix v2))) 139 (ix v2) ((gL x24 139 (ix v2)) + (Int32.toInt64 (gI x24 143 (ix v2))))) 137 (ix v2) ((gI x24 137 (ix v2)) + x25)))) rfl ?_
          refine w_ck K (st_iL rfl rfl) ?_
          refine w_go K 3 (c' := (219, [some (.ref 116), some (.int a1), some (.int v2), o3, o4, o5], [.int v2, .ref 133, .int (gI x24 136 (ix v2)), .int v2, .ref 136], mT (sI (sL (sI x24 138 (ix v2) (gI x24 143 (ix v2))) 139 (ix v2) ((gL x24 139 (ix v2)) + (Int32.toInt64 (gI x24 143 (ix v2))))) 137 (ix v2) ((gI x24 137 (ix v2)) + x25)))) rfl ?_
          refine w_ck K (st_iL rfl rfl) ?_
          refine w_go K 1 (c' := (221, [some (.ref 116), some (.int a1), some (.int v2), o3, o4, o5], [.int 2, .int (gI x24 133 (ix v2)), .int (gI x24 136 (ix v2)), .int v2, .ref 136], mT (sI (sL (sI x24 138 (ix v2) (gI x24 143 (ix v2))) 139 (ix v2) ((gL x24 139 (ix v2)) + (Int32.toInt64 (gI x24 143 (ix v2))))) 137 (ix v2) ((gI x24 137 (ix v2)) + x25)))) rfl ?_
          refine w_join K (fun (x26 : Int32) => mm_fix (mm_X len xs) mm_Y (mm_call (mm_X len xs) mm_Y (d + 5)) (mm_look mc_M_step) (234, [some (.ref 116), some (.int a1), some (.int v2), o3, o4, o5], [.int x26, .int (gI x24 136 (ix v2)), .int v2, .ref 136], mT (sI (sL (sI x24 138 (ix v2) (gI x24 143 (ix v2))) 139 (ix v2) ((gL x24 139 (ix v2)) + (Int32.toInt64 (gI x24 143 (ix v2))))) 137 (ix v2) ((gI x24 137 (ix v2)) + x25))) = T) (fun K hJ => ?_) (fun x26 h1 h2 => ?_)
          · refine w_go K 0 (c' := (221, [some (.ref 116), some (.int a1), some (.int v2), o3, o4, o5], [.int 2, .int (gI x24 133 (ix v2)), .int (gI x24 136 (ix v2)), .int v2, .ref 136], mT (sI (sL (sI x24 138 (ix v2) (gI x24 143 (ix v2))) 139 (ix v2) ((gL x24 139 (ix v2)) + (Int32.toInt64 (gI x24 143 (ix v2))))) 137 (ix v2) ((gI x24 137 (ix v2)) + x25)))) rfl ?_
            refine w_ine K rfl (fun _ => ?_) (fun _ => ?_)
            · refine w_go K 3 (c' := (229, [some (.ref 116), some (.int a1), some (.int v2), o3, o4, o5], [.int v2, .ref 143, .int (gI x24 136 (ix v2)), .int v2, .ref 136], mT (sI (sL (sI x24 138 (ix v2) (gI x24 143 (ix v2))) 139 (ix v2) ((gL x24 139 (ix v2)) + (Int32.toInt64 (gI x24 143 (ix v2))))) 137 (ix v2) ((gI x24 137 (ix v2)) + x25)))) rfl ?_
              refine w_ck K (st_iL rfl rfl) ?_
              refine w_go K 1 (c' := (234, [some (.ref 116), some (.int a1), some (.int v2), o3, o4, o5], [.int (gI x24 143 (ix v2)), .int (gI x24 136 (ix v2)), .int v2, .ref 136], mT (sI (sL (sI x24 138 (ix v2) (gI x24 143 (ix v2))) 139 (ix v2) ((gL x24 139 (ix v2)) + (Int32.toInt64 (gI x24 143 (ix v2))))) 137 (ix v2) ((gI x24 137 (ix v2)) + x25)))) rfl ?_
              exact fun _ h => hJ _ h
            · refine w_go K 1 (c' := (234, [some (.ref 116), some (.int a1), some (.int v2), o3, o4, o5], [.int 0, .int (gI x24 136 (ix v2)), .int v2, .ref 136], mT (sI (sL (sI x24 138 (ix v2) (gI x24 143 (ix v2))) 139 (ix v2) ((gL x24 139 (ix v2)) + (Int32.toInt64 (gI x24 143 (ix v2))))) 137 (ix v2) ((gI x24 137 (ix v2)) + x25)))) rfl ?_
              exact fun _ h => hJ _ h
          · revert h1 h2
            refine w_go K 1 (c' := (235, [some (.ref 116), some (.int a1), some (.int v2), o3, o4, o5], [.int ((gI x24 136 (ix v2)) - x26), .int v2, .ref 136], mT (sI (sL (sI x24 138 (ix v2) (gI x24 143 (ix v2))) 139 (ix v2) ((gL x24 139 (ix v2)) + (Int32.toInt64 (gI x24 143 (ix v2))))) 137 (ix v2) ((gI x24 137 (ix v2)) + x25)))) rfl ?_
            refine w_ck K (st_iS rfl rfl) ?_
            refine w_go K 2 (c' := (120, [some (.ref 116), some (.int a1), some (.int (v2 + 1)), o3, o4, o5], [], mT (sI (sI (sL (sI x24 138 (ix v2) (gI x24 143 (ix v2))) 139 (ix v2) ((gL x24 139 (ix v2)) + (Int32.toInt64 (gI x24 143 (ix v2))))) 137 (ix v2) ((gI x24 137 (ix v2)) + x25)) 136 (ix v2) ((gI x24 136 (ix v2)) - x26)))) rfl ?_
            exact fun a b => ih (v2 + 1) _ _ _ (sI (sI (sL (sI x24 138 (ix v2) (gI x24 143 (ix v2))) 139 (ix v2) ((gL x24 139 (ix v2)) + (Int32.toInt64 (gI x24 143 (ix v2))))) 137 (ix v2) ((gI x24 137 (ix v2)) + x25)) 136 (ix v2) ((gI x24 136 (ix v2)) - x26)) a b
def lp_M_step_316 (a2 : Int32) (a3 : Int32) (s : mS) : Nat → Int32 → Int32 → Int32 × Int32
  | 0, v4, v5 => (v4, v5)
  | n + 1, v4, v5 => (if (gI s 116 8) ≤ v5 then (v4, v5) else (if v4 = 0 then (if (gI s 132 (ix v5)) = a3 then (if (gI s 133 (ix v5)) = 3 then (lp_M_step_316 a2 a3 s n (0 : Int32) (v5 + 1)) else (if (gI s 142 (ix v5)) ≤ 0 then (lp_M_step_316 a2 a3 s n (0 : Int32) (v5 + 1)) else (lp_M_step_316 a2 a3 s n (1 : Int32) (v5 + 1)))) else (lp_M_step_316 a2 a3 s n (0 : Int32) (v5 + 1))) else (lp_M_step_316 a2 a3 s n (1 : Int32) (v5 + 1))))
def okl_M_step_316 (a2 : Int32) (a3 : Int32) (s : mS) : Nat → Int32 → Int32 → Prop
  | 0, v4, v5 => False
  | n + 1, v4, v5 => (if (gI s 116 8) ≤ v5 then True else (if v4 = 0 then (mm_inb v5 40 = true ∧ (if (gI s 132 (ix v5)) = a3 then (mm_inb v5 40 = true ∧ (if (gI s 133 (ix v5)) = 3 then (okl_M_step_316 a2 a3 s n (0 : Int32) (v5 + 1)) else (mm_inb v5 40 = true ∧ (if (gI s 142 (ix v5)) ≤ 0 then (okl_M_step_316 a2 a3 s n (0 : Int32) (v5 + 1)) else (okl_M_step_316 a2 a3 s n (1 : Int32) (v5 + 1)))))) else (okl_M_step_316 a2 a3 s n (0 : Int32) (v5 + 1)))) else (okl_M_step_316 a2 a3 s n (1 : Int32) (v5 + 1))))
set_option maxRecDepth 4000 in
theorem tl_M_step_316 {len : Nat} {xs : Nat → Int32}  (d : Nat) (a2 : Int32) (a3 : Int32) (s : mS) {T : Option mm_R} (K : Int32 × Int32 → Prop) (hX : ∀ r, K r → ∀ (o1 : Option Value), mm_fix (mm_X len xs) mm_Y (mm_call (mm_X len xs) mm_Y (d + 5)) (mm_look mc_M_step) (375, [some (.ref 116), o1, some (.int a2), some (.int a3), some (.int r.1), some (.int r.2)], [], mT s) = T) : ∀ (n : Nat), ∀ (v4 : Int32) (v5 : Int32) (o1 : Option Value), okl_M_step_316 a2 a3 s n v4 v5 → K (lp_M_step_316 a2 a3 s n v4 v5) → mm_fix (mm_X len xs) mm_Y (mm_call (mm_X len xs) mm_Y (d + 5)) (mm_look mc_M_step) (316, [some (.ref 116), o1, some (.int a2), some (.int a3), some (.int v4), some (.int v5)], [], mT s) = T := by
  intro n
  induction n with
  | zero => intro v4 v5 o1; exact fun h => h.elim
  | succ n ih =>
    intro v4 v5 o1
    rw [okl_M_step_316, lp_M_step_316]
    refine w_go K 3 (c' := (322, [some (.ref 116), o1, some (.int a2), some (.int a3), some (.int v4), some (.int v5)], [.int (gI s 116 8), .int v5], mT s)) rfl ?_
    refine w_ige K rfl (fun _ => ?_) (fun _ => ?_)
    · refine w_go K 0 (c' := (375, [some (.ref 116), o1, some (.int a2), some (.int a3), some (.int v4), some (.int v5)], [], mT s)) rfl ?_
      exact fun _ b => hX _ b _
    · refine w_go K 1 (c' := (327, [some (.ref 116), o1, some (.int a2), some (.int a3), some (.int v4), some (.int v5)], [.int v4], mT s)) rfl ?_
      refine w_zne K rfl (fun _ => ?_) (fun _ => ?_)
      · refine w_go K 3 (c' := (336, [some (.ref 116), o1, some (.int a2), some (.int a3), some (.int v4), some (.int v5)], [.int v5, .ref 132], mT s)) rfl ?_
        refine w_ck K (st_iL rfl rfl) ?_
        refine w_go K 1 (c' := (338, [some (.ref 116), o1, some (.int a2), some (.int a3), some (.int v4), some (.int v5)], [.int a3, .int (gI s 132 (ix v5))], mT s)) rfl ?_
        refine w_ine K rfl (fun _ => ?_) (fun _ => ?_)
        · refine w_go K 3 (c' := (347, [some (.ref 116), o1, some (.int a2), some (.int a3), some (.int v4), some (.int v5)], [.int v5, .ref 133], mT s)) rfl ?_
          refine w_ck K (st_iL rfl rfl) ?_
          refine w_go K 1 (c' := (349, [some (.ref 116), o1, some (.int a2), some (.int a3), some (.int v4), some (.int v5)], [.int 3, .int (gI s 133 (ix v5))], mT s)) rfl ?_
          refine w_ieq K rfl (fun _ => ?_) (fun _ => ?_)
          · refine w_go K 4 (c' := (316, [some (.ref 116), o1, some (.int a2), some (.int a3), some (.int 0), some (.int (v5 + 1))], [], mT s)) rfl ?_
            exact fun a b => ih (0 : Int32) (v5 + 1) _ a b
          · refine w_go K 3 (c' := (358, [some (.ref 116), o1, some (.int a2), some (.int a3), some (.int v4), some (.int v5)], [.int v5, .ref 142], mT s)) rfl ?_
            refine w_ck K (st_iL rfl rfl) ?_
            refine w_go K 0 (c' := (359, [some (.ref 116), o1, some (.int a2), some (.int a3), some (.int v4), some (.int v5)], [.int (gI s 142 (ix v5))], mT s)) rfl ?_
            refine w_zle K rfl (fun _ => ?_) (fun _ => ?_)
            · refine w_go K 4 (c' := (316, [some (.ref 116), o1, some (.int a2), some (.int a3), some (.int 0), some (.int (v5 + 1))], [], mT s)) rfl ?_
              exact fun a b => ih (0 : Int32) (v5 + 1) _ a b
            · refine w_go K 5 (c' := (316, [some (.ref 116), o1, some (.int a2), some (.int a3), some (.int 1), some (.int (v5 + 1))], [], mT s)) rfl ?_
              exact fun a b => ih (1 : Int32) (v5 + 1) _ a b
        · refine w_go K 4 (c' := (316, [some (.ref 116), o1, some (.int a2), some (.int a3), some (.int 0), some (.int (v5 + 1))], [], mT s)) rfl ?_
          exact fun a b => ih (0 : Int32) (v5 + 1) _ a b
      · refine w_go K 5 (c' := (316, [some (.ref 116), o1, some (.int a2), some (.int a3), some (.int 1), some (.int (v5 + 1))], [], mT s)) rfl ?_
        exact fun a b => ih (1 : Int32) (v5 + 1) _ a b
def lp_M_step_302 (a2 : Int32) : Nat → Int32 → mS → Int32 × mS
  | 0, v3, s => (v3, s)
  | n + 1, v3, s => (if (gI s 116 7) ≤ v3 then (v3, s) else (mq_let (lp_M_step_316 a2 v3 s mm_N (0 : Int32) (0 : Int32)) (fun (x35 : Int32 × Int32) => (mq_let (if x35.1 = 0 then (0 : Int32) else (if (gI s 116 91) = 0 then (0 : Int32) else (if a2 ≤ (gI s 149 (ix v3)) then (0 : Int32) else (1 : Int32)))) (fun (x37 : Int32) => (lp_M_step_302 a2 n (v3 + 1) (sI s 116 46 ((gI s 116 46) + x37))))))))
def okl_M_step_302 (a2 : Int32) : Nat → Int32 → mS → Prop
  | 0, v3, s => False
  | n + 1, v3, s => (if (gI s 116 7) ≤ v3 then True else (okl_M_step_316 a2 v3 s mm_N (0 : Int32) (0 : Int32) ∧ mq_letP (lp_M_step_316 a2 v3 s mm_N (0 : Int32) (0 : Int32)) (fun (x35 : Int32 × Int32) => ((if x35.1 = 0 then True else (if (gI s 116 91) = 0 then True else (mm_inb v3 16 = true ∧ True))) ∧ mq_letP (if x35.1 = 0 then (0 : Int32) else (if (gI s 116 91) = 0 then (0 : Int32) else (if a2 ≤ (gI s 149 (ix v3)) then (0 : Int32) else (1 : Int32)))) (fun (x37 : Int32) => (okl_M_step_302 a2 n (v3 + 1) (sI s 116 46 ((gI s 116 46) + x37))))))))
set_option maxRecDepth 4000 in
theorem tl_M_step_302 {len : Nat} {xs : Nat → Int32}  (d : Nat) (a2 : Int32)  {T : Option mm_R} (K : Int32 × mS → Prop) (hX : ∀ r, K r → ∀ (o1 : Option Value) (o4 : Option Value) (o5 : Option Value), mm_fix (mm_X len xs) mm_Y (mm_call (mm_X len xs) mm_Y (d + 5)) (mm_look mc_M_step) (417, [some (.ref 116), o1, some (.int a2), some (.int r.1), o4, o5], [], mT r.2) = T) : ∀ (n : Nat), ∀ (v3 : Int32) (o1 : Option Value) (o4 : Option Value) (o5 : Option Value) (s : mS), okl_M_step_302 a2 n v3 s → K (lp_M_step_302 a2 n v3 s) → mm_fix (mm_X len xs) mm_Y (mm_call (mm_X len xs) mm_Y (d + 5)) (mm_look mc_M_step) (302, [some (.ref 116), o1, some (.int a2), some (.int v3), o4, o5], [], mT s) = T := by
  intro n
  induction n with
  | zero => intro v3 o1 o4 o5 s; exact fun h => h.elim
  | succ n ih =>
    intro v3 o1 o4 o5 s
    rw [okl_M_step_302, lp_M_step_302]
    refine w_go K 3 (c' := (307, [some (.ref 116), o1, some (.int a2), some (.int v3), o4, o5], [.int (gI s 116 7), .int v3], mT s)) rfl ?_
    refine w_ige K rfl (fun _ => ?_) (fun _ => ?_)
    · refine w_go K 0 (c' := (417, [some (.ref 116), o1, some (.int a2), some (.int v3), o4, o5], [], mT s)) rfl ?_
      exact fun _ b => hX _ b _ _ _
    · refine w_go K 4 (c' := (316, [some (.ref 116), o1, some (.int a2), some (.int v3), some (.int 0), some (.int 0)], [], mT s)) rfl ?_
      refine w_join K (fun (x35 : Int32 × Int32) => ∀ (q36 : Option Value), mm_fix (mm_X len xs) mm_Y (mm_call (mm_X len xs) mm_Y (d + 5)) (mm_look mc_M_step) (375, [some (.ref 116), q36, some (.int a2), some (.int v3), some (.int x35.1), some (.int x35.2)], [], mT s) = T) (fun K hJ => tl_M_step_316 (len := len) (xs := xs) d a2 v3 s (T := T) K hJ mm_N (0 : Int32) (0 : Int32) _) (fun x35 h1 h2 q36 => ?_)
      revert h1 h2
      refine w_go K 4 (c' := (382, [some (.ref 116), q36, some (.int a2), some (.int v3), some (.int x35.1), some (.int x35.2)], [.int x35.1, .int (gI s 116 46), .ref 116], mT s)) rfl ?_
      refine w_join K (fun (x37 : Int32) => mm_fix (mm_X len xs) mm_Y (mm_call (mm_X len xs) mm_Y (d + 5)) (mm_look mc_M_step) (407, [some (.ref 116), q36, some (.int a2), some (.int v3), some (.int x35.1), some (.int x35.2)], [.int x37, .int (gI s 116 46), .ref 116], mT s) = T) (fun K hJ => ?_) (fun x37 h1 h2 => ?_)
      · refine w_go K 0 (c' := (382, [some (.ref 116), q36, some (.int a2), some (.int v3), some (.int x35.1), some (.int x35.2)], [.int x35.1, .int (gI s 116 46), .ref 116], mT s)) rfl ?_
        refine w_zeq K rfl (fun _ => ?_) (fun _ => ?_)
        · refine w_go K 1 (c' := (407, [some (.ref 116), q36, some (.int a2), some (.int v3), some (.int x35.1), some (.int x35.2)], [.int 0, .int (gI s 116 46), .ref 116], mT s)) rfl ?_
          exact fun _ h => hJ _ h
        · refine w_go K 2 (c' := (389, [some (.ref 116), q36, some (.int a2), some (.int v3), some (.int x35.1), some (.int x35.2)], [.int (gI s 116 91), .int (gI s 116 46), .ref 116], mT s)) rfl ?_
          refine w_zeq K rfl (fun _ => ?_) (fun _ => ?_)
          · refine w_go K 1 (c' := (407, [some (.ref 116), q36, some (.int a2), some (.int v3), some (.int x35.1), some (.int x35.2)], [.int 0, .int (gI s 116 46), .ref 116], mT s)) rfl ?_
            exact fun _ h => hJ _ h
          · refine w_go K 3 (c' := (397, [some (.ref 116), q36, some (.int a2), some (.int v3), some (.int x35.1), some (.int x35.2)], [.int v3, .ref 149, .int (gI s 116 46), .ref 116], mT s)) rfl ?_
            refine w_ck K (st_iL rfl rfl) ?_
            refine w_go K 1 (c' := (399, [some (.ref 116), q36, some (.int a2), some (.int v3), some (.int x35.1), some (.int x35.2)], [.int a2, .int (gI s 149 (ix v3)), .int (gI s 116 46), .ref 116], mT s)) rfl ?_
            refine w_igeT K rfl (fun _ => ?_) (fun _ => ?_)
            · refine w_go K 1 (c' := (407, [some (.ref 116), q36, some (.int a2), some (.int v3), some (.int x35.1), some (.int x35.2)], [.int 0, .int (gI s 116 46), .ref 116], mT s)) rfl ?_
              exact fun _ h => hJ _ h
            · refine w_go K 2 (c' := (407, [some (.ref 116), q36, some (.int a2), some (.int v3), some (.int x35.1), some (.int x35.2)], [.int 1, .int (gI s 116 46), .ref 116], mT s)) rfl ?_
              exact fun _ h => hJ _ h
      · revert h1 h2
        refine w_go K 4 (c' := (302, [some (.ref 116), q36, some (.int a2), some (.int (v3 + 1)), some (.int x35.1), some (.int x35.2)], [], mT (sI s 116 46 ((gI s 116 46) + x37)))) rfl ?_
        exact fun a b => ih (v3 + 1) _ _ _ (sI s 116 46 ((gI s 116 46) + x37)) a b
def f_M_step  (s : mS) : mS := (mq_let (f_M_burns s) (fun (x10 : mS) => (mq_let (lp_M_step_6 mm_N (0 : Int32) x10) (fun (x11 : Int32 × mS) => (mq_let (f_M_settles (gI x11.2 116 1) x11.2) (fun (x16 : Int32 × mS) => (mq_let (if x16.1 = 0 then sI x16.2 116 45 ((gI x16.2 116 45) + 1) else x16.2) (fun (x17 : mS) => (mq_let (lp_M_step_57 x17 mm_N (0 : Int32) (0 : Int32)) (fun (x18 : Int32 × Int32) => (mq_let (if x18.1 ≤ (gI x17 116 6) then (0 : Int32) else (1 : Int32)) (fun (x22 : Int32) => (mq_let (if x22 = 0 then (0 : Int32) else (1 : Int32)) (fun (x23 : Int32) => (mq_let (lp_M_step_120 x18.1 mm_N (0 : Int32) (sI (sI x17 116 56 x22) 116 44 ((gI x17 116 44) + x23))) (fun (x27 : Int32 × mS) => (mq_let (if (gI x27.2 116 56) = 0 then x18.1 else (0 : Int32)) (fun (x31 : Int32) => (mq_let (if (gI x27.2 116 56) = 0 then (Int32.toInt64 x18.1) else (0 : Int64)) (fun (x32 : Int64) => (mq_let (f_M_keeps (sL (sI x27.2 116 6 ((gI x27.2 116 6) - x31)) 116 38 ((gL x27.2 116 38) + x32))) (fun (x33 : mS) => (mq_let (f_M_dueOf (0 : Int32) (gI x33 116 1) (0 : Int32) x33) (fun (x34 : Int32 × mS) => (mq_let (lp_M_step_302 x34.1 mm_N (1 : Int32) x34.2) (fun (x38 : Int32 × mS) => (mq_let (f_M_ends x38.2) (fun (x42 : mS) => sI (sI x42 116 3 0) 116 1 ((gI x42 116 1) + 1)))))))))))))))))))))))))))))
def ok_M_step  (s : mS) : Prop := (ok_M_burns s ∧ mq_letP (f_M_burns s) (fun (x10 : mS) => (okl_M_step_6 mm_N (0 : Int32) x10 ∧ mq_letP (lp_M_step_6 mm_N (0 : Int32) x10) (fun (x11 : Int32 × mS) => (ok_M_settles (gI x11.2 116 1) x11.2 ∧ mq_letP (f_M_settles (gI x11.2 116 1) x11.2) (fun (x16 : Int32 × mS) => (True ∧ mq_letP (if x16.1 = 0 then sI x16.2 116 45 ((gI x16.2 116 45) + 1) else x16.2) (fun (x17 : mS) => (okl_M_step_57 x17 mm_N (0 : Int32) (0 : Int32) ∧ mq_letP (lp_M_step_57 x17 mm_N (0 : Int32) (0 : Int32)) (fun (x18 : Int32 × Int32) => (True ∧ mq_letP (if x18.1 ≤ (gI x17 116 6) then (0 : Int32) else (1 : Int32)) (fun (x22 : Int32) => (mm_bit x22 = true ∧ (True ∧ mq_letP (if x22 = 0 then (0 : Int32) else (1 : Int32)) (fun (x23 : Int32) => (okl_M_step_120 x18.1 mm_N (0 : Int32) (sI (sI x17 116 56 x22) 116 44 ((gI x17 116 44) + x23)) ∧ mq_letP (lp_M_step_120 x18.1 mm_N (0 : Int32) (sI (sI x17 116 56 x22) 116 44 ((gI x17 116 44) + x23))) (fun (x27 : Int32 × mS) => (True ∧ mq_letP (if (gI x27.2 116 56) = 0 then x18.1 else (0 : Int32)) (fun (x31 : Int32) => (True ∧ mq_letP (if (gI x27.2 116 56) = 0 then (Int32.toInt64 x18.1) else (0 : Int64)) (fun (x32 : Int64) => (ok_M_keeps (sL (sI x27.2 116 6 ((gI x27.2 116 6) - x31)) 116 38 ((gL x27.2 116 38) + x32)) ∧ mq_letP (f_M_keeps (sL (sI x27.2 116 6 ((gI x27.2 116 6) - x31)) 116 38 ((gL x27.2 116 38) + x32))) (fun (x33 : mS) => (ok_M_dueOf (0 : Int32) (gI x33 116 1) (0 : Int32) x33 ∧ mq_letP (f_M_dueOf (0 : Int32) (gI x33 116 1) (0 : Int32) x33) (fun (x34 : Int32 × mS) => (okl_M_step_302 x34.1 mm_N (1 : Int32) x34.2 ∧ mq_letP (lp_M_step_302 x34.1 mm_N (1 : Int32) x34.2) (fun (x38 : Int32 × mS) => (ok_M_ends x38.2 ∧ mq_letP (f_M_ends x38.2) (fun (x42 : mS) => True)))))))))))))))))))))))))))))
set_option maxRecDepth 4000 in
theorem t_M_step {len : Nat} {xs : Nat → Int32}  (d : Nat)  (s : mS) {T : Option mm_R} (K : mS → Prop) (hK : ∀ t, K t → some (none, mT t) = T) : ok_M_step s → K (f_M_step s) → mm_fix (mm_X len xs) mm_Y (mm_call (mm_X len xs) mm_Y (d + 5)) (mm_look mc_M_step) (0, [some (.ref 116), none, none, none, none, none], [], mT s) = T := by
  unfold ok_M_step f_M_step
  refine w_go K 1 (c' := (1, [some (.ref 116), none, none, none, none, none], [.ref 116], mT s)) rfl ?_
  refine w_callL K (E := f_M_burns s) (g := fun (x10 : mS) => (none, mT x10)) rfl (m_M_burns (len := len) (xs := xs) (d + 2) s) (fun x10 => ?_)
  refine w_go K 2 (c' := (6, [some (.ref 116), some (.int 0), none, none, none, none], [], mT x10)) rfl ?_
  refine w_join K (fun (x11 : Int32 × mS) => ∀ (q12 : Option Value) (q13 : Option Value) (q14 : Option Value) (q15 : Option Value), mm_fix (mm_X len xs) mm_Y (mm_call (mm_X len xs) mm_Y (d + 5)) (mm_look mc_M_step) (32, [some (.ref 116), some (.int x11.1), q12, q13, q14, q15], [], mT x11.2) = T) (fun K hJ => tl_M_step_6 (len := len) (xs := xs) d (T := T) K hJ mm_N (0 : Int32) _ _ _ _ x10) (fun x11 h1 h2 q12 q13 q14 q15 => ?_)
  revert h1 h2
  refine w_go K 3 (c' := (37, [some (.ref 116), some (.int x11.1), q12, q13, q14, q15], [.int (gI x11.2 116 1), .ref 116], mT x11.2)) rfl ?_
  refine w_callL K (E := f_M_settles (gI x11.2 116 1) x11.2) (g := fun (x16 : Int32 × mS) => (some (.int x16.1), mT x16.2)) rfl (m_M_settles (len := len) (xs := xs) (d + 1) (gI x11.2 116 1) x11.2) (fun x16 => ?_)
  refine w_go K 0 (c' := (40, [some (.ref 116), some (.int x11.1), q12, q13, q14, q15], [.int x16.1], mT x16.2)) rfl ?_
  refine w_join K (fun (x17 : mS) => mm_fix (mm_X len xs) mm_Y (mm_call (mm_X len xs) mm_Y (d + 5)) (mm_look mc_M_step) (53, [some (.ref 116), some (.int x11.1), q12, q13, q14, q15], [], mT x17) = T) (fun K hJ => ?_) (fun x17 h1 h2 => ?_)
  · refine w_go K 0 (c' := (40, [some (.ref 116), some (.int x11.1), q12, q13, q14, q15], [.int x16.1], mT x16.2)) rfl ?_
    refine w_zneT K rfl (fun _ => ?_) (fun _ => ?_)
    · refine w_go K 6 (c' := (53, [some (.ref 116), some (.int x11.1), q12, q13, q14, q15], [], mT (sI x16.2 116 45 ((gI x16.2 116 45) + 1)))) rfl ?_
      exact fun _ h => hJ _ h
    · refine w_go K 0 (c' := (53, [some (.ref 116), some (.int x11.1), q12, q13, q14, q15], [], mT x16.2)) rfl ?_
      exact fun _ h => hJ _ h
  · revert h1 h2
    refine w_go K 4 (c' := (57, [some (.ref 116), some (.int 0), some (.int 0), q13, q14, q15], [], mT x17)) rfl ?_
    refine w_join K (fun (x18 : Int32 × Int32) => ∀ (q19 : Option Value) (q20 : Option Value) (q21 : Option Value), mm_fix (mm_X len xs) mm_Y (mm_call (mm_X len xs) mm_Y (d + 5)) (mm_look mc_M_step) (80, [some (.ref 116), some (.int x18.1), some (.int x18.2), q19, q20, q21], [], mT x17) = T) (fun K hJ => tl_M_step_57 (len := len) (xs := xs) d x17 (T := T) K hJ mm_N (0 : Int32) (0 : Int32) _ _ _) (fun x18 h1 h2 q19 q20 q21 => ?_)
    revert h1 h2
    refine w_go K 4 (c' := (86, [some (.ref 116), some (.int x18.1), some (.int x18.2), q19, q20, q21], [.int x18.1, .int (gI x17 116 6), .ref 116], mT x17)) rfl ?_
    refine w_join K (fun (x22 : Int32) => mm_fix (mm_X len xs) mm_Y (mm_call (mm_X len xs) mm_Y (d + 5)) (mm_look mc_M_step) (94, [some (.ref 116), some (.int x18.1), some (.int x18.2), q19, q20, q21], [.int x22, .ref 116], mT x17) = T) (fun K hJ => ?_) (fun x22 h1 h2 => ?_)
    · refine w_go K 0 (c' := (86, [some (.ref 116), some (.int x18.1), some (.int x18.2), q19, q20, q21], [.int x18.1, .int (gI x17 116 6), .ref 116], mT x17)) rfl ?_
      refine w_igeT K rfl (fun _ => ?_) (fun _ => ?_)
      · refine w_go K 1 (c' := (94, [some (.ref 116), some (.int x18.1), some (.int x18.2), q19, q20, q21], [.int 0, .ref 116], mT x17)) rfl ?_
        exact fun _ h => hJ _ h
      · refine w_go K 2 (c' := (94, [some (.ref 116), some (.int x18.1), some (.int x18.2), q19, q20, q21], [.int 1, .ref 116], mT x17)) rfl ?_
        exact fun _ h => hJ _ h
    · revert h1 h2
      refine w_go K 0 (c' := (94, [some (.ref 116), some (.int x18.1), some (.int x18.2), q19, q20, q21], [.int x22, .ref 116], mT x17)) rfl ?_
      refine w_ck K rfl ?_
      refine w_go K 5 (c' := (106, [some (.ref 116), some (.int x18.1), some (.int x18.2), q19, q20, q21], [.int x22, .int (gI x17 116 44), .ref 116], mT (sI x17 116 56 x22))) rfl ?_
      refine w_join K (fun (x23 : Int32) => mm_fix (mm_X len xs) mm_Y (mm_call (mm_X len xs) mm_Y (d + 5)) (mm_look mc_M_step) (114, [some (.ref 116), some (.int x18.1), some (.int x18.2), q19, q20, q21], [.int x23, .int (gI x17 116 44), .ref 116], mT (sI x17 116 56 x22)) = T) (fun K hJ => ?_) (fun x23 h1 h2 => ?_)
      · refine w_go K 0 (c' := (106, [some (.ref 116), some (.int x18.1), some (.int x18.2), q19, q20, q21], [.int x22, .int (gI x17 116 44), .ref 116], mT (sI x17 116 56 x22))) rfl ?_
        refine w_zeqT K rfl (fun _ => ?_) (fun _ => ?_)
        · refine w_go K 1 (c' := (114, [some (.ref 116), some (.int x18.1), some (.int x18.2), q19, q20, q21], [.int 0, .int (gI x17 116 44), .ref 116], mT (sI x17 116 56 x22))) rfl ?_
          exact fun _ h => hJ _ h
        · refine w_go K 2 (c' := (114, [some (.ref 116), some (.int x18.1), some (.int x18.2), q19, q20, q21], [.int 1, .int (gI x17 116 44), .ref 116], mT (sI x17 116 56 x22))) rfl ?_
          exact fun _ h => hJ _ h
      · revert h1 h2
        refine w_go K 4 (c' := (120, [some (.ref 116), some (.int x18.1), some (.int 0), q19, q20, q21], [], mT (sI (sI x17 116 56 x22) 116 44 ((gI x17 116 44) + x23)))) rfl ?_
        refine w_join K (fun (x27 : Int32 × mS) => ∀ (q28 : Option Value) (q29 : Option Value) (q30 : Option Value), mm_fix (mm_X len xs) mm_Y (mm_call (mm_X len xs) mm_Y (d + 5)) (mm_look mc_M_step) (242, [some (.ref 116), some (.int x18.1), some (.int x27.1), q28, q29, q30], [], mT x27.2) = T) (fun K hJ => tl_M_step_120 (len := len) (xs := xs) d x18.1 (T := T) K hJ mm_N (0 : Int32) _ _ _ (sI (sI x17 116 56 x22) 116 44 ((gI x17 116 44) + x23))) (fun x27 h1 h2 q28 q29 q30 => ?_)
        revert h1 h2
        refine w_go K 5 (c' := (251, [some (.ref 116), some (.int x18.1), some (.int x27.1), q28, q29, q30], [.int (gI x27.2 116 56), .int (gI x27.2 116 6), .ref 116], mT x27.2)) rfl ?_
        refine w_join K (fun (x31 : Int32) => mm_fix (mm_X len xs) mm_Y (mm_call (mm_X len xs) mm_Y (d + 5)) (mm_look mc_M_step) (259, [some (.ref 116), some (.int x18.1), some (.int x27.1), q28, q29, q30], [.int x31, .int (gI x27.2 116 6), .ref 116], mT x27.2) = T) (fun K hJ => ?_) (fun x31 h1 h2 => ?_)
        · refine w_go K 0 (c' := (251, [some (.ref 116), some (.int x18.1), some (.int x27.1), q28, q29, q30], [.int (gI x27.2 116 56), .int (gI x27.2 116 6), .ref 116], mT x27.2)) rfl ?_
          refine w_zeqT K rfl (fun _ => ?_) (fun _ => ?_)
          · refine w_go K 1 (c' := (259, [some (.ref 116), some (.int x18.1), some (.int x27.1), q28, q29, q30], [.int x18.1, .int (gI x27.2 116 6), .ref 116], mT x27.2)) rfl ?_
            exact fun _ h => hJ _ h
          · refine w_go K 2 (c' := (259, [some (.ref 116), some (.int x18.1), some (.int x27.1), q28, q29, q30], [.int 0, .int (gI x27.2 116 6), .ref 116], mT x27.2)) rfl ?_
            exact fun _ h => hJ _ h
        · revert h1 h2
          refine w_go K 7 (c' := (272, [some (.ref 116), some (.int x18.1), some (.int x27.1), q28, q29, q30], [.int (gI x27.2 116 56), .long (gL x27.2 116 38), .ref 116], mT (sI x27.2 116 6 ((gI x27.2 116 6) - x31)))) rfl ?_
          refine w_join K (fun (x32 : Int64) => mm_fix (mm_X len xs) mm_Y (mm_call (mm_X len xs) mm_Y (d + 5)) (mm_look mc_M_step) (281, [some (.ref 116), some (.int x18.1), some (.int x27.1), q28, q29, q30], [.long x32, .long (gL x27.2 116 38), .ref 116], mT (sI x27.2 116 6 ((gI x27.2 116 6) - x31))) = T) (fun K hJ => ?_) (fun x32 h1 h2 => ?_)
          · refine w_go K 0 (c' := (272, [some (.ref 116), some (.int x18.1), some (.int x27.1), q28, q29, q30], [.int (gI x27.2 116 56), .long (gL x27.2 116 38), .ref 116], mT (sI x27.2 116 6 ((gI x27.2 116 6) - x31)))) rfl ?_
            refine w_zeqT K rfl (fun _ => ?_) (fun _ => ?_)
            · refine w_go K 2 (c' := (281, [some (.ref 116), some (.int x18.1), some (.int x27.1), q28, q29, q30], [.long (Int32.toInt64 x18.1), .long (gL x27.2 116 38), .ref 116], mT (sI x27.2 116 6 ((gI x27.2 116 6) - x31)))) rfl ?_
              exact fun _ h => hJ _ h
            · refine w_go K 2 (c' := (281, [some (.ref 116), some (.int x18.1), some (.int x27.1), q28, q29, q30], [.long 0, .long (gL x27.2 116 38), .ref 116], mT (sI x27.2 116 6 ((gI x27.2 116 6) - x31)))) rfl ?_
              exact fun _ h => hJ _ h
          · revert h1 h2
            refine w_go K 3 (c' := (286, [some (.ref 116), some (.int x18.1), some (.int x27.1), q28, q29, q30], [.ref 116], mT (sL (sI x27.2 116 6 ((gI x27.2 116 6) - x31)) 116 38 ((gL x27.2 116 38) + x32)))) rfl ?_
            refine w_callL K (E := f_M_keeps (sL (sI x27.2 116 6 ((gI x27.2 116 6) - x31)) 116 38 ((gL x27.2 116 38) + x32))) (g := fun (x33 : mS) => (none, mT x33)) rfl (m_M_keeps (len := len) (xs := xs) (d + 3) (sL (sI x27.2 116 6 ((gI x27.2 116 6) - x31)) 116 38 ((gL x27.2 116 38) + x32))) (fun x33 => ?_)
            refine w_go K 5 (c' := (296, [some (.ref 116), some (.int x18.1), some (.int x27.1), q28, q29, q30], [.int 0, .int (gI x33 116 1), .int 0, .ref 116], mT x33)) rfl ?_
            refine w_callL K (E := f_M_dueOf (0 : Int32) (gI x33 116 1) (0 : Int32) x33) (g := fun (x34 : Int32 × mS) => (some (.int x34.1), mT x34.2)) rfl (m_M_dueOf (len := len) (xs := xs) (d + 0) (0 : Int32) (gI x33 116 1) (0 : Int32) x33) (fun x34 => ?_)
            refine w_go K 3 (c' := (302, [some (.ref 116), some (.int x18.1), some (.int x34.1), some (.int 1), q29, q30], [], mT x34.2)) rfl ?_
            refine w_join K (fun (x38 : Int32 × mS) => ∀ (q39 : Option Value) (q40 : Option Value) (q41 : Option Value), mm_fix (mm_X len xs) mm_Y (mm_call (mm_X len xs) mm_Y (d + 5)) (mm_look mc_M_step) (417, [some (.ref 116), q39, some (.int x34.1), some (.int x38.1), q40, q41], [], mT x38.2) = T) (fun K hJ => tl_M_step_302 (len := len) (xs := xs) d x34.1 (T := T) K hJ mm_N (1 : Int32) _ _ _ x34.2) (fun x38 h1 h2 q39 q40 q41 => ?_)
            revert h1 h2
            refine w_go K 1 (c' := (418, [some (.ref 116), q39, some (.int x34.1), some (.int x38.1), q40, q41], [.ref 116], mT x38.2)) rfl ?_
            refine w_callL K (E := f_M_ends x38.2) (g := fun (x42 : mS) => (none, mT x42)) rfl (m_M_ends (len := len) (xs := xs) (d + 4) x38.2) (fun x42 => ?_)
            refine w_go K 9 (c' := (436, [some (.ref 116), q39, some (.int x34.1), some (.int x38.1), q40, q41], [], mT (sI (sI x42 116 3 0) 116 1 ((gI x42 116 1) + 1)))) rfl ?_
            exact w_ret K rfl (hK _)
theorem m_M_step {len : Nat} {xs : Nat → Int32}  (d : Nat)  (s : mS) : ok_M_step s → mm_call (mm_X len xs) mm_Y (d + 6) 180 [.ref 116] (mT s) = some (none, mT (f_M_step s)) := fun h => t_M_step (len := len) (xs := xs) d s (fun t => (some (none, mT t) : Option mm_R) = some (none, mT (f_M_step s))) (fun _ h => h) h rfl
def lp_M_steps_26 (a1 : Int32) : Nat → Int32 → mS → Int32 × mS
  | 0, v2, s => (v2, s)
  | n + 1, v2, s => (if a1 ≤ v2 then (v2, s) else (mq_let (f_M_step s) (fun (x11 : mS) => (lp_M_steps_26 a1 n (v2 + 1) x11))))
def okl_M_steps_26 (a1 : Int32) : Nat → Int32 → mS → Prop
  | 0, v2, s => False
  | n + 1, v2, s => (if a1 ≤ v2 then True else (ok_M_step s ∧ mq_letP (f_M_step s) (fun (x11 : mS) => (okl_M_steps_26 a1 n (v2 + 1) x11))))
set_option maxRecDepth 4000 in
theorem tl_M_steps_26 {len : Nat} {xs : Nat → Int32}  (d : Nat) (a1 : Int32)  {T : Option mm_R} (K : Int32 × mS → Prop) (hX : ∀ r, K r → mm_fix (mm_X len xs) mm_Y (mm_call (mm_X len xs) mm_Y (d + 6)) (mm_look mc_M_steps) (41, [some (.ref 116), some (.int a1), some (.int r.1)], [], mT r.2) = T) : ∀ (n : Nat), ∀ (v2 : Int32) (s : mS), okl_M_steps_26 a1 n v2 s → K (lp_M_steps_26 a1 n v2 s) → mm_fix (mm_X len xs) mm_Y (mm_call (mm_X len xs) mm_Y (d + 6)) (mm_look mc_M_steps) (26, [some (.ref 116), some (.int a1), some (.int v2)], [], mT s) = T := by
  intro n
  induction n with
  | zero => intro v2 s; exact fun h => h.elim
  | succ n ih =>
    intro v2 s
    rw [okl_M_steps_26, lp_M_steps_26]
    refine w_go K 2 (c' := (28, [some (.ref 116), some (.int a1), some (.int v2)], [.int a1, .int v2], mT s)) rfl ?_
    refine w_ige K rfl (fun _ => ?_) (fun _ => ?_)
    · refine w_go K 0 (c' := (41, [some (.ref 116), some (.int a1), some (.int v2)], [], mT s)) rfl ?_
      exact fun _ b => hX _ b
    · refine w_go K 1 (c' := (32, [some (.ref 116), some (.int a1), some (.int v2)], [.ref 116], mT s)) rfl ?_
      refine w_callL K (E := f_M_step s) (g := fun (x11 : mS) => (none, mT x11)) rfl (m_M_step (len := len) (xs := xs) (d + 0) s) (fun x11 => ?_)
      refine w_go K 2 (c' := (26, [some (.ref 116), some (.int a1), some (.int (v2 + 1))], [], mT x11)) rfl ?_
      exact fun a b => ih (v2 + 1) x11 a b
def f_M_steps (a1 : Int32) (s : mS) : Int32 × mS := (mq_let (f_M_isIn a1 (1 : Int32) (96 : Int32) s) (fun (x10 : Int32) => (if x10 = 0 then ((-1), s) else (if (gI s 116 1) ≤ (3999 - a1) then (mq_let (lp_M_steps_26 a1 mm_N (0 : Int32) s) (fun (x12 : Int32 × mS) => ((gI x12.2 116 1), x12.2))) else ((-1), s)))))
def ok_M_steps (a1 : Int32) (s : mS) : Prop := (True ∧ mq_letP (f_M_isIn a1 (1 : Int32) (96 : Int32) s) (fun (x10 : Int32) => (if x10 = 0 then True else (if (gI s 116 1) ≤ (3999 - a1) then (okl_M_steps_26 a1 mm_N (0 : Int32) s ∧ mq_letP (lp_M_steps_26 a1 mm_N (0 : Int32) s) (fun (x12 : Int32 × mS) => True)) else True))))
set_option maxRecDepth 4000 in
theorem t_M_steps {len : Nat} {xs : Nat → Int32}  (d : Nat) (a1 : Int32) (s : mS) {T : Option mm_R} (K : Int32 × mS → Prop) (hK : ∀ t, K t → some (some (.int t.1), mT t.2) = T) : ok_M_steps a1 s → K (f_M_steps a1 s) → mm_fix (mm_X len xs) mm_Y (mm_call (mm_X len xs) mm_Y (d + 6)) (mm_look mc_M_steps) (0, [some (.ref 116), some (.int a1), none], [], mT s) = T := by
  unfold ok_M_steps f_M_steps
  refine w_go K 3 (c' := (4, [some (.ref 116), some (.int a1), none], [.int 96, .int 1, .int a1], mT s)) rfl ?_
  refine w_callL K (E := f_M_isIn a1 (1 : Int32) (96 : Int32) s) (g := fun (x10 : Int32) => (some (.int x10), mT s)) rfl (m_M_isIn (len := len) (xs := xs) (d + 5) a1 (1 : Int32) (96 : Int32) s) (fun x10 => ?_)
  refine w_go K 0 (c' := (7, [some (.ref 116), some (.int a1), none], [.int x10], mT s)) rfl ?_
  refine w_zeq K rfl (fun _ => ?_) (fun _ => ?_)
  · refine w_go K 1 (c' := (23, [some (.ref 116), some (.int a1), none], [.int (-1)], mT s)) rfl ?_
    exact w_ret K rfl (hK _)
  · refine w_go K 5 (c' := (19, [some (.ref 116), some (.int a1), none], [.int (3999 - a1), .int (gI s 116 1)], mT s)) rfl ?_
    refine w_ile K rfl (fun _ => ?_) (fun _ => ?_)
    · refine w_go K 2 (c' := (26, [some (.ref 116), some (.int a1), some (.int 0)], [], mT s)) rfl ?_
      refine w_join K (fun (x12 : Int32 × mS) => mm_fix (mm_X len xs) mm_Y (mm_call (mm_X len xs) mm_Y (d + 6)) (mm_look mc_M_steps) (41, [some (.ref 116), some (.int a1), some (.int x12.1)], [], mT x12.2) = T) (fun K hJ => tl_M_steps_26 (len := len) (xs := xs) d a1 (T := T) K hJ mm_N (0 : Int32) s) (fun x12 h1 h2 => ?_)
      revert h1 h2
      refine w_go K 2 (c' := (45, [some (.ref 116), some (.int a1), some (.int x12.1)], [.int (gI x12.2 116 1)], mT x12.2)) rfl ?_
      exact w_ret K rfl (hK _)
    · refine w_go K 1 (c' := (23, [some (.ref 116), some (.int a1), none], [.int (-1)], mT s)) rfl ?_
      exact w_ret K rfl (hK _)
theorem m_M_steps {len : Nat} {xs : Nat → Int32}  (d : Nat) (a1 : Int32) (s : mS) : ok_M_steps a1 s → mm_call (mm_X len xs) mm_Y (d + 7) 179 [.ref 116, .int a1] (mT s) = some (some (.int (f_M_steps a1 s).1), mT (f_M_steps a1 s).2) := fun h => t_M_steps (len := len) (xs := xs) d a1 s (fun t => (some (some (.int t.1), mT t.2) : Option mm_R) = some (some (.int (f_M_steps a1 s).1), mT (f_M_steps a1 s).2)) (fun _ h => h) h rfl
def lp_Books_note_18 (a1 : Int32) (a2 : Int32) (a3 : Int32) (a4 : Int32) (s : mS) : Nat → Int32 → Int32 → Int32 × Int32
  | 0, v5, v6 => (v5, v6)
  | n + 1, v5, v6 => (if (gI s 82 8) ≤ v6 then (v5, v6) else (if (200 : Int32) ≤ v6 then (v5, v6) else (if (gI s 83 (ix v6)) = a1 then (lp_Books_note_18 a1 a2 a3 a4 s n v6 (v6 + 1)) else (lp_Books_note_18 a1 a2 a3 a4 s n v5 (v6 + 1)))))
def okl_Books_note_18 (a1 : Int32) (a2 : Int32) (a3 : Int32) (a4 : Int32) (s : mS) : Nat → Int32 → Int32 → Prop
  | 0, v5, v6 => False
  | n + 1, v5, v6 => (if (gI s 82 8) ≤ v6 then True else (if (200 : Int32) ≤ v6 then True else (mm_inb v6 200 = true ∧ (if (gI s 83 (ix v6)) = a1 then (okl_Books_note_18 a1 a2 a3 a4 s n v6 (v6 + 1)) else (okl_Books_note_18 a1 a2 a3 a4 s n v5 (v6 + 1))))))
set_option maxRecDepth 4000 in
theorem tl_Books_note_18 {len : Nat} {xs : Nat → Int32}  (d : Nat) (a1 : Int32) (a2 : Int32) (a3 : Int32) (a4 : Int32) (s : mS) {T : Option mm_R} (K : Int32 × Int32 → Prop) (hX : ∀ r, K r → mm_fix (mm_X len xs) mm_Y (mm_call (mm_X len xs) mm_Y (d + 0)) (mm_look mc_Books_note) (56, [some (.ref 82), some (.int a1), some (.int a2), some (.int a3), some (.int a4), some (.int r.1), some (.int r.2)], [], mT s) = T) : ∀ (n : Nat), ∀ (v5 : Int32) (v6 : Int32), okl_Books_note_18 a1 a2 a3 a4 s n v5 v6 → K (lp_Books_note_18 a1 a2 a3 a4 s n v5 v6) → mm_fix (mm_X len xs) mm_Y (mm_call (mm_X len xs) mm_Y (d + 0)) (mm_look mc_Books_note) (18, [some (.ref 82), some (.int a1), some (.int a2), some (.int a3), some (.int a4), some (.int v5), some (.int v6)], [], mT s) = T := by
  intro n
  induction n with
  | zero => intro v5 v6; exact fun h => h.elim
  | succ n ih =>
    intro v5 v6
    rw [okl_Books_note_18, lp_Books_note_18]
    refine w_go K 3 (c' := (24, [some (.ref 82), some (.int a1), some (.int a2), some (.int a3), some (.int a4), some (.int v5), some (.int v6)], [.int (gI s 82 8), .int v6], mT s)) rfl ?_
    refine w_ige K rfl (fun _ => ?_) (fun _ => ?_)
    · refine w_go K 0 (c' := (56, [some (.ref 82), some (.int a1), some (.int a2), some (.int a3), some (.int a4), some (.int v5), some (.int v6)], [], mT s)) rfl ?_
      exact fun _ b => hX _ b
    · refine w_go K 2 (c' := (32, [some (.ref 82), some (.int a1), some (.int a2), some (.int a3), some (.int a4), some (.int v5), some (.int v6)], [.int 200, .int v6], mT s)) rfl ?_
      refine w_ige K rfl (fun _ => ?_) (fun _ => ?_)
      · refine w_go K 0 (c' := (56, [some (.ref 82), some (.int a1), some (.int a2), some (.int a3), some (.int a4), some (.int v5), some (.int v6)], [], mT s)) rfl ?_
        exact fun _ b => hX _ b
      · refine w_go K 3 (c' := (41, [some (.ref 82), some (.int a1), some (.int a2), some (.int a3), some (.int a4), some (.int v5), some (.int v6)], [.int v6, .ref 83], mT s)) rfl ?_
        refine w_ck K (st_iL rfl rfl) ?_
        refine w_go K 1 (c' := (43, [some (.ref 82), some (.int a1), some (.int a2), some (.int a3), some (.int a4), some (.int v5), some (.int v6)], [.int a1, .int (gI s 83 (ix v6))], mT s)) rfl ?_
        refine w_ine K rfl (fun _ => ?_) (fun _ => ?_)
        · refine w_go K 4 (c' := (18, [some (.ref 82), some (.int a1), some (.int a2), some (.int a3), some (.int a4), some (.int v6), some (.int (v6 + 1))], [], mT s)) rfl ?_
          exact fun a b => ih v6 (v6 + 1) a b
        · refine w_go K 2 (c' := (18, [some (.ref 82), some (.int a1), some (.int a2), some (.int a3), some (.int a4), some (.int v5), some (.int (v6 + 1))], [], mT s)) rfl ?_
          exact fun a b => ih v5 (v6 + 1) a b
def f_Books_note (a1 : Int32) (a2 : Int32) (a3 : Int32) (a4 : Int32) (s : mS) : Int32 × mS := (if (gI s 82 8) < 200 then (mq_let (lp_Books_note_18 a1 a2 a3 a4 s mm_N ((-1) : Int32) (0 : Int32)) (fun (x10 : Int32 × Int32) => (mq_let (if x10.1 = (-1) then (0 : Int32) else ((gI s 84 (ix x10.1)) + 1)) (fun (x11 : Int32) => ((gI (sI (sI (sI s 83 (ix (gI s 82 8)) a1) 85 (ix (gI s 82 8)) x10.1) 84 (ix (gI s 82 8)) x11) 84 (ix (gI s 82 8))), sI (sI (sI (sI (sI (sI (sI s 83 (ix (gI s 82 8)) a1) 85 (ix (gI s 82 8)) x10.1) 84 (ix (gI s 82 8)) x11) 86 (ix (gI s 82 8)) a2) 87 (ix (gI s 82 8)) a3) 88 (ix (gI s 82 8)) a4) 82 8 ((gI s 82 8) + 1)))))) else ((-1), s))
def ok_Books_note (a1 : Int32) (a2 : Int32) (a3 : Int32) (a4 : Int32) (s : mS) : Prop := (if (gI s 82 8) < 200 then (okl_Books_note_18 a1 a2 a3 a4 s mm_N ((-1) : Int32) (0 : Int32) ∧ mq_letP (lp_Books_note_18 a1 a2 a3 a4 s mm_N ((-1) : Int32) (0 : Int32)) (fun (x10 : Int32 × Int32) => (mm_inb (gI s 82 8) 200 = true ∧ (mm_inb (gI s 82 8) 200 = true ∧ ((if x10.1 = (-1) then True else (mm_inb x10.1 200 = true ∧ True)) ∧ mq_letP (if x10.1 = (-1) then (0 : Int32) else ((gI s 84 (ix x10.1)) + 1)) (fun (x11 : Int32) => (mm_inb (gI s 82 8) 200 = true ∧ (mm_inb (gI s 82 8) 200 = true ∧ (mm_inb (gI s 82 8) 200 = true ∧ ((mm_inb (gI s 82 8) 200 && mm_bit a4) = true ∧ (mm_inb (gI s 82 8) 200 = true ∧ True))))))))))) else True)
set_option maxRecDepth 4000 in
theorem t_Books_note {len : Nat} {xs : Nat → Int32}  (d : Nat) (a1 : Int32) (a2 : Int32) (a3 : Int32) (a4 : Int32) (s : mS) {T : Option mm_R} (K : Int32 × mS → Prop) (hK : ∀ t, K t → some (some (.int t.1), mT t.2) = T) : ok_Books_note a1 a2 a3 a4 s → K (f_Books_note a1 a2 a3 a4 s) → mm_fix (mm_X len xs) mm_Y (mm_call (mm_X len xs) mm_Y (d + 0)) (mm_look mc_Books_note) (0, [some (.ref 82), some (.int a1), some (.int a2), some (.int a3), some (.int a4), none, none], [], mT s) = T := by
  unfold ok_Books_note f_Books_note
  refine w_go K 3 (c' := (7, [some (.ref 82), some (.int a1), some (.int a2), some (.int a3), some (.int a4), none, none], [.int 200, .int (gI s 82 8)], mT s)) rfl ?_
  refine w_ilt K rfl (fun _ => ?_) (fun _ => ?_)
  · refine w_go K 4 (c' := (18, [some (.ref 82), some (.int a1), some (.int a2), some (.int a3), some (.int a4), some (.int (-1)), some (.int 0)], [], mT s)) rfl ?_
    refine w_join K (fun (x10 : Int32 × Int32) => mm_fix (mm_X len xs) mm_Y (mm_call (mm_X len xs) mm_Y (d + 0)) (mm_look mc_Books_note) (56, [some (.ref 82), some (.int a1), some (.int a2), some (.int a3), some (.int a4), some (.int x10.1), some (.int x10.2)], [], mT s) = T) (fun K hJ => tl_Books_note_18 (len := len) (xs := xs) d a1 a2 a3 a4 s (T := T) K hJ mm_N ((-1) : Int32) (0 : Int32)) (fun x10 h1 h2 => ?_)
    revert h1 h2
    refine w_go K 5 (c' := (65, [some (.ref 82), some (.int a1), some (.int a2), some (.int a3), some (.int a4), some (.int x10.1), some (.int x10.2)], [.int a1, .int (gI s 82 8), .ref 83], mT s)) rfl ?_
    refine w_ck K (st_iS rfl rfl) ?_
    refine w_go K 5 (c' := (76, [some (.ref 82), some (.int a1), some (.int a2), some (.int a3), some (.int a4), some (.int x10.1), some (.int x10.2)], [.int x10.1, .int (gI s 82 8), .ref 85], mT (sI s 83 (ix (gI s 82 8)) a1))) rfl ?_
    refine w_ck K (st_iS rfl rfl) ?_
    refine w_go K 6 (c' := (88, [some (.ref 82), some (.int a1), some (.int a2), some (.int a3), some (.int a4), some (.int x10.1), some (.int x10.2)], [.int (-1), .int x10.1, .int (gI s 82 8), .ref 84], mT (sI (sI s 83 (ix (gI s 82 8)) a1) 85 (ix (gI s 82 8)) x10.1))) rfl ?_
    refine w_join K (fun (x11 : Int32) => mm_fix (mm_X len xs) mm_Y (mm_call (mm_X len xs) mm_Y (d + 0)) (mm_look mc_Books_note) (104, [some (.ref 82), some (.int a1), some (.int a2), some (.int a3), some (.int a4), some (.int x10.1), some (.int x10.2)], [.int x11, .int (gI s 82 8), .ref 84], mT (sI (sI s 83 (ix (gI s 82 8)) a1) 85 (ix (gI s 82 8)) x10.1)) = T) (fun K hJ => ?_) (fun x11 h1 h2 => ?_)
    · refine w_go K 0 (c' := (88, [some (.ref 82), some (.int a1), some (.int a2), some (.int a3), some (.int a4), some (.int x10.1), some (.int x10.2)], [.int (-1), .int x10.1, .int (gI s 82 8), .ref 84], mT (sI (sI s 83 (ix (gI s 82 8)) a1) 85 (ix (gI s 82 8)) x10.1))) rfl ?_
      refine w_ine K rfl (fun _ => ?_) (fun _ => ?_)
      · refine w_go K 2 (c' := (104, [some (.ref 82), some (.int a1), some (.int a2), some (.int a3), some (.int a4), some (.int x10.1), some (.int x10.2)], [.int 0, .int (gI s 82 8), .ref 84], mT (sI (sI s 83 (ix (gI s 82 8)) a1) 85 (ix (gI s 82 8)) x10.1))) rfl ?_
        exact fun _ h => hJ _ h
      · refine w_go K 3 (c' := (101, [some (.ref 82), some (.int a1), some (.int a2), some (.int a3), some (.int a4), some (.int x10.1), some (.int x10.2)], [.int x10.1, .ref 84, .int (gI s 82 8), .ref 84], mT (sI (sI s 83 (ix (gI s 82 8)) a1) 85 (ix (gI s 82 8)) x10.1))) rfl ?_
        refine w_ck K (st_iL rfl rfl) ?_
        refine w_go K 2 (c' := (104, [some (.ref 82), some (.int a1), some (.int a2), some (.int a3), some (.int a4), some (.int x10.1), some (.int x10.2)], [.int ((gI s 84 (ix x10.1)) + 1), .int (gI s 82 8), .ref 84], mT (sI (sI s 83 (ix (gI s 82 8)) a1) 85 (ix (gI s 82 8)) x10.1))) rfl ?_
        exact fun _ h => hJ _ h
    · revert h1 h2
      refine w_go K 0 (c' := (104, [some (.ref 82), some (.int a1), some (.int a2), some (.int a3), some (.int a4), some (.int x10.1), some (.int x10.2)], [.int x11, .int (gI s 82 8), .ref 84], mT (sI (sI s 83 (ix (gI s 82 8)) a1) 85 (ix (gI s 82 8)) x10.1))) rfl ?_
      refine w_ck K (st_iS rfl rfl) ?_
      refine w_go K 5 (c' := (114, [some (.ref 82), some (.int a1), some (.int a2), some (.int a3), some (.int a4), some (.int x10.1), some (.int x10.2)], [.int a2, .int (gI s 82 8), .ref 86], mT (sI (sI (sI s 83 (ix (gI s 82 8)) a1) 85 (ix (gI s 82 8)) x10.1) 84 (ix (gI s 82 8)) x11))) rfl ?_
      refine w_ck K (st_iS rfl rfl) ?_
      refine w_go K 5 (c' := (124, [some (.ref 82), some (.int a1), some (.int a2), some (.int a3), some (.int a4), some (.int x10.1), some (.int x10.2)], [.int a3, .int (gI s 82 8), .ref 87], mT (sI (sI (sI (sI s 83 (ix (gI s 82 8)) a1) 85 (ix (gI s 82 8)) x10.1) 84 (ix (gI s 82 8)) x11) 86 (ix (gI s 82 8)) a2))) rfl ?_
      refine w_ck K (st_iS rfl rfl) ?_
      refine w_go K 5 (c' := (135, [some (.ref 82), some (.int a1), some (.int a2), some (.int a3), some (.int a4), some (.int x10.1), some (.int x10.2)], [.int a4, .int (gI s 82 8), .ref 88], mT (sI (sI (sI (sI (sI s 83 (ix (gI s 82 8)) a1) 85 (ix (gI s 82 8)) x10.1) 84 (ix (gI s 82 8)) x11) 86 (ix (gI s 82 8)) a2) 87 (ix (gI s 82 8)) a3))) rfl ?_
      refine w_ck K (st_bS rfl rfl) ?_
      refine w_go K 9 (c' := (151, [some (.ref 82), some (.int a1), some (.int a2), some (.int a3), some (.int a4), some (.int x10.1), some (.int x10.2)], [.int (gI s 82 8), .ref 84], mT (sI (sI (sI (sI (sI (sI (sI s 83 (ix (gI s 82 8)) a1) 85 (ix (gI s 82 8)) x10.1) 84 (ix (gI s 82 8)) x11) 86 (ix (gI s 82 8)) a2) 87 (ix (gI s 82 8)) a3) 88 (ix (gI s 82 8)) a4) 82 8 ((gI s 82 8) + 1)))) rfl ?_
      refine w_ck K (st_iL rfl rfl) ?_
      refine w_go K 0 (c' := (152, [some (.ref 82), some (.int a1), some (.int a2), some (.int a3), some (.int a4), some (.int x10.1), some (.int x10.2)], [.int (gI (sI (sI (sI s 83 (ix (gI s 82 8)) a1) 85 (ix (gI s 82 8)) x10.1) 84 (ix (gI s 82 8)) x11) 84 (ix (gI s 82 8)))], mT (sI (sI (sI (sI (sI (sI (sI s 83 (ix (gI s 82 8)) a1) 85 (ix (gI s 82 8)) x10.1) 84 (ix (gI s 82 8)) x11) 86 (ix (gI s 82 8)) a2) 87 (ix (gI s 82 8)) a3) 88 (ix (gI s 82 8)) a4) 82 8 ((gI s 82 8) + 1)))) rfl ?_
      exact w_ret K rfl (hK _)
  · refine w_go K 1 (c' := (11, [some (.ref 82), some (.int a1), some (.int a2), some (.int a3), some (.int a4), none, none], [.int (-1)], mT s)) rfl ?_
    exact w_ret K rfl (hK _)
theorem m_Books_note {len : Nat} {xs : Nat → Int32}  (d : Nat) (a1 : Int32) (a2 : Int32) (a3 : Int32) (a4 : Int32) (s : mS) : ok_Books_note a1 a2 a3 a4 s → mm_call (mm_X len xs) mm_Y (d + 1) 71 [.ref 82, .int a1, .int a2, .int a3, .int a4] (mT s) = some (some (.int (f_Books_note a1 a2 a3 a4 s).1), mT (f_Books_note a1 a2 a3 a4 s).2) := fun h => t_Books_note (len := len) (xs := xs) d a1 a2 a3 a4 s (fun t => (some (some (.int t.1), mT t.2) : Option mm_R) = some (some (.int (f_Books_note a1 a2 a3 a4 s).1), mT (f_Books_note a1 a2 a3 a4 s).2)) (fun _ h => h) h rfl
def f_G_read (a1 : Int32) (s : mS) : Int32 × mS := (mq_let (f_Things_isA a1 (0 : Int32) s) (fun (x10 : Int32) => (if x10 = 0 then ((-1), s) else (mq_let (f_Books_note a1 (gI s 0 9) (gI s 20 (ix a1)) (gI s 18 (ix a1)) s) (fun (x11 : Int32 × mS) => (x11.1, x11.2))))))
def ok_G_read (a1 : Int32) (s : mS) : Prop := (ok_Things_isA a1 (0 : Int32) s ∧ mq_letP (f_Things_isA a1 (0 : Int32) s) (fun (x10 : Int32) => (if x10 = 0 then True else (mm_inb a1 40 = true ∧ (mm_inb a1 40 = true ∧ (ok_Books_note a1 (gI s 0 9) (gI s 20 (ix a1)) (gI s 18 (ix a1)) s ∧ mq_letP (f_Books_note a1 (gI s 0 9) (gI s 20 (ix a1)) (gI s 18 (ix a1)) s) (fun (x11 : Int32 × mS) => True)))))))
set_option maxRecDepth 4000 in
theorem t_G_read {len : Nat} {xs : Nat → Int32}  (d : Nat) (a1 : Int32) (s : mS) {T : Option mm_R} (K : Int32 × mS → Prop) (hK : ∀ t, K t → some (some (.int t.1), mT t.2) = T) : ok_G_read a1 s → K (f_G_read a1 s) → mm_fix (mm_X len xs) mm_Y (mm_call (mm_X len xs) mm_Y (d + 2)) (mm_look mc_G_read) (0, [some (.ref 0), some (.int a1)], [], mT s) = T := by
  unfold ok_G_read f_G_read
  refine w_go K 4 (c' := (6, [some (.ref 0), some (.int a1)], [.int 0, .int a1, .ref 12], mT s)) rfl ?_
  refine w_callL K (E := f_Things_isA a1 (0 : Int32) s) (g := fun (x10 : Int32) => (some (.int x10), mT s)) rfl (m_Things_isA (len := len) (xs := xs) (d + 0) a1 (0 : Int32) s) (fun x10 => ?_)
  refine w_go K 0 (c' := (9, [some (.ref 0), some (.int a1)], [.int x10], mT s)) rfl ?_
  refine w_zne K rfl (fun _ => ?_) (fun _ => ?_)
  · refine w_go K 1 (c' := (13, [some (.ref 0), some (.int a1)], [.int (-1)], mT s)) rfl ?_
    exact w_ret K rfl (hK _)
  · refine w_go K 9 (c' := (31, [some (.ref 0), some (.int a1)], [.int a1, .ref 20, .int (gI s 0 9), .int a1, .ref 82], mT s)) rfl ?_
    refine w_ck K (st_iL rfl rfl) ?_
    refine w_go K 4 (c' := (40, [some (.ref 0), some (.int a1)], [.int a1, .ref 18, .int (gI s 20 (ix a1)), .int (gI s 0 9), .int a1, .ref 82], mT s)) rfl ?_
    refine w_ck K (st_bL rfl rfl) ?_
    refine w_go K 0 (c' := (41, [some (.ref 0), some (.int a1)], [.int (gI s 18 (ix a1)), .int (gI s 20 (ix a1)), .int (gI s 0 9), .int a1, .ref 82], mT s)) rfl ?_
    refine w_callL K (E := f_Books_note a1 (gI s 0 9) (gI s 20 (ix a1)) (gI s 18 (ix a1)) s) (g := fun (x11 : Int32 × mS) => (some (.int x11.1), mT x11.2)) rfl (m_Books_note (len := len) (xs := xs) (d + 1) a1 (gI s 0 9) (gI s 20 (ix a1)) (gI s 18 (ix a1)) s) (fun x11 => ?_)
    refine w_go K 0 (c' := (44, [some (.ref 0), some (.int a1)], [.int x11.1], mT x11.2)) rfl ?_
    exact w_ret K rfl (hK _)
theorem m_G_read {len : Nat} {xs : Nat → Int32}  (d : Nat) (a1 : Int32) (s : mS) : ok_G_read a1 s → mm_call (mm_X len xs) mm_Y (d + 3) 70 [.ref 0, .int a1] (mT s) = some (some (.int (f_G_read a1 s).1), mT (f_G_read a1 s).2) := fun h => t_G_read (len := len) (xs := xs) d a1 s (fun t => (some (some (.int t.1), mT t.2) : Option mm_R) = some (some (.int (f_G_read a1 s).1), mT (f_G_read a1 s).2)) (fun _ h => h) h rfl
def lp_M_read_24 (a1 : Int32) (s : mS) : Nat → Int32 → Int32 → Int32 × Int32
  | 0, v2, v3 => (v2, v3)
  | n + 1, v2, v3 => (if (gI s 116 57) ≤ v3 then (v2, v3) else (if (gI s 150 (ix v3)) = a1 then (lp_M_read_24 a1 s n (v2 + 1) (v3 + 1)) else (lp_M_read_24 a1 s n (v2 + 0) (v3 + 1))))
def okl_M_read_24 (a1 : Int32) (s : mS) : Nat → Int32 → Int32 → Prop
  | 0, v2, v3 => False
  | n + 1, v2, v3 => (if (gI s 116 57) ≤ v3 then True else (mm_inb v3 200 = true ∧ (if (gI s 150 (ix v3)) = a1 then (okl_M_read_24 a1 s n (v2 + 1) (v3 + 1)) else (okl_M_read_24 a1 s n (v2 + 0) (v3 + 1)))))
set_option maxRecDepth 4000 in
theorem tl_M_read_24 {len : Nat} {xs : Nat → Int32}  (d : Nat) (a1 : Int32) (s : mS) {T : Option mm_R} (K : Int32 × Int32 → Prop) (hX : ∀ r, K r → mm_fix (mm_X len xs) mm_Y (mm_call (mm_X len xs) mm_Y (d + 3)) (mm_look mc_M_read) (56, [some (.ref 116), some (.int a1), some (.int r.1), some (.int r.2)], [], mT s) = T) : ∀ (n : Nat), ∀ (v2 : Int32) (v3 : Int32), okl_M_read_24 a1 s n v2 v3 → K (lp_M_read_24 a1 s n v2 v3) → mm_fix (mm_X len xs) mm_Y (mm_call (mm_X len xs) mm_Y (d + 3)) (mm_look mc_M_read) (24, [some (.ref 116), some (.int a1), some (.int v2), some (.int v3)], [], mT s) = T := by
  intro n
  induction n with
  | zero => intro v2 v3; exact fun h => h.elim
  | succ n ih =>
    intro v2 v3
    rw [okl_M_read_24, lp_M_read_24]
    refine w_go K 3 (c' := (29, [some (.ref 116), some (.int a1), some (.int v2), some (.int v3)], [.int (gI s 116 57), .int v3], mT s)) rfl ?_
    refine w_ige K rfl (fun _ => ?_) (fun _ => ?_)
    · refine w_go K 0 (c' := (56, [some (.ref 116), some (.int a1), some (.int v2), some (.int v3)], [], mT s)) rfl ?_
      exact fun _ b => hX _ b
    · refine w_go K 4 (c' := (38, [some (.ref 116), some (.int a1), some (.int v2), some (.int v3)], [.int v3, .ref 150, .int v2], mT s)) rfl ?_
      refine w_ck K (st_iL rfl rfl) ?_
      refine w_go K 1 (c' := (40, [some (.ref 116), some (.int a1), some (.int v2), some (.int v3)], [.int a1, .int (gI s 150 (ix v3)), .int v2], mT s)) rfl ?_
      refine w_ine K rfl (fun _ => ?_) (fun _ => ?_)
      · refine w_go K 6 (c' := (24, [some (.ref 116), some (.int a1), some (.int (v2 + 1)), some (.int (v3 + 1))], [], mT s)) rfl ?_
        exact fun a b => ih (v2 + 1) (v3 + 1) a b
      · refine w_go K 5 (c' := (24, [some (.ref 116), some (.int a1), some (.int (v2 + 0)), some (.int (v3 + 1))], [], mT s)) rfl ?_
        exact fun a b => ih (v2 + 0) (v3 + 1) a b
def f_M_read (a1 : Int32) (s : mS) : Int32 × mS := (mq_let (f_M_isHouse a1 s) (fun (x10 : Int32) => (if x10 = 0 then ((-1), s) else (if (gI s 116 57) = 200 then ((-1), s) else (mq_let (lp_M_read_24 a1 s mm_N (0 : Int32) (0 : Int32)) (fun (x11 : Int32 × Int32) => (x11.1, sI (sI (sI (sI (sI s 150 (ix (gI s 116 57)) a1) 151 (ix (gI s 116 57)) (gI s 116 1)) 152 (ix (gI s 116 57)) (gI s 137 (ix a1))) 156 (ix (gI s 116 57)) (gI s 141 (ix a1))) 116 57 ((gI s 116 57) + 1))))))))
def ok_M_read (a1 : Int32) (s : mS) : Prop := (ok_M_isHouse a1 s ∧ mq_letP (f_M_isHouse a1 s) (fun (x10 : Int32) => (if x10 = 0 then True else (if (gI s 116 57) = 200 then True else (okl_M_read_24 a1 s mm_N (0 : Int32) (0 : Int32) ∧ mq_letP (lp_M_read_24 a1 s mm_N (0 : Int32) (0 : Int32)) (fun (x11 : Int32 × Int32) => (mm_inb (gI s 116 57) 200 = true ∧ (mm_inb (gI s 116 57) 200 = true ∧ (mm_inb a1 40 = true ∧ (mm_inb (gI s 116 57) 200 = true ∧ (mm_inb a1 40 = true ∧ ((mm_inb (gI s 116 57) 200 && mm_bit (gI s 141 (ix a1))) = true ∧ True))))))))))))
set_option maxRecDepth 4000 in
theorem t_M_read {len : Nat} {xs : Nat → Int32}  (d : Nat) (a1 : Int32) (s : mS) {T : Option mm_R} (K : Int32 × mS → Prop) (hK : ∀ t, K t → some (some (.int t.1), mT t.2) = T) : ok_M_read a1 s → K (f_M_read a1 s) → mm_fix (mm_X len xs) mm_Y (mm_call (mm_X len xs) mm_Y (d + 3)) (mm_look mc_M_read) (0, [some (.ref 116), some (.int a1), none, none], [], mT s) = T := by
  unfold ok_M_read f_M_read
  refine w_go K 2 (c' := (2, [some (.ref 116), some (.int a1), none, none], [.int a1, .ref 116], mT s)) rfl ?_
  refine w_callL K (E := f_M_isHouse a1 s) (g := fun (x10 : Int32) => (some (.int x10), mT s)) rfl (m_M_isHouse (len := len) (xs := xs) (d + 0) a1 s) (fun x10 => ?_)
  refine w_go K 0 (c' := (5, [some (.ref 116), some (.int a1), none, none], [.int x10], mT s)) rfl ?_
  refine w_zeq K rfl (fun _ => ?_) (fun _ => ?_)
  · refine w_go K 1 (c' := (19, [some (.ref 116), some (.int a1), none, none], [.int (-1)], mT s)) rfl ?_
    exact w_ret K rfl (hK _)
  · refine w_go K 3 (c' := (15, [some (.ref 116), some (.int a1), none, none], [.int 200, .int (gI s 116 57)], mT s)) rfl ?_
    refine w_ine K rfl (fun _ => ?_) (fun _ => ?_)
    · refine w_go K 1 (c' := (19, [some (.ref 116), some (.int a1), none, none], [.int (-1)], mT s)) rfl ?_
      exact w_ret K rfl (hK _)
    · refine w_go K 4 (c' := (24, [some (.ref 116), some (.int a1), some (.int 0), some (.int 0)], [], mT s)) rfl ?_
      refine w_join K (fun (x11 : Int32 × Int32) => mm_fix (mm_X len xs) mm_Y (mm_call (mm_X len xs) mm_Y (d + 3)) (mm_look mc_M_read) (56, [some (.ref 116), some (.int a1), some (.int x11.1), some (.int x11.2)], [], mT s) = T) (fun K hJ => tl_M_read_24 (len := len) (xs := xs) d a1 s (T := T) K hJ mm_N (0 : Int32) (0 : Int32)) (fun x11 h1 h2 => ?_)
      revert h1 h2
      refine w_go K 5 (c' := (65, [some (.ref 116), some (.int a1), some (.int x11.1), some (.int x11.2)], [.int a1, .int (gI s 116 57), .ref 150], mT s)) rfl ?_
      refine w_ck K (st_iS rfl rfl) ?_
      refine w_go K 6 (c' := (78, [some (.ref 116), some (.int a1), some (.int x11.1), some (.int x11.2)], [.int (gI s 116 1), .int (gI s 116 57), .ref 151], mT (sI s 150 (ix (gI s 116 57)) a1))) rfl ?_
      refine w_ck K (st_iS rfl rfl) ?_
      refine w_go K 7 (c' := (92, [some (.ref 116), some (.int a1), some (.int x11.1), some (.int x11.2)], [.int a1, .ref 137, .int (gI s 116 57), .ref 152], mT (sI (sI s 150 (ix (gI s 116 57)) a1) 151 (ix (gI s 116 57)) (gI s 116 1)))) rfl ?_
      refine w_ck K (st_iL rfl rfl) ?_
      refine w_go K 0 (c' := (93, [some (.ref 116), some (.int a1), some (.int x11.1), some (.int x11.2)], [.int (gI s 137 (ix a1)), .int (gI s 116 57), .ref 152], mT (sI (sI s 150 (ix (gI s 116 57)) a1) 151 (ix (gI s 116 57)) (gI s 116 1)))) rfl ?_
      refine w_ck K (st_iS rfl rfl) ?_
      refine w_go K 7 (c' := (107, [some (.ref 116), some (.int a1), some (.int x11.1), some (.int x11.2)], [.int a1, .ref 141, .int (gI s 116 57), .ref 156], mT (sI (sI (sI s 150 (ix (gI s 116 57)) a1) 151 (ix (gI s 116 57)) (gI s 116 1)) 152 (ix (gI s 116 57)) (gI s 137 (ix a1))))) rfl ?_
      refine w_ck K (st_bL rfl rfl) ?_
      refine w_go K 0 (c' := (108, [some (.ref 116), some (.int a1), some (.int x11.1), some (.int x11.2)], [.int (gI s 141 (ix a1)), .int (gI s 116 57), .ref 156], mT (sI (sI (sI s 150 (ix (gI s 116 57)) a1) 151 (ix (gI s 116 57)) (gI s 116 1)) 152 (ix (gI s 116 57)) (gI s 137 (ix a1))))) rfl ?_
      refine w_ck K (st_bS rfl rfl) ?_
      refine w_go K 7 (c' := (120, [some (.ref 116), some (.int a1), some (.int x11.1), some (.int x11.2)], [.int x11.1], mT (sI (sI (sI (sI (sI s 150 (ix (gI s 116 57)) a1) 151 (ix (gI s 116 57)) (gI s 116 1)) 152 (ix (gI s 116 57)) (gI s 137 (ix a1))) 156 (ix (gI s 116 57)) (gI s 141 (ix a1))) 116 57 ((gI s 116 57) + 1)))) rfl ?_
      exact w_ret K rfl (hK _)
theorem m_M_read {len : Nat} {xs : Nat → Int32}  (d : Nat) (a1 : Int32) (s : mS) : ok_M_read a1 s → mm_call (mm_X len xs) mm_Y (d + 4) 196 [.ref 116, .int a1] (mT s) = some (some (.int (f_M_read a1 s).1), mT (f_M_read a1 s).2) := fun h => t_M_read (len := len) (xs := xs) d a1 s (fun t => (some (some (.int t.1), mT t.2) : Option mm_R) = some (some (.int (f_M_read a1 s).1), mT (f_M_read a1 s).2)) (fun _ h => h) h rfl
def lp_Books_readingOf_2 (a1 : Int32) (a2 : Int32) (s : mS) : Nat → Int32 → Option Int32 × Int32
  | 0, v3 => (none, v3)
  | n + 1, v3 => (if (gI s 82 8) ≤ v3 then (none, v3) else (if (200 : Int32) ≤ v3 then (none, v3) else (if (gI s 83 (ix v3)) = a1 then (if (gI s 84 (ix v3)) = a2 then (some v3, v3) else (lp_Books_readingOf_2 a1 a2 s n (v3 + 1))) else (lp_Books_readingOf_2 a1 a2 s n (v3 + 1)))))
def okl_Books_readingOf_2 (a1 : Int32) (a2 : Int32) (s : mS) : Nat → Int32 → Prop
  | 0, v3 => False
  | n + 1, v3 => (if (gI s 82 8) ≤ v3 then True else (if (200 : Int32) ≤ v3 then True else (mm_inb v3 200 = true ∧ (if (gI s 83 (ix v3)) = a1 then (mm_inb v3 200 = true ∧ (if (gI s 84 (ix v3)) = a2 then True else (okl_Books_readingOf_2 a1 a2 s n (v3 + 1)))) else (okl_Books_readingOf_2 a1 a2 s n (v3 + 1))))))
set_option maxRecDepth 4000 in
theorem tl_Books_readingOf_2 {len : Nat} {xs : Nat → Int32}  (d : Nat) (a1 : Int32) (a2 : Int32) (s : mS) {T : Option mm_R} (K : Option Int32 × Int32 → Prop) (hX : ∀ r, K r → r.1 = none → mm_fix (mm_X len xs) mm_Y (mm_call (mm_X len xs) mm_Y (d + 0)) (mm_look mc_Books_readingOf) (45, [some (.ref 82), some (.int a1), some (.int a2), some (.int r.2)], [], mT s) = T) (hR : ∀ r, K r → ∀ v, r.1 = some v → some (some (.int v), mT s) = T) : ∀ (n : Nat), ∀ (v3 : Int32), okl_Books_readingOf_2 a1 a2 s n v3 → K (lp_Books_readingOf_2 a1 a2 s n v3) → mm_fix (mm_X len xs) mm_Y (mm_call (mm_X len xs) mm_Y (d + 0)) (mm_look mc_Books_readingOf) (2, [some (.ref 82), some (.int a1), some (.int a2), some (.int v3)], [], mT s) = T := by
  intro n
  induction n with
  | zero => intro v3; exact fun h => h.elim
  | succ n ih =>
    intro v3
    rw [okl_Books_readingOf_2, lp_Books_readingOf_2]
    refine w_go K 3 (c' := (7, [some (.ref 82), some (.int a1), some (.int a2), some (.int v3)], [.int (gI s 82 8), .int v3], mT s)) rfl ?_
    refine w_ige K rfl (fun _ => ?_) (fun _ => ?_)
    · refine w_go K 0 (c' := (45, [some (.ref 82), some (.int a1), some (.int a2), some (.int v3)], [], mT s)) rfl ?_
      exact fun _ b => hX _ b rfl
    · refine w_go K 2 (c' := (14, [some (.ref 82), some (.int a1), some (.int a2), some (.int v3)], [.int 200, .int v3], mT s)) rfl ?_
      refine w_ige K rfl (fun _ => ?_) (fun _ => ?_)
      · refine w_go K 0 (c' := (45, [some (.ref 82), some (.int a1), some (.int a2), some (.int v3)], [], mT s)) rfl ?_
        exact fun _ b => hX _ b rfl
      · refine w_go K 3 (c' := (22, [some (.ref 82), some (.int a1), some (.int a2), some (.int v3)], [.int v3, .ref 83], mT s)) rfl ?_
        refine w_ck K (st_iL rfl rfl) ?_
        refine w_go K 1 (c' := (24, [some (.ref 82), some (.int a1), some (.int a2), some (.int v3)], [.int a1, .int (gI s 83 (ix v3))], mT s)) rfl ?_
        refine w_ine K rfl (fun _ => ?_) (fun _ => ?_)
        · refine w_go K 3 (c' := (32, [some (.ref 82), some (.int a1), some (.int a2), some (.int v3)], [.int v3, .ref 84], mT s)) rfl ?_
          refine w_ck K (st_iL rfl rfl) ?_
          refine w_go K 1 (c' := (34, [some (.ref 82), some (.int a1), some (.int a2), some (.int v3)], [.int a2, .int (gI s 84 (ix v3))], mT s)) rfl ?_
          refine w_ine K rfl (fun _ => ?_) (fun _ => ?_)
          · refine w_go K 1 (c' := (38, [some (.ref 82), some (.int a1), some (.int a2), some (.int v3)], [.int v3], mT s)) rfl ?_
            exact w_ret K rfl (fun h => hR _ h _ rfl)
          · refine w_go K 2 (c' := (2, [some (.ref 82), some (.int a1), some (.int a2), some (.int (v3 + 1))], [], mT s)) rfl ?_
            exact fun a b => ih (v3 + 1) a b
        · refine w_go K 2 (c' := (2, [some (.ref 82), some (.int a1), some (.int a2), some (.int (v3 + 1))], [], mT s)) rfl ?_
          exact fun a b => ih (v3 + 1) a b
def f_Books_readingOf (a1 : Int32) (a2 : Int32) (s : mS) : Int32 := (mq_let (lp_Books_readingOf_2 a1 a2 s mm_N (0 : Int32)) (fun (x10 : Option Int32 × Int32) => mq_el x10.1 (fun v => v) (-1)))
def ok_Books_readingOf (a1 : Int32) (a2 : Int32) (s : mS) : Prop := (okl_Books_readingOf_2 a1 a2 s mm_N (0 : Int32) ∧ mq_letP (lp_Books_readingOf_2 a1 a2 s mm_N (0 : Int32)) (fun (x10 : Option Int32 × Int32) => mq_elP x10.1 True))
set_option maxRecDepth 4000 in
theorem t_Books_readingOf {len : Nat} {xs : Nat → Int32}  (d : Nat) (a1 : Int32) (a2 : Int32) (s : mS) {T : Option mm_R} (K : Int32 → Prop) (hK : ∀ t, K t → some (some (.int t), mT s) = T) : ok_Books_readingOf a1 a2 s → K (f_Books_readingOf a1 a2 s) → mm_fix (mm_X len xs) mm_Y (mm_call (mm_X len xs) mm_Y (d + 0)) (mm_look mc_Books_readingOf) (0, [some (.ref 82), some (.int a1), some (.int a2), none], [], mT s) = T := by
  unfold ok_Books_readingOf f_Books_readingOf
  refine w_go K 2 (c' := (2, [some (.ref 82), some (.int a1), some (.int a2), some (.int 0)], [], mT s)) rfl ?_
  refine w_join K (fun (x10 : Option Int32 × Int32) => (x10.1 = none → mm_fix (mm_X len xs) mm_Y (mm_call (mm_X len xs) mm_Y (d + 0)) (mm_look mc_Books_readingOf) (45, [some (.ref 82), some (.int a1), some (.int a2), some (.int x10.2)], [], mT s) = T) ∧ (∀ v, x10.1 = some v → some (some (.int v), mT s) = T)) (fun K hJ => tl_Books_readingOf_2 (len := len) (xs := xs) d a1 a2 s (T := T) K (fun r hr => (hJ r hr).1) (fun r hr => (hJ r hr).2) mm_N (0 : Int32)) (fun x10 h1 h2 => w_el K (fun v hv h => hK _ h) (fun h1 h2 => ?_) h1 h2)
  revert h1 h2
  refine w_go K 1 (c' := (46, [some (.ref 82), some (.int a1), some (.int a2), some (.int x10.2)], [.int (-1)], mT s)) rfl ?_
  exact w_ret K rfl (hK _)
theorem m_Books_readingOf {len : Nat} {xs : Nat → Int32}  (d : Nat) (a1 : Int32) (a2 : Int32) (s : mS) : ok_Books_readingOf a1 a2 s → mm_call (mm_X len xs) mm_Y (d + 1) 73 [.ref 82, .int a1, .int a2] (mT s) = some (some (.int (f_Books_readingOf a1 a2 s)), mT s) := fun h => t_Books_readingOf (len := len) (xs := xs) d a1 a2 s (fun t => (some (some (.int t), mT s) : Option mm_R) = some (some (.int (f_Books_readingOf a1 a2 s)), mT s)) (fun _ h => h) h rfl
def f_Books_correct (a1 : Int32) (a2 : Int32) (a3 : Int32) (s : mS) : Int32 × mS := (if (gI s 82 12) < 100 then (1, sI (sI (sI (sI s 91 (ix (gI s 82 12)) a1) 92 (ix (gI s 82 12)) a2) 93 (ix (gI s 82 12)) a3) 82 12 ((gI s 82 12) + 1)) else (0, s))
def ok_Books_correct (a1 : Int32) (a2 : Int32) (a3 : Int32) (s : mS) : Prop := (if (gI s 82 12) < 100 then (mm_inb (gI s 82 12) 100 = true ∧ (mm_inb (gI s 82 12) 100 = true ∧ (mm_inb (gI s 82 12) 100 = true ∧ True))) else True)
set_option maxRecDepth 4000 in
theorem t_Books_correct {len : Nat} {xs : Nat → Int32}  (d : Nat) (a1 : Int32) (a2 : Int32) (a3 : Int32) (s : mS) {T : Option mm_R} (K : Int32 × mS → Prop) (hK : ∀ t, K t → some (some (.int t.1), mT t.2) = T) : ok_Books_correct a1 a2 a3 s → K (f_Books_correct a1 a2 a3 s) → mm_fix (mm_X len xs) mm_Y (mm_call (mm_X len xs) mm_Y (d + 0)) (mm_look mc_Books_correct) (0, [some (.ref 82), some (.int a1), some (.int a2), some (.int a3)], [], mT s) = T := by
  unfold ok_Books_correct f_Books_correct
  refine w_go K 3 (c' := (6, [some (.ref 82), some (.int a1), some (.int a2), some (.int a3)], [.int 100, .int (gI s 82 12)], mT s)) rfl ?_
  refine w_ilt K rfl (fun _ => ?_) (fun _ => ?_)
  · refine w_go K 5 (c' := (20, [some (.ref 82), some (.int a1), some (.int a2), some (.int a3)], [.int a1, .int (gI s 82 12), .ref 91], mT s)) rfl ?_
    refine w_ck K (st_iS rfl rfl) ?_
    refine w_go K 5 (c' := (30, [some (.ref 82), some (.int a1), some (.int a2), some (.int a3)], [.int a2, .int (gI s 82 12), .ref 92], mT (sI s 91 (ix (gI s 82 12)) a1))) rfl ?_
    refine w_ck K (st_iS rfl rfl) ?_
    refine w_go K 5 (c' := (40, [some (.ref 82), some (.int a1), some (.int a2), some (.int a3)], [.int a3, .int (gI s 82 12), .ref 93], mT (sI (sI s 91 (ix (gI s 82 12)) a1) 92 (ix (gI s 82 12)) a2))) rfl ?_
    refine w_ck K (st_iS rfl rfl) ?_
    refine w_go K 7 (c' := (52, [some (.ref 82), some (.int a1), some (.int a2), some (.int a3)], [.int 1], mT (sI (sI (sI (sI s 91 (ix (gI s 82 12)) a1) 92 (ix (gI s 82 12)) a2) 93 (ix (gI s 82 12)) a3) 82 12 ((gI s 82 12) + 1)))) rfl ?_
    exact w_ret K rfl (hK _)
  · refine w_go K 1 (c' := (10, [some (.ref 82), some (.int a1), some (.int a2), some (.int a3)], [.int 0], mT s)) rfl ?_
    exact w_ret K rfl (hK _)
theorem m_Books_correct {len : Nat} {xs : Nat → Int32}  (d : Nat) (a1 : Int32) (a2 : Int32) (a3 : Int32) (s : mS) : ok_Books_correct a1 a2 a3 s → mm_call (mm_X len xs) mm_Y (d + 1) 74 [.ref 82, .int a1, .int a2, .int a3] (mT s) = some (some (.int (f_Books_correct a1 a2 a3 s).1), mT (f_Books_correct a1 a2 a3 s).2) := fun h => t_Books_correct (len := len) (xs := xs) d a1 a2 a3 s (fun t => (some (some (.int t.1), mT t.2) : Option mm_R) = some (some (.int (f_Books_correct a1 a2 a3 s).1), mT (f_Books_correct a1 a2 a3 s).2)) (fun _ h => h) h rfl
def f_G_right (a1 : Int32) (a2 : Int32) (a3 : Int32) (s : mS) : Int32 × mS := (mq_let (f_Books_readingOf a1 a2 s) (fun (x10 : Int32) => (if x10 = (-1) then (0, s) else (mq_let (f_G_within a3 (0 : Int32) (999999 : Int32) s) (fun (x11 : Int32) => (if x11 = 0 then (0, s) else (mq_let (f_Books_correct x10 a3 (gI s 0 9) s) (fun (x12 : Int32 × mS) => (x12.1, x12.2)))))))))
def ok_G_right (a1 : Int32) (a2 : Int32) (a3 : Int32) (s : mS) : Prop := (ok_Books_readingOf a1 a2 s ∧ mq_letP (f_Books_readingOf a1 a2 s) (fun (x10 : Int32) => (if x10 = (-1) then True else (True ∧ mq_letP (f_G_within a3 (0 : Int32) (999999 : Int32) s) (fun (x11 : Int32) => (if x11 = 0 then True else (ok_Books_correct x10 a3 (gI s 0 9) s ∧ mq_letP (f_Books_correct x10 a3 (gI s 0 9) s) (fun (x12 : Int32 × mS) => mm_bit x12.1 = true))))))))
set_option maxRecDepth 4000 in
theorem t_G_right {len : Nat} {xs : Nat → Int32}  (d : Nat) (a1 : Int32) (a2 : Int32) (a3 : Int32) (s : mS) {T : Option mm_R} (K : Int32 × mS → Prop) (hK : ∀ t, K t → some (some (.int t.1), mT t.2) = T) : ok_G_right a1 a2 a3 s → K (f_G_right a1 a2 a3 s) → mm_fix (mm_X len xs) mm_Y (mm_call (mm_X len xs) mm_Y (d + 1)) (mm_look mc_G_right) (0, [some (.ref 0), some (.int a1), some (.int a2), some (.int a3), none], [], mT s) = T := by
  unfold ok_G_right f_G_right
  refine w_go K 4 (c' := (6, [some (.ref 0), some (.int a1), some (.int a2), some (.int a3), none], [.int a2, .int a1, .ref 82], mT s)) rfl ?_
  refine w_callL K (E := f_Books_readingOf a1 a2 s) (g := fun (x10 : Int32) => (some (.int x10), mT s)) rfl (m_Books_readingOf (len := len) (xs := xs) (d + 0) a1 a2 s) (fun x10 => ?_)
  refine w_go K 3 (c' := (14, [some (.ref 0), some (.int a1), some (.int a2), some (.int a3), some (.int x10)], [.int (-1), .int x10], mT s)) rfl ?_
  refine w_ieq K rfl (fun _ => ?_) (fun _ => ?_)
  · refine w_go K 1 (c' := (28, [some (.ref 0), some (.int a1), some (.int a2), some (.int a3), some (.int x10)], [.int 0], mT s)) rfl ?_
    exact w_ret K rfl (hK _)
  · refine w_go K 3 (c' := (21, [some (.ref 0), some (.int a1), some (.int a2), some (.int a3), some (.int x10)], [.int 999999, .int 0, .int a3], mT s)) rfl ?_
    refine w_callL K (E := f_G_within a3 (0 : Int32) (999999 : Int32) s) (g := fun (x11 : Int32) => (some (.int x11), mT s)) rfl (m_G_within (len := len) (xs := xs) (d + 0) a3 (0 : Int32) (999999 : Int32) s) (fun x11 => ?_)
    refine w_go K 0 (c' := (24, [some (.ref 0), some (.int a1), some (.int a2), some (.int a3), some (.int x10)], [.int x11], mT s)) rfl ?_
    refine w_zne K rfl (fun _ => ?_) (fun _ => ?_)
    · refine w_go K 1 (c' := (28, [some (.ref 0), some (.int a1), some (.int a2), some (.int a3), some (.int x10)], [.int 0], mT s)) rfl ?_
      exact w_ret K rfl (hK _)
    · refine w_go K 6 (c' := (40, [some (.ref 0), some (.int a1), some (.int a2), some (.int a3), some (.int x10)], [.int (gI s 0 9), .int a3, .int x10, .ref 82], mT s)) rfl ?_
      refine w_callL K (E := f_Books_correct x10 a3 (gI s 0 9) s) (g := fun (x12 : Int32 × mS) => (some (.int x12.1), mT x12.2)) rfl (m_Books_correct (len := len) (xs := xs) (d + 0) x10 a3 (gI s 0 9) s) (fun x12 => ?_)
      refine w_go K 0 (c' := (43, [some (.ref 0), some (.int a1), some (.int a2), some (.int a3), some (.int x10)], [.int x12.1], mT x12.2)) rfl ?_
      exact w_retb K rfl (hK _)
theorem m_G_right {len : Nat} {xs : Nat → Int32}  (d : Nat) (a1 : Int32) (a2 : Int32) (a3 : Int32) (s : mS) : ok_G_right a1 a2 a3 s → mm_call (mm_X len xs) mm_Y (d + 2) 72 [.ref 0, .int a1, .int a2, .int a3] (mT s) = some (some (.int (f_G_right a1 a2 a3 s).1), mT (f_G_right a1 a2 a3 s).2) := fun h => t_G_right (len := len) (xs := xs) d a1 a2 a3 s (fun t => (some (some (.int t.1), mT t.2) : Option mm_R) = some (some (.int (f_G_right a1 a2 a3 s).1), mT (f_G_right a1 a2 a3 s).2)) (fun _ h => h) h rfl
def lp_M_readingOf_5 (a1 : Int32) (a2 : Int32) (s : mS) : Nat → Int32 → Int32 → Option Int32 × Int32 × Int32
  | 0, v3, v4 => (none, v3, v4)
  | n + 1, v3, v4 => (if (gI s 116 57) ≤ v4 then (none, v3, v4) else (if (gI s 150 (ix v4)) = a1 then (if v3 = a2 then (some v4, v3, v4) else (lp_M_readingOf_5 a1 a2 s n (v3 + 1) (v4 + 1))) else (lp_M_readingOf_5 a1 a2 s n v3 (v4 + 1))))
def okl_M_readingOf_5 (a1 : Int32) (a2 : Int32) (s : mS) : Nat → Int32 → Int32 → Prop
  | 0, v3, v4 => False
  | n + 1, v3, v4 => (if (gI s 116 57) ≤ v4 then True else (mm_inb v4 200 = true ∧ (if (gI s 150 (ix v4)) = a1 then (if v3 = a2 then True else (okl_M_readingOf_5 a1 a2 s n (v3 + 1) (v4 + 1))) else (okl_M_readingOf_5 a1 a2 s n v3 (v4 + 1)))))
set_option maxRecDepth 4000 in
theorem tl_M_readingOf_5 {len : Nat} {xs : Nat → Int32}  (d : Nat) (a1 : Int32) (a2 : Int32) (s : mS) {T : Option mm_R} (K : Option Int32 × Int32 × Int32 → Prop) (hX : ∀ r, K r → r.1 = none → mm_fix (mm_X len xs) mm_Y (mm_call (mm_X len xs) mm_Y (d + 0)) (mm_look mc_M_readingOf) (45, [some (.ref 116), some (.int a1), some (.int a2), some (.int r.2.1), some (.int r.2.2)], [], mT s) = T) (hR : ∀ r, K r → ∀ v, r.1 = some v → some (some (.int v), mT s) = T) : ∀ (n : Nat), ∀ (v3 : Int32) (v4 : Int32), okl_M_readingOf_5 a1 a2 s n v3 v4 → K (lp_M_readingOf_5 a1 a2 s n v3 v4) → mm_fix (mm_X len xs) mm_Y (mm_call (mm_X len xs) mm_Y (d + 0)) (mm_look mc_M_readingOf) (5, [some (.ref 116), some (.int a1), some (.int a2), some (.int v3), some (.int v4)], [], mT s) = T := by
  intro n
  induction n with
  | zero => intro v3 v4; exact fun h => h.elim
  | succ n ih =>
    intro v3 v4
    rw [okl_M_readingOf_5, lp_M_readingOf_5]
    refine w_go K 3 (c' := (11, [some (.ref 116), some (.int a1), some (.int a2), some (.int v3), some (.int v4)], [.int (gI s 116 57), .int v4], mT s)) rfl ?_
    refine w_ige K rfl (fun _ => ?_) (fun _ => ?_)
    · refine w_go K 0 (c' := (45, [some (.ref 116), some (.int a1), some (.int a2), some (.int v3), some (.int v4)], [], mT s)) rfl ?_
      exact fun _ b => hX _ b rfl
    · refine w_go K 3 (c' := (20, [some (.ref 116), some (.int a1), some (.int a2), some (.int v3), some (.int v4)], [.int v4, .ref 150], mT s)) rfl ?_
      refine w_ck K (st_iL rfl rfl) ?_
      refine w_go K 1 (c' := (22, [some (.ref 116), some (.int a1), some (.int a2), some (.int v3), some (.int v4)], [.int a1, .int (gI s 150 (ix v4))], mT s)) rfl ?_
      refine w_ieq K rfl (fun _ => ?_) (fun _ => ?_)
      · refine w_go K 2 (c' := (30, [some (.ref 116), some (.int a1), some (.int a2), some (.int v3), some (.int v4)], [.int a2, .int v3], mT s)) rfl ?_
        refine w_ine K rfl (fun _ => ?_) (fun _ => ?_)
        · refine w_go K 1 (c' := (35, [some (.ref 116), some (.int a1), some (.int a2), some (.int v3), some (.int v4)], [.int v4], mT s)) rfl ?_
          exact w_ret K rfl (fun h => hR _ h _ rfl)
        · refine w_go K 3 (c' := (5, [some (.ref 116), some (.int a1), some (.int a2), some (.int (v3 + 1)), some (.int (v4 + 1))], [], mT s)) rfl ?_
          exact fun a b => ih (v3 + 1) (v4 + 1) a b
      · refine w_go K 3 (c' := (5, [some (.ref 116), some (.int a1), some (.int a2), some (.int v3), some (.int (v4 + 1))], [], mT s)) rfl ?_
        exact fun a b => ih v3 (v4 + 1) a b
def f_M_readingOf (a1 : Int32) (a2 : Int32) (s : mS) : Int32 := (mq_let (lp_M_readingOf_5 a1 a2 s mm_N (0 : Int32) (0 : Int32)) (fun (x10 : Option Int32 × Int32 × Int32) => mq_el x10.1 (fun v => v) (-1)))
def ok_M_readingOf (a1 : Int32) (a2 : Int32) (s : mS) : Prop := (okl_M_readingOf_5 a1 a2 s mm_N (0 : Int32) (0 : Int32) ∧ mq_letP (lp_M_readingOf_5 a1 a2 s mm_N (0 : Int32) (0 : Int32)) (fun (x10 : Option Int32 × Int32 × Int32) => mq_elP x10.1 True))
set_option maxRecDepth 4000 in
theorem t_M_readingOf {len : Nat} {xs : Nat → Int32}  (d : Nat) (a1 : Int32) (a2 : Int32) (s : mS) {T : Option mm_R} (K : Int32 → Prop) (hK : ∀ t, K t → some (some (.int t), mT s) = T) : ok_M_readingOf a1 a2 s → K (f_M_readingOf a1 a2 s) → mm_fix (mm_X len xs) mm_Y (mm_call (mm_X len xs) mm_Y (d + 0)) (mm_look mc_M_readingOf) (0, [some (.ref 116), some (.int a1), some (.int a2), none, none], [], mT s) = T := by
  unfold ok_M_readingOf f_M_readingOf
  refine w_go K 4 (c' := (5, [some (.ref 116), some (.int a1), some (.int a2), some (.int 0), some (.int 0)], [], mT s)) rfl ?_
  refine w_join K (fun (x10 : Option Int32 × Int32 × Int32) => (x10.1 = none → mm_fix (mm_X len xs) mm_Y (mm_call (mm_X len xs) mm_Y (d + 0)) (mm_look mc_M_readingOf) (45, [some (.ref 116), some (.int a1), some (.int a2), some (.int x10.2.1), some (.int x10.2.2)], [], mT s) = T) ∧ (∀ v, x10.1 = some v → some (some (.int v), mT s) = T)) (fun K hJ => tl_M_readingOf_5 (len := len) (xs := xs) d a1 a2 s (T := T) K (fun r hr => (hJ r hr).1) (fun r hr => (hJ r hr).2) mm_N (0 : Int32) (0 : Int32)) (fun x10 h1 h2 => w_el K (fun v hv h => hK _ h) (fun h1 h2 => ?_) h1 h2)
  revert h1 h2
  refine w_go K 1 (c' := (46, [some (.ref 116), some (.int a1), some (.int a2), some (.int x10.2.1), some (.int x10.2.2)], [.int (-1)], mT s)) rfl ?_
  exact w_ret K rfl (hK _)
theorem m_M_readingOf {len : Nat} {xs : Nat → Int32}  (d : Nat) (a1 : Int32) (a2 : Int32) (s : mS) : ok_M_readingOf a1 a2 s → mm_call (mm_X len xs) mm_Y (d + 1) 198 [.ref 116, .int a1, .int a2] (mT s) = some (some (.int (f_M_readingOf a1 a2 s)), mT s) := fun h => t_M_readingOf (len := len) (xs := xs) d a1 a2 s (fun t => (some (some (.int t), mT s) : Option mm_R) = some (some (.int (f_M_readingOf a1 a2 s)), mT s)) (fun _ h => h) h rfl
def f_M_right (a1 : Int32) (a2 : Int32) (a3 : Int32) (s : mS) : Int32 × mS := (mq_let (f_M_isHouse a1 s) (fun (x10 : Int32) => (if x10 = 0 then (0, s) else (if a2 < 0 then (0, s) else (mq_let (f_M_readingOf a1 a2 s) (fun (x11 : Int32) => (if x11 = (-1) then (0, s) else (mq_let (f_M_isIn a3 (0 : Int32) (999999 : Int32) s) (fun (x12 : Int32) => (if x12 = 0 then (0, s) else (if (gI s 116 58) = 100 then (0, s) else (mq_let (f_M_readingOf a1 a2 s) (fun (x13 : Int32) => (1, sI (sI (sI (sI s 153 (ix (gI s 116 58)) x13) 154 (ix (gI s 116 58)) (gI s 116 1)) 155 (ix (gI s 116 58)) a3) 116 58 ((gI s 116 58) + 1)))))))))))))))
def ok_M_right (a1 : Int32) (a2 : Int32) (a3 : Int32) (s : mS) : Prop := (ok_M_isHouse a1 s ∧ mq_letP (f_M_isHouse a1 s) (fun (x10 : Int32) => (if x10 = 0 then True else (if a2 < 0 then True else (ok_M_readingOf a1 a2 s ∧ mq_letP (f_M_readingOf a1 a2 s) (fun (x11 : Int32) => (if x11 = (-1) then True else (True ∧ mq_letP (f_M_isIn a3 (0 : Int32) (999999 : Int32) s) (fun (x12 : Int32) => (if x12 = 0 then True else (if (gI s 116 58) = 100 then True else (ok_M_readingOf a1 a2 s ∧ mq_letP (f_M_readingOf a1 a2 s) (fun (x13 : Int32) => (mm_inb (gI s 116 58) 100 = true ∧ (mm_inb (gI s 116 58) 100 = true ∧ (mm_inb (gI s 116 58) 100 = true ∧ True))))))))))))))))
set_option maxRecDepth 4000 in
theorem t_M_right {len : Nat} {xs : Nat → Int32}  (d : Nat) (a1 : Int32) (a2 : Int32) (a3 : Int32) (s : mS) {T : Option mm_R} (K : Int32 × mS → Prop) (hK : ∀ t, K t → some (some (.int t.1), mT t.2) = T) : ok_M_right a1 a2 a3 s → K (f_M_right a1 a2 a3 s) → mm_fix (mm_X len xs) mm_Y (mm_call (mm_X len xs) mm_Y (d + 3)) (mm_look mc_M_right) (0, [some (.ref 116), some (.int a1), some (.int a2), some (.int a3)], [], mT s) = T := by
  unfold ok_M_right f_M_right
  refine w_go K 2 (c' := (2, [some (.ref 116), some (.int a1), some (.int a2), some (.int a3)], [.int a1, .ref 116], mT s)) rfl ?_
  refine w_callL K (E := f_M_isHouse a1 s) (g := fun (x10 : Int32) => (some (.int x10), mT s)) rfl (m_M_isHouse (len := len) (xs := xs) (d + 0) a1 s) (fun x10 => ?_)
  refine w_go K 0 (c' := (5, [some (.ref 116), some (.int a1), some (.int a2), some (.int a3)], [.int x10], mT s)) rfl ?_
  refine w_zeq K rfl (fun _ => ?_) (fun _ => ?_)
  · refine w_go K 1 (c' := (43, [some (.ref 116), some (.int a1), some (.int a2), some (.int a3)], [.int 0], mT s)) rfl ?_
    exact w_ret K rfl (hK _)
  · refine w_go K 1 (c' := (9, [some (.ref 116), some (.int a1), some (.int a2), some (.int a3)], [.int a2], mT s)) rfl ?_
    refine w_zlt K rfl (fun _ => ?_) (fun _ => ?_)
    · refine w_go K 1 (c' := (43, [some (.ref 116), some (.int a1), some (.int a2), some (.int a3)], [.int 0], mT s)) rfl ?_
      exact w_ret K rfl (hK _)
    · refine w_go K 3 (c' := (15, [some (.ref 116), some (.int a1), some (.int a2), some (.int a3)], [.int a2, .int a1, .ref 116], mT s)) rfl ?_
      refine w_callL K (E := f_M_readingOf a1 a2 s) (g := fun (x11 : Int32) => (some (.int x11), mT s)) rfl (m_M_readingOf (len := len) (xs := xs) (d + 2) a1 a2 s) (fun x11 => ?_)
      refine w_go K 1 (c' := (19, [some (.ref 116), some (.int a1), some (.int a2), some (.int a3)], [.int (-1), .int x11], mT s)) rfl ?_
      refine w_ieq K rfl (fun _ => ?_) (fun _ => ?_)
      · refine w_go K 1 (c' := (43, [some (.ref 116), some (.int a1), some (.int a2), some (.int a3)], [.int 0], mT s)) rfl ?_
        exact w_ret K rfl (hK _)
      · refine w_go K 3 (c' := (27, [some (.ref 116), some (.int a1), some (.int a2), some (.int a3)], [.int 999999, .int 0, .int a3], mT s)) rfl ?_
        refine w_callL K (E := f_M_isIn a3 (0 : Int32) (999999 : Int32) s) (g := fun (x12 : Int32) => (some (.int x12), mT s)) rfl (m_M_isIn (len := len) (xs := xs) (d + 2) a3 (0 : Int32) (999999 : Int32) s) (fun x12 => ?_)
        refine w_go K 0 (c' := (30, [some (.ref 116), some (.int a1), some (.int a2), some (.int a3)], [.int x12], mT s)) rfl ?_
        refine w_zeq K rfl (fun _ => ?_) (fun _ => ?_)
        · refine w_go K 1 (c' := (43, [some (.ref 116), some (.int a1), some (.int a2), some (.int a3)], [.int 0], mT s)) rfl ?_
          exact w_ret K rfl (hK _)
        · refine w_go K 3 (c' := (39, [some (.ref 116), some (.int a1), some (.int a2), some (.int a3)], [.int 100, .int (gI s 116 58)], mT s)) rfl ?_
          refine w_ine K rfl (fun _ => ?_) (fun _ => ?_)
          · refine w_go K 1 (c' := (43, [some (.ref 116), some (.int a1), some (.int a2), some (.int a3)], [.int 0], mT s)) rfl ?_
            exact w_ret K rfl (hK _)
          · refine w_go K 7 (c' := (55, [some (.ref 116), some (.int a1), some (.int a2), some (.int a3)], [.int a2, .int a1, .ref 116, .int (gI s 116 58), .ref 153], mT s)) rfl ?_
            refine w_callL K (E := f_M_readingOf a1 a2 s) (g := fun (x13 : Int32) => (some (.int x13), mT s)) rfl (m_M_readingOf (len := len) (xs := xs) (d + 2) a1 a2 s) (fun x13 => ?_)
            refine w_go K 0 (c' := (58, [some (.ref 116), some (.int a1), some (.int a2), some (.int a3)], [.int x13, .int (gI s 116 58), .ref 153], mT s)) rfl ?_
            refine w_ck K (st_iS rfl rfl) ?_
            refine w_go K 6 (c' := (71, [some (.ref 116), some (.int a1), some (.int a2), some (.int a3)], [.int (gI s 116 1), .int (gI s 116 58), .ref 154], mT (sI s 153 (ix (gI s 116 58)) x13))) rfl ?_
            refine w_ck K (st_iS rfl rfl) ?_
            refine w_go K 5 (c' := (81, [some (.ref 116), some (.int a1), some (.int a2), some (.int a3)], [.int a3, .int (gI s 116 58), .ref 155], mT (sI (sI s 153 (ix (gI s 116 58)) x13) 154 (ix (gI s 116 58)) (gI s 116 1)))) rfl ?_
            refine w_ck K (st_iS rfl rfl) ?_
            refine w_go K 7 (c' := (93, [some (.ref 116), some (.int a1), some (.int a2), some (.int a3)], [.int 1], mT (sI (sI (sI (sI s 153 (ix (gI s 116 58)) x13) 154 (ix (gI s 116 58)) (gI s 116 1)) 155 (ix (gI s 116 58)) a3) 116 58 ((gI s 116 58) + 1)))) rfl ?_
            exact w_ret K rfl (hK _)
theorem m_M_right {len : Nat} {xs : Nat → Int32}  (d : Nat) (a1 : Int32) (a2 : Int32) (a3 : Int32) (s : mS) : ok_M_right a1 a2 a3 s → mm_call (mm_X len xs) mm_Y (d + 4) 197 [.ref 116, .int a1, .int a2, .int a3] (mT s) = some (some (.int (f_M_right a1 a2 a3 s).1), mT (f_M_right a1 a2 a3 s).2) := fun h => t_M_right (len := len) (xs := xs) d a1 a2 a3 s (fun t => (some (some (.int t.1), mT t.2) : Option mm_R) = some (some (.int (f_M_right a1 a2 a3 s).1), mT (f_M_right a1 a2 a3 s).2)) (fun _ h => h) h rfl
def f_Books_unitsOf (a1 : Int32) (s : mS) : Int64 := (if (gI s 85 (ix a1)) < 0 then 0 else (if (gI s 85 (ix a1)) < (gI s 82 8) then (if (gI s 88 (ix a1)) = 0 then (Int32.toInt64 (if (0 : Int32) < ((gI s 89 (ix a1)) - (gI s 89 (ix (gI s 85 (ix a1))))) then ((gI s 89 (ix a1)) - (gI s 89 (ix (gI s 85 (ix a1))))) else (0 : Int32))) else (if (gI s 85 (ix (gI s 85 (ix a1)))) < 0 then 0 else (if (gI s 85 (ix (gI s 85 (ix a1)))) < (gI s 82 8) then (if (0 : Int32) < ((gI s 86 (ix (gI s 85 (ix a1)))) - (gI s 86 (ix (gI s 85 (ix (gI s 85 (ix a1))))))) then (((gL s 90 (ix (gI s 85 (ix a1)))) * (Int32.toInt64 ((gI s 86 (ix a1)) - (gI s 86 (ix (gI s 85 (ix a1))))))) / (Int32.toInt64 ((gI s 86 (ix (gI s 85 (ix a1)))) - (gI s 86 (ix (gI s 85 (ix (gI s 85 (ix a1))))))))) else 0) else 0))) else 0))
def ok_Books_unitsOf (a1 : Int32) (s : mS) : Prop := (mm_inb a1 200 = true ∧ (if (gI s 85 (ix a1)) < 0 then True else (if (gI s 85 (ix a1)) < (gI s 82 8) then (mm_inb a1 200 = true ∧ (if (gI s 88 (ix a1)) = 0 then (mm_inb a1 200 = true ∧ (mm_inb (gI s 85 (ix a1)) 200 = true ∧ True)) else (mm_inb (gI s 85 (ix a1)) 200 = true ∧ (if (gI s 85 (ix (gI s 85 (ix a1)))) < 0 then True else (if (gI s 85 (ix (gI s 85 (ix a1)))) < (gI s 82 8) then (mm_inb (gI s 85 (ix a1)) 200 = true ∧ (mm_inb (gI s 85 (ix (gI s 85 (ix a1)))) 200 = true ∧ (if (0 : Int32) < ((gI s 86 (ix (gI s 85 (ix a1)))) - (gI s 86 (ix (gI s 85 (ix (gI s 85 (ix a1))))))) then (mm_inb (gI s 85 (ix a1)) 200 = true ∧ (mm_inb a1 200 = true ∧ (mm_inb (gI s 85 (ix a1)) 200 = true ∧ ((!(decide ((Int32.toInt64 ((gI s 86 (ix (gI s 85 (ix a1)))) - (gI s 86 (ix (gI s 85 (ix (gI s 85 (ix a1)))))))) = (0 : Int64)))) = true ∧ True)))) else True))) else True))))) else True)))
set_option maxRecDepth 4000 in
theorem t_Books_unitsOf {len : Nat} {xs : Nat → Int32}  (d : Nat) (a1 : Int32) (s : mS) {T : Option mm_R} (K : Int64 → Prop) (hK : ∀ t, K t → some (some (.long t), mT s) = T) : ok_Books_unitsOf a1 s → K (f_Books_unitsOf a1 s) → mm_fix (mm_X len xs) mm_Y (mm_call (mm_X len xs) mm_Y (d + 0)) (mm_look mc_Books_unitsOf) (0, [some (.ref 82), some (.int a1), none, none, none], [], mT s) = T := by
  unfold ok_Books_unitsOf f_Books_unitsOf
  refine w_go K 3 (c' := (5, [some (.ref 82), some (.int a1), none, none, none], [.int a1, .ref 85], mT s)) rfl ?_
  refine w_ck K (st_iL rfl rfl) ?_
  refine w_go K 2 (c' := (8, [some (.ref 82), some (.int a1), some (.int (gI s 85 (ix a1))), none, none], [.int (gI s 85 (ix a1))], mT s)) rfl ?_
  refine w_zlt K rfl (fun _ => ?_) (fun _ => ?_)
  · refine w_go K 1 (c' := (20, [some (.ref 82), some (.int a1), some (.int (gI s 85 (ix a1))), none, none], [.long 0], mT s)) rfl ?_
    exact w_ret K rfl (hK _)
  · refine w_go K 3 (c' := (16, [some (.ref 82), some (.int a1), some (.int (gI s 85 (ix a1))), none, none], [.int (gI s 82 8), .int (gI s 85 (ix a1))], mT s)) rfl ?_
    refine w_ilt K rfl (fun _ => ?_) (fun _ => ?_)
    · refine w_go K 3 (c' := (26, [some (.ref 82), some (.int a1), some (.int (gI s 85 (ix a1))), none, none], [.int a1, .ref 88], mT s)) rfl ?_
      refine w_ck K (st_bL rfl rfl) ?_
      refine w_go K 0 (c' := (27, [some (.ref 82), some (.int a1), some (.int (gI s 85 (ix a1))), none, none], [.int (gI s 88 (ix a1))], mT s)) rfl ?_
      refine w_zne K rfl (fun _ => ?_) (fun _ => ?_)
      · refine w_go K 4 (c' := (36, [some (.ref 82), some (.int a1), some (.int (gI s 85 (ix a1))), none, none], [.int a1, .ref 89, .int 0], mT s)) rfl ?_
        refine w_ck K (st_iL rfl rfl) ?_
        refine w_go K 3 (c' := (42, [some (.ref 82), some (.int a1), some (.int (gI s 85 (ix a1))), none, none], [.int (gI s 85 (ix a1)), .ref 89, .int (gI s 89 (ix a1)), .int 0], mT s)) rfl ?_
        refine w_ck K (st_iL rfl rfl) ?_
        refine w_go K 3 (c' := (48, [some (.ref 82), some (.int a1), some (.int (gI s 85 (ix a1))), none, none], [.long (Int32.toInt64 (if (0 : Int32) < ((gI s 89 (ix a1)) - (gI s 89 (ix (gI s 85 (ix a1))))) then ((gI s 89 (ix a1)) - (gI s 89 (ix (gI s 85 (ix a1))))) else (0 : Int32)))], mT s)) rfl ?_
        exact w_ret K rfl (hK _)
      · refine w_go K 3 (c' := (54, [some (.ref 82), some (.int a1), some (.int (gI s 85 (ix a1))), none, none], [.int (gI s 85 (ix a1)), .ref 85], mT s)) rfl ?_
        refine w_ck K (st_iL rfl rfl) ?_
        refine w_go K 2 (c' := (57, [some (.ref 82), some (.int a1), some (.int (gI s 85 (ix a1))), some (.int (gI s 85 (ix (gI s 85 (ix a1))))), none], [.int (gI s 85 (ix (gI s 85 (ix a1))))], mT s)) rfl ?_
        refine w_zlt K rfl (fun _ => ?_) (fun _ => ?_)
        · refine w_go K 1 (c' := (69, [some (.ref 82), some (.int a1), some (.int (gI s 85 (ix a1))), some (.int (gI s 85 (ix (gI s 85 (ix a1))))), none], [.long 0], mT s)) rfl ?_
          exact w_ret K rfl (hK _)
        · refine w_go K 3 (c' := (65, [some (.ref 82), some (.int a1), some (.int (gI s 85 (ix a1))), some (.int (gI s 85 (ix (gI s 85 (ix a1))))), none], [.int (gI s 82 8), .int (gI s 85 (ix (gI s 85 (ix a1))))], mT s)) rfl ?_
          refine w_ilt K rfl (fun _ => ?_) (fun _ => ?_)
          · refine w_go K 3 (c' := (75, [some (.ref 82), some (.int a1), some (.int (gI s 85 (ix a1))), some (.int (gI s 85 (ix (gI s 85 (ix a1))))), none], [.int (gI s 85 (ix a1)), .ref 86], mT s)) rfl ?_
            refine w_ck K (st_iL rfl rfl) ?_
            refine w_go K 3 (c' := (81, [some (.ref 82), some (.int a1), some (.int (gI s 85 (ix a1))), some (.int (gI s 85 (ix (gI s 85 (ix a1))))), none], [.int (gI s 85 (ix (gI s 85 (ix a1)))), .ref 86, .int (gI s 86 (ix (gI s 85 (ix a1))))], mT s)) rfl ?_
            refine w_ck K (st_iL rfl rfl) ?_
            refine w_go K 3 (c' := (87, [some (.ref 82), some (.int a1), some (.int (gI s 85 (ix a1))), some (.int (gI s 85 (ix (gI s 85 (ix a1))))), some (.int ((gI s 86 (ix (gI s 85 (ix a1)))) - (gI s 86 (ix (gI s 85 (ix (gI s 85 (ix a1))))))))], [.int ((gI s 86 (ix (gI s 85 (ix a1)))) - (gI s 86 (ix (gI s 85 (ix (gI s 85 (ix a1)))))))], mT s)) rfl ?_
            refine w_zgt K rfl (fun _ => ?_) (fun _ => ?_)
            · refine w_go K 3 (c' := (99, [some (.ref 82), some (.int a1), some (.int (gI s 85 (ix a1))), some (.int (gI s 85 (ix (gI s 85 (ix a1))))), some (.int ((gI s 86 (ix (gI s 85 (ix a1)))) - (gI s 86 (ix (gI s 85 (ix (gI s 85 (ix a1))))))))], [.int (gI s 85 (ix a1)), .ref 90], mT s)) rfl ?_
              refine w_ck K (st_lL rfl rfl) ?_
              refine w_go K 3 (c' := (105, [some (.ref 82), some (.int a1), some (.int (gI s 85 (ix a1))), some (.int (gI s 85 (ix (gI s 85 (ix a1))))), some (.int ((gI s 86 (ix (gI s 85 (ix a1)))) - (gI s 86 (ix (gI s 85 (ix (gI s 85 (ix a1))))))))], [.int a1, .ref 86, .long (gL s 90 (ix (gI s 85 (ix a1))))], mT s)) rfl ?_
              refine w_ck K (st_iL rfl rfl) ?_
              refine w_go K 3 (c' := (111, [some (.ref 82), some (.int a1), some (.int (gI s 85 (ix a1))), some (.int (gI s 85 (ix (gI s 85 (ix a1))))), some (.int ((gI s 86 (ix (gI s 85 (ix a1)))) - (gI s 86 (ix (gI s 85 (ix (gI s 85 (ix a1))))))))], [.int (gI s 85 (ix a1)), .ref 86, .int (gI s 86 (ix a1)), .long (gL s 90 (ix (gI s 85 (ix a1))))], mT s)) rfl ?_
              refine w_ck K (st_iL rfl rfl) ?_
              refine w_go K 5 (c' := (118, [some (.ref 82), some (.int a1), some (.int (gI s 85 (ix a1))), some (.int (gI s 85 (ix (gI s 85 (ix a1))))), some (.int ((gI s 86 (ix (gI s 85 (ix a1)))) - (gI s 86 (ix (gI s 85 (ix (gI s 85 (ix a1))))))))], [.long (Int32.toInt64 ((gI s 86 (ix (gI s 85 (ix a1)))) - (gI s 86 (ix (gI s 85 (ix (gI s 85 (ix a1)))))))), .long ((gL s 90 (ix (gI s 85 (ix a1)))) * (Int32.toInt64 ((gI s 86 (ix a1)) - (gI s 86 (ix (gI s 85 (ix a1)))))))], mT s)) rfl ?_
              refine w_ck K rfl ?_
              refine w_go K 0 (c' := (119, [some (.ref 82), some (.int a1), some (.int (gI s 85 (ix a1))), some (.int (gI s 85 (ix (gI s 85 (ix a1))))), some (.int ((gI s 86 (ix (gI s 85 (ix a1)))) - (gI s 86 (ix (gI s 85 (ix (gI s 85 (ix a1))))))))], [.long (((gL s 90 (ix (gI s 85 (ix a1)))) * (Int32.toInt64 ((gI s 86 (ix a1)) - (gI s 86 (ix (gI s 85 (ix a1))))))) / (Int32.toInt64 ((gI s 86 (ix (gI s 85 (ix a1)))) - (gI s 86 (ix (gI s 85 (ix (gI s 85 (ix a1)))))))))], mT s)) rfl ?_
              exact w_ret K rfl (hK _)
            · refine w_go K 2 (c' := (119, [some (.ref 82), some (.int a1), some (.int (gI s 85 (ix a1))), some (.int (gI s 85 (ix (gI s 85 (ix a1))))), some (.int ((gI s 86 (ix (gI s 85 (ix a1)))) - (gI s 86 (ix (gI s 85 (ix (gI s 85 (ix a1))))))))], [.long 0], mT s)) rfl ?_
              exact w_ret K rfl (hK _)
          · refine w_go K 1 (c' := (69, [some (.ref 82), some (.int a1), some (.int (gI s 85 (ix a1))), some (.int (gI s 85 (ix (gI s 85 (ix a1))))), none], [.long 0], mT s)) rfl ?_
            exact w_ret K rfl (hK _)
    · refine w_go K 1 (c' := (20, [some (.ref 82), some (.int a1), some (.int (gI s 85 (ix a1))), none, none], [.long 0], mT s)) rfl ?_
      exact w_ret K rfl (hK _)
theorem m_Books_unitsOf {len : Nat} {xs : Nat → Int32}  (d : Nat) (a1 : Int32) (s : mS) : ok_Books_unitsOf a1 s → mm_call (mm_X len xs) mm_Y (d + 1) 77 [.ref 82, .int a1] (mT s) = some (some (.long (f_Books_unitsOf a1 s)), mT s) := fun h => t_Books_unitsOf (len := len) (xs := xs) d a1 s (fun t => (some (some (.long t), mT s) : Option mm_R) = some (some (.long (f_Books_unitsOf a1 s)), mT s)) (fun _ h => h) h rfl
