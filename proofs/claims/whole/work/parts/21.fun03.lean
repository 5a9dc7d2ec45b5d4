/-! FUNCTIONS OF METHODS, by program: f_ what it does, ok_ that no row fails, m_ the small machine does so. -/
def lp_Net_press_27_31  : Nat → Int32 → Int32 → mS → Int32 × Int32 × mS
  | 0, v2, v3, s => (v2, v3, s)
  | n + 1, v2, v3, s => (if (gI s 25 10) ≤ v3 then (v2, v3, s) else (if (16 : Int32) ≤ v3 then (v2, v3, s) else (mq_let (if (16 : Int32) ≤ v3 then (0 : Int32) else (((gI s 27 (ix v3)) * (gI s 31 (ix v3))) / 100)) (fun (x11 : Int32) => (mq_let (f_Net_pressureBehind v3 x11 s) (fun (x12 : Int32) => (mq_let (if v2 = 0 then (0 : Int32) else (if (gI s 30 (ix v3)) = x12 then (1 : Int32) else (0 : Int32))) (fun (x13 : Int32) => (lp_Net_press_27_31 n x13 (v3 + 1) (sI s 30 (ix v3) x12))))))))))
def okl_Net_press_27_31  : Nat → Int32 → Int32 → mS → Prop
  | 0, v2, v3, s => False
  | n + 1, v2, v3, s => (if (gI s 25 10) ≤ v3 then True else (if (16 : Int32) ≤ v3 then True else ((if (16 : Int32) ≤ v3 then True else (mm_inb v3 16 = true ∧ (mm_inb v3 16 = true ∧ True))) ∧ mq_letP (if (16 : Int32) ≤ v3 then (0 : Int32) else (((gI s 27 (ix v3)) * (gI s 31 (ix v3))) / 100)) (fun (x11 : Int32) => (ok_Net_pressureBehind v3 x11 s ∧ mq_letP (f_Net_pressureBehind v3 x11 s) (fun (x12 : Int32) => ((if v2 = 0 then True else (mm_inb v3 16 = true ∧ True)) ∧ mq_letP (if v2 = 0 then (0 : Int32) else (if (gI s 30 (ix v3)) = x12 then (1 : Int32) else (0 : Int32))) (fun (x13 : Int32) => (mm_inb v3 16 = true ∧ (okl_Net_press_27_31 n x13 (v3 + 1) (sI s 30 (ix v3) x12)))))))))))
set_option maxRecDepth 4000 in
theorem tl_Net_press_27_31 {len : Nat} {xs : Nat → Int32}  (d : Nat)   {T : Option mm_R} (K : Int32 × Int32 × mS → Prop) (hX : ∀ r, K r → ∀ (o4 : Option Value) (o5 : Option Value), mm_fix (mm_X len xs) mm_Y (mm_call (mm_X len xs) mm_Y (d + 3)) (mm_look mc_Net_press) (114, [some (.ref 25), some (.ref 27), some (.int r.1), some (.int r.2.1), o4, o5], [], mT r.2.2) = T) : ∀ (n : Nat), ∀ (v2 : Int32) (v3 : Int32) (o4 : Option Value) (o5 : Option Value) (s : mS), okl_Net_press_27_31 n v2 v3 s → K (lp_Net_press_27_31 n v2 v3 s) → mm_fix (mm_X len xs) mm_Y (mm_call (mm_X len xs) mm_Y (d + 3)) (mm_look mc_Net_press) (31, [some (.ref 25), some (.ref 27), some (.int v2), some (.int v3), o4, o5], [], mT s) = T := by
  intro n
  induction n with
  | zero => intro v2 v3 o4 o5 s; exact fun h => h.elim
  | succ n ih =>
    intro v2 v3 o4 o5 s
    rw [okl_Net_press_27_31, lp_Net_press_27_31]
    refine w_go K 3 (c' := (36, [some (.ref 25), some (.ref 27), some (.int v2), some (.int v3), o4, o5], [.int (gI s 25 10), .int v3], mT s)) rfl ?_
    refine w_ige K rfl (fun _ => ?_) (fun _ => ?_)
    · refine w_go K 0 (c' := (114, [some (.ref 25), some (.ref 27), some (.int v2), some (.int v3), o4, o5], [], mT s)) rfl ?_
      exact fun _ b => hX _ b _ _
    · refine w_go K 2 (c' := (42, [some (.ref 25), some (.ref 27), some (.int v2), some (.int v3), o4, o5], [.int 16, .int v3], mT s)) rfl ?_
      refine w_ige K rfl (fun _ => ?_) (fun _ => ?_)
      · refine w_go K 0 (c' := (114, [some (.ref 25), some (.ref 27), some (.int v2), some (.int v3), o4, o5], [], mT s)) rfl ?_
        exact fun _ b => hX _ b _ _
      · refine w_go K 3 (c' := (48, [some (.ref 25), some (.ref 27), some (.int v2), some (.int v3), o4, o5], [.int 16, .int v3], mT s)) rfl ?_
        refine w_join K (fun (x11 : Int32) => mm_fix (mm_X len xs) mm_Y (mm_call (mm_X len xs) mm_Y (d + 3)) (mm_look mc_Net_press) (68, [some (.ref 25), some (.ref 27), some (.int v2), some (.int v3), o4, o5], [.int x11], mT s) = T) (fun K hJ => ?_) (fun x11 h1 h2 => ?_)
        · refine w_go K 0 (c' := (48, [some (.ref 25), some (.ref 27), some (.int v2), some (.int v3), o4, o5], [.int 16, .int v3], mT s)) rfl ?_
          refine w_ige K rfl (fun _ => ?_) (fun _ => ?_)
          · refine w_go K 1 (c' := (68, [some (.ref 25), some (.ref 27), some (.int v2), some (.int v3), o4, o5], [.int 0], mT s)) rfl ?_
            exact fun _ h => hJ _ h
          · refine w_go K 2 (c' := (53, [some (.ref 25), some (.ref 27), some (.int v2), some (.int v3), o4, o5], [.int v3, .ref 27], mT s)) rfl ?_
            refine w_ck K (st_iL rfl rfl) ?_
            refine w_go K 3 (c' := (59, [some (.ref 25), some (.ref 27), some (.int v2), some (.int v3), o4, o5], [.int v3, .ref 31, .int (gI s 27 (ix v3))], mT s)) rfl ?_
            refine w_ck K (st_iL rfl rfl) ?_
            refine w_go K 4 (c' := (68, [some (.ref 25), some (.ref 27), some (.int v2), some (.int v3), o4, o5], [.int (((gI s 27 (ix v3)) * (gI s 31 (ix v3))) / 100)], mT s)) rfl ?_
            exact fun _ h => hJ _ h
        · revert h1 h2
          refine w_go K 4 (c' := (74, [some (.ref 25), some (.ref 27), some (.int v2), some (.int v3), some (.int x11), o5], [.int x11, .int v3, .ref 25], mT s)) rfl ?_
          refine w_callL K (E := f_Net_pressureBehind v3 x11 s) (g := fun (x12 : Int32) => (some (.int x12), mT s)) rfl (m_Net_pressureBehind (len := len) (xs := xs) (d + 0) v3 x11 s) (fun x12 => ?_)
          refine w_go K 2 (c' := (80, [some (.ref 25), some (.ref 27), some (.int v2), some (.int v3), some (.int x11), some (.int x12)], [.int v2], mT s)) rfl ?_
          refine w_join K (fun (x13 : Int32) => mm_fix (mm_X len xs) mm_Y (mm_call (mm_X len xs) mm_Y (d + 3)) (mm_look mc_Net_press) (99, [some (.ref 25), some (.ref 27), some (.int v2), some (.int v3), some (.int x11), some (.int x12)], [.int x13], mT s) = T) (fun K hJ => ?_) (fun x13 h1 h2 => ?_)
          · refine w_go K 0 (c' := (80, [some (.ref 25), some (.ref 27), some (.int v2), some (.int v3), some (.int x11), some (.int x12)], [.int v2], mT s)) rfl ?_
            refine w_zeq K rfl (fun _ => ?_) (fun _ => ?_)
            · refine w_go K 1 (c' := (99, [some (.ref 25), some (.ref 27), some (.int v2), some (.int v3), some (.int x11), some (.int x12)], [.int 0], mT s)) rfl ?_
              exact fun _ h => hJ _ h
            · refine w_go K 3 (c' := (88, [some (.ref 25), some (.ref 27), some (.int v2), some (.int v3), some (.int x11), some (.int x12)], [.int v3, .ref 30], mT s)) rfl ?_
              refine w_ck K (st_iL rfl rfl) ?_
              refine w_go K 1 (c' := (91, [some (.ref 25), some (.ref 27), some (.int v2), some (.int v3), some (.int x11), some (.int x12)], [.int x12, .int (gI s 30 (ix v3))], mT s)) rfl ?_
              refine w_ineT K rfl (fun _ => ?_) (fun _ => ?_)
              · refine w_go K 2 (c' := (99, [some (.ref 25), some (.ref 27), some (.int v2), some (.int v3), some (.int x11), some (.int x12)], [.int 1], mT s)) rfl ?_
                exact fun _ h => hJ _ h
              · refine w_go K 1 (c' := (99, [some (.ref 25), some (.ref 27), some (.int v2), some (.int v3), some (.int x11), some (.int x12)], [.int 0], mT s)) rfl ?_
                exact fun _ h => hJ _ h
          · revert h1 h2
            refine w_go K 5 (c' := (107, [some (.ref 25), some (.ref 27), some (.int x13), some (.int v3), some (.int x11), some (.int x12)], [.int x12, .int v3, .ref 30], mT s)) rfl ?_
            refine w_ck K (st_iS rfl rfl) ?_
            refine w_go K 2 (c' := (31, [some (.ref 25), some (.ref 27), some (.int x13), some (.int (v3 + 1)), some (.int x11), some (.int x12)], [], mT (sI s 30 (ix v3) x12))) rfl ?_
            exact fun a b => ih x13 (v3 + 1) _ _ (sI s 30 (ix v3) x12) a b
def f_Net_press_27  (s : mS) : Int32 × mS := (mq_let (if (gI s 30 0) = (gI s 25 11) then (1 : Int32) else (0 : Int32)) (fun (x10 : Int32) => (mq_let (lp_Net_press_27_31 mm_N x10 (1 : Int32) (sI s 30 0 (gI s 25 11))) (fun (x14 : Int32 × Int32 × mS) => (x14.1, x14.2.2)))))
def ok_Net_press_27  (s : mS) : Prop := (True ∧ mq_letP (if (gI s 30 0) = (gI s 25 11) then (1 : Int32) else (0 : Int32)) (fun (x10 : Int32) => (okl_Net_press_27_31 mm_N x10 (1 : Int32) (sI s 30 0 (gI s 25 11)) ∧ mq_letP (lp_Net_press_27_31 mm_N x10 (1 : Int32) (sI s 30 0 (gI s 25 11))) (fun (x14 : Int32 × Int32 × mS) => mm_bit x14.1 = true))))
set_option maxRecDepth 4000 in
theorem t_Net_press_27 {len : Nat} {xs : Nat → Int32}  (d : Nat)  (s : mS) {T : Option mm_R} (K : Int32 × mS → Prop) (hK : ∀ t, K t → some (some (.int t.1), mT t.2) = T) : ok_Net_press_27 s → K (f_Net_press_27 s) → mm_fix (mm_X len xs) mm_Y (mm_call (mm_X len xs) mm_Y (d + 3)) (mm_look mc_Net_press) (0, [some (.ref 25), some (.ref 27), none, none, none, none], [], mT s) = T := by
  unfold ok_Net_press_27 f_Net_press_27
  refine w_go K 6 (c' := (10, [some (.ref 25), some (.ref 27), none, none, none, none], [.int (gI s 25 11), .int (gI s 30 0)], mT s)) rfl ?_
  refine w_join K (fun (x10 : Int32) => mm_fix (mm_X len xs) mm_Y (mm_call (mm_X len xs) mm_Y (d + 3)) (mm_look mc_Net_press) (18, [some (.ref 25), some (.ref 27), none, none, none, none], [.int x10], mT s) = T) (fun K hJ => ?_) (fun x10 h1 h2 => ?_)
  · refine w_go K 0 (c' := (10, [some (.ref 25), some (.ref 27), none, none, none, none], [.int (gI s 25 11), .int (gI s 30 0)], mT s)) rfl ?_
    refine w_ineT K rfl (fun _ => ?_) (fun _ => ?_)
    · refine w_go K 2 (c' := (18, [some (.ref 25), some (.ref 27), none, none, none, none], [.int 1], mT s)) rfl ?_
      exact fun _ h => hJ _ h
    · refine w_go K 1 (c' := (18, [some (.ref 25), some (.ref 27), none, none, none, none], [.int 0], mT s)) rfl ?_
      exact fun _ h => hJ _ h
  · revert h1 h2
    refine w_go K 9 (c' := (31, [some (.ref 25), some (.ref 27), some (.int x10), some (.int 1), none, none], [], mT (sI s 30 0 (gI s 25 11)))) rfl ?_
    refine w_join K (fun (x14 : Int32 × Int32 × mS) => ∀ (q15 : Option Value) (q16 : Option Value), mm_fix (mm_X len xs) mm_Y (mm_call (mm_X len xs) mm_Y (d + 3)) (mm_look mc_Net_press) (114, [some (.ref 25), some (.ref 27), some (.int x14.1), some (.int x14.2.1), q15, q16], [], mT x14.2.2) = T) (fun K hJ => tl_Net_press_27_31 (len := len) (xs := xs) d (T := T) K hJ mm_N x10 (1 : Int32) _ _ (sI s 30 0 (gI s 25 11))) (fun x14 h1 h2 q15 q16 => ?_)
    revert h1 h2
    refine w_go K 1 (c' := (115, [some (.ref 25), some (.ref 27), some (.int x14.1), some (.int x14.2.1), q15, q16], [.int x14.1], mT x14.2.2)) rfl ?_
    exact w_retb K rfl (hK _)
theorem m_Net_press_27 {len : Nat} {xs : Nat → Int32}  (d : Nat)  (s : mS) : ok_Net_press_27 s → mm_call (mm_X len xs) mm_Y (d + 4) 54 [.ref 25, .ref 27] (mT s) = some (some (.int (f_Net_press_27 s).1), mT (f_Net_press_27 s).2) := fun h => t_Net_press_27 (len := len) (xs := xs) d s (fun t => (some (some (.int t.1), mT t.2) : Option mm_R) = some (some (.int (f_Net_press_27 s).1), mT (f_Net_press_27 s).2)) (fun _ h => h) h rfl
def lp_Things_takeBy_30_2  : Nat → Int32 → mS → Int32 × mS
  | 0, v2, s => (v2, s)
  | n + 1, v2, s => (if (gI s 12 12) ≤ v2 then (v2, s) else (if (40 : Int32) ≤ v2 then (v2, s) else (mq_let (if (gI s 13 (ix v2)) < 0 then (0 : Int32) else (if (16 : Int32) ≤ (gI s 13 (ix v2)) then (0 : Int32) else (gI s 30 (ix (gI s 13 (ix v2)))))) (fun (x10 : Int32) => (mq_let (if (gI s 14 (ix v2)) = 3 then (0 : Int32) else (if x10 < 20 then (0 : Int32) else (1 : Int32))) (fun (x11 : Int32) => (mq_let (if x11 = 0 then (((gI s 23 (ix v2)) * x10) / 20) else (gI s 23 (ix v2))) (fun (x12 : Int32) => (lp_Things_takeBy_30_2 n (v2 + 1) (sI s 24 (ix v2) x12))))))))))
def okl_Things_takeBy_30_2  : Nat → Int32 → mS → Prop
  | 0, v2, s => False
  | n + 1, v2, s => (if (gI s 12 12) ≤ v2 then True else (if (40 : Int32) ≤ v2 then True else (mm_inb v2 40 = true ∧ ((if (gI s 13 (ix v2)) < 0 then True else (if (16 : Int32) ≤ (gI s 13 (ix v2)) then True else (mm_inb (gI s 13 (ix v2)) 16 = true ∧ True))) ∧ mq_letP (if (gI s 13 (ix v2)) < 0 then (0 : Int32) else (if (16 : Int32) ≤ (gI s 13 (ix v2)) then (0 : Int32) else (gI s 30 (ix (gI s 13 (ix v2)))))) (fun (x10 : Int32) => (mm_inb v2 40 = true ∧ (True ∧ mq_letP (if (gI s 14 (ix v2)) = 3 then (0 : Int32) else (if x10 < 20 then (0 : Int32) else (1 : Int32))) (fun (x11 : Int32) => ((if x11 = 0 then (mm_inb v2 40 = true ∧ True) else (mm_inb v2 40 = true ∧ True)) ∧ mq_letP (if x11 = 0 then (((gI s 23 (ix v2)) * x10) / 20) else (gI s 23 (ix v2))) (fun (x12 : Int32) => (mm_inb v2 40 = true ∧ (okl_Things_takeBy_30_2 n (v2 + 1) (sI s 24 (ix v2) x12)))))))))))))
set_option maxRecDepth 4000 in
theorem tl_Things_takeBy_30_2 {len : Nat} {xs : Nat → Int32}  (d : Nat)   {T : Option mm_R} (K : Int32 × mS → Prop) (hX : ∀ r, K r → ∀ (o3 : Option Value) (o4 : Option Value) (o5 : Option Value), mm_fix (mm_X len xs) mm_Y (mm_call (mm_X len xs) mm_Y (d + 0)) (mm_look mc_Things_takeBy) (104, [some (.ref 12), some (.ref 30), some (.int r.1), o3, o4, o5], [], mT r.2) = T) : ∀ (n : Nat), ∀ (v2 : Int32) (o3 : Option Value) (o4 : Option Value) (o5 : Option Value) (s : mS), okl_Things_takeBy_30_2 n v2 s → K (lp_Things_takeBy_30_2 n v2 s) → mm_fix (mm_X len xs) mm_Y (mm_call (mm_X len xs) mm_Y (d + 0)) (mm_look mc_Things_takeBy) (2, [some (.ref 12), some (.ref 30), some (.int v2), o3, o4, o5], [], mT s) = T := by
  intro n
  induction n with
  | zero => intro v2 o3 o4 o5 s; exact fun h => h.elim
  | succ n ih =>
    intro v2 o3 o4 o5 s
    rw [okl_Things_takeBy_30_2, lp_Things_takeBy_30_2]
    refine w_go K 3 (c' := (7, [some (.ref 12), some (.ref 30), some (.int v2), o3, o4, o5], [.int (gI s 12 12), .int v2], mT s)) rfl ?_
    refine w_ige K rfl (fun _ => ?_) (fun _ => ?_)
    · refine w_go K 0 (c' := (104, [some (.ref 12), some (.ref 30), some (.int v2), o3, o4, o5], [], mT s)) rfl ?_
      exact fun _ b => hX _ b _ _ _
    · refine w_go K 2 (c' := (13, [some (.ref 12), some (.ref 30), some (.int v2), o3, o4, o5], [.int 40, .int v2], mT s)) rfl ?_
      refine w_ige K rfl (fun _ => ?_) (fun _ => ?_)
      · refine w_go K 0 (c' := (104, [some (.ref 12), some (.ref 30), some (.int v2), o3, o4, o5], [], mT s)) rfl ?_
        exact fun _ b => hX _ b _ _ _
      · refine w_go K 3 (c' := (21, [some (.ref 12), some (.ref 30), some (.int v2), o3, o4, o5], [.int v2, .ref 13], mT s)) rfl ?_
        refine w_ck K (st_iL rfl rfl) ?_
        refine w_go K 2 (c' := (24, [some (.ref 12), some (.ref 30), some (.int v2), some (.int (gI s 13 (ix v2))), o4, o5], [.int (gI s 13 (ix v2))], mT s)) rfl ?_
        refine w_join K (fun (x10 : Int32) => mm_fix (mm_X len xs) mm_Y (mm_call (mm_X len xs) mm_Y (d + 0)) (mm_look mc_Things_takeBy) (40, [some (.ref 12), some (.ref 30), some (.int v2), some (.int (gI s 13 (ix v2))), o4, o5], [.int x10], mT s) = T) (fun K hJ => ?_) (fun x10 h1 h2 => ?_)
        · refine w_go K 0 (c' := (24, [some (.ref 12), some (.ref 30), some (.int v2), some (.int (gI s 13 (ix v2))), o4, o5], [.int (gI s 13 (ix v2))], mT s)) rfl ?_
          refine w_zlt K rfl (fun _ => ?_) (fun _ => ?_)
          · refine w_go K 1 (c' := (40, [some (.ref 12), some (.ref 30), some (.int v2), some (.int (gI s 13 (ix v2))), o4, o5], [.int 0], mT s)) rfl ?_
            exact fun _ h => hJ _ h
          · refine w_go K 3 (c' := (30, [some (.ref 12), some (.ref 30), some (.int v2), some (.int (gI s 13 (ix v2))), o4, o5], [.int 16, .int (gI s 13 (ix v2))], mT s)) rfl ?_
            refine w_ige K rfl (fun _ => ?_) (fun _ => ?_)
            · refine w_go K 1 (c' := (40, [some (.ref 12), some (.ref 30), some (.int v2), some (.int (gI s 13 (ix v2))), o4, o5], [.int 0], mT s)) rfl ?_
              exact fun _ h => hJ _ h
            · refine w_go K 2 (c' := (35, [some (.ref 12), some (.ref 30), some (.int v2), some (.int (gI s 13 (ix v2))), o4, o5], [.int (gI s 13 (ix v2)), .ref 30], mT s)) rfl ?_
              refine w_ck K (st_iL rfl rfl) ?_
              refine w_go K 1 (c' := (40, [some (.ref 12), some (.ref 30), some (.int v2), some (.int (gI s 13 (ix v2))), o4, o5], [.int (gI s 30 (ix (gI s 13 (ix v2))))], mT s)) rfl ?_
              exact fun _ h => hJ _ h
        · revert h1 h2
          refine w_go K 4 (c' := (47, [some (.ref 12), some (.ref 30), some (.int v2), some (.int (gI s 13 (ix v2))), some (.int x10), o5], [.int v2, .ref 14], mT s)) rfl ?_
          refine w_ck K (st_iL rfl rfl) ?_
          refine w_go K 1 (c' := (49, [some (.ref 12), some (.ref 30), some (.int v2), some (.int (gI s 13 (ix v2))), some (.int x10), o5], [.int 3, .int (gI s 14 (ix v2))], mT s)) rfl ?_
          refine w_join K (fun (x11 : Int32) => mm_fix (mm_X len xs) mm_Y (mm_call (mm_X len xs) mm_Y (d + 0)) (mm_look mc_Things_takeBy) (64, [some (.ref 12), some (.ref 30), some (.int v2), some (.int (gI s 13 (ix v2))), some (.int x10), o5], [.int x11], mT s) = T) (fun K hJ => ?_) (fun x11 h1 h2 => ?_)
          · refine w_go K 0 (c' := (49, [some (.ref 12), some (.ref 30), some (.int v2), some (.int (gI s 13 (ix v2))), some (.int x10), o5], [.int 3, .int (gI s 14 (ix v2))], mT s)) rfl ?_
            refine w_ieqT K rfl (fun _ => ?_) (fun _ => ?_)
            · refine w_go K 1 (c' := (64, [some (.ref 12), some (.ref 30), some (.int v2), some (.int (gI s 13 (ix v2))), some (.int x10), o5], [.int 0], mT s)) rfl ?_
              exact fun _ h => hJ _ h
            · refine w_go K 2 (c' := (56, [some (.ref 12), some (.ref 30), some (.int v2), some (.int (gI s 13 (ix v2))), some (.int x10), o5], [.int 20, .int x10], mT s)) rfl ?_
              refine w_iltT K rfl (fun _ => ?_) (fun _ => ?_)
              · refine w_go K 1 (c' := (64, [some (.ref 12), some (.ref 30), some (.int v2), some (.int (gI s 13 (ix v2))), some (.int x10), o5], [.int 0], mT s)) rfl ?_
                exact fun _ h => hJ _ h
              · refine w_go K 2 (c' := (64, [some (.ref 12), some (.ref 30), some (.int v2), some (.int (gI s 13 (ix v2))), some (.int x10), o5], [.int 1], mT s)) rfl ?_
                exact fun _ h => hJ _ h
          · revert h1 h2
            refine w_go K 5 (c' := (73, [some (.ref 12), some (.ref 30), some (.int v2), some (.int (gI s 13 (ix v2))), some (.int x10), some (.int x11)], [.int x11, .int v2, .ref 24], mT s)) rfl ?_
            refine w_join K (fun (x12 : Int32) => mm_fix (mm_X len xs) mm_Y (mm_call (mm_X len xs) mm_Y (d + 0)) (mm_look mc_Things_takeBy) (97, [some (.ref 12), some (.ref 30), some (.int v2), some (.int (gI s 13 (ix v2))), some (.int x10), some (.int x11)], [.int x12, .int v2, .ref 24], mT s) = T) (fun K hJ => ?_) (fun x12 h1 h2 => ?_)
            · refine w_go K 0 (c' := (73, [some (.ref 12), some (.ref 30), some (.int v2), some (.int (gI s 13 (ix v2))), some (.int x10), some (.int x11)], [.int x11, .int v2, .ref 24], mT s)) rfl ?_
              refine w_zeq K rfl (fun _ => ?_) (fun _ => ?_)
              · refine w_go K 3 (c' := (90, [some (.ref 12), some (.ref 30), some (.int v2), some (.int (gI s 13 (ix v2))), some (.int x10), some (.int x11)], [.int v2, .ref 23, .int v2, .ref 24], mT s)) rfl ?_
                refine w_ck K (st_iL rfl rfl) ?_
                refine w_go K 4 (c' := (97, [some (.ref 12), some (.ref 30), some (.int v2), some (.int (gI s 13 (ix v2))), some (.int x10), some (.int x11)], [.int (((gI s 23 (ix v2)) * x10) / 20), .int v2, .ref 24], mT s)) rfl ?_
                exact fun _ h => hJ _ h
              · refine w_go K 3 (c' := (81, [some (.ref 12), some (.ref 30), some (.int v2), some (.int (gI s 13 (ix v2))), some (.int x10), some (.int x11)], [.int v2, .ref 23, .int v2, .ref 24], mT s)) rfl ?_
                refine w_ck K (st_iL rfl rfl) ?_
                refine w_go K 1 (c' := (97, [some (.ref 12), some (.ref 30), some (.int v2), some (.int (gI s 13 (ix v2))), some (.int x10), some (.int x11)], [.int (gI s 23 (ix v2)), .int v2, .ref 24], mT s)) rfl ?_
                exact fun _ h => hJ _ h
            · revert h1 h2
              refine w_go K 0 (c' := (97, [some (.ref 12), some (.ref 30), some (.int v2), some (.int (gI s 13 (ix v2))), some (.int x10), some (.int x11)], [.int x12, .int v2, .ref 24], mT s)) rfl ?_
              refine w_ck K (st_iS rfl rfl) ?_
              refine w_go K 2 (c' := (2, [some (.ref 12), some (.ref 30), some (.int (v2 + 1)), some (.int (gI s 13 (ix v2))), some (.int x10), some (.int x11)], [], mT (sI s 24 (ix v2) x12))) rfl ?_
              exact fun a b => ih (v2 + 1) _ _ _ (sI s 24 (ix v2) x12) a b
def f_Things_takeBy_30  (s : mS) : mS := (mq_let (lp_Things_takeBy_30_2 mm_N (0 : Int32) s) (fun (x13 : Int32 × mS) => x13.2))
def ok_Things_takeBy_30  (s : mS) : Prop := (okl_Things_takeBy_30_2 mm_N (0 : Int32) s ∧ mq_letP (lp_Things_takeBy_30_2 mm_N (0 : Int32) s) (fun (x13 : Int32 × mS) => True))
set_option maxRecDepth 4000 in
theorem t_Things_takeBy_30 {len : Nat} {xs : Nat → Int32}  (d : Nat)  (s : mS) {T : Option mm_R} (K : mS → Prop) (hK : ∀ t, K t → some (none, mT t) = T) : ok_Things_takeBy_30 s → K (f_Things_takeBy_30 s) → mm_fix (mm_X len xs) mm_Y (mm_call (mm_X len xs) mm_Y (d + 0)) (mm_look mc_Things_takeBy) (0, [some (.ref 12), some (.ref 30), none, none, none, none], [], mT s) = T := by
  unfold ok_Things_takeBy_30 f_Things_takeBy_30
  refine w_go K 2 (c' := (2, [some (.ref 12), some (.ref 30), some (.int 0), none, none, none], [], mT s)) rfl ?_
  refine w_join K (fun (x13 : Int32 × mS) => ∀ (q14 : Option Value) (q15 : Option Value) (q16 : Option Value), mm_fix (mm_X len xs) mm_Y (mm_call (mm_X len xs) mm_Y (d + 0)) (mm_look mc_Things_takeBy) (104, [some (.ref 12), some (.ref 30), some (.int x13.1), q14, q15, q16], [], mT x13.2) = T) (fun K hJ => tl_Things_takeBy_30_2 (len := len) (xs := xs) d (T := T) K hJ mm_N (0 : Int32) _ _ _ s) (fun x13 h1 h2 q14 q15 q16 => ?_)
  revert h1 h2
  refine w_go K 0 (c' := (104, [some (.ref 12), some (.ref 30), some (.int x13.1), q14, q15, q16], [], mT x13.2)) rfl ?_
  exact w_ret K rfl (hK _)
theorem m_Things_takeBy_30 {len : Nat} {xs : Nat → Int32}  (d : Nat)  (s : mS) : ok_Things_takeBy_30 s → mm_call (mm_X len xs) mm_Y (d + 1) 56 [.ref 12, .ref 30] (mT s) = some (none, mT (f_Things_takeBy_30 s)) := fun h => t_Things_takeBy_30 (len := len) (xs := xs) d s (fun t => (some (none, mT t) : Option mm_R) = some (none, mT (f_Things_takeBy_30 s))) (fun _ h => h) h rfl
def lp_Net_settle_27_9  : Nat → Int32 → Int32 → mS → Int32 × Int32 × mS
  | 0, v3, v4, s => (v3, v4, s)
  | n + 1, v3, v4, s => (if (12 : Int32) ≤ v4 then (v3, v4, s) else (if v3 = 0 then (mq_let (f_Net_gatherFlow s) (fun (x11 : mS) => (mq_let (f_Net_press_27 x11) (fun (x12 : Int32 × mS) => (mq_let (if v4 ≤ 0 then (0 : Int32) else (if x12.1 = 0 then (0 : Int32) else (1 : Int32))) (fun (x13 : Int32) => (mq_let (f_Things_takeBy_30 x12.2) (fun (x14 : mS) => (lp_Net_settle_27_9 n x13 (v4 + 1) x14))))))))) else (v3, v4, s)))
def okl_Net_settle_27_9  : Nat → Int32 → Int32 → mS → Prop
  | 0, v3, v4, s => False
  | n + 1, v3, v4, s => (if (12 : Int32) ≤ v4 then True else (if v3 = 0 then (ok_Net_gatherFlow s ∧ mq_letP (f_Net_gatherFlow s) (fun (x11 : mS) => (ok_Net_press_27 x11 ∧ mq_letP (f_Net_press_27 x11) (fun (x12 : Int32 × mS) => (True ∧ mq_letP (if v4 ≤ 0 then (0 : Int32) else (if x12.1 = 0 then (0 : Int32) else (1 : Int32))) (fun (x13 : Int32) => (ok_Things_takeBy_30 x12.2 ∧ mq_letP (f_Things_takeBy_30 x12.2) (fun (x14 : mS) => (okl_Net_settle_27_9 n x13 (v4 + 1) x14))))))))) else True))
set_option maxRecDepth 4000 in
theorem tl_Net_settle_27_9 {len : Nat} {xs : Nat → Int32}  (d : Nat)   {T : Option mm_R} (K : Int32 × Int32 × mS → Prop) (hX : ∀ r, K r → ∀ (o5 : Option Value), mm_fix (mm_X len xs) mm_Y (mm_call (mm_X len xs) mm_Y (d + 4)) (mm_look mc_Net_settle) (62, [some (.ref 25), some (.ref 12), some (.ref 27), some (.int r.1), some (.int r.2.1), o5], [], mT r.2.2) = T) : ∀ (n : Nat), ∀ (v3 : Int32) (v4 : Int32) (o5 : Option Value) (s : mS), okl_Net_settle_27_9 n v3 v4 s → K (lp_Net_settle_27_9 n v3 v4 s) → mm_fix (mm_X len xs) mm_Y (mm_call (mm_X len xs) mm_Y (d + 4)) (mm_look mc_Net_settle) (9, [some (.ref 25), some (.ref 12), some (.ref 27), some (.int v3), some (.int v4), o5], [], mT s) = T := by
  intro n
  induction n with
  | zero => intro v3 v4 o5 s; exact fun h => h.elim
  | succ n ih =>
    intro v3 v4 o5 s
    rw [okl_Net_settle_27_9, lp_Net_settle_27_9]
    refine w_go K 2 (c' := (13, [some (.ref 25), some (.ref 12), some (.ref 27), some (.int v3), some (.int v4), o5], [.int 12, .int v4], mT s)) rfl ?_
    refine w_ige K rfl (fun _ => ?_) (fun _ => ?_)
    · refine w_go K 0 (c' := (62, [some (.ref 25), some (.ref 12), some (.ref 27), some (.int v3), some (.int v4), o5], [], mT s)) rfl ?_
      exact fun _ b => hX _ b _
    · refine w_go K 1 (c' := (17, [some (.ref 25), some (.ref 12), some (.ref 27), some (.int v3), some (.int v4), o5], [.int v3], mT s)) rfl ?_
      refine w_zne K rfl (fun _ => ?_) (fun _ => ?_)
      · refine w_go K 2 (c' := (22, [some (.ref 25), some (.ref 12), some (.ref 27), some (.int v3), some (.int v4), o5], [.ref 12, .ref 25], mT s)) rfl ?_
        refine w_callL K (E := f_Net_gatherFlow s) (g := fun (x11 : mS) => (none, mT x11)) rfl (m_Net_gatherFlow (len := len) (xs := xs) (d + 2) s) (fun x11 => ?_)
        refine w_go K 2 (c' := (27, [some (.ref 25), some (.ref 12), some (.ref 27), some (.int v3), some (.int v4), o5], [.ref 27, .ref 25], mT x11)) rfl ?_
        refine w_callL K (E := f_Net_press_27 x11) (g := fun (x12 : Int32 × mS) => (some (.int x12.1), mT x12.2)) rfl (m_Net_press_27 (len := len) (xs := xs) (d + 0) x11) (fun x12 => ?_)
        refine w_go K 2 (c' := (34, [some (.ref 25), some (.ref 12), some (.ref 27), some (.int v3), some (.int v4), some (.int x12.1)], [.int v4], mT x12.2)) rfl ?_
        refine w_join K (fun (x13 : Int32) => mm_fix (mm_X len xs) mm_Y (mm_call (mm_X len xs) mm_Y (d + 4)) (mm_look mc_Net_settle) (47, [some (.ref 25), some (.ref 12), some (.ref 27), some (.int v3), some (.int v4), some (.int x12.1)], [.int x13], mT x12.2) = T) (fun K hJ => ?_) (fun x13 h1 h2 => ?_)
        · refine w_go K 0 (c' := (34, [some (.ref 25), some (.ref 12), some (.ref 27), some (.int v3), some (.int v4), some (.int x12.1)], [.int v4], mT x12.2)) rfl ?_
          refine w_zleT K rfl (fun _ => ?_) (fun _ => ?_)
          · refine w_go K 1 (c' := (47, [some (.ref 25), some (.ref 12), some (.ref 27), some (.int v3), some (.int v4), some (.int x12.1)], [.int 0], mT x12.2)) rfl ?_
            exact fun _ h => hJ _ h
          · refine w_go K 1 (c' := (39, [some (.ref 25), some (.ref 12), some (.ref 27), some (.int v3), some (.int v4), some (.int x12.1)], [.int x12.1], mT x12.2)) rfl ?_
            refine w_zeqT K rfl (fun _ => ?_) (fun _ => ?_)
            · refine w_go K 1 (c' := (47, [some (.ref 25), some (.ref 12), some (.ref 27), some (.int v3), some (.int v4), some (.int x12.1)], [.int 0], mT x12.2)) rfl ?_
              exact fun _ h => hJ _ h
            · refine w_go K 2 (c' := (47, [some (.ref 25), some (.ref 12), some (.ref 27), some (.int v3), some (.int v4), some (.int x12.1)], [.int 1], mT x12.2)) rfl ?_
              exact fun _ h => hJ _ h
        · revert h1 h2
          refine w_go K 4 (c' := (53, [some (.ref 25), some (.ref 12), some (.ref 27), some (.int x13), some (.int v4), some (.int x12.1)], [.ref 30, .ref 12], mT x12.2)) rfl ?_
          refine w_callL K (E := f_Things_takeBy_30 x12.2) (g := fun (x14 : mS) => (none, mT x14)) rfl (m_Things_takeBy_30 (len := len) (xs := xs) (d + 3) x12.2) (fun x14 => ?_)
          refine w_go K 2 (c' := (9, [some (.ref 25), some (.ref 12), some (.ref 27), some (.int x13), some (.int (v4 + 1)), some (.int x12.1)], [], mT x14)) rfl ?_
          exact fun a b => ih x13 (v4 + 1) _ x14 a b
      · refine w_go K 0 (c' := (62, [some (.ref 25), some (.ref 12), some (.ref 27), some (.int v3), some (.int v4), o5], [], mT s)) rfl ?_
        exact fun _ b => hX _ b _
def f_Net_settle_27  (s : mS) : Int32 × mS := (mq_let (f_Things_takeWants s) (fun (x10 : mS) => (mq_let (lp_Net_settle_27_9 mm_N (0 : Int32) (0 : Int32) x10) (fun (x15 : Int32 × Int32 × mS) => (x15.1, x15.2.2)))))
def ok_Net_settle_27  (s : mS) : Prop := (ok_Things_takeWants s ∧ mq_letP (f_Things_takeWants s) (fun (x10 : mS) => (okl_Net_settle_27_9 mm_N (0 : Int32) (0 : Int32) x10 ∧ mq_letP (lp_Net_settle_27_9 mm_N (0 : Int32) (0 : Int32) x10) (fun (x15 : Int32 × Int32 × mS) => mm_bit x15.1 = true))))
set_option maxRecDepth 4000 in
theorem t_Net_settle_27 {len : Nat} {xs : Nat → Int32}  (d : Nat)  (s : mS) {T : Option mm_R} (K : Int32 × mS → Prop) (hK : ∀ t, K t → some (some (.int t.1), mT t.2) = T) : ok_Net_settle_27 s → K (f_Net_settle_27 s) → mm_fix (mm_X len xs) mm_Y (mm_call (mm_X len xs) mm_Y (d + 4)) (mm_look mc_Net_settle) (0, [some (.ref 25), some (.ref 12), some (.ref 27), none, none, none], [], mT s) = T := by
  unfold ok_Net_settle_27 f_Net_settle_27
  refine w_go K 1 (c' := (1, [some (.ref 25), some (.ref 12), some (.ref 27), none, none, none], [.ref 12], mT s)) rfl ?_
  refine w_callL K (E := f_Things_takeWants s) (g := fun (x10 : mS) => (none, mT x10)) rfl (m_Things_takeWants (len := len) (xs := xs) (d + 3) s) (fun x10 => ?_)
  refine w_go K 4 (c' := (9, [some (.ref 25), some (.ref 12), some (.ref 27), some (.int 0), some (.int 0), none], [], mT x10)) rfl ?_
  refine w_join K (fun (x15 : Int32 × Int32 × mS) => ∀ (q16 : Option Value), mm_fix (mm_X len xs) mm_Y (mm_call (mm_X len xs) mm_Y (d + 4)) (mm_look mc_Net_settle) (62, [some (.ref 25), some (.ref 12), some (.ref 27), some (.int x15.1), some (.int x15.2.1), q16], [], mT x15.2.2) = T) (fun K hJ => tl_Net_settle_27_9 (len := len) (xs := xs) d (T := T) K hJ mm_N (0 : Int32) (0 : Int32) _ x10) (fun x15 h1 h2 q16 => ?_)
  revert h1 h2
  refine w_go K 1 (c' := (63, [some (.ref 25), some (.ref 12), some (.ref 27), some (.int x15.1), some (.int x15.2.1), q16], [.int x15.1], mT x15.2.2)) rfl ?_
  exact w_retb K rfl (hK _)
theorem m_Net_settle_27 {len : Nat} {xs : Nat → Int32}  (d : Nat)  (s : mS) : ok_Net_settle_27 s → mm_call (mm_X len xs) mm_Y (d + 5) 51 [.ref 25, .ref 12, .ref 27] (mT s) = some (some (.int (f_Net_settle_27 s).1), mT (f_Net_settle_27 s).2) := fun h => t_Net_settle_27 (len := len) (xs := xs) d s (fun t => (some (some (.int t.1), mT t.2) : Option mm_R) = some (some (.int (f_Net_settle_27 s).1), mT (f_Net_settle_27 s).2)) (fun _ h => h) h rfl
def lp_Things_usedInAll_4 (s : mS) : Nat → Int32 → Int32 → Int32 × Int32
  | 0, v1, v2 => (v1, v2)
  | n + 1, v1, v2 => (if (40 : Int32) ≤ v2 then (v1, v2) else (lp_Things_usedInAll_4 s n (v1 + (gI s 24 (ix v2))) (v2 + 1)))
def okl_Things_usedInAll_4 (s : mS) : Nat → Int32 → Int32 → Prop
  | 0, v1, v2 => False
  | n + 1, v1, v2 => (if (40 : Int32) ≤ v2 then True else (mm_inb v2 40 = true ∧ (okl_Things_usedInAll_4 s n (v1 + (gI s 24 (ix v2))) (v2 + 1))))
set_option maxRecDepth 4000 in
theorem tl_Things_usedInAll_4 {len : Nat} {xs : Nat → Int32}  (d : Nat)  (s : mS) {T : Option mm_R} (K : Int32 × Int32 → Prop) (hX : ∀ r, K r → mm_fix (mm_X len xs) mm_Y (mm_call (mm_X len xs) mm_Y (d + 0)) (mm_look mc_Things_usedInAll) (25, [some (.ref 12), some (.int r.1), some (.int r.2)], [], mT s) = T) : ∀ (n : Nat), ∀ (v1 : Int32) (v2 : Int32), okl_Things_usedInAll_4 s n v1 v2 → K (lp_Things_usedInAll_4 s n v1 v2) → mm_fix (mm_X len xs) mm_Y (mm_call (mm_X len xs) mm_Y (d + 0)) (mm_look mc_Things_usedInAll) (4, [some (.ref 12), some (.int v1), some (.int v2)], [], mT s) = T := by
  intro n
  induction n with
  | zero => intro v1 v2; exact fun h => h.elim
  | succ n ih =>
    intro v1 v2
    rw [okl_Things_usedInAll_4, lp_Things_usedInAll_4]
    refine w_go K 2 (c' := (7, [some (.ref 12), some (.int v1), some (.int v2)], [.int 40, .int v2], mT s)) rfl ?_
    refine w_ige K rfl (fun _ => ?_) (fun _ => ?_)
    · refine w_go K 0 (c' := (25, [some (.ref 12), some (.int v1), some (.int v2)], [], mT s)) rfl ?_
      exact fun _ b => hX _ b
    · refine w_go K 4 (c' := (16, [some (.ref 12), some (.int v1), some (.int v2)], [.int v2, .ref 24, .int v1], mT s)) rfl ?_
      refine w_ck K (st_iL rfl rfl) ?_
      refine w_go K 4 (c' := (4, [some (.ref 12), some (.int (v1 + (gI s 24 (ix v2)))), some (.int (v2 + 1))], [], mT s)) rfl ?_
      exact fun a b => ih (v1 + (gI s 24 (ix v2))) (v2 + 1) a b
def f_Things_usedInAll  (s : mS) : Int32 := (mq_let (lp_Things_usedInAll_4 s mm_N (0 : Int32) (0 : Int32)) (fun (x10 : Int32 × Int32) => x10.1))
def ok_Things_usedInAll  (s : mS) : Prop := (okl_Things_usedInAll_4 s mm_N (0 : Int32) (0 : Int32) ∧ mq_letP (lp_Things_usedInAll_4 s mm_N (0 : Int32) (0 : Int32)) (fun (x10 : Int32 × Int32) => True))
set_option maxRecDepth 4000 in
theorem t_Things_usedInAll {len : Nat} {xs : Nat → Int32}  (d : Nat)  (s : mS) {T : Option mm_R} (K : Int32 → Prop) (hK : ∀ t, K t → some (some (.int t), mT s) = T) : ok_Things_usedInAll s → K (f_Things_usedInAll s) → mm_fix (mm_X len xs) mm_Y (mm_call (mm_X len xs) mm_Y (d + 0)) (mm_look mc_Things_usedInAll) (0, [some (.ref 12), none, none], [], mT s) = T := by
  unfold ok_Things_usedInAll f_Things_usedInAll
  refine w_go K 4 (c' := (4, [some (.ref 12), some (.int 0), some (.int 0)], [], mT s)) rfl ?_
  refine w_join K (fun (x10 : Int32 × Int32) => mm_fix (mm_X len xs) mm_Y (mm_call (mm_X len xs) mm_Y (d + 0)) (mm_look mc_Things_usedInAll) (25, [some (.ref 12), some (.int x10.1), some (.int x10.2)], [], mT s) = T) (fun K hJ => tl_Things_usedInAll_4 (len := len) (xs := xs) d s (T := T) K hJ mm_N (0 : Int32) (0 : Int32)) (fun x10 h1 h2 => ?_)
  revert h1 h2
  refine w_go K 1 (c' := (26, [some (.ref 12), some (.int x10.1), some (.int x10.2)], [.int x10.1], mT s)) rfl ?_
  exact w_ret K rfl (hK _)
theorem m_Things_usedInAll {len : Nat} {xs : Nat → Int32}  (d : Nat)  (s : mS) : ok_Things_usedInAll s → mm_call (mm_X len xs) mm_Y (d + 1) 57 [.ref 12] (mT s) = some (some (.int (f_Things_usedInAll s)), mT s) := fun h => t_Things_usedInAll (len := len) (xs := xs) d s (fun t => (some (some (.int t), mT s) : Option mm_R) = some (some (.int (f_Things_usedInAll s)), mT s)) (fun _ h => h) h rfl
def lp_Things_takeNothing_2  : Nat → Int32 → mS → Int32 × mS
  | 0, v1, s => (v1, s)
  | n + 1, v1, s => (if (40 : Int32) ≤ v1 then (v1, s) else (lp_Things_takeNothing_2 n (v1 + 1) (sI s 24 (ix v1) 0)))
def okl_Things_takeNothing_2  : Nat → Int32 → mS → Prop
  | 0, v1, s => False
  | n + 1, v1, s => (if (40 : Int32) ≤ v1 then True else (mm_inb v1 40 = true ∧ (okl_Things_takeNothing_2 n (v1 + 1) (sI s 24 (ix v1) 0))))
set_option maxRecDepth 4000 in
theorem tl_Things_takeNothing_2 {len : Nat} {xs : Nat → Int32}  (d : Nat)   {T : Option mm_R} (K : Int32 × mS → Prop) (hX : ∀ r, K r → mm_fix (mm_X len xs) mm_Y (mm_call (mm_X len xs) mm_Y (d + 0)) (mm_look mc_Things_takeNothing) (21, [some (.ref 12), some (.int r.1)], [], mT r.2) = T) : ∀ (n : Nat), ∀ (v1 : Int32) (s : mS), okl_Things_takeNothing_2 n v1 s → K (lp_Things_takeNothing_2 n v1 s) → mm_fix (mm_X len xs) mm_Y (mm_call (mm_X len xs) mm_Y (d + 0)) (mm_look mc_Things_takeNothing) (2, [some (.ref 12), some (.int v1)], [], mT s) = T := by
  intro n
  induction n with
  | zero => intro v1 s; exact fun h => h.elim
  | succ n ih =>
    intro v1 s
    rw [okl_Things_takeNothing_2, lp_Things_takeNothing_2]
    refine w_go K 2 (c' := (5, [some (.ref 12), some (.int v1)], [.int 40, .int v1], mT s)) rfl ?_
    refine w_ige K rfl (fun _ => ?_) (fun _ => ?_)
    · refine w_go K 0 (c' := (21, [some (.ref 12), some (.int v1)], [], mT s)) rfl ?_
      exact fun _ b => hX _ b
    · refine w_go K 4 (c' := (14, [some (.ref 12), some (.int v1)], [.int 0, .int v1, .ref 24], mT s)) rfl ?_
      refine w_ck K (st_iS rfl rfl) ?_
      refine w_go K 2 (c' := (2, [some (.ref 12), some (.int (v1 + 1))], [], mT (sI s 24 (ix v1) 0))) rfl ?_
      exact fun a b => ih (v1 + 1) (sI s 24 (ix v1) 0) a b
def f_Things_takeNothing  (s : mS) : mS := (mq_let (lp_Things_takeNothing_2 mm_N (0 : Int32) s) (fun (x10 : Int32 × mS) => x10.2))
def ok_Things_takeNothing  (s : mS) : Prop := (okl_Things_takeNothing_2 mm_N (0 : Int32) s ∧ mq_letP (lp_Things_takeNothing_2 mm_N (0 : Int32) s) (fun (x10 : Int32 × mS) => True))
set_option maxRecDepth 4000 in
theorem t_Things_takeNothing {len : Nat} {xs : Nat → Int32}  (d : Nat)  (s : mS) {T : Option mm_R} (K : mS → Prop) (hK : ∀ t, K t → some (none, mT t) = T) : ok_Things_takeNothing s → K (f_Things_takeNothing s) → mm_fix (mm_X len xs) mm_Y (mm_call (mm_X len xs) mm_Y (d + 0)) (mm_look mc_Things_takeNothing) (0, [some (.ref 12), none], [], mT s) = T := by
  unfold ok_Things_takeNothing f_Things_takeNothing
  refine w_go K 2 (c' := (2, [some (.ref 12), some (.int 0)], [], mT s)) rfl ?_
  refine w_join K (fun (x10 : Int32 × mS) => mm_fix (mm_X len xs) mm_Y (mm_call (mm_X len xs) mm_Y (d + 0)) (mm_look mc_Things_takeNothing) (21, [some (.ref 12), some (.int x10.1)], [], mT x10.2) = T) (fun K hJ => tl_Things_takeNothing_2 (len := len) (xs := xs) d (T := T) K hJ mm_N (0 : Int32) s) (fun x10 h1 h2 => ?_)
  revert h1 h2
  refine w_go K 0 (c' := (21, [some (.ref 12), some (.int x10.1)], [], mT x10.2)) rfl ?_
  exact w_ret K rfl (hK _)
theorem m_Things_takeNothing {len : Nat} {xs : Nat → Int32}  (d : Nat)  (s : mS) : ok_Things_takeNothing s → mm_call (mm_X len xs) mm_Y (d + 1) 58 [.ref 12] (mT s) = some (none, mT (f_Things_takeNothing s)) := fun h => t_Things_takeNothing (len := len) (xs := xs) d s (fun t => (some (none, mT t) : Option mm_R) = some (none, mT (f_Things_takeNothing s))) (fun _ h => h) h rfl
def lp_Things_keep_2  : Nat → Int32 → mS → Int32 × mS
  | 0, v1, s => (v1, s)
  | n + 1, v1, s => (if (gI s 12 12) ≤ v1 then (v1, s) else (if (40 : Int32) ≤ v1 then (v1, s) else (mq_let (if (gI s 14 (ix v1)) = 0 then (if (gI s 18 (ix v1)) = 0 then sI (sI (sI s 21 (ix v1) (gI s 24 (ix v1))) 22 (ix v1) ((gI s 22 (ix v1)) + (gI s 24 (ix v1)))) 20 (ix v1) ((gI s 20 (ix v1)) + (gI s 24 (ix v1))) else sI (sI s 21 (ix v1) (gI s 24 (ix v1))) 22 (ix v1) ((gI s 22 (ix v1)) + (gI s 24 (ix v1)))) else sI (sI s 21 (ix v1) (gI s 24 (ix v1))) 22 (ix v1) ((gI s 22 (ix v1)) + (gI s 24 (ix v1)))) (fun (x10 : mS) => (if (gI x10 14 (ix v1)) = 2 then (lp_Things_keep_2 n (v1 + 1) (sI x10 19 (ix v1) ((gI x10 19 (ix v1)) - (gI x10 24 (ix v1))))) else (lp_Things_keep_2 n (v1 + 1) x10))))))
def okl_Things_keep_2  : Nat → Int32 → mS → Prop
  | 0, v1, s => False
  | n + 1, v1, s => (if (gI s 12 12) ≤ v1 then True else (if (40 : Int32) ≤ v1 then True else (mm_inb v1 40 = true ∧ (mm_inb v1 40 = true ∧ (mm_inb v1 40 = true ∧ (mm_inb v1 40 = true ∧ (mm_inb v1 40 = true ∧ (mm_inb v1 40 = true ∧ ((if (gI s 14 (ix v1)) = 0 then (mm_inb v1 40 = true ∧ (if (gI s 18 (ix v1)) = 0 then (mm_inb v1 40 = true ∧ (mm_inb v1 40 = true ∧ (mm_inb v1 40 = true ∧ True))) else True)) else True) ∧ mq_letP (if (gI s 14 (ix v1)) = 0 then (if (gI s 18 (ix v1)) = 0 then sI (sI (sI s 21 (ix v1) (gI s 24 (ix v1))) 22 (ix v1) ((gI s 22 (ix v1)) + (gI s 24 (ix v1)))) 20 (ix v1) ((gI s 20 (ix v1)) + (gI s 24 (ix v1))) else sI (sI s 21 (ix v1) (gI s 24 (ix v1))) 22 (ix v1) ((gI s 22 (ix v1)) + (gI s 24 (ix v1)))) else sI (sI s 21 (ix v1) (gI s 24 (ix v1))) 22 (ix v1) ((gI s 22 (ix v1)) + (gI s 24 (ix v1)))) (fun (x10 : mS) => (mm_inb v1 40 = true ∧ (if (gI x10 14 (ix v1)) = 2 then (mm_inb v1 40 = true ∧ (mm_inb v1 40 = true ∧ (mm_inb v1 40 = true ∧ (okl_Things_keep_2 n (v1 + 1) (sI x10 19 (ix v1) ((gI x10 19 (ix v1)) - (gI x10 24 (ix v1)))))))) else (okl_Things_keep_2 n (v1 + 1) x10)))))))))))))
set_option maxRecDepth 4000 in
theorem tl_Things_keep_2 {len : Nat} {xs : Nat → Int32}  (d : Nat)   {T : Option mm_R} (K : Int32 × mS → Prop) (hX : ∀ r, K r → mm_fix (mm_X len xs) mm_Y (mm_call (mm_X len xs) mm_Y (d + 0)) (mm_look mc_Things_keep) (107, [some (.ref 12), some (.int r.1)], [], mT r.2) = T) : ∀ (n : Nat), ∀ (v1 : Int32) (s : mS), okl_Things_keep_2 n v1 s → K (lp_Things_keep_2 n v1 s) → mm_fix (mm_X len xs) mm_Y (mm_call (mm_X len xs) mm_Y (d + 0)) (mm_look mc_Things_keep) (2, [some (.ref 12), some (.int v1)], [], mT s) = T := by
  intro n
  induction n with
  | zero => intro v1 s; exact fun h => h.elim
  | succ n ih =>
    intro v1 s
    rw [okl_Things_keep_2, lp_Things_keep_2]
    refine w_go K 3 (c' := (7, [some (.ref 12), some (.int v1)], [.int (gI s 12 12), .int v1], mT s)) rfl ?_
    refine w_ige K rfl (fun _ => ?_) (fun _ => ?_)
    · refine w_go K 0 (c' := (107, [some (.ref 12), some (.int v1)], [], mT s)) rfl ?_
      exact fun _ b => hX _ b
    · refine w_go K 2 (c' := (13, [some (.ref 12), some (.int v1)], [.int 40, .int v1], mT s)) rfl ?_
      refine w_ige K rfl (fun _ => ?_) (fun _ => ?_)
      · refine w_go K 0 (c' := (107, [some (.ref 12), some (.int v1)], [], mT s)) rfl ?_
        exact fun _ b => hX _ b
      · refine w_go K 6 (c' := (26, [some (.ref 12), some (.int v1)], [.int v1, .ref 24, .int v1, .ref 21], mT s)) rfl ?_
        refine w_ck K (st_iL rfl rfl) ?_
        refine w_go K 0 (c' := (27, [some (.ref 12), some (.int v1)], [.int (gI s 24 (ix v1)), .int v1, .ref 21], mT s)) rfl ?_
        refine w_ck K (st_iS rfl rfl) ?_
        refine w_go K 4 (c' := (34, [some (.ref 12), some (.int v1)], [.int v1, .ref 22, .int v1, .ref 22], mT (sI s 21 (ix v1) (gI s 24 (ix v1))))) rfl ?_
        refine w_ck K (st_iL rfl rfl) ?_
        refine w_go K 3 (c' := (40, [some (.ref 12), some (.int v1)], [.int v1, .ref 24, .int (gI s 22 (ix v1)), .int v1, .ref 22], mT (sI s 21 (ix v1) (gI s 24 (ix v1))))) rfl ?_
        refine w_ck K (st_iL rfl rfl) ?_
        refine w_go K 1 (c' := (42, [some (.ref 12), some (.int v1)], [.int ((gI s 22 (ix v1)) + (gI s 24 (ix v1))), .int v1, .ref 22], mT (sI s 21 (ix v1) (gI s 24 (ix v1))))) rfl ?_
        refine w_ck K (st_iS rfl rfl) ?_
        refine w_go K 3 (c' := (48, [some (.ref 12), some (.int v1)], [.int v1, .ref 14], mT (sI (sI s 21 (ix v1) (gI s 24 (ix v1))) 22 (ix v1) ((gI s 22 (ix v1)) + (gI s 24 (ix v1)))))) rfl ?_
        refine w_ck K (st_iL rfl rfl) ?_
        refine w_go K 0 (c' := (49, [some (.ref 12), some (.int v1)], [.int (gI s 14 (ix v1))], mT (sI (sI s 21 (ix v1) (gI s 24 (ix v1))) 22 (ix v1) ((gI s 22 (ix v1)) + (gI s 24 (ix v1)))))) rfl ?_
        refine w_join K (fun (x10 : mS) => mm_fix (mm_X len xs) mm_Y (mm_call (mm_X len xs) mm_Y (d + 0)) (mm_look mc_Things_keep) (76, [some (.ref 12), some (.int v1)], [], mT x10) = T) (fun K hJ => ?_) (fun x10 h1 h2 => ?_)
        · refine w_go K 0 (c' := (49, [some (.ref 12), some (.int v1)], [.int (gI s 14 (ix v1))], mT (sI (sI s 21 (ix v1) (gI s 24 (ix v1))) 22 (ix v1) ((gI s 22 (ix v1)) + (gI s 24 (ix v1)))))) rfl ?_
          refine w_zne K rfl (fun _ => ?_) (fun _ => ?_)
          · refine w_go K 3 (c' := (57, [some (.ref 12), some (.int v1)], [.int v1, .ref 18], mT (sI (sI s 21 (ix v1) (gI s 24 (ix v1))) 22 (ix v1) ((gI s 22 (ix v1)) + (gI s 24 (ix v1)))))) rfl ?_
            refine w_ck K (st_bL rfl rfl) ?_
            refine w_go K 0 (c' := (58, [some (.ref 12), some (.int v1)], [.int (gI s 18 (ix v1))], mT (sI (sI s 21 (ix v1) (gI s 24 (ix v1))) 22 (ix v1) ((gI s 22 (ix v1)) + (gI s 24 (ix v1)))))) rfl ?_
            refine w_zne K rfl (fun _ => ?_) (fun _ => ?_)
            · refine w_go K 4 (c' := (67, [some (.ref 12), some (.int v1)], [.int v1, .ref 20, .int v1, .ref 20], mT (sI (sI s 21 (ix v1) (gI s 24 (ix v1))) 22 (ix v1) ((gI s 22 (ix v1)) + (gI s 24 (ix v1)))))) rfl ?_
              refine w_ck K (st_iL rfl rfl) ?_
              refine w_go K 3 (c' := (73, [some (.ref 12), some (.int v1)], [.int v1, .ref 24, .int (gI s 20 (ix v1)), .int v1, .ref 20], mT (sI (sI s 21 (ix v1) (gI s 24 (ix v1))) 22 (ix v1) ((gI s 22 (ix v1)) + (gI s 24 (ix v1)))))) rfl ?_
              refine w_ck K (st_iL rfl rfl) ?_
              refine w_go K 1 (c' := (75, [some (.ref 12), some (.int v1)], [.int ((gI s 20 (ix v1)) + (gI s 24 (ix v1))), .int v1, .ref 20], mT (sI (sI s 21 (ix v1) (gI s 24 (ix v1))) 22 (ix v1) ((gI s 22 (ix v1)) + (gI s 24 (ix v1)))))) rfl ?_
              refine w_ck K (st_iS rfl rfl) ?_
              refine w_go K 0 (c' := (76, [some (.ref 12), some (.int v1)], [], mT (sI (sI (sI s 21 (ix v1) (gI s 24 (ix v1))) 22 (ix v1) ((gI s 22 (ix v1)) + (gI s 24 (ix v1)))) 20 (ix v1) ((gI s 20 (ix v1)) + (gI s 24 (ix v1)))))) rfl ?_
              exact fun _ h => hJ _ h
            · refine w_go K 0 (c' := (76, [some (.ref 12), some (.int v1)], [], mT (sI (sI s 21 (ix v1) (gI s 24 (ix v1))) 22 (ix v1) ((gI s 22 (ix v1)) + (gI s 24 (ix v1)))))) rfl ?_
              exact fun _ h => hJ _ h
          · refine w_go K 0 (c' := (76, [some (.ref 12), some (.int v1)], [], mT (sI (sI s 21 (ix v1) (gI s 24 (ix v1))) 22 (ix v1) ((gI s 22 (ix v1)) + (gI s 24 (ix v1)))))) rfl ?_
            exact fun _ h => hJ _ h
        · revert h1 h2
          refine w_go K 3 (c' := (81, [some (.ref 12), some (.int v1)], [.int v1, .ref 14], mT x10)) rfl ?_
          refine w_ck K (st_iL rfl rfl) ?_
          refine w_go K 1 (c' := (83, [some (.ref 12), some (.int v1)], [.int 2, .int (gI x10 14 (ix v1))], mT x10)) rfl ?_
          refine w_ine K rfl (fun _ => ?_) (fun _ => ?_)
          · refine w_go K 4 (c' := (92, [some (.ref 12), some (.int v1)], [.int v1, .ref 19, .int v1, .ref 19], mT x10)) rfl ?_
            refine w_ck K (st_iL rfl rfl) ?_
            refine w_go K 3 (c' := (98, [some (.ref 12), some (.int v1)], [.int v1, .ref 24, .int (gI x10 19 (ix v1)), .int v1, .ref 19], mT x10)) rfl ?_
            refine w_ck K (st_iL rfl rfl) ?_
            refine w_go K 1 (c' := (100, [some (.ref 12), some (.int v1)], [.int ((gI x10 19 (ix v1)) - (gI x10 24 (ix v1))), .int v1, .ref 19], mT x10)) rfl ?_
            refine w_ck K (st_iS rfl rfl) ?_
            refine w_go K 2 (c' := (2, [some (.ref 12), some (.int (v1 + 1))], [], mT (sI x10 19 (ix v1) ((gI x10 19 (ix v1)) - (gI x10 24 (ix v1)))))) rfl ?_
            exact fun a b => ih (v1 + 1) (sI x10 19 (ix v1) ((gI x10 19 (ix v1)) - (gI x10 24 (ix v1)))) a b
          · refine w_go K 2 (c' := (2, [some (.ref 12), some (.int (v1 + 1))], [], mT x10)) rfl ?_
            exact fun a b => ih (v1 + 1) x10 a b
def f_Things_keep  (s : mS) : mS := (mq_let (lp_Things_keep_2 mm_N (0 : Int32) s) (fun (x11 : Int32 × mS) => x11.2))
def ok_Things_keep  (s : mS) : Prop := (okl_Things_keep_2 mm_N (0 : Int32) s ∧ mq_letP (lp_Things_keep_2 mm_N (0 : Int32) s) (fun (x11 : Int32 × mS) => True))
set_option maxRecDepth 4000 in
theorem t_Things_keep {len : Nat} {xs : Nat → Int32}  (d : Nat)  (s : mS) {T : Option mm_R} (K : mS → Prop) (hK : ∀ t, K t → some (none, mT t) = T) : ok_Things_keep s → K (f_Things_keep s) → mm_fix (mm_X len xs) mm_Y (mm_call (mm_X len xs) mm_Y (d + 0)) (mm_look mc_Things_keep) (0, [some (.ref 12), none], [], mT s) = T := by
  unfold ok_Things_keep f_Things_keep
  refine w_go K 2 (c' := (2, [some (.ref 12), some (.int 0)], [], mT s)) rfl ?_
  refine w_join K (fun (x11 : Int32 × mS) => mm_fix (mm_X len xs) mm_Y (mm_call (mm_X len xs) mm_Y (d + 0)) (mm_look mc_Things_keep) (107, [some (.ref 12), some (.int x11.1)], [], mT x11.2) = T) (fun K hJ => tl_Things_keep_2 (len := len) (xs := xs) d (T := T) K hJ mm_N (0 : Int32) s) (fun x11 h1 h2 => ?_)
  revert h1 h2
  refine w_go K 0 (c' := (107, [some (.ref 12), some (.int x11.1)], [], mT x11.2)) rfl ?_
  exact w_ret K rfl (hK _)
theorem m_Things_keep {len : Nat} {xs : Nat → Int32}  (d : Nat)  (s : mS) : ok_Things_keep s → mm_call (mm_X len xs) mm_Y (d + 1) 59 [.ref 12] (mT s) = some (none, mT (f_Things_keep s)) := fun h => t_Things_keep (len := len) (xs := xs) d s (fun t => (some (none, mT t) : Option mm_R) = some (none, mT (f_Things_keep s))) (fun _ h => h) h rfl
def lp_Net_keep_7 (a2 : Int32) : Nat → Int32 → mS → Int32 × mS
  | 0, v3, s => (v3, s)
  | n + 1, v3, s => (if (gI s 25 10) ≤ v3 then (v3, s) else (if (16 : Int32) ≤ v3 then (v3, s) else (mq_let (if a2 = 0 then (gI s 30 (ix v3)) else (0 : Int32)) (fun (x11 : Int32) => (lp_Net_keep_7 a2 n (v3 + 1) (sI (sI (sI s 32 (ix v3) x11) 33 (ix v3) (gI s 31 (ix v3))) 34 (ix v3) (gI s 29 (ix v3))))))))
def okl_Net_keep_7 (a2 : Int32) : Nat → Int32 → mS → Prop
  | 0, v3, s => False
  | n + 1, v3, s => (if (gI s 25 10) ≤ v3 then True else (if (16 : Int32) ≤ v3 then True else ((if a2 = 0 then (mm_inb v3 16 = true ∧ True) else True) ∧ mq_letP (if a2 = 0 then (gI s 30 (ix v3)) else (0 : Int32)) (fun (x11 : Int32) => (mm_inb v3 16 = true ∧ (mm_inb v3 16 = true ∧ (mm_inb v3 16 = true ∧ (mm_inb v3 16 = true ∧ ((mm_inb v3 16 && mm_bit (gI s 29 (ix v3))) = true ∧ (okl_Net_keep_7 a2 n (v3 + 1) (sI (sI (sI s 32 (ix v3) x11) 33 (ix v3) (gI s 31 (ix v3))) 34 (ix v3) (gI s 29 (ix v3)))))))))))))
set_option maxRecDepth 4000 in
theorem tl_Net_keep_7 {len : Nat} {xs : Nat → Int32}  (d : Nat) (a2 : Int32)  {T : Option mm_R} (K : Int32 × mS → Prop) (hX : ∀ r, K r → ∀ (o1 : Option Value), mm_fix (mm_X len xs) mm_Y (mm_call (mm_X len xs) mm_Y (d + 2)) (mm_look mc_Net_keep) (71, [some (.ref 25), o1, some (.int a2), some (.int r.1)], [], mT r.2) = T) : ∀ (n : Nat), ∀ (v3 : Int32) (o1 : Option Value) (s : mS), okl_Net_keep_7 a2 n v3 s → K (lp_Net_keep_7 a2 n v3 s) → mm_fix (mm_X len xs) mm_Y (mm_call (mm_X len xs) mm_Y (d + 2)) (mm_look mc_Net_keep) (7, [some (.ref 25), o1, some (.int a2), some (.int v3)], [], mT s) = T := by
  intro n
  induction n with
  | zero => intro v3 o1 s; exact fun h => h.elim
  | succ n ih =>
    intro v3 o1 s
    rw [okl_Net_keep_7, lp_Net_keep_7]
    refine w_go K 3 (c' := (12, [some (.ref 25), o1, some (.int a2), some (.int v3)], [.int (gI s 25 10), .int v3], mT s)) rfl ?_
    refine w_ige K rfl (fun _ => ?_) (fun _ => ?_)
    · refine w_go K 0 (c' := (71, [some (.ref 25), o1, some (.int a2), some (.int v3)], [], mT s)) rfl ?_
      exact fun _ b => hX _ b _
    · refine w_go K 2 (c' := (18, [some (.ref 25), o1, some (.int a2), some (.int v3)], [.int 16, .int v3], mT s)) rfl ?_
      refine w_ige K rfl (fun _ => ?_) (fun _ => ?_)
      · refine w_go K 0 (c' := (71, [some (.ref 25), o1, some (.int a2), some (.int v3)], [], mT s)) rfl ?_
        exact fun _ b => hX _ b _
      · refine w_go K 4 (c' := (27, [some (.ref 25), o1, some (.int a2), some (.int v3)], [.int a2, .int v3, .ref 32], mT s)) rfl ?_
        refine w_join K (fun (x11 : Int32) => mm_fix (mm_X len xs) mm_Y (mm_call (mm_X len xs) mm_Y (d + 2)) (mm_look mc_Net_keep) (40, [some (.ref 25), o1, some (.int a2), some (.int v3)], [.int x11, .int v3, .ref 32], mT s) = T) (fun K hJ => ?_) (fun x11 h1 h2 => ?_)
        · refine w_go K 0 (c' := (27, [some (.ref 25), o1, some (.int a2), some (.int v3)], [.int a2, .int v3, .ref 32], mT s)) rfl ?_
          refine w_zeq K rfl (fun _ => ?_) (fun _ => ?_)
          · refine w_go K 3 (c' := (39, [some (.ref 25), o1, some (.int a2), some (.int v3)], [.int v3, .ref 30, .int v3, .ref 32], mT s)) rfl ?_
            refine w_ck K (st_iL rfl rfl) ?_
            refine w_go K 0 (c' := (40, [some (.ref 25), o1, some (.int a2), some (.int v3)], [.int (gI s 30 (ix v3)), .int v3, .ref 32], mT s)) rfl ?_
            exact fun _ h => hJ _ h
          · refine w_go K 2 (c' := (40, [some (.ref 25), o1, some (.int a2), some (.int v3)], [.int 0, .int v3, .ref 32], mT s)) rfl ?_
            exact fun _ h => hJ _ h
        · revert h1 h2
          refine w_go K 0 (c' := (40, [some (.ref 25), o1, some (.int a2), some (.int v3)], [.int x11, .int v3, .ref 32], mT s)) rfl ?_
          refine w_ck K (st_iS rfl rfl) ?_
          refine w_go K 6 (c' := (51, [some (.ref 25), o1, some (.int a2), some (.int v3)], [.int v3, .ref 31, .int v3, .ref 33], mT (sI s 32 (ix v3) x11))) rfl ?_
          refine w_ck K (st_iL rfl rfl) ?_
          refine w_go K 0 (c' := (52, [some (.ref 25), o1, some (.int a2), some (.int v3)], [.int (gI s 31 (ix v3)), .int v3, .ref 33], mT (sI s 32 (ix v3) x11))) rfl ?_
          refine w_ck K (st_iS rfl rfl) ?_
          refine w_go K 6 (c' := (63, [some (.ref 25), o1, some (.int a2), some (.int v3)], [.int v3, .ref 29, .int v3, .ref 34], mT (sI (sI s 32 (ix v3) x11) 33 (ix v3) (gI s 31 (ix v3))))) rfl ?_
          refine w_ck K (st_bL rfl rfl) ?_
          refine w_go K 0 (c' := (64, [some (.ref 25), o1, some (.int a2), some (.int v3)], [.int (gI s 29 (ix v3)), .int v3, .ref 34], mT (sI (sI s 32 (ix v3) x11) 33 (ix v3) (gI s 31 (ix v3))))) rfl ?_
          refine w_ck K (st_bS rfl rfl) ?_
          refine w_go K 2 (c' := (7, [some (.ref 25), o1, some (.int a2), some (.int (v3 + 1))], [], mT (sI (sI (sI s 32 (ix v3) x11) 33 (ix v3) (gI s 31 (ix v3))) 34 (ix v3) (gI s 29 (ix v3))))) rfl ?_
          exact fun a b => ih (v3 + 1) _ (sI (sI (sI s 32 (ix v3) x11) 33 (ix v3) (gI s 31 (ix v3))) 34 (ix v3) (gI s 29 (ix v3))) a b
def f_Net_keep (a2 : Int32) (s : mS) : mS := (mq_let (f_Net_gatherFlow s) (fun (x10 : mS) => (mq_let (lp_Net_keep_7 a2 mm_N (0 : Int32) x10) (fun (x12 : Int32 × mS) => x12.2))))
def ok_Net_keep (a2 : Int32) (s : mS) : Prop := (ok_Net_gatherFlow s ∧ mq_letP (f_Net_gatherFlow s) (fun (x10 : mS) => (okl_Net_keep_7 a2 mm_N (0 : Int32) x10 ∧ mq_letP (lp_Net_keep_7 a2 mm_N (0 : Int32) x10) (fun (x12 : Int32 × mS) => True))))
set_option maxRecDepth 4000 in
theorem t_Net_keep {len : Nat} {xs : Nat → Int32}  (d : Nat) (a2 : Int32) (s : mS) {T : Option mm_R} (K : mS → Prop) (hK : ∀ t, K t → some (none, mT t) = T) : ok_Net_keep a2 s → K (f_Net_keep a2 s) → mm_fix (mm_X len xs) mm_Y (mm_call (mm_X len xs) mm_Y (d + 2)) (mm_look mc_Net_keep) (0, [some (.ref 25), some (.ref 12), some (.int a2), none], [], mT s) = T := by
  unfold ok_Net_keep f_Net_keep
  refine w_go K 2 (c' := (2, [some (.ref 25), some (.ref 12), some (.int a2), none], [.ref 12, .ref 25], mT s)) rfl ?_
  refine w_callL K (E := f_Net_gatherFlow s) (g := fun (x10 : mS) => (none, mT x10)) rfl (m_Net_gatherFlow (len := len) (xs := xs) (d + 0) s) (fun x10 => ?_)
  refine w_go K 2 (c' := (7, [some (.ref 25), some (.ref 12), some (.int a2), some (.int 0)], [], mT x10)) rfl ?_
  refine w_join K (fun (x12 : Int32 × mS) => ∀ (q13 : Option Value), mm_fix (mm_X len xs) mm_Y (mm_call (mm_X len xs) mm_Y (d + 2)) (mm_look mc_Net_keep) (71, [some (.ref 25), q13, some (.int a2), some (.int x12.1)], [], mT x12.2) = T) (fun K hJ => tl_Net_keep_7 (len := len) (xs := xs) d a2 (T := T) K hJ mm_N (0 : Int32) _ x10) (fun x12 h1 h2 q13 => ?_)
  revert h1 h2
  refine w_go K 0 (c' := (71, [some (.ref 25), q13, some (.int a2), some (.int x12.1)], [], mT x12.2)) rfl ?_
  exact w_ret K rfl (hK _)
theorem m_Net_keep {len : Nat} {xs : Nat → Int32}  (d : Nat) (a2 : Int32) (s : mS) : ok_Net_keep a2 s → mm_call (mm_X len xs) mm_Y (d + 3) 60 [.ref 25, .ref 12, .int a2] (mT s) = some (none, mT (f_Net_keep a2 s)) := fun h => t_Net_keep (len := len) (xs := xs) d a2 s (fun t => (some (none, mT t) : Option mm_R) = some (none, mT (f_Net_keep a2 s))) (fun _ h => h) h rfl
def f_Act_isLeaf (a0 : Int32) (s : mS) : Int32 := (if a0 = 2 then 1 else (if a0 = 5 then 1 else (if a0 < 8 then 0 else (if (11 : Int32) < a0 then 0 else 1))))
set_option maxRecDepth 4000 in
theorem t_Act_isLeaf {len : Nat} {xs : Nat → Int32}  (d : Nat) (a0 : Int32) (s : mS) {T : Option mm_R} (K : Int32 → Prop) (hK : ∀ t, K t → some (some (.int t), mT s) = T) : True → K (f_Act_isLeaf a0 s) → mm_fix (mm_X len xs) mm_Y (mm_call (mm_X len xs) mm_Y (d + 0)) (mm_look mc_Act_isLeaf) (0, [some (.int a0)], [], mT s) = T := by
  unfold f_Act_isLeaf
  refine w_go K 2 (c' := (2, [some (.int a0)], [.int 2, .int a0], mT s)) rfl ?_
  refine w_ieqT K rfl (fun _ => ?_) (fun _ => ?_)
  · refine w_go K 2 (c' := (27, [some (.int a0)], [.int 1], mT s)) rfl ?_
    exact w_ret K rfl (hK _)
  · refine w_go K 2 (c' := (7, [some (.int a0)], [.int 5, .int a0], mT s)) rfl ?_
    refine w_ieqT K rfl (fun _ => ?_) (fun _ => ?_)
    · refine w_go K 2 (c' := (27, [some (.int a0)], [.int 1], mT s)) rfl ?_
      exact w_ret K rfl (hK _)
    · refine w_go K 2 (c' := (13, [some (.int a0)], [.int 8, .int a0], mT s)) rfl ?_
      refine w_iltT K rfl (fun _ => ?_) (fun _ => ?_)
      · refine w_go K 1 (c' := (27, [some (.int a0)], [.int 0], mT s)) rfl ?_
        exact w_ret K rfl (hK _)
      · refine w_go K 2 (c' := (19, [some (.int a0)], [.int 11, .int a0], mT s)) rfl ?_
        refine w_igtT K rfl (fun _ => ?_) (fun _ => ?_)
        · refine w_go K 1 (c' := (27, [some (.int a0)], [.int 0], mT s)) rfl ?_
          exact w_ret K rfl (hK _)
        · refine w_go K 2 (c' := (27, [some (.int a0)], [.int 1], mT s)) rfl ?_
          exact w_ret K rfl (hK _)
theorem m_Act_isLeaf {len : Nat} {xs : Nat → Int32}  (d : Nat) (a0 : Int32) (s : mS) : True → mm_call (mm_X len xs) mm_Y (d + 1) 66 [.int a0] (mT s) = some (some (.int (f_Act_isLeaf a0 s)), mT s) := fun h => t_Act_isLeaf (len := len) (xs := xs) d a0 s (fun t => (some (some (.int t), mT s) : Option mm_R) = some (some (.int (f_Act_isLeaf a0 s)), mT s)) (fun _ h => h) h rfl
def f_Act_joined (a0 : Int32) (a1 : Int32) (a2 : Int32) (s : mS) : Int32 := (if a0 = 14 then (a1 &&& a2) else (if a0 = 15 then (a1 ||| a2) else (if a0 = 16 then (a1 ||| a2) else (if a0 = 17 then (a1 + a2) else (if a0 = 18 then (a1 - a2) else (if a0 = 19 then (a1 * a2) else (if a0 = 20 then (if a2 = 0 then 0 else (a1 / a2)) else (if a0 = 21 then (a1 ||| a2) else (if a0 = 22 then (a1 ||| a2) else (if a0 = 23 then (if a2 ≤ a1 then 0 else 1) else (if a0 = 24 then (if a1 = a2 then 1 else 0) else (if a0 = 25 then (if a1 ≤ a2 then 0 else 1) else (a1 ||| a2)))))))))))))
def ok_Act_joined (a0 : Int32) (a1 : Int32) (a2 : Int32) (s : mS) : Prop := (if a0 = 14 then True else (if a0 = 15 then True else (if a0 = 16 then True else (if a0 = 17 then True else (if a0 = 18 then True else (if a0 = 19 then True else (if a0 = 20 then (if a2 = 0 then True else ((!(decide (a2 = (0 : Int32)))) = true ∧ True)) else True)))))))
set_option maxRecDepth 4000 in
theorem t_Act_joined {len : Nat} {xs : Nat → Int32}  (d : Nat) (a0 : Int32) (a1 : Int32) (a2 : Int32) (s : mS) {T : Option mm_R} (K : Int32 → Prop) (hK : ∀ t, K t → some (some (.int t), mT s) = T) : ok_Act_joined a0 a1 a2 s → K (f_Act_joined a0 a1 a2 s) → mm_fix (mm_X len xs) mm_Y (mm_call (mm_X len xs) mm_Y (d + 0)) (mm_look mc_Act_joined) (0, [some (.int a0), some (.int a1), some (.int a2)], [], mT s) = T := by
  unfold ok_Act_joined f_Act_joined
  refine w_go K 1 (c' := (1, [some (.int a0), some (.int a1), some (.int a2)], [.int a0], mT s)) rfl ?_
  refine w_go K 1 (c' := (mm_sw [(14, 121), (15, 125), (16, 125), (17, 64), (18, 68), (19, 72), (20, 76), (21, 125), (22, 125), (23, 88), (24, 99), (25, 110)] 125 a0, [some (.int a0), some (.int a1), some (.int a2)], [], mT s)) rfl ?_
  refine w_sw K (fun _ => ?_) (fun _ => ?_)
  · refine w_go K 3 (c' := (124, [some (.int a0), some (.int a1), some (.int a2)], [.int (a1 &&& a2)], mT s)) rfl ?_
    exact w_ret K rfl (hK _)
  · refine w_sw K (fun _ => ?_) (fun _ => ?_)
    · refine w_go K 3 (c' := (128, [some (.int a0), some (.int a1), some (.int a2)], [.int (a1 ||| a2)], mT s)) rfl ?_
      exact w_ret K rfl (hK _)
    · refine w_sw K (fun _ => ?_) (fun _ => ?_)
      · refine w_go K 3 (c' := (128, [some (.int a0), some (.int a1), some (.int a2)], [.int (a1 ||| a2)], mT s)) rfl ?_
        exact w_ret K rfl (hK _)
      · refine w_sw K (fun _ => ?_) (fun _ => ?_)
        · refine w_go K 3 (c' := (67, [some (.int a0), some (.int a1), some (.int a2)], [.int (a1 + a2)], mT s)) rfl ?_
          exact w_ret K rfl (hK _)
        · refine w_sw K (fun _ => ?_) (fun _ => ?_)
          · refine w_go K 3 (c' := (71, [some (.int a0), some (.int a1), some (.int a2)], [.int (a1 - a2)], mT s)) rfl ?_
            exact w_ret K rfl (hK _)
          · refine w_sw K (fun _ => ?_) (fun _ => ?_)
            · refine w_go K 3 (c' := (75, [some (.int a0), some (.int a1), some (.int a2)], [.int (a1 * a2)], mT s)) rfl ?_
              exact w_ret K rfl (hK _)
            · refine w_sw K (fun _ => ?_) (fun _ => ?_)
              · refine w_go K 1 (c' := (77, [some (.int a0), some (.int a1), some (.int a2)], [.int a2], mT s)) rfl ?_
                refine w_zne K rfl (fun _ => ?_) (fun _ => ?_)
                · refine w_go K 2 (c' := (87, [some (.int a0), some (.int a1), some (.int a2)], [.int 0], mT s)) rfl ?_
                  exact w_ret K rfl (hK _)
                · refine w_go K 2 (c' := (86, [some (.int a0), some (.int a1), some (.int a2)], [.int a2, .int a1], mT s)) rfl ?_
                  refine w_ck K rfl ?_
                  refine w_go K 0 (c' := (87, [some (.int a0), some (.int a1), some (.int a2)], [.int (a1 / a2)], mT s)) rfl ?_
                  exact w_ret K rfl (hK _)
              · refine w_swT K (fun _ => ?_) (fun _ => ?_)
                · refine w_go K 3 (c' := (128, [some (.int a0), some (.int a1), some (.int a2)], [.int (a1 ||| a2)], mT s)) rfl ?_
                  exact w_ret K rfl (hK _)
                · refine w_swT K (fun _ => ?_) (fun _ => ?_)
                  · refine w_go K 3 (c' := (128, [some (.int a0), some (.int a1), some (.int a2)], [.int (a1 ||| a2)], mT s)) rfl ?_
                    exact w_ret K rfl (hK _)
                  · refine w_swT K (fun _ => ?_) (fun _ => ?_)
                    · refine w_go K 2 (c' := (90, [some (.int a0), some (.int a1), some (.int a2)], [.int a2, .int a1], mT s)) rfl ?_
                      refine w_igeT K rfl (fun _ => ?_) (fun _ => ?_)
                      · refine w_go K 1 (c' := (98, [some (.int a0), some (.int a1), some (.int a2)], [.int 0], mT s)) rfl ?_
                        exact w_ret K rfl (hK _)
                      · refine w_go K 2 (c' := (98, [some (.int a0), some (.int a1), some (.int a2)], [.int 1], mT s)) rfl ?_
                        exact w_ret K rfl (hK _)
                    · refine w_swT K (fun _ => ?_) (fun _ => ?_)
                      · refine w_go K 2 (c' := (101, [some (.int a0), some (.int a1), some (.int a2)], [.int a2, .int a1], mT s)) rfl ?_
                        refine w_ineT K rfl (fun _ => ?_) (fun _ => ?_)
                        · refine w_go K 2 (c' := (109, [some (.int a0), some (.int a1), some (.int a2)], [.int 1], mT s)) rfl ?_
                          exact w_ret K rfl (hK _)
                        · refine w_go K 1 (c' := (109, [some (.int a0), some (.int a1), some (.int a2)], [.int 0], mT s)) rfl ?_
                          exact w_ret K rfl (hK _)
                      · refine w_swT K (fun _ => ?_) (fun _ => ?_)
                        · refine w_go K 2 (c' := (112, [some (.int a0), some (.int a1), some (.int a2)], [.int a2, .int a1], mT s)) rfl ?_
                          refine w_ileT K rfl (fun _ => ?_) (fun _ => ?_)
                          · refine w_go K 1 (c' := (120, [some (.int a0), some (.int a1), some (.int a2)], [.int 0], mT s)) rfl ?_
                            exact w_ret K rfl (hK _)
                          · refine w_go K 2 (c' := (120, [some (.int a0), some (.int a1), some (.int a2)], [.int 1], mT s)) rfl ?_
                            exact w_ret K rfl (hK _)
                        · refine w_go K 0 (c' := (125, [some (.int a0), some (.int a1), some (.int a2)], [], mT s)) rfl ?_
                          refine w_go K 3 (c' := (128, [some (.int a0), some (.int a1), some (.int a2)], [.int (a1 ||| a2)], mT s)) rfl ?_
                          exact w_ret K rfl (hK _)
theorem m_Act_joined {len : Nat} {xs : Nat → Int32}  (d : Nat) (a0 : Int32) (a1 : Int32) (a2 : Int32) (s : mS) : ok_Act_joined a0 a1 a2 s → mm_call (mm_X len xs) mm_Y (d + 1) 68 [.int a0, .int a1, .int a2] (mT s) = some (some (.int (f_Act_joined a0 a1 a2 s)), mT s) := fun h => t_Act_joined (len := len) (xs := xs) d a0 a1 a2 s (fun t => (some (some (.int t), mT s) : Option mm_R) = some (some (.int (f_Act_joined a0 a1 a2 s)), mT s)) (fun _ h => h) h rfl
def f_Act_leaf_39 (a0 : Int32) (a1 : Int32) (s : mS) : Int32 := (if a0 = 5 then (gI s 39 3) else (if a0 = 6 then a1 else (if a0 = 7 then a1 else (if a0 = 8 then (gI s 39 0) else (if a0 = 9 then (gI s 39 1) else (if a0 = 10 then (gI s 39 2) else (if a0 = 11 then (gI s 39 4) else a1)))))))
set_option maxRecDepth 4000 in
theorem t_Act_leaf_39 {len : Nat} {xs : Nat → Int32}  (d : Nat) (a0 : Int32) (a1 : Int32) (s : mS) {T : Option mm_R} (K : Int32 → Prop) (hK : ∀ t, K t → some (some (.int t), mT s) = T) : True → K (f_Act_leaf_39 a0 a1 s) → mm_fix (mm_X len xs) mm_Y (mm_call (mm_X len xs) mm_Y (d + 0)) (mm_look mc_Act_leaf) (0, [some (.int a0), some (.int a1), some (.ref 39)], [], mT s) = T := by
  unfold f_Act_leaf_39
  refine w_go K 5 (c' := (9, [some (.int a0), some (.int a1), some (.ref 39)], [.int a0], mT s)) rfl ?_
  refine w_go K 1 (c' := (mm_sw [(5, 64), (6, 72), (7, 72), (8, 52), (9, 56), (10, 60), (11, 68)] 72 a0, [some (.int a0), some (.int a1), some (.ref 39)], [], mT s)) rfl ?_
  refine w_swT K (fun _ => ?_) (fun _ => ?_)
  · refine w_go K 3 (c' := (67, [some (.int a0), some (.int a1), some (.ref 39)], [.int (gI s 39 3)], mT s)) rfl ?_
    exact w_ret K rfl (hK _)
  · refine w_swT K (fun _ => ?_) (fun _ => ?_)
    · refine w_go K 1 (c' := (73, [some (.int a0), some (.int a1), some (.ref 39)], [.int a1], mT s)) rfl ?_
      exact w_ret K rfl (hK _)
    · refine w_swT K (fun _ => ?_) (fun _ => ?_)
      · refine w_go K 1 (c' := (73, [some (.int a0), some (.int a1), some (.ref 39)], [.int a1], mT s)) rfl ?_
        exact w_ret K rfl (hK _)
      · refine w_swT K (fun _ => ?_) (fun _ => ?_)
        · refine w_go K 3 (c' := (55, [some (.int a0), some (.int a1), some (.ref 39)], [.int (gI s 39 0)], mT s)) rfl ?_
          exact w_ret K rfl (hK _)
        · refine w_swT K (fun _ => ?_) (fun _ => ?_)
          · refine w_go K 3 (c' := (59, [some (.int a0), some (.int a1), some (.ref 39)], [.int (gI s 39 1)], mT s)) rfl ?_
            exact w_ret K rfl (hK _)
          · refine w_swT K (fun _ => ?_) (fun _ => ?_)
            · refine w_go K 3 (c' := (63, [some (.int a0), some (.int a1), some (.ref 39)], [.int (gI s 39 2)], mT s)) rfl ?_
              exact w_ret K rfl (hK _)
            · refine w_swT K (fun _ => ?_) (fun _ => ?_)
              · refine w_go K 3 (c' := (71, [some (.int a0), some (.int a1), some (.ref 39)], [.int (gI s 39 4)], mT s)) rfl ?_
                exact w_ret K rfl (hK _)
              · refine w_go K 0 (c' := (72, [some (.int a0), some (.int a1), some (.ref 39)], [], mT s)) rfl ?_
                refine w_go K 1 (c' := (73, [some (.int a0), some (.int a1), some (.ref 39)], [.int a1], mT s)) rfl ?_
                exact w_ret K rfl (hK _)
theorem m_Act_leaf_39 {len : Nat} {xs : Nat → Int32}  (d : Nat) (a0 : Int32) (a1 : Int32) (s : mS) : True → mm_call (mm_X len xs) mm_Y (d + 1) 67 [.int a0, .int a1, .ref 39] (mT s) = some (some (.int (f_Act_leaf_39 a0 a1 s)), mT s) := fun h => t_Act_leaf_39 (len := len) (xs := xs) d a0 a1 s (fun t => (some (some (.int t), mT s) : Option mm_R) = some (some (.int (f_Act_leaf_39 a0 a1 s)), mT s)) (fun _ h => h) h rfl
def lp_Act_valueOf_39_10 (r0 : Nat) (a2 : Int32) : Nat → Int32 → Int32 → mS → Int32 × Int32 × mS
  | 0, v4, v5, s => (v4, v5, s)
  | n + 1, v4, v5, s => (if a2 ≤ v5 then (v4, v5, s) else (if (600 : Int32) ≤ v5 then (v4, v5, s) else (mq_let (f_Act_isLeaf (gI s (r0 + 5) (ix v5)) s) (fun (x10 : Int32) => (if x10 = 0 then (if (gI s (r0 + 5) (ix v5)) = 15 then (if v4 ≤ 0 then (lp_Act_valueOf_39_10 r0 a2 n v4 (v5 + 1) s) else (lp_Act_valueOf_39_10 r0 a2 n v4 (v5 + 1) (sI s (r0 + 7) (ix (v4 - 1)) (1 - (gI s (r0 + 7) (ix (v4 - 1))))))) else (if v4 ≤ 1 then (lp_Act_valueOf_39_10 r0 a2 n v4 (v5 + 1) s) else (mq_let (v4 + (-1)) (fun (x11 : Int32) => (mq_let (f_Act_joined (gI s (r0 + 5) (ix v5)) (gI s (r0 + 7) (ix (x11 - 1))) (gI s (r0 + 7) (ix x11)) s) (fun (x12 : Int32) => (lp_Act_valueOf_39_10 r0 a2 n x11 (v5 + 1) (sI s (r0 + 7) (ix (x11 - 1)) x12)))))))) else (if (64 : Int32) ≤ v4 then (lp_Act_valueOf_39_10 r0 a2 n v4 (v5 + 1) s) else (mq_let (f_Act_leaf_39 (gI s (r0 + 5) (ix v5)) (gI s (r0 + 6) (ix v5)) s) (fun (x13 : Int32) => (lp_Act_valueOf_39_10 r0 a2 n (v4 + 1) (v5 + 1) (sI s (r0 + 7) (ix v4) x13))))))))))
def okl_Act_valueOf_39_10 (r0 : Nat) (a2 : Int32) : Nat → Int32 → Int32 → mS → Prop
  | 0, v4, v5, s => False
  | n + 1, v4, v5, s => (if a2 ≤ v5 then True else (if (600 : Int32) ≤ v5 then True else (mm_inb v5 600 = true ∧ (True ∧ mq_letP (f_Act_isLeaf (gI s (r0 + 5) (ix v5)) s) (fun (x10 : Int32) => (if x10 = 0 then (if (gI s (r0 + 5) (ix v5)) = 15 then (if v4 ≤ 0 then (okl_Act_valueOf_39_10 r0 a2 n v4 (v5 + 1) s) else (mm_inb (v4 - 1) 64 = true ∧ (mm_inb (v4 - 1) 64 = true ∧ (okl_Act_valueOf_39_10 r0 a2 n v4 (v5 + 1) (sI s (r0 + 7) (ix (v4 - 1)) (1 - (gI s (r0 + 7) (ix (v4 - 1))))))))) else (if v4 ≤ 1 then (okl_Act_valueOf_39_10 r0 a2 n v4 (v5 + 1) s) else (mq_letP (v4 + (-1)) (fun (x11 : Int32) => (mm_inb (x11 - 1) 64 = true ∧ (mm_inb x11 64 = true ∧ (ok_Act_joined (gI s (r0 + 5) (ix v5)) (gI s (r0 + 7) (ix (x11 - 1))) (gI s (r0 + 7) (ix x11)) s ∧ mq_letP (f_Act_joined (gI s (r0 + 5) (ix v5)) (gI s (r0 + 7) (ix (x11 - 1))) (gI s (r0 + 7) (ix x11)) s) (fun (x12 : Int32) => (mm_inb (x11 - 1) 64 = true ∧ (okl_Act_valueOf_39_10 r0 a2 n x11 (v5 + 1) (sI s (r0 + 7) (ix (x11 - 1)) x12))))))))))) else (if (64 : Int32) ≤ v4 then (okl_Act_valueOf_39_10 r0 a2 n v4 (v5 + 1) s) else (mm_inb v5 600 = true ∧ (True ∧ mq_letP (f_Act_leaf_39 (gI s (r0 + 5) (ix v5)) (gI s (r0 + 6) (ix v5)) s) (fun (x13 : Int32) => (mm_inb v4 64 = true ∧ (okl_Act_valueOf_39_10 r0 a2 n (v4 + 1) (v5 + 1) (sI s (r0 + 7) (ix v4) x13)))))))))))))
set_option maxRecDepth 4000 in
theorem tl_Act_valueOf_39_10 {len : Nat} {xs : Nat → Int32} (r0 : Nat) (hr0 : mq_A r0) (d : Nat) (a2 : Int32)  {T : Option mm_R} (K : Int32 × Int32 × mS → Prop) (hX : ∀ r, K r → ∀ (o1 : Option Value) (o6 : Option Value), mm_fix (mm_X len xs) mm_Y (mm_call (mm_X len xs) mm_Y (d + 1)) (mm_look mc_Act_valueOf) (157, [some (.ref r0), o1, some (.int a2), some (.ref 39), some (.int r.1), some (.int r.2.1), o6], [], mT r.2.2) = T) : ∀ (n : Nat), ∀ (v4 : Int32) (v5 : Int32) (o1 : Option Value) (o6 : Option Value) (s : mS), okl_Act_valueOf_39_10 r0 a2 n v4 v5 s → K (lp_Act_valueOf_39_10 r0 a2 n v4 v5 s) → mm_fix (mm_X len xs) mm_Y (mm_call (mm_X len xs) mm_Y (d + 1)) (mm_look mc_Act_valueOf) (10, [some (.ref r0), o1, some (.int a2), some (.ref 39), some (.int v4), some (.int v5), o6], [], mT s) = T := by
  intro n
  induction n with
  | zero => intro v4 v5 o1 o6 s; exact fun h => h.elim
  | succ n ih =>
    intro v4 v5 o1 o6 s
    rw [okl_Act_valueOf_39_10, lp_Act_valueOf_39_10]
    refine w_go K 2 (c' := (13, [some (.ref r0), o1, some (.int a2), some (.ref 39), some (.int v4), some (.int v5), o6], [.int a2, .int v5], mT s)) rfl ?_
    refine w_ige K rfl (fun _ => ?_) (fun _ => ?_)
    · refine w_go K 0 (c' := (157, [some (.ref r0), o1, some (.int a2), some (.ref 39), some (.int v4), some (.int v5), o6], [], mT s)) rfl ?_
      exact fun _ b => hX _ b _ _
    · refine w_go K 2 (c' := (21, [some (.ref r0), o1, some (.int a2), some (.ref 39), some (.int v4), some (.int v5), o6], [.int 600, .int v5], mT s)) rfl ?_
      refine w_ige K rfl (fun _ => ?_) (fun _ => ?_)
      · refine w_go K 0 (c' := (157, [some (.ref r0), o1, some (.int a2), some (.ref 39), some (.int v4), some (.int v5), o6], [], mT s)) rfl ?_
        exact fun _ b => hX _ b _ _
      · refine w_go K 1 (c' := (25, [some (.ref r0), o1, some (.int a2), some (.ref 39), some (.int v4), some (.int v5), o6], [.ref r0], mT s)) rfl ?_
        refine w_st K (c' := (28, [some (.ref r0), o1, some (.int a2), some (.ref 39), some (.int v4), some (.int v5), o6], [.ref (r0 + 5)], mT s)) (st_gR (len := 3) (b := 4) rfl hr0 (by decide)) ?_
        refine w_go K 1 (c' := (30, [some (.ref r0), o1, some (.int a2), some (.ref 39), some (.int v4), some (.int v5), o6], [.int v5, .ref (r0 + 5)], mT s)) rfl ?_
        refine w_ck K (st_iL rfl (mq_a5 hr0)) ?_
        refine w_go K 2 (c' := (35, [some (.ref r0), o1, some (.int a2), some (.ref 39), some (.int v4), some (.int v5), some (.int (gI s (r0 + 5) (ix v5)))], [.int (gI s (r0 + 5) (ix v5))], mT s)) rfl ?_
        refine w_callL K (E := f_Act_isLeaf (gI s (r0 + 5) (ix v5)) s) (g := fun (x10 : Int32) => (some (.int x10), mT s)) rfl (m_Act_isLeaf (len := len) (xs := xs) (d + 0) (gI s (r0 + 5) (ix v5)) s) (fun x10 => ?_)
        refine w_go K 0 (c' := (38, [some (.ref r0), o1, some (.int a2), some (.ref 39), some (.int v4), some (.int v5), some (.int (gI s (r0 + 5) (ix v5)))], [.int x10], mT s)) rfl ?_
        refine w_zeq K rfl (fun _ => ?_) (fun _ => ?_)
        · refine w_go K 2 (c' := (81, [some (.ref r0), o1, some (.int a2), some (.ref 39), some (.int v4), some (.int v5), some (.int (gI s (r0 + 5) (ix v5)))], [.int 15, .int (gI s (r0 + 5) (ix v5))], mT s)) rfl ?_
          refine w_ine K rfl (fun _ => ?_) (fun _ => ?_)
          · refine w_go K 1 (c' := (86, [some (.ref r0), o1, some (.int a2), some (.ref 39), some (.int v4), some (.int v5), some (.int (gI s (r0 + 5) (ix v5)))], [.int v4], mT s)) rfl ?_
            refine w_zle K rfl (fun _ => ?_) (fun _ => ?_)
            · refine w_go K 2 (c' := (10, [some (.ref r0), o1, some (.int a2), some (.ref 39), some (.int v4), some (.int (v5 + 1)), some (.int (gI s (r0 + 5) (ix v5)))], [], mT s)) rfl ?_
              exact fun a b => ih v4 (v5 + 1) _ _ s a b
            · refine w_go K 1 (c' := (90, [some (.ref r0), o1, some (.int a2), some (.ref 39), some (.int v4), some (.int v5), some (.int (gI s (r0 + 5) (ix v5)))], [.ref r0], mT s)) rfl ?_
              refine w_st K (c' := (93, [some (.ref r0), o1, some (.int a2), some (.ref 39), some (.int v4), some (.int v5), some (.int (gI s (r0 + 5) (ix v5)))], [.ref (r0 + 7)], mT s)) (st_gR (len := 3) (b := 6) rfl hr0 (by decide)) ?_
              refine w_go K 5 (c' := (99, [some (.ref r0), o1, some (.int a2), some (.ref 39), some (.int v4), some (.int v5), some (.int (gI s (r0 + 5) (ix v5)))], [.ref r0, .int 1, .int (v4 - 1), .ref (r0 + 7)], mT s)) rfl ?_
              refine w_st K (c' := (102, [some (.ref r0), o1, some (.int a2), some (.ref 39), some (.int v4), some (.int v5), some (.int (gI s (r0 + 5) (ix v5)))], [.ref (r0 + 7), .int 1, .int (v4 - 1), .ref (r0 + 7)], mT s)) (st_gR (len := 3) (b := 6) rfl hr0 (by decide)) ?_
              refine w_go K 3 (c' := (106, [some (.ref r0), o1, some (.int a2), some (.ref 39), some (.int v4), some (.int v5), some (.int (gI s (r0 + 5) (ix v5)))], [.int (v4 - 1), .ref (r0 + 7), .int 1, .int (v4 - 1), .ref (r0 + 7)], mT s)) rfl ?_
              refine w_ck K (st_iL rfl (mq_a7 hr0)) ?_
              refine w_go K 1 (c' := (108, [some (.ref r0), o1, some (.int a2), some (.ref 39), some (.int v4), some (.int v5), some (.int (gI s (r0 + 5) (ix v5)))], [.int (1 - (gI s (r0 + 7) (ix (v4 - 1)))), .int (v4 - 1), .ref (r0 + 7)], mT s)) rfl ?_
              refine w_ck K (st_iS rfl (mq_a7 hr0)) ?_
              refine w_go K 3 (c' := (10, [some (.ref r0), o1, some (.int a2), some (.ref 39), some (.int v4), some (.int (v5 + 1)), some (.int (gI s (r0 + 5) (ix v5)))], [], mT (sI s (r0 + 7) (ix (v4 - 1)) (1 - (gI s (r0 + 7) (ix (v4 - 1))))))) rfl ?_
              exact fun a b => ih v4 (v5 + 1) _ _ (sI s (r0 + 7) (ix (v4 - 1)) (1 - (gI s (r0 + 7) (ix (v4 - 1))))) a b
          · refine w_go K 2 (c' := (115, [some (.ref r0), o1, some (.int a2), some (.ref 39), some (.int v4), some (.int v5), some (.int (gI s (r0 + 5) (ix v5)))], [.int 1, .int v4], mT s)) rfl ?_
            refine w_ile K rfl (fun _ => ?_) (fun _ => ?_)
            · refine w_go K 2 (c' := (10, [some (.ref r0), o1, some (.int a2), some (.ref 39), some (.int v4), some (.int (v5 + 1)), some (.int (gI s (r0 + 5) (ix v5)))], [], mT s)) rfl ?_
              exact fun a b => ih v4 (v5 + 1) _ _ s a b
            · refine w_go K 1 (c' := (121, [some (.ref r0), o1, some (.int a2), some (.ref 39), some (.int (v4 + (-1))), some (.int v5), some (.int (gI s (r0 + 5) (ix v5)))], [], mT s)) rfl ?_
              refine w_bind K (c := fun (x11 : Int32) => (121, [some (.ref r0), o1, some (.int a2), some (.ref 39), some (.int x11), some (.int v5), some (.int (gI s (r0 + 5) (ix v5)))], [], mT s)) (fun x11 => ?_)
              refine w_go K 1 (c' := (122, [some (.ref r0), o1, some (.int a2), some (.ref 39), some (.int x11), some (.int v5), some (.int (gI s (r0 + 5) (ix v5)))], [.ref r0], mT s)) rfl ?_
              refine w_st K (c' := (125, [some (.ref r0), o1, some (.int a2), some (.ref 39), some (.int x11), some (.int v5), some (.int (gI s (r0 + 5) (ix v5)))], [.ref (r0 + 7)], mT s)) (st_gR (len := 3) (b := 6) rfl hr0 (by decide)) ?_
              refine w_go K 5 (c' := (132, [some (.ref r0), o1, some (.int a2), some (.ref 39), some (.int x11), some (.int v5), some (.int (gI s (r0 + 5) (ix v5)))], [.ref r0, .int (gI s (r0 + 5) (ix v5)), .int (x11 - 1), .ref (r0 + 7)], mT s)) rfl ?_
              refine w_st K (c' := (135, [some (.ref r0), o1, some (.int a2), some (.ref 39), some (.int x11), some (.int v5), some (.int (gI s (r0 + 5) (ix v5)))], [.ref (r0 + 7), .int (gI s (r0 + 5) (ix v5)), .int (x11 - 1), .ref (r0 + 7)], mT s)) (st_gR (len := 3) (b := 6) rfl hr0 (by decide)) ?_
              refine w_go K 3 (c' := (139, [some (.ref r0), o1, some (.int a2), some (.ref 39), some (.int x11), some (.int v5), some (.int (gI s (r0 + 5) (ix v5)))], [.int (x11 - 1), .ref (r0 + 7), .int (gI s (r0 + 5) (ix v5)), .int (x11 - 1), .ref (r0 + 7)], mT s)) rfl ?_
              refine w_ck K (st_iL rfl (mq_a7 hr0)) ?_
              refine w_go K 1 (c' := (141, [some (.ref r0), o1, some (.int a2), some (.ref 39), some (.int x11), some (.int v5), some (.int (gI s (r0 + 5) (ix v5)))], [.ref r0, .int (gI s (r0 + 7) (ix (x11 - 1))), .int (gI s (r0 + 5) (ix v5)), .int (x11 - 1), .ref (r0 + 7)], mT s)) rfl ?_
              refine w_st K (c' := (144, [some (.ref r0), o1, some (.int a2), some (.ref 39), some (.int x11), some (.int v5), some (.int (gI s (r0 + 5) (ix v5)))], [.ref (r0 + 7), .int (gI s (r0 + 7) (ix (x11 - 1))), .int (gI s (r0 + 5) (ix v5)), .int (x11 - 1), .ref (r0 + 7)], mT s)) (st_gR (len := 3) (b := 6) rfl hr0 (by decide)) ?_
              refine w_go K 1 (c' := (146, [some (.ref r0), o1, some (.int a2), some (.ref 39), some (.int x11), some (.int v5), some (.int (gI s (r0 + 5) (ix v5)))], [.int x11, .ref (r0 + 7), .int (gI s (r0 + 7) (ix (x11 - 1))), .int (gI s (r0 + 5) (ix v5)), .int (x11 - 1), .ref (r0 + 7)], mT s)) rfl ?_
              refine w_ck K (st_iL rfl (mq_a7 hr0)) ?_
              refine w_go K 0 (c' := (147, [some (.ref r0), o1, some (.int a2), some (.ref 39), some (.int x11), some (.int v5), some (.int (gI s (r0 + 5) (ix v5)))], [.int (gI s (r0 + 7) (ix x11)), .int (gI s (r0 + 7) (ix (x11 - 1))), .int (gI s (r0 + 5) (ix v5)), .int (x11 - 1), .ref (r0 + 7)], mT s)) rfl ?_
              refine w_callL K (E := f_Act_joined (gI s (r0 + 5) (ix v5)) (gI s (r0 + 7) (ix (x11 - 1))) (gI s (r0 + 7) (ix x11)) s) (g := fun (x12 : Int32) => (some (.int x12), mT s)) rfl (m_Act_joined (len := len) (xs := xs) (d + 0) (gI s (r0 + 5) (ix v5)) (gI s (r0 + 7) (ix (x11 - 1))) (gI s (r0 + 7) (ix x11)) s) (fun x12 => ?_)
              refine w_go K 0 (c' := (150, [some (.ref r0), o1, some (.int a2), some (.ref 39), some (.int x11), some (.int v5), some (.int (gI s (r0 + 5) (ix v5)))], [.int x12, .int (x11 - 1), .ref (r0 + 7)], mT s)) rfl ?_
              refine w_ck K (st_iS rfl (mq_a7 hr0)) ?_
              refine w_go K 2 (c' := (10, [some (.ref r0), o1, some (.int a2), some (.ref 39), some (.int x11), some (.int (v5 + 1)), some (.int (gI s (r0 + 5) (ix v5)))], [], mT (sI s (r0 + 7) (ix (x11 - 1)) x12))) rfl ?_
              exact fun a b => ih x11 (v5 + 1) _ _ (sI s (r0 + 7) (ix (x11 - 1)) x12) a b
        · refine w_go K 2 (c' := (44, [some (.ref r0), o1, some (.int a2), some (.ref 39), some (.int v4), some (.int v5), some (.int (gI s (r0 + 5) (ix v5)))], [.ref r0, .int v4], mT s)) rfl ?_
          refine w_st K (c' := (47, [some (.ref r0), o1, some (.int a2), some (.ref 39), some (.int v4), some (.int v5), some (.int (gI s (r0 + 5) (ix v5)))], [.ref (r0 + 7), .int v4], mT s)) (st_gR (len := 3) (b := 6) rfl hr0 (by decide)) ?_
          refine w_go K 0 (c' := (47, [some (.ref r0), o1, some (.int a2), some (.ref 39), some (.int v4), some (.int v5), some (.int (gI s (r0 + 5) (ix v5)))], [.ref (r0 + 7), .int v4], mT s)) rfl ?_
          refine w_st K (c' := (48, [some (.ref r0), o1, some (.int a2), some (.ref 39), some (.int v4), some (.int v5), some (.int (gI s (r0 + 5) (ix v5)))], [.int 64, .int v4], mT s)) (st_aL rfl (mq_a7 hr0)) ?_
          refine w_go K 0 (c' := (48, [some (.ref r0), o1, some (.int a2), some (.ref 39), some (.int v4), some (.int v5), some (.int (gI s (r0 + 5) (ix v5)))], [.int 64, .int v4], mT s)) rfl ?_
          refine w_ige K rfl (fun _ => ?_) (fun _ => ?_)
          · refine w_go K 2 (c' := (10, [some (.ref r0), o1, some (.int a2), some (.ref 39), some (.int v4), some (.int (v5 + 1)), some (.int (gI s (r0 + 5) (ix v5)))], [], mT s)) rfl ?_
            exact fun a b => ih v4 (v5 + 1) _ _ s a b
          · refine w_go K 1 (c' := (52, [some (.ref r0), o1, some (.int a2), some (.ref 39), some (.int v4), some (.int v5), some (.int (gI s (r0 + 5) (ix v5)))], [.ref r0], mT s)) rfl ?_
            refine w_st K (c' := (55, [some (.ref r0), o1, some (.int a2), some (.ref 39), some (.int v4), some (.int v5), some (.int (gI s (r0 + 5) (ix v5)))], [.ref (r0 + 7)], mT s)) (st_gR (len := 3) (b := 6) rfl hr0 (by decide)) ?_
            refine w_go K 4 (c' := (63, [some (.ref r0), o1, some (.int a2), some (.ref 39), some (.int (v4 + 1)), some (.int v5), some (.int (gI s (r0 + 5) (ix v5)))], [.ref r0, .int (gI s (r0 + 5) (ix v5)), .int v4, .ref (r0 + 7)], mT s)) rfl ?_
            refine w_st K (c' := (66, [some (.ref r0), o1, some (.int a2), some (.ref 39), some (.int (v4 + 1)), some (.int v5), some (.int (gI s (r0 + 5) (ix v5)))], [.ref (r0 + 6), .int (gI s (r0 + 5) (ix v5)), .int v4, .ref (r0 + 7)], mT s)) (st_gR (len := 3) (b := 5) rfl hr0 (by decide)) ?_
            refine w_go K 1 (c' := (68, [some (.ref r0), o1, some (.int a2), some (.ref 39), some (.int (v4 + 1)), some (.int v5), some (.int (gI s (r0 + 5) (ix v5)))], [.int v5, .ref (r0 + 6), .int (gI s (r0 + 5) (ix v5)), .int v4, .ref (r0 + 7)], mT s)) rfl ?_
            refine w_ck K (st_iL rfl (mq_a6 hr0)) ?_
            refine w_go K 1 (c' := (70, [some (.ref r0), o1, some (.int a2), some (.ref 39), some (.int (v4 + 1)), some (.int v5), some (.int (gI s (r0 + 5) (ix v5)))], [.ref 39, .int (gI s (r0 + 6) (ix v5)), .int (gI s (r0 + 5) (ix v5)), .int v4, .ref (r0 + 7)], mT s)) rfl ?_
            refine w_callL K (E := f_Act_leaf_39 (gI s (r0 + 5) (ix v5)) (gI s (r0 + 6) (ix v5)) s) (g := fun (x13 : Int32) => (some (.int x13), mT s)) rfl (m_Act_leaf_39 (len := len) (xs := xs) (d + 0) (gI s (r0 + 5) (ix v5)) (gI s (r0 + 6) (ix v5)) s) (fun x13 => ?_)
            refine w_go K 0 (c' := (73, [some (.ref r0), o1, some (.int a2), some (.ref 39), some (.int (v4 + 1)), some (.int v5), some (.int (gI s (r0 + 5) (ix v5)))], [.int x13, .int v4, .ref (r0 + 7)], mT s)) rfl ?_
            refine w_ck K (st_iS rfl (mq_a7 hr0)) ?_
            refine w_go K 3 (c' := (10, [some (.ref r0), o1, some (.int a2), some (.ref 39), some (.int (v4 + 1)), some (.int (v5 + 1)), some (.int (gI s (r0 + 5) (ix v5)))], [], mT (sI s (r0 + 7) (ix v4) x13))) rfl ?_
            exact fun a b => ih (v4 + 1) (v5 + 1) _ _ (sI s (r0 + 7) (ix v4) x13) a b
def f_Act_valueOf_39 (r0 : Nat) (a1 : Int32) (a2 : Int32) (s : mS) : Int32 × mS := (mq_let (lp_Act_valueOf_39_10 r0 a2 mm_N (0 : Int32) (if (0 : Int32) < a1 then a1 else (0 : Int32)) s) (fun (x14 : Int32 × Int32 × mS) => (if x14.1 ≤ 0 then (0, x14.2.2) else ((gI x14.2.2 (r0 + 7) (ix (x14.1 - 1))), x14.2.2))))
def ok_Act_valueOf_39 (r0 : Nat) (a1 : Int32) (a2 : Int32) (s : mS) : Prop := (okl_Act_valueOf_39_10 r0 a2 mm_N (0 : Int32) (if (0 : Int32) < a1 then a1 else (0 : Int32)) s ∧ mq_letP (lp_Act_valueOf_39_10 r0 a2 mm_N (0 : Int32) (if (0 : Int32) < a1 then a1 else (0 : Int32)) s) (fun (x14 : Int32 × Int32 × mS) => (if x14.1 ≤ 0 then True else (mm_inb (x14.1 - 1) 64 = true ∧ True))))
set_option maxRecDepth 4000 in
theorem t_Act_valueOf_39 {len : Nat} {xs : Nat → Int32} (r0 : Nat) (hr0 : mq_A r0) (d : Nat) (a1 : Int32) (a2 : Int32) (s : mS) {T : Option mm_R} (K : Int32 × mS → Prop) (hK : ∀ t, K t → some (some (.int t.1), mT t.2) = T) : ok_Act_valueOf_39 r0 a1 a2 s → K (f_Act_valueOf_39 r0 a1 a2 s) → mm_fix (mm_X len xs) mm_Y (mm_call (mm_X len xs) mm_Y (d + 1)) (mm_look mc_Act_valueOf) (0, [some (.ref r0), some (.int a1), some (.int a2), some (.ref 39), none, none, none], [], mT s) = T := by
  unfold ok_Act_valueOf_39 f_Act_valueOf_39
  refine w_go K 6 (c' := (10, [some (.ref r0), some (.int a1), some (.int a2), some (.ref 39), some (.int 0), some (.int (if (0 : Int32) < a1 then a1 else (0 : Int32))), none], [], mT s)) rfl ?_
  refine w_join K (fun (x14 : Int32 × Int32 × mS) => ∀ (q15 : Option Value) (q16 : Option Value), mm_fix (mm_X len xs) mm_Y (mm_call (mm_X len xs) mm_Y (d + 1)) (mm_look mc_Act_valueOf) (157, [some (.ref r0), q15, some (.int a2), some (.ref 39), some (.int x14.1), some (.int x14.2.1), q16], [], mT x14.2.2) = T) (fun K hJ => tl_Act_valueOf_39_10 (len := len) (xs := xs) r0 hr0 d a2 (T := T) K hJ mm_N (0 : Int32) (if (0 : Int32) < a1 then a1 else (0 : Int32)) _ _ s) (fun x14 h1 h2 q15 q16 => ?_)
  revert h1 h2
  refine w_go K 1 (c' := (159, [some (.ref r0), q15, some (.int a2), some (.ref 39), some (.int x14.1), some (.int x14.2.1), q16], [.int x14.1], mT x14.2.2)) rfl ?_
  refine w_zle K rfl (fun _ => ?_) (fun _ => ?_)
  · refine w_go K 1 (c' := (175, [some (.ref r0), q15, some (.int a2), some (.ref 39), some (.int x14.1), some (.int x14.2.1), q16], [.int 0], mT x14.2.2)) rfl ?_
    exact w_ret K rfl (hK _)
  · refine w_go K 1 (c' := (163, [some (.ref r0), q15, some (.int a2), some (.ref 39), some (.int x14.1), some (.int x14.2.1), q16], [.ref r0], mT x14.2.2)) rfl ?_
    refine w_st K (c' := (166, [some (.ref r0), q15, some (.int a2), some (.ref 39), some (.int x14.1), some (.int x14.2.1), q16], [.ref (r0 + 7)], mT x14.2.2)) (st_gR (len := 3) (b := 6) rfl hr0 (by decide)) ?_
    refine w_go K 3 (c' := (170, [some (.ref r0), q15, some (.int a2), some (.ref 39), some (.int x14.1), some (.int x14.2.1), q16], [.int (x14.1 - 1), .ref (r0 + 7)], mT x14.2.2)) rfl ?_
    refine w_ck K (st_iL rfl (mq_a7 hr0)) ?_
    refine w_go K 1 (c' := (175, [some (.ref r0), q15, some (.int a2), some (.ref 39), some (.int x14.1), some (.int x14.2.1), q16], [.int (gI x14.2.2 (r0 + 7) (ix (x14.1 - 1)))], mT x14.2.2)) rfl ?_
    exact w_ret K rfl (hK _)
theorem m_Act_valueOf_39 {len : Nat} {xs : Nat → Int32} (r0 : Nat) (hr0 : mq_A r0) (d : Nat) (a1 : Int32) (a2 : Int32) (s : mS) : ok_Act_valueOf_39 r0 a1 a2 s → mm_call (mm_X len xs) mm_Y (d + 2) 65 [.ref r0, .int a1, .int a2, .ref 39] (mT s) = some (some (.int (f_Act_valueOf_39 r0 a1 a2 s).1), mT (f_Act_valueOf_39 r0 a1 a2 s).2) := fun h => t_Act_valueOf_39 (len := len) (xs := xs) r0 hr0 d a1 a2 s (fun t => (some (some (.int t.1), mT t.2) : Option mm_R) = some (some (.int (f_Act_valueOf_39 r0 a1 a2 s).1), mT (f_Act_valueOf_39 r0 a1 a2 s).2)) (fun _ h => h) h rfl
def lp_Act_tells_39_10 (r0 : Nat) (a1 : Int32) : Nat → Int32 → Int32 → mS → Int32 × Int32 × mS
  | 0, v3, v4, s => (v3, v4, s)
  | n + 1, v3, v4, s => (if (gI s r0 8) ≤ v4 then (v3, v4, s) else (if (24 : Int32) ≤ v4 then (v3, v4, s) else (mq_let (if (gI s (r0 + 3) (ix v4)) = (gI s (r0 + 4) (ix v4)) then (1 : Int32) else (0 : Int32)) (fun (x10 : Int32) => (if (gI s (r0 + 1) (ix v4)) = a1 then (if x10 = 0 then (mq_let (f_Act_valueOf_39 r0 (gI s (r0 + 3) (ix v4)) (gI s (r0 + 4) (ix v4)) s) (fun (x11 : Int32 × mS) => (if x11.1 = 0 then (lp_Act_tells_39_10 r0 a1 n v3 (v4 + 1) x11.2) else (mq_let (f_Act_valueOf_39 r0 (gI x11.2 (r0 + 2) (ix v4)) (gI x11.2 (r0 + 3) (ix v4)) x11.2) (fun (x12 : Int32 × mS) => (if v3 = 0 then (lp_Act_tells_39_10 r0 a1 n (1 : Int32) (v4 + 1) (sI x12.2 r0 11 x12.1)) else (if x12.1 = (gI x12.2 r0 11) then (lp_Act_tells_39_10 r0 a1 n v3 (v4 + 1) x12.2) else (lp_Act_tells_39_10 r0 a1 n v3 (v4 + 1) (sI x12.2 r0 12 1))))))))) else (mq_let (f_Act_valueOf_39 r0 (gI s (r0 + 2) (ix v4)) (gI s (r0 + 3) (ix v4)) s) (fun (x13 : Int32 × mS) => (if v3 = 0 then (lp_Act_tells_39_10 r0 a1 n (1 : Int32) (v4 + 1) (sI x13.2 r0 11 x13.1)) else (if x13.1 = (gI x13.2 r0 11) then (lp_Act_tells_39_10 r0 a1 n v3 (v4 + 1) x13.2) else (lp_Act_tells_39_10 r0 a1 n v3 (v4 + 1) (sI x13.2 r0 12 1))))))) else (lp_Act_tells_39_10 r0 a1 n v3 (v4 + 1) s))))))
def okl_Act_tells_39_10 (r0 : Nat) (a1 : Int32) : Nat → Int32 → Int32 → mS → Prop
  | 0, v3, v4, s => False
  | n + 1, v3, v4, s => (if (gI s r0 8) ≤ v4 then True else (if (24 : Int32) ≤ v4 then True else (mm_inb v4 24 = true ∧ (mm_inb v4 24 = true ∧ (True ∧ mq_letP (if (gI s (r0 + 3) (ix v4)) = (gI s (r0 + 4) (ix v4)) then (1 : Int32) else (0 : Int32)) (fun (x10 : Int32) => (mm_inb v4 24 = true ∧ (if (gI s (r0 + 1) (ix v4)) = a1 then (if x10 = 0 then (mm_inb v4 24 = true ∧ (mm_inb v4 24 = true ∧ (ok_Act_valueOf_39 r0 (gI s (r0 + 3) (ix v4)) (gI s (r0 + 4) (ix v4)) s ∧ mq_letP (f_Act_valueOf_39 r0 (gI s (r0 + 3) (ix v4)) (gI s (r0 + 4) (ix v4)) s) (fun (x11 : Int32 × mS) => (if x11.1 = 0 then (okl_Act_tells_39_10 r0 a1 n v3 (v4 + 1) x11.2) else (mm_inb v4 24 = true ∧ (mm_inb v4 24 = true ∧ (ok_Act_valueOf_39 r0 (gI x11.2 (r0 + 2) (ix v4)) (gI x11.2 (r0 + 3) (ix v4)) x11.2 ∧ mq_letP (f_Act_valueOf_39 r0 (gI x11.2 (r0 + 2) (ix v4)) (gI x11.2 (r0 + 3) (ix v4)) x11.2) (fun (x12 : Int32 × mS) => (if v3 = 0 then (okl_Act_tells_39_10 r0 a1 n (1 : Int32) (v4 + 1) (sI x12.2 r0 11 x12.1)) else (if x12.1 = (gI x12.2 r0 11) then (okl_Act_tells_39_10 r0 a1 n v3 (v4 + 1) x12.2) else (mm_bit (1 : Int32) = true ∧ (okl_Act_tells_39_10 r0 a1 n v3 (v4 + 1) (sI x12.2 r0 12 1)))))))))))))) else (mm_inb v4 24 = true ∧ (mm_inb v4 24 = true ∧ (ok_Act_valueOf_39 r0 (gI s (r0 + 2) (ix v4)) (gI s (r0 + 3) (ix v4)) s ∧ mq_letP (f_Act_valueOf_39 r0 (gI s (r0 + 2) (ix v4)) (gI s (r0 + 3) (ix v4)) s) (fun (x13 : Int32 × mS) => (if v3 = 0 then (okl_Act_tells_39_10 r0 a1 n (1 : Int32) (v4 + 1) (sI x13.2 r0 11 x13.1)) else (if x13.1 = (gI x13.2 r0 11) then (okl_Act_tells_39_10 r0 a1 n v3 (v4 + 1) x13.2) else (mm_bit (1 : Int32) = true ∧ (okl_Act_tells_39_10 r0 a1 n v3 (v4 + 1) (sI x13.2 r0 12 1)))))))))) else (okl_Act_tells_39_10 r0 a1 n v3 (v4 + 1) s)))))))))
set_option maxRecDepth 4000 in
theorem tl_Act_tells_39_10 {len : Nat} {xs : Nat → Int32} (r0 : Nat) (hr0 : mq_A r0) (d : Nat) (a1 : Int32)  {T : Option mm_R} (K : Int32 × Int32 × mS → Prop) (hX : ∀ r, K r → ∀ (o5 : Option Value) (o6 : Option Value), mm_fix (mm_X len xs) mm_Y (mm_call (mm_X len xs) mm_Y (d + 2)) (mm_look mc_Act_tells) (147, [some (.ref r0), some (.int a1), some (.ref 39), some (.int r.1), some (.int r.2.1), o5, o6], [], mT r.2.2) = T) : ∀ (n : Nat), ∀ (v3 : Int32) (v4 : Int32) (o5 : Option Value) (o6 : Option Value) (s : mS), okl_Act_tells_39_10 r0 a1 n v3 v4 s → K (lp_Act_tells_39_10 r0 a1 n v3 v4 s) → mm_fix (mm_X len xs) mm_Y (mm_call (mm_X len xs) mm_Y (d + 2)) (mm_look mc_Act_tells) (10, [some (.ref r0), some (.int a1), some (.ref 39), some (.int v3), some (.int v4), o5, o6], [], mT s) = T := by
  intro n
  induction n with
  | zero => intro v3 v4 o5 o6 s; exact fun h => h.elim
  | succ n ih =>
    intro v3 v4 o5 o6 s
    rw [okl_Act_tells_39_10, lp_Act_tells_39_10]
    refine w_go K 2 (c' := (13, [some (.ref r0), some (.int a1), some (.ref 39), some (.int v3), some (.int v4), o5, o6], [.ref r0, .int v4], mT s)) rfl ?_
    refine w_st K (c' := (16, [some (.ref r0), some (.int a1), some (.ref 39), some (.int v3), some (.int v4), o5, o6], [.int (gI s r0 8), .int v4], mT s)) (st_gI (len := 3) (b := 8) rfl hr0) ?_
    refine w_go K 0 (c' := (16, [some (.ref r0), some (.int a1), some (.ref 39), some (.int v3), some (.int v4), o5, o6], [.int (gI s r0 8), .int v4], mT s)) rfl ?_
    refine w_ige K rfl (fun _ => ?_) (fun _ => ?_)
    · refine w_go K 0 (c' := (147, [some (.ref r0), some (.int a1), some (.ref 39), some (.int v3), some (.int v4), o5, o6], [], mT s)) rfl ?_
      exact fun _ b => hX _ b _ _
    · refine w_go K 2 (c' := (23, [some (.ref r0), some (.int a1), some (.ref 39), some (.int v3), some (.int v4), o5, o6], [.int 24, .int v4], mT s)) rfl ?_
      refine w_ige K rfl (fun _ => ?_) (fun _ => ?_)
      · refine w_go K 0 (c' := (147, [some (.ref r0), some (.int a1), some (.ref 39), some (.int v3), some (.int v4), o5, o6], [], mT s)) rfl ?_
        exact fun _ b => hX _ b _ _
      · refine w_go K 1 (c' := (27, [some (.ref r0), some (.int a1), some (.ref 39), some (.int v3), some (.int v4), o5, o6], [.ref r0], mT s)) rfl ?_
        refine w_st K (c' := (30, [some (.ref r0), some (.int a1), some (.ref 39), some (.int v3), some (.int v4), o5, o6], [.ref (r0 + 3)], mT s)) (st_gR (len := 3) (b := 2) rfl hr0 (by decide)) ?_
        refine w_go K 1 (c' := (32, [some (.ref r0), some (.int a1), some (.ref 39), some (.int v3), some (.int v4), o5, o6], [.int v4, .ref (r0 + 3)], mT s)) rfl ?_
        refine w_ck K (st_iL rfl (mq_a3 hr0)) ?_
        refine w_go K 1 (c' := (34, [some (.ref r0), some (.int a1), some (.ref 39), some (.int v3), some (.int v4), o5, o6], [.ref r0, .int (gI s (r0 + 3) (ix v4))], mT s)) rfl ?_
        refine w_st K (c' := (37, [some (.ref r0), some (.int a1), some (.ref 39), some (.int v3), some (.int v4), o5, o6], [.ref (r0 + 4), .int (gI s (r0 + 3) (ix v4))], mT s)) (st_gR (len := 3) (b := 3) rfl hr0 (by decide)) ?_
        refine w_go K 1 (c' := (39, [some (.ref r0), some (.int a1), some (.ref 39), some (.int v3), some (.int v4), o5, o6], [.int v4, .ref (r0 + 4), .int (gI s (r0 + 3) (ix v4))], mT s)) rfl ?_
        refine w_ck K (st_iL rfl (mq_a4 hr0)) ?_
        refine w_go K 0 (c' := (40, [some (.ref r0), some (.int a1), some (.ref 39), some (.int v3), some (.int v4), o5, o6], [.int (gI s (r0 + 4) (ix v4)), .int (gI s (r0 + 3) (ix v4))], mT s)) rfl ?_
        refine w_join K (fun (x10 : Int32) => mm_fix (mm_X len xs) mm_Y (mm_call (mm_X len xs) mm_Y (d + 2)) (mm_look mc_Act_tells) (48, [some (.ref r0), some (.int a1), some (.ref 39), some (.int v3), some (.int v4), o5, o6], [.int x10], mT s) = T) (fun K hJ => ?_) (fun x10 h1 h2 => ?_)
        · refine w_go K 0 (c' := (40, [some (.ref r0), some (.int a1), some (.ref 39), some (.int v3), some (.int v4), o5, o6], [.int (gI s (r0 + 4) (ix v4)), .int (gI s (r0 + 3) (ix v4))], mT s)) rfl ?_
          refine w_ineT K rfl (fun _ => ?_) (fun _ => ?_)
          · refine w_go K 2 (c' := (48, [some (.ref r0), some (.int a1), some (.ref 39), some (.int v3), some (.int v4), o5, o6], [.int 1], mT s)) rfl ?_
            exact fun _ h => hJ _ h
          · refine w_go K 1 (c' := (48, [some (.ref r0), some (.int a1), some (.ref 39), some (.int v3), some (.int v4), o5, o6], [.int 0], mT s)) rfl ?_
            exact fun _ h => hJ _ h
        · revert h1 h2
          refine w_go K 2 (c' := (51, [some (.ref r0), some (.int a1), some (.ref 39), some (.int v3), some (.int v4), some (.int x10), o6], [.ref r0], mT s)) rfl ?_
          refine w_st K (c' := (54, [some (.ref r0), some (.int a1), some (.ref 39), some (.int v3), some (.int v4), some (.int x10), o6], [.ref (r0 + 1)], mT s)) (st_gR (len := 3) (b := 0) rfl hr0 (by decide)) ?_
          refine w_go K 1 (c' := (56, [some (.ref r0), some (.int a1), some (.ref 39), some (.int v3), some (.int v4), some (.int x10), o6], [.int v4, .ref (r0 + 1)], mT s)) rfl ?_
          refine w_ck K (st_iL rfl (mq_a1 hr0)) ?_
          refine w_go K 1 (c' := (58, [some (.ref r0), some (.int a1), some (.ref 39), some (.int v3), some (.int v4), some (.int x10), o6], [.int a1, .int (gI s (r0 + 1) (ix v4))], mT s)) rfl ?_
          refine w_ine K rfl (fun _ => ?_) (fun _ => ?_)
          · refine w_go K 1 (c' := (63, [some (.ref r0), some (.int a1), some (.ref 39), some (.int v3), some (.int v4), some (.int x10), o6], [.int x10], mT s)) rfl ?_
            refine w_zne K rfl (fun _ => ?_) (fun _ => ?_)
            · refine w_go K 2 (c' := (68, [some (.ref r0), some (.int a1), some (.ref 39), some (.int v3), some (.int v4), some (.int x10), o6], [.ref r0, .ref r0], mT s)) rfl ?_
              refine w_st K (c' := (71, [some (.ref r0), some (.int a1), some (.ref 39), some (.int v3), some (.int v4), some (.int x10), o6], [.ref (r0 + 3), .ref r0], mT s)) (st_gR (len := 3) (b := 2) rfl hr0 (by decide)) ?_
              refine w_go K 1 (c' := (73, [some (.ref r0), some (.int a1), some (.ref 39), some (.int v3), some (.int v4), some (.int x10), o6], [.int v4, .ref (r0 + 3), .ref r0], mT s)) rfl ?_
              refine w_ck K (st_iL rfl (mq_a3 hr0)) ?_
              refine w_go K 1 (c' := (75, [some (.ref r0), some (.int a1), some (.ref 39), some (.int v3), some (.int v4), some (.int x10), o6], [.ref r0, .int (gI s (r0 + 3) (ix v4)), .ref r0], mT s)) rfl ?_
              refine w_st K (c' := (78, [some (.ref r0), some (.int a1), some (.ref 39), some (.int v3), some (.int v4), some (.int x10), o6], [.ref (r0 + 4), .int (gI s (r0 + 3) (ix v4)), .ref r0], mT s)) (st_gR (len := 3) (b := 3) rfl hr0 (by decide)) ?_
              refine w_go K 1 (c' := (80, [some (.ref r0), some (.int a1), some (.ref 39), some (.int v3), some (.int v4), some (.int x10), o6], [.int v4, .ref (r0 + 4), .int (gI s (r0 + 3) (ix v4)), .ref r0], mT s)) rfl ?_
              refine w_ck K (st_iL rfl (mq_a4 hr0)) ?_
              refine w_go K 1 (c' := (82, [some (.ref r0), some (.int a1), some (.ref 39), some (.int v3), some (.int v4), some (.int x10), o6], [.ref 39, .int (gI s (r0 + 4) (ix v4)), .int (gI s (r0 + 3) (ix v4)), .ref r0], mT s)) rfl ?_
              refine w_callL K (E := f_Act_valueOf_39 r0 (gI s (r0 + 3) (ix v4)) (gI s (r0 + 4) (ix v4)) s) (g := fun (x11 : Int32 × mS) => (some (.int x11.1), mT x11.2)) (st_c (b := 4) (st := [.ref 39, .int (gI s (r0 + 4) (ix v4)), .int (gI s (r0 + 3) (ix v4)), .ref r0]) (args := [.int (gI s (r0 + 3) (ix v4)), .int (gI s (r0 + 4) (ix v4)), .ref 39]) (rest := []) rfl rfl rfl hr0) (m_Act_valueOf_39 (len := len) (xs := xs) r0 hr0 (d + 0) (gI s (r0 + 3) (ix v4)) (gI s (r0 + 4) (ix v4)) s) (fun x11 => ?_)
              refine w_go K 0 (c' := (85, [some (.ref r0), some (.int a1), some (.ref 39), some (.int v3), some (.int v4), some (.int x10), o6], [.int x11.1], mT x11.2)) rfl ?_
              refine w_zne K rfl (fun _ => ?_) (fun _ => ?_)
              · refine w_go K 3 (c' := (10, [some (.ref r0), some (.int a1), some (.ref 39), some (.int v3), some (.int (v4 + 1)), some (.int x10), o6], [], mT x11.2)) rfl ?_
                exact fun a b => ih v3 (v4 + 1) _ _ x11.2 a b
              · refine w_go K 2 (c' := (93, [some (.ref r0), some (.int a1), some (.ref 39), some (.int v3), some (.int v4), some (.int x10), o6], [.ref r0, .ref r0], mT x11.2)) rfl ?_
                refine w_st K (c' := (96, [some (.ref r0), some (.int a1), some (.ref 39), some (.int v3), some (.int v4), some (.int x10), o6], [.ref (r0 + 2), .ref r0], mT x11.2)) (st_gR (len := 3) (b := 1) rfl hr0 (by decide)) ?_
                refine w_go K 1 (c' := (98, [some (.ref r0), some (.int a1), some (.ref 39), some (.int v3), some (.int v4), some (.int x10), o6], [.int v4, .ref (r0 + 2), .ref r0], mT x11.2)) rfl ?_
                refine w_ck K (st_iL rfl (mq_a2 hr0)) ?_
                refine w_go K 1 (c' := (100, [some (.ref r0), some (.int a1), some (.ref 39), some (.int v3), some (.int v4), some (.int x10), o6], [.ref r0, .int (gI x11.2 (r0 + 2) (ix v4)), .ref r0], mT x11.2)) rfl ?_
                refine w_st K (c' := (103, [some (.ref r0), some (.int a1), some (.ref 39), some (.int v3), some (.int v4), some (.int x10), o6], [.ref (r0 + 3), .int (gI x11.2 (r0 + 2) (ix v4)), .ref r0], mT x11.2)) (st_gR (len := 3) (b := 2) rfl hr0 (by decide)) ?_
                refine w_go K 1 (c' := (105, [some (.ref r0), some (.int a1), some (.ref 39), some (.int v3), some (.int v4), some (.int x10), o6], [.int v4, .ref (r0 + 3), .int (gI x11.2 (r0 + 2) (ix v4)), .ref r0], mT x11.2)) rfl ?_
                refine w_ck K (st_iL rfl (mq_a3 hr0)) ?_
                refine w_go K 1 (c' := (107, [some (.ref r0), some (.int a1), some (.ref 39), some (.int v3), some (.int v4), some (.int x10), o6], [.ref 39, .int (gI x11.2 (r0 + 3) (ix v4)), .int (gI x11.2 (r0 + 2) (ix v4)), .ref r0], mT x11.2)) rfl ?_
                refine w_callL K (E := f_Act_valueOf_39 r0 (gI x11.2 (r0 + 2) (ix v4)) (gI x11.2 (r0 + 3) (ix v4)) x11.2) (g := fun (x12 : Int32 × mS) => (some (.int x12.1), mT x12.2)) (st_c (b := 4) (st := [.ref 39, .int (gI x11.2 (r0 + 3) (ix v4)), .int (gI x11.2 (r0 + 2) (ix v4)), .ref r0]) (args := [.int (gI x11.2 (r0 + 2) (ix v4)), .int (gI x11.2 (r0 + 3) (ix v4)), .ref 39]) (rest := []) rfl rfl rfl hr0) (m_Act_valueOf_39 (len := len) (xs := xs) r0 hr0 (d + 0) (gI x11.2 (r0 + 2) (ix v4)) (gI x11.2 (r0 + 3) (ix v4)) x11.2) (fun x12 => ?_)
                refine w_go K 2 (c' := (113, [some (.ref r0), some (.int a1), some (.ref 39), some (.int v3), some (.int v4), some (.int x10), some (.int x12.1)], [.int v3], mT x12.2)) rfl ?_
                refine w_zne K rfl (fun _ => ?_) (fun _ => ?_)
                · refine w_go K 4 (c' := (121, [some (.ref r0), some (.int a1), some (.ref 39), some (.int 1), some (.int v4), some (.int x10), some (.int x12.1)], [.int x12.1, .ref r0], mT x12.2)) rfl ?_
                  refine w_st K (c' := (124, [some (.ref r0), some (.int a1), some (.ref 39), some (.int 1), some (.int v4), some (.int x10), some (.int x12.1)], [], mT (sI x12.2 r0 11 x12.1))) (st_pI (len := 3) (b := 11) rfl hr0) ?_
                  refine w_go K 3 (c' := (10, [some (.ref r0), some (.int a1), some (.ref 39), some (.int 1), some (.int (v4 + 1)), some (.int x10), some (.int x12.1)], [], mT (sI x12.2 r0 11 x12.1))) rfl ?_
                  exact fun a b => ih (1 : Int32) (v4 + 1) _ _ (sI x12.2 r0 11 x12.1) a b
                · refine w_go K 2 (c' := (130, [some (.ref r0), some (.int a1), some (.ref 39), some (.int v3), some (.int v4), some (.int x10), some (.int x12.1)], [.ref r0, .int x12.1], mT x12.2)) rfl ?_
                  refine w_st K (c' := (133, [some (.ref r0), some (.int a1), some (.ref 39), some (.int v3), some (.int v4), some (.int x10), some (.int x12.1)], [.int (gI x12.2 r0 11), .int x12.1], mT x12.2)) (st_gI (len := 3) (b := 11) rfl hr0) ?_
                  refine w_go K 0 (c' := (133, [some (.ref r0), some (.int a1), some (.ref 39), some (.int v3), some (.int v4), some (.int x10), some (.int x12.1)], [.int (gI x12.2 r0 11), .int x12.1], mT x12.2)) rfl ?_
                  refine w_ieq K rfl (fun _ => ?_) (fun _ => ?_)
                  · refine w_go K 2 (c' := (10, [some (.ref r0), some (.int a1), some (.ref 39), some (.int v3), some (.int (v4 + 1)), some (.int x10), some (.int x12.1)], [], mT x12.2)) rfl ?_
                    exact fun a b => ih v3 (v4 + 1) _ _ x12.2 a b
                  · refine w_go K 2 (c' := (138, [some (.ref r0), some (.int a1), some (.ref 39), some (.int v3), some (.int v4), some (.int x10), some (.int x12.1)], [.int 1, .ref r0], mT x12.2)) rfl ?_
                    refine w_ck K (st_pZ (len := 3) (b := 12) rfl hr0) ?_
                    refine w_go K 2 (c' := (10, [some (.ref r0), some (.int a1), some (.ref 39), some (.int v3), some (.int (v4 + 1)), some (.int x10), some (.int x12.1)], [], mT (sI x12.2 r0 12 1))) rfl ?_
                    exact fun a b => ih v3 (v4 + 1) _ _ (sI x12.2 r0 12 1) a b
            · refine w_go K 2 (c' := (93, [some (.ref r0), some (.int a1), some (.ref 39), some (.int v3), some (.int v4), some (.int x10), o6], [.ref r0, .ref r0], mT s)) rfl ?_
              refine w_st K (c' := (96, [some (.ref r0), some (.int a1), some (.ref 39), some (.int v3), some (.int v4), some (.int x10), o6], [.ref (r0 + 2), .ref r0], mT s)) (st_gR (len := 3) (b := 1) rfl hr0 (by decide)) ?_
              refine w_go K 1 (c' := (98, [some (.ref r0), some (.int a1), some (.ref 39), some (.int v3), some (.int v4), some (.int x10), o6], [.int v4, .ref (r0 + 2), .ref r0], mT s)) rfl ?_
              refine w_ck K (st_iL rfl (mq_a2 hr0)) ?_
              refine w_go K 1 (c' := (100, [some (.ref r0), some (.int a1), some (.ref 39), some (.int v3), some (.int v4), some (.int x10), o6], [.ref r0, .int (gI s (r0 + 2) (ix v4)), .ref r0], mT s)) rfl ?_
              refine w_st K (c' := (103, [some (.ref r0), some (.int a1), some (.ref 39), some (.int v3), some (.int v4), some (.int x10), o6], [.ref (r0 + 3), .int (gI s (r0 + 2) (ix v4)), .ref r0], mT s)) (st_gR (len := 3) (b := 2) rfl hr0 (by decide)) ?_
              refine w_go K 1 (c' := (105, [some (.ref r0), some (.int a1), some (.ref 39), some (.int v3), some (.int v4), some (.int x10), o6], [.int v4, .ref (r0 + 3), .int (gI s (r0 + 2) (ix v4)), .ref r0], mT s)) rfl ?_
              refine w_ck K (st_iL rfl (mq_a3 hr0)) ?_
              refine w_go K 1 (c' := (107, [some (.ref r0), some (.int a1), some (.ref 39), some (.int v3), some (.int v4), some (.int x10), o6], [.ref 39, .int (gI s (r0 + 3) (ix v4)), .int (gI s (r0 + 2) (ix v4)), .ref r0], mT s)) rfl ?_
              refine w_callL K (E := f_Act_valueOf_39 r0 (gI s (r0 + 2) (ix v4)) (gI s (r0 + 3) (ix v4)) s) (g := fun (x13 : Int32 × mS) => (some (.int x13.1), mT x13.2)) (st_c (b := 4) (st := [.ref 39, .int (gI s (r0 + 3) (ix v4)), .int (gI s (r0 + 2) (ix v4)), .ref r0]) (args := [.int (gI s (r0 + 2) (ix v4)), .int (gI s (r0 + 3) (ix v4)), .ref 39]) (rest := []) rfl rfl rfl hr0) (m_Act_valueOf_39 (len := len) (xs := xs) r0 hr0 (d + 0) (gI s (r0 + 2) (ix v4)) (gI s (r0 + 3) (ix v4)) s) (fun x13 => ?_)
              refine w_go K 2 (c' := (113, [some (.ref r0), some (.int a1), some (.ref 39), some (.int v3), some (.int v4), some (.int x10), some (.int x13.1)], [.int v3], mT x13.2)) rfl ?_
              refine w_zne K rfl (fun _ => ?_) (fun _ => ?_)
              · refine w_go K 4 (c' := (121, [some (.ref r0), some (.int a1), some (.ref 39), some (.int 1), some (.int v4), some (.int x10), some (.int x13.1)], [.int x13.1, .ref r0], mT x13.2)) rfl ?_
                refine w_st K (c' := (124, [some (.ref r0), some (.int a1), some (.ref 39), some (.int 1), some (.int v4), some (.int x10), some (.int x13.1)], [], mT (sI x13.2 r0 11 x13.1))) (st_pI (len := 3) (b := 11) rfl hr0) ?_
                refine w_go K 3 (c' := (10, [some (.ref r0), some (.int a1), some (.ref 39), some (.int 1), some (.int (v4 + 1)), some (.int x10), some (.int x13.1)], [], mT (sI x13.2 r0 11 x13.1))) rfl ?_
                exact fun a b => ih (1 : Int32) (v4 + 1) _ _ (sI x13.2 r0 11 x13.1) a b
              · refine w_go K 2 (c' := (130, [some (.ref r0), some (.int a1), some (.ref 39), some (.int v3), some (.int v4), some (.int x10), some (.int x13.1)], [.ref r0, .int x13.1], mT x13.2)) rfl ?_
                refine w_st K (c' := (133, [some (.ref r0), some (.int a1), some (.ref 39), some (.int v3), some (.int v4), some (.int x10), some (.int x13.1)], [.int (gI x13.2 r0 11), .int x13.1], mT x13.2)) (st_gI (len := 3) (b := 11) rfl hr0) ?_
                refine w_go K 0 (c' := (133, [some (.ref r0), some (.int a1), some (.ref 39), some (.int v3), some (.int v4), some (.int x10), some (.int x13.1)], [.int (gI x13.2 r0 11), .int x13.1], mT x13.2)) rfl ?_
                refine w_ieq K rfl (fun _ => ?_) (fun _ => ?_)
                · refine w_go K 2 (c' := (10, [some (.ref r0), some (.int a1), some (.ref 39), some (.int v3), some (.int (v4 + 1)), some (.int x10), some (.int x13.1)], [], mT x13.2)) rfl ?_
                  exact fun a b => ih v3 (v4 + 1) _ _ x13.2 a b
                · refine w_go K 2 (c' := (138, [some (.ref r0), some (.int a1), some (.ref 39), some (.int v3), some (.int v4), some (.int x10), some (.int x13.1)], [.int 1, .ref r0], mT x13.2)) rfl ?_
                  refine w_ck K (st_pZ (len := 3) (b := 12) rfl hr0) ?_
                  refine w_go K 2 (c' := (10, [some (.ref r0), some (.int a1), some (.ref 39), some (.int v3), some (.int (v4 + 1)), some (.int x10), some (.int x13.1)], [], mT (sI x13.2 r0 12 1))) rfl ?_
                  exact fun a b => ih v3 (v4 + 1) _ _ (sI x13.2 r0 12 1) a b
          · refine w_go K 2 (c' := (10, [some (.ref r0), some (.int a1), some (.ref 39), some (.int v3), some (.int (v4 + 1)), some (.int x10), o6], [], mT s)) rfl ?_
            exact fun a b => ih v3 (v4 + 1) _ _ s a b
def f_Act_tells_39 (r0 : Nat) (a1 : Int32) (s : mS) : Int32 × mS := (mq_let (lp_Act_tells_39_10 r0 a1 mm_N (0 : Int32) (0 : Int32) (sI s r0 12 0)) (fun (x14 : Int32 × Int32 × mS) => (x14.1, x14.2.2)))
def ok_Act_tells_39 (r0 : Nat) (a1 : Int32) (s : mS) : Prop := (mm_bit (0 : Int32) = true ∧ (okl_Act_tells_39_10 r0 a1 mm_N (0 : Int32) (0 : Int32) (sI s r0 12 0) ∧ mq_letP (lp_Act_tells_39_10 r0 a1 mm_N (0 : Int32) (0 : Int32) (sI s r0 12 0)) (fun (x14 : Int32 × Int32 × mS) => mm_bit x14.1 = true)))
set_option maxRecDepth 4000 in
theorem t_Act_tells_39 {len : Nat} {xs : Nat → Int32} (r0 : Nat) (hr0 : mq_A r0) (d : Nat) (a1 : Int32) (s : mS) {T : Option mm_R} (K : Int32 × mS → Prop) (hK : ∀ t, K t → some (some (.int t.1), mT t.2) = T) : ok_Act_tells_39 r0 a1 s → K (f_Act_tells_39 r0 a1 s) → mm_fix (mm_X len xs) mm_Y (mm_call (mm_X len xs) mm_Y (d + 2)) (mm_look mc_Act_tells) (0, [some (.ref r0), some (.int a1), some (.ref 39), none, none, none, none], [], mT s) = T := by
  unfold ok_Act_tells_39 f_Act_tells_39
  refine w_go K 4 (c' := (4, [some (.ref r0), some (.int a1), some (.ref 39), some (.int 0), none, none, none], [.int 0, .ref r0], mT s)) rfl ?_
  refine w_ck K (st_pZ (len := 3) (b := 12) rfl hr0) ?_
  refine w_go K 2 (c' := (10, [some (.ref r0), some (.int a1), some (.ref 39), some (.int 0), some (.int 0), none, none], [], mT (sI s r0 12 0))) rfl ?_
  refine w_join K (fun (x14 : Int32 × Int32 × mS) => ∀ (q15 : Option Value) (q16 : Option Value), mm_fix (mm_X len xs) mm_Y (mm_call (mm_X len xs) mm_Y (d + 2)) (mm_look mc_Act_tells) (147, [some (.ref r0), some (.int a1), some (.ref 39), some (.int x14.1), some (.int x14.2.1), q15, q16], [], mT x14.2.2) = T) (fun K hJ => tl_Act_tells_39_10 (len := len) (xs := xs) r0 hr0 d a1 (T := T) K hJ mm_N (0 : Int32) (0 : Int32) _ _ (sI s r0 12 0)) (fun x14 h1 h2 q15 q16 => ?_)
  revert h1 h2
  refine w_go K 1 (c' := (148, [some (.ref r0), some (.int a1), some (.ref 39), some (.int x14.1), some (.int x14.2.1), q15, q16], [.int x14.1], mT x14.2.2)) rfl ?_
  exact w_retb K rfl (hK _)
theorem m_Act_tells_39 {len : Nat} {xs : Nat → Int32} (r0 : Nat) (hr0 : mq_A r0) (d : Nat) (a1 : Int32) (s : mS) : ok_Act_tells_39 r0 a1 s → mm_call (mm_X len xs) mm_Y (d + 3) 64 [.ref r0, .int a1, .ref 39] (mT s) = some (some (.int (f_Act_tells_39 r0 a1 s).1), mT (f_Act_tells_39 r0 a1 s).2) := fun h => t_Act_tells_39 (len := len) (xs := xs) r0 hr0 d a1 s (fun t => (some (some (.int t.1), mT t.2) : Option mm_R) = some (some (.int (f_Act_tells_39 r0 a1 s).1), mT (f_Act_tells_39 r0 a1 s).2)) (fun _ h => h) h rfl
