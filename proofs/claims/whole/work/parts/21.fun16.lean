/-! FUNCTIONS OF METHODS, by program: f_ what it does, ok_ that no row fails, m_ the small machine does so. -/
def f_Eyes_weigh (a1 : Int32) (s : mS) : mS := (mq_let (if (gI s 104 (ix a1)) = 0 then (1000 : Int32) else (if (gI s 105 (ix a1)) = 0 then (1 : Int32) else (1000 : Int32))) (fun (x10 : Int32) => (mq_let (if (gI s 103 (ix a1)) = 0 then (1000 : Int32) else (gI s 106 (ix a1))) (fun (x11 : Int32) => (if (1000 : Int32) ≤ (gI (sI s 108 (ix a1) (if x11 < x10 then x11 else x10)) 108 (ix a1)) then sI (sI s 108 (ix a1) (if x11 < x10 then x11 else x10)) 109 (ix a1) 0 else (mq_let (if x10 = (gI (sI s 108 (ix a1) (if x11 < x10 then x11 else x10)) 108 (ix a1)) then (1 : Int32) else (0 : Int32)) (fun (x12 : Int32) => (mq_let (if x11 = (gI (sI s 108 (ix a1) (if x11 < x10 then x11 else x10)) 108 (ix a1)) then (gI s 107 (ix a1)) else (0 : Int32)) (fun (x13 : Int32) => sI (sI (sI s 108 (ix a1) (if x11 < x10 then x11 else x10)) 109 (ix a1) 0) 109 (ix a1) (x12 + x13))))))))))
def ok_Eyes_weigh (a1 : Int32) (s : mS) : Prop := (mm_inb a1 16 = true ∧ ((if (gI s 104 (ix a1)) = 0 then True else (mm_inb a1 16 = true ∧ True)) ∧ mq_letP (if (gI s 104 (ix a1)) = 0 then (1000 : Int32) else (if (gI s 105 (ix a1)) = 0 then (1 : Int32) else (1000 : Int32))) (fun (x10 : Int32) => (mm_inb a1 16 = true ∧ ((if (gI s 103 (ix a1)) = 0 then True else (mm_inb a1 16 = true ∧ True)) ∧ mq_letP (if (gI s 103 (ix a1)) = 0 then (1000 : Int32) else (gI s 106 (ix a1))) (fun (x11 : Int32) => (mm_inb a1 16 = true ∧ (mm_inb a1 16 = true ∧ (mm_inb a1 16 = true ∧ (if (1000 : Int32) ≤ (gI (sI s 108 (ix a1) (if x11 < x10 then x11 else x10)) 108 (ix a1)) then True else (mm_inb a1 16 = true ∧ (True ∧ mq_letP (if x10 = (gI (sI s 108 (ix a1) (if x11 < x10 then x11 else x10)) 108 (ix a1)) then (1 : Int32) else (0 : Int32)) (fun (x12 : Int32) => (mm_inb a1 16 = true ∧ ((if x11 = (gI (sI s 108 (ix a1) (if x11 < x10 then x11 else x10)) 108 (ix a1)) then (mm_inb a1 16 = true ∧ True) else True) ∧ mq_letP (if x11 = (gI (sI s 108 (ix a1) (if x11 < x10 then x11 else x10)) 108 (ix a1)) then (gI s 107 (ix a1)) else (0 : Int32)) (fun (x13 : Int32) => (mm_inb a1 16 = true ∧ True)))))))))))))))))
set_option maxRecDepth 4000 in
theorem t_Eyes_weigh {len : Nat} {xs : Nat → Int32}  (d : Nat) (a1 : Int32) (s : mS) {T : Option mm_R} (K : mS → Prop) (hK : ∀ t, K t → some (none, mT t) = T) : ok_Eyes_weigh a1 s → K (f_Eyes_weigh a1 s) → mm_fix (mm_X len xs) mm_Y (mm_call (mm_X len xs) mm_Y (d + 0)) (mm_look mc_Eyes_weigh) (0, [some (.ref 102), some (.int a1), none, none], [], mT s) = T := by
  unfold ok_Eyes_weigh f_Eyes_weigh
  refine w_go K 3 (c' := (5, [some (.ref 102), some (.int a1), none, none], [.int a1, .ref 104], mT s)) rfl ?_
  refine w_ck K (st_bL rfl rfl) ?_
  refine w_go K 0 (c' := (6, [some (.ref 102), some (.int a1), none, none], [.int (gI s 104 (ix a1))], mT s)) rfl ?_
  refine w_join K (fun (x10 : Int32) => mm_fix (mm_X len xs) mm_Y (mm_call (mm_X len xs) mm_Y (d + 0)) (mm_look mc_Eyes_weigh) (25, [some (.ref 102), some (.int a1), none, none], [.int x10], mT s) = T) (fun K hJ => ?_) (fun x10 h1 h2 => ?_)
  · refine w_go K 0 (c' := (6, [some (.ref 102), some (.int a1), none, none], [.int (gI s 104 (ix a1))], mT s)) rfl ?_
    refine w_zeq K rfl (fun _ => ?_) (fun _ => ?_)
    · refine w_go K 1 (c' := (25, [some (.ref 102), some (.int a1), none, none], [.int 1000], mT s)) rfl ?_
      exact fun _ h => hJ _ h
    · refine w_go K 3 (c' := (14, [some (.ref 102), some (.int a1), none, none], [.int a1, .ref 105], mT s)) rfl ?_
      refine w_ck K (st_bL rfl rfl) ?_
      refine w_go K 0 (c' := (15, [some (.ref 102), some (.int a1), none, none], [.int (gI s 105 (ix a1))], mT s)) rfl ?_
      refine w_zneT K rfl (fun _ => ?_) (fun _ => ?_)
      · refine w_go K 2 (c' := (25, [some (.ref 102), some (.int a1), none, none], [.int 1], mT s)) rfl ?_
        exact fun _ h => hJ _ h
      · refine w_go K 1 (c' := (25, [some (.ref 102), some (.int a1), none, none], [.int 1000], mT s)) rfl ?_
        exact fun _ h => hJ _ h
  · revert h1 h2
    refine w_go K 4 (c' := (31, [some (.ref 102), some (.int a1), some (.int x10), none], [.int a1, .ref 103], mT s)) rfl ?_
    refine w_ck K (st_iL rfl rfl) ?_
    refine w_go K 0 (c' := (32, [some (.ref 102), some (.int a1), some (.int x10), none], [.int (gI s 103 (ix a1))], mT s)) rfl ?_
    refine w_join K (fun (x11 : Int32) => mm_fix (mm_X len xs) mm_Y (mm_call (mm_X len xs) mm_Y (d + 0)) (mm_look mc_Eyes_weigh) (47, [some (.ref 102), some (.int a1), some (.int x10), none], [.int x11], mT s) = T) (fun K hJ => ?_) (fun x11 h1 h2 => ?_)
    · refine w_go K 0 (c' := (32, [some (.ref 102), some (.int a1), some (.int x10), none], [.int (gI s 103 (ix a1))], mT s)) rfl ?_
      refine w_zne K rfl (fun _ => ?_) (fun _ => ?_)
      · refine w_go K 2 (c' := (47, [some (.ref 102), some (.int a1), some (.int x10), none], [.int 1000], mT s)) rfl ?_
        exact fun _ h => hJ _ h
      · refine w_go K 3 (c' := (46, [some (.ref 102), some (.int a1), some (.int x10), none], [.int a1, .ref 106], mT s)) rfl ?_
        refine w_ck K (st_iL rfl rfl) ?_
        refine w_go K 0 (c' := (47, [some (.ref 102), some (.int a1), some (.int x10), none], [.int (gI s 106 (ix a1))], mT s)) rfl ?_
        exact fun _ h => hJ _ h
    · revert h1 h2
      refine w_go K 7 (c' := (58, [some (.ref 102), some (.int a1), some (.int x10), some (.int x11)], [.int (if x11 < x10 then x11 else x10), .int a1, .ref 108], mT s)) rfl ?_
      refine w_ck K (st_iS rfl rfl) ?_
      refine w_go K 4 (c' := (65, [some (.ref 102), some (.int a1), some (.int x10), some (.int x11)], [.int 0, .int a1, .ref 109], mT (sI s 108 (ix a1) (if x11 < x10 then x11 else x10)))) rfl ?_
      refine w_ck K (st_iS rfl rfl) ?_
      refine w_go K 3 (c' := (71, [some (.ref 102), some (.int a1), some (.int x10), some (.int x11)], [.int a1, .ref 108], mT (sI (sI s 108 (ix a1) (if x11 < x10 then x11 else x10)) 109 (ix a1) 0))) rfl ?_
      refine w_ck K (st_iL rfl rfl) ?_
      refine w_go K 1 (c' := (75, [some (.ref 102), some (.int a1), some (.int x10), some (.int x11)], [.int 1000, .int (gI (sI s 108 (ix a1) (if x11 < x10 then x11 else x10)) 108 (ix a1))], mT (sI (sI s 108 (ix a1) (if x11 < x10 then x11 else x10)) 109 (ix a1) 0))) rfl ?_
      refine w_ige K rfl (fun _ => ?_) (fun _ => ?_)
      · refine w_go K 0 (c' := (120, [some (.ref 102), some (.int a1), some (.int x10), some (.int x11)], [], mT (sI (sI s 108 (ix a1) (if x11 < x10 then x11 else x10)) 109 (ix a1) 0))) rfl ?_
        exact w_ret K rfl (hK _)
      · refine w_go K 7 (c' := (89, [some (.ref 102), some (.int a1), some (.int x10), some (.int x11)], [.int a1, .ref 108, .int x10, .int a1, .ref 109], mT (sI (sI s 108 (ix a1) (if x11 < x10 then x11 else x10)) 109 (ix a1) 0))) rfl ?_
        refine w_ck K (st_iL rfl rfl) ?_
        refine w_go K 0 (c' := (90, [some (.ref 102), some (.int a1), some (.int x10), some (.int x11)], [.int (gI (sI s 108 (ix a1) (if x11 < x10 then x11 else x10)) 108 (ix a1)), .int x10, .int a1, .ref 109], mT (sI (sI s 108 (ix a1) (if x11 < x10 then x11 else x10)) 109 (ix a1) 0))) rfl ?_
        refine w_join K (fun (x12 : Int32) => mm_fix (mm_X len xs) mm_Y (mm_call (mm_X len xs) mm_Y (d + 0)) (mm_look mc_Eyes_weigh) (98, [some (.ref 102), some (.int a1), some (.int x10), some (.int x11)], [.int x12, .int a1, .ref 109], mT (sI (sI s 108 (ix a1) (if x11 < x10 then x11 else x10)) 109 (ix a1) 0)) = T) (fun K hJ => ?_) (fun x12 h1 h2 => ?_)
        · refine w_go K 0 (c' := (90, [some (.ref 102), some (.int a1), some (.int x10), some (.int x11)], [.int (gI (sI s 108 (ix a1) (if x11 < x10 then x11 else x10)) 108 (ix a1)), .int x10, .int a1, .ref 109], mT (sI (sI s 108 (ix a1) (if x11 < x10 then x11 else x10)) 109 (ix a1) 0))) rfl ?_
          refine w_ineT K rfl (fun _ => ?_) (fun _ => ?_)
          · refine w_go K 2 (c' := (98, [some (.ref 102), some (.int a1), some (.int x10), some (.int x11)], [.int 1, .int a1, .ref 109], mT (sI (sI s 108 (ix a1) (if x11 < x10 then x11 else x10)) 109 (ix a1) 0))) rfl ?_
            exact fun _ h => hJ _ h
          · refine w_go K 1 (c' := (98, [some (.ref 102), some (.int a1), some (.int x10), some (.int x11)], [.int 0, .int a1, .ref 109], mT (sI (sI s 108 (ix a1) (if x11 < x10 then x11 else x10)) 109 (ix a1) 0))) rfl ?_
            exact fun _ h => hJ _ h
        · revert h1 h2
          refine w_go K 4 (c' := (104, [some (.ref 102), some (.int a1), some (.int x10), some (.int x11)], [.int a1, .ref 108, .int x11, .int x12, .int a1, .ref 109], mT (sI (sI s 108 (ix a1) (if x11 < x10 then x11 else x10)) 109 (ix a1) 0))) rfl ?_
          refine w_ck K (st_iL rfl rfl) ?_
          refine w_go K 0 (c' := (105, [some (.ref 102), some (.int a1), some (.int x10), some (.int x11)], [.int (gI (sI s 108 (ix a1) (if x11 < x10 then x11 else x10)) 108 (ix a1)), .int x11, .int x12, .int a1, .ref 109], mT (sI (sI s 108 (ix a1) (if x11 < x10 then x11 else x10)) 109 (ix a1) 0))) rfl ?_
          refine w_join K (fun (x13 : Int32) => mm_fix (mm_X len xs) mm_Y (mm_call (mm_X len xs) mm_Y (d + 0)) (mm_look mc_Eyes_weigh) (118, [some (.ref 102), some (.int a1), some (.int x10), some (.int x11)], [.int x13, .int x12, .int a1, .ref 109], mT (sI (sI s 108 (ix a1) (if x11 < x10 then x11 else x10)) 109 (ix a1) 0)) = T) (fun K hJ => ?_) (fun x13 h1 h2 => ?_)
          · refine w_go K 0 (c' := (105, [some (.ref 102), some (.int a1), some (.int x10), some (.int x11)], [.int (gI (sI s 108 (ix a1) (if x11 < x10 then x11 else x10)) 108 (ix a1)), .int x11, .int x12, .int a1, .ref 109], mT (sI (sI s 108 (ix a1) (if x11 < x10 then x11 else x10)) 109 (ix a1) 0))) rfl ?_
            refine w_ine K rfl (fun _ => ?_) (fun _ => ?_)
            · refine w_go K 3 (c' := (113, [some (.ref 102), some (.int a1), some (.int x10), some (.int x11)], [.int a1, .ref 107, .int x12, .int a1, .ref 109], mT (sI (sI s 108 (ix a1) (if x11 < x10 then x11 else x10)) 109 (ix a1) 0))) rfl ?_
              refine w_ck K (st_iL rfl rfl) ?_
              refine w_go K 1 (c' := (118, [some (.ref 102), some (.int a1), some (.int x10), some (.int x11)], [.int (gI s 107 (ix a1)), .int x12, .int a1, .ref 109], mT (sI (sI s 108 (ix a1) (if x11 < x10 then x11 else x10)) 109 (ix a1) 0))) rfl ?_
              exact fun _ h => hJ _ h
            · refine w_go K 1 (c' := (118, [some (.ref 102), some (.int a1), some (.int x10), some (.int x11)], [.int 0, .int x12, .int a1, .ref 109], mT (sI (sI s 108 (ix a1) (if x11 < x10 then x11 else x10)) 109 (ix a1) 0))) rfl ?_
              exact fun _ h => hJ _ h
          · revert h1 h2
            refine w_go K 1 (c' := (119, [some (.ref 102), some (.int a1), some (.int x10), some (.int x11)], [.int (x12 + x13), .int a1, .ref 109], mT (sI (sI s 108 (ix a1) (if x11 < x10 then x11 else x10)) 109 (ix a1) 0))) rfl ?_
            refine w_ck K (st_iS rfl rfl) ?_
            refine w_go K 0 (c' := (120, [some (.ref 102), some (.int a1), some (.int x10), some (.int x11)], [], mT (sI (sI (sI s 108 (ix a1) (if x11 < x10 then x11 else x10)) 109 (ix a1) 0) 109 (ix a1) (x12 + x13)))) rfl ?_
            exact w_ret K rfl (hK _)
theorem m_Eyes_weigh {len : Nat} {xs : Nat → Int32}  (d : Nat) (a1 : Int32) (s : mS) : ok_Eyes_weigh a1 s → mm_call (mm_X len xs) mm_Y (d + 1) 143 [.ref 102, .int a1] (mT s) = some (none, mT (f_Eyes_weigh a1 s)) := fun h => t_Eyes_weigh (len := len) (xs := xs) d a1 s (fun t => (some (none, mT t) : Option mm_R) = some (none, mT (f_Eyes_weigh a1 s))) (fun _ h => h) h rfl
def lp_Eyes_reach_9  : Nat → Int32 → mS → Int32 × mS
  | 0, v2, s => (v2, s)
  | n + 1, v2, s => (if (16 : Int32) ≤ v2 then (v2, s) else (mq_let (f_Net_hasPipe v2 (sI s 110 (ix v2) 0)) (fun (x10 : Int32) => (if x10 = 0 then (lp_Eyes_reach_9 n (v2 + 1) (sI s 110 (ix v2) 0)) else (mq_let (f_Net_has (gI s 26 (ix v2)) (sI s 110 (ix v2) 0)) (fun (x11 : Int32) => (if x11 = 0 then (lp_Eyes_reach_9 n (v2 + 1) (sI s 110 (ix v2) 0)) else (if (gI s 109 (ix v2)) = 0 then (lp_Eyes_reach_9 n (v2 + 1) (sI s 110 (ix v2) 0)) else (mq_let (if (gI s 26 (ix v2)) = 0 then (1 : Int32) else (if (gI s 103 (ix (gI s 26 (ix v2)))) = 0 then (0 : Int32) else (if (gI s 106 (ix (gI s 26 (ix v2)))) = (gI s 108 (ix (gI s 26 (ix v2)))) then (1 : Int32) else (0 : Int32)))) (fun (x12 : Int32) => (mq_let (if x12 = 0 then (0 : Int32) else ((gI (sI s 110 (ix v2) 0) 110 (ix (gI s 26 (ix v2)))) * ((gI s 107 (ix (gI s 26 (ix v2)))) / (gI s 109 (ix v2))))) (fun (x13 : Int32) => (lp_Eyes_reach_9 n (v2 + 1) (sI (sI s 110 (ix v2) 0) 110 (ix v2) x13))))))))))))))
def okl_Eyes_reach_9  : Nat → Int32 → mS → Prop
  | 0, v2, s => False
  | n + 1, v2, s => (if (16 : Int32) ≤ v2 then True else (mm_inb v2 16 = true ∧ (mm_inb v2 16 = true ∧ (True ∧ mq_letP (f_Net_hasPipe v2 (sI s 110 (ix v2) 0)) (fun (x10 : Int32) => (if x10 = 0 then (okl_Eyes_reach_9 n (v2 + 1) (sI s 110 (ix v2) 0)) else (True ∧ mq_letP (f_Net_has (gI s 26 (ix v2)) (sI s 110 (ix v2) 0)) (fun (x11 : Int32) => (if x11 = 0 then (okl_Eyes_reach_9 n (v2 + 1) (sI s 110 (ix v2) 0)) else (mm_inb v2 16 = true ∧ (if (gI s 109 (ix v2)) = 0 then (okl_Eyes_reach_9 n (v2 + 1) (sI s 110 (ix v2) 0)) else ((if (gI s 26 (ix v2)) = 0 then True else (mm_inb (gI s 26 (ix v2)) 16 = true ∧ (if (gI s 103 (ix (gI s 26 (ix v2)))) = 0 then True else (mm_inb (gI s 26 (ix v2)) 16 = true ∧ (mm_inb (gI s 26 (ix v2)) 16 = true ∧ True))))) ∧ mq_letP (if (gI s 26 (ix v2)) = 0 then (1 : Int32) else (if (gI s 103 (ix (gI s 26 (ix v2)))) = 0 then (0 : Int32) else (if (gI s 106 (ix (gI s 26 (ix v2)))) = (gI s 108 (ix (gI s 26 (ix v2)))) then (1 : Int32) else (0 : Int32)))) (fun (x12 : Int32) => ((if x12 = 0 then True else (mm_inb (gI s 26 (ix v2)) 16 = true ∧ (mm_inb (gI s 26 (ix v2)) 16 = true ∧ (mm_inb v2 16 = true ∧ ((!(decide ((gI s 109 (ix v2)) = (0 : Int32)))) = true ∧ True))))) ∧ mq_letP (if x12 = 0 then (0 : Int32) else ((gI (sI s 110 (ix v2) 0) 110 (ix (gI s 26 (ix v2)))) * ((gI s 107 (ix (gI s 26 (ix v2)))) / (gI s 109 (ix v2))))) (fun (x13 : Int32) => (mm_inb v2 16 = true ∧ (okl_Eyes_reach_9 n (v2 + 1) (sI (sI s 110 (ix v2) 0) 110 (ix v2) x13))))))))))))))))))
set_option maxRecDepth 4000 in
theorem tl_Eyes_reach_9 {len : Nat} {xs : Nat → Int32}  (d : Nat)   {T : Option mm_R} (K : Int32 × mS → Prop) (hX : ∀ r, K r → ∀ (o3 : Option Value) (o4 : Option Value), mm_fix (mm_X len xs) mm_Y (mm_call (mm_X len xs) mm_Y (d + 2)) (mm_look mc_Eyes_reach) (133, [some (.ref 102), some (.ref 25), some (.int r.1), o3, o4], [], mT r.2) = T) : ∀ (n : Nat), ∀ (v2 : Int32) (o3 : Option Value) (o4 : Option Value) (s : mS), okl_Eyes_reach_9 n v2 s → K (lp_Eyes_reach_9 n v2 s) → mm_fix (mm_X len xs) mm_Y (mm_call (mm_X len xs) mm_Y (d + 2)) (mm_look mc_Eyes_reach) (9, [some (.ref 102), some (.ref 25), some (.int v2), o3, o4], [], mT s) = T := by
  intro n
  induction n with
  | zero => intro v2 o3 o4 s; exact fun h => h.elim
  | succ n ih =>
    intro v2 o3 o4 s
    rw [okl_Eyes_reach_9, lp_Eyes_reach_9]
    refine w_go K 2 (c' := (12, [some (.ref 102), some (.ref 25), some (.int v2), o3, o4], [.int 16, .int v2], mT s)) rfl ?_
    refine w_ige K rfl (fun _ => ?_) (fun _ => ?_)
    · refine w_go K 0 (c' := (133, [some (.ref 102), some (.ref 25), some (.int v2), o3, o4], [], mT s)) rfl ?_
      exact fun _ b => hX _ b _ _
    · refine w_go K 4 (c' := (21, [some (.ref 102), some (.ref 25), some (.int v2), o3, o4], [.int 0, .int v2, .ref 110], mT s)) rfl ?_
      refine w_ck K (st_iS rfl rfl) ?_
      refine w_go K 3 (c' := (27, [some (.ref 102), some (.ref 25), some (.int v2), o3, o4], [.int v2, .ref 26], mT (sI s 110 (ix v2) 0))) rfl ?_
      refine w_ck K (st_iL rfl rfl) ?_
      refine w_go K 3 (c' := (31, [some (.ref 102), some (.ref 25), some (.int v2), some (.int (gI s 26 (ix v2))), o4], [.int v2, .ref 25], mT (sI s 110 (ix v2) 0))) rfl ?_
      refine w_callL K (E := f_Net_hasPipe v2 (sI s 110 (ix v2) 0)) (g := fun (x10 : Int32) => (some (.int x10), mT (sI s 110 (ix v2) 0))) rfl (m_Net_hasPipe (len := len) (xs := xs) (d + 0) v2 (sI s 110 (ix v2) 0)) (fun x10 => ?_)
      refine w_go K 0 (c' := (34, [some (.ref 102), some (.ref 25), some (.int v2), some (.int (gI s 26 (ix v2))), o4], [.int x10], mT (sI s 110 (ix v2) 0))) rfl ?_
      refine w_zeq K rfl (fun _ => ?_) (fun _ => ?_)
      · refine w_go K 2 (c' := (9, [some (.ref 102), some (.ref 25), some (.int (v2 + 1)), some (.int (gI s 26 (ix v2))), o4], [], mT (sI s 110 (ix v2) 0))) rfl ?_
        exact fun a b => ih (v2 + 1) _ _ (sI s 110 (ix v2) 0) a b
      · refine w_go K 2 (c' := (39, [some (.ref 102), some (.ref 25), some (.int v2), some (.int (gI s 26 (ix v2))), o4], [.int (gI s 26 (ix v2)), .ref 25], mT (sI s 110 (ix v2) 0))) rfl ?_
        refine w_callL K (E := f_Net_has (gI s 26 (ix v2)) (sI s 110 (ix v2) 0)) (g := fun (x11 : Int32) => (some (.int x11), mT (sI s 110 (ix v2) 0))) rfl (m_Net_has (len := len) (xs := xs) (d + 1) (gI s 26 (ix v2)) (sI s 110 (ix v2) 0)) (fun x11 => ?_)
        refine w_go K 0 (c' := (42, [some (.ref 102), some (.ref 25), some (.int v2), some (.int (gI s 26 (ix v2))), o4], [.int x11], mT (sI s 110 (ix v2) 0))) rfl ?_
        refine w_zeq K rfl (fun _ => ?_) (fun _ => ?_)
        · refine w_go K 2 (c' := (9, [some (.ref 102), some (.ref 25), some (.int (v2 + 1)), some (.int (gI s 26 (ix v2))), o4], [], mT (sI s 110 (ix v2) 0))) rfl ?_
          exact fun a b => ih (v2 + 1) _ _ (sI s 110 (ix v2) 0) a b
        · refine w_go K 3 (c' := (50, [some (.ref 102), some (.ref 25), some (.int v2), some (.int (gI s 26 (ix v2))), o4], [.int v2, .ref 109], mT (sI s 110 (ix v2) 0))) rfl ?_
          refine w_ck K (st_iL rfl rfl) ?_
          refine w_go K 0 (c' := (51, [some (.ref 102), some (.ref 25), some (.int v2), some (.int (gI s 26 (ix v2))), o4], [.int (gI s 109 (ix v2))], mT (sI s 110 (ix v2) 0))) rfl ?_
          refine w_zne K rfl (fun _ => ?_) (fun _ => ?_)
          · refine w_go K 3 (c' := (9, [some (.ref 102), some (.ref 25), some (.int (v2 + 1)), some (.int (gI s 26 (ix v2))), o4], [], mT (sI s 110 (ix v2) 0))) rfl ?_
            exact fun a b => ih (v2 + 1) _ _ (sI s 110 (ix v2) 0) a b
          · refine w_go K 1 (c' := (58, [some (.ref 102), some (.ref 25), some (.int v2), some (.int (gI s 26 (ix v2))), o4], [.int (gI s 26 (ix v2))], mT (sI s 110 (ix v2) 0))) rfl ?_
            refine w_join K (fun (x12 : Int32) => mm_fix (mm_X len xs) mm_Y (mm_call (mm_X len xs) mm_Y (d + 2)) (mm_look mc_Eyes_reach) (90, [some (.ref 102), some (.ref 25), some (.int v2), some (.int (gI s 26 (ix v2))), o4], [.int x12], mT (sI s 110 (ix v2) 0)) = T) (fun K hJ => ?_) (fun x12 h1 h2 => ?_)
            · refine w_go K 0 (c' := (58, [some (.ref 102), some (.ref 25), some (.int v2), some (.int (gI s 26 (ix v2))), o4], [.int (gI s 26 (ix v2))], mT (sI s 110 (ix v2) 0))) rfl ?_
              refine w_zeq K rfl (fun _ => ?_) (fun _ => ?_)
              · refine w_go K 2 (c' := (90, [some (.ref 102), some (.ref 25), some (.int v2), some (.int (gI s 26 (ix v2))), o4], [.int 1], mT (sI s 110 (ix v2) 0))) rfl ?_
                exact fun _ h => hJ _ h
              · refine w_go K 3 (c' := (66, [some (.ref 102), some (.ref 25), some (.int v2), some (.int (gI s 26 (ix v2))), o4], [.int (gI s 26 (ix v2)), .ref 103], mT (sI s 110 (ix v2) 0))) rfl ?_
                refine w_ck K (st_iL rfl rfl) ?_
                refine w_go K 0 (c' := (67, [some (.ref 102), some (.ref 25), some (.int v2), some (.int (gI s 26 (ix v2))), o4], [.int (gI s 103 (ix (gI s 26 (ix v2))))], mT (sI s 110 (ix v2) 0))) rfl ?_
                refine w_zeq K rfl (fun _ => ?_) (fun _ => ?_)
                · refine w_go K 1 (c' := (90, [some (.ref 102), some (.ref 25), some (.int v2), some (.int (gI s 26 (ix v2))), o4], [.int 0], mT (sI s 110 (ix v2) 0))) rfl ?_
                  exact fun _ h => hJ _ h
                · refine w_go K 3 (c' := (75, [some (.ref 102), some (.ref 25), some (.int v2), some (.int (gI s 26 (ix v2))), o4], [.int (gI s 26 (ix v2)), .ref 106], mT (sI s 110 (ix v2) 0))) rfl ?_
                  refine w_ck K (st_iL rfl rfl) ?_
                  refine w_go K 3 (c' := (81, [some (.ref 102), some (.ref 25), some (.int v2), some (.int (gI s 26 (ix v2))), o4], [.int (gI s 26 (ix v2)), .ref 108, .int (gI s 106 (ix (gI s 26 (ix v2))))], mT (sI s 110 (ix v2) 0))) rfl ?_
                  refine w_ck K (st_iL rfl rfl) ?_
                  refine w_go K 0 (c' := (82, [some (.ref 102), some (.ref 25), some (.int v2), some (.int (gI s 26 (ix v2))), o4], [.int (gI s 108 (ix (gI s 26 (ix v2)))), .int (gI s 106 (ix (gI s 26 (ix v2))))], mT (sI s 110 (ix v2) 0))) rfl ?_
                  refine w_ineT K rfl (fun _ => ?_) (fun _ => ?_)
                  · refine w_go K 2 (c' := (90, [some (.ref 102), some (.ref 25), some (.int v2), some (.int (gI s 26 (ix v2))), o4], [.int 1], mT (sI s 110 (ix v2) 0))) rfl ?_
                    exact fun _ h => hJ _ h
                  · refine w_go K 1 (c' := (90, [some (.ref 102), some (.ref 25), some (.int v2), some (.int (gI s 26 (ix v2))), o4], [.int 0], mT (sI s 110 (ix v2) 0))) rfl ?_
                    exact fun _ h => hJ _ h
            · revert h1 h2
              refine w_go K 5 (c' := (99, [some (.ref 102), some (.ref 25), some (.int v2), some (.int (gI s 26 (ix v2))), some (.int x12)], [.int x12, .int v2, .ref 110], mT (sI s 110 (ix v2) 0))) rfl ?_
              refine w_join K (fun (x13 : Int32) => mm_fix (mm_X len xs) mm_Y (mm_call (mm_X len xs) mm_Y (d + 2)) (mm_look mc_Eyes_reach) (126, [some (.ref 102), some (.ref 25), some (.int v2), some (.int (gI s 26 (ix v2))), some (.int x12)], [.int x13, .int v2, .ref 110], mT (sI s 110 (ix v2) 0)) = T) (fun K hJ => ?_) (fun x13 h1 h2 => ?_)
              · refine w_go K 0 (c' := (99, [some (.ref 102), some (.ref 25), some (.int v2), some (.int (gI s 26 (ix v2))), some (.int x12)], [.int x12, .int v2, .ref 110], mT (sI s 110 (ix v2) 0))) rfl ?_
                refine w_zeq K rfl (fun _ => ?_) (fun _ => ?_)
                · refine w_go K 1 (c' := (126, [some (.ref 102), some (.ref 25), some (.int v2), some (.int (gI s 26 (ix v2))), some (.int x12)], [.int 0, .int v2, .ref 110], mT (sI s 110 (ix v2) 0))) rfl ?_
                  exact fun _ h => hJ _ h
                · refine w_go K 3 (c' := (107, [some (.ref 102), some (.ref 25), some (.int v2), some (.int (gI s 26 (ix v2))), some (.int x12)], [.int (gI s 26 (ix v2)), .ref 110, .int v2, .ref 110], mT (sI s 110 (ix v2) 0))) rfl ?_
                  refine w_ck K (st_iL rfl rfl) ?_
                  refine w_go K 3 (c' := (113, [some (.ref 102), some (.ref 25), some (.int v2), some (.int (gI s 26 (ix v2))), some (.int x12)], [.int (gI s 26 (ix v2)), .ref 107, .int (gI (sI s 110 (ix v2) 0) 110 (ix (gI s 26 (ix v2)))), .int v2, .ref 110], mT (sI s 110 (ix v2) 0))) rfl ?_
                  refine w_ck K (st_iL rfl rfl) ?_
                  refine w_go K 3 (c' := (119, [some (.ref 102), some (.ref 25), some (.int v2), some (.int (gI s 26 (ix v2))), some (.int x12)], [.int v2, .ref 109, .int (gI s 107 (ix (gI s 26 (ix v2)))), .int (gI (sI s 110 (ix v2) 0) 110 (ix (gI s 26 (ix v2)))), .int v2, .ref 110], mT (sI s 110 (ix v2) 0))) rfl ?_
                  refine w_ck K (st_iL rfl rfl) ?_
                  refine w_go K 0 (c' := (120, [some (.ref 102), some (.ref 25), some (.int v2), some (.int (gI s 26 (ix v2))), some (.int x12)], [.int (gI s 109 (ix v2)), .int (gI s 107 (ix (gI s 26 (ix v2)))), .int (gI (sI s 110 (ix v2) 0) 110 (ix (gI s 26 (ix v2)))), .int v2, .ref 110], mT (sI s 110 (ix v2) 0))) rfl ?_
                  refine w_ck K rfl ?_
                  refine w_go K 2 (c' := (126, [some (.ref 102), some (.ref 25), some (.int v2), some (.int (gI s 26 (ix v2))), some (.int x12)], [.int ((gI (sI s 110 (ix v2) 0) 110 (ix (gI s 26 (ix v2)))) * ((gI s 107 (ix (gI s 26 (ix v2)))) / (gI s 109 (ix v2)))), .int v2, .ref 110], mT (sI s 110 (ix v2) 0))) rfl ?_
                  exact fun _ h => hJ _ h
              · revert h1 h2
                refine w_go K 0 (c' := (126, [some (.ref 102), some (.ref 25), some (.int v2), some (.int (gI s 26 (ix v2))), some (.int x12)], [.int x13, .int v2, .ref 110], mT (sI s 110 (ix v2) 0))) rfl ?_
                refine w_ck K (st_iS rfl rfl) ?_
                refine w_go K 2 (c' := (9, [some (.ref 102), some (.ref 25), some (.int (v2 + 1)), some (.int (gI s 26 (ix v2))), some (.int x12)], [], mT (sI (sI s 110 (ix v2) 0) 110 (ix v2) x13))) rfl ?_
                exact fun a b => ih (v2 + 1) _ _ (sI (sI s 110 (ix v2) 0) 110 (ix v2) x13) a b
def f_Eyes_reach  (s : mS) : mS := (mq_let (lp_Eyes_reach_9 mm_N (1 : Int32) (sI s 110 0 1)) (fun (x14 : Int32 × mS) => x14.2))
def ok_Eyes_reach  (s : mS) : Prop := (okl_Eyes_reach_9 mm_N (1 : Int32) (sI s 110 0 1) ∧ mq_letP (lp_Eyes_reach_9 mm_N (1 : Int32) (sI s 110 0 1)) (fun (x14 : Int32 × mS) => True))
set_option maxRecDepth 4000 in
theorem t_Eyes_reach {len : Nat} {xs : Nat → Int32}  (d : Nat)  (s : mS) {T : Option mm_R} (K : mS → Prop) (hK : ∀ t, K t → some (none, mT t) = T) : ok_Eyes_reach s → K (f_Eyes_reach s) → mm_fix (mm_X len xs) mm_Y (mm_call (mm_X len xs) mm_Y (d + 2)) (mm_look mc_Eyes_reach) (0, [some (.ref 102), some (.ref 25), none, none, none], [], mT s) = T := by
  unfold ok_Eyes_reach f_Eyes_reach
  refine w_go K 7 (c' := (9, [some (.ref 102), some (.ref 25), some (.int 1), none, none], [], mT (sI s 110 0 1))) rfl ?_
  refine w_join K (fun (x14 : Int32 × mS) => ∀ (q15 : Option Value) (q16 : Option Value), mm_fix (mm_X len xs) mm_Y (mm_call (mm_X len xs) mm_Y (d + 2)) (mm_look mc_Eyes_reach) (133, [some (.ref 102), some (.ref 25), some (.int x14.1), q15, q16], [], mT x14.2) = T) (fun K hJ => tl_Eyes_reach_9 (len := len) (xs := xs) d (T := T) K hJ mm_N (1 : Int32) _ _ (sI s 110 0 1)) (fun x14 h1 h2 q15 q16 => ?_)
  revert h1 h2
  refine w_go K 0 (c' := (133, [some (.ref 102), some (.ref 25), some (.int x14.1), q15, q16], [], mT x14.2)) rfl ?_
  exact w_ret K rfl (hK _)
theorem m_Eyes_reach {len : Nat} {xs : Nat → Int32}  (d : Nat)  (s : mS) : ok_Eyes_reach s → mm_call (mm_X len xs) mm_Y (d + 3) 144 [.ref 102, .ref 25] (mT s) = some (none, mT (f_Eyes_reach s)) := fun h => t_Eyes_reach (len := len) (xs := xs) d s (fun t => (some (none, mT t) : Option mm_R) = some (none, mT (f_Eyes_reach s))) (fun _ h => h) h rfl
def lp_Eyes_explain_2  : Nat → Int32 → mS → Int32 × mS
  | 0, v2, s => (v2, s)
  | n + 1, v2, s => (if (16 : Int32) ≤ v2 then (v2, s) else (mq_let (if (gI s 103 (ix v2)) = 0 then (1 : Int32) else (0 : Int32)) (fun (x10 : Int32) => (mq_let (if (gI s 103 (ix v2)) = 1 then (1 : Int32) else (0 : Int32)) (fun (x11 : Int32) => (lp_Eyes_explain_2 n (v2 + 1) (sI (sI (sI (sI s 104 (ix v2) x10) 105 (ix v2) x11) 106 (ix v2) 0) 107 (ix v2) 1)))))))
def okl_Eyes_explain_2  : Nat → Int32 → mS → Prop
  | 0, v2, s => False
  | n + 1, v2, s => (if (16 : Int32) ≤ v2 then True else (mm_inb v2 16 = true ∧ (True ∧ mq_letP (if (gI s 103 (ix v2)) = 0 then (1 : Int32) else (0 : Int32)) (fun (x10 : Int32) => ((mm_inb v2 16 && mm_bit x10) = true ∧ (mm_inb v2 16 = true ∧ (True ∧ mq_letP (if (gI s 103 (ix v2)) = 1 then (1 : Int32) else (0 : Int32)) (fun (x11 : Int32) => ((mm_inb v2 16 && mm_bit x11) = true ∧ (mm_inb v2 16 = true ∧ (mm_inb v2 16 = true ∧ (okl_Eyes_explain_2 n (v2 + 1) (sI (sI (sI (sI s 104 (ix v2) x10) 105 (ix v2) x11) 106 (ix v2) 0) 107 (ix v2) 1)))))))))))))
set_option maxRecDepth 4000 in
theorem tl_Eyes_explain_2 {len : Nat} {xs : Nat → Int32}  (d : Nat)   {T : Option mm_R} (K : Int32 × mS → Prop) (hX : ∀ r, K r → ∀ (o3 : Option Value), mm_fix (mm_X len xs) mm_Y (mm_call (mm_X len xs) mm_Y (d + 3)) (mm_look mc_Eyes_explain) (69, [some (.ref 102), some (.ref 25), some (.int r.1), o3], [], mT r.2) = T) : ∀ (n : Nat), ∀ (v2 : Int32) (o3 : Option Value) (s : mS), okl_Eyes_explain_2 n v2 s → K (lp_Eyes_explain_2 n v2 s) → mm_fix (mm_X len xs) mm_Y (mm_call (mm_X len xs) mm_Y (d + 3)) (mm_look mc_Eyes_explain) (2, [some (.ref 102), some (.ref 25), some (.int v2), o3], [], mT s) = T := by
  intro n
  induction n with
  | zero => intro v2 o3 s; exact fun h => h.elim
  | succ n ih =>
    intro v2 o3 s
    rw [okl_Eyes_explain_2, lp_Eyes_explain_2]
    refine w_go K 2 (c' := (5, [some (.ref 102), some (.ref 25), some (.int v2), o3], [.int 16, .int v2], mT s)) rfl ?_
    refine w_ige K rfl (fun _ => ?_) (fun _ => ?_)
    · refine w_go K 0 (c' := (69, [some (.ref 102), some (.ref 25), some (.int v2), o3], [], mT s)) rfl ?_
      exact fun _ b => hX _ b _
    · refine w_go K 6 (c' := (18, [some (.ref 102), some (.ref 25), some (.int v2), o3], [.int v2, .ref 103, .int v2, .ref 104], mT s)) rfl ?_
      refine w_ck K (st_iL rfl rfl) ?_
      refine w_go K 0 (c' := (19, [some (.ref 102), some (.ref 25), some (.int v2), o3], [.int (gI s 103 (ix v2)), .int v2, .ref 104], mT s)) rfl ?_
      refine w_join K (fun (x10 : Int32) => mm_fix (mm_X len xs) mm_Y (mm_call (mm_X len xs) mm_Y (d + 3)) (mm_look mc_Eyes_explain) (27, [some (.ref 102), some (.ref 25), some (.int v2), o3], [.int x10, .int v2, .ref 104], mT s) = T) (fun K hJ => ?_) (fun x10 h1 h2 => ?_)
      · refine w_go K 0 (c' := (19, [some (.ref 102), some (.ref 25), some (.int v2), o3], [.int (gI s 103 (ix v2)), .int v2, .ref 104], mT s)) rfl ?_
        refine w_zneT K rfl (fun _ => ?_) (fun _ => ?_)
        · refine w_go K 2 (c' := (27, [some (.ref 102), some (.ref 25), some (.int v2), o3], [.int 1, .int v2, .ref 104], mT s)) rfl ?_
          exact fun _ h => hJ _ h
        · refine w_go K 1 (c' := (27, [some (.ref 102), some (.ref 25), some (.int v2), o3], [.int 0, .int v2, .ref 104], mT s)) rfl ?_
          exact fun _ h => hJ _ h
      · revert h1 h2
        refine w_go K 0 (c' := (27, [some (.ref 102), some (.ref 25), some (.int v2), o3], [.int x10, .int v2, .ref 104], mT s)) rfl ?_
        refine w_ck K (st_bS rfl rfl) ?_
        refine w_go K 6 (c' := (38, [some (.ref 102), some (.ref 25), some (.int v2), o3], [.int v2, .ref 103, .int v2, .ref 105], mT (sI s 104 (ix v2) x10))) rfl ?_
        refine w_ck K (st_iL rfl rfl) ?_
        refine w_go K 1 (c' := (40, [some (.ref 102), some (.ref 25), some (.int v2), o3], [.int 1, .int (gI s 103 (ix v2)), .int v2, .ref 105], mT (sI s 104 (ix v2) x10))) rfl ?_
        refine w_join K (fun (x11 : Int32) => mm_fix (mm_X len xs) mm_Y (mm_call (mm_X len xs) mm_Y (d + 3)) (mm_look mc_Eyes_explain) (48, [some (.ref 102), some (.ref 25), some (.int v2), o3], [.int x11, .int v2, .ref 105], mT (sI s 104 (ix v2) x10)) = T) (fun K hJ => ?_) (fun x11 h1 h2 => ?_)
        · refine w_go K 0 (c' := (40, [some (.ref 102), some (.ref 25), some (.int v2), o3], [.int 1, .int (gI s 103 (ix v2)), .int v2, .ref 105], mT (sI s 104 (ix v2) x10))) rfl ?_
          refine w_ineT K rfl (fun _ => ?_) (fun _ => ?_)
          · refine w_go K 2 (c' := (48, [some (.ref 102), some (.ref 25), some (.int v2), o3], [.int 1, .int v2, .ref 105], mT (sI s 104 (ix v2) x10))) rfl ?_
            exact fun _ h => hJ _ h
          · refine w_go K 1 (c' := (48, [some (.ref 102), some (.ref 25), some (.int v2), o3], [.int 0, .int v2, .ref 105], mT (sI s 104 (ix v2) x10))) rfl ?_
            exact fun _ h => hJ _ h
        · revert h1 h2
          refine w_go K 0 (c' := (48, [some (.ref 102), some (.ref 25), some (.int v2), o3], [.int x11, .int v2, .ref 105], mT (sI s 104 (ix v2) x10))) rfl ?_
          refine w_ck K (st_bS rfl rfl) ?_
          refine w_go K 4 (c' := (55, [some (.ref 102), some (.ref 25), some (.int v2), o3], [.int 0, .int v2, .ref 106], mT (sI (sI s 104 (ix v2) x10) 105 (ix v2) x11))) rfl ?_
          refine w_ck K (st_iS rfl rfl) ?_
          refine w_go K 4 (c' := (62, [some (.ref 102), some (.ref 25), some (.int v2), o3], [.int 1, .int v2, .ref 107], mT (sI (sI (sI s 104 (ix v2) x10) 105 (ix v2) x11) 106 (ix v2) 0))) rfl ?_
          refine w_ck K (st_iS rfl rfl) ?_
          refine w_go K 2 (c' := (2, [some (.ref 102), some (.ref 25), some (.int (v2 + 1)), o3], [], mT (sI (sI (sI (sI s 104 (ix v2) x10) 105 (ix v2) x11) 106 (ix v2) 0) 107 (ix v2) 1))) rfl ?_
          exact fun a b => ih (v2 + 1) _ (sI (sI (sI (sI s 104 (ix v2) x10) 105 (ix v2) x11) 106 (ix v2) 0) 107 (ix v2) 1) a b
def lp_Eyes_explain_72  : Nat → Int32 → mS → Int32 × mS
  | 0, v2, s => (v2, s)
  | n + 1, v2, s => (if v2 ≤ 0 then (v2, s) else (mq_let (f_Net_hasPipe v2 s) (fun (x14 : Int32) => (if x14 = 0 then (lp_Eyes_explain_72 n (v2 + (-1)) s) else (mq_let (f_Net_has (gI s 26 (ix v2)) s) (fun (x15 : Int32) => (if x15 = 0 then (lp_Eyes_explain_72 n (v2 + (-1)) s) else (mq_let (f_Eyes_weigh v2 s) (fun (x16 : mS) => (mq_let (if (gI x16 104 (ix (gI s 26 (ix v2)))) = 0 then (if (gI x16 104 (ix v2)) = 0 then (0 : Int32) else (1 : Int32)) else (1 : Int32)) (fun (x17 : Int32) => (mq_let (if (gI x16 105 (ix (gI s 26 (ix v2)))) = 0 then (if (gI x16 105 (ix v2)) = 0 then (0 : Int32) else (1 : Int32)) else (1 : Int32)) (fun (x18 : Int32) => (lp_Eyes_explain_72 n (v2 + (-1)) (sI (sI (sI (sI x16 104 (ix (gI s 26 (ix v2))) x17) 105 (ix (gI s 26 (ix v2))) x18) 106 (ix (gI s 26 (ix v2))) (if ((gI x16 106 (ix (gI s 26 (ix v2)))) + (gI x16 108 (ix v2))) < (1000 : Int32) then ((gI x16 106 (ix (gI s 26 (ix v2)))) + (gI x16 108 (ix v2))) else (1000 : Int32))) 107 (ix (gI s 26 (ix v2))) ((gI x16 107 (ix (gI s 26 (ix v2)))) * (gI x16 109 (ix v2))))))))))))))))))
def okl_Eyes_explain_72  : Nat → Int32 → mS → Prop
  | 0, v2, s => False
  | n + 1, v2, s => (if v2 ≤ 0 then True else (mm_inb v2 16 = true ∧ (True ∧ mq_letP (f_Net_hasPipe v2 s) (fun (x14 : Int32) => (if x14 = 0 then (okl_Eyes_explain_72 n (v2 + (-1)) s) else (True ∧ mq_letP (f_Net_has (gI s 26 (ix v2)) s) (fun (x15 : Int32) => (if x15 = 0 then (okl_Eyes_explain_72 n (v2 + (-1)) s) else (ok_Eyes_weigh v2 s ∧ mq_letP (f_Eyes_weigh v2 s) (fun (x16 : mS) => (mm_inb (gI s 26 (ix v2)) 16 = true ∧ ((if (gI x16 104 (ix (gI s 26 (ix v2)))) = 0 then (mm_inb v2 16 = true ∧ True) else True) ∧ mq_letP (if (gI x16 104 (ix (gI s 26 (ix v2)))) = 0 then (if (gI x16 104 (ix v2)) = 0 then (0 : Int32) else (1 : Int32)) else (1 : Int32)) (fun (x17 : Int32) => ((mm_inb (gI s 26 (ix v2)) 16 && mm_bit x17) = true ∧ (mm_inb (gI s 26 (ix v2)) 16 = true ∧ ((if (gI x16 105 (ix (gI s 26 (ix v2)))) = 0 then (mm_inb v2 16 = true ∧ True) else True) ∧ mq_letP (if (gI x16 105 (ix (gI s 26 (ix v2)))) = 0 then (if (gI x16 105 (ix v2)) = 0 then (0 : Int32) else (1 : Int32)) else (1 : Int32)) (fun (x18 : Int32) => ((mm_inb (gI s 26 (ix v2)) 16 && mm_bit x18) = true ∧ (mm_inb (gI s 26 (ix v2)) 16 = true ∧ (mm_inb v2 16 = true ∧ (mm_inb (gI s 26 (ix v2)) 16 = true ∧ (mm_inb (gI s 26 (ix v2)) 16 = true ∧ (mm_inb v2 16 = true ∧ (mm_inb (gI s 26 (ix v2)) 16 = true ∧ (okl_Eyes_explain_72 n (v2 + (-1)) (sI (sI (sI (sI x16 104 (ix (gI s 26 (ix v2))) x17) 105 (ix (gI s 26 (ix v2))) x18) 106 (ix (gI s 26 (ix v2))) (if ((gI x16 106 (ix (gI s 26 (ix v2)))) + (gI x16 108 (ix v2))) < (1000 : Int32) then ((gI x16 106 (ix (gI s 26 (ix v2)))) + (gI x16 108 (ix v2))) else (1000 : Int32))) 107 (ix (gI s 26 (ix v2))) ((gI x16 107 (ix (gI s 26 (ix v2)))) * (gI x16 109 (ix v2)))))))))))))))))))))))))))))
set_option maxRecDepth 4000 in
theorem tl_Eyes_explain_72 {len : Nat} {xs : Nat → Int32}  (d : Nat)   {T : Option mm_R} (K : Int32 × mS → Prop) (hX : ∀ r, K r → ∀ (o3 : Option Value), mm_fix (mm_X len xs) mm_Y (mm_call (mm_X len xs) mm_Y (d + 3)) (mm_look mc_Eyes_explain) (211, [some (.ref 102), some (.ref 25), some (.int r.1), o3], [], mT r.2) = T) : ∀ (n : Nat), ∀ (v2 : Int32) (o3 : Option Value) (s : mS), okl_Eyes_explain_72 n v2 s → K (lp_Eyes_explain_72 n v2 s) → mm_fix (mm_X len xs) mm_Y (mm_call (mm_X len xs) mm_Y (d + 3)) (mm_look mc_Eyes_explain) (72, [some (.ref 102), some (.ref 25), some (.int v2), o3], [], mT s) = T := by
  intro n
  induction n with
  | zero => intro v2 o3 s; exact fun h => h.elim
  | succ n ih =>
    intro v2 o3 s
    rw [okl_Eyes_explain_72, lp_Eyes_explain_72]
    refine w_go K 1 (c' := (73, [some (.ref 102), some (.ref 25), some (.int v2), o3], [.int v2], mT s)) rfl ?_
    refine w_zle K rfl (fun _ => ?_) (fun _ => ?_)
    · refine w_go K 0 (c' := (211, [some (.ref 102), some (.ref 25), some (.int v2), o3], [], mT s)) rfl ?_
      exact fun _ b => hX _ b _
    · refine w_go K 3 (c' := (81, [some (.ref 102), some (.ref 25), some (.int v2), o3], [.int v2, .ref 26], mT s)) rfl ?_
      refine w_ck K (st_iL rfl rfl) ?_
      refine w_go K 3 (c' := (85, [some (.ref 102), some (.ref 25), some (.int v2), some (.int (gI s 26 (ix v2)))], [.int v2, .ref 25], mT s)) rfl ?_
      refine w_callL K (E := f_Net_hasPipe v2 s) (g := fun (x14 : Int32) => (some (.int x14), mT s)) rfl (m_Net_hasPipe (len := len) (xs := xs) (d + 1) v2 s) (fun x14 => ?_)
      refine w_go K 0 (c' := (88, [some (.ref 102), some (.ref 25), some (.int v2), some (.int (gI s 26 (ix v2)))], [.int x14], mT s)) rfl ?_
      refine w_zeq K rfl (fun _ => ?_) (fun _ => ?_)
      · refine w_go K 2 (c' := (72, [some (.ref 102), some (.ref 25), some (.int (v2 + (-1))), some (.int (gI s 26 (ix v2)))], [], mT s)) rfl ?_
        exact fun a b => ih (v2 + (-1)) _ s a b
      · refine w_go K 2 (c' := (93, [some (.ref 102), some (.ref 25), some (.int v2), some (.int (gI s 26 (ix v2)))], [.int (gI s 26 (ix v2)), .ref 25], mT s)) rfl ?_
        refine w_callL K (E := f_Net_has (gI s 26 (ix v2)) s) (g := fun (x15 : Int32) => (some (.int x15), mT s)) rfl (m_Net_has (len := len) (xs := xs) (d + 2) (gI s 26 (ix v2)) s) (fun x15 => ?_)
        refine w_go K 0 (c' := (96, [some (.ref 102), some (.ref 25), some (.int v2), some (.int (gI s 26 (ix v2)))], [.int x15], mT s)) rfl ?_
        refine w_zne K rfl (fun _ => ?_) (fun _ => ?_)
        · refine w_go K 3 (c' := (72, [some (.ref 102), some (.ref 25), some (.int (v2 + (-1))), some (.int (gI s 26 (ix v2)))], [], mT s)) rfl ?_
          exact fun a b => ih (v2 + (-1)) _ s a b
        · refine w_go K 2 (c' := (104, [some (.ref 102), some (.ref 25), some (.int v2), some (.int (gI s 26 (ix v2)))], [.int v2, .ref 102], mT s)) rfl ?_
          refine w_callL K (E := f_Eyes_weigh v2 s) (g := fun (x16 : mS) => (none, mT x16)) rfl (m_Eyes_weigh (len := len) (xs := xs) (d + 2) v2 s) (fun x16 => ?_)
          refine w_go K 6 (c' := (117, [some (.ref 102), some (.ref 25), some (.int v2), some (.int (gI s 26 (ix v2)))], [.int (gI s 26 (ix v2)), .ref 104, .int (gI s 26 (ix v2)), .ref 104], mT x16)) rfl ?_
          refine w_ck K (st_bL rfl rfl) ?_
          refine w_go K 0 (c' := (118, [some (.ref 102), some (.ref 25), some (.int v2), some (.int (gI s 26 (ix v2)))], [.int (gI x16 104 (ix (gI s 26 (ix v2)))), .int (gI s 26 (ix v2)), .ref 104], mT x16)) rfl ?_
          refine w_join K (fun (x17 : Int32) => mm_fix (mm_X len xs) mm_Y (mm_call (mm_X len xs) mm_Y (d + 3)) (mm_look mc_Eyes_explain) (135, [some (.ref 102), some (.ref 25), some (.int v2), some (.int (gI s 26 (ix v2)))], [.int x17, .int (gI s 26 (ix v2)), .ref 104], mT x16) = T) (fun K hJ => ?_) (fun x17 h1 h2 => ?_)
          · refine w_go K 0 (c' := (118, [some (.ref 102), some (.ref 25), some (.int v2), some (.int (gI s 26 (ix v2)))], [.int (gI x16 104 (ix (gI s 26 (ix v2)))), .int (gI s 26 (ix v2)), .ref 104], mT x16)) rfl ?_
            refine w_zne K rfl (fun _ => ?_) (fun _ => ?_)
            · refine w_go K 3 (c' := (126, [some (.ref 102), some (.ref 25), some (.int v2), some (.int (gI s 26 (ix v2)))], [.int v2, .ref 104, .int (gI s 26 (ix v2)), .ref 104], mT x16)) rfl ?_
              refine w_ck K (st_bL rfl rfl) ?_
              refine w_go K 0 (c' := (127, [some (.ref 102), some (.ref 25), some (.int v2), some (.int (gI s 26 (ix v2)))], [.int (gI x16 104 (ix v2)), .int (gI s 26 (ix v2)), .ref 104], mT x16)) rfl ?_
              refine w_zeqT K rfl (fun _ => ?_) (fun _ => ?_)
              · refine w_go K 1 (c' := (135, [some (.ref 102), some (.ref 25), some (.int v2), some (.int (gI s 26 (ix v2)))], [.int 0, .int (gI s 26 (ix v2)), .ref 104], mT x16)) rfl ?_
                exact fun _ h => hJ _ h
              · refine w_go K 2 (c' := (135, [some (.ref 102), some (.ref 25), some (.int v2), some (.int (gI s 26 (ix v2)))], [.int 1, .int (gI s 26 (ix v2)), .ref 104], mT x16)) rfl ?_
                exact fun _ h => hJ _ h
            · refine w_go K 2 (c' := (135, [some (.ref 102), some (.ref 25), some (.int v2), some (.int (gI s 26 (ix v2)))], [.int 1, .int (gI s 26 (ix v2)), .ref 104], mT x16)) rfl ?_
              exact fun _ h => hJ _ h
          · revert h1 h2
            refine w_go K 0 (c' := (135, [some (.ref 102), some (.ref 25), some (.int v2), some (.int (gI s 26 (ix v2)))], [.int x17, .int (gI s 26 (ix v2)), .ref 104], mT x16)) rfl ?_
            refine w_ck K (st_bS rfl rfl) ?_
            refine w_go K 6 (c' := (146, [some (.ref 102), some (.ref 25), some (.int v2), some (.int (gI s 26 (ix v2)))], [.int (gI s 26 (ix v2)), .ref 105, .int (gI s 26 (ix v2)), .ref 105], mT (sI x16 104 (ix (gI s 26 (ix v2))) x17))) rfl ?_
            refine w_ck K (st_bL rfl rfl) ?_
            refine w_go K 0 (c' := (147, [some (.ref 102), some (.ref 25), some (.int v2), some (.int (gI s 26 (ix v2)))], [.int (gI x16 105 (ix (gI s 26 (ix v2)))), .int (gI s 26 (ix v2)), .ref 105], mT (sI x16 104 (ix (gI s 26 (ix v2))) x17))) rfl ?_
            refine w_join K (fun (x18 : Int32) => mm_fix (mm_X len xs) mm_Y (mm_call (mm_X len xs) mm_Y (d + 3)) (mm_look mc_Eyes_explain) (164, [some (.ref 102), some (.ref 25), some (.int v2), some (.int (gI s 26 (ix v2)))], [.int x18, .int (gI s 26 (ix v2)), .ref 105], mT (sI x16 104 (ix (gI s 26 (ix v2))) x17)) = T) (fun K hJ => ?_) (fun x18 h1 h2 => ?_)
            · refine w_go K 0 (c' := (147, [some (.ref 102), some (.ref 25), some (.int v2), some (.int (gI s 26 (ix v2)))], [.int (gI x16 105 (ix (gI s 26 (ix v2)))), .int (gI s 26 (ix v2)), .ref 105], mT (sI x16 104 (ix (gI s 26 (ix v2))) x17))) rfl ?_
              refine w_zne K rfl (fun _ => ?_) (fun _ => ?_)
              · refine w_go K 3 (c' := (155, [some (.ref 102), some (.ref 25), some (.int v2), some (.int (gI s 26 (ix v2)))], [.int v2, .ref 105, .int (gI s 26 (ix v2)), .ref 105], mT (sI x16 104 (ix (gI s 26 (ix v2))) x17))) rfl ?_
                refine w_ck K (st_bL rfl rfl) ?_
                refine w_go K 0 (c' := (156, [some (.ref 102), some (.ref 25), some (.int v2), some (.int (gI s 26 (ix v2)))], [.int (gI x16 105 (ix v2)), .int (gI s 26 (ix v2)), .ref 105], mT (sI x16 104 (ix (gI s 26 (ix v2))) x17))) rfl ?_
                refine w_zeqT K rfl (fun _ => ?_) (fun _ => ?_)
                · refine w_go K 1 (c' := (164, [some (.ref 102), some (.ref 25), some (.int v2), some (.int (gI s 26 (ix v2)))], [.int 0, .int (gI s 26 (ix v2)), .ref 105], mT (sI x16 104 (ix (gI s 26 (ix v2))) x17))) rfl ?_
                  exact fun _ h => hJ _ h
                · refine w_go K 2 (c' := (164, [some (.ref 102), some (.ref 25), some (.int v2), some (.int (gI s 26 (ix v2)))], [.int 1, .int (gI s 26 (ix v2)), .ref 105], mT (sI x16 104 (ix (gI s 26 (ix v2))) x17))) rfl ?_
                  exact fun _ h => hJ _ h
              · refine w_go K 2 (c' := (164, [some (.ref 102), some (.ref 25), some (.int v2), some (.int (gI s 26 (ix v2)))], [.int 1, .int (gI s 26 (ix v2)), .ref 105], mT (sI x16 104 (ix (gI s 26 (ix v2))) x17))) rfl ?_
                exact fun _ h => hJ _ h
            · revert h1 h2
              refine w_go K 0 (c' := (164, [some (.ref 102), some (.ref 25), some (.int v2), some (.int (gI s 26 (ix v2)))], [.int x18, .int (gI s 26 (ix v2)), .ref 105], mT (sI x16 104 (ix (gI s 26 (ix v2))) x17))) rfl ?_
              refine w_ck K (st_bS rfl rfl) ?_
              refine w_go K 7 (c' := (178, [some (.ref 102), some (.ref 25), some (.int v2), some (.int (gI s 26 (ix v2)))], [.int (gI s 26 (ix v2)), .ref 106, .int 1000, .int (gI s 26 (ix v2)), .ref 106], mT (sI (sI x16 104 (ix (gI s 26 (ix v2))) x17) 105 (ix (gI s 26 (ix v2))) x18))) rfl ?_
              refine w_ck K (st_iL rfl rfl) ?_
              refine w_go K 3 (c' := (184, [some (.ref 102), some (.ref 25), some (.int v2), some (.int (gI s 26 (ix v2)))], [.int v2, .ref 108, .int (gI x16 106 (ix (gI s 26 (ix v2)))), .int 1000, .int (gI s 26 (ix v2)), .ref 106], mT (sI (sI x16 104 (ix (gI s 26 (ix v2))) x17) 105 (ix (gI s 26 (ix v2))) x18))) rfl ?_
              refine w_ck K (st_iL rfl rfl) ?_
              refine w_go K 2 (c' := (189, [some (.ref 102), some (.ref 25), some (.int v2), some (.int (gI s 26 (ix v2)))], [.int (if ((gI x16 106 (ix (gI s 26 (ix v2)))) + (gI x16 108 (ix v2))) < (1000 : Int32) then ((gI x16 106 (ix (gI s 26 (ix v2)))) + (gI x16 108 (ix v2))) else (1000 : Int32)), .int (gI s 26 (ix v2)), .ref 106], mT (sI (sI x16 104 (ix (gI s 26 (ix v2))) x17) 105 (ix (gI s 26 (ix v2))) x18))) rfl ?_
              refine w_ck K (st_iS rfl rfl) ?_
              refine w_go K 4 (c' := (196, [some (.ref 102), some (.ref 25), some (.int v2), some (.int (gI s 26 (ix v2)))], [.int (gI s 26 (ix v2)), .ref 107, .int (gI s 26 (ix v2)), .ref 107], mT (sI (sI (sI x16 104 (ix (gI s 26 (ix v2))) x17) 105 (ix (gI s 26 (ix v2))) x18) 106 (ix (gI s 26 (ix v2))) (if ((gI x16 106 (ix (gI s 26 (ix v2)))) + (gI x16 108 (ix v2))) < (1000 : Int32) then ((gI x16 106 (ix (gI s 26 (ix v2)))) + (gI x16 108 (ix v2))) else (1000 : Int32))))) rfl ?_
              refine w_ck K (st_iL rfl rfl) ?_
              refine w_go K 3 (c' := (202, [some (.ref 102), some (.ref 25), some (.int v2), some (.int (gI s 26 (ix v2)))], [.int v2, .ref 109, .int (gI x16 107 (ix (gI s 26 (ix v2)))), .int (gI s 26 (ix v2)), .ref 107], mT (sI (sI (sI x16 104 (ix (gI s 26 (ix v2))) x17) 105 (ix (gI s 26 (ix v2))) x18) 106 (ix (gI s 26 (ix v2))) (if ((gI x16 106 (ix (gI s 26 (ix v2)))) + (gI x16 108 (ix v2))) < (1000 : Int32) then ((gI x16 106 (ix (gI s 26 (ix v2)))) + (gI x16 108 (ix v2))) else (1000 : Int32))))) rfl ?_
              refine w_ck K (st_iL rfl rfl) ?_
              refine w_go K 1 (c' := (204, [some (.ref 102), some (.ref 25), some (.int v2), some (.int (gI s 26 (ix v2)))], [.int ((gI x16 107 (ix (gI s 26 (ix v2)))) * (gI x16 109 (ix v2))), .int (gI s 26 (ix v2)), .ref 107], mT (sI (sI (sI x16 104 (ix (gI s 26 (ix v2))) x17) 105 (ix (gI s 26 (ix v2))) x18) 106 (ix (gI s 26 (ix v2))) (if ((gI x16 106 (ix (gI s 26 (ix v2)))) + (gI x16 108 (ix v2))) < (1000 : Int32) then ((gI x16 106 (ix (gI s 26 (ix v2)))) + (gI x16 108 (ix v2))) else (1000 : Int32))))) rfl ?_
              refine w_ck K (st_iS rfl rfl) ?_
              refine w_go K 2 (c' := (72, [some (.ref 102), some (.ref 25), some (.int (v2 + (-1))), some (.int (gI s 26 (ix v2)))], [], mT (sI (sI (sI (sI x16 104 (ix (gI s 26 (ix v2))) x17) 105 (ix (gI s 26 (ix v2))) x18) 106 (ix (gI s 26 (ix v2))) (if ((gI x16 106 (ix (gI s 26 (ix v2)))) + (gI x16 108 (ix v2))) < (1000 : Int32) then ((gI x16 106 (ix (gI s 26 (ix v2)))) + (gI x16 108 (ix v2))) else (1000 : Int32))) 107 (ix (gI s 26 (ix v2))) ((gI x16 107 (ix (gI s 26 (ix v2)))) * (gI x16 109 (ix v2)))))) rfl ?_
              exact fun a b => ih (v2 + (-1)) _ (sI (sI (sI (sI x16 104 (ix (gI s 26 (ix v2))) x17) 105 (ix (gI s 26 (ix v2))) x18) 106 (ix (gI s 26 (ix v2))) (if ((gI x16 106 (ix (gI s 26 (ix v2)))) + (gI x16 108 (ix v2))) < (1000 : Int32) then ((gI x16 106 (ix (gI s 26 (ix v2)))) + (gI x16 108 (ix v2))) else (1000 : Int32))) 107 (ix (gI s 26 (ix v2))) ((gI x16 107 (ix (gI s 26 (ix v2)))) * (gI x16 109 (ix v2)))) a b
def f_Eyes_explain  (s : mS) : Int32 × mS := (mq_let (lp_Eyes_explain_2 mm_N (0 : Int32) s) (fun (x12 : Int32 × mS) => (mq_let (lp_Eyes_explain_72 mm_N (15 : Int32) x12.2) (fun (x19 : Int32 × mS) => (if (gI x19.2 106 0) < 1000 then (mq_let (f_Eyes_reach x19.2) (fun (x21 : mS) => (1, x21))) else (0, x19.2))))))
def ok_Eyes_explain  (s : mS) : Prop := (okl_Eyes_explain_2 mm_N (0 : Int32) s ∧ mq_letP (lp_Eyes_explain_2 mm_N (0 : Int32) s) (fun (x12 : Int32 × mS) => (okl_Eyes_explain_72 mm_N (15 : Int32) x12.2 ∧ mq_letP (lp_Eyes_explain_72 mm_N (15 : Int32) x12.2) (fun (x19 : Int32 × mS) => (if (gI x19.2 106 0) < 1000 then (ok_Eyes_reach x19.2 ∧ mq_letP (f_Eyes_reach x19.2) (fun (x21 : mS) => True)) else True)))))
set_option maxRecDepth 4000 in
theorem t_Eyes_explain {len : Nat} {xs : Nat → Int32}  (d : Nat)  (s : mS) {T : Option mm_R} (K : Int32 × mS → Prop) (hK : ∀ t, K t → some (some (.int t.1), mT t.2) = T) : ok_Eyes_explain s → K (f_Eyes_explain s) → mm_fix (mm_X len xs) mm_Y (mm_call (mm_X len xs) mm_Y (d + 3)) (mm_look mc_Eyes_explain) (0, [some (.ref 102), some (.ref 25), none, none], [], mT s) = T := by
  unfold ok_Eyes_explain f_Eyes_explain
  refine w_go K 2 (c' := (2, [some (.ref 102), some (.ref 25), some (.int 0), none], [], mT s)) rfl ?_
  refine w_join K (fun (x12 : Int32 × mS) => ∀ (q13 : Option Value), mm_fix (mm_X len xs) mm_Y (mm_call (mm_X len xs) mm_Y (d + 3)) (mm_look mc_Eyes_explain) (69, [some (.ref 102), some (.ref 25), some (.int x12.1), q13], [], mT x12.2) = T) (fun K hJ => tl_Eyes_explain_2 (len := len) (xs := xs) d (T := T) K hJ mm_N (0 : Int32) _ s) (fun x12 h1 h2 q13 => ?_)
  revert h1 h2
  refine w_go K 2 (c' := (72, [some (.ref 102), some (.ref 25), some (.int 15), q13], [], mT x12.2)) rfl ?_
  refine w_join K (fun (x19 : Int32 × mS) => ∀ (q20 : Option Value), mm_fix (mm_X len xs) mm_Y (mm_call (mm_X len xs) mm_Y (d + 3)) (mm_look mc_Eyes_explain) (211, [some (.ref 102), some (.ref 25), some (.int x19.1), q20], [], mT x19.2) = T) (fun K hJ => tl_Eyes_explain_72 (len := len) (xs := xs) d (T := T) K hJ mm_N (15 : Int32) _ x12.2) (fun x19 h1 h2 q20 => ?_)
  revert h1 h2
  refine w_go K 5 (c' := (220, [some (.ref 102), some (.ref 25), some (.int x19.1), q20], [.int 1000, .int (gI x19.2 106 0)], mT x19.2)) rfl ?_
  refine w_ilt K rfl (fun _ => ?_) (fun _ => ?_)
  · refine w_go K 2 (c' := (227, [some (.ref 102), some (.ref 25), some (.int x19.1), q20], [.ref 25, .ref 102], mT x19.2)) rfl ?_
    refine w_callL K (E := f_Eyes_reach x19.2) (g := fun (x21 : mS) => (none, mT x21)) rfl (m_Eyes_reach (len := len) (xs := xs) (d + 0) x19.2) (fun x21 => ?_)
    refine w_go K 1 (c' := (231, [some (.ref 102), some (.ref 25), some (.int x19.1), q20], [.int 1], mT x21)) rfl ?_
    exact w_ret K rfl (hK _)
  · refine w_go K 1 (c' := (224, [some (.ref 102), some (.ref 25), some (.int x19.1), q20], [.int 0], mT x19.2)) rfl ?_
    exact w_ret K rfl (hK _)
theorem m_Eyes_explain {len : Nat} {xs : Nat → Int32}  (d : Nat)  (s : mS) : ok_Eyes_explain s → mm_call (mm_X len xs) mm_Y (d + 4) 142 [.ref 102, .ref 25] (mT s) = some (some (.int (f_Eyes_explain s).1), mT (f_Eyes_explain s).2) := fun h => t_Eyes_explain (len := len) (xs := xs) d s (fun t => (some (some (.int t.1), mT t.2) : Option mm_R) = some (some (.int (f_Eyes_explain s).1), mT (f_Eyes_explain s).2)) (fun _ h => h) h rfl
def f_Eyes_fewest  (s : mS) : Int32 := (gI s 106 0)
set_option maxRecDepth 4000 in
theorem t_Eyes_fewest {len : Nat} {xs : Nat → Int32}  (d : Nat)  (s : mS) {T : Option mm_R} (K : Int32 → Prop) (hK : ∀ t, K t → some (some (.int t), mT s) = T) : True → K (f_Eyes_fewest s) → mm_fix (mm_X len xs) mm_Y (mm_call (mm_X len xs) mm_Y (d + 0)) (mm_look mc_Eyes_fewest) (0, [some (.ref 102)], [], mT s) = T := by
  unfold f_Eyes_fewest
  refine w_go K 4 (c' := (6, [some (.ref 102)], [.int (gI s 106 0)], mT s)) rfl ?_
  exact w_ret K rfl (hK _)
theorem m_Eyes_fewest {len : Nat} {xs : Nat → Int32}  (d : Nat)  (s : mS) : True → mm_call (mm_X len xs) mm_Y (d + 1) 145 [.ref 102] (mT s) = some (some (.int (f_Eyes_fewest s)), mT s) := fun h => t_Eyes_fewest (len := len) (xs := xs) d s (fun t => (some (some (.int t), mT s) : Option mm_R) = some (some (.int (f_Eyes_fewest s)), mT s)) (fun _ h => h) h rfl
def f_Eyes_howManySets  (s : mS) : Int32 := (gI s 107 0)
set_option maxRecDepth 4000 in
theorem t_Eyes_howManySets {len : Nat} {xs : Nat → Int32}  (d : Nat)  (s : mS) {T : Option mm_R} (K : Int32 → Prop) (hK : ∀ t, K t → some (some (.int t), mT s) = T) : True → K (f_Eyes_howManySets s) → mm_fix (mm_X len xs) mm_Y (mm_call (mm_X len xs) mm_Y (d + 0)) (mm_look mc_Eyes_howManySets) (0, [some (.ref 102)], [], mT s) = T := by
  unfold f_Eyes_howManySets
  refine w_go K 4 (c' := (6, [some (.ref 102)], [.int (gI s 107 0)], mT s)) rfl ?_
  exact w_ret K rfl (hK _)
theorem m_Eyes_howManySets {len : Nat} {xs : Nat → Int32}  (d : Nat)  (s : mS) : True → mm_call (mm_X len xs) mm_Y (d + 1) 146 [.ref 102] (mT s) = some (some (.int (f_Eyes_howManySets s)), mT s) := fun h => t_Eyes_howManySets (len := len) (xs := xs) d s (fun t => (some (some (.int t), mT s) : Option mm_R) = some (some (.int (f_Eyes_howManySets s)), mT s)) (fun _ h => h) h rfl
def f_Eyes_sharePipe (a1 : Int32) (s : mS) : Int32 := (if a1 < 1 then 0 else (if (16 : Int32) ≤ a1 then 0 else (if (gI s 104 (ix a1)) = 0 then 0 else (if (gI s 105 (ix a1)) = 0 then (if (gI s 108 (ix a1)) = 1 then (if (gI s 110 (ix a1)) = 0 then 0 else (if (gI s 110 (ix a1)) = (gI s 107 0) then 2 else 1)) else 0) else 0))))
def ok_Eyes_sharePipe (a1 : Int32) (s : mS) : Prop := (if a1 < 1 then True else (if (16 : Int32) ≤ a1 then True else (mm_inb a1 16 = true ∧ (if (gI s 104 (ix a1)) = 0 then True else (mm_inb a1 16 = true ∧ (if (gI s 105 (ix a1)) = 0 then (mm_inb a1 16 = true ∧ (if (gI s 108 (ix a1)) = 1 then (mm_inb a1 16 = true ∧ (if (gI s 110 (ix a1)) = 0 then True else (mm_inb a1 16 = true ∧ True))) else True)) else True))))))
set_option maxRecDepth 4000 in
theorem t_Eyes_sharePipe {len : Nat} {xs : Nat → Int32}  (d : Nat) (a1 : Int32) (s : mS) {T : Option mm_R} (K : Int32 → Prop) (hK : ∀ t, K t → some (some (.int t), mT s) = T) : ok_Eyes_sharePipe a1 s → K (f_Eyes_sharePipe a1 s) → mm_fix (mm_X len xs) mm_Y (mm_call (mm_X len xs) mm_Y (d + 0)) (mm_look mc_Eyes_sharePipe) (0, [some (.ref 102), some (.int a1)], [], mT s) = T := by
  unfold ok_Eyes_sharePipe f_Eyes_sharePipe
  refine w_go K 2 (c' := (2, [some (.ref 102), some (.int a1)], [.int 1, .int a1], mT s)) rfl ?_
  refine w_ilt K rfl (fun _ => ?_) (fun _ => ?_)
  · refine w_go K 1 (c' := (49, [some (.ref 102), some (.int a1)], [.int 0], mT s)) rfl ?_
    exact w_ret K rfl (hK _)
  · refine w_go K 2 (c' := (8, [some (.ref 102), some (.int a1)], [.int 16, .int a1], mT s)) rfl ?_
    refine w_ige K rfl (fun _ => ?_) (fun _ => ?_)
    · refine w_go K 1 (c' := (49, [some (.ref 102), some (.int a1)], [.int 0], mT s)) rfl ?_
      exact w_ret K rfl (hK _)
    · refine w_go K 3 (c' := (16, [some (.ref 102), some (.int a1)], [.int a1, .ref 104], mT s)) rfl ?_
      refine w_ck K (st_bL rfl rfl) ?_
      refine w_go K 0 (c' := (17, [some (.ref 102), some (.int a1)], [.int (gI s 104 (ix a1))], mT s)) rfl ?_
      refine w_zeq K rfl (fun _ => ?_) (fun _ => ?_)
      · refine w_go K 1 (c' := (49, [some (.ref 102), some (.int a1)], [.int 0], mT s)) rfl ?_
        exact w_ret K rfl (hK _)
      · refine w_go K 3 (c' := (25, [some (.ref 102), some (.int a1)], [.int a1, .ref 105], mT s)) rfl ?_
        refine w_ck K (st_bL rfl rfl) ?_
        refine w_go K 0 (c' := (26, [some (.ref 102), some (.int a1)], [.int (gI s 105 (ix a1))], mT s)) rfl ?_
        refine w_zne K rfl (fun _ => ?_) (fun _ => ?_)
        · refine w_go K 3 (c' := (34, [some (.ref 102), some (.int a1)], [.int a1, .ref 108], mT s)) rfl ?_
          refine w_ck K (st_iL rfl rfl) ?_
          refine w_go K 1 (c' := (36, [some (.ref 102), some (.int a1)], [.int 1, .int (gI s 108 (ix a1))], mT s)) rfl ?_
          refine w_ine K rfl (fun _ => ?_) (fun _ => ?_)
          · refine w_go K 3 (c' := (44, [some (.ref 102), some (.int a1)], [.int a1, .ref 110], mT s)) rfl ?_
            refine w_ck K (st_iL rfl rfl) ?_
            refine w_go K 0 (c' := (45, [some (.ref 102), some (.int a1)], [.int (gI s 110 (ix a1))], mT s)) rfl ?_
            refine w_zne K rfl (fun _ => ?_) (fun _ => ?_)
            · refine w_go K 1 (c' := (49, [some (.ref 102), some (.int a1)], [.int 0], mT s)) rfl ?_
              exact w_ret K rfl (hK _)
            · refine w_go K 3 (c' := (55, [some (.ref 102), some (.int a1)], [.int a1, .ref 110], mT s)) rfl ?_
              refine w_ck K (st_iL rfl rfl) ?_
              refine w_go K 4 (c' := (62, [some (.ref 102), some (.int a1)], [.int (gI s 107 0), .int (gI s 110 (ix a1))], mT s)) rfl ?_
              refine w_ineT K rfl (fun _ => ?_) (fun _ => ?_)
              · refine w_go K 2 (c' := (70, [some (.ref 102), some (.int a1)], [.int 2], mT s)) rfl ?_
                exact w_ret K rfl (hK _)
              · refine w_go K 1 (c' := (70, [some (.ref 102), some (.int a1)], [.int 1], mT s)) rfl ?_
                exact w_ret K rfl (hK _)
          · refine w_go K 1 (c' := (49, [some (.ref 102), some (.int a1)], [.int 0], mT s)) rfl ?_
            exact w_ret K rfl (hK _)
        · refine w_go K 1 (c' := (49, [some (.ref 102), some (.int a1)], [.int 0], mT s)) rfl ?_
          exact w_ret K rfl (hK _)
theorem m_Eyes_sharePipe {len : Nat} {xs : Nat → Int32}  (d : Nat) (a1 : Int32) (s : mS) : ok_Eyes_sharePipe a1 s → mm_call (mm_X len xs) mm_Y (d + 1) 147 [.ref 102, .int a1] (mT s) = some (some (.int (f_Eyes_sharePipe a1 s)), mT s) := fun h => t_Eyes_sharePipe (len := len) (xs := xs) d a1 s (fun t => (some (some (.int t), mT s) : Option mm_R) = some (some (.int (f_Eyes_sharePipe a1 s)), mT s)) (fun _ h => h) h rfl
def f_G_find (a1 : Int32) (s : mS) : Int32 × mS := (mq_let (f_G_within a1 (0 : Int32) (1 : Int32) s) (fun (x10 : Int32) => (if x10 = 0 then (mq_let (if (10 : Int32) ≤ a1 then (a1 - 10) else ((-1) : Int32)) (fun (x11 : Int32) => (mq_let (f_Net_hasPipe x11 s) (fun (x12 : Int32) => (if x12 = 0 then ((-1), s) else (mq_let (f_Eyes_explain s) (fun (x13 : Int32 × mS) => (if x13.1 = 0 then ((-1), x13.2) else (if a1 = 0 then (mq_let (f_Eyes_fewest x13.2) (fun (x14 : Int32) => (x14, x13.2))) else (if a1 = 1 then (mq_let (f_Eyes_howManySets x13.2) (fun (x15 : Int32) => (x15, x13.2))) else (mq_let (f_Eyes_sharePipe (a1 - 10) x13.2) (fun (x16 : Int32) => (x16, x13.2))))))))))))) else (mq_let (f_Eyes_explain s) (fun (x17 : Int32 × mS) => (if x17.1 = 0 then ((-1), x17.2) else (if a1 = 0 then (mq_let (f_Eyes_fewest x17.2) (fun (x18 : Int32) => (x18, x17.2))) else (if a1 = 1 then (mq_let (f_Eyes_howManySets x17.2) (fun (x19 : Int32) => (x19, x17.2))) else (mq_let (f_Eyes_sharePipe (a1 - 10) x17.2) (fun (x20 : Int32) => (x20, x17.2)))))))))))
def ok_G_find (a1 : Int32) (s : mS) : Prop := (True ∧ mq_letP (f_G_within a1 (0 : Int32) (1 : Int32) s) (fun (x10 : Int32) => (if x10 = 0 then (True ∧ mq_letP (if (10 : Int32) ≤ a1 then (a1 - 10) else ((-1) : Int32)) (fun (x11 : Int32) => (True ∧ mq_letP (f_Net_hasPipe x11 s) (fun (x12 : Int32) => (if x12 = 0 then True else (ok_Eyes_explain s ∧ mq_letP (f_Eyes_explain s) (fun (x13 : Int32 × mS) => (if x13.1 = 0 then True else (if a1 = 0 then True else (if a1 = 1 then True else (ok_Eyes_sharePipe (a1 - 10) x13.2 ∧ mq_letP (f_Eyes_sharePipe (a1 - 10) x13.2) (fun (x16 : Int32) => True)))))))))))) else (ok_Eyes_explain s ∧ mq_letP (f_Eyes_explain s) (fun (x17 : Int32 × mS) => (if x17.1 = 0 then True else (if a1 = 0 then True else (if a1 = 1 then True else (ok_Eyes_sharePipe (a1 - 10) x17.2 ∧ mq_letP (f_Eyes_sharePipe (a1 - 10) x17.2) (fun (x20 : Int32) => True))))))))))
set_option maxRecDepth 4000 in
theorem t_G_find {len : Nat} {xs : Nat → Int32}  (d : Nat) (a1 : Int32) (s : mS) {T : Option mm_R} (K : Int32 × mS → Prop) (hK : ∀ t, K t → some (some (.int t.1), mT t.2) = T) : ok_G_find a1 s → K (f_G_find a1 s) → mm_fix (mm_X len xs) mm_Y (mm_call (mm_X len xs) mm_Y (d + 4)) (mm_look mc_G_find) (0, [some (.ref 0), some (.int a1)], [], mT s) = T := by
  unfold ok_G_find f_G_find
  refine w_go K 3 (c' := (3, [some (.ref 0), some (.int a1)], [.int 1, .int 0, .int a1], mT s)) rfl ?_
  refine w_callL K (E := f_G_within a1 (0 : Int32) (1 : Int32) s) (g := fun (x10 : Int32) => (some (.int x10), mT s)) rfl (m_G_within (len := len) (xs := xs) (d + 3) a1 (0 : Int32) (1 : Int32) s) (fun x10 => ?_)
  refine w_go K 0 (c' := (6, [some (.ref 0), some (.int a1)], [.int x10], mT s)) rfl ?_
  refine w_zne K rfl (fun _ => ?_) (fun _ => ?_)
  · refine w_go K 4 (c' := (16, [some (.ref 0), some (.int a1)], [.int 10, .int a1, .ref 25], mT s)) rfl ?_
    refine w_join K (fun (x11 : Int32) => mm_fix (mm_X len xs) mm_Y (mm_call (mm_X len xs) mm_Y (d + 4)) (mm_look mc_G_find) (27, [some (.ref 0), some (.int a1)], [.int x11, .ref 25], mT s) = T) (fun K hJ => ?_) (fun x11 h1 h2 => ?_)
    · refine w_go K 0 (c' := (16, [some (.ref 0), some (.int a1)], [.int 10, .int a1, .ref 25], mT s)) rfl ?_
      refine w_igeT K rfl (fun _ => ?_) (fun _ => ?_)
      · refine w_go K 3 (c' := (27, [some (.ref 0), some (.int a1)], [.int (a1 - 10), .ref 25], mT s)) rfl ?_
        exact fun _ h => hJ _ h
      · refine w_go K 2 (c' := (27, [some (.ref 0), some (.int a1)], [.int (-1), .ref 25], mT s)) rfl ?_
        exact fun _ h => hJ _ h
    · revert h1 h2
      refine w_go K 0 (c' := (27, [some (.ref 0), some (.int a1)], [.int x11, .ref 25], mT s)) rfl ?_
      refine w_callL K (E := f_Net_hasPipe x11 s) (g := fun (x12 : Int32) => (some (.int x12), mT s)) rfl (m_Net_hasPipe (len := len) (xs := xs) (d + 2) x11 s) (fun x12 => ?_)
      refine w_go K 0 (c' := (30, [some (.ref 0), some (.int a1)], [.int x12], mT s)) rfl ?_
      refine w_zne K rfl (fun _ => ?_) (fun _ => ?_)
      · refine w_go K 1 (c' := (34, [some (.ref 0), some (.int a1)], [.int (-1)], mT s)) rfl ?_
        exact w_ret K rfl (hK _)
      · refine w_go K 4 (c' := (43, [some (.ref 0), some (.int a1)], [.ref 25, .ref 102], mT s)) rfl ?_
        refine w_callL K (E := f_Eyes_explain s) (g := fun (x13 : Int32 × mS) => (some (.int x13.1), mT x13.2)) rfl (m_Eyes_explain (len := len) (xs := xs) (d + 0) s) (fun x13 => ?_)
        refine w_go K 0 (c' := (46, [some (.ref 0), some (.int a1)], [.int x13.1], mT x13.2)) rfl ?_
        refine w_zne K rfl (fun _ => ?_) (fun _ => ?_)
        · refine w_go K 1 (c' := (50, [some (.ref 0), some (.int a1)], [.int (-1)], mT x13.2)) rfl ?_
          exact w_ret K rfl (hK _)
        · refine w_go K 1 (c' := (52, [some (.ref 0), some (.int a1)], [.int a1], mT x13.2)) rfl ?_
          refine w_go K 1 (c' := (mm_sw [(0, 80), (1, 88)] 96 a1, [some (.ref 0), some (.int a1)], [], mT x13.2)) rfl ?_
          refine w_sw K (fun _ => ?_) (fun _ => ?_)
          · refine w_go K 2 (c' := (84, [some (.ref 0), some (.int a1)], [.ref 102], mT x13.2)) rfl ?_
            refine w_callLT K (E := f_Eyes_fewest x13.2) (g := fun (x14 : Int32) => (some (.int x14), mT x13.2)) rfl (m_Eyes_fewest (len := len) (xs := xs) (d + 3) x13.2) (fun x14 => ?_)
            refine w_go K 0 (c' := (87, [some (.ref 0), some (.int a1)], [.int x14], mT x13.2)) rfl ?_
            exact w_ret K rfl (hK _)
          · refine w_sw K (fun _ => ?_) (fun _ => ?_)
            · refine w_go K 2 (c' := (92, [some (.ref 0), some (.int a1)], [.ref 102], mT x13.2)) rfl ?_
              refine w_callLT K (E := f_Eyes_howManySets x13.2) (g := fun (x15 : Int32) => (some (.int x15), mT x13.2)) rfl (m_Eyes_howManySets (len := len) (xs := xs) (d + 3) x13.2) (fun x15 => ?_)
              refine w_go K 0 (c' := (95, [some (.ref 0), some (.int a1)], [.int x15], mT x13.2)) rfl ?_
              exact w_ret K rfl (hK _)
            · refine w_go K 0 (c' := (96, [some (.ref 0), some (.int a1)], [], mT x13.2)) rfl ?_
              refine w_go K 5 (c' := (104, [some (.ref 0), some (.int a1)], [.int (a1 - 10), .ref 102], mT x13.2)) rfl ?_
              refine w_callL K (E := f_Eyes_sharePipe (a1 - 10) x13.2) (g := fun (x16 : Int32) => (some (.int x16), mT x13.2)) rfl (m_Eyes_sharePipe (len := len) (xs := xs) (d + 3) (a1 - 10) x13.2) (fun x16 => ?_)
              refine w_go K 0 (c' := (107, [some (.ref 0), some (.int a1)], [.int x16], mT x13.2)) rfl ?_
              exact w_ret K rfl (hK _)
  · refine w_go K 4 (c' := (43, [some (.ref 0), some (.int a1)], [.ref 25, .ref 102], mT s)) rfl ?_
    refine w_callL K (E := f_Eyes_explain s) (g := fun (x17 : Int32 × mS) => (some (.int x17.1), mT x17.2)) rfl (m_Eyes_explain (len := len) (xs := xs) (d + 0) s) (fun x17 => ?_)
    refine w_go K 0 (c' := (46, [some (.ref 0), some (.int a1)], [.int x17.1], mT x17.2)) rfl ?_
    refine w_zne K rfl (fun _ => ?_) (fun _ => ?_)
    · refine w_go K 1 (c' := (50, [some (.ref 0), some (.int a1)], [.int (-1)], mT x17.2)) rfl ?_
      exact w_ret K rfl (hK _)
    · refine w_go K 1 (c' := (52, [some (.ref 0), some (.int a1)], [.int a1], mT x17.2)) rfl ?_
      refine w_go K 1 (c' := (mm_sw [(0, 80), (1, 88)] 96 a1, [some (.ref 0), some (.int a1)], [], mT x17.2)) rfl ?_
      refine w_sw K (fun _ => ?_) (fun _ => ?_)
      · refine w_go K 2 (c' := (84, [some (.ref 0), some (.int a1)], [.ref 102], mT x17.2)) rfl ?_
        refine w_callLT K (E := f_Eyes_fewest x17.2) (g := fun (x18 : Int32) => (some (.int x18), mT x17.2)) rfl (m_Eyes_fewest (len := len) (xs := xs) (d + 3) x17.2) (fun x18 => ?_)
        refine w_go K 0 (c' := (87, [some (.ref 0), some (.int a1)], [.int x18], mT x17.2)) rfl ?_
        exact w_ret K rfl (hK _)
      · refine w_sw K (fun _ => ?_) (fun _ => ?_)
        · refine w_go K 2 (c' := (92, [some (.ref 0), some (.int a1)], [.ref 102], mT x17.2)) rfl ?_
          refine w_callLT K (E := f_Eyes_howManySets x17.2) (g := fun (x19 : Int32) => (some (.int x19), mT x17.2)) rfl (m_Eyes_howManySets (len := len) (xs := xs) (d + 3) x17.2) (fun x19 => ?_)
          refine w_go K 0 (c' := (95, [some (.ref 0), some (.int a1)], [.int x19], mT x17.2)) rfl ?_
          exact w_ret K rfl (hK _)
        · refine w_go K 0 (c' := (96, [some (.ref 0), some (.int a1)], [], mT x17.2)) rfl ?_
          refine w_go K 5 (c' := (104, [some (.ref 0), some (.int a1)], [.int (a1 - 10), .ref 102], mT x17.2)) rfl ?_
          refine w_callL K (E := f_Eyes_sharePipe (a1 - 10) x17.2) (g := fun (x20 : Int32) => (some (.int x20), mT x17.2)) rfl (m_Eyes_sharePipe (len := len) (xs := xs) (d + 3) (a1 - 10) x17.2) (fun x20 => ?_)
          refine w_go K 0 (c' := (107, [some (.ref 0), some (.int a1)], [.int x20], mT x17.2)) rfl ?_
          exact w_ret K rfl (hK _)
theorem m_G_find {len : Nat} {xs : Nat → Int32}  (d : Nat) (a1 : Int32) (s : mS) : ok_G_find a1 s → mm_call (mm_X len xs) mm_Y (d + 5) 141 [.ref 0, .int a1] (mT s) = some (some (.int (f_G_find a1 s).1), mT (f_G_find a1 s).2) := fun h => t_G_find (len := len) (xs := xs) d a1 s (fun t => (some (some (.int t.1), mT t.2) : Option mm_R) = some (some (.int (f_G_find a1 s).1), mT (f_G_find a1 s).2)) (fun _ h => h) h rfl
def lp_M_bits_4 (a0 : Int32) (s : mS) : Nat → Int32 → Int32 → Int32 × Int32
  | 0, v1, v2 => (v1, v2)
  | n + 1, v1, v2 => (if (16 : Int32) ≤ v2 then (v1, v2) else (lp_M_bits_4 a0 s n (v1 + ((a0 >>> (v2 &&& 31)) &&& 1)) (v2 + 1)))
def okl_M_bits_4 (a0 : Int32) (s : mS) : Nat → Int32 → Int32 → Prop
  | 0, v1, v2 => False
  | n + 1, v1, v2 => (if (16 : Int32) ≤ v2 then True else (okl_M_bits_4 a0 s n (v1 + ((a0 >>> (v2 &&& 31)) &&& 1)) (v2 + 1)))
set_option maxRecDepth 4000 in
theorem tl_M_bits_4 {len : Nat} {xs : Nat → Int32}  (d : Nat) (a0 : Int32) (s : mS) {T : Option mm_R} (K : Int32 × Int32 → Prop) (hX : ∀ r, K r → mm_fix (mm_X len xs) mm_Y (mm_call (mm_X len xs) mm_Y (d + 0)) (mm_look mc_M_bits) (24, [some (.int a0), some (.int r.1), some (.int r.2)], [], mT s) = T) : ∀ (n : Nat), ∀ (v1 : Int32) (v2 : Int32), okl_M_bits_4 a0 s n v1 v2 → K (lp_M_bits_4 a0 s n v1 v2) → mm_fix (mm_X len xs) mm_Y (mm_call (mm_X len xs) mm_Y (d + 0)) (mm_look mc_M_bits) (4, [some (.int a0), some (.int v1), some (.int v2)], [], mT s) = T := by
  intro n
  induction n with
  | zero => intro v1 v2; exact fun h => h.elim
  | succ n ih =>
    intro v1 v2
    rw [okl_M_bits_4, lp_M_bits_4]
    refine w_go K 2 (c' := (7, [some (.int a0), some (.int v1), some (.int v2)], [.int 16, .int v2], mT s)) rfl ?_
    refine w_ige K rfl (fun _ => ?_) (fun _ => ?_)
    · refine w_go K 0 (c' := (24, [some (.int a0), some (.int v1), some (.int v2)], [], mT s)) rfl ?_
      exact fun _ b => hX _ b
    · refine w_go K 10 (c' := (4, [some (.int a0), some (.int (v1 + ((a0 >>> (v2 &&& 31)) &&& 1))), some (.int (v2 + 1))], [], mT s)) rfl ?_
      exact fun a b => ih (v1 + ((a0 >>> (v2 &&& 31)) &&& 1)) (v2 + 1) a b
def f_M_bits (a0 : Int32) (s : mS) : Int32 := (mq_let (lp_M_bits_4 a0 s mm_N (0 : Int32) (0 : Int32)) (fun (x10 : Int32 × Int32) => x10.1))
def ok_M_bits (a0 : Int32) (s : mS) : Prop := (okl_M_bits_4 a0 s mm_N (0 : Int32) (0 : Int32) ∧ mq_letP (lp_M_bits_4 a0 s mm_N (0 : Int32) (0 : Int32)) (fun (x10 : Int32 × Int32) => True))
set_option maxRecDepth 4000 in
theorem t_M_bits {len : Nat} {xs : Nat → Int32}  (d : Nat) (a0 : Int32) (s : mS) {T : Option mm_R} (K : Int32 → Prop) (hK : ∀ t, K t → some (some (.int t), mT s) = T) : ok_M_bits a0 s → K (f_M_bits a0 s) → mm_fix (mm_X len xs) mm_Y (mm_call (mm_X len xs) mm_Y (d + 0)) (mm_look mc_M_bits) (0, [some (.int a0), none, none], [], mT s) = T := by
  unfold ok_M_bits f_M_bits
  refine w_go K 4 (c' := (4, [some (.int a0), some (.int 0), some (.int 0)], [], mT s)) rfl ?_
  refine w_join K (fun (x10 : Int32 × Int32) => mm_fix (mm_X len xs) mm_Y (mm_call (mm_X len xs) mm_Y (d + 0)) (mm_look mc_M_bits) (24, [some (.int a0), some (.int x10.1), some (.int x10.2)], [], mT s) = T) (fun K hJ => tl_M_bits_4 (len := len) (xs := xs) d a0 s (T := T) K hJ mm_N (0 : Int32) (0 : Int32)) (fun x10 h1 h2 => ?_)
  revert h1 h2
  refine w_go K 1 (c' := (25, [some (.int a0), some (.int x10.1), some (.int x10.2)], [.int x10.1], mT s)) rfl ?_
  exact w_ret K rfl (hK _)
theorem m_M_bits {len : Nat} {xs : Nat → Int32}  (d : Nat) (a0 : Int32) (s : mS) : ok_M_bits a0 s → mm_call (mm_X len xs) mm_Y (d + 1) 244 [.int a0] (mT s) = some (some (.int (f_M_bits a0 s)), mT s) := fun h => t_M_bits (len := len) (xs := xs) d a0 s (fun t => (some (some (.int t), mT s) : Option mm_R) = some (some (.int (f_M_bits a0 s)), mT s)) (fun _ h => h) h rfl
def lp_M_explains_15 (a1 : Int32) (a2 : Int32) (s : mS) : Nat → Int32 → Int32 → Int32 × Int32
  | 0, v3, v4 => (v3, v4)
  | n + 1, v3, v4 => (if v4 ≤ 0 then (v3, v4) else (if v3 = 0 then (if ((a1 >>> (v4 &&& 31)) &&& 1) = 1 then (lp_M_explains_15 a1 a2 s n (1 : Int32) (gI s 127 (ix v4))) else (lp_M_explains_15 a1 a2 s n (0 : Int32) (gI s 127 (ix v4)))) else (lp_M_explains_15 a1 a2 s n (1 : Int32) (gI s 127 (ix v4)))))
def okl_M_explains_15 (a1 : Int32) (a2 : Int32) (s : mS) : Nat → Int32 → Int32 → Prop
  | 0, v3, v4 => False
  | n + 1, v3, v4 => (if v4 ≤ 0 then True else (if v3 = 0 then (if ((a1 >>> (v4 &&& 31)) &&& 1) = 1 then (mm_inb v4 16 = true ∧ (okl_M_explains_15 a1 a2 s n (1 : Int32) (gI s 127 (ix v4)))) else (mm_inb v4 16 = true ∧ (okl_M_explains_15 a1 a2 s n (0 : Int32) (gI s 127 (ix v4))))) else (mm_inb v4 16 = true ∧ (okl_M_explains_15 a1 a2 s n (1 : Int32) (gI s 127 (ix v4))))))
set_option maxRecDepth 4000 in
theorem tl_M_explains_15 {len : Nat} {xs : Nat → Int32}  (d : Nat) (a1 : Int32) (a2 : Int32) (s : mS) {T : Option mm_R} (K : Int32 × Int32 → Prop) (hX : ∀ r, K r → mm_fix (mm_X len xs) mm_Y (mm_call (mm_X len xs) mm_Y (d + 0)) (mm_look mc_M_explains) (52, [some (.ref 116), some (.int a1), some (.int a2), some (.int r.1), some (.int r.2)], [], mT s) = T) : ∀ (n : Nat), ∀ (v3 : Int32) (v4 : Int32), okl_M_explains_15 a1 a2 s n v3 v4 → K (lp_M_explains_15 a1 a2 s n v3 v4) → mm_fix (mm_X len xs) mm_Y (mm_call (mm_X len xs) mm_Y (d + 0)) (mm_look mc_M_explains) (15, [some (.ref 116), some (.int a1), some (.int a2), some (.int v3), some (.int v4)], [], mT s) = T := by
  intro n
  induction n with
  | zero => intro v3 v4; exact fun h => h.elim
  | succ n ih =>
    intro v3 v4
    rw [okl_M_explains_15, lp_M_explains_15]
    refine w_go K 1 (c' := (17, [some (.ref 116), some (.int a1), some (.int a2), some (.int v3), some (.int v4)], [.int v4], mT s)) rfl ?_
    refine w_zle K rfl (fun _ => ?_) (fun _ => ?_)
    · refine w_go K 0 (c' := (52, [some (.ref 116), some (.int a1), some (.int a2), some (.int v3), some (.int v4)], [], mT s)) rfl ?_
      exact fun _ b => hX _ b
    · refine w_go K 1 (c' := (21, [some (.ref 116), some (.int a1), some (.int a2), some (.int v3), some (.int v4)], [.int v3], mT s)) rfl ?_
      refine w_zne K rfl (fun _ => ?_) (fun _ => ?_)
      · refine w_go K 6 (c' := (31, [some (.ref 116), some (.int a1), some (.int a2), some (.int v3), some (.int v4)], [.int 1, .int ((a1 >>> (v4 &&& 31)) &&& 1)], mT s)) rfl ?_
        refine w_ine K rfl (fun _ => ?_) (fun _ => ?_)
        · refine w_go K 6 (c' := (46, [some (.ref 116), some (.int a1), some (.int a2), some (.int 1), some (.int v4)], [.int v4, .ref 127], mT s)) rfl ?_
          refine w_ck K (st_iL rfl rfl) ?_
          refine w_go K 2 (c' := (15, [some (.ref 116), some (.int a1), some (.int a2), some (.int 1), some (.int (gI s 127 (ix v4)))], [], mT s)) rfl ?_
          exact fun a b => ih (1 : Int32) (gI s 127 (ix v4)) a b
        · refine w_go K 5 (c' := (46, [some (.ref 116), some (.int a1), some (.int a2), some (.int 0), some (.int v4)], [.int v4, .ref 127], mT s)) rfl ?_
          refine w_ck K (st_iL rfl rfl) ?_
          refine w_go K 2 (c' := (15, [some (.ref 116), some (.int a1), some (.int a2), some (.int 0), some (.int (gI s 127 (ix v4)))], [], mT s)) rfl ?_
          exact fun a b => ih (0 : Int32) (gI s 127 (ix v4)) a b
      · refine w_go K 6 (c' := (46, [some (.ref 116), some (.int a1), some (.int a2), some (.int 1), some (.int v4)], [.int v4, .ref 127], mT s)) rfl ?_
        refine w_ck K (st_iL rfl rfl) ?_
        refine w_go K 2 (c' := (15, [some (.ref 116), some (.int a1), some (.int a2), some (.int 1), some (.int (gI s 127 (ix v4)))], [], mT s)) rfl ?_
        exact fun a b => ih (1 : Int32) (gI s 127 (ix v4)) a b
def lp_M_explains_2 (a1 : Int32) (s : mS) : Nat → Int32 → Option Int32 × Int32
  | 0, v2 => (none, v2)
  | n + 1, v2 => (if (gI s 116 7) ≤ v2 then (none, v2) else (mq_let (lp_M_explains_15 a1 v2 s mm_N (0 : Int32) v2) (fun (x10 : Int32 × Int32) => (if (gI s 174 (ix v2)) = 0 then (if x10.1 = 0 then (some (0 : Int32), v2) else (if (gI s 174 (ix v2)) = 1 then (if x10.1 = 0 then (lp_M_explains_2 a1 s n (v2 + 1)) else (some (0 : Int32), v2)) else (lp_M_explains_2 a1 s n (v2 + 1)))) else (if (gI s 174 (ix v2)) = 1 then (if x10.1 = 0 then (lp_M_explains_2 a1 s n (v2 + 1)) else (some (0 : Int32), v2)) else (lp_M_explains_2 a1 s n (v2 + 1)))))))
def okl_M_explains_2 (a1 : Int32) (s : mS) : Nat → Int32 → Prop
  | 0, v2 => False
  | n + 1, v2 => (if (gI s 116 7) ≤ v2 then True else (okl_M_explains_15 a1 v2 s mm_N (0 : Int32) v2 ∧ mq_letP (lp_M_explains_15 a1 v2 s mm_N (0 : Int32) v2) (fun (x10 : Int32 × Int32) => (mm_inb v2 16 = true ∧ (if (gI s 174 (ix v2)) = 0 then (if x10.1 = 0 then True else (mm_inb v2 16 = true ∧ (if (gI s 174 (ix v2)) = 1 then (if x10.1 = 0 then (okl_M_explains_2 a1 s n (v2 + 1)) else True) else (okl_M_explains_2 a1 s n (v2 + 1))))) else (mm_inb v2 16 = true ∧ (if (gI s 174 (ix v2)) = 1 then (if x10.1 = 0 then (okl_M_explains_2 a1 s n (v2 + 1)) else True) else (okl_M_explains_2 a1 s n (v2 + 1)))))))))
set_option maxRecDepth 4000 in
theorem tl_M_explains_2 {len : Nat} {xs : Nat → Int32}  (d : Nat) (a1 : Int32) (s : mS) {T : Option mm_R} (K : Option Int32 × Int32 → Prop) (hX : ∀ r, K r → r.1 = none → ∀ (o3 : Option Value) (o4 : Option Value), mm_fix (mm_X len xs) mm_Y (mm_call (mm_X len xs) mm_Y (d + 0)) (mm_look mc_M_explains) (87, [some (.ref 116), some (.int a1), some (.int r.2), o3, o4], [], mT s) = T) (hR : ∀ r, K r → ∀ v, r.1 = some v → some (some (.int v), mT s) = T) : ∀ (n : Nat), ∀ (v2 : Int32) (o3 : Option Value) (o4 : Option Value), okl_M_explains_2 a1 s n v2 → K (lp_M_explains_2 a1 s n v2) → mm_fix (mm_X len xs) mm_Y (mm_call (mm_X len xs) mm_Y (d + 0)) (mm_look mc_M_explains) (2, [some (.ref 116), some (.int a1), some (.int v2), o3, o4], [], mT s) = T := by
  intro n
  induction n with
  | zero => intro v2 o3 o4; exact fun h => h.elim
  | succ n ih =>
    intro v2 o3 o4
    rw [okl_M_explains_2, lp_M_explains_2]
    refine w_go K 3 (c' := (7, [some (.ref 116), some (.int a1), some (.int v2), o3, o4], [.int (gI s 116 7), .int v2], mT s)) rfl ?_
    refine w_ige K rfl (fun _ => ?_) (fun _ => ?_)
    · refine w_go K 0 (c' := (87, [some (.ref 116), some (.int a1), some (.int v2), o3, o4], [], mT s)) rfl ?_
      exact fun _ b => hX _ b rfl _ _
    · refine w_go K 4 (c' := (15, [some (.ref 116), some (.int a1), some (.int v2), some (.int 0), some (.int v2)], [], mT s)) rfl ?_
      refine w_join K (fun (x10 : Int32 × Int32) => mm_fix (mm_X len xs) mm_Y (mm_call (mm_X len xs) mm_Y (d + 0)) (mm_look mc_M_explains) (52, [some (.ref 116), some (.int a1), some (.int v2), some (.int x10.1), some (.int x10.2)], [], mT s) = T) (fun K hJ => tl_M_explains_15 (len := len) (xs := xs) d a1 v2 s (T := T) K hJ mm_N (0 : Int32) v2) (fun x10 h1 h2 => ?_)
      revert h1 h2
      refine w_go K 3 (c' := (57, [some (.ref 116), some (.int a1), some (.int v2), some (.int x10.1), some (.int x10.2)], [.int v2, .ref 174], mT s)) rfl ?_
      refine w_ck K (st_iL rfl rfl) ?_
      refine w_go K 0 (c' := (58, [some (.ref 116), some (.int a1), some (.int v2), some (.int x10.1), some (.int x10.2)], [.int (gI s 174 (ix v2))], mT s)) rfl ?_
      refine w_zne K rfl (fun _ => ?_) (fun _ => ?_)
      · refine w_go K 1 (c' := (62, [some (.ref 116), some (.int a1), some (.int v2), some (.int x10.1), some (.int x10.2)], [.int x10.1], mT s)) rfl ?_
        refine w_zeq K rfl (fun _ => ?_) (fun _ => ?_)
        · refine w_go K 1 (c' := (80, [some (.ref 116), some (.int a1), some (.int v2), some (.int x10.1), some (.int x10.2)], [.int 0], mT s)) rfl ?_
          exact w_ret K rfl (fun h => hR _ h _ rfl)
        · refine w_go K 3 (c' := (70, [some (.ref 116), some (.int a1), some (.int v2), some (.int x10.1), some (.int x10.2)], [.int v2, .ref 174], mT s)) rfl ?_
          refine w_ck K (st_iL rfl rfl) ?_
          refine w_go K 1 (c' := (72, [some (.ref 116), some (.int a1), some (.int v2), some (.int x10.1), some (.int x10.2)], [.int 1, .int (gI s 174 (ix v2))], mT s)) rfl ?_
          refine w_ine K rfl (fun _ => ?_) (fun _ => ?_)
          · refine w_go K 1 (c' := (76, [some (.ref 116), some (.int a1), some (.int v2), some (.int x10.1), some (.int x10.2)], [.int x10.1], mT s)) rfl ?_
            refine w_zeq K rfl (fun _ => ?_) (fun _ => ?_)
            · refine w_go K 2 (c' := (2, [some (.ref 116), some (.int a1), some (.int (v2 + 1)), some (.int x10.1), some (.int x10.2)], [], mT s)) rfl ?_
              exact fun a b => ih (v2 + 1) _ _ a b
            · refine w_go K 1 (c' := (80, [some (.ref 116), some (.int a1), some (.int v2), some (.int x10.1), some (.int x10.2)], [.int 0], mT s)) rfl ?_
              exact w_ret K rfl (fun h => hR _ h _ rfl)
          · refine w_go K 2 (c' := (2, [some (.ref 116), some (.int a1), some (.int (v2 + 1)), some (.int x10.1), some (.int x10.2)], [], mT s)) rfl ?_
            exact fun a b => ih (v2 + 1) _ _ a b
      · refine w_go K 3 (c' := (70, [some (.ref 116), some (.int a1), some (.int v2), some (.int x10.1), some (.int x10.2)], [.int v2, .ref 174], mT s)) rfl ?_
        refine w_ck K (st_iL rfl rfl) ?_
        refine w_go K 1 (c' := (72, [some (.ref 116), some (.int a1), some (.int v2), some (.int x10.1), some (.int x10.2)], [.int 1, .int (gI s 174 (ix v2))], mT s)) rfl ?_
        refine w_ine K rfl (fun _ => ?_) (fun _ => ?_)
        · refine w_go K 1 (c' := (76, [some (.ref 116), some (.int a1), some (.int v2), some (.int x10.1), some (.int x10.2)], [.int x10.1], mT s)) rfl ?_
          refine w_zeq K rfl (fun _ => ?_) (fun _ => ?_)
          · refine w_go K 2 (c' := (2, [some (.ref 116), some (.int a1), some (.int (v2 + 1)), some (.int x10.1), some (.int x10.2)], [], mT s)) rfl ?_
            exact fun a b => ih (v2 + 1) _ _ a b
          · refine w_go K 1 (c' := (80, [some (.ref 116), some (.int a1), some (.int v2), some (.int x10.1), some (.int x10.2)], [.int 0], mT s)) rfl ?_
            exact w_ret K rfl (fun h => hR _ h _ rfl)
        · refine w_go K 2 (c' := (2, [some (.ref 116), some (.int a1), some (.int (v2 + 1)), some (.int x10.1), some (.int x10.2)], [], mT s)) rfl ?_
          exact fun a b => ih (v2 + 1) _ _ a b
def f_M_explains (a1 : Int32) (s : mS) : Int32 := (mq_let (lp_M_explains_2 a1 s mm_N (1 : Int32)) (fun (x11 : Option Int32 × Int32) => mq_el x11.1 (fun v => v) 1))
def ok_M_explains (a1 : Int32) (s : mS) : Prop := (okl_M_explains_2 a1 s mm_N (1 : Int32) ∧ mq_letP (lp_M_explains_2 a1 s mm_N (1 : Int32)) (fun (x11 : Option Int32 × Int32) => mq_elP x11.1 True))
set_option maxRecDepth 4000 in
theorem t_M_explains {len : Nat} {xs : Nat → Int32}  (d : Nat) (a1 : Int32) (s : mS) {T : Option mm_R} (K : Int32 → Prop) (hK : ∀ t, K t → some (some (.int t), mT s) = T) : ok_M_explains a1 s → K (f_M_explains a1 s) → mm_fix (mm_X len xs) mm_Y (mm_call (mm_X len xs) mm_Y (d + 0)) (mm_look mc_M_explains) (0, [some (.ref 116), some (.int a1), none, none, none], [], mT s) = T := by
  unfold ok_M_explains f_M_explains
  refine w_go K 2 (c' := (2, [some (.ref 116), some (.int a1), some (.int 1), none, none], [], mT s)) rfl ?_
  refine w_join K (fun (x11 : Option Int32 × Int32) => (x11.1 = none → ∀ (q12 : Option Value) (q13 : Option Value), mm_fix (mm_X len xs) mm_Y (mm_call (mm_X len xs) mm_Y (d + 0)) (mm_look mc_M_explains) (87, [some (.ref 116), some (.int a1), some (.int x11.2), q12, q13], [], mT s) = T) ∧ (∀ v, x11.1 = some v → some (some (.int v), mT s) = T)) (fun K hJ => tl_M_explains_2 (len := len) (xs := xs) d a1 s (T := T) K (fun r hr => (hJ r hr).1) (fun r hr => (hJ r hr).2) mm_N (1 : Int32) _ _) (fun x11 h1 h2 => w_el K (fun v hv h => hK _ h) (fun h1 h2 q12 q13 => ?_) h1 h2)
  revert h1 h2
  refine w_go K 1 (c' := (88, [some (.ref 116), some (.int a1), some (.int x11.2), q12, q13], [.int 1], mT s)) rfl ?_
  exact w_ret K rfl (hK _)
theorem m_M_explains {len : Nat} {xs : Nat → Int32}  (d : Nat) (a1 : Int32) (s : mS) : ok_M_explains a1 s → mm_call (mm_X len xs) mm_Y (d + 1) 245 [.ref 116, .int a1] (mT s) = some (some (.int (f_M_explains a1 s)), mT s) := fun h => t_M_explains (len := len) (xs := xs) d a1 s (fun t => (some (some (.int t), mT s) : Option mm_R) = some (some (.int (f_M_explains a1 s)), mT s)) (fun _ h => h) h rfl
def lp_M_searches_95 (a1 : Int32) : Nat → Int32 → mS → Int32 × mS
  | 0, v3, s => (v3, s)
  | n + 1, v3, s => (if (16 : Int32) ≤ v3 then (v3, s) else (lp_M_searches_95 a1 n (v3 + 1) (sI s 175 (ix v3) 0)))
def okl_M_searches_95 (a1 : Int32) : Nat → Int32 → mS → Prop
  | 0, v3, s => False
  | n + 1, v3, s => (if (16 : Int32) ≤ v3 then True else (mm_inb v3 16 = true ∧ (okl_M_searches_95 a1 n (v3 + 1) (sI s 175 (ix v3) 0))))
set_option maxRecDepth 4000 in
theorem tl_M_searches_95 {len : Nat} {xs : Nat → Int32}  (d : Nat) (a1 : Int32)  {T : Option mm_R} (K : Int32 × mS → Prop) (hX : ∀ r, K r → ∀ (o2 : Option Value), mm_fix (mm_X len xs) mm_Y (mm_call (mm_X len xs) mm_Y (d + 1)) (mm_look mc_M_searches) (114, [some (.ref 116), some (.int a1), o2, some (.int r.1)], [], mT r.2) = T) : ∀ (n : Nat), ∀ (v3 : Int32) (o2 : Option Value) (s : mS), okl_M_searches_95 a1 n v3 s → K (lp_M_searches_95 a1 n v3 s) → mm_fix (mm_X len xs) mm_Y (mm_call (mm_X len xs) mm_Y (d + 1)) (mm_look mc_M_searches) (95, [some (.ref 116), some (.int a1), o2, some (.int v3)], [], mT s) = T := by
  intro n
  induction n with
  | zero => intro v3 o2 s; exact fun h => h.elim
  | succ n ih =>
    intro v3 o2 s
    rw [okl_M_searches_95, lp_M_searches_95]
    refine w_go K 2 (c' := (98, [some (.ref 116), some (.int a1), o2, some (.int v3)], [.int 16, .int v3], mT s)) rfl ?_
    refine w_ige K rfl (fun _ => ?_) (fun _ => ?_)
    · refine w_go K 0 (c' := (114, [some (.ref 116), some (.int a1), o2, some (.int v3)], [], mT s)) rfl ?_
      exact fun _ b => hX _ b _
    · refine w_go K 4 (c' := (107, [some (.ref 116), some (.int a1), o2, some (.int v3)], [.int 0, .int v3, .ref 175], mT s)) rfl ?_
      refine w_ck K (st_iS rfl rfl) ?_
      refine w_go K 2 (c' := (95, [some (.ref 116), some (.int a1), (mm_cut o2 0), some (.int (v3 + 1))], [], mT (sI s 175 (ix v3) 0))) rfl ?_
      exact fun a b => ih (v3 + 1) _ (sI s 175 (ix v3) 0) a b
def lp_M_searches_126 (a1 : Int32) : Nat → Int32 → mS → Int32 × mS
  | 0, v3, s => (v3, s)
  | n + 1, v3, s => (if (16 : Int32) ≤ v3 then (v3, s) else (lp_M_searches_126 a1 n (v3 + 1) (sI s 175 (ix v3) ((gI s 175 (ix v3)) + ((a1 >>> (v3 &&& 31)) &&& 1)))))
def okl_M_searches_126 (a1 : Int32) : Nat → Int32 → mS → Prop
  | 0, v3, s => False
  | n + 1, v3, s => (if (16 : Int32) ≤ v3 then True else (mm_inb v3 16 = true ∧ (mm_inb v3 16 = true ∧ (okl_M_searches_126 a1 n (v3 + 1) (sI s 175 (ix v3) ((gI s 175 (ix v3)) + ((a1 >>> (v3 &&& 31)) &&& 1)))))))
set_option maxRecDepth 4000 in
theorem tl_M_searches_126 {len : Nat} {xs : Nat → Int32}  (d : Nat) (a1 : Int32)  {T : Option mm_R} (K : Int32 × mS → Prop) (hX : ∀ r, K r → ∀ (o2 : Option Value), mm_fix (mm_X len xs) mm_Y (mm_call (mm_X len xs) mm_Y (d + 1)) (mm_look mc_M_searches) (152, [some (.ref 116), some (.int a1), o2, some (.int r.1)], [], mT r.2) = T) : ∀ (n : Nat), ∀ (v3 : Int32) (o2 : Option Value) (s : mS), okl_M_searches_126 a1 n v3 s → K (lp_M_searches_126 a1 n v3 s) → mm_fix (mm_X len xs) mm_Y (mm_call (mm_X len xs) mm_Y (d + 1)) (mm_look mc_M_searches) (126, [some (.ref 116), some (.int a1), o2, some (.int v3)], [], mT s) = T := by
  intro n
  induction n with
  | zero => intro v3 o2 s; exact fun h => h.elim
  | succ n ih =>
    intro v3 o2 s
    rw [okl_M_searches_126, lp_M_searches_126]
    refine w_go K 2 (c' := (129, [some (.ref 116), some (.int a1), o2, some (.int v3)], [.int 16, .int v3], mT s)) rfl ?_
    refine w_ige K rfl (fun _ => ?_) (fun _ => ?_)
    · refine w_go K 0 (c' := (152, [some (.ref 116), some (.int a1), o2, some (.int v3)], [], mT s)) rfl ?_
      exact fun _ b => hX _ b _
    · refine w_go K 4 (c' := (138, [some (.ref 116), some (.int a1), o2, some (.int v3)], [.int v3, .ref 175, .int v3, .ref 175], mT s)) rfl ?_
      refine w_ck K (st_iL rfl rfl) ?_
      refine w_go K 6 (c' := (145, [some (.ref 116), some (.int a1), o2, some (.int v3)], [.int ((gI s 175 (ix v3)) + ((a1 >>> (v3 &&& 31)) &&& 1)), .int v3, .ref 175], mT s)) rfl ?_
      refine w_ck K (st_iS rfl rfl) ?_
      refine w_go K 2 (c' := (126, [some (.ref 116), some (.int a1), (mm_cut o2 0), some (.int (v3 + 1))], [], mT (sI s 175 (ix v3) ((gI s 175 (ix v3)) + ((a1 >>> (v3 &&& 31)) &&& 1))))) rfl ?_
      exact fun a b => ih (v3 + 1) _ (sI s 175 (ix v3) ((gI s 175 (ix v3)) + ((a1 >>> (v3 &&& 31)) &&& 1))) a b
def lp_M_searches_25  : Nat → Int32 → mS → Int32 × mS
  | 0, v1, s => (v1, s)
  | n + 1, v1, s => (if ((1 : Int32) <<< ((gI s 116 7) &&& 31)) ≤ v1 then (v1, s) else (mq_let (f_M_bits v1 s) (fun (x10 : Int32) => (if (gI s 116 100) = (-1) then (mq_let (f_M_explains v1 s) (fun (x11 : Int32) => (if x11 = 0 then (lp_M_searches_25 n (v1 + 2) s) else (if (gI s 116 100) = (-1) then (mq_let (lp_M_searches_95 v1 mm_N (0 : Int32) (sI (sI s 116 100 x10) 116 101 0)) (fun (x12 : Int32 × mS) => (mq_let (lp_M_searches_126 v1 mm_N (0 : Int32) (sI x12.2 116 101 ((gI x12.2 116 101) + 1))) (fun (x14 : Int32 × mS) => (lp_M_searches_25 n (v1 + 2) x14.2))))) else (if (gI s 116 100) ≤ x10 then (mq_let (lp_M_searches_126 v1 mm_N (0 : Int32) (sI s 116 101 ((gI s 116 101) + 1))) (fun (x16 : Int32 × mS) => (lp_M_searches_25 n (v1 + 2) x16.2))) else (mq_let (lp_M_searches_95 v1 mm_N (0 : Int32) (sI (sI s 116 100 x10) 116 101 0)) (fun (x18 : Int32 × mS) => (mq_let (lp_M_searches_126 v1 mm_N (0 : Int32) (sI x18.2 116 101 ((gI x18.2 116 101) + 1))) (fun (x20 : Int32 × mS) => (lp_M_searches_25 n (v1 + 2) x20.2)))))))))) else (if (gI s 116 100) < x10 then (lp_M_searches_25 n (v1 + 2) s) else (mq_let (f_M_explains v1 s) (fun (x22 : Int32) => (if x22 = 0 then (lp_M_searches_25 n (v1 + 2) s) else (if (gI s 116 100) = (-1) then (mq_let (lp_M_searches_95 v1 mm_N (0 : Int32) (sI (sI s 116 100 x10) 116 101 0)) (fun (x23 : Int32 × mS) => (mq_let (lp_M_searches_126 v1 mm_N (0 : Int32) (sI x23.2 116 101 ((gI x23.2 116 101) + 1))) (fun (x25 : Int32 × mS) => (lp_M_searches_25 n (v1 + 2) x25.2))))) else (if (gI s 116 100) ≤ x10 then (mq_let (lp_M_searches_126 v1 mm_N (0 : Int32) (sI s 116 101 ((gI s 116 101) + 1))) (fun (x27 : Int32 × mS) => (lp_M_searches_25 n (v1 + 2) x27.2))) else (mq_let (lp_M_searches_95 v1 mm_N (0 : Int32) (sI (sI s 116 100 x10) 116 101 0)) (fun (x29 : Int32 × mS) => (mq_let (lp_M_searches_126 v1 mm_N (0 : Int32) (sI x29.2 116 101 ((gI x29.2 116 101) + 1))) (fun (x31 : Int32 × mS) => (lp_M_searches_25 n (v1 + 2) x31.2)))))))))))))))
def okl_M_searches_25  : Nat → Int32 → mS → Prop
  | 0, v1, s => False
  | n + 1, v1, s => (if ((1 : Int32) <<< ((gI s 116 7) &&& 31)) ≤ v1 then True else (ok_M_bits v1 s ∧ mq_letP (f_M_bits v1 s) (fun (x10 : Int32) => (if (gI s 116 100) = (-1) then (ok_M_explains v1 s ∧ mq_letP (f_M_explains v1 s) (fun (x11 : Int32) => (if x11 = 0 then (okl_M_searches_25 n (v1 + 2) s) else (if (gI s 116 100) = (-1) then (okl_M_searches_95 v1 mm_N (0 : Int32) (sI (sI s 116 100 x10) 116 101 0) ∧ mq_letP (lp_M_searches_95 v1 mm_N (0 : Int32) (sI (sI s 116 100 x10) 116 101 0)) (fun (x12 : Int32 × mS) => (okl_M_searches_126 v1 mm_N (0 : Int32) (sI x12.2 116 101 ((gI x12.2 116 101) + 1)) ∧ mq_letP (lp_M_searches_126 v1 mm_N (0 : Int32) (sI x12.2 116 101 ((gI x12.2 116 101) + 1))) (fun (x14 : Int32 × mS) => (okl_M_searches_25 n (v1 + 2) x14.2))))) else (if (gI s 116 100) ≤ x10 then (okl_M_searches_126 v1 mm_N (0 : Int32) (sI s 116 101 ((gI s 116 101) + 1)) ∧ mq_letP (lp_M_searches_126 v1 mm_N (0 : Int32) (sI s 116 101 ((gI s 116 101) + 1))) (fun (x16 : Int32 × mS) => (okl_M_searches_25 n (v1 + 2) x16.2))) else (okl_M_searches_95 v1 mm_N (0 : Int32) (sI (sI s 116 100 x10) 116 101 0) ∧ mq_letP (lp_M_searches_95 v1 mm_N (0 : Int32) (sI (sI s 116 100 x10) 116 101 0)) (fun (x18 : Int32 × mS) => (okl_M_searches_126 v1 mm_N (0 : Int32) (sI x18.2 116 101 ((gI x18.2 116 101) + 1)) ∧ mq_letP (lp_M_searches_126 v1 mm_N (0 : Int32) (sI x18.2 116 101 ((gI x18.2 116 101) + 1))) (fun (x20 : Int32 × mS) => (okl_M_searches_25 n (v1 + 2) x20.2)))))))))) else (if (gI s 116 100) < x10 then (okl_M_searches_25 n (v1 + 2) s) else (ok_M_explains v1 s ∧ mq_letP (f_M_explains v1 s) (fun (x22 : Int32) => (if x22 = 0 then (okl_M_searches_25 n (v1 + 2) s) else (if (gI s 116 100) = (-1) then (okl_M_searches_95 v1 mm_N (0 : Int32) (sI (sI s 116 100 x10) 116 101 0) ∧ mq_letP (lp_M_searches_95 v1 mm_N (0 : Int32) (sI (sI s 116 100 x10) 116 101 0)) (fun (x23 : Int32 × mS) => (okl_M_searches_126 v1 mm_N (0 : Int32) (sI x23.2 116 101 ((gI x23.2 116 101) + 1)) ∧ mq_letP (lp_M_searches_126 v1 mm_N (0 : Int32) (sI x23.2 116 101 ((gI x23.2 116 101) + 1))) (fun (x25 : Int32 × mS) => (okl_M_searches_25 n (v1 + 2) x25.2))))) else (if (gI s 116 100) ≤ x10 then (okl_M_searches_126 v1 mm_N (0 : Int32) (sI s 116 101 ((gI s 116 101) + 1)) ∧ mq_letP (lp_M_searches_126 v1 mm_N (0 : Int32) (sI s 116 101 ((gI s 116 101) + 1))) (fun (x27 : Int32 × mS) => (okl_M_searches_25 n (v1 + 2) x27.2))) else (okl_M_searches_95 v1 mm_N (0 : Int32) (sI (sI s 116 100 x10) 116 101 0) ∧ mq_letP (lp_M_searches_95 v1 mm_N (0 : Int32) (sI (sI s 116 100 x10) 116 101 0)) (fun (x29 : Int32 × mS) => (okl_M_searches_126 v1 mm_N (0 : Int32) (sI x29.2 116 101 ((gI x29.2 116 101) + 1)) ∧ mq_letP (lp_M_searches_126 v1 mm_N (0 : Int32) (sI x29.2 116 101 ((gI x29.2 116 101) + 1))) (fun (x31 : Int32 × mS) => (okl_M_searches_25 n (v1 + 2) x31.2)))))))))))))))
set_option maxRecDepth 4000 in
theorem tl_M_searches_25 {len : Nat} {xs : Nat → Int32}  (d : Nat)   {T : Option mm_R} (K : Int32 × mS → Prop) (hX : ∀ r, K r → ∀ (o2 : Option Value) (o3 : Option Value), mm_fix (mm_X len xs) mm_Y (mm_call (mm_X len xs) mm_Y (d + 1)) (mm_look mc_M_searches) (158, [some (.ref 116), some (.int r.1), o2, o3], [], mT r.2) = T) : ∀ (n : Nat), ∀ (v1 : Int32) (o2 : Option Value) (o3 : Option Value) (s : mS), okl_M_searches_25 n v1 s → K (lp_M_searches_25 n v1 s) → mm_fix (mm_X len xs) mm_Y (mm_call (mm_X len xs) mm_Y (d + 1)) (mm_look mc_M_searches) (25, [some (.ref 116), some (.int v1), o2, o3], [], mT s) = T := by
  intro n
  induction n with
  | zero => intro v1 o2 o3 s; exact fun h => h.elim
  | succ n ih =>
    intro v1 o2 o3 s
    rw [okl_M_searches_25, lp_M_searches_25]
    refine w_go K 5 (c' := (32, [some (.ref 116), some (.int v1), o2, o3], [.int ((1 : Int32) <<< ((gI s 116 7) &&& 31)), .int v1], mT s)) rfl ?_
    refine w_ige K rfl (fun _ => ?_) (fun _ => ?_)
    · refine w_go K 0 (c' := (158, [some (.ref 116), some (.int v1), o2, o3], [], mT s)) rfl ?_
      exact fun _ b => hX _ b _ _
    · refine w_go K 1 (c' := (36, [some (.ref 116), some (.int v1), o2, o3], [.int v1], mT s)) rfl ?_
      refine w_callL K (E := f_M_bits v1 s) (g := fun (x10 : Int32) => (some (.int x10), mT s)) rfl (m_M_bits (len := len) (xs := xs) (d + 0) v1 s) (fun x10 => ?_)
      refine w_go K 4 (c' := (45, [some (.ref 116), some (.int v1), some (.int x10), o3], [.int (-1), .int (gI s 116 100)], mT s)) rfl ?_
      refine w_ieq K rfl (fun _ => ?_) (fun _ => ?_)
      · refine w_go K 2 (c' := (58, [some (.ref 116), some (.int v1), some (.int x10), o3], [.int v1, .ref 116], mT s)) rfl ?_
        refine w_callL K (E := f_M_explains v1 s) (g := fun (x11 : Int32) => (some (.int x11), mT s)) rfl (m_M_explains (len := len) (xs := xs) (d + 0) v1 s) (fun x11 => ?_)
        refine w_go K 0 (c' := (61, [some (.ref 116), some (.int v1), some (.int x10), o3], [.int x11], mT s)) rfl ?_
        refine w_zne K rfl (fun _ => ?_) (fun _ => ?_)
        · refine w_go K 3 (c' := (25, [some (.ref 116), some (.int (v1 + 2)), some (.int x10), o3], [], mT s)) rfl ?_
          exact fun a b => ih (v1 + 2) _ _ s a b
        · refine w_go K 3 (c' := (72, [some (.ref 116), some (.int v1), some (.int x10), o3], [.int (-1), .int (gI s 116 100)], mT s)) rfl ?_
          refine w_ieq K rfl (fun _ => ?_) (fun _ => ?_)
          · refine w_go K 8 (c' := (95, [some (.ref 116), some (.int v1), some (.int x10), some (.int 0)], [], mT (sI (sI s 116 100 x10) 116 101 0))) rfl ?_
            refine w_join K (fun (x12 : Int32 × mS) => ∀ (q13 : Option Value), mm_fix (mm_X len xs) mm_Y (mm_call (mm_X len xs) mm_Y (d + 1)) (mm_look mc_M_searches) (114, [some (.ref 116), some (.int v1), q13, some (.int x12.1)], [], mT x12.2) = T) (fun K hJ => tl_M_searches_95 (len := len) (xs := xs) d v1 (T := T) K hJ mm_N (0 : Int32) _ (sI (sI s 116 100 x10) 116 101 0)) (fun x12 h1 h2 q13 => ?_)
            revert h1 h2
            refine w_go K 8 (c' := (126, [some (.ref 116), some (.int v1), (mm_cut q13 0), some (.int 0)], [], mT (sI x12.2 116 101 ((gI x12.2 116 101) + 1)))) rfl ?_
            refine w_join K (fun (x14 : Int32 × mS) => ∀ (q15 : Option Value), mm_fix (mm_X len xs) mm_Y (mm_call (mm_X len xs) mm_Y (d + 1)) (mm_look mc_M_searches) (152, [some (.ref 116), some (.int v1), q15, some (.int x14.1)], [], mT x14.2) = T) (fun K hJ => tl_M_searches_126 (len := len) (xs := xs) d v1 (T := T) K hJ mm_N (0 : Int32) _ (sI x12.2 116 101 ((gI x12.2 116 101) + 1))) (fun x14 h1 h2 q15 => ?_)
            revert h1 h2
            refine w_go K 2 (c' := (25, [some (.ref 116), some (.int (v1 + 2)), q15, some (.int x14.1)], [], mT x14.2)) rfl ?_
            exact fun a b => ih (v1 + 2) _ _ x14.2 a b
          · refine w_go K 3 (c' := (80, [some (.ref 116), some (.int v1), some (.int x10), o3], [.int (gI s 116 100), .int x10], mT s)) rfl ?_
            refine w_ige K rfl (fun _ => ?_) (fun _ => ?_)
            · refine w_go K 8 (c' := (126, [some (.ref 116), some (.int v1), some (.int x10), some (.int 0)], [], mT (sI s 116 101 ((gI s 116 101) + 1)))) rfl ?_
              refine w_join K (fun (x16 : Int32 × mS) => ∀ (q17 : Option Value), mm_fix (mm_X len xs) mm_Y (mm_call (mm_X len xs) mm_Y (d + 1)) (mm_look mc_M_searches) (152, [some (.ref 116), some (.int v1), q17, some (.int x16.1)], [], mT x16.2) = T) (fun K hJ => tl_M_searches_126 (len := len) (xs := xs) d v1 (T := T) K hJ mm_N (0 : Int32) _ (sI s 116 101 ((gI s 116 101) + 1))) (fun x16 h1 h2 q17 => ?_)
              revert h1 h2
              refine w_go K 2 (c' := (25, [some (.ref 116), some (.int (v1 + 2)), q17, some (.int x16.1)], [], mT x16.2)) rfl ?_
              exact fun a b => ih (v1 + 2) _ _ x16.2 a b
            · refine w_go K 8 (c' := (95, [some (.ref 116), some (.int v1), some (.int x10), some (.int 0)], [], mT (sI (sI s 116 100 x10) 116 101 0))) rfl ?_
              refine w_join K (fun (x18 : Int32 × mS) => ∀ (q19 : Option Value), mm_fix (mm_X len xs) mm_Y (mm_call (mm_X len xs) mm_Y (d + 1)) (mm_look mc_M_searches) (114, [some (.ref 116), some (.int v1), q19, some (.int x18.1)], [], mT x18.2) = T) (fun K hJ => tl_M_searches_95 (len := len) (xs := xs) d v1 (T := T) K hJ mm_N (0 : Int32) _ (sI (sI s 116 100 x10) 116 101 0)) (fun x18 h1 h2 q19 => ?_)
              revert h1 h2
              refine w_go K 8 (c' := (126, [some (.ref 116), some (.int v1), (mm_cut q19 0), some (.int 0)], [], mT (sI x18.2 116 101 ((gI x18.2 116 101) + 1)))) rfl ?_
              refine w_join K (fun (x20 : Int32 × mS) => ∀ (q21 : Option Value), mm_fix (mm_X len xs) mm_Y (mm_call (mm_X len xs) mm_Y (d + 1)) (mm_look mc_M_searches) (152, [some (.ref 116), some (.int v1), q21, some (.int x20.1)], [], mT x20.2) = T) (fun K hJ => tl_M_searches_126 (len := len) (xs := xs) d v1 (T := T) K hJ mm_N (0 : Int32) _ (sI x18.2 116 101 ((gI x18.2 116 101) + 1))) (fun x20 h1 h2 q21 => ?_)
              revert h1 h2
              refine w_go K 2 (c' := (25, [some (.ref 116), some (.int (v1 + 2)), q21, some (.int x20.1)], [], mT x20.2)) rfl ?_
              exact fun a b => ih (v1 + 2) _ _ x20.2 a b
      · refine w_go K 3 (c' := (53, [some (.ref 116), some (.int v1), some (.int x10), o3], [.int (gI s 116 100), .int x10], mT s)) rfl ?_
        refine w_igt K rfl (fun _ => ?_) (fun _ => ?_)
        · refine w_go K 2 (c' := (25, [some (.ref 116), some (.int (v1 + 2)), some (.int x10), o3], [], mT s)) rfl ?_
          exact fun a b => ih (v1 + 2) _ _ s a b
        · refine w_go K 2 (c' := (58, [some (.ref 116), some (.int v1), some (.int x10), o3], [.int v1, .ref 116], mT s)) rfl ?_
          refine w_callL K (E := f_M_explains v1 s) (g := fun (x22 : Int32) => (some (.int x22), mT s)) rfl (m_M_explains (len := len) (xs := xs) (d + 0) v1 s) (fun x22 => ?_)
          refine w_go K 0 (c' := (61, [some (.ref 116), some (.int v1), some (.int x10), o3], [.int x22], mT s)) rfl ?_
          refine w_zne K rfl (fun _ => ?_) (fun _ => ?_)
          · refine w_go K 3 (c' := (25, [some (.ref 116), some (.int (v1 + 2)), some (.int x10), o3], [], mT s)) rfl ?_
            exact fun a b => ih (v1 + 2) _ _ s a b
          · refine w_go K 3 (c' := (72, [some (.ref 116), some (.int v1), some (.int x10), o3], [.int (-1), .int (gI s 116 100)], mT s)) rfl ?_
            refine w_ieq K rfl (fun _ => ?_) (fun _ => ?_)
            · refine w_go K 8 (c' := (95, [some (.ref 116), some (.int v1), some (.int x10), some (.int 0)], [], mT (sI (sI s 116 100 x10) 116 101 0))) rfl ?_
              refine w_join K (fun (x23 : Int32 × mS) => ∀ (q24 : Option Value), mm_fix (mm_X len xs) mm_Y (mm_call (mm_X len xs) mm_Y (d + 1)) (mm_look mc_M_searches) (114, [some (.ref 116), some (.int v1), q24, some (.int x23.1)], [], mT x23.2) = T) (fun K hJ => tl_M_searches_95 (len := len) (xs := xs) d v1 (T := T) K hJ mm_N (0 : Int32) _ (sI (sI s 116 100 x10) 116 101 0)) (fun x23 h1 h2 q24 => ?_)
              revert h1 h2
              refine w_go K 8 (c' := (126, [some (.ref 116), some (.int v1), (mm_cut q24 0), some (.int 0)], [], mT (sI x23.2 116 101 ((gI x23.2 116 101) + 1)))) rfl ?_
              refine w_join K (fun (x25 : Int32 × mS) => ∀ (q26 : Option Value), mm_fix (mm_X len xs) mm_Y (mm_call (mm_X len xs) mm_Y (d + 1)) (mm_look mc_M_searches) (152, [some (.ref 116), some (.int v1), q26, some (.int x25.1)], [], mT x25.2) = T) (fun K hJ => tl_M_searches_126 (len := len) (xs := xs) d v1 (T := T) K hJ mm_N (0 : Int32) _ (sI x23.2 116 101 ((gI x23.2 116 101) + 1))) (fun x25 h1 h2 q26 => ?_)
              revert h1 h2
              refine w_go K 2 (c' := (25, [some (.ref 116), some (.int (v1 + 2)), q26, some (.int x25.1)], [], mT x25.2)) rfl ?_
              exact fun a b => ih (v1 + 2) _ _ x25.2 a b
            · refine w_go K 3 (c' := (80, [some (.ref 116), some (.int v1), some (.int x10), o3], [.int (gI s 116 100), .int x10], mT s)) rfl ?_
              refine w_ige K rfl (fun _ => ?_) (fun _ => ?_)
              · refine w_go K 8 (c' := (126, [some (.ref 116), some (.int v1), some (.int x10), some (.int 0)], [], mT (sI s 116 101 ((gI s 116 101) + 1)))) rfl ?_
                refine w_join K (fun (x27 : Int32 × mS) => ∀ (q28 : Option Value), mm_fix (mm_X len xs) mm_Y (mm_call (mm_X len xs) mm_Y (d + 1)) (mm_look mc_M_searches) (152, [some (.ref 116), some (.int v1), q28, some (.int x27.1)], [], mT x27.2) = T) (fun K hJ => tl_M_searches_126 (len := len) (xs := xs) d v1 (T := T) K hJ mm_N (0 : Int32) _ (sI s 116 101 ((gI s 116 101) + 1))) (fun x27 h1 h2 q28 => ?_)
                revert h1 h2
                refine w_go K 2 (c' := (25, [some (.ref 116), some (.int (v1 + 2)), q28, some (.int x27.1)], [], mT x27.2)) rfl ?_
                exact fun a b => ih (v1 + 2) _ _ x27.2 a b
              · refine w_go K 8 (c' := (95, [some (.ref 116), some (.int v1), some (.int x10), some (.int 0)], [], mT (sI (sI s 116 100 x10) 116 101 0))) rfl ?_
                refine w_join K (fun (x29 : Int32 × mS) => ∀ (q30 : Option Value), mm_fix (mm_X len xs) mm_Y (mm_call (mm_X len xs) mm_Y (d + 1)) (mm_look mc_M_searches) (114, [some (.ref 116), some (.int v1), q30, some (.int x29.1)], [], mT x29.2) = T) (fun K hJ => tl_M_searches_95 (len := len) (xs := xs) d v1 (T := T) K hJ mm_N (0 : Int32) _ (sI (sI s 116 100 x10) 116 101 0)) (fun x29 h1 h2 q30 => ?_)
                revert h1 h2
                refine w_go K 8 (c' := (126, [some (.ref 116), some (.int v1), (mm_cut q30 0), some (.int 0)], [], mT (sI x29.2 116 101 ((gI x29.2 116 101) + 1)))) rfl ?_
                refine w_join K (fun (x31 : Int32 × mS) => ∀ (q32 : Option Value), mm_fix (mm_X len xs) mm_Y (mm_call (mm_X len xs) mm_Y (d + 1)) (mm_look mc_M_searches) (152, [some (.ref 116), some (.int v1), q32, some (.int x31.1)], [], mT x31.2) = T) (fun K hJ => tl_M_searches_126 (len := len) (xs := xs) d v1 (T := T) K hJ mm_N (0 : Int32) _ (sI x29.2 116 101 ((gI x29.2 116 101) + 1))) (fun x31 h1 h2 q32 => ?_)
                revert h1 h2
                refine w_go K 2 (c' := (25, [some (.ref 116), some (.int (v1 + 2)), q32, some (.int x31.1)], [], mT x31.2)) rfl ?_
                exact fun a b => ih (v1 + 2) _ _ x31.2 a b
def f_M_searches  (s : mS) : mS := (if (gI s 116 102) = 0 then (mq_let (lp_M_searches_25 mm_N (0 : Int32) (sI (sI (sI s 116 102 1) 116 100 (-1)) 116 101 0)) (fun (x33 : Int32 × mS) => x33.2)) else s)
def ok_M_searches  (s : mS) : Prop := (if (gI s 116 102) = 0 then (okl_M_searches_25 mm_N (0 : Int32) (sI (sI (sI s 116 102 1) 116 100 (-1)) 116 101 0) ∧ mq_letP (lp_M_searches_25 mm_N (0 : Int32) (sI (sI (sI s 116 102 1) 116 100 (-1)) 116 101 0)) (fun (x33 : Int32 × mS) => True)) else True)
set_option maxRecDepth 4000 in
theorem t_M_searches {len : Nat} {xs : Nat → Int32}  (d : Nat)  (s : mS) {T : Option mm_R} (K : mS → Prop) (hK : ∀ t, K t → some (none, mT t) = T) : ok_M_searches s → K (f_M_searches s) → mm_fix (mm_X len xs) mm_Y (mm_call (mm_X len xs) mm_Y (d + 1)) (mm_look mc_M_searches) (0, [some (.ref 116), none, none, none], [], mT s) = T := by
  unfold ok_M_searches f_M_searches
  refine w_go K 2 (c' := (4, [some (.ref 116), none, none, none], [.int (gI s 116 102)], mT s)) rfl ?_
  refine w_zeq K rfl (fun _ => ?_) (fun _ => ?_)
  · refine w_go K 11 (c' := (25, [some (.ref 116), some (.int 0), none, none], [], mT (sI (sI (sI s 116 102 1) 116 100 (-1)) 116 101 0))) rfl ?_
    refine w_join K (fun (x33 : Int32 × mS) => ∀ (q34 : Option Value) (q35 : Option Value), mm_fix (mm_X len xs) mm_Y (mm_call (mm_X len xs) mm_Y (d + 1)) (mm_look mc_M_searches) (158, [some (.ref 116), some (.int x33.1), q34, q35], [], mT x33.2) = T) (fun K hJ => tl_M_searches_25 (len := len) (xs := xs) d (T := T) K hJ mm_N (0 : Int32) _ _ (sI (sI (sI s 116 102 1) 116 100 (-1)) 116 101 0)) (fun x33 h1 h2 q34 q35 => ?_)
    revert h1 h2
    refine w_go K 0 (c' := (158, [some (.ref 116), some (.int x33.1), q34, q35], [], mT x33.2)) rfl ?_
    exact w_ret K rfl (hK _)
  · refine w_go K 0 (c' := (7, [some (.ref 116), none, none, none], [], mT s)) rfl ?_
    exact w_ret K rfl (hK _)
theorem m_M_searches {len : Nat} {xs : Nat → Int32}  (d : Nat)  (s : mS) : ok_M_searches s → mm_call (mm_X len xs) mm_Y (d + 2) 243 [.ref 116] (mT s) = some (none, mT (f_M_searches s)) := fun h => t_M_searches (len := len) (xs := xs) d s (fun t => (some (none, mT t) : Option mm_R) = some (none, mT (f_M_searches s))) (fun _ h => h) h rfl
