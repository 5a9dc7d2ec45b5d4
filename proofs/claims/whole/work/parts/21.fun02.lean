/-! FUNCTIONS OF METHODS, by program: f_ what it does, ok_ that no row fails, m_ the small machine does so. -/
def f_G_thing (a1 : Int32) (a2 : Int32) (a3 : Int32) (a4 : Int32) (s : mS) : Int32 × mS := (mq_let (f_Net_has a1 s) (fun (x10 : Int32) => (if x10 = 0 then ((-1), s) else (mq_let (f_G_within a2 (0 : Int32) (3 : Int32) s) (fun (x11 : Int32) => (if x11 = 0 then ((-1), s) else (mq_let (f_G_within a3 (0 : Int32) (99 : Int32) s) (fun (x12 : Int32) => (if x12 = 0 then ((-1), s) else (mq_let (if a2 = 1 then (15 : Int32) else (0 : Int32)) (fun (x13 : Int32) => (mq_let (f_G_within a4 (0 : Int32) x13 s) (fun (x14 : Int32) => (if x14 = 0 then ((-1), s) else (mq_let (f_Things_put a1 a2 a3 a4 s) (fun (x15 : Int32 × mS) => (x15.1, x15.2)))))))))))))))))
def ok_G_thing (a1 : Int32) (a2 : Int32) (a3 : Int32) (a4 : Int32) (s : mS) : Prop := (True ∧ mq_letP (f_Net_has a1 s) (fun (x10 : Int32) => (if x10 = 0 then True else (True ∧ mq_letP (f_G_within a2 (0 : Int32) (3 : Int32) s) (fun (x11 : Int32) => (if x11 = 0 then True else (True ∧ mq_letP (f_G_within a3 (0 : Int32) (99 : Int32) s) (fun (x12 : Int32) => (if x12 = 0 then True else (True ∧ mq_letP (if a2 = 1 then (15 : Int32) else (0 : Int32)) (fun (x13 : Int32) => (True ∧ mq_letP (f_G_within a4 (0 : Int32) x13 s) (fun (x14 : Int32) => (if x14 = 0 then True else (ok_Things_put a1 a2 a3 a4 s ∧ mq_letP (f_Things_put a1 a2 a3 a4 s) (fun (x15 : Int32 × mS) => True))))))))))))))))
set_option maxRecDepth 4000 in
theorem t_G_thing {len : Nat} {xs : Nat → Int32}  (d : Nat) (a1 : Int32) (a2 : Int32) (a3 : Int32) (a4 : Int32) (s : mS) {T : Option mm_R} (K : Int32 × mS → Prop) (hK : ∀ t, K t → some (some (.int t.1), mT t.2) = T) : ok_G_thing a1 a2 a3 a4 s → K (f_G_thing a1 a2 a3 a4 s) → mm_fix (mm_X len xs) mm_Y (mm_call (mm_X len xs) mm_Y (d + 1)) (mm_look mc_G_thing) (0, [some (.ref 0), some (.int a1), some (.int a2), some (.int a3), some (.int a4)], [], mT s) = T := by
  unfold ok_G_thing f_G_thing
  refine w_go K 3 (c' := (5, [some (.ref 0), some (.int a1), some (.int a2), some (.int a3), some (.int a4)], [.int a1, .ref 25], mT s)) rfl ?_
  refine w_callL K (E := f_Net_has a1 s) (g := fun (x10 : Int32) => (some (.int x10), mT s)) rfl (m_Net_has (len := len) (xs := xs) (d + 0) a1 s) (fun x10 => ?_)
  refine w_go K 0 (c' := (8, [some (.ref 0), some (.int a1), some (.int a2), some (.int a3), some (.int a4)], [.int x10], mT s)) rfl ?_
  refine w_zeq K rfl (fun _ => ?_) (fun _ => ?_)
  · refine w_go K 1 (c' := (51, [some (.ref 0), some (.int a1), some (.int a2), some (.int a3), some (.int a4)], [.int (-1)], mT s)) rfl ?_
    exact w_ret K rfl (hK _)
  · refine w_go K 3 (c' := (14, [some (.ref 0), some (.int a1), some (.int a2), some (.int a3), some (.int a4)], [.int 3, .int 0, .int a2], mT s)) rfl ?_
    refine w_callL K (E := f_G_within a2 (0 : Int32) (3 : Int32) s) (g := fun (x11 : Int32) => (some (.int x11), mT s)) rfl (m_G_within (len := len) (xs := xs) (d + 0) a2 (0 : Int32) (3 : Int32) s) (fun x11 => ?_)
    refine w_go K 0 (c' := (17, [some (.ref 0), some (.int a1), some (.int a2), some (.int a3), some (.int a4)], [.int x11], mT s)) rfl ?_
    refine w_zeq K rfl (fun _ => ?_) (fun _ => ?_)
    · refine w_go K 1 (c' := (51, [some (.ref 0), some (.int a1), some (.int a2), some (.int a3), some (.int a4)], [.int (-1)], mT s)) rfl ?_
      exact w_ret K rfl (hK _)
    · refine w_go K 3 (c' := (24, [some (.ref 0), some (.int a1), some (.int a2), some (.int a3), some (.int a4)], [.int 99, .int 0, .int a3], mT s)) rfl ?_
      refine w_callL K (E := f_G_within a3 (0 : Int32) (99 : Int32) s) (g := fun (x12 : Int32) => (some (.int x12), mT s)) rfl (m_G_within (len := len) (xs := xs) (d + 0) a3 (0 : Int32) (99 : Int32) s) (fun x12 => ?_)
      refine w_go K 0 (c' := (27, [some (.ref 0), some (.int a1), some (.int a2), some (.int a3), some (.int a4)], [.int x12], mT s)) rfl ?_
      refine w_zeq K rfl (fun _ => ?_) (fun _ => ?_)
      · refine w_go K 1 (c' := (51, [some (.ref 0), some (.int a1), some (.int a2), some (.int a3), some (.int a4)], [.int (-1)], mT s)) rfl ?_
        exact w_ret K rfl (hK _)
      · refine w_go K 4 (c' := (35, [some (.ref 0), some (.int a1), some (.int a2), some (.int a3), some (.int a4)], [.int 1, .int a2, .int 0, .int a4], mT s)) rfl ?_
        refine w_join K (fun (x13 : Int32) => mm_fix (mm_X len xs) mm_Y (mm_call (mm_X len xs) mm_Y (d + 1)) (mm_look mc_G_thing) (44, [some (.ref 0), some (.int a1), some (.int a2), some (.int a3), some (.int a4)], [.int x13, .int 0, .int a4], mT s) = T) (fun K hJ => ?_) (fun x13 h1 h2 => ?_)
        · refine w_go K 0 (c' := (35, [some (.ref 0), some (.int a1), some (.int a2), some (.int a3), some (.int a4)], [.int 1, .int a2, .int 0, .int a4], mT s)) rfl ?_
          refine w_ineT K rfl (fun _ => ?_) (fun _ => ?_)
          · refine w_go K 2 (c' := (44, [some (.ref 0), some (.int a1), some (.int a2), some (.int a3), some (.int a4)], [.int 15, .int 0, .int a4], mT s)) rfl ?_
            exact fun _ h => hJ _ h
          · refine w_go K 1 (c' := (44, [some (.ref 0), some (.int a1), some (.int a2), some (.int a3), some (.int a4)], [.int 0, .int 0, .int a4], mT s)) rfl ?_
            exact fun _ h => hJ _ h
        · revert h1 h2
          refine w_go K 0 (c' := (44, [some (.ref 0), some (.int a1), some (.int a2), some (.int a3), some (.int a4)], [.int x13, .int 0, .int a4], mT s)) rfl ?_
          refine w_callL K (E := f_G_within a4 (0 : Int32) x13 s) (g := fun (x14 : Int32) => (some (.int x14), mT s)) rfl (m_G_within (len := len) (xs := xs) (d + 0) a4 (0 : Int32) x13 s) (fun x14 => ?_)
          refine w_go K 0 (c' := (47, [some (.ref 0), some (.int a1), some (.int a2), some (.int a3), some (.int a4)], [.int x14], mT s)) rfl ?_
          refine w_zne K rfl (fun _ => ?_) (fun _ => ?_)
          · refine w_go K 1 (c' := (51, [some (.ref 0), some (.int a1), some (.int a2), some (.int a3), some (.int a4)], [.int (-1)], mT s)) rfl ?_
            exact w_ret K rfl (hK _)
          · refine w_go K 6 (c' := (61, [some (.ref 0), some (.int a1), some (.int a2), some (.int a3), some (.int a4)], [.int a4, .int a3, .int a2, .int a1, .ref 12], mT s)) rfl ?_
            refine w_callL K (E := f_Things_put a1 a2 a3 a4 s) (g := fun (x15 : Int32 × mS) => (some (.int x15.1), mT x15.2)) rfl (m_Things_put (len := len) (xs := xs) (d + 0) a1 a2 a3 a4 s) (fun x15 => ?_)
            refine w_go K 0 (c' := (64, [some (.ref 0), some (.int a1), some (.int a2), some (.int a3), some (.int a4)], [.int x15.1], mT x15.2)) rfl ?_
            exact w_ret K rfl (hK _)
theorem m_G_thing {len : Nat} {xs : Nat → Int32}  (d : Nat) (a1 : Int32) (a2 : Int32) (a3 : Int32) (a4 : Int32) (s : mS) : ok_G_thing a1 a2 a3 a4 s → mm_call (mm_X len xs) mm_Y (d + 2) 31 [.ref 0, .int a1, .int a2, .int a3, .int a4] (mT s) = some (some (.int (f_G_thing a1 a2 a3 a4 s).1), mT (f_G_thing a1 a2 a3 a4 s).2) := fun h => t_G_thing (len := len) (xs := xs) d a1 a2 a3 a4 s (fun t => (some (some (.int t.1), mT t.2) : Option mm_R) = some (some (.int (f_G_thing a1 a2 a3 a4 s).1), mT (f_G_thing a1 a2 a3 a4 s).2)) (fun _ h => h) h rfl
def f_M_thing (a1 : Int32) (a2 : Int32) (a3 : Int32) (a4 : Int32) (s : mS) : Int32 × mS := (mq_let (f_M_isNode a1 s) (fun (x10 : Int32) => (if x10 = 0 then ((-1), s) else (mq_let (f_M_isIn a2 (0 : Int32) (3 : Int32) s) (fun (x11 : Int32) => (if x11 = 0 then ((-1), s) else (mq_let (f_M_isIn a3 (0 : Int32) (99 : Int32) s) (fun (x12 : Int32) => (if x12 = 0 then ((-1), s) else (mq_let (if a2 = 1 then (15 : Int32) else (0 : Int32)) (fun (x13 : Int32) => (mq_let (f_M_isIn a4 (0 : Int32) x13 s) (fun (x14 : Int32) => (if x14 = 0 then ((-1), s) else (if (gI s 116 8) = 40 then ((-1), s) else ((((gI s 116 8) + 1) - 1), sI (sI (sI (sI (sI s 132 (ix (gI s 116 8)) a1) 133 (ix (gI s 116 8)) a2) 134 (ix (gI s 116 8)) a3) 135 (ix (gI s 116 8)) a4) 116 8 ((gI s 116 8) + 1)))))))))))))))))
def ok_M_thing (a1 : Int32) (a2 : Int32) (a3 : Int32) (a4 : Int32) (s : mS) : Prop := (ok_M_isNode a1 s ∧ mq_letP (f_M_isNode a1 s) (fun (x10 : Int32) => (if x10 = 0 then True else (True ∧ mq_letP (f_M_isIn a2 (0 : Int32) (3 : Int32) s) (fun (x11 : Int32) => (if x11 = 0 then True else (True ∧ mq_letP (f_M_isIn a3 (0 : Int32) (99 : Int32) s) (fun (x12 : Int32) => (if x12 = 0 then True else (True ∧ mq_letP (if a2 = 1 then (15 : Int32) else (0 : Int32)) (fun (x13 : Int32) => (True ∧ mq_letP (f_M_isIn a4 (0 : Int32) x13 s) (fun (x14 : Int32) => (if x14 = 0 then True else (if (gI s 116 8) = 40 then True else (mm_inb (gI s 116 8) 40 = true ∧ (mm_inb (gI s 116 8) 40 = true ∧ (mm_inb (gI s 116 8) 40 = true ∧ (mm_inb (gI s 116 8) 40 = true ∧ True)))))))))))))))))))
set_option maxRecDepth 4000 in
theorem t_M_thing {len : Nat} {xs : Nat → Int32}  (d : Nat) (a1 : Int32) (a2 : Int32) (a3 : Int32) (a4 : Int32) (s : mS) {T : Option mm_R} (K : Int32 × mS → Prop) (hK : ∀ t, K t → some (some (.int t.1), mT t.2) = T) : ok_M_thing a1 a2 a3 a4 s → K (f_M_thing a1 a2 a3 a4 s) → mm_fix (mm_X len xs) mm_Y (mm_call (mm_X len xs) mm_Y (d + 2)) (mm_look mc_M_thing) (0, [some (.ref 116), some (.int a1), some (.int a2), some (.int a3), some (.int a4)], [], mT s) = T := by
  unfold ok_M_thing f_M_thing
  refine w_go K 2 (c' := (2, [some (.ref 116), some (.int a1), some (.int a2), some (.int a3), some (.int a4)], [.int a1, .ref 116], mT s)) rfl ?_
  refine w_callL K (E := f_M_isNode a1 s) (g := fun (x10 : Int32) => (some (.int x10), mT s)) rfl (m_M_isNode (len := len) (xs := xs) (d + 0) a1 s) (fun x10 => ?_)
  refine w_go K 0 (c' := (5, [some (.ref 116), some (.int a1), some (.int a2), some (.int a3), some (.int a4)], [.int x10], mT s)) rfl ?_
  refine w_zeq K rfl (fun _ => ?_) (fun _ => ?_)
  · refine w_go K 1 (c' := (57, [some (.ref 116), some (.int a1), some (.int a2), some (.int a3), some (.int a4)], [.int (-1)], mT s)) rfl ?_
    exact w_ret K rfl (hK _)
  · refine w_go K 3 (c' := (11, [some (.ref 116), some (.int a1), some (.int a2), some (.int a3), some (.int a4)], [.int 3, .int 0, .int a2], mT s)) rfl ?_
    refine w_callL K (E := f_M_isIn a2 (0 : Int32) (3 : Int32) s) (g := fun (x11 : Int32) => (some (.int x11), mT s)) rfl (m_M_isIn (len := len) (xs := xs) (d + 1) a2 (0 : Int32) (3 : Int32) s) (fun x11 => ?_)
    refine w_go K 0 (c' := (14, [some (.ref 116), some (.int a1), some (.int a2), some (.int a3), some (.int a4)], [.int x11], mT s)) rfl ?_
    refine w_zeq K rfl (fun _ => ?_) (fun _ => ?_)
    · refine w_go K 1 (c' := (57, [some (.ref 116), some (.int a1), some (.int a2), some (.int a3), some (.int a4)], [.int (-1)], mT s)) rfl ?_
      exact w_ret K rfl (hK _)
    · refine w_go K 3 (c' := (21, [some (.ref 116), some (.int a1), some (.int a2), some (.int a3), some (.int a4)], [.int 99, .int 0, .int a3], mT s)) rfl ?_
      refine w_callL K (E := f_M_isIn a3 (0 : Int32) (99 : Int32) s) (g := fun (x12 : Int32) => (some (.int x12), mT s)) rfl (m_M_isIn (len := len) (xs := xs) (d + 1) a3 (0 : Int32) (99 : Int32) s) (fun x12 => ?_)
      refine w_go K 0 (c' := (24, [some (.ref 116), some (.int a1), some (.int a2), some (.int a3), some (.int a4)], [.int x12], mT s)) rfl ?_
      refine w_zeq K rfl (fun _ => ?_) (fun _ => ?_)
      · refine w_go K 1 (c' := (57, [some (.ref 116), some (.int a1), some (.int a2), some (.int a3), some (.int a4)], [.int (-1)], mT s)) rfl ?_
        exact w_ret K rfl (hK _)
      · refine w_go K 4 (c' := (32, [some (.ref 116), some (.int a1), some (.int a2), some (.int a3), some (.int a4)], [.int 1, .int a2, .int 0, .int a4], mT s)) rfl ?_
        refine w_join K (fun (x13 : Int32) => mm_fix (mm_X len xs) mm_Y (mm_call (mm_X len xs) mm_Y (d + 2)) (mm_look mc_M_thing) (41, [some (.ref 116), some (.int a1), some (.int a2), some (.int a3), some (.int a4)], [.int x13, .int 0, .int a4], mT s) = T) (fun K hJ => ?_) (fun x13 h1 h2 => ?_)
        · refine w_go K 0 (c' := (32, [some (.ref 116), some (.int a1), some (.int a2), some (.int a3), some (.int a4)], [.int 1, .int a2, .int 0, .int a4], mT s)) rfl ?_
          refine w_ineT K rfl (fun _ => ?_) (fun _ => ?_)
          · refine w_go K 2 (c' := (41, [some (.ref 116), some (.int a1), some (.int a2), some (.int a3), some (.int a4)], [.int 15, .int 0, .int a4], mT s)) rfl ?_
            exact fun _ h => hJ _ h
          · refine w_go K 1 (c' := (41, [some (.ref 116), some (.int a1), some (.int a2), some (.int a3), some (.int a4)], [.int 0, .int 0, .int a4], mT s)) rfl ?_
            exact fun _ h => hJ _ h
        · revert h1 h2
          refine w_go K 0 (c' := (41, [some (.ref 116), some (.int a1), some (.int a2), some (.int a3), some (.int a4)], [.int x13, .int 0, .int a4], mT s)) rfl ?_
          refine w_callL K (E := f_M_isIn a4 (0 : Int32) x13 s) (g := fun (x14 : Int32) => (some (.int x14), mT s)) rfl (m_M_isIn (len := len) (xs := xs) (d + 1) a4 (0 : Int32) x13 s) (fun x14 => ?_)
          refine w_go K 0 (c' := (44, [some (.ref 116), some (.int a1), some (.int a2), some (.int a3), some (.int a4)], [.int x14], mT s)) rfl ?_
          refine w_zeq K rfl (fun _ => ?_) (fun _ => ?_)
          · refine w_go K 1 (c' := (57, [some (.ref 116), some (.int a1), some (.int a2), some (.int a3), some (.int a4)], [.int (-1)], mT s)) rfl ?_
            exact w_ret K rfl (hK _)
          · refine w_go K 3 (c' := (53, [some (.ref 116), some (.int a1), some (.int a2), some (.int a3), some (.int a4)], [.int 40, .int (gI s 116 8)], mT s)) rfl ?_
            refine w_ine K rfl (fun _ => ?_) (fun _ => ?_)
            · refine w_go K 1 (c' := (57, [some (.ref 116), some (.int a1), some (.int a2), some (.int a3), some (.int a4)], [.int (-1)], mT s)) rfl ?_
              exact w_ret K rfl (hK _)
            · refine w_go K 5 (c' := (67, [some (.ref 116), some (.int a1), some (.int a2), some (.int a3), some (.int a4)], [.int a1, .int (gI s 116 8), .ref 132], mT s)) rfl ?_
              refine w_ck K (st_iS rfl rfl) ?_
              refine w_go K 5 (c' := (77, [some (.ref 116), some (.int a1), some (.int a2), some (.int a3), some (.int a4)], [.int a2, .int (gI s 116 8), .ref 133], mT (sI s 132 (ix (gI s 116 8)) a1))) rfl ?_
              refine w_ck K (st_iS rfl rfl) ?_
              refine w_go K 5 (c' := (87, [some (.ref 116), some (.int a1), some (.int a2), some (.int a3), some (.int a4)], [.int a3, .int (gI s 116 8), .ref 134], mT (sI (sI s 132 (ix (gI s 116 8)) a1) 133 (ix (gI s 116 8)) a2))) rfl ?_
              refine w_ck K (st_iS rfl rfl) ?_
              refine w_go K 5 (c' := (98, [some (.ref 116), some (.int a1), some (.int a2), some (.int a3), some (.int a4)], [.int a4, .int (gI s 116 8), .ref 135], mT (sI (sI (sI s 132 (ix (gI s 116 8)) a1) 133 (ix (gI s 116 8)) a2) 134 (ix (gI s 116 8)) a3))) rfl ?_
              refine w_ck K (st_iS rfl rfl) ?_
              refine w_go K 10 (c' := (115, [some (.ref 116), some (.int a1), some (.int a2), some (.int a3), some (.int a4)], [.int (((gI s 116 8) + 1) - 1)], mT (sI (sI (sI (sI (sI s 132 (ix (gI s 116 8)) a1) 133 (ix (gI s 116 8)) a2) 134 (ix (gI s 116 8)) a3) 135 (ix (gI s 116 8)) a4) 116 8 ((gI s 116 8) + 1)))) rfl ?_
              exact w_ret K rfl (hK _)
theorem m_M_thing {len : Nat} {xs : Nat → Int32}  (d : Nat) (a1 : Int32) (a2 : Int32) (a3 : Int32) (a4 : Int32) (s : mS) : ok_M_thing a1 a2 a3 a4 s → mm_call (mm_X len xs) mm_Y (d + 3) 173 [.ref 116, .int a1, .int a2, .int a3, .int a4] (mT s) = some (some (.int (f_M_thing a1 a2 a3 a4 s).1), mT (f_M_thing a1 a2 a3 a4 s).2) := fun h => t_M_thing (len := len) (xs := xs) d a1 a2 a3 a4 s (fun t => (some (some (.int t.1), mT t.2) : Option mm_R) = some (some (.int (f_M_thing a1 a2 a3 a4 s).1), mT (f_M_thing a1 a2 a3 a4 s).2)) (fun _ h => h) h rfl
def f_Things_has (a1 : Int32) (s : mS) : Int32 := (if a1 < 0 then 0 else (if (gI s 12 12) ≤ a1 then 0 else (if (40 : Int32) ≤ a1 then 0 else 1)))
set_option maxRecDepth 4000 in
theorem t_Things_has {len : Nat} {xs : Nat → Int32}  (d : Nat) (a1 : Int32) (s : mS) {T : Option mm_R} (K : Int32 → Prop) (hK : ∀ t, K t → some (some (.int t), mT s) = T) : True → K (f_Things_has a1 s) → mm_fix (mm_X len xs) mm_Y (mm_call (mm_X len xs) mm_Y (d + 0)) (mm_look mc_Things_has) (0, [some (.ref 12), some (.int a1)], [], mT s) = T := by
  unfold f_Things_has
  refine w_go K 1 (c' := (1, [some (.ref 12), some (.int a1)], [.int a1], mT s)) rfl ?_
  refine w_zltT K rfl (fun _ => ?_) (fun _ => ?_)
  · refine w_go K 1 (c' := (23, [some (.ref 12), some (.int a1)], [.int 0], mT s)) rfl ?_
    exact w_ret K rfl (hK _)
  · refine w_go K 3 (c' := (9, [some (.ref 12), some (.int a1)], [.int (gI s 12 12), .int a1], mT s)) rfl ?_
    refine w_igeT K rfl (fun _ => ?_) (fun _ => ?_)
    · refine w_go K 1 (c' := (23, [some (.ref 12), some (.int a1)], [.int 0], mT s)) rfl ?_
      exact w_ret K rfl (hK _)
    · refine w_go K 2 (c' := (15, [some (.ref 12), some (.int a1)], [.int 40, .int a1], mT s)) rfl ?_
      refine w_igeT K rfl (fun _ => ?_) (fun _ => ?_)
      · refine w_go K 1 (c' := (23, [some (.ref 12), some (.int a1)], [.int 0], mT s)) rfl ?_
        exact w_ret K rfl (hK _)
      · refine w_go K 2 (c' := (23, [some (.ref 12), some (.int a1)], [.int 1], mT s)) rfl ?_
        exact w_ret K rfl (hK _)
theorem m_Things_has {len : Nat} {xs : Nat → Int32}  (d : Nat) (a1 : Int32) (s : mS) : True → mm_call (mm_X len xs) mm_Y (d + 1) 34 [.ref 12, .int a1] (mT s) = some (some (.int (f_Things_has a1 s)), mT s) := fun h => t_Things_has (len := len) (xs := xs) d a1 s (fun t => (some (some (.int t), mT s) : Option mm_R) = some (some (.int (f_Things_has a1 s)), mT s)) (fun _ h => h) h rfl
def f_G_cut (a1 : Int32) (a2 : Int32) (s : mS) : Int32 × mS := (mq_let (f_Things_has a1 s) (fun (x10 : Int32) => (if x10 = 0 then (0, s) else (if (gI s 17 (ix a1)) = a2 then (0, s) else (1, sI s 17 (ix a1) a2)))))
def ok_G_cut (a1 : Int32) (a2 : Int32) (s : mS) : Prop := (True ∧ mq_letP (f_Things_has a1 s) (fun (x10 : Int32) => (if x10 = 0 then True else (mm_inb a1 40 = true ∧ (if (gI s 17 (ix a1)) = a2 then True else ((mm_inb a1 40 && mm_bit a2) = true ∧ True))))))
set_option maxRecDepth 4000 in
theorem t_G_cut {len : Nat} {xs : Nat → Int32}  (d : Nat) (a1 : Int32) (a2 : Int32) (s : mS) {T : Option mm_R} (K : Int32 × mS → Prop) (hK : ∀ t, K t → some (some (.int t.1), mT t.2) = T) : ok_G_cut a1 a2 s → K (f_G_cut a1 a2 s) → mm_fix (mm_X len xs) mm_Y (mm_call (mm_X len xs) mm_Y (d + 1)) (mm_look mc_G_cut) (0, [some (.ref 0), some (.int a1), some (.int a2)], [], mT s) = T := by
  unfold ok_G_cut f_G_cut
  refine w_go K 3 (c' := (5, [some (.ref 0), some (.int a1), some (.int a2)], [.int a1, .ref 12], mT s)) rfl ?_
  refine w_callL K (E := f_Things_has a1 s) (g := fun (x10 : Int32) => (some (.int x10), mT s)) rfl (m_Things_has (len := len) (xs := xs) (d + 0) a1 s) (fun x10 => ?_)
  refine w_go K 0 (c' := (8, [some (.ref 0), some (.int a1), some (.int a2)], [.int x10], mT s)) rfl ?_
  refine w_zeq K rfl (fun _ => ?_) (fun _ => ?_)
  · refine w_go K 1 (c' := (25, [some (.ref 0), some (.int a1), some (.int a2)], [.int 0], mT s)) rfl ?_
    exact w_ret K rfl (hK _)
  · refine w_go K 4 (c' := (19, [some (.ref 0), some (.int a1), some (.int a2)], [.int a1, .ref 17], mT s)) rfl ?_
    refine w_ck K (st_bL rfl rfl) ?_
    refine w_go K 1 (c' := (21, [some (.ref 0), some (.int a1), some (.int a2)], [.int a2, .int (gI s 17 (ix a1))], mT s)) rfl ?_
    refine w_ine K rfl (fun _ => ?_) (fun _ => ?_)
    · refine w_go K 1 (c' := (25, [some (.ref 0), some (.int a1), some (.int a2)], [.int 0], mT s)) rfl ?_
      exact w_ret K rfl (hK _)
    · refine w_go K 5 (c' := (35, [some (.ref 0), some (.int a1), some (.int a2)], [.int a2, .int a1, .ref 17], mT s)) rfl ?_
      refine w_ck K (st_bS rfl rfl) ?_
      refine w_go K 1 (c' := (37, [some (.ref 0), some (.int a1), some (.int a2)], [.int 1], mT (sI s 17 (ix a1) a2))) rfl ?_
      exact w_ret K rfl (hK _)
theorem m_G_cut {len : Nat} {xs : Nat → Int32}  (d : Nat) (a1 : Int32) (a2 : Int32) (s : mS) : ok_G_cut a1 a2 s → mm_call (mm_X len xs) mm_Y (d + 2) 33 [.ref 0, .int a1, .int a2] (mT s) = some (some (.int (f_G_cut a1 a2 s).1), mT (f_G_cut a1 a2 s).2) := fun h => t_G_cut (len := len) (xs := xs) d a1 a2 s (fun t => (some (some (.int t.1), mT t.2) : Option mm_R) = some (some (.int (f_G_cut a1 a2 s).1), mT (f_G_cut a1 a2 s).2)) (fun _ h => h) h rfl
def f_M_isThing (a1 : Int32) (s : mS) : Int32 := (mq_let (f_M_isIn a1 (0 : Int32) ((gI s 116 8) - 1) s) (fun (x10 : Int32) => x10))
def ok_M_isThing (a1 : Int32) (s : mS) : Prop := (True ∧ mq_letP (f_M_isIn a1 (0 : Int32) ((gI s 116 8) - 1) s) (fun (x10 : Int32) => mm_bit x10 = true))
set_option maxRecDepth 4000 in
theorem t_M_isThing {len : Nat} {xs : Nat → Int32}  (d : Nat) (a1 : Int32) (s : mS) {T : Option mm_R} (K : Int32 → Prop) (hK : ∀ t, K t → some (some (.int t), mT s) = T) : ok_M_isThing a1 s → K (f_M_isThing a1 s) → mm_fix (mm_X len xs) mm_Y (mm_call (mm_X len xs) mm_Y (d + 1)) (mm_look mc_M_isThing) (0, [some (.ref 116), some (.int a1)], [], mT s) = T := by
  unfold ok_M_isThing f_M_isThing
  refine w_go K 6 (c' := (8, [some (.ref 116), some (.int a1)], [.int ((gI s 116 8) - 1), .int 0, .int a1], mT s)) rfl ?_
  refine w_callL K (E := f_M_isIn a1 (0 : Int32) ((gI s 116 8) - 1) s) (g := fun (x10 : Int32) => (some (.int x10), mT s)) rfl (m_M_isIn (len := len) (xs := xs) (d + 0) a1 (0 : Int32) ((gI s 116 8) - 1) s) (fun x10 => ?_)
  refine w_go K 0 (c' := (11, [some (.ref 116), some (.int a1)], [.int x10], mT s)) rfl ?_
  exact w_retb K rfl (hK _)
theorem m_M_isThing {len : Nat} {xs : Nat → Int32}  (d : Nat) (a1 : Int32) (s : mS) : ok_M_isThing a1 s → mm_call (mm_X len xs) mm_Y (d + 2) 175 [.ref 116, .int a1] (mT s) = some (some (.int (f_M_isThing a1 s)), mT s) := fun h => t_M_isThing (len := len) (xs := xs) d a1 s (fun t => (some (some (.int t), mT s) : Option mm_R) = some (some (.int (f_M_isThing a1 s)), mT s)) (fun _ h => h) h rfl
def f_M_cut (a1 : Int32) (a2 : Int32) (s : mS) : Int32 × mS := (mq_let (f_M_isThing a1 s) (fun (x10 : Int32) => (if x10 = 0 then (0, s) else (if (gI s 140 (ix a1)) = a2 then (0, s) else (1, sI s 140 (ix a1) a2)))))
def ok_M_cut (a1 : Int32) (a2 : Int32) (s : mS) : Prop := (ok_M_isThing a1 s ∧ mq_letP (f_M_isThing a1 s) (fun (x10 : Int32) => (if x10 = 0 then True else (mm_inb a1 40 = true ∧ (if (gI s 140 (ix a1)) = a2 then True else ((mm_inb a1 40 && mm_bit a2) = true ∧ True))))))
set_option maxRecDepth 4000 in
theorem t_M_cut {len : Nat} {xs : Nat → Int32}  (d : Nat) (a1 : Int32) (a2 : Int32) (s : mS) {T : Option mm_R} (K : Int32 × mS → Prop) (hK : ∀ t, K t → some (some (.int t.1), mT t.2) = T) : ok_M_cut a1 a2 s → K (f_M_cut a1 a2 s) → mm_fix (mm_X len xs) mm_Y (mm_call (mm_X len xs) mm_Y (d + 2)) (mm_look mc_M_cut) (0, [some (.ref 116), some (.int a1), some (.int a2)], [], mT s) = T := by
  unfold ok_M_cut f_M_cut
  refine w_go K 2 (c' := (2, [some (.ref 116), some (.int a1), some (.int a2)], [.int a1, .ref 116], mT s)) rfl ?_
  refine w_callL K (E := f_M_isThing a1 s) (g := fun (x10 : Int32) => (some (.int x10), mT s)) rfl (m_M_isThing (len := len) (xs := xs) (d + 0) a1 s) (fun x10 => ?_)
  refine w_go K 0 (c' := (5, [some (.ref 116), some (.int a1), some (.int a2)], [.int x10], mT s)) rfl ?_
  refine w_zeq K rfl (fun _ => ?_) (fun _ => ?_)
  · refine w_go K 1 (c' := (19, [some (.ref 116), some (.int a1), some (.int a2)], [.int 0], mT s)) rfl ?_
    exact w_ret K rfl (hK _)
  · refine w_go K 3 (c' := (13, [some (.ref 116), some (.int a1), some (.int a2)], [.int a1, .ref 140], mT s)) rfl ?_
    refine w_ck K (st_bL rfl rfl) ?_
    refine w_go K 1 (c' := (15, [some (.ref 116), some (.int a1), some (.int a2)], [.int a2, .int (gI s 140 (ix a1))], mT s)) rfl ?_
    refine w_ine K rfl (fun _ => ?_) (fun _ => ?_)
    · refine w_go K 1 (c' := (19, [some (.ref 116), some (.int a1), some (.int a2)], [.int 0], mT s)) rfl ?_
      exact w_ret K rfl (hK _)
    · refine w_go K 4 (c' := (26, [some (.ref 116), some (.int a1), some (.int a2)], [.int a2, .int a1, .ref 140], mT s)) rfl ?_
      refine w_ck K (st_bS rfl rfl) ?_
      refine w_go K 1 (c' := (28, [some (.ref 116), some (.int a1), some (.int a2)], [.int 1], mT (sI s 140 (ix a1) a2))) rfl ?_
      exact w_ret K rfl (hK _)
theorem m_M_cut {len : Nat} {xs : Nat → Int32}  (d : Nat) (a1 : Int32) (a2 : Int32) (s : mS) : ok_M_cut a1 a2 s → mm_call (mm_X len xs) mm_Y (d + 3) 174 [.ref 116, .int a1, .int a2] (mT s) = some (some (.int (f_M_cut a1 a2 s).1), mT (f_M_cut a1 a2 s).2) := fun h => t_M_cut (len := len) (xs := xs) d a1 a2 s (fun t => (some (some (.int t.1), mT t.2) : Option mm_R) = some (some (.int (f_M_cut a1 a2 s).1), mT (f_M_cut a1 a2 s).2)) (fun _ h => h) h rfl
def f_Things_isA (a1 : Int32) (a2 : Int32) (s : mS) : Int32 := (mq_let (f_Things_has a1 s) (fun (x10 : Int32) => (if x10 = 0 then 0 else (if (gI s 14 (ix a1)) = a2 then 1 else 0))))
def ok_Things_isA (a1 : Int32) (a2 : Int32) (s : mS) : Prop := (True ∧ mq_letP (f_Things_has a1 s) (fun (x10 : Int32) => (if x10 = 0 then True else (mm_inb a1 40 = true ∧ True))))
set_option maxRecDepth 4000 in
theorem t_Things_isA {len : Nat} {xs : Nat → Int32}  (d : Nat) (a1 : Int32) (a2 : Int32) (s : mS) {T : Option mm_R} (K : Int32 → Prop) (hK : ∀ t, K t → some (some (.int t), mT s) = T) : ok_Things_isA a1 a2 s → K (f_Things_isA a1 a2 s) → mm_fix (mm_X len xs) mm_Y (mm_call (mm_X len xs) mm_Y (d + 1)) (mm_look mc_Things_isA) (0, [some (.ref 12), some (.int a1), some (.int a2)], [], mT s) = T := by
  unfold ok_Things_isA f_Things_isA
  refine w_go K 2 (c' := (2, [some (.ref 12), some (.int a1), some (.int a2)], [.int a1, .ref 12], mT s)) rfl ?_
  refine w_callL K (E := f_Things_has a1 s) (g := fun (x10 : Int32) => (some (.int x10), mT s)) rfl (m_Things_has (len := len) (xs := xs) (d + 0) a1 s) (fun x10 => ?_)
  refine w_go K 0 (c' := (5, [some (.ref 12), some (.int a1), some (.int a2)], [.int x10], mT s)) rfl ?_
  refine w_zeq K rfl (fun _ => ?_) (fun _ => ?_)
  · refine w_go K 1 (c' := (23, [some (.ref 12), some (.int a1), some (.int a2)], [.int 0], mT s)) rfl ?_
    exact w_ret K rfl (hK _)
  · refine w_go K 3 (c' := (13, [some (.ref 12), some (.int a1), some (.int a2)], [.int a1, .ref 14], mT s)) rfl ?_
    refine w_ck K (st_iL rfl rfl) ?_
    refine w_go K 1 (c' := (15, [some (.ref 12), some (.int a1), some (.int a2)], [.int a2, .int (gI s 14 (ix a1))], mT s)) rfl ?_
    refine w_ineT K rfl (fun _ => ?_) (fun _ => ?_)
    · refine w_go K 2 (c' := (23, [some (.ref 12), some (.int a1), some (.int a2)], [.int 1], mT s)) rfl ?_
      exact w_ret K rfl (hK _)
    · refine w_go K 1 (c' := (23, [some (.ref 12), some (.int a1), some (.int a2)], [.int 0], mT s)) rfl ?_
      exact w_ret K rfl (hK _)
theorem m_Things_isA {len : Nat} {xs : Nat → Int32}  (d : Nat) (a1 : Int32) (a2 : Int32) (s : mS) : ok_Things_isA a1 a2 s → mm_call (mm_X len xs) mm_Y (d + 2) 36 [.ref 12, .int a1, .int a2] (mT s) = some (some (.int (f_Things_isA a1 a2 s)), mT s) := fun h => t_Things_isA (len := len) (xs := xs) d a1 a2 s (fun t => (some (some (.int t), mT s) : Option mm_R) = some (some (.int (f_Things_isA a1 a2 s)), mT s)) (fun _ h => h) h rfl
def f_G_coin (a1 : Int32) (a2 : Int32) (s : mS) : Int32 × mS := (mq_let (f_Things_isA a1 (2 : Int32) s) (fun (x10 : Int32) => (if x10 = 0 then ((-1), s) else (mq_let (f_G_within a2 (1 : Int32) (99 : Int32) s) (fun (x11 : Int32) => (if x11 = 0 then ((-1), s) else ((gI (sI s 19 (ix a1) ((gI s 19 (ix a1)) + (50 * a2))) 19 (ix a1)), sI s 19 (ix a1) ((gI s 19 (ix a1)) + (50 * a2)))))))))
def ok_G_coin (a1 : Int32) (a2 : Int32) (s : mS) : Prop := (ok_Things_isA a1 (2 : Int32) s ∧ mq_letP (f_Things_isA a1 (2 : Int32) s) (fun (x10 : Int32) => (if x10 = 0 then True else (True ∧ mq_letP (f_G_within a2 (1 : Int32) (99 : Int32) s) (fun (x11 : Int32) => (if x11 = 0 then True else (mm_inb a1 40 = true ∧ (mm_inb a1 40 = true ∧ (mm_inb a1 40 = true ∧ True)))))))))
set_option maxRecDepth 4000 in
theorem t_G_coin {len : Nat} {xs : Nat → Int32}  (d : Nat) (a1 : Int32) (a2 : Int32) (s : mS) {T : Option mm_R} (K : Int32 × mS → Prop) (hK : ∀ t, K t → some (some (.int t.1), mT t.2) = T) : ok_G_coin a1 a2 s → K (f_G_coin a1 a2 s) → mm_fix (mm_X len xs) mm_Y (mm_call (mm_X len xs) mm_Y (d + 2)) (mm_look mc_G_coin) (0, [some (.ref 0), some (.int a1), some (.int a2)], [], mT s) = T := by
  unfold ok_G_coin f_G_coin
  refine w_go K 4 (c' := (6, [some (.ref 0), some (.int a1), some (.int a2)], [.int 2, .int a1, .ref 12], mT s)) rfl ?_
  refine w_callL K (E := f_Things_isA a1 (2 : Int32) s) (g := fun (x10 : Int32) => (some (.int x10), mT s)) rfl (m_Things_isA (len := len) (xs := xs) (d + 0) a1 (2 : Int32) s) (fun x10 => ?_)
  refine w_go K 0 (c' := (9, [some (.ref 0), some (.int a1), some (.int a2)], [.int x10], mT s)) rfl ?_
  refine w_zeq K rfl (fun _ => ?_) (fun _ => ?_)
  · refine w_go K 1 (c' := (23, [some (.ref 0), some (.int a1), some (.int a2)], [.int (-1)], mT s)) rfl ?_
    exact w_ret K rfl (hK _)
  · refine w_go K 3 (c' := (16, [some (.ref 0), some (.int a1), some (.int a2)], [.int 99, .int 1, .int a2], mT s)) rfl ?_
    refine w_callL K (E := f_G_within a2 (1 : Int32) (99 : Int32) s) (g := fun (x11 : Int32) => (some (.int x11), mT s)) rfl (m_G_within (len := len) (xs := xs) (d + 1) a2 (1 : Int32) (99 : Int32) s) (fun x11 => ?_)
    refine w_go K 0 (c' := (19, [some (.ref 0), some (.int a1), some (.int a2)], [.int x11], mT s)) rfl ?_
    refine w_zne K rfl (fun _ => ?_) (fun _ => ?_)
    · refine w_go K 1 (c' := (23, [some (.ref 0), some (.int a1), some (.int a2)], [.int (-1)], mT s)) rfl ?_
      exact w_ret K rfl (hK _)
    · refine w_go K 5 (c' := (33, [some (.ref 0), some (.int a1), some (.int a2)], [.int a1, .ref 19, .int a1, .ref 19], mT s)) rfl ?_
      refine w_ck K (st_iL rfl rfl) ?_
      refine w_go K 4 (c' := (39, [some (.ref 0), some (.int a1), some (.int a2)], [.int ((gI s 19 (ix a1)) + (50 * a2)), .int a1, .ref 19], mT s)) rfl ?_
      refine w_ck K (st_iS rfl rfl) ?_
      refine w_go K 4 (c' := (48, [some (.ref 0), some (.int a1), some (.int a2)], [.int a1, .ref 19], mT (sI s 19 (ix a1) ((gI s 19 (ix a1)) + (50 * a2))))) rfl ?_
      refine w_ck K (st_iL rfl rfl) ?_
      refine w_go K 0 (c' := (49, [some (.ref 0), some (.int a1), some (.int a2)], [.int (gI (sI s 19 (ix a1) ((gI s 19 (ix a1)) + (50 * a2))) 19 (ix a1))], mT (sI s 19 (ix a1) ((gI s 19 (ix a1)) + (50 * a2))))) rfl ?_
      exact w_ret K rfl (hK _)
theorem m_G_coin {len : Nat} {xs : Nat → Int32}  (d : Nat) (a1 : Int32) (a2 : Int32) (s : mS) : ok_G_coin a1 a2 s → mm_call (mm_X len xs) mm_Y (d + 3) 35 [.ref 0, .int a1, .int a2] (mT s) = some (some (.int (f_G_coin a1 a2 s).1), mT (f_G_coin a1 a2 s).2) := fun h => t_G_coin (len := len) (xs := xs) d a1 a2 s (fun t => (some (some (.int t.1), mT t.2) : Option mm_R) = some (some (.int (f_G_coin a1 a2 s).1), mT (f_G_coin a1 a2 s).2)) (fun _ h => h) h rfl
def f_M_coin (a1 : Int32) (a2 : Int32) (s : mS) : Int32 × mS := (mq_let (f_M_isThing a1 s) (fun (x10 : Int32) => (if x10 = 0 then ((-1), s) else (if (gI s 133 (ix a1)) = 2 then (mq_let (f_M_isIn a2 (1 : Int32) (99 : Int32) s) (fun (x11 : Int32) => (if x11 = 0 then ((-1), s) else ((gI (sI s 136 (ix a1) ((gI s 136 (ix a1)) + (50 * a2))) 136 (ix a1)), sI s 136 (ix a1) ((gI s 136 (ix a1)) + (50 * a2)))))) else ((-1), s)))))
def ok_M_coin (a1 : Int32) (a2 : Int32) (s : mS) : Prop := (ok_M_isThing a1 s ∧ mq_letP (f_M_isThing a1 s) (fun (x10 : Int32) => (if x10 = 0 then True else (mm_inb a1 40 = true ∧ (if (gI s 133 (ix a1)) = 2 then (True ∧ mq_letP (f_M_isIn a2 (1 : Int32) (99 : Int32) s) (fun (x11 : Int32) => (if x11 = 0 then True else (mm_inb a1 40 = true ∧ (mm_inb a1 40 = true ∧ (mm_inb a1 40 = true ∧ True)))))) else True)))))
set_option maxRecDepth 4000 in
theorem t_M_coin {len : Nat} {xs : Nat → Int32}  (d : Nat) (a1 : Int32) (a2 : Int32) (s : mS) {T : Option mm_R} (K : Int32 × mS → Prop) (hK : ∀ t, K t → some (some (.int t.1), mT t.2) = T) : ok_M_coin a1 a2 s → K (f_M_coin a1 a2 s) → mm_fix (mm_X len xs) mm_Y (mm_call (mm_X len xs) mm_Y (d + 2)) (mm_look mc_M_coin) (0, [some (.ref 116), some (.int a1), some (.int a2)], [], mT s) = T := by
  unfold ok_M_coin f_M_coin
  refine w_go K 2 (c' := (2, [some (.ref 116), some (.int a1), some (.int a2)], [.int a1, .ref 116], mT s)) rfl ?_
  refine w_callL K (E := f_M_isThing a1 s) (g := fun (x10 : Int32) => (some (.int x10), mT s)) rfl (m_M_isThing (len := len) (xs := xs) (d + 0) a1 s) (fun x10 => ?_)
  refine w_go K 0 (c' := (5, [some (.ref 116), some (.int a1), some (.int a2)], [.int x10], mT s)) rfl ?_
  refine w_zeq K rfl (fun _ => ?_) (fun _ => ?_)
  · refine w_go K 1 (c' := (29, [some (.ref 116), some (.int a1), some (.int a2)], [.int (-1)], mT s)) rfl ?_
    exact w_ret K rfl (hK _)
  · refine w_go K 3 (c' := (13, [some (.ref 116), some (.int a1), some (.int a2)], [.int a1, .ref 133], mT s)) rfl ?_
    refine w_ck K (st_iL rfl rfl) ?_
    refine w_go K 1 (c' := (15, [some (.ref 116), some (.int a1), some (.int a2)], [.int 2, .int (gI s 133 (ix a1))], mT s)) rfl ?_
    refine w_ine K rfl (fun _ => ?_) (fun _ => ?_)
    · refine w_go K 3 (c' := (22, [some (.ref 116), some (.int a1), some (.int a2)], [.int 99, .int 1, .int a2], mT s)) rfl ?_
      refine w_callL K (E := f_M_isIn a2 (1 : Int32) (99 : Int32) s) (g := fun (x11 : Int32) => (some (.int x11), mT s)) rfl (m_M_isIn (len := len) (xs := xs) (d + 1) a2 (1 : Int32) (99 : Int32) s) (fun x11 => ?_)
      refine w_go K 0 (c' := (25, [some (.ref 116), some (.int a1), some (.int a2)], [.int x11], mT s)) rfl ?_
      refine w_zne K rfl (fun _ => ?_) (fun _ => ?_)
      · refine w_go K 1 (c' := (29, [some (.ref 116), some (.int a1), some (.int a2)], [.int (-1)], mT s)) rfl ?_
        exact w_ret K rfl (hK _)
      · refine w_go K 4 (c' := (36, [some (.ref 116), some (.int a1), some (.int a2)], [.int a1, .ref 136, .int a1, .ref 136], mT s)) rfl ?_
        refine w_ck K (st_iL rfl rfl) ?_
        refine w_go K 4 (c' := (42, [some (.ref 116), some (.int a1), some (.int a2)], [.int ((gI s 136 (ix a1)) + (50 * a2)), .int a1, .ref 136], mT s)) rfl ?_
        refine w_ck K (st_iS rfl rfl) ?_
        refine w_go K 3 (c' := (48, [some (.ref 116), some (.int a1), some (.int a2)], [.int a1, .ref 136], mT (sI s 136 (ix a1) ((gI s 136 (ix a1)) + (50 * a2))))) rfl ?_
        refine w_ck K (st_iL rfl rfl) ?_
        refine w_go K 0 (c' := (49, [some (.ref 116), some (.int a1), some (.int a2)], [.int (gI (sI s 136 (ix a1) ((gI s 136 (ix a1)) + (50 * a2))) 136 (ix a1))], mT (sI s 136 (ix a1) ((gI s 136 (ix a1)) + (50 * a2))))) rfl ?_
        exact w_ret K rfl (hK _)
    · refine w_go K 1 (c' := (29, [some (.ref 116), some (.int a1), some (.int a2)], [.int (-1)], mT s)) rfl ?_
      exact w_ret K rfl (hK _)
theorem m_M_coin {len : Nat} {xs : Nat → Int32}  (d : Nat) (a1 : Int32) (a2 : Int32) (s : mS) : ok_M_coin a1 a2 s → mm_call (mm_X len xs) mm_Y (d + 3) 176 [.ref 116, .int a1, .int a2] (mT s) = some (some (.int (f_M_coin a1 a2 s).1), mT (f_M_coin a1 a2 s).2) := fun h => t_M_coin (len := len) (xs := xs) d a1 a2 s (fun t => (some (some (.int t.1), mT t.2) : Option mm_R) = some (some (.int (f_M_coin a1 a2 s).1), mT (f_M_coin a1 a2 s).2)) (fun _ h => h) h rfl
def f_G_frost (a1 : Int32) (a2 : Int32) (s : mS) : Int32 × mS := (mq_let (f_Things_isA a1 (0 : Int32) s) (fun (x10 : Int32) => (if x10 = 0 then (0, s) else (if (gI s 18 (ix a1)) = a2 then (0, s) else (1, sI s 18 (ix a1) a2)))))
def ok_G_frost (a1 : Int32) (a2 : Int32) (s : mS) : Prop := (ok_Things_isA a1 (0 : Int32) s ∧ mq_letP (f_Things_isA a1 (0 : Int32) s) (fun (x10 : Int32) => (if x10 = 0 then True else (mm_inb a1 40 = true ∧ (if (gI s 18 (ix a1)) = a2 then True else ((mm_inb a1 40 && mm_bit a2) = true ∧ True))))))
set_option maxRecDepth 4000 in
theorem t_G_frost {len : Nat} {xs : Nat → Int32}  (d : Nat) (a1 : Int32) (a2 : Int32) (s : mS) {T : Option mm_R} (K : Int32 × mS → Prop) (hK : ∀ t, K t → some (some (.int t.1), mT t.2) = T) : ok_G_frost a1 a2 s → K (f_G_frost a1 a2 s) → mm_fix (mm_X len xs) mm_Y (mm_call (mm_X len xs) mm_Y (d + 2)) (mm_look mc_G_frost) (0, [some (.ref 0), some (.int a1), some (.int a2)], [], mT s) = T := by
  unfold ok_G_frost f_G_frost
  refine w_go K 4 (c' := (6, [some (.ref 0), some (.int a1), some (.int a2)], [.int 0, .int a1, .ref 12], mT s)) rfl ?_
  refine w_callL K (E := f_Things_isA a1 (0 : Int32) s) (g := fun (x10 : Int32) => (some (.int x10), mT s)) rfl (m_Things_isA (len := len) (xs := xs) (d + 0) a1 (0 : Int32) s) (fun x10 => ?_)
  refine w_go K 0 (c' := (9, [some (.ref 0), some (.int a1), some (.int a2)], [.int x10], mT s)) rfl ?_
  refine w_zeq K rfl (fun _ => ?_) (fun _ => ?_)
  · refine w_go K 1 (c' := (26, [some (.ref 0), some (.int a1), some (.int a2)], [.int 0], mT s)) rfl ?_
    exact w_ret K rfl (hK _)
  · refine w_go K 4 (c' := (20, [some (.ref 0), some (.int a1), some (.int a2)], [.int a1, .ref 18], mT s)) rfl ?_
    refine w_ck K (st_bL rfl rfl) ?_
    refine w_go K 1 (c' := (22, [some (.ref 0), some (.int a1), some (.int a2)], [.int a2, .int (gI s 18 (ix a1))], mT s)) rfl ?_
    refine w_ine K rfl (fun _ => ?_) (fun _ => ?_)
    · refine w_go K 1 (c' := (26, [some (.ref 0), some (.int a1), some (.int a2)], [.int 0], mT s)) rfl ?_
      exact w_ret K rfl (hK _)
    · refine w_go K 5 (c' := (36, [some (.ref 0), some (.int a1), some (.int a2)], [.int a2, .int a1, .ref 18], mT s)) rfl ?_
      refine w_ck K (st_bS rfl rfl) ?_
      refine w_go K 1 (c' := (38, [some (.ref 0), some (.int a1), some (.int a2)], [.int 1], mT (sI s 18 (ix a1) a2))) rfl ?_
      exact w_ret K rfl (hK _)
theorem m_G_frost {len : Nat} {xs : Nat → Int32}  (d : Nat) (a1 : Int32) (a2 : Int32) (s : mS) : ok_G_frost a1 a2 s → mm_call (mm_X len xs) mm_Y (d + 3) 37 [.ref 0, .int a1, .int a2] (mT s) = some (some (.int (f_G_frost a1 a2 s).1), mT (f_G_frost a1 a2 s).2) := fun h => t_G_frost (len := len) (xs := xs) d a1 a2 s (fun t => (some (some (.int t.1), mT t.2) : Option mm_R) = some (some (.int (f_G_frost a1 a2 s).1), mT (f_G_frost a1 a2 s).2)) (fun _ h => h) h rfl
def f_M_isHouse (a1 : Int32) (s : mS) : Int32 := (mq_let (f_M_isThing a1 s) (fun (x10 : Int32) => (if x10 = 0 then 0 else (if (gI s 133 (ix a1)) = 0 then 1 else 0))))
def ok_M_isHouse (a1 : Int32) (s : mS) : Prop := (ok_M_isThing a1 s ∧ mq_letP (f_M_isThing a1 s) (fun (x10 : Int32) => (if x10 = 0 then True else (mm_inb a1 40 = true ∧ True))))
set_option maxRecDepth 4000 in
theorem t_M_isHouse {len : Nat} {xs : Nat → Int32}  (d : Nat) (a1 : Int32) (s : mS) {T : Option mm_R} (K : Int32 → Prop) (hK : ∀ t, K t → some (some (.int t), mT s) = T) : ok_M_isHouse a1 s → K (f_M_isHouse a1 s) → mm_fix (mm_X len xs) mm_Y (mm_call (mm_X len xs) mm_Y (d + 2)) (mm_look mc_M_isHouse) (0, [some (.ref 116), some (.int a1)], [], mT s) = T := by
  unfold ok_M_isHouse f_M_isHouse
  refine w_go K 2 (c' := (2, [some (.ref 116), some (.int a1)], [.int a1, .ref 116], mT s)) rfl ?_
  refine w_callL K (E := f_M_isThing a1 s) (g := fun (x10 : Int32) => (some (.int x10), mT s)) rfl (m_M_isThing (len := len) (xs := xs) (d + 0) a1 s) (fun x10 => ?_)
  refine w_go K 0 (c' := (5, [some (.ref 116), some (.int a1)], [.int x10], mT s)) rfl ?_
  refine w_zeq K rfl (fun _ => ?_) (fun _ => ?_)
  · refine w_go K 1 (c' := (22, [some (.ref 116), some (.int a1)], [.int 0], mT s)) rfl ?_
    exact w_ret K rfl (hK _)
  · refine w_go K 3 (c' := (13, [some (.ref 116), some (.int a1)], [.int a1, .ref 133], mT s)) rfl ?_
    refine w_ck K (st_iL rfl rfl) ?_
    refine w_go K 0 (c' := (14, [some (.ref 116), some (.int a1)], [.int (gI s 133 (ix a1))], mT s)) rfl ?_
    refine w_zneT K rfl (fun _ => ?_) (fun _ => ?_)
    · refine w_go K 2 (c' := (22, [some (.ref 116), some (.int a1)], [.int 1], mT s)) rfl ?_
      exact w_ret K rfl (hK _)
    · refine w_go K 1 (c' := (22, [some (.ref 116), some (.int a1)], [.int 0], mT s)) rfl ?_
      exact w_ret K rfl (hK _)
theorem m_M_isHouse {len : Nat} {xs : Nat → Int32}  (d : Nat) (a1 : Int32) (s : mS) : ok_M_isHouse a1 s → mm_call (mm_X len xs) mm_Y (d + 3) 178 [.ref 116, .int a1] (mT s) = some (some (.int (f_M_isHouse a1 s)), mT s) := fun h => t_M_isHouse (len := len) (xs := xs) d a1 s (fun t => (some (some (.int t), mT s) : Option mm_R) = some (some (.int (f_M_isHouse a1 s)), mT s)) (fun _ h => h) h rfl
def f_M_frost (a1 : Int32) (a2 : Int32) (s : mS) : Int32 × mS := (mq_let (f_M_isHouse a1 s) (fun (x10 : Int32) => (if x10 = 0 then (0, s) else (if (gI s 141 (ix a1)) = a2 then (0, s) else (1, sI s 141 (ix a1) a2)))))
def ok_M_frost (a1 : Int32) (a2 : Int32) (s : mS) : Prop := (ok_M_isHouse a1 s ∧ mq_letP (f_M_isHouse a1 s) (fun (x10 : Int32) => (if x10 = 0 then True else (mm_inb a1 40 = true ∧ (if (gI s 141 (ix a1)) = a2 then True else ((mm_inb a1 40 && mm_bit a2) = true ∧ True))))))
set_option maxRecDepth 4000 in
theorem t_M_frost {len : Nat} {xs : Nat → Int32}  (d : Nat) (a1 : Int32) (a2 : Int32) (s : mS) {T : Option mm_R} (K : Int32 × mS → Prop) (hK : ∀ t, K t → some (some (.int t.1), mT t.2) = T) : ok_M_frost a1 a2 s → K (f_M_frost a1 a2 s) → mm_fix (mm_X len xs) mm_Y (mm_call (mm_X len xs) mm_Y (d + 3)) (mm_look mc_M_frost) (0, [some (.ref 116), some (.int a1), some (.int a2)], [], mT s) = T := by
  unfold ok_M_frost f_M_frost
  refine w_go K 2 (c' := (2, [some (.ref 116), some (.int a1), some (.int a2)], [.int a1, .ref 116], mT s)) rfl ?_
  refine w_callL K (E := f_M_isHouse a1 s) (g := fun (x10 : Int32) => (some (.int x10), mT s)) rfl (m_M_isHouse (len := len) (xs := xs) (d + 0) a1 s) (fun x10 => ?_)
  refine w_go K 0 (c' := (5, [some (.ref 116), some (.int a1), some (.int a2)], [.int x10], mT s)) rfl ?_
  refine w_zeq K rfl (fun _ => ?_) (fun _ => ?_)
  · refine w_go K 1 (c' := (19, [some (.ref 116), some (.int a1), some (.int a2)], [.int 0], mT s)) rfl ?_
    exact w_ret K rfl (hK _)
  · refine w_go K 3 (c' := (13, [some (.ref 116), some (.int a1), some (.int a2)], [.int a1, .ref 141], mT s)) rfl ?_
    refine w_ck K (st_bL rfl rfl) ?_
    refine w_go K 1 (c' := (15, [some (.ref 116), some (.int a1), some (.int a2)], [.int a2, .int (gI s 141 (ix a1))], mT s)) rfl ?_
    refine w_ine K rfl (fun _ => ?_) (fun _ => ?_)
    · refine w_go K 1 (c' := (19, [some (.ref 116), some (.int a1), some (.int a2)], [.int 0], mT s)) rfl ?_
      exact w_ret K rfl (hK _)
    · refine w_go K 4 (c' := (26, [some (.ref 116), some (.int a1), some (.int a2)], [.int a2, .int a1, .ref 141], mT s)) rfl ?_
      refine w_ck K (st_bS rfl rfl) ?_
      refine w_go K 1 (c' := (28, [some (.ref 116), some (.int a1), some (.int a2)], [.int 1], mT (sI s 141 (ix a1) a2))) rfl ?_
      exact w_ret K rfl (hK _)
theorem m_M_frost {len : Nat} {xs : Nat → Int32}  (d : Nat) (a1 : Int32) (a2 : Int32) (s : mS) : ok_M_frost a1 a2 s → mm_call (mm_X len xs) mm_Y (d + 4) 177 [.ref 116, .int a1, .int a2] (mT s) = some (some (.int (f_M_frost a1 a2 s).1), mT (f_M_frost a1 a2 s).2) := fun h => t_M_frost (len := len) (xs := xs) d a1 a2 s (fun t => (some (some (.int t.1), mT t.2) : Option mm_R) = some (some (.int (f_M_frost a1 a2 s).1), mT (f_M_frost a1 a2 s).2)) (fun _ h => h) h rfl
def f_Works_gasOf (a0 : Int32) (a1 : Int32) (s : mS) : Int32 := (if a1 < 1 then 0 else (if a1 ≤ 16 then (((a0 * (mm_parts.getD (ix a1) 0)) / 72) - ((a0 * (mm_parts.getD (ix (a1 - 1)) 0)) / 72)) else 0))
def ok_Works_gasOf (a0 : Int32) (a1 : Int32) (s : mS) : Prop := (if a1 < 1 then True else (if a1 ≤ 16 then (mm_inb a1 17 = true ∧ (mm_inb (a1 - 1) 17 = true ∧ True)) else True))
set_option maxRecDepth 4000 in
theorem t_Works_gasOf {len : Nat} {xs : Nat → Int32}  (d : Nat) (a0 : Int32) (a1 : Int32) (s : mS) {T : Option mm_R} (K : Int32 → Prop) (hK : ∀ t, K t → some (some (.int t), mT s) = T) : ok_Works_gasOf a0 a1 s → K (f_Works_gasOf a0 a1 s) → mm_fix (mm_X len xs) mm_Y (mm_call (mm_X len xs) mm_Y (d + 0)) (mm_look mc_Works_gasOf) (0, [some (.int a0), some (.int a1)], [], mT s) = T := by
  unfold ok_Works_gasOf f_Works_gasOf
  refine w_go K 2 (c' := (2, [some (.int a0), some (.int a1)], [.int 1, .int a1], mT s)) rfl ?_
  refine w_ilt K rfl (fun _ => ?_) (fun _ => ?_)
  · refine w_go K 2 (c' := (38, [some (.int a0), some (.int a1)], [.int 0], mT s)) rfl ?_
    exact w_ret K rfl (hK _)
  · refine w_go K 2 (c' := (8, [some (.int a0), some (.int a1)], [.int 16, .int a1], mT s)) rfl ?_
    refine w_ile K rfl (fun _ => ?_) (fun _ => ?_)
    · refine w_go K 3 (c' := (20, [some (.int a0), some (.int a1)], [.int a1, .ref 1000000, .int a0], mT s)) rfl ?_
      refine w_ck K (mm_x0 rfl) ?_
      refine w_go K 8 (c' := (32, [some (.int a0), some (.int a1)], [.int (a1 - 1), .ref 1000000, .int a0, .int ((a0 * (mm_parts.getD (ix a1) 0)) / 72)], mT s)) rfl ?_
      refine w_ck K (mm_x0 rfl) ?_
      refine w_go K 4 (c' := (38, [some (.int a0), some (.int a1)], [.int (((a0 * (mm_parts.getD (ix a1) 0)) / 72) - ((a0 * (mm_parts.getD (ix (a1 - 1)) 0)) / 72))], mT s)) rfl ?_
      exact w_ret K rfl (hK _)
    · refine w_go K 2 (c' := (38, [some (.int a0), some (.int a1)], [.int 0], mT s)) rfl ?_
      exact w_ret K rfl (hK _)
theorem m_Works_gasOf {len : Nat} {xs : Nat → Int32}  (d : Nat) (a0 : Int32) (a1 : Int32) (s : mS) : ok_Works_gasOf a0 a1 s → mm_call (mm_X len xs) mm_Y (d + 1) 42 [.int a0, .int a1] (mT s) = some (some (.int (f_Works_gasOf a0 a1 s)), mT s) := fun h => t_Works_gasOf (len := len) (xs := xs) d a0 a1 s (fun t => (some (some (.int t), mT s) : Option mm_R) = some (some (.int (f_Works_gasOf a0 a1 s)), mT s)) (fun _ h => h) h rfl
def lp_Works_gasLater_4 (a1 : Int32) (s : mS) : Nat → Int32 → Int32 → Int32 × Int32
  | 0, v2, v3 => (v2, v3)
  | n + 1, v2, v3 => (if (6 : Int32) ≤ v3 then (v2, v3) else (if (gI s 8 (ix v3)) ≤ a1 then (lp_Works_gasLater_4 a1 s n v2 (v3 + 1)) else (mq_let (f_Works_gasOf (gI s 9 (ix v3)) ((17 - (gI s 8 (ix v3))) + a1) s) (fun (x10 : Int32) => (lp_Works_gasLater_4 a1 s n (v2 + x10) (v3 + 1))))))
def okl_Works_gasLater_4 (a1 : Int32) (s : mS) : Nat → Int32 → Int32 → Prop
  | 0, v2, v3 => False
  | n + 1, v2, v3 => (if (6 : Int32) ≤ v3 then True else (mm_inb v3 6 = true ∧ (if (gI s 8 (ix v3)) ≤ a1 then (okl_Works_gasLater_4 a1 s n v2 (v3 + 1)) else (mm_inb v3 6 = true ∧ (mm_inb v3 6 = true ∧ (ok_Works_gasOf (gI s 9 (ix v3)) ((17 - (gI s 8 (ix v3))) + a1) s ∧ mq_letP (f_Works_gasOf (gI s 9 (ix v3)) ((17 - (gI s 8 (ix v3))) + a1) s) (fun (x10 : Int32) => (okl_Works_gasLater_4 a1 s n (v2 + x10) (v3 + 1)))))))))
set_option maxRecDepth 4000 in
theorem tl_Works_gasLater_4 {len : Nat} {xs : Nat → Int32}  (d : Nat) (a1 : Int32) (s : mS) {T : Option mm_R} (K : Int32 × Int32 → Prop) (hX : ∀ r, K r → mm_fix (mm_X len xs) mm_Y (mm_call (mm_X len xs) mm_Y (d + 1)) (mm_look mc_Works_gasLater) (49, [some (.ref 3), some (.int a1), some (.int r.1), some (.int r.2)], [], mT s) = T) : ∀ (n : Nat), ∀ (v2 : Int32) (v3 : Int32), okl_Works_gasLater_4 a1 s n v2 v3 → K (lp_Works_gasLater_4 a1 s n v2 v3) → mm_fix (mm_X len xs) mm_Y (mm_call (mm_X len xs) mm_Y (d + 1)) (mm_look mc_Works_gasLater) (4, [some (.ref 3), some (.int a1), some (.int v2), some (.int v3)], [], mT s) = T := by
  intro n
  induction n with
  | zero => intro v2 v3; exact fun h => h.elim
  | succ n ih =>
    intro v2 v3
    rw [okl_Works_gasLater_4, lp_Works_gasLater_4]
    refine w_go K 2 (c' := (7, [some (.ref 3), some (.int a1), some (.int v2), some (.int v3)], [.int 6, .int v3], mT s)) rfl ?_
    refine w_ige K rfl (fun _ => ?_) (fun _ => ?_)
    · refine w_go K 0 (c' := (49, [some (.ref 3), some (.int a1), some (.int v2), some (.int v3)], [], mT s)) rfl ?_
      exact fun _ b => hX _ b
    · refine w_go K 3 (c' := (15, [some (.ref 3), some (.int a1), some (.int v2), some (.int v3)], [.int v3, .ref 8], mT s)) rfl ?_
      refine w_ck K (st_iL rfl rfl) ?_
      refine w_go K 1 (c' := (17, [some (.ref 3), some (.int a1), some (.int v2), some (.int v3)], [.int a1, .int (gI s 8 (ix v3))], mT s)) rfl ?_
      refine w_ile K rfl (fun _ => ?_) (fun _ => ?_)
      · refine w_go K 2 (c' := (4, [some (.ref 3), some (.int a1), some (.int v2), some (.int (v3 + 1))], [], mT s)) rfl ?_
        exact fun a b => ih v2 (v3 + 1) a b
      · refine w_go K 4 (c' := (26, [some (.ref 3), some (.int a1), some (.int v2), some (.int v3)], [.int v3, .ref 9, .int v2], mT s)) rfl ?_
        refine w_ck K (st_iL rfl rfl) ?_
        refine w_go K 4 (c' := (34, [some (.ref 3), some (.int a1), some (.int v2), some (.int v3)], [.int v3, .ref 8, .int 17, .int (gI s 9 (ix v3)), .int v2], mT s)) rfl ?_
        refine w_ck K (st_iL rfl rfl) ?_
        refine w_go K 3 (c' := (38, [some (.ref 3), some (.int a1), some (.int v2), some (.int v3)], [.int ((17 - (gI s 8 (ix v3))) + a1), .int (gI s 9 (ix v3)), .int v2], mT s)) rfl ?_
        refine w_callL K (E := f_Works_gasOf (gI s 9 (ix v3)) ((17 - (gI s 8 (ix v3))) + a1) s) (g := fun (x10 : Int32) => (some (.int x10), mT s)) rfl (m_Works_gasOf (len := len) (xs := xs) (d + 0) (gI s 9 (ix v3)) ((17 - (gI s 8 (ix v3))) + a1) s) (fun x10 => ?_)
        refine w_go K 4 (c' := (4, [some (.ref 3), some (.int a1), some (.int (v2 + x10)), some (.int (v3 + 1))], [], mT s)) rfl ?_
        exact fun a b => ih (v2 + x10) (v3 + 1) a b
def f_Works_gasLater (a1 : Int32) (s : mS) : Int32 := (mq_let (lp_Works_gasLater_4 a1 s mm_N (0 : Int32) (0 : Int32)) (fun (x11 : Int32 × Int32) => x11.1))
def ok_Works_gasLater (a1 : Int32) (s : mS) : Prop := (okl_Works_gasLater_4 a1 s mm_N (0 : Int32) (0 : Int32) ∧ mq_letP (lp_Works_gasLater_4 a1 s mm_N (0 : Int32) (0 : Int32)) (fun (x11 : Int32 × Int32) => True))
set_option maxRecDepth 4000 in
theorem t_Works_gasLater {len : Nat} {xs : Nat → Int32}  (d : Nat) (a1 : Int32) (s : mS) {T : Option mm_R} (K : Int32 → Prop) (hK : ∀ t, K t → some (some (.int t), mT s) = T) : ok_Works_gasLater a1 s → K (f_Works_gasLater a1 s) → mm_fix (mm_X len xs) mm_Y (mm_call (mm_X len xs) mm_Y (d + 1)) (mm_look mc_Works_gasLater) (0, [some (.ref 3), some (.int a1), none, none], [], mT s) = T := by
  unfold ok_Works_gasLater f_Works_gasLater
  refine w_go K 4 (c' := (4, [some (.ref 3), some (.int a1), some (.int 0), some (.int 0)], [], mT s)) rfl ?_
  refine w_join K (fun (x11 : Int32 × Int32) => mm_fix (mm_X len xs) mm_Y (mm_call (mm_X len xs) mm_Y (d + 1)) (mm_look mc_Works_gasLater) (49, [some (.ref 3), some (.int a1), some (.int x11.1), some (.int x11.2)], [], mT s) = T) (fun K hJ => tl_Works_gasLater_4 (len := len) (xs := xs) d a1 s (T := T) K hJ mm_N (0 : Int32) (0 : Int32)) (fun x11 h1 h2 => ?_)
  revert h1 h2
  refine w_go K 1 (c' := (50, [some (.ref 3), some (.int a1), some (.int x11.1), some (.int x11.2)], [.int x11.1], mT s)) rfl ?_
  exact w_ret K rfl (hK _)
theorem m_Works_gasLater {len : Nat} {xs : Nat → Int32}  (d : Nat) (a1 : Int32) (s : mS) : ok_Works_gasLater a1 s → mm_call (mm_X len xs) mm_Y (d + 2) 41 [.ref 3, .int a1] (mT s) = some (some (.int (f_Works_gasLater a1 s)), mT s) := fun h => t_Works_gasLater (len := len) (xs := xs) d a1 s (fun t => (some (some (.int t), mT s) : Option mm_R) = some (some (.int (f_Works_gasLater a1 s)), mT s)) (fun _ h => h) h rfl
def lp_Works_bake_33  : Nat → Int32 → mS → Int32 × mS
  | 0, v2, s => (v2, s)
  | n + 1, v2, s => (if (6 : Int32) ≤ v2 then (v2, s) else (if (gI s 8 (ix v2)) ≤ 0 then (lp_Works_bake_33 n (v2 + 1) s) else (if (gI (sI s 8 (ix v2) ((gI s 8 (ix v2)) - 1)) 8 (ix v2)) = 0 then (lp_Works_bake_33 n (v2 + 1) (sI (sI (sI s 8 (ix v2) ((gI s 8 (ix v2)) - 1)) 3 15 ((gI s 3 15) + (gI s 10 (ix v2)))) 3 16 ((gI s 3 16) + (gI s 11 (ix v2))))) else (lp_Works_bake_33 n (v2 + 1) (sI s 8 (ix v2) ((gI s 8 (ix v2)) - 1))))))
def okl_Works_bake_33  : Nat → Int32 → mS → Prop
  | 0, v2, s => False
  | n + 1, v2, s => (if (6 : Int32) ≤ v2 then True else (mm_inb v2 6 = true ∧ (if (gI s 8 (ix v2)) ≤ 0 then (okl_Works_bake_33 n (v2 + 1) s) else (mm_inb v2 6 = true ∧ (mm_inb v2 6 = true ∧ (mm_inb v2 6 = true ∧ (if (gI (sI s 8 (ix v2) ((gI s 8 (ix v2)) - 1)) 8 (ix v2)) = 0 then (mm_inb v2 6 = true ∧ (mm_inb v2 6 = true ∧ (okl_Works_bake_33 n (v2 + 1) (sI (sI (sI s 8 (ix v2) ((gI s 8 (ix v2)) - 1)) 3 15 ((gI s 3 15) + (gI s 10 (ix v2)))) 3 16 ((gI s 3 16) + (gI s 11 (ix v2))))))) else (okl_Works_bake_33 n (v2 + 1) (sI s 8 (ix v2) ((gI s 8 (ix v2)) - 1))))))))))
set_option maxRecDepth 4000 in
theorem tl_Works_bake_33 {len : Nat} {xs : Nat → Int32}  (d : Nat)   {T : Option mm_R} (K : Int32 × mS → Prop) (hX : ∀ r, K r → ∀ (o1 : Option Value), mm_fix (mm_X len xs) mm_Y (mm_call (mm_X len xs) mm_Y (d + 2)) (mm_look mc_Works_bake) (103, [some (.ref 3), o1, some (.int r.1)], [], mT r.2) = T) : ∀ (n : Nat), ∀ (v2 : Int32) (o1 : Option Value) (s : mS), okl_Works_bake_33 n v2 s → K (lp_Works_bake_33 n v2 s) → mm_fix (mm_X len xs) mm_Y (mm_call (mm_X len xs) mm_Y (d + 2)) (mm_look mc_Works_bake) (33, [some (.ref 3), o1, some (.int v2)], [], mT s) = T := by
  intro n
  induction n with
  | zero => intro v2 o1 s; exact fun h => h.elim
  | succ n ih =>
    intro v2 o1 s
    rw [okl_Works_bake_33, lp_Works_bake_33]
    refine w_go K 2 (c' := (36, [some (.ref 3), o1, some (.int v2)], [.int 6, .int v2], mT s)) rfl ?_
    refine w_ige K rfl (fun _ => ?_) (fun _ => ?_)
    · refine w_go K 0 (c' := (103, [some (.ref 3), o1, some (.int v2)], [], mT s)) rfl ?_
      exact fun _ b => hX _ b _
    · refine w_go K 3 (c' := (44, [some (.ref 3), o1, some (.int v2)], [.int v2, .ref 8], mT s)) rfl ?_
      refine w_ck K (st_iL rfl rfl) ?_
      refine w_go K 0 (c' := (45, [some (.ref 3), o1, some (.int v2)], [.int (gI s 8 (ix v2))], mT s)) rfl ?_
      refine w_zle K rfl (fun _ => ?_) (fun _ => ?_)
      · refine w_go K 2 (c' := (33, [some (.ref 3), (mm_cut o1 0), some (.int (v2 + 1))], [], mT s)) rfl ?_
        exact fun a b => ih (v2 + 1) _ s a b
      · refine w_go K 4 (c' := (54, [some (.ref 3), o1, some (.int v2)], [.int v2, .ref 8, .int v2, .ref 8], mT s)) rfl ?_
        refine w_ck K (st_iL rfl rfl) ?_
        refine w_go K 2 (c' := (57, [some (.ref 3), o1, some (.int v2)], [.int ((gI s 8 (ix v2)) - 1), .int v2, .ref 8], mT s)) rfl ?_
        refine w_ck K (st_iS rfl rfl) ?_
        refine w_go K 3 (c' := (63, [some (.ref 3), o1, some (.int v2)], [.int v2, .ref 8], mT (sI s 8 (ix v2) ((gI s 8 (ix v2)) - 1)))) rfl ?_
        refine w_ck K (st_iL rfl rfl) ?_
        refine w_go K 0 (c' := (64, [some (.ref 3), o1, some (.int v2)], [.int (gI (sI s 8 (ix v2) ((gI s 8 (ix v2)) - 1)) 8 (ix v2))], mT (sI s 8 (ix v2) ((gI s 8 (ix v2)) - 1)))) rfl ?_
        refine w_zne K rfl (fun _ => ?_) (fun _ => ?_)
        · refine w_go K 6 (c' := (77, [some (.ref 3), o1, some (.int v2)], [.int v2, .ref 10, .int (gI s 3 15), .ref 3], mT (sI s 8 (ix v2) ((gI s 8 (ix v2)) - 1)))) rfl ?_
          refine w_ck K (st_iL rfl rfl) ?_
          refine w_go K 8 (c' := (92, [some (.ref 3), o1, some (.int v2)], [.int v2, .ref 11, .int (gI s 3 16), .ref 3], mT (sI (sI s 8 (ix v2) ((gI s 8 (ix v2)) - 1)) 3 15 ((gI s 3 15) + (gI s 10 (ix v2)))))) rfl ?_
          refine w_ck K (st_iL rfl rfl) ?_
          refine w_go K 4 (c' := (33, [some (.ref 3), (mm_cut o1 0), some (.int (v2 + 1))], [], mT (sI (sI (sI s 8 (ix v2) ((gI s 8 (ix v2)) - 1)) 3 15 ((gI s 3 15) + (gI s 10 (ix v2)))) 3 16 ((gI s 3 16) + (gI s 11 (ix v2)))))) rfl ?_
          exact fun a b => ih (v2 + 1) _ (sI (sI (sI s 8 (ix v2) ((gI s 8 (ix v2)) - 1)) 3 15 ((gI s 3 15) + (gI s 10 (ix v2)))) 3 16 ((gI s 3 16) + (gI s 11 (ix v2)))) a b
        · refine w_go K 2 (c' := (33, [some (.ref 3), (mm_cut o1 0), some (.int (v2 + 1))], [], mT (sI s 8 (ix v2) ((gI s 8 (ix v2)) - 1)))) rfl ?_
          exact fun a b => ih (v2 + 1) _ (sI s 8 (ix v2) ((gI s 8 (ix v2)) - 1)) a b
def f_Works_bake  (s : mS) : mS := (mq_let (f_Works_gasLater (0 : Int32) s) (fun (x10 : Int32) => (mq_let (f_Works_letOff (sI (sL s 3 13 ((gL s 3 13) + (Int32.toInt64 x10))) 3 12 ((gI s 3 12) + x10))) (fun (x11 : mS) => (mq_let (lp_Works_bake_33 mm_N (0 : Int32) x11) (fun (x12 : Int32 × mS) => sI x12.2 3 10 0))))))
def ok_Works_bake  (s : mS) : Prop := (ok_Works_gasLater (0 : Int32) s ∧ mq_letP (f_Works_gasLater (0 : Int32) s) (fun (x10 : Int32) => (True ∧ mq_letP (f_Works_letOff (sI (sL s 3 13 ((gL s 3 13) + (Int32.toInt64 x10))) 3 12 ((gI s 3 12) + x10))) (fun (x11 : mS) => (okl_Works_bake_33 mm_N (0 : Int32) x11 ∧ mq_letP (lp_Works_bake_33 mm_N (0 : Int32) x11) (fun (x12 : Int32 × mS) => True))))))
set_option maxRecDepth 4000 in
theorem t_Works_bake {len : Nat} {xs : Nat → Int32}  (d : Nat)  (s : mS) {T : Option mm_R} (K : mS → Prop) (hK : ∀ t, K t → some (none, mT t) = T) : ok_Works_bake s → K (f_Works_bake s) → mm_fix (mm_X len xs) mm_Y (mm_call (mm_X len xs) mm_Y (d + 2)) (mm_look mc_Works_bake) (0, [some (.ref 3), none, none], [], mT s) = T := by
  unfold ok_Works_bake f_Works_bake
  refine w_go K 2 (c' := (2, [some (.ref 3), none, none], [.int 0, .ref 3], mT s)) rfl ?_
  refine w_callL K (E := f_Works_gasLater (0 : Int32) s) (g := fun (x10 : Int32) => (some (.int x10), mT s)) rfl (m_Works_gasLater (len := len) (xs := xs) (d + 0) (0 : Int32) s) (fun x10 => ?_)
  refine w_go K 15 (c' := (28, [some (.ref 3), some (.int x10), none], [.ref 3], mT (sI (sL s 3 13 ((gL s 3 13) + (Int32.toInt64 x10))) 3 12 ((gI s 3 12) + x10)))) rfl ?_
  refine w_callL K (E := f_Works_letOff (sI (sL s 3 13 ((gL s 3 13) + (Int32.toInt64 x10))) 3 12 ((gI s 3 12) + x10))) (g := fun (x11 : mS) => (none, mT x11)) rfl (m_Works_letOff (len := len) (xs := xs) (d + 1) (sI (sL s 3 13 ((gL s 3 13) + (Int32.toInt64 x10))) 3 12 ((gI s 3 12) + x10))) (fun x11 => ?_)
  refine w_go K 2 (c' := (33, [some (.ref 3), some (.int x10), some (.int 0)], [], mT x11)) rfl ?_
  refine w_join K (fun (x12 : Int32 × mS) => ∀ (q13 : Option Value), mm_fix (mm_X len xs) mm_Y (mm_call (mm_X len xs) mm_Y (d + 2)) (mm_look mc_Works_bake) (103, [some (.ref 3), q13, some (.int x12.1)], [], mT x12.2) = T) (fun K hJ => tl_Works_bake_33 (len := len) (xs := xs) d (T := T) K hJ mm_N (0 : Int32) _ x11) (fun x12 h1 h2 q13 => ?_)
  revert h1 h2
  refine w_go K 3 (c' := (108, [some (.ref 3), q13, some (.int x12.1)], [], mT (sI x12.2 3 10 0))) rfl ?_
  exact w_ret K rfl (hK _)
theorem m_Works_bake {len : Nat} {xs : Nat → Int32}  (d : Nat)  (s : mS) : ok_Works_bake s → mm_call (mm_X len xs) mm_Y (d + 3) 40 [.ref 3] (mT s) = some (none, mT (f_Works_bake s)) := fun h => t_Works_bake (len := len) (xs := xs) d s (fun t => (some (none, mT t) : Option mm_R) = some (none, mT (f_Works_bake s))) (fun _ h => h) h rfl
def f_Sky_dayOf (a0 : Int32) (s : mS) : Int32 := (a0 / 96)
set_option maxRecDepth 4000 in
theorem t_Sky_dayOf {len : Nat} {xs : Nat → Int32}  (d : Nat) (a0 : Int32) (s : mS) {T : Option mm_R} (K : Int32 → Prop) (hK : ∀ t, K t → some (some (.int t), mT s) = T) : True → K (f_Sky_dayOf a0 s) → mm_fix (mm_X len xs) mm_Y (mm_call (mm_X len xs) mm_Y (d + 0)) (mm_look mc_Sky_dayOf) (0, [some (.int a0)], [], mT s) = T := by
  unfold f_Sky_dayOf
  refine w_go K 3 (c' := (4, [some (.int a0)], [.int (a0 / 96)], mT s)) rfl ?_
  exact w_ret K rfl (hK _)
theorem m_Sky_dayOf {len : Nat} {xs : Nat → Int32}  (d : Nat) (a0 : Int32) (s : mS) : True → mm_call (mm_X len xs) mm_Y (d + 1) 47 [.int a0] (mT s) = some (some (.int (f_Sky_dayOf a0 s)), mT s) := fun h => t_Sky_dayOf (len := len) (xs := xs) d a0 s (fun t => (some (some (.int t), mT s) : Option mm_R) = some (some (.int (f_Sky_dayOf a0 s)), mT s)) (fun _ h => h) h rfl
def f_Sky_hourOf (a0 : Int32) (s : mS) : Int32 := (mq_let (f_Sky_dayOf a0 s) (fun (x10 : Int32) => ((a0 / 4) - (24 * x10))))
set_option maxRecDepth 4000 in
theorem t_Sky_hourOf {len : Nat} {xs : Nat → Int32}  (d : Nat) (a0 : Int32) (s : mS) {T : Option mm_R} (K : Int32 → Prop) (hK : ∀ t, K t → some (some (.int t), mT s) = T) : True → K (f_Sky_hourOf a0 s) → mm_fix (mm_X len xs) mm_Y (mm_call (mm_X len xs) mm_Y (d + 1)) (mm_look mc_Sky_hourOf) (0, [some (.int a0)], [], mT s) = T := by
  unfold f_Sky_hourOf
  refine w_go K 5 (c' := (6, [some (.int a0)], [.int a0, .int 24, .int (a0 / 4)], mT s)) rfl ?_
  refine w_callLT K (E := f_Sky_dayOf a0 s) (g := fun (x10 : Int32) => (some (.int x10), mT s)) rfl (m_Sky_dayOf (len := len) (xs := xs) (d + 0) a0 s) (fun x10 => ?_)
  refine w_go K 2 (c' := (11, [some (.int a0)], [.int ((a0 / 4) - (24 * x10))], mT s)) rfl ?_
  exact w_ret K rfl (hK _)
theorem m_Sky_hourOf {len : Nat} {xs : Nat → Int32}  (d : Nat) (a0 : Int32) (s : mS) : True → mm_call (mm_X len xs) mm_Y (d + 2) 46 [.int a0] (mT s) = some (some (.int (f_Sky_hourOf a0 s)), mT s) := fun h => t_Sky_hourOf (len := len) (xs := xs) d a0 s (fun t => (some (some (.int t), mT s) : Option mm_R) = some (some (.int (f_Sky_hourOf a0 s)), mT s)) (fun _ h => h) h rfl
def f_Sky_hourlyWant (a0 : Int32) (a1 : Int32) (s : mS) : Int32 := (if (6 : Int32) ≤ a0 then (if (10 : Int32) ≤ a0 then (if a0 < 16 then (a1 / 2) else (if a0 = 23 then (a1 / 2) else (a1 * 2))) else a1) else (a1 / 4))
set_option maxRecDepth 4000 in
theorem t_Sky_hourlyWant {len : Nat} {xs : Nat → Int32}  (d : Nat) (a0 : Int32) (a1 : Int32) (s : mS) {T : Option mm_R} (K : Int32 → Prop) (hK : ∀ t, K t → some (some (.int t), mT s) = T) : True → K (f_Sky_hourlyWant a0 a1 s) → mm_fix (mm_X len xs) mm_Y (mm_call (mm_X len xs) mm_Y (d + 0)) (mm_look mc_Sky_hourlyWant) (0, [some (.int a0), some (.int a1)], [], mT s) = T := by
  unfold f_Sky_hourlyWant
  refine w_go K 2 (c' := (3, [some (.int a0), some (.int a1)], [.int 6, .int a0], mT s)) rfl ?_
  refine w_igeT K rfl (fun _ => ?_) (fun _ => ?_)
  · refine w_go K 2 (c' := (13, [some (.int a0), some (.int a1)], [.int 10, .int a0], mT s)) rfl ?_
    refine w_igeT K rfl (fun _ => ?_) (fun _ => ?_)
    · refine w_go K 2 (c' := (21, [some (.int a0), some (.int a1)], [.int 16, .int a0], mT s)) rfl ?_
      refine w_iltT K rfl (fun _ => ?_) (fun _ => ?_)
      · refine w_go K 4 (c' := (39, [some (.int a0), some (.int a1)], [.int (a1 / 2)], mT s)) rfl ?_
        exact w_ret K rfl (hK _)
      · refine w_go K 2 (c' := (27, [some (.int a0), some (.int a1)], [.int 23, .int a0], mT s)) rfl ?_
        refine w_ineT K rfl (fun _ => ?_) (fun _ => ?_)
        · refine w_go K 4 (c' := (39, [some (.int a0), some (.int a1)], [.int (a1 / 2)], mT s)) rfl ?_
          exact w_ret K rfl (hK _)
        · refine w_go K 3 (c' := (39, [some (.int a0), some (.int a1)], [.int (a1 * 2)], mT s)) rfl ?_
          exact w_ret K rfl (hK _)
    · refine w_go K 1 (c' := (17, [some (.int a0), some (.int a1)], [.int a1], mT s)) rfl ?_
      exact w_ret K rfl (hK _)
  · refine w_go K 3 (c' := (9, [some (.int a0), some (.int a1)], [.int (a1 / 4)], mT s)) rfl ?_
    exact w_ret K rfl (hK _)
theorem m_Sky_hourlyWant {len : Nat} {xs : Nat → Int32}  (d : Nat) (a0 : Int32) (a1 : Int32) (s : mS) : True → mm_call (mm_X len xs) mm_Y (d + 1) 48 [.int a0, .int a1] (mT s) = some (some (.int (f_Sky_hourlyWant a0 a1 s)), mT s) := fun h => t_Sky_hourlyWant (len := len) (xs := xs) d a0 a1 s (fun t => (some (some (.int t), mT s) : Option mm_R) = some (some (.int (f_Sky_hourlyWant a0 a1 s)), mT s)) (fun _ h => h) h rfl
def f_Sky_fogIn (a1 : Int32) (s : mS) : Int32 := (mq_let (f_Sky_dayOf a1 s) (fun (x10 : Int32) => (if x10 < 0 then 0 else (if (42 : Int32) ≤ x10 then 0 else (gI s 2 (ix x10))))))
def ok_Sky_fogIn (a1 : Int32) (s : mS) : Prop := (True ∧ mq_letP (f_Sky_dayOf a1 s) (fun (x10 : Int32) => (if x10 < 0 then True else (if (42 : Int32) ≤ x10 then True else (mm_inb x10 42 = true ∧ True)))))
set_option maxRecDepth 4000 in
theorem t_Sky_fogIn {len : Nat} {xs : Nat → Int32}  (d : Nat) (a1 : Int32) (s : mS) {T : Option mm_R} (K : Int32 → Prop) (hK : ∀ t, K t → some (some (.int t), mT s) = T) : ok_Sky_fogIn a1 s → K (f_Sky_fogIn a1 s) → mm_fix (mm_X len xs) mm_Y (mm_call (mm_X len xs) mm_Y (d + 1)) (mm_look mc_Sky_fogIn) (0, [some (.ref 1), some (.int a1), none], [], mT s) = T := by
  unfold ok_Sky_fogIn f_Sky_fogIn
  refine w_go K 1 (c' := (1, [some (.ref 1), some (.int a1), none], [.int a1], mT s)) rfl ?_
  refine w_callL K (E := f_Sky_dayOf a1 s) (g := fun (x10 : Int32) => (some (.int x10), mT s)) rfl (m_Sky_dayOf (len := len) (xs := xs) (d + 0) a1 s) (fun x10 => ?_)
  refine w_go K 2 (c' := (6, [some (.ref 1), some (.int a1), some (.int x10)], [.int x10], mT s)) rfl ?_
  refine w_zlt K rfl (fun _ => ?_) (fun _ => ?_)
  · refine w_go K 1 (c' := (28, [some (.ref 1), some (.int a1), some (.int x10)], [.int 0], mT s)) rfl ?_
    exact w_ret K rfl (hK _)
  · refine w_go K 4 (c' := (15, [some (.ref 1), some (.int a1), some (.int x10)], [.int 42, .int x10], mT s)) rfl ?_
    refine w_ige K rfl (fun _ => ?_) (fun _ => ?_)
    · refine w_go K 1 (c' := (28, [some (.ref 1), some (.int a1), some (.int x10)], [.int 0], mT s)) rfl ?_
      exact w_ret K rfl (hK _)
    · refine w_go K 3 (c' := (23, [some (.ref 1), some (.int a1), some (.int x10)], [.int x10, .ref 2], mT s)) rfl ?_
      refine w_ck K (st_iL rfl rfl) ?_
      refine w_go K 1 (c' := (28, [some (.ref 1), some (.int a1), some (.int x10)], [.int (gI s 2 (ix x10))], mT s)) rfl ?_
      exact w_ret K rfl (hK _)
theorem m_Sky_fogIn {len : Nat} {xs : Nat → Int32}  (d : Nat) (a1 : Int32) (s : mS) : ok_Sky_fogIn a1 s → mm_call (mm_X len xs) mm_Y (d + 2) 49 [.ref 1, .int a1] (mT s) = some (some (.int (f_Sky_fogIn a1 s)), mT s) := fun h => t_Sky_fogIn (len := len) (xs := xs) d a1 s (fun t => (some (some (.int t), mT s) : Option mm_R) = some (some (.int (f_Sky_fogIn a1 s)), mT s)) (fun _ h => h) h rfl
def f_Sky_houseWant (a1 : Int32) (a2 : Int32) (s : mS) : Int32 := (mq_let (f_Sky_hourOf a1 s) (fun (x10 : Int32) => (mq_let (f_Sky_hourlyWant x10 a2 s) (fun (x11 : Int32) => (mq_let (f_Sky_fogIn a1 s) (fun (x12 : Int32) => ((x11 * (2 + x12)) / 2)))))))
def ok_Sky_houseWant (a1 : Int32) (a2 : Int32) (s : mS) : Prop := (True ∧ mq_letP (f_Sky_hourOf a1 s) (fun (x10 : Int32) => (True ∧ mq_letP (f_Sky_hourlyWant x10 a2 s) (fun (x11 : Int32) => (ok_Sky_fogIn a1 s ∧ mq_letP (f_Sky_fogIn a1 s) (fun (x12 : Int32) => True))))))
set_option maxRecDepth 4000 in
theorem t_Sky_houseWant {len : Nat} {xs : Nat → Int32}  (d : Nat) (a1 : Int32) (a2 : Int32) (s : mS) {T : Option mm_R} (K : Int32 → Prop) (hK : ∀ t, K t → some (some (.int t), mT s) = T) : ok_Sky_houseWant a1 a2 s → K (f_Sky_houseWant a1 a2 s) → mm_fix (mm_X len xs) mm_Y (mm_call (mm_X len xs) mm_Y (d + 2)) (mm_look mc_Sky_houseWant) (0, [some (.ref 1), some (.int a1), some (.int a2)], [], mT s) = T := by
  unfold ok_Sky_houseWant f_Sky_houseWant
  refine w_go K 1 (c' := (1, [some (.ref 1), some (.int a1), some (.int a2)], [.int a1], mT s)) rfl ?_
  refine w_callL K (E := f_Sky_hourOf a1 s) (g := fun (x10 : Int32) => (some (.int x10), mT s)) rfl (m_Sky_hourOf (len := len) (xs := xs) (d + 0) a1 s) (fun x10 => ?_)
  refine w_go K 1 (c' := (5, [some (.ref 1), some (.int a1), some (.int a2)], [.int a2, .int x10], mT s)) rfl ?_
  refine w_callL K (E := f_Sky_hourlyWant x10 a2 s) (g := fun (x11 : Int32) => (some (.int x11), mT s)) rfl (m_Sky_hourlyWant (len := len) (xs := xs) (d + 1) x10 a2 s) (fun x11 => ?_)
  refine w_go K 3 (c' := (11, [some (.ref 1), some (.int a1), some (.int a2)], [.int a1, .ref 1, .int 2, .int x11], mT s)) rfl ?_
  refine w_callL K (E := f_Sky_fogIn a1 s) (g := fun (x12 : Int32) => (some (.int x12), mT s)) rfl (m_Sky_fogIn (len := len) (xs := xs) (d + 0) a1 s) (fun x12 => ?_)
  refine w_go K 4 (c' := (18, [some (.ref 1), some (.int a1), some (.int a2)], [.int ((x11 * (2 + x12)) / 2)], mT s)) rfl ?_
  exact w_ret K rfl (hK _)
theorem m_Sky_houseWant {len : Nat} {xs : Nat → Int32}  (d : Nat) (a1 : Int32) (a2 : Int32) (s : mS) : ok_Sky_houseWant a1 a2 s → mm_call (mm_X len xs) mm_Y (d + 3) 45 [.ref 1, .int a1, .int a2] (mT s) = some (some (.int (f_Sky_houseWant a1 a2 s)), mT s) := fun h => t_Sky_houseWant (len := len) (xs := xs) d a1 a2 s (fun t => (some (some (.int t), mT s) : Option mm_R) = some (some (.int (f_Sky_houseWant a1 a2 s)), mT s)) (fun _ h => h) h rfl
def f_Sky_lampBurns (a1 : Int32) (a2 : Int32) (s : mS) : Int32 := (mq_let (f_Sky_dayOf a1 s) (fun (x10 : Int32) => (if ((gI s 1 1) + a2) ≤ (a1 - (96 * x10)) then 1 else (if (a1 - (96 * x10)) < ((gI s 1 2) + a2) then 1 else (mq_let (f_Sky_fogIn a1 s) (fun (x11 : Int32) => (if x11 < 2 then 0 else 1)))))))
def ok_Sky_lampBurns (a1 : Int32) (a2 : Int32) (s : mS) : Prop := (True ∧ mq_letP (f_Sky_dayOf a1 s) (fun (x10 : Int32) => (if ((gI s 1 1) + a2) ≤ (a1 - (96 * x10)) then True else (if (a1 - (96 * x10)) < ((gI s 1 2) + a2) then True else (ok_Sky_fogIn a1 s ∧ mq_letP (f_Sky_fogIn a1 s) (fun (x11 : Int32) => True))))))
set_option maxRecDepth 4000 in
theorem t_Sky_lampBurns {len : Nat} {xs : Nat → Int32}  (d : Nat) (a1 : Int32) (a2 : Int32) (s : mS) {T : Option mm_R} (K : Int32 → Prop) (hK : ∀ t, K t → some (some (.int t), mT s) = T) : ok_Sky_lampBurns a1 a2 s → K (f_Sky_lampBurns a1 a2 s) → mm_fix (mm_X len xs) mm_Y (mm_call (mm_X len xs) mm_Y (d + 2)) (mm_look mc_Sky_lampBurns) (0, [some (.ref 1), some (.int a1), some (.int a2), none], [], mT s) = T := by
  unfold ok_Sky_lampBurns f_Sky_lampBurns
  refine w_go K 3 (c' := (4, [some (.ref 1), some (.int a1), some (.int a2), none], [.int a1, .int 96, .int a1], mT s)) rfl ?_
  refine w_callL K (E := f_Sky_dayOf a1 s) (g := fun (x10 : Int32) => (some (.int x10), mT s)) rfl (m_Sky_dayOf (len := len) (xs := xs) (d + 1) a1 s) (fun x10 => ?_)
  refine w_go K 8 (c' := (17, [some (.ref 1), some (.int a1), some (.int a2), some (.int (a1 - (96 * x10)))], [.int ((gI s 1 1) + a2), .int (a1 - (96 * x10))], mT s)) rfl ?_
  refine w_ige K rfl (fun _ => ?_) (fun _ => ?_)
  · refine w_go K 2 (c' := (44, [some (.ref 1), some (.int a1), some (.int a2), some (.int (a1 - (96 * x10)))], [.int 1], mT s)) rfl ?_
    exact w_ret K rfl (hK _)
  · refine w_go K 5 (c' := (27, [some (.ref 1), some (.int a1), some (.int a2), some (.int (a1 - (96 * x10)))], [.int ((gI s 1 2) + a2), .int (a1 - (96 * x10))], mT s)) rfl ?_
    refine w_ilt K rfl (fun _ => ?_) (fun _ => ?_)
    · refine w_go K 2 (c' := (44, [some (.ref 1), some (.int a1), some (.int a2), some (.int (a1 - (96 * x10)))], [.int 1], mT s)) rfl ?_
      exact w_ret K rfl (hK _)
    · refine w_go K 2 (c' := (32, [some (.ref 1), some (.int a1), some (.int a2), some (.int (a1 - (96 * x10)))], [.int a1, .ref 1], mT s)) rfl ?_
      refine w_callL K (E := f_Sky_fogIn a1 s) (g := fun (x11 : Int32) => (some (.int x11), mT s)) rfl (m_Sky_fogIn (len := len) (xs := xs) (d + 0) a1 s) (fun x11 => ?_)
      refine w_go K 1 (c' := (36, [some (.ref 1), some (.int a1), some (.int a2), some (.int (a1 - (96 * x10)))], [.int 2, .int x11], mT s)) rfl ?_
      refine w_iltT K rfl (fun _ => ?_) (fun _ => ?_)
      · refine w_go K 1 (c' := (44, [some (.ref 1), some (.int a1), some (.int a2), some (.int (a1 - (96 * x10)))], [.int 0], mT s)) rfl ?_
        exact w_ret K rfl (hK _)
      · refine w_go K 2 (c' := (44, [some (.ref 1), some (.int a1), some (.int a2), some (.int (a1 - (96 * x10)))], [.int 1], mT s)) rfl ?_
        exact w_ret K rfl (hK _)
theorem m_Sky_lampBurns {len : Nat} {xs : Nat → Int32}  (d : Nat) (a1 : Int32) (a2 : Int32) (s : mS) : ok_Sky_lampBurns a1 a2 s → mm_call (mm_X len xs) mm_Y (d + 3) 50 [.ref 1, .int a1, .int a2] (mT s) = some (some (.int (f_Sky_lampBurns a1 a2 s)), mT s) := fun h => t_Sky_lampBurns (len := len) (xs := xs) d a1 a2 s (fun t => (some (some (.int t), mT s) : Option mm_R) = some (some (.int (f_Sky_lampBurns a1 a2 s)), mT s)) (fun _ h => h) h rfl
def f_Things_wantOf (a1 : Int32) (a2 : Int32) (s : mS) : Int32 := (mq_let (f_Things_has a1 s) (fun (x10 : Int32) => (if x10 = 0 then 0 else (if (gI s 17 (ix a1)) = 0 then (if (gI s 14 (ix a1)) = 0 then (mq_let (f_Sky_houseWant a2 (gI s 15 (ix a1)) s) (fun (x11 : Int32) => x11)) else (if (gI s 14 (ix a1)) = 1 then (mq_let (f_Sky_lampBurns a2 (gI s 16 (ix a1)) s) (fun (x12 : Int32) => (if x12 = 0 then 0 else (gI s 15 (ix a1))))) else (if (gI s 14 (ix a1)) = 2 then (mq_let (f_Sky_houseWant a2 (gI s 15 (ix a1)) s) (fun (x13 : Int32) => (if (gI s 19 (ix a1)) < x13 then (gI s 19 (ix a1)) else x13))) else (gI s 15 (ix a1))))) else 0))))
def ok_Things_wantOf (a1 : Int32) (a2 : Int32) (s : mS) : Prop := (True ∧ mq_letP (f_Things_has a1 s) (fun (x10 : Int32) => (if x10 = 0 then True else (mm_inb a1 40 = true ∧ (if (gI s 17 (ix a1)) = 0 then (mm_inb a1 40 = true ∧ (if (gI s 14 (ix a1)) = 0 then (mm_inb a1 40 = true ∧ (ok_Sky_houseWant a2 (gI s 15 (ix a1)) s ∧ mq_letP (f_Sky_houseWant a2 (gI s 15 (ix a1)) s) (fun (x11 : Int32) => True))) else (if (gI s 14 (ix a1)) = 1 then (mm_inb a1 40 = true ∧ (ok_Sky_lampBurns a2 (gI s 16 (ix a1)) s ∧ mq_letP (f_Sky_lampBurns a2 (gI s 16 (ix a1)) s) (fun (x12 : Int32) => (if x12 = 0 then True else (mm_inb a1 40 = true ∧ True))))) else (if (gI s 14 (ix a1)) = 2 then (mm_inb a1 40 = true ∧ (ok_Sky_houseWant a2 (gI s 15 (ix a1)) s ∧ mq_letP (f_Sky_houseWant a2 (gI s 15 (ix a1)) s) (fun (x13 : Int32) => (mm_inb a1 40 = true ∧ True)))) else (mm_inb a1 40 = true ∧ True))))) else True)))))
set_option maxRecDepth 4000 in
theorem t_Things_wantOf {len : Nat} {xs : Nat → Int32}  (d : Nat) (a1 : Int32) (a2 : Int32) (s : mS) {T : Option mm_R} (K : Int32 → Prop) (hK : ∀ t, K t → some (some (.int t), mT s) = T) : ok_Things_wantOf a1 a2 s → K (f_Things_wantOf a1 a2 s) → mm_fix (mm_X len xs) mm_Y (mm_call (mm_X len xs) mm_Y (d + 3)) (mm_look mc_Things_wantOf) (0, [some (.ref 12), some (.int a1), some (.int a2), some (.ref 1)], [], mT s) = T := by
  unfold ok_Things_wantOf f_Things_wantOf
  refine w_go K 2 (c' := (2, [some (.ref 12), some (.int a1), some (.int a2), some (.ref 1)], [.int a1, .ref 12], mT s)) rfl ?_
  refine w_callL K (E := f_Things_has a1 s) (g := fun (x10 : Int32) => (some (.int x10), mT s)) rfl (m_Things_has (len := len) (xs := xs) (d + 2) a1 s) (fun x10 => ?_)
  refine w_go K 0 (c' := (5, [some (.ref 12), some (.int a1), some (.int a2), some (.ref 1)], [.int x10], mT s)) rfl ?_
  refine w_zeq K rfl (fun _ => ?_) (fun _ => ?_)
  · refine w_go K 1 (c' := (18, [some (.ref 12), some (.int a1), some (.int a2), some (.ref 1)], [.int 0], mT s)) rfl ?_
    exact w_ret K rfl (hK _)
  · refine w_go K 3 (c' := (13, [some (.ref 12), some (.int a1), some (.int a2), some (.ref 1)], [.int a1, .ref 17], mT s)) rfl ?_
    refine w_ck K (st_bL rfl rfl) ?_
    refine w_go K 0 (c' := (14, [some (.ref 12), some (.int a1), some (.int a2), some (.ref 1)], [.int (gI s 17 (ix a1))], mT s)) rfl ?_
    refine w_zeq K rfl (fun _ => ?_) (fun _ => ?_)
    · refine w_go K 3 (c' := (24, [some (.ref 12), some (.int a1), some (.int a2), some (.ref 1)], [.int a1, .ref 14], mT s)) rfl ?_
      refine w_ck K (st_iL rfl rfl) ?_
      refine w_go K 0 (c' := (25, [some (.ref 12), some (.int a1), some (.int a2), some (.ref 1)], [.int (gI s 14 (ix a1))], mT s)) rfl ?_
      refine w_go K 1 (c' := (mm_sw [(0, 52), (1, 64), (2, 89)] 110 (gI s 14 (ix a1)), [some (.ref 12), some (.int a1), some (.int a2), some (.ref 1)], [], mT s)) rfl ?_
      refine w_sw K (fun _ => ?_) (fun _ => ?_)
      · refine w_go K 5 (c' := (59, [some (.ref 12), some (.int a1), some (.int a2), some (.ref 1)], [.int a1, .ref 15, .int a2, .ref 1], mT s)) rfl ?_
        refine w_ck K (st_iL rfl rfl) ?_
        refine w_go K 0 (c' := (60, [some (.ref 12), some (.int a1), some (.int a2), some (.ref 1)], [.int (gI s 15 (ix a1)), .int a2, .ref 1], mT s)) rfl ?_
        refine w_callL K (E := f_Sky_houseWant a2 (gI s 15 (ix a1)) s) (g := fun (x11 : Int32) => (some (.int x11), mT s)) rfl (m_Sky_houseWant (len := len) (xs := xs) (d + 0) a2 (gI s 15 (ix a1)) s) (fun x11 => ?_)
        refine w_go K 0 (c' := (63, [some (.ref 12), some (.int a1), some (.int a2), some (.ref 1)], [.int x11], mT s)) rfl ?_
        exact w_ret K rfl (hK _)
      · refine w_sw K (fun _ => ?_) (fun _ => ?_)
        · refine w_go K 5 (c' := (71, [some (.ref 12), some (.int a1), some (.int a2), some (.ref 1)], [.int a1, .ref 16, .int a2, .ref 1], mT s)) rfl ?_
          refine w_ck K (st_iL rfl rfl) ?_
          refine w_go K 0 (c' := (72, [some (.ref 12), some (.int a1), some (.int a2), some (.ref 1)], [.int (gI s 16 (ix a1)), .int a2, .ref 1], mT s)) rfl ?_
          refine w_callL K (E := f_Sky_lampBurns a2 (gI s 16 (ix a1)) s) (g := fun (x12 : Int32) => (some (.int x12), mT s)) rfl (m_Sky_lampBurns (len := len) (xs := xs) (d + 0) a2 (gI s 16 (ix a1)) s) (fun x12 => ?_)
          refine w_go K 0 (c' := (75, [some (.ref 12), some (.int a1), some (.int a2), some (.ref 1)], [.int x12], mT s)) rfl ?_
          refine w_zeq K rfl (fun _ => ?_) (fun _ => ?_)
          · refine w_go K 1 (c' := (88, [some (.ref 12), some (.int a1), some (.int a2), some (.ref 1)], [.int 0], mT s)) rfl ?_
            exact w_ret K rfl (hK _)
          · refine w_go K 3 (c' := (83, [some (.ref 12), some (.int a1), some (.int a2), some (.ref 1)], [.int a1, .ref 15], mT s)) rfl ?_
            refine w_ck K (st_iL rfl rfl) ?_
            refine w_go K 1 (c' := (88, [some (.ref 12), some (.int a1), some (.int a2), some (.ref 1)], [.int (gI s 15 (ix a1))], mT s)) rfl ?_
            exact w_ret K rfl (hK _)
        · refine w_sw K (fun _ => ?_) (fun _ => ?_)
          · refine w_go K 5 (c' := (96, [some (.ref 12), some (.int a1), some (.int a2), some (.ref 1)], [.int a1, .ref 15, .int a2, .ref 1], mT s)) rfl ?_
            refine w_ck K (st_iL rfl rfl) ?_
            refine w_go K 0 (c' := (97, [some (.ref 12), some (.int a1), some (.int a2), some (.ref 1)], [.int (gI s 15 (ix a1)), .int a2, .ref 1], mT s)) rfl ?_
            refine w_callL K (E := f_Sky_houseWant a2 (gI s 15 (ix a1)) s) (g := fun (x13 : Int32) => (some (.int x13), mT s)) rfl (m_Sky_houseWant (len := len) (xs := xs) (d + 0) a2 (gI s 15 (ix a1)) s) (fun x13 => ?_)
            refine w_go K 3 (c' := (105, [some (.ref 12), some (.int a1), some (.int a2), some (.ref 1)], [.int a1, .ref 19, .int x13], mT s)) rfl ?_
            refine w_ck K (st_iL rfl rfl) ?_
            refine w_go K 1 (c' := (109, [some (.ref 12), some (.int a1), some (.int a2), some (.ref 1)], [.int (if (gI s 19 (ix a1)) < x13 then (gI s 19 (ix a1)) else x13)], mT s)) rfl ?_
            exact w_ret K rfl (hK _)
          · refine w_go K 0 (c' := (110, [some (.ref 12), some (.int a1), some (.int a2), some (.ref 1)], [], mT s)) rfl ?_
            refine w_go K 3 (c' := (115, [some (.ref 12), some (.int a1), some (.int a2), some (.ref 1)], [.int a1, .ref 15], mT s)) rfl ?_
            refine w_ck K (st_iL rfl rfl) ?_
            refine w_go K 0 (c' := (116, [some (.ref 12), some (.int a1), some (.int a2), some (.ref 1)], [.int (gI s 15 (ix a1))], mT s)) rfl ?_
            exact w_ret K rfl (hK _)
    · refine w_go K 1 (c' := (18, [some (.ref 12), some (.int a1), some (.int a2), some (.ref 1)], [.int 0], mT s)) rfl ?_
      exact w_ret K rfl (hK _)
theorem m_Things_wantOf {len : Nat} {xs : Nat → Int32}  (d : Nat) (a1 : Int32) (a2 : Int32) (s : mS) : ok_Things_wantOf a1 a2 s → mm_call (mm_X len xs) mm_Y (d + 4) 44 [.ref 12, .int a1, .int a2, .ref 1] (mT s) = some (some (.int (f_Things_wantOf a1 a2 s)), mT s) := fun h => t_Things_wantOf (len := len) (xs := xs) d a1 a2 s (fun t => (some (some (.int t), mT s) : Option mm_R) = some (some (.int (f_Things_wantOf a1 a2 s)), mT s)) (fun _ h => h) h rfl
def lp_Things_askAll_2 (a1 : Int32) : Nat → Int32 → mS → Int32 × mS
  | 0, v3, s => (v3, s)
  | n + 1, v3, s => (if (40 : Int32) ≤ v3 then (v3, s) else (mq_let (f_Things_wantOf v3 a1 s) (fun (x10 : Int32) => (lp_Things_askAll_2 a1 n (v3 + 1) (sI s 23 (ix v3) x10)))))
def okl_Things_askAll_2 (a1 : Int32) : Nat → Int32 → mS → Prop
  | 0, v3, s => False
  | n + 1, v3, s => (if (40 : Int32) ≤ v3 then True else (ok_Things_wantOf v3 a1 s ∧ mq_letP (f_Things_wantOf v3 a1 s) (fun (x10 : Int32) => (mm_inb v3 40 = true ∧ (okl_Things_askAll_2 a1 n (v3 + 1) (sI s 23 (ix v3) x10))))))
set_option maxRecDepth 4000 in
theorem tl_Things_askAll_2 {len : Nat} {xs : Nat → Int32}  (d : Nat) (a1 : Int32)  {T : Option mm_R} (K : Int32 × mS → Prop) (hX : ∀ r, K r → mm_fix (mm_X len xs) mm_Y (mm_call (mm_X len xs) mm_Y (d + 4)) (mm_look mc_Things_askAll) (27, [some (.ref 12), some (.int a1), some (.ref 1), some (.int r.1)], [], mT r.2) = T) : ∀ (n : Nat), ∀ (v3 : Int32) (s : mS), okl_Things_askAll_2 a1 n v3 s → K (lp_Things_askAll_2 a1 n v3 s) → mm_fix (mm_X len xs) mm_Y (mm_call (mm_X len xs) mm_Y (d + 4)) (mm_look mc_Things_askAll) (2, [some (.ref 12), some (.int a1), some (.ref 1), some (.int v3)], [], mT s) = T := by
  intro n
  induction n with
  | zero => intro v3 s; exact fun h => h.elim
  | succ n ih =>
    intro v3 s
    rw [okl_Things_askAll_2, lp_Things_askAll_2]
    refine w_go K 2 (c' := (5, [some (.ref 12), some (.int a1), some (.ref 1), some (.int v3)], [.int 40, .int v3], mT s)) rfl ?_
    refine w_ige K rfl (fun _ => ?_) (fun _ => ?_)
    · refine w_go K 0 (c' := (27, [some (.ref 12), some (.int a1), some (.ref 1), some (.int v3)], [], mT s)) rfl ?_
      exact fun _ b => hX _ b
    · refine w_go K 7 (c' := (17, [some (.ref 12), some (.int a1), some (.ref 1), some (.int v3)], [.ref 1, .int a1, .int v3, .ref 12, .int v3, .ref 23], mT s)) rfl ?_
      refine w_callL K (E := f_Things_wantOf v3 a1 s) (g := fun (x10 : Int32) => (some (.int x10), mT s)) rfl (m_Things_wantOf (len := len) (xs := xs) (d + 0) v3 a1 s) (fun x10 => ?_)
      refine w_go K 0 (c' := (20, [some (.ref 12), some (.int a1), some (.ref 1), some (.int v3)], [.int x10, .int v3, .ref 23], mT s)) rfl ?_
      refine w_ck K (st_iS rfl rfl) ?_
      refine w_go K 2 (c' := (2, [some (.ref 12), some (.int a1), some (.ref 1), some (.int (v3 + 1))], [], mT (sI s 23 (ix v3) x10))) rfl ?_
      exact fun a b => ih (v3 + 1) (sI s 23 (ix v3) x10) a b
def f_Things_askAll (a1 : Int32) (s : mS) : mS := (mq_let (lp_Things_askAll_2 a1 mm_N (0 : Int32) s) (fun (x11 : Int32 × mS) => x11.2))
def ok_Things_askAll (a1 : Int32) (s : mS) : Prop := (okl_Things_askAll_2 a1 mm_N (0 : Int32) s ∧ mq_letP (lp_Things_askAll_2 a1 mm_N (0 : Int32) s) (fun (x11 : Int32 × mS) => True))
set_option maxRecDepth 4000 in
theorem t_Things_askAll {len : Nat} {xs : Nat → Int32}  (d : Nat) (a1 : Int32) (s : mS) {T : Option mm_R} (K : mS → Prop) (hK : ∀ t, K t → some (none, mT t) = T) : ok_Things_askAll a1 s → K (f_Things_askAll a1 s) → mm_fix (mm_X len xs) mm_Y (mm_call (mm_X len xs) mm_Y (d + 4)) (mm_look mc_Things_askAll) (0, [some (.ref 12), some (.int a1), some (.ref 1), none], [], mT s) = T := by
  unfold ok_Things_askAll f_Things_askAll
  refine w_go K 2 (c' := (2, [some (.ref 12), some (.int a1), some (.ref 1), some (.int 0)], [], mT s)) rfl ?_
  refine w_join K (fun (x11 : Int32 × mS) => mm_fix (mm_X len xs) mm_Y (mm_call (mm_X len xs) mm_Y (d + 4)) (mm_look mc_Things_askAll) (27, [some (.ref 12), some (.int a1), some (.ref 1), some (.int x11.1)], [], mT x11.2) = T) (fun K hJ => tl_Things_askAll_2 (len := len) (xs := xs) d a1 (T := T) K hJ mm_N (0 : Int32) s) (fun x11 h1 h2 => ?_)
  revert h1 h2
  refine w_go K 0 (c' := (27, [some (.ref 12), some (.int a1), some (.ref 1), some (.int x11.1)], [], mT x11.2)) rfl ?_
  exact w_ret K rfl (hK _)
theorem m_Things_askAll {len : Nat} {xs : Nat → Int32}  (d : Nat) (a1 : Int32) (s : mS) : ok_Things_askAll a1 s → mm_call (mm_X len xs) mm_Y (d + 5) 43 [.ref 12, .int a1, .ref 1] (mT s) = some (none, mT (f_Things_askAll a1 s)) := fun h => t_Things_askAll (len := len) (xs := xs) d a1 s (fun t => (some (none, mT t) : Option mm_R) = some (none, mT (f_Things_askAll a1 s))) (fun _ h => h) h rfl
def lp_Things_takeWants_2  : Nat → Int32 → mS → Int32 × mS
  | 0, v1, s => (v1, s)
  | n + 1, v1, s => (if (40 : Int32) ≤ v1 then (v1, s) else (lp_Things_takeWants_2 n (v1 + 1) (sI s 24 (ix v1) (gI s 23 (ix v1)))))
def okl_Things_takeWants_2  : Nat → Int32 → mS → Prop
  | 0, v1, s => False
  | n + 1, v1, s => (if (40 : Int32) ≤ v1 then True else (mm_inb v1 40 = true ∧ (mm_inb v1 40 = true ∧ (okl_Things_takeWants_2 n (v1 + 1) (sI s 24 (ix v1) (gI s 23 (ix v1)))))))
set_option maxRecDepth 4000 in
theorem tl_Things_takeWants_2 {len : Nat} {xs : Nat → Int32}  (d : Nat)   {T : Option mm_R} (K : Int32 × mS → Prop) (hX : ∀ r, K r → mm_fix (mm_X len xs) mm_Y (mm_call (mm_X len xs) mm_Y (d + 0)) (mm_look mc_Things_takeWants) (26, [some (.ref 12), some (.int r.1)], [], mT r.2) = T) : ∀ (n : Nat), ∀ (v1 : Int32) (s : mS), okl_Things_takeWants_2 n v1 s → K (lp_Things_takeWants_2 n v1 s) → mm_fix (mm_X len xs) mm_Y (mm_call (mm_X len xs) mm_Y (d + 0)) (mm_look mc_Things_takeWants) (2, [some (.ref 12), some (.int v1)], [], mT s) = T := by
  intro n
  induction n with
  | zero => intro v1 s; exact fun h => h.elim
  | succ n ih =>
    intro v1 s
    rw [okl_Things_takeWants_2, lp_Things_takeWants_2]
    refine w_go K 2 (c' := (5, [some (.ref 12), some (.int v1)], [.int 40, .int v1], mT s)) rfl ?_
    refine w_ige K rfl (fun _ => ?_) (fun _ => ?_)
    · refine w_go K 0 (c' := (26, [some (.ref 12), some (.int v1)], [], mT s)) rfl ?_
      exact fun _ b => hX _ b
    · refine w_go K 6 (c' := (18, [some (.ref 12), some (.int v1)], [.int v1, .ref 23, .int v1, .ref 24], mT s)) rfl ?_
      refine w_ck K (st_iL rfl rfl) ?_
      refine w_go K 0 (c' := (19, [some (.ref 12), some (.int v1)], [.int (gI s 23 (ix v1)), .int v1, .ref 24], mT s)) rfl ?_
      refine w_ck K (st_iS rfl rfl) ?_
      refine w_go K 2 (c' := (2, [some (.ref 12), some (.int (v1 + 1))], [], mT (sI s 24 (ix v1) (gI s 23 (ix v1))))) rfl ?_
      exact fun a b => ih (v1 + 1) (sI s 24 (ix v1) (gI s 23 (ix v1))) a b
def f_Things_takeWants  (s : mS) : mS := (mq_let (lp_Things_takeWants_2 mm_N (0 : Int32) s) (fun (x10 : Int32 × mS) => x10.2))
def ok_Things_takeWants  (s : mS) : Prop := (okl_Things_takeWants_2 mm_N (0 : Int32) s ∧ mq_letP (lp_Things_takeWants_2 mm_N (0 : Int32) s) (fun (x10 : Int32 × mS) => True))
set_option maxRecDepth 4000 in
theorem t_Things_takeWants {len : Nat} {xs : Nat → Int32}  (d : Nat)  (s : mS) {T : Option mm_R} (K : mS → Prop) (hK : ∀ t, K t → some (none, mT t) = T) : ok_Things_takeWants s → K (f_Things_takeWants s) → mm_fix (mm_X len xs) mm_Y (mm_call (mm_X len xs) mm_Y (d + 0)) (mm_look mc_Things_takeWants) (0, [some (.ref 12), none], [], mT s) = T := by
  unfold ok_Things_takeWants f_Things_takeWants
  refine w_go K 2 (c' := (2, [some (.ref 12), some (.int 0)], [], mT s)) rfl ?_
  refine w_join K (fun (x10 : Int32 × mS) => mm_fix (mm_X len xs) mm_Y (mm_call (mm_X len xs) mm_Y (d + 0)) (mm_look mc_Things_takeWants) (26, [some (.ref 12), some (.int x10.1)], [], mT x10.2) = T) (fun K hJ => tl_Things_takeWants_2 (len := len) (xs := xs) d (T := T) K hJ mm_N (0 : Int32) s) (fun x10 h1 h2 => ?_)
  revert h1 h2
  refine w_go K 0 (c' := (26, [some (.ref 12), some (.int x10.1)], [], mT x10.2)) rfl ?_
  exact w_ret K rfl (hK _)
theorem m_Things_takeWants {len : Nat} {xs : Nat → Int32}  (d : Nat)  (s : mS) : ok_Things_takeWants s → mm_call (mm_X len xs) mm_Y (d + 1) 52 [.ref 12] (mT s) = some (none, mT (f_Things_takeWants s)) := fun h => t_Things_takeWants (len := len) (xs := xs) d s (fun t => (some (none, mT t) : Option mm_R) = some (none, mT (f_Things_takeWants s))) (fun _ h => h) h rfl
def lp_Net_gatherFlow_2  : Nat → Int32 → mS → Int32 × mS
  | 0, v2, s => (v2, s)
  | n + 1, v2, s => (if (16 : Int32) ≤ v2 then (v2, s) else (lp_Net_gatherFlow_2 n (v2 + 1) (sI s 31 (ix v2) 0)))
def okl_Net_gatherFlow_2  : Nat → Int32 → mS → Prop
  | 0, v2, s => False
  | n + 1, v2, s => (if (16 : Int32) ≤ v2 then True else (mm_inb v2 16 = true ∧ (okl_Net_gatherFlow_2 n (v2 + 1) (sI s 31 (ix v2) 0))))
set_option maxRecDepth 4000 in
theorem tl_Net_gatherFlow_2 {len : Nat} {xs : Nat → Int32}  (d : Nat)   {T : Option mm_R} (K : Int32 × mS → Prop) (hX : ∀ r, K r → ∀ (o3 : Option Value), mm_fix (mm_X len xs) mm_Y (mm_call (mm_X len xs) mm_Y (d + 1)) (mm_look mc_Net_gatherFlow) (21, [some (.ref 25), some (.ref 12), some (.int r.1), o3], [], mT r.2) = T) : ∀ (n : Nat), ∀ (v2 : Int32) (o3 : Option Value) (s : mS), okl_Net_gatherFlow_2 n v2 s → K (lp_Net_gatherFlow_2 n v2 s) → mm_fix (mm_X len xs) mm_Y (mm_call (mm_X len xs) mm_Y (d + 1)) (mm_look mc_Net_gatherFlow) (2, [some (.ref 25), some (.ref 12), some (.int v2), o3], [], mT s) = T := by
  intro n
  induction n with
  | zero => intro v2 o3 s; exact fun h => h.elim
  | succ n ih =>
    intro v2 o3 s
    rw [okl_Net_gatherFlow_2, lp_Net_gatherFlow_2]
    refine w_go K 2 (c' := (5, [some (.ref 25), some (.ref 12), some (.int v2), o3], [.int 16, .int v2], mT s)) rfl ?_
    refine w_ige K rfl (fun _ => ?_) (fun _ => ?_)
    · refine w_go K 0 (c' := (21, [some (.ref 25), some (.ref 12), some (.int v2), o3], [], mT s)) rfl ?_
      exact fun _ b => hX _ b _
    · refine w_go K 4 (c' := (14, [some (.ref 25), some (.ref 12), some (.int v2), o3], [.int 0, .int v2, .ref 31], mT s)) rfl ?_
      refine w_ck K (st_iS rfl rfl) ?_
      refine w_go K 2 (c' := (2, [some (.ref 25), some (.ref 12), some (.int (v2 + 1)), o3], [], mT (sI s 31 (ix v2) 0))) rfl ?_
      exact fun a b => ih (v2 + 1) _ (sI s 31 (ix v2) 0) a b
def lp_Net_gatherFlow_23  : Nat → Int32 → mS → Int32 × mS
  | 0, v2, s => (v2, s)
  | n + 1, v2, s => (if (gI s 12 12) ≤ v2 then (v2, s) else (if (40 : Int32) ≤ v2 then (v2, s) else (mq_let (f_Net_has (gI s 13 (ix v2)) s) (fun (x12 : Int32) => (if x12 = 0 then (lp_Net_gatherFlow_23 n (v2 + 1) s) else (lp_Net_gatherFlow_23 n (v2 + 1) (sI s 31 (ix (gI s 13 (ix v2))) ((gI s 31 (ix (gI s 13 (ix v2)))) + (gI s 24 (ix v2))))))))))
def okl_Net_gatherFlow_23  : Nat → Int32 → mS → Prop
  | 0, v2, s => False
  | n + 1, v2, s => (if (gI s 12 12) ≤ v2 then True else (if (40 : Int32) ≤ v2 then True else (mm_inb v2 40 = true ∧ (True ∧ mq_letP (f_Net_has (gI s 13 (ix v2)) s) (fun (x12 : Int32) => (if x12 = 0 then (okl_Net_gatherFlow_23 n (v2 + 1) s) else (mm_inb (gI s 13 (ix v2)) 16 = true ∧ (mm_inb v2 40 = true ∧ (mm_inb (gI s 13 (ix v2)) 16 = true ∧ (okl_Net_gatherFlow_23 n (v2 + 1) (sI s 31 (ix (gI s 13 (ix v2))) ((gI s 31 (ix (gI s 13 (ix v2)))) + (gI s 24 (ix v2))))))))))))))
set_option maxRecDepth 4000 in
theorem tl_Net_gatherFlow_23 {len : Nat} {xs : Nat → Int32}  (d : Nat)   {T : Option mm_R} (K : Int32 × mS → Prop) (hX : ∀ r, K r → ∀ (o3 : Option Value), mm_fix (mm_X len xs) mm_Y (mm_call (mm_X len xs) mm_Y (d + 1)) (mm_look mc_Net_gatherFlow) (73, [some (.ref 25), some (.ref 12), some (.int r.1), o3], [], mT r.2) = T) : ∀ (n : Nat), ∀ (v2 : Int32) (o3 : Option Value) (s : mS), okl_Net_gatherFlow_23 n v2 s → K (lp_Net_gatherFlow_23 n v2 s) → mm_fix (mm_X len xs) mm_Y (mm_call (mm_X len xs) mm_Y (d + 1)) (mm_look mc_Net_gatherFlow) (23, [some (.ref 25), some (.ref 12), some (.int v2), o3], [], mT s) = T := by
  intro n
  induction n with
  | zero => intro v2 o3 s; exact fun h => h.elim
  | succ n ih =>
    intro v2 o3 s
    rw [okl_Net_gatherFlow_23, lp_Net_gatherFlow_23]
    refine w_go K 3 (c' := (28, [some (.ref 25), some (.ref 12), some (.int v2), o3], [.int (gI s 12 12), .int v2], mT s)) rfl ?_
    refine w_ige K rfl (fun _ => ?_) (fun _ => ?_)
    · refine w_go K 0 (c' := (73, [some (.ref 25), some (.ref 12), some (.int v2), o3], [], mT s)) rfl ?_
      exact fun _ b => hX _ b _
    · refine w_go K 2 (c' := (34, [some (.ref 25), some (.ref 12), some (.int v2), o3], [.int 40, .int v2], mT s)) rfl ?_
      refine w_ige K rfl (fun _ => ?_) (fun _ => ?_)
      · refine w_go K 0 (c' := (73, [some (.ref 25), some (.ref 12), some (.int v2), o3], [], mT s)) rfl ?_
        exact fun _ b => hX _ b _
      · refine w_go K 3 (c' := (42, [some (.ref 25), some (.ref 12), some (.int v2), o3], [.int v2, .ref 13], mT s)) rfl ?_
        refine w_ck K (st_iL rfl rfl) ?_
        refine w_go K 3 (c' := (46, [some (.ref 25), some (.ref 12), some (.int v2), some (.int (gI s 13 (ix v2)))], [.int (gI s 13 (ix v2)), .ref 25], mT s)) rfl ?_
        refine w_callL K (E := f_Net_has (gI s 13 (ix v2)) s) (g := fun (x12 : Int32) => (some (.int x12), mT s)) rfl (m_Net_has (len := len) (xs := xs) (d + 0) (gI s 13 (ix v2)) s) (fun x12 => ?_)
        refine w_go K 0 (c' := (49, [some (.ref 25), some (.ref 12), some (.int v2), some (.int (gI s 13 (ix v2)))], [.int x12], mT s)) rfl ?_
        refine w_zeq K rfl (fun _ => ?_) (fun _ => ?_)
        · refine w_go K 2 (c' := (23, [some (.ref 25), some (.ref 12), some (.int (v2 + 1)), some (.int (gI s 13 (ix v2)))], [], mT s)) rfl ?_
          exact fun a b => ih (v2 + 1) _ s a b
        · refine w_go K 4 (c' := (58, [some (.ref 25), some (.ref 12), some (.int v2), some (.int (gI s 13 (ix v2)))], [.int (gI s 13 (ix v2)), .ref 31, .int (gI s 13 (ix v2)), .ref 31], mT s)) rfl ?_
          refine w_ck K (st_iL rfl rfl) ?_
          refine w_go K 3 (c' := (64, [some (.ref 25), some (.ref 12), some (.int v2), some (.int (gI s 13 (ix v2)))], [.int v2, .ref 24, .int (gI s 31 (ix (gI s 13 (ix v2)))), .int (gI s 13 (ix v2)), .ref 31], mT s)) rfl ?_
          refine w_ck K (st_iL rfl rfl) ?_
          refine w_go K 1 (c' := (66, [some (.ref 25), some (.ref 12), some (.int v2), some (.int (gI s 13 (ix v2)))], [.int ((gI s 31 (ix (gI s 13 (ix v2)))) + (gI s 24 (ix v2))), .int (gI s 13 (ix v2)), .ref 31], mT s)) rfl ?_
          refine w_ck K (st_iS rfl rfl) ?_
          refine w_go K 2 (c' := (23, [some (.ref 25), some (.ref 12), some (.int (v2 + 1)), some (.int (gI s 13 (ix v2)))], [], mT (sI s 31 (ix (gI s 13 (ix v2))) ((gI s 31 (ix (gI s 13 (ix v2)))) + (gI s 24 (ix v2)))))) rfl ?_
          exact fun a b => ih (v2 + 1) _ (sI s 31 (ix (gI s 13 (ix v2))) ((gI s 31 (ix (gI s 13 (ix v2)))) + (gI s 24 (ix v2)))) a b
def lp_Net_gatherFlow_76  : Nat → Int32 → mS → Int32 × mS
  | 0, v2, s => (v2, s)
  | n + 1, v2, s => (if v2 ≤ 0 then (v2, s) else (mq_let (f_Net_has v2 s) (fun (x15 : Int32) => (if x15 = 0 then (lp_Net_gatherFlow_76 n (v2 + (-1)) s) else (mq_let (f_Net_has (gI s 26 (ix v2)) s) (fun (x16 : Int32) => (if x16 = 0 then (lp_Net_gatherFlow_76 n (v2 + (-1)) s) else (lp_Net_gatherFlow_76 n (v2 + (-1)) (sI s 31 (ix (gI s 26 (ix v2))) ((gI s 31 (ix (gI s 26 (ix v2)))) + (gI s 31 (ix v2))))))))))))
def okl_Net_gatherFlow_76  : Nat → Int32 → mS → Prop
  | 0, v2, s => False
  | n + 1, v2, s => (if v2 ≤ 0 then True else (mm_inb v2 16 = true ∧ (True ∧ mq_letP (f_Net_has v2 s) (fun (x15 : Int32) => (if x15 = 0 then (okl_Net_gatherFlow_76 n (v2 + (-1)) s) else (True ∧ mq_letP (f_Net_has (gI s 26 (ix v2)) s) (fun (x16 : Int32) => (if x16 = 0 then (okl_Net_gatherFlow_76 n (v2 + (-1)) s) else (mm_inb (gI s 26 (ix v2)) 16 = true ∧ (mm_inb v2 16 = true ∧ (mm_inb (gI s 26 (ix v2)) 16 = true ∧ (okl_Net_gatherFlow_76 n (v2 + (-1)) (sI s 31 (ix (gI s 26 (ix v2))) ((gI s 31 (ix (gI s 26 (ix v2)))) + (gI s 31 (ix v2))))))))))))))))
set_option maxRecDepth 4000 in
theorem tl_Net_gatherFlow_76 {len : Nat} {xs : Nat → Int32}  (d : Nat)   {T : Option mm_R} (K : Int32 × mS → Prop) (hX : ∀ r, K r → ∀ (o1 : Option Value) (o3 : Option Value), mm_fix (mm_X len xs) mm_Y (mm_call (mm_X len xs) mm_Y (d + 1)) (mm_look mc_Net_gatherFlow) (124, [some (.ref 25), o1, some (.int r.1), o3], [], mT r.2) = T) : ∀ (n : Nat), ∀ (v2 : Int32) (o1 : Option Value) (o3 : Option Value) (s : mS), okl_Net_gatherFlow_76 n v2 s → K (lp_Net_gatherFlow_76 n v2 s) → mm_fix (mm_X len xs) mm_Y (mm_call (mm_X len xs) mm_Y (d + 1)) (mm_look mc_Net_gatherFlow) (76, [some (.ref 25), o1, some (.int v2), o3], [], mT s) = T := by
  intro n
  induction n with
  | zero => intro v2 o1 o3 s; exact fun h => h.elim
  | succ n ih =>
    intro v2 o1 o3 s
    rw [okl_Net_gatherFlow_76, lp_Net_gatherFlow_76]
    refine w_go K 1 (c' := (77, [some (.ref 25), o1, some (.int v2), o3], [.int v2], mT s)) rfl ?_
    refine w_zle K rfl (fun _ => ?_) (fun _ => ?_)
    · refine w_go K 0 (c' := (124, [some (.ref 25), o1, some (.int v2), o3], [], mT s)) rfl ?_
      exact fun _ b => hX _ b _ _
    · refine w_go K 3 (c' := (85, [some (.ref 25), o1, some (.int v2), o3], [.int v2, .ref 26], mT s)) rfl ?_
      refine w_ck K (st_iL rfl rfl) ?_
      refine w_go K 3 (c' := (89, [some (.ref 25), o1, some (.int v2), some (.int (gI s 26 (ix v2)))], [.int v2, .ref 25], mT s)) rfl ?_
      refine w_callL K (E := f_Net_has v2 s) (g := fun (x15 : Int32) => (some (.int x15), mT s)) rfl (m_Net_has (len := len) (xs := xs) (d + 0) v2 s) (fun x15 => ?_)
      refine w_go K 0 (c' := (92, [some (.ref 25), o1, some (.int v2), some (.int (gI s 26 (ix v2)))], [.int x15], mT s)) rfl ?_
      refine w_zeq K rfl (fun _ => ?_) (fun _ => ?_)
      · refine w_go K 2 (c' := (76, [some (.ref 25), (mm_cut o1 0), some (.int (v2 + (-1))), some (.int (gI s 26 (ix v2)))], [], mT s)) rfl ?_
        exact fun a b => ih (v2 + (-1)) _ _ s a b
      · refine w_go K 2 (c' := (97, [some (.ref 25), o1, some (.int v2), some (.int (gI s 26 (ix v2)))], [.int (gI s 26 (ix v2)), .ref 25], mT s)) rfl ?_
        refine w_callL K (E := f_Net_has (gI s 26 (ix v2)) s) (g := fun (x16 : Int32) => (some (.int x16), mT s)) rfl (m_Net_has (len := len) (xs := xs) (d + 0) (gI s 26 (ix v2)) s) (fun x16 => ?_)
        refine w_go K 0 (c' := (100, [some (.ref 25), o1, some (.int v2), some (.int (gI s 26 (ix v2)))], [.int x16], mT s)) rfl ?_
        refine w_zeq K rfl (fun _ => ?_) (fun _ => ?_)
        · refine w_go K 2 (c' := (76, [some (.ref 25), (mm_cut o1 0), some (.int (v2 + (-1))), some (.int (gI s 26 (ix v2)))], [], mT s)) rfl ?_
          exact fun a b => ih (v2 + (-1)) _ _ s a b
        · refine w_go K 4 (c' := (109, [some (.ref 25), o1, some (.int v2), some (.int (gI s 26 (ix v2)))], [.int (gI s 26 (ix v2)), .ref 31, .int (gI s 26 (ix v2)), .ref 31], mT s)) rfl ?_
          refine w_ck K (st_iL rfl rfl) ?_
          refine w_go K 3 (c' := (115, [some (.ref 25), o1, some (.int v2), some (.int (gI s 26 (ix v2)))], [.int v2, .ref 31, .int (gI s 31 (ix (gI s 26 (ix v2)))), .int (gI s 26 (ix v2)), .ref 31], mT s)) rfl ?_
          refine w_ck K (st_iL rfl rfl) ?_
          refine w_go K 1 (c' := (117, [some (.ref 25), o1, some (.int v2), some (.int (gI s 26 (ix v2)))], [.int ((gI s 31 (ix (gI s 26 (ix v2)))) + (gI s 31 (ix v2))), .int (gI s 26 (ix v2)), .ref 31], mT s)) rfl ?_
          refine w_ck K (st_iS rfl rfl) ?_
          refine w_go K 2 (c' := (76, [some (.ref 25), (mm_cut o1 0), some (.int (v2 + (-1))), some (.int (gI s 26 (ix v2)))], [], mT (sI s 31 (ix (gI s 26 (ix v2))) ((gI s 31 (ix (gI s 26 (ix v2)))) + (gI s 31 (ix v2)))))) rfl ?_
          exact fun a b => ih (v2 + (-1)) _ _ (sI s 31 (ix (gI s 26 (ix v2))) ((gI s 31 (ix (gI s 26 (ix v2)))) + (gI s 31 (ix v2)))) a b
def f_Net_gatherFlow  (s : mS) : mS := (mq_let (lp_Net_gatherFlow_2 mm_N (0 : Int32) s) (fun (x10 : Int32 × mS) => (mq_let (lp_Net_gatherFlow_23 mm_N (0 : Int32) x10.2) (fun (x13 : Int32 × mS) => (mq_let (lp_Net_gatherFlow_76 mm_N (15 : Int32) x13.2) (fun (x17 : Int32 × mS) => x17.2))))))
def ok_Net_gatherFlow  (s : mS) : Prop := (okl_Net_gatherFlow_2 mm_N (0 : Int32) s ∧ mq_letP (lp_Net_gatherFlow_2 mm_N (0 : Int32) s) (fun (x10 : Int32 × mS) => (okl_Net_gatherFlow_23 mm_N (0 : Int32) x10.2 ∧ mq_letP (lp_Net_gatherFlow_23 mm_N (0 : Int32) x10.2) (fun (x13 : Int32 × mS) => (okl_Net_gatherFlow_76 mm_N (15 : Int32) x13.2 ∧ mq_letP (lp_Net_gatherFlow_76 mm_N (15 : Int32) x13.2) (fun (x17 : Int32 × mS) => True))))))
set_option maxRecDepth 4000 in
theorem t_Net_gatherFlow {len : Nat} {xs : Nat → Int32}  (d : Nat)  (s : mS) {T : Option mm_R} (K : mS → Prop) (hK : ∀ t, K t → some (none, mT t) = T) : ok_Net_gatherFlow s → K (f_Net_gatherFlow s) → mm_fix (mm_X len xs) mm_Y (mm_call (mm_X len xs) mm_Y (d + 1)) (mm_look mc_Net_gatherFlow) (0, [some (.ref 25), some (.ref 12), none, none], [], mT s) = T := by
  unfold ok_Net_gatherFlow f_Net_gatherFlow
  refine w_go K 2 (c' := (2, [some (.ref 25), some (.ref 12), some (.int 0), none], [], mT s)) rfl ?_
  refine w_join K (fun (x10 : Int32 × mS) => ∀ (q11 : Option Value), mm_fix (mm_X len xs) mm_Y (mm_call (mm_X len xs) mm_Y (d + 1)) (mm_look mc_Net_gatherFlow) (21, [some (.ref 25), some (.ref 12), some (.int x10.1), q11], [], mT x10.2) = T) (fun K hJ => tl_Net_gatherFlow_2 (len := len) (xs := xs) d (T := T) K hJ mm_N (0 : Int32) _ s) (fun x10 h1 h2 q11 => ?_)
  revert h1 h2
  refine w_go K 2 (c' := (23, [some (.ref 25), some (.ref 12), some (.int 0), q11], [], mT x10.2)) rfl ?_
  refine w_join K (fun (x13 : Int32 × mS) => ∀ (q14 : Option Value), mm_fix (mm_X len xs) mm_Y (mm_call (mm_X len xs) mm_Y (d + 1)) (mm_look mc_Net_gatherFlow) (73, [some (.ref 25), some (.ref 12), some (.int x13.1), q14], [], mT x13.2) = T) (fun K hJ => tl_Net_gatherFlow_23 (len := len) (xs := xs) d (T := T) K hJ mm_N (0 : Int32) _ x10.2) (fun x13 h1 h2 q14 => ?_)
  revert h1 h2
  refine w_go K 2 (c' := (76, [some (.ref 25), some (.ref 12), some (.int 15), q14], [], mT x13.2)) rfl ?_
  refine w_join K (fun (x17 : Int32 × mS) => ∀ (q18 : Option Value) (q19 : Option Value), mm_fix (mm_X len xs) mm_Y (mm_call (mm_X len xs) mm_Y (d + 1)) (mm_look mc_Net_gatherFlow) (124, [some (.ref 25), q18, some (.int x17.1), q19], [], mT x17.2) = T) (fun K hJ => tl_Net_gatherFlow_76 (len := len) (xs := xs) d (T := T) K hJ mm_N (15 : Int32) _ _ x13.2) (fun x17 h1 h2 q18 q19 => ?_)
  revert h1 h2
  refine w_go K 0 (c' := (124, [some (.ref 25), q18, some (.int x17.1), q19], [], mT x17.2)) rfl ?_
  exact w_ret K rfl (hK _)
theorem m_Net_gatherFlow {len : Nat} {xs : Nat → Int32}  (d : Nat)  (s : mS) : ok_Net_gatherFlow s → mm_call (mm_X len xs) mm_Y (d + 2) 53 [.ref 25, .ref 12] (mT s) = some (none, mT (f_Net_gatherFlow s)) := fun h => t_Net_gatherFlow (len := len) (xs := xs) d s (fun t => (some (none, mT t) : Option mm_R) = some (none, mT (f_Net_gatherFlow s))) (fun _ h => h) h rfl
def f_Net_pressureBehind (a1 : Int32) (a2 : Int32) (s : mS) : Int32 := (mq_let (f_Net_hasPipe a1 s) (fun (x10 : Int32) => (if x10 = 0 then 0 else (if (gI s 29 (ix a1)) = 0 then (mq_let (f_Net_has (gI s 26 (ix a1)) s) (fun (x11 : Int32) => (if x11 = 0 then 0 else (if (gI s 30 (ix (gI s 26 (ix a1)))) = 0 then 0 else (if (0 : Int32) < ((((gI s 30 (ix (gI s 26 (ix a1)))) - a2) + (gI s 28 (ix a1))) - (gI s 28 (ix (gI s 26 (ix a1))))) then ((((gI s 30 (ix (gI s 26 (ix a1)))) - a2) + (gI s 28 (ix a1))) - (gI s 28 (ix (gI s 26 (ix a1))))) else (0 : Int32)))))) else 0))))
def ok_Net_pressureBehind (a1 : Int32) (a2 : Int32) (s : mS) : Prop := (True ∧ mq_letP (f_Net_hasPipe a1 s) (fun (x10 : Int32) => (if x10 = 0 then True else (mm_inb a1 16 = true ∧ (if (gI s 29 (ix a1)) = 0 then (mm_inb a1 16 = true ∧ (True ∧ mq_letP (f_Net_has (gI s 26 (ix a1)) s) (fun (x11 : Int32) => (if x11 = 0 then True else (mm_inb a1 16 = true ∧ (mm_inb (gI s 26 (ix a1)) 16 = true ∧ (if (gI s 30 (ix (gI s 26 (ix a1)))) = 0 then True else (mm_inb (gI s 26 (ix a1)) 16 = true ∧ (mm_inb a1 16 = true ∧ (mm_inb (gI s 26 (ix a1)) 16 = true ∧ True)))))))))) else True)))))
set_option maxRecDepth 4000 in
theorem t_Net_pressureBehind {len : Nat} {xs : Nat → Int32}  (d : Nat) (a1 : Int32) (a2 : Int32) (s : mS) {T : Option mm_R} (K : Int32 → Prop) (hK : ∀ t, K t → some (some (.int t), mT s) = T) : ok_Net_pressureBehind a1 a2 s → K (f_Net_pressureBehind a1 a2 s) → mm_fix (mm_X len xs) mm_Y (mm_call (mm_X len xs) mm_Y (d + 2)) (mm_look mc_Net_pressureBehind) (0, [some (.ref 25), some (.int a1), some (.int a2), none], [], mT s) = T := by
  unfold ok_Net_pressureBehind f_Net_pressureBehind
  refine w_go K 2 (c' := (2, [some (.ref 25), some (.int a1), some (.int a2), none], [.int a1, .ref 25], mT s)) rfl ?_
  refine w_callL K (E := f_Net_hasPipe a1 s) (g := fun (x10 : Int32) => (some (.int x10), mT s)) rfl (m_Net_hasPipe (len := len) (xs := xs) (d + 0) a1 s) (fun x10 => ?_)
  refine w_go K 0 (c' := (5, [some (.ref 25), some (.int a1), some (.int a2), none], [.int x10], mT s)) rfl ?_
  refine w_zeq K rfl (fun _ => ?_) (fun _ => ?_)
  · refine w_go K 1 (c' := (31, [some (.ref 25), some (.int a1), some (.int a2), none], [.int 0], mT s)) rfl ?_
    exact w_ret K rfl (hK _)
  · refine w_go K 3 (c' := (13, [some (.ref 25), some (.int a1), some (.int a2), none], [.int a1, .ref 29], mT s)) rfl ?_
    refine w_ck K (st_bL rfl rfl) ?_
    refine w_go K 0 (c' := (14, [some (.ref 25), some (.int a1), some (.int a2), none], [.int (gI s 29 (ix a1))], mT s)) rfl ?_
    refine w_zne K rfl (fun _ => ?_) (fun _ => ?_)
    · refine w_go K 4 (c' := (23, [some (.ref 25), some (.int a1), some (.int a2), none], [.int a1, .ref 26, .ref 25], mT s)) rfl ?_
      refine w_ck K (st_iL rfl rfl) ?_
      refine w_go K 0 (c' := (24, [some (.ref 25), some (.int a1), some (.int a2), none], [.int (gI s 26 (ix a1)), .ref 25], mT s)) rfl ?_
      refine w_callL K (E := f_Net_has (gI s 26 (ix a1)) s) (g := fun (x11 : Int32) => (some (.int x11), mT s)) rfl (m_Net_has (len := len) (xs := xs) (d + 1) (gI s 26 (ix a1)) s) (fun x11 => ?_)
      refine w_go K 0 (c' := (27, [some (.ref 25), some (.int a1), some (.int a2), none], [.int x11], mT s)) rfl ?_
      refine w_zne K rfl (fun _ => ?_) (fun _ => ?_)
      · refine w_go K 1 (c' := (31, [some (.ref 25), some (.int a1), some (.int a2), none], [.int 0], mT s)) rfl ?_
        exact w_ret K rfl (hK _)
      · refine w_go K 3 (c' := (37, [some (.ref 25), some (.int a1), some (.int a2), none], [.int a1, .ref 26], mT s)) rfl ?_
        refine w_ck K (st_iL rfl rfl) ?_
        refine w_go K 4 (c' := (44, [some (.ref 25), some (.int a1), some (.int a2), some (.int (gI s 26 (ix a1)))], [.int (gI s 26 (ix a1)), .ref 30], mT s)) rfl ?_
        refine w_ck K (st_iL rfl rfl) ?_
        refine w_go K 0 (c' := (45, [some (.ref 25), some (.int a1), some (.int a2), some (.int (gI s 26 (ix a1)))], [.int (gI s 30 (ix (gI s 26 (ix a1))))], mT s)) rfl ?_
        refine w_zne K rfl (fun _ => ?_) (fun _ => ?_)
        · refine w_go K 1 (c' := (49, [some (.ref 25), some (.int a1), some (.int a2), some (.int (gI s 26 (ix a1)))], [.int 0], mT s)) rfl ?_
          exact w_ret K rfl (hK _)
        · refine w_go K 4 (c' := (56, [some (.ref 25), some (.int a1), some (.int a2), some (.int (gI s 26 (ix a1)))], [.int (gI s 26 (ix a1)), .ref 30, .int 0], mT s)) rfl ?_
          refine w_ck K (st_iL rfl rfl) ?_
          refine w_go K 5 (c' := (64, [some (.ref 25), some (.int a1), some (.int a2), some (.int (gI s 26 (ix a1)))], [.int a1, .ref 28, .int ((gI s 30 (ix (gI s 26 (ix a1)))) - a2), .int 0], mT s)) rfl ?_
          refine w_ck K (st_iL rfl rfl) ?_
          refine w_go K 4 (c' := (71, [some (.ref 25), some (.int a1), some (.int a2), some (.int (gI s 26 (ix a1)))], [.int (gI s 26 (ix a1)), .ref 28, .int (((gI s 30 (ix (gI s 26 (ix a1)))) - a2) + (gI s 28 (ix a1))), .int 0], mT s)) rfl ?_
          refine w_ck K (st_iL rfl rfl) ?_
          refine w_go K 2 (c' := (76, [some (.ref 25), some (.int a1), some (.int a2), some (.int (gI s 26 (ix a1)))], [.int (if (0 : Int32) < ((((gI s 30 (ix (gI s 26 (ix a1)))) - a2) + (gI s 28 (ix a1))) - (gI s 28 (ix (gI s 26 (ix a1))))) then ((((gI s 30 (ix (gI s 26 (ix a1)))) - a2) + (gI s 28 (ix a1))) - (gI s 28 (ix (gI s 26 (ix a1))))) else (0 : Int32))], mT s)) rfl ?_
          exact w_ret K rfl (hK _)
    · refine w_go K 1 (c' := (31, [some (.ref 25), some (.int a1), some (.int a2), none], [.int 0], mT s)) rfl ?_
      exact w_ret K rfl (hK _)
theorem m_Net_pressureBehind {len : Nat} {xs : Nat → Int32}  (d : Nat) (a1 : Int32) (a2 : Int32) (s : mS) : ok_Net_pressureBehind a1 a2 s → mm_call (mm_X len xs) mm_Y (d + 3) 55 [.ref 25, .int a1, .int a2] (mT s) = some (some (.int (f_Net_pressureBehind a1 a2 s)), mT s) := fun h => t_Net_pressureBehind (len := len) (xs := xs) d a1 a2 s (fun t => (some (some (.int t), mT s) : Option mm_R) = some (some (.int (f_Net_pressureBehind a1 a2 s)), mT s)) (fun _ h => h) h rfl
