/-! FUNCTIONS OF METHODS, by program: f_ what it does, ok_ that no row fails, m_ the small machine does so. -/
def f_M_find (a1 : Int32) (s : mS) : Int32 × mS := (mq_let (f_M_isIn a1 (0 : Int32) (1 : Int32) s) (fun (x10 : Int32) => (if x10 = 0 then (mq_let (f_M_isIn a1 (11 : Int32) (9 + (gI s 116 7)) s) (fun (x11 : Int32) => (if x11 = 0 then ((-1), s) else (mq_let (f_M_searches s) (fun (x12 : mS) => (if (gI x12 116 100) = (-1) then ((-1), x12) else (if a1 = 0 then ((gI x12 116 100), x12) else (if a1 = 1 then ((gI x12 116 101), x12) else (if (gI x12 175 (ix (a1 - 10))) = (gI x12 116 101) then (2, x12) else (if (gI x12 175 (ix (a1 - 10))) ≤ 0 then (0, x12) else (1, x12))))))))))) else (mq_let (f_M_searches s) (fun (x13 : mS) => (if (gI x13 116 100) = (-1) then ((-1), x13) else (if a1 = 0 then ((gI x13 116 100), x13) else (if a1 = 1 then ((gI x13 116 101), x13) else (if (gI x13 175 (ix (a1 - 10))) = (gI x13 116 101) then (2, x13) else (if (gI x13 175 (ix (a1 - 10))) ≤ 0 then (0, x13) else (1, x13)))))))))))
def ok_M_find (a1 : Int32) (s : mS) : Prop := (True ∧ mq_letP (f_M_isIn a1 (0 : Int32) (1 : Int32) s) (fun (x10 : Int32) => (if x10 = 0 then (True ∧ mq_letP (f_M_isIn a1 (11 : Int32) (9 + (gI s 116 7)) s) (fun (x11 : Int32) => (if x11 = 0 then True else (ok_M_searches s ∧ mq_letP (f_M_searches s) (fun (x12 : mS) => (if (gI x12 116 100) = (-1) then True else (if a1 = 0 then True else (if a1 = 1 then True else (mm_inb (a1 - 10) 16 = true ∧ (if (gI x12 175 (ix (a1 - 10))) = (gI x12 116 101) then True else (mm_inb (a1 - 10) 16 = true ∧ True))))))))))) else (ok_M_searches s ∧ mq_letP (f_M_searches s) (fun (x13 : mS) => (if (gI x13 116 100) = (-1) then True else (if a1 = 0 then True else (if a1 = 1 then True else (mm_inb (a1 - 10) 16 = true ∧ (if (gI x13 175 (ix (a1 - 10))) = (gI x13 116 101) then True else (mm_inb (a1 - 10) 16 = true ∧ True)))))))))))
set_option maxRecDepth 4000 in
theorem t_M_find {len : Nat} {xs : Nat → Int32}  (d : Nat) (a1 : Int32) (s : mS) {T : Option mm_R} (K : Int32 × mS → Prop) (hK : ∀ t, K t → some (some (.int t.1), mT t.2) = T) : ok_M_find a1 s → K (f_M_find a1 s) → mm_fix (mm_X len xs) mm_Y (mm_call (mm_X len xs) mm_Y (d + 2)) (mm_look mc_M_find) (0, [some (.ref 116), some (.int a1)], [], mT s) = T := by
  unfold ok_M_find f_M_find
  refine w_go K 3 (c' := (3, [some (.ref 116), some (.int a1)], [.int 1, .int 0, .int a1], mT s)) rfl ?_
  refine w_callL K (E := f_M_isIn a1 (0 : Int32) (1 : Int32) s) (g := fun (x10 : Int32) => (some (.int x10), mT s)) rfl (m_M_isIn (len := len) (xs := xs) (d + 1) a1 (0 : Int32) (1 : Int32) s) (fun x10 => ?_)
  refine w_go K 0 (c' := (6, [some (.ref 116), some (.int a1)], [.int x10], mT s)) rfl ?_
  refine w_zne K rfl (fun _ => ?_) (fun _ => ?_)
  · refine w_go K 6 (c' := (19, [some (.ref 116), some (.int a1)], [.int (9 + (gI s 116 7)), .int 11, .int a1], mT s)) rfl ?_
    refine w_callL K (E := f_M_isIn a1 (11 : Int32) (9 + (gI s 116 7)) s) (g := fun (x11 : Int32) => (some (.int x11), mT s)) rfl (m_M_isIn (len := len) (xs := xs) (d + 1) a1 (11 : Int32) (9 + (gI s 116 7)) s) (fun x11 => ?_)
    refine w_go K 0 (c' := (22, [some (.ref 116), some (.int a1)], [.int x11], mT s)) rfl ?_
    refine w_zne K rfl (fun _ => ?_) (fun _ => ?_)
    · refine w_go K 1 (c' := (26, [some (.ref 116), some (.int a1)], [.int (-1)], mT s)) rfl ?_
      exact w_ret K rfl (hK _)
    · refine w_go K 1 (c' := (28, [some (.ref 116), some (.int a1)], [.ref 116], mT s)) rfl ?_
      refine w_callL K (E := f_M_searches s) (g := fun (x12 : mS) => (none, mT x12)) rfl (m_M_searches (len := len) (xs := xs) (d + 0) s) (fun x12 => ?_)
      refine w_go K 3 (c' := (36, [some (.ref 116), some (.int a1)], [.int (-1), .int (gI x12 116 100)], mT x12)) rfl ?_
      refine w_ine K rfl (fun _ => ?_) (fun _ => ?_)
      · refine w_go K 1 (c' := (40, [some (.ref 116), some (.int a1)], [.int (-1)], mT x12)) rfl ?_
        exact w_ret K rfl (hK _)
      · refine w_go K 1 (c' := (42, [some (.ref 116), some (.int a1)], [.int a1], mT x12)) rfl ?_
        refine w_zne K rfl (fun _ => ?_) (fun _ => ?_)
        · refine w_go K 3 (c' := (101, [some (.ref 116), some (.int a1)], [.int (gI x12 116 100)], mT x12)) rfl ?_
          exact w_ret K rfl (hK _)
        · refine w_go K 2 (c' := (54, [some (.ref 116), some (.int a1)], [.int 1, .int a1], mT x12)) rfl ?_
          refine w_ine K rfl (fun _ => ?_) (fun _ => ?_)
          · refine w_go K 3 (c' := (101, [some (.ref 116), some (.int a1)], [.int (gI x12 116 101)], mT x12)) rfl ?_
            exact w_ret K rfl (hK _)
          · refine w_go K 5 (c' := (72, [some (.ref 116), some (.int a1)], [.int (a1 - 10), .ref 175], mT x12)) rfl ?_
            refine w_ck K (st_iL rfl rfl) ?_
            refine w_go K 2 (c' := (77, [some (.ref 116), some (.int a1)], [.int (gI x12 116 101), .int (gI x12 175 (ix (a1 - 10)))], mT x12)) rfl ?_
            refine w_ine K rfl (fun _ => ?_) (fun _ => ?_)
            · refine w_go K 2 (c' := (101, [some (.ref 116), some (.int a1)], [.int 2], mT x12)) rfl ?_
              exact w_ret K rfl (hK _)
            · refine w_go K 5 (c' := (92, [some (.ref 116), some (.int a1)], [.int (a1 - 10), .ref 175], mT x12)) rfl ?_
              refine w_ck K (st_iL rfl rfl) ?_
              refine w_go K 0 (c' := (93, [some (.ref 116), some (.int a1)], [.int (gI x12 175 (ix (a1 - 10)))], mT x12)) rfl ?_
              refine w_zleT K rfl (fun _ => ?_) (fun _ => ?_)
              · refine w_go K 1 (c' := (101, [some (.ref 116), some (.int a1)], [.int 0], mT x12)) rfl ?_
                exact w_ret K rfl (hK _)
              · refine w_go K 2 (c' := (101, [some (.ref 116), some (.int a1)], [.int 1], mT x12)) rfl ?_
                exact w_ret K rfl (hK _)
  · refine w_go K 1 (c' := (28, [some (.ref 116), some (.int a1)], [.ref 116], mT s)) rfl ?_
    refine w_callL K (E := f_M_searches s) (g := fun (x13 : mS) => (none, mT x13)) rfl (m_M_searches (len := len) (xs := xs) (d + 0) s) (fun x13 => ?_)
    refine w_go K 3 (c' := (36, [some (.ref 116), some (.int a1)], [.int (-1), .int (gI x13 116 100)], mT x13)) rfl ?_
    refine w_ine K rfl (fun _ => ?_) (fun _ => ?_)
    · refine w_go K 1 (c' := (40, [some (.ref 116), some (.int a1)], [.int (-1)], mT x13)) rfl ?_
      exact w_ret K rfl (hK _)
    · refine w_go K 1 (c' := (42, [some (.ref 116), some (.int a1)], [.int a1], mT x13)) rfl ?_
      refine w_zne K rfl (fun _ => ?_) (fun _ => ?_)
      · refine w_go K 3 (c' := (101, [some (.ref 116), some (.int a1)], [.int (gI x13 116 100)], mT x13)) rfl ?_
        exact w_ret K rfl (hK _)
      · refine w_go K 2 (c' := (54, [some (.ref 116), some (.int a1)], [.int 1, .int a1], mT x13)) rfl ?_
        refine w_ine K rfl (fun _ => ?_) (fun _ => ?_)
        · refine w_go K 3 (c' := (101, [some (.ref 116), some (.int a1)], [.int (gI x13 116 101)], mT x13)) rfl ?_
          exact w_ret K rfl (hK _)
        · refine w_go K 5 (c' := (72, [some (.ref 116), some (.int a1)], [.int (a1 - 10), .ref 175], mT x13)) rfl ?_
          refine w_ck K (st_iL rfl rfl) ?_
          refine w_go K 2 (c' := (77, [some (.ref 116), some (.int a1)], [.int (gI x13 116 101), .int (gI x13 175 (ix (a1 - 10)))], mT x13)) rfl ?_
          refine w_ine K rfl (fun _ => ?_) (fun _ => ?_)
          · refine w_go K 2 (c' := (101, [some (.ref 116), some (.int a1)], [.int 2], mT x13)) rfl ?_
            exact w_ret K rfl (hK _)
          · refine w_go K 5 (c' := (92, [some (.ref 116), some (.int a1)], [.int (a1 - 10), .ref 175], mT x13)) rfl ?_
            refine w_ck K (st_iL rfl rfl) ?_
            refine w_go K 0 (c' := (93, [some (.ref 116), some (.int a1)], [.int (gI x13 175 (ix (a1 - 10)))], mT x13)) rfl ?_
            refine w_zleT K rfl (fun _ => ?_) (fun _ => ?_)
            · refine w_go K 1 (c' := (101, [some (.ref 116), some (.int a1)], [.int 0], mT x13)) rfl ?_
              exact w_ret K rfl (hK _)
            · refine w_go K 2 (c' := (101, [some (.ref 116), some (.int a1)], [.int 1], mT x13)) rfl ?_
              exact w_ret K rfl (hK _)
theorem m_M_find {len : Nat} {xs : Nat → Int32}  (d : Nat) (a1 : Int32) (s : mS) : ok_M_find a1 s → mm_call (mm_X len xs) mm_Y (d + 3) 242 [.ref 116, .int a1] (mT s) = some (some (.int (f_M_find a1 s).1), mT (f_M_find a1 s).2) := fun h => t_M_find (len := len) (xs := xs) d a1 s (fun t => (some (some (.int t.1), mT t.2) : Option mm_R) = some (some (.int (f_M_find a1 s).1), mT (f_M_find a1 s).2)) (fun _ h => h) h rfl
def f_Improvements_offer (a1 : Int32) (a2 : Int32) (a3 : Int32) (s : mS) : Int32 × mS := (if (gI s 111 4) < 8 then ((gI s 111 4), sI (sI (sI (sI s 112 (ix (gI s 111 4)) a1) 113 (ix (gI s 111 4)) a2) 114 (ix (gI s 111 4)) a3) 111 4 ((gI s 111 4) + 1)) else ((-1), s))
def ok_Improvements_offer (a1 : Int32) (a2 : Int32) (a3 : Int32) (s : mS) : Prop := (if (gI s 111 4) < 8 then (mm_inb (gI s 111 4) 8 = true ∧ (mm_inb (gI s 111 4) 8 = true ∧ (mm_inb (gI s 111 4) 8 = true ∧ True))) else True)
set_option maxRecDepth 4000 in
theorem t_Improvements_offer {len : Nat} {xs : Nat → Int32}  (d : Nat) (a1 : Int32) (a2 : Int32) (a3 : Int32) (s : mS) {T : Option mm_R} (K : Int32 × mS → Prop) (hK : ∀ t, K t → some (some (.int t.1), mT t.2) = T) : ok_Improvements_offer a1 a2 a3 s → K (f_Improvements_offer a1 a2 a3 s) → mm_fix (mm_X len xs) mm_Y (mm_call (mm_X len xs) mm_Y (d + 0)) (mm_look mc_Improvements_offer) (0, [some (.ref 111), some (.int a1), some (.int a2), some (.int a3)], [], mT s) = T := by
  unfold ok_Improvements_offer f_Improvements_offer
  refine w_go K 3 (c' := (6, [some (.ref 111), some (.int a1), some (.int a2), some (.int a3)], [.int 8, .int (gI s 111 4)], mT s)) rfl ?_
  refine w_ilt K rfl (fun _ => ?_) (fun _ => ?_)
  · refine w_go K 5 (c' := (20, [some (.ref 111), some (.int a1), some (.int a2), some (.int a3)], [.int a1, .int (gI s 111 4), .ref 112], mT s)) rfl ?_
    refine w_ck K (st_iS rfl rfl) ?_
    refine w_go K 5 (c' := (30, [some (.ref 111), some (.int a1), some (.int a2), some (.int a3)], [.int a2, .int (gI s 111 4), .ref 113], mT (sI s 112 (ix (gI s 111 4)) a1))) rfl ?_
    refine w_ck K (st_iS rfl rfl) ?_
    refine w_go K 5 (c' := (40, [some (.ref 111), some (.int a1), some (.int a2), some (.int a3)], [.int a3, .int (gI s 111 4), .ref 114], mT (sI (sI s 112 (ix (gI s 111 4)) a1) 113 (ix (gI s 111 4)) a2))) rfl ?_
    refine w_ck K (st_iS rfl rfl) ?_
    refine w_go K 7 (c' := (52, [some (.ref 111), some (.int a1), some (.int a2), some (.int a3)], [.int (gI s 111 4)], mT (sI (sI (sI (sI s 112 (ix (gI s 111 4)) a1) 113 (ix (gI s 111 4)) a2) 114 (ix (gI s 111 4)) a3) 111 4 ((gI s 111 4) + 1)))) rfl ?_
    exact w_ret K rfl (hK _)
  · refine w_go K 1 (c' := (10, [some (.ref 111), some (.int a1), some (.int a2), some (.int a3)], [.int (-1)], mT s)) rfl ?_
    exact w_ret K rfl (hK _)
theorem m_Improvements_offer {len : Nat} {xs : Nat → Int32}  (d : Nat) (a1 : Int32) (a2 : Int32) (a3 : Int32) (s : mS) : ok_Improvements_offer a1 a2 a3 s → mm_call (mm_X len xs) mm_Y (d + 1) 149 [.ref 111, .int a1, .int a2, .int a3] (mT s) = some (some (.int (f_Improvements_offer a1 a2 a3 s).1), mT (f_Improvements_offer a1 a2 a3 s).2) := fun h => t_Improvements_offer (len := len) (xs := xs) d a1 a2 a3 s (fun t => (some (some (.int t.1), mT t.2) : Option mm_R) = some (some (.int (f_Improvements_offer a1 a2 a3 s).1), mT (f_Improvements_offer a1 a2 a3 s).2)) (fun _ h => h) h rfl
def f_G_work (a1 : Int32) (a2 : Int32) (a3 : Int32) (s : mS) : Int32 × mS := (mq_let (f_Net_hasPipe a1 s) (fun (x10 : Int32) => (if x10 = 0 then ((-1), s) else (mq_let (f_G_within a2 (1 : Int32) (9 : Int32) s) (fun (x11 : Int32) => (if x11 = 0 then ((-1), s) else (mq_let (f_G_within a3 (1 : Int32) (999 : Int32) s) (fun (x12 : Int32) => (if x12 = 0 then ((-1), s) else (mq_let (f_Improvements_offer a1 a2 a3 s) (fun (x13 : Int32 × mS) => (x13.1, x13.2))))))))))))
def ok_G_work (a1 : Int32) (a2 : Int32) (a3 : Int32) (s : mS) : Prop := (True ∧ mq_letP (f_Net_hasPipe a1 s) (fun (x10 : Int32) => (if x10 = 0 then True else (True ∧ mq_letP (f_G_within a2 (1 : Int32) (9 : Int32) s) (fun (x11 : Int32) => (if x11 = 0 then True else (True ∧ mq_letP (f_G_within a3 (1 : Int32) (999 : Int32) s) (fun (x12 : Int32) => (if x12 = 0 then True else (ok_Improvements_offer a1 a2 a3 s ∧ mq_letP (f_Improvements_offer a1 a2 a3 s) (fun (x13 : Int32 × mS) => True)))))))))))
set_option maxRecDepth 4000 in
theorem t_G_work {len : Nat} {xs : Nat → Int32}  (d : Nat) (a1 : Int32) (a2 : Int32) (a3 : Int32) (s : mS) {T : Option mm_R} (K : Int32 × mS → Prop) (hK : ∀ t, K t → some (some (.int t.1), mT t.2) = T) : ok_G_work a1 a2 a3 s → K (f_G_work a1 a2 a3 s) → mm_fix (mm_X len xs) mm_Y (mm_call (mm_X len xs) mm_Y (d + 2)) (mm_look mc_G_work) (0, [some (.ref 0), some (.int a1), some (.int a2), some (.int a3)], [], mT s) = T := by
  unfold ok_G_work f_G_work
  refine w_go K 3 (c' := (5, [some (.ref 0), some (.int a1), some (.int a2), some (.int a3)], [.int a1, .ref 25], mT s)) rfl ?_
  refine w_callL K (E := f_Net_hasPipe a1 s) (g := fun (x10 : Int32) => (some (.int x10), mT s)) rfl (m_Net_hasPipe (len := len) (xs := xs) (d + 0) a1 s) (fun x10 => ?_)
  refine w_go K 0 (c' := (8, [some (.ref 0), some (.int a1), some (.int a2), some (.int a3)], [.int x10], mT s)) rfl ?_
  refine w_zeq K rfl (fun _ => ?_) (fun _ => ?_)
  · refine w_go K 1 (c' := (33, [some (.ref 0), some (.int a1), some (.int a2), some (.int a3)], [.int (-1)], mT s)) rfl ?_
    exact w_ret K rfl (hK _)
  · refine w_go K 3 (c' := (15, [some (.ref 0), some (.int a1), some (.int a2), some (.int a3)], [.int 9, .int 1, .int a2], mT s)) rfl ?_
    refine w_callL K (E := f_G_within a2 (1 : Int32) (9 : Int32) s) (g := fun (x11 : Int32) => (some (.int x11), mT s)) rfl (m_G_within (len := len) (xs := xs) (d + 1) a2 (1 : Int32) (9 : Int32) s) (fun x11 => ?_)
    refine w_go K 0 (c' := (18, [some (.ref 0), some (.int a1), some (.int a2), some (.int a3)], [.int x11], mT s)) rfl ?_
    refine w_zeq K rfl (fun _ => ?_) (fun _ => ?_)
    · refine w_go K 1 (c' := (33, [some (.ref 0), some (.int a1), some (.int a2), some (.int a3)], [.int (-1)], mT s)) rfl ?_
      exact w_ret K rfl (hK _)
    · refine w_go K 3 (c' := (26, [some (.ref 0), some (.int a1), some (.int a2), some (.int a3)], [.int 999, .int 1, .int a3], mT s)) rfl ?_
      refine w_callL K (E := f_G_within a3 (1 : Int32) (999 : Int32) s) (g := fun (x12 : Int32) => (some (.int x12), mT s)) rfl (m_G_within (len := len) (xs := xs) (d + 1) a3 (1 : Int32) (999 : Int32) s) (fun x12 => ?_)
      refine w_go K 0 (c' := (29, [some (.ref 0), some (.int a1), some (.int a2), some (.int a3)], [.int x12], mT s)) rfl ?_
      refine w_zne K rfl (fun _ => ?_) (fun _ => ?_)
      · refine w_go K 1 (c' := (33, [some (.ref 0), some (.int a1), some (.int a2), some (.int a3)], [.int (-1)], mT s)) rfl ?_
        exact w_ret K rfl (hK _)
      · refine w_go K 5 (c' := (41, [some (.ref 0), some (.int a1), some (.int a2), some (.int a3)], [.int a3, .int a2, .int a1, .ref 111], mT s)) rfl ?_
        refine w_callL K (E := f_Improvements_offer a1 a2 a3 s) (g := fun (x13 : Int32 × mS) => (some (.int x13.1), mT x13.2)) rfl (m_Improvements_offer (len := len) (xs := xs) (d + 1) a1 a2 a3 s) (fun x13 => ?_)
        refine w_go K 0 (c' := (44, [some (.ref 0), some (.int a1), some (.int a2), some (.int a3)], [.int x13.1], mT x13.2)) rfl ?_
        exact w_ret K rfl (hK _)
theorem m_G_work {len : Nat} {xs : Nat → Int32}  (d : Nat) (a1 : Int32) (a2 : Int32) (a3 : Int32) (s : mS) : ok_G_work a1 a2 a3 s → mm_call (mm_X len xs) mm_Y (d + 3) 148 [.ref 0, .int a1, .int a2, .int a3] (mT s) = some (some (.int (f_G_work a1 a2 a3 s).1), mT (f_G_work a1 a2 a3 s).2) := fun h => t_G_work (len := len) (xs := xs) d a1 a2 a3 s (fun t => (some (some (.int t.1), mT t.2) : Option mm_R) = some (some (.int (f_G_work a1 a2 a3 s).1), mT (f_G_work a1 a2 a3 s).2)) (fun _ h => h) h rfl
def f_M_work (a1 : Int32) (a2 : Int32) (a3 : Int32) (s : mS) : Int32 × mS := (mq_let (f_M_isIn a1 (1 : Int32) ((gI s 116 7) - 1) s) (fun (x10 : Int32) => (if x10 = 0 then ((-1), s) else (mq_let (f_M_isIn a2 (1 : Int32) (9 : Int32) s) (fun (x11 : Int32) => (if x11 = 0 then ((-1), s) else (mq_let (f_M_isIn a3 (1 : Int32) (999 : Int32) s) (fun (x12 : Int32) => (if x12 = 0 then ((-1), s) else (if (gI s 116 103) = 8 then ((-1), s) else ((((gI s 116 103) + 1) - 1), sI (sI (sI (sI s 176 (ix (gI s 116 103)) a1) 177 (ix (gI s 116 103)) a2) 178 (ix (gI s 116 103)) a3) 116 103 ((gI s 116 103) + 1))))))))))))
def ok_M_work (a1 : Int32) (a2 : Int32) (a3 : Int32) (s : mS) : Prop := (True ∧ mq_letP (f_M_isIn a1 (1 : Int32) ((gI s 116 7) - 1) s) (fun (x10 : Int32) => (if x10 = 0 then True else (True ∧ mq_letP (f_M_isIn a2 (1 : Int32) (9 : Int32) s) (fun (x11 : Int32) => (if x11 = 0 then True else (True ∧ mq_letP (f_M_isIn a3 (1 : Int32) (999 : Int32) s) (fun (x12 : Int32) => (if x12 = 0 then True else (if (gI s 116 103) = 8 then True else (mm_inb (gI s 116 103) 8 = true ∧ (mm_inb (gI s 116 103) 8 = true ∧ (mm_inb (gI s 116 103) 8 = true ∧ True)))))))))))))
set_option maxRecDepth 4000 in
theorem t_M_work {len : Nat} {xs : Nat → Int32}  (d : Nat) (a1 : Int32) (a2 : Int32) (a3 : Int32) (s : mS) {T : Option mm_R} (K : Int32 × mS → Prop) (hK : ∀ t, K t → some (some (.int t.1), mT t.2) = T) : ok_M_work a1 a2 a3 s → K (f_M_work a1 a2 a3 s) → mm_fix (mm_X len xs) mm_Y (mm_call (mm_X len xs) mm_Y (d + 1)) (mm_look mc_M_work) (0, [some (.ref 116), some (.int a1), some (.int a2), some (.int a3)], [], mT s) = T := by
  unfold ok_M_work f_M_work
  refine w_go K 6 (c' := (8, [some (.ref 116), some (.int a1), some (.int a2), some (.int a3)], [.int ((gI s 116 7) - 1), .int 1, .int a1], mT s)) rfl ?_
  refine w_callL K (E := f_M_isIn a1 (1 : Int32) ((gI s 116 7) - 1) s) (g := fun (x10 : Int32) => (some (.int x10), mT s)) rfl (m_M_isIn (len := len) (xs := xs) (d + 0) a1 (1 : Int32) ((gI s 116 7) - 1) s) (fun x10 => ?_)
  refine w_go K 0 (c' := (11, [some (.ref 116), some (.int a1), some (.int a2), some (.int a3)], [.int x10], mT s)) rfl ?_
  refine w_zeq K rfl (fun _ => ?_) (fun _ => ?_)
  · refine w_go K 1 (c' := (45, [some (.ref 116), some (.int a1), some (.int a2), some (.int a3)], [.int (-1)], mT s)) rfl ?_
    exact w_ret K rfl (hK _)
  · refine w_go K 3 (c' := (18, [some (.ref 116), some (.int a1), some (.int a2), some (.int a3)], [.int 9, .int 1, .int a2], mT s)) rfl ?_
    refine w_callL K (E := f_M_isIn a2 (1 : Int32) (9 : Int32) s) (g := fun (x11 : Int32) => (some (.int x11), mT s)) rfl (m_M_isIn (len := len) (xs := xs) (d + 0) a2 (1 : Int32) (9 : Int32) s) (fun x11 => ?_)
    refine w_go K 0 (c' := (21, [some (.ref 116), some (.int a1), some (.int a2), some (.int a3)], [.int x11], mT s)) rfl ?_
    refine w_zeq K rfl (fun _ => ?_) (fun _ => ?_)
    · refine w_go K 1 (c' := (45, [some (.ref 116), some (.int a1), some (.int a2), some (.int a3)], [.int (-1)], mT s)) rfl ?_
      exact w_ret K rfl (hK _)
    · refine w_go K 3 (c' := (29, [some (.ref 116), some (.int a1), some (.int a2), some (.int a3)], [.int 999, .int 1, .int a3], mT s)) rfl ?_
      refine w_callL K (E := f_M_isIn a3 (1 : Int32) (999 : Int32) s) (g := fun (x12 : Int32) => (some (.int x12), mT s)) rfl (m_M_isIn (len := len) (xs := xs) (d + 0) a3 (1 : Int32) (999 : Int32) s) (fun x12 => ?_)
      refine w_go K 0 (c' := (32, [some (.ref 116), some (.int a1), some (.int a2), some (.int a3)], [.int x12], mT s)) rfl ?_
      refine w_zeq K rfl (fun _ => ?_) (fun _ => ?_)
      · refine w_go K 1 (c' := (45, [some (.ref 116), some (.int a1), some (.int a2), some (.int a3)], [.int (-1)], mT s)) rfl ?_
        exact w_ret K rfl (hK _)
      · refine w_go K 3 (c' := (41, [some (.ref 116), some (.int a1), some (.int a2), some (.int a3)], [.int 8, .int (gI s 116 103)], mT s)) rfl ?_
        refine w_ine K rfl (fun _ => ?_) (fun _ => ?_)
        · refine w_go K 1 (c' := (45, [some (.ref 116), some (.int a1), some (.int a2), some (.int a3)], [.int (-1)], mT s)) rfl ?_
          exact w_ret K rfl (hK _)
        · refine w_go K 5 (c' := (55, [some (.ref 116), some (.int a1), some (.int a2), some (.int a3)], [.int a1, .int (gI s 116 103), .ref 176], mT s)) rfl ?_
          refine w_ck K (st_iS rfl rfl) ?_
          refine w_go K 5 (c' := (65, [some (.ref 116), some (.int a1), some (.int a2), some (.int a3)], [.int a2, .int (gI s 116 103), .ref 177], mT (sI s 176 (ix (gI s 116 103)) a1))) rfl ?_
          refine w_ck K (st_iS rfl rfl) ?_
          refine w_go K 5 (c' := (75, [some (.ref 116), some (.int a1), some (.int a2), some (.int a3)], [.int a3, .int (gI s 116 103), .ref 178], mT (sI (sI s 176 (ix (gI s 116 103)) a1) 177 (ix (gI s 116 103)) a2))) rfl ?_
          refine w_ck K (st_iS rfl rfl) ?_
          refine w_go K 10 (c' := (92, [some (.ref 116), some (.int a1), some (.int a2), some (.int a3)], [.int (((gI s 116 103) + 1) - 1)], mT (sI (sI (sI (sI s 176 (ix (gI s 116 103)) a1) 177 (ix (gI s 116 103)) a2) 178 (ix (gI s 116 103)) a3) 116 103 ((gI s 116 103) + 1)))) rfl ?_
          exact w_ret K rfl (hK _)
theorem m_M_work {len : Nat} {xs : Nat → Int32}  (d : Nat) (a1 : Int32) (a2 : Int32) (a3 : Int32) (s : mS) : ok_M_work a1 a2 a3 s → mm_call (mm_X len xs) mm_Y (d + 2) 246 [.ref 116, .int a1, .int a2, .int a3] (mT s) = some (some (.int (f_M_work a1 a2 a3 s).1), mT (f_M_work a1 a2 a3 s).2) := fun h => t_M_work (len := len) (xs := xs) d a1 a2 a3 s (fun t => (some (some (.int t.1), mT t.2) : Option mm_R) = some (some (.int (f_M_work a1 a2 a3 s).1), mT (f_M_work a1 a2 a3 s).2)) (fun _ h => h) h rfl
def lp_Improvements_priceOf_4 (a1 : Int32) (s : mS) : Nat → Int32 → Int32 → Int32 × Int32
  | 0, v2, v3 => (v2, v3)
  | n + 1, v2, v3 => (if (gI s 111 4) ≤ v3 then (v2, v3) else (if (8 : Int32) ≤ v3 then (v2, v3) else (if ((a1 >>> (v3 &&& 31)) &&& 1) = 1 then (lp_Improvements_priceOf_4 a1 s n (v2 + (gI s 114 (ix v3))) (v3 + 1)) else (lp_Improvements_priceOf_4 a1 s n v2 (v3 + 1)))))
def okl_Improvements_priceOf_4 (a1 : Int32) (s : mS) : Nat → Int32 → Int32 → Prop
  | 0, v2, v3 => False
  | n + 1, v2, v3 => (if (gI s 111 4) ≤ v3 then True else (if (8 : Int32) ≤ v3 then True else (if ((a1 >>> (v3 &&& 31)) &&& 1) = 1 then (mm_inb v3 8 = true ∧ (okl_Improvements_priceOf_4 a1 s n (v2 + (gI s 114 (ix v3))) (v3 + 1))) else (okl_Improvements_priceOf_4 a1 s n v2 (v3 + 1)))))
set_option maxRecDepth 4000 in
theorem tl_Improvements_priceOf_4 {len : Nat} {xs : Nat → Int32}  (d : Nat) (a1 : Int32) (s : mS) {T : Option mm_R} (K : Int32 × Int32 → Prop) (hX : ∀ r, K r → mm_fix (mm_X len xs) mm_Y (mm_call (mm_X len xs) mm_Y (d + 0)) (mm_look mc_Improvements_priceOf) (42, [some (.ref 111), some (.int a1), some (.int r.1), some (.int r.2)], [], mT s) = T) : ∀ (n : Nat), ∀ (v2 : Int32) (v3 : Int32), okl_Improvements_priceOf_4 a1 s n v2 v3 → K (lp_Improvements_priceOf_4 a1 s n v2 v3) → mm_fix (mm_X len xs) mm_Y (mm_call (mm_X len xs) mm_Y (d + 0)) (mm_look mc_Improvements_priceOf) (4, [some (.ref 111), some (.int a1), some (.int v2), some (.int v3)], [], mT s) = T := by
  intro n
  induction n with
  | zero => intro v2 v3; exact fun h => h.elim
  | succ n ih =>
    intro v2 v3
    rw [okl_Improvements_priceOf_4, lp_Improvements_priceOf_4]
    refine w_go K 3 (c' := (9, [some (.ref 111), some (.int a1), some (.int v2), some (.int v3)], [.int (gI s 111 4), .int v3], mT s)) rfl ?_
    refine w_ige K rfl (fun _ => ?_) (fun _ => ?_)
    · refine w_go K 0 (c' := (42, [some (.ref 111), some (.int a1), some (.int v2), some (.int v3)], [], mT s)) rfl ?_
      exact fun _ b => hX _ b
    · refine w_go K 2 (c' := (15, [some (.ref 111), some (.int a1), some (.int v2), some (.int v3)], [.int 8, .int v3], mT s)) rfl ?_
      refine w_ige K rfl (fun _ => ?_) (fun _ => ?_)
      · refine w_go K 0 (c' := (42, [some (.ref 111), some (.int a1), some (.int v2), some (.int v3)], [], mT s)) rfl ?_
        exact fun _ b => hX _ b
      · refine w_go K 6 (c' := (24, [some (.ref 111), some (.int a1), some (.int v2), some (.int v3)], [.int 1, .int ((a1 >>> (v3 &&& 31)) &&& 1)], mT s)) rfl ?_
        refine w_ine K rfl (fun _ => ?_) (fun _ => ?_)
        · refine w_go K 4 (c' := (33, [some (.ref 111), some (.int a1), some (.int v2), some (.int v3)], [.int v3, .ref 114, .int v2], mT s)) rfl ?_
          refine w_ck K (st_iL rfl rfl) ?_
          refine w_go K 4 (c' := (4, [some (.ref 111), some (.int a1), some (.int (v2 + (gI s 114 (ix v3)))), some (.int (v3 + 1))], [], mT s)) rfl ?_
          exact fun a b => ih (v2 + (gI s 114 (ix v3))) (v3 + 1) a b
        · refine w_go K 2 (c' := (4, [some (.ref 111), some (.int a1), some (.int v2), some (.int (v3 + 1))], [], mT s)) rfl ?_
          exact fun a b => ih v2 (v3 + 1) a b
def f_Improvements_priceOf (a1 : Int32) (s : mS) : Int32 := (mq_let (lp_Improvements_priceOf_4 a1 s mm_N (0 : Int32) (0 : Int32)) (fun (x10 : Int32 × Int32) => x10.1))
def ok_Improvements_priceOf (a1 : Int32) (s : mS) : Prop := (okl_Improvements_priceOf_4 a1 s mm_N (0 : Int32) (0 : Int32) ∧ mq_letP (lp_Improvements_priceOf_4 a1 s mm_N (0 : Int32) (0 : Int32)) (fun (x10 : Int32 × Int32) => True))
set_option maxRecDepth 4000 in
theorem t_Improvements_priceOf {len : Nat} {xs : Nat → Int32}  (d : Nat) (a1 : Int32) (s : mS) {T : Option mm_R} (K : Int32 → Prop) (hK : ∀ t, K t → some (some (.int t), mT s) = T) : ok_Improvements_priceOf a1 s → K (f_Improvements_priceOf a1 s) → mm_fix (mm_X len xs) mm_Y (mm_call (mm_X len xs) mm_Y (d + 0)) (mm_look mc_Improvements_priceOf) (0, [some (.ref 111), some (.int a1), none, none], [], mT s) = T := by
  unfold ok_Improvements_priceOf f_Improvements_priceOf
  refine w_go K 4 (c' := (4, [some (.ref 111), some (.int a1), some (.int 0), some (.int 0)], [], mT s)) rfl ?_
  refine w_join K (fun (x10 : Int32 × Int32) => mm_fix (mm_X len xs) mm_Y (mm_call (mm_X len xs) mm_Y (d + 0)) (mm_look mc_Improvements_priceOf) (42, [some (.ref 111), some (.int a1), some (.int x10.1), some (.int x10.2)], [], mT s) = T) (fun K hJ => tl_Improvements_priceOf_4 (len := len) (xs := xs) d a1 s (T := T) K hJ mm_N (0 : Int32) (0 : Int32)) (fun x10 h1 h2 => ?_)
  revert h1 h2
  refine w_go K 1 (c' := (43, [some (.ref 111), some (.int a1), some (.int x10.1), some (.int x10.2)], [.int x10.1], mT s)) rfl ?_
  exact w_ret K rfl (hK _)
theorem m_Improvements_priceOf {len : Nat} {xs : Nat → Int32}  (d : Nat) (a1 : Int32) (s : mS) : ok_Improvements_priceOf a1 s → mm_call (mm_X len xs) mm_Y (d + 1) 152 [.ref 111, .int a1] (mT s) = some (some (.int (f_Improvements_priceOf a1 s)), mT s) := fun h => t_Improvements_priceOf (len := len) (xs := xs) d a1 s (fun t => (some (some (.int t), mT s) : Option mm_R) = some (some (.int (f_Improvements_priceOf a1 s)), mT s)) (fun _ h => h) h rfl
def lp_Improvements_putIn_2 (a1 : Int32) : Nat → Int32 → mS → Int32 × mS
  | 0, v3, s => (v3, s)
  | n + 1, v3, s => (if (16 : Int32) ≤ v3 then (v3, s) else (lp_Improvements_putIn_2 a1 n (v3 + 1) (sI s 115 (ix v3) (gI s 27 (ix v3)))))
def okl_Improvements_putIn_2 (a1 : Int32) : Nat → Int32 → mS → Prop
  | 0, v3, s => False
  | n + 1, v3, s => (if (16 : Int32) ≤ v3 then True else (mm_inb v3 16 = true ∧ (mm_inb v3 16 = true ∧ (okl_Improvements_putIn_2 a1 n (v3 + 1) (sI s 115 (ix v3) (gI s 27 (ix v3)))))))
set_option maxRecDepth 4000 in
theorem tl_Improvements_putIn_2 {len : Nat} {xs : Nat → Int32}  (d : Nat) (a1 : Int32)  {T : Option mm_R} (K : Int32 × mS → Prop) (hX : ∀ r, K r → ∀ (o4 : Option Value), mm_fix (mm_X len xs) mm_Y (mm_call (mm_X len xs) mm_Y (d + 0)) (mm_look mc_Improvements_putIn) (26, [some (.ref 111), some (.int a1), some (.ref 25), some (.int r.1), o4], [], mT r.2) = T) : ∀ (n : Nat), ∀ (v3 : Int32) (o4 : Option Value) (s : mS), okl_Improvements_putIn_2 a1 n v3 s → K (lp_Improvements_putIn_2 a1 n v3 s) → mm_fix (mm_X len xs) mm_Y (mm_call (mm_X len xs) mm_Y (d + 0)) (mm_look mc_Improvements_putIn) (2, [some (.ref 111), some (.int a1), some (.ref 25), some (.int v3), o4], [], mT s) = T := by
  intro n
  induction n with
  | zero => intro v3 o4 s; exact fun h => h.elim
  | succ n ih =>
    intro v3 o4 s
    rw [okl_Improvements_putIn_2, lp_Improvements_putIn_2]
    refine w_go K 2 (c' := (5, [some (.ref 111), some (.int a1), some (.ref 25), some (.int v3), o4], [.int 16, .int v3], mT s)) rfl ?_
    refine w_ige K rfl (fun _ => ?_) (fun _ => ?_)
    · refine w_go K 0 (c' := (26, [some (.ref 111), some (.int a1), some (.ref 25), some (.int v3), o4], [], mT s)) rfl ?_
      exact fun _ b => hX _ b _
    · refine w_go K 6 (c' := (18, [some (.ref 111), some (.int a1), some (.ref 25), some (.int v3), o4], [.int v3, .ref 27, .int v3, .ref 115], mT s)) rfl ?_
      refine w_ck K (st_iL rfl rfl) ?_
      refine w_go K 0 (c' := (19, [some (.ref 111), some (.int a1), some (.ref 25), some (.int v3), o4], [.int (gI s 27 (ix v3)), .int v3, .ref 115], mT s)) rfl ?_
      refine w_ck K (st_iS rfl rfl) ?_
      refine w_go K 2 (c' := (2, [some (.ref 111), some (.int a1), some (.ref 25), some (.int (v3 + 1)), o4], [], mT (sI s 115 (ix v3) (gI s 27 (ix v3))))) rfl ?_
      exact fun a b => ih (v3 + 1) _ (sI s 115 (ix v3) (gI s 27 (ix v3))) a b
def lp_Improvements_putIn_28 (a1 : Int32) : Nat → Int32 → mS → Int32 × mS
  | 0, v3, s => (v3, s)
  | n + 1, v3, s => (if (gI s 111 4) ≤ v3 then (v3, s) else (if (8 : Int32) ≤ v3 then (v3, s) else (if ((a1 >>> (v3 &&& 31)) &&& 1) = 1 then (if (gI s 112 (ix v3)) ≤ 0 then (lp_Improvements_putIn_28 a1 n (v3 + 1) s) else (if (16 : Int32) ≤ (gI s 112 (ix v3)) then (lp_Improvements_putIn_28 a1 n (v3 + 1) s) else (lp_Improvements_putIn_28 a1 n (v3 + 1) (sI s 115 (ix (gI s 112 (ix v3))) (gI s 113 (ix v3)))))) else (lp_Improvements_putIn_28 a1 n (v3 + 1) s))))
def okl_Improvements_putIn_28 (a1 : Int32) : Nat → Int32 → mS → Prop
  | 0, v3, s => False
  | n + 1, v3, s => (if (gI s 111 4) ≤ v3 then True else (if (8 : Int32) ≤ v3 then True else (mm_inb v3 8 = true ∧ (if ((a1 >>> (v3 &&& 31)) &&& 1) = 1 then (if (gI s 112 (ix v3)) ≤ 0 then (okl_Improvements_putIn_28 a1 n (v3 + 1) s) else (if (16 : Int32) ≤ (gI s 112 (ix v3)) then (okl_Improvements_putIn_28 a1 n (v3 + 1) s) else (mm_inb v3 8 = true ∧ (mm_inb (gI s 112 (ix v3)) 16 = true ∧ (okl_Improvements_putIn_28 a1 n (v3 + 1) (sI s 115 (ix (gI s 112 (ix v3))) (gI s 113 (ix v3)))))))) else (okl_Improvements_putIn_28 a1 n (v3 + 1) s)))))
set_option maxRecDepth 4000 in
theorem tl_Improvements_putIn_28 {len : Nat} {xs : Nat → Int32}  (d : Nat) (a1 : Int32)  {T : Option mm_R} (K : Int32 × mS → Prop) (hX : ∀ r, K r → ∀ (o2 : Option Value) (o4 : Option Value), mm_fix (mm_X len xs) mm_Y (mm_call (mm_X len xs) mm_Y (d + 0)) (mm_look mc_Improvements_putIn) (90, [some (.ref 111), some (.int a1), o2, some (.int r.1), o4], [], mT r.2) = T) : ∀ (n : Nat), ∀ (v3 : Int32) (o2 : Option Value) (o4 : Option Value) (s : mS), okl_Improvements_putIn_28 a1 n v3 s → K (lp_Improvements_putIn_28 a1 n v3 s) → mm_fix (mm_X len xs) mm_Y (mm_call (mm_X len xs) mm_Y (d + 0)) (mm_look mc_Improvements_putIn) (28, [some (.ref 111), some (.int a1), o2, some (.int v3), o4], [], mT s) = T := by
  intro n
  induction n with
  | zero => intro v3 o2 o4 s; exact fun h => h.elim
  | succ n ih =>
    intro v3 o2 o4 s
    rw [okl_Improvements_putIn_28, lp_Improvements_putIn_28]
    refine w_go K 3 (c' := (33, [some (.ref 111), some (.int a1), o2, some (.int v3), o4], [.int (gI s 111 4), .int v3], mT s)) rfl ?_
    refine w_ige K rfl (fun _ => ?_) (fun _ => ?_)
    · refine w_go K 0 (c' := (90, [some (.ref 111), some (.int a1), o2, some (.int v3), o4], [], mT s)) rfl ?_
      exact fun _ b => hX _ b _ _
    · refine w_go K 2 (c' := (39, [some (.ref 111), some (.int a1), o2, some (.int v3), o4], [.int 8, .int v3], mT s)) rfl ?_
      refine w_ige K rfl (fun _ => ?_) (fun _ => ?_)
      · refine w_go K 0 (c' := (90, [some (.ref 111), some (.int a1), o2, some (.int v3), o4], [], mT s)) rfl ?_
        exact fun _ b => hX _ b _ _
      · refine w_go K 3 (c' := (47, [some (.ref 111), some (.int a1), o2, some (.int v3), o4], [.int v3, .ref 112], mT s)) rfl ?_
        refine w_ck K (st_iL rfl rfl) ?_
        refine w_go K 7 (c' := (56, [some (.ref 111), some (.int a1), o2, some (.int v3), some (.int (gI s 112 (ix v3)))], [.int 1, .int ((a1 >>> (v3 &&& 31)) &&& 1)], mT s)) rfl ?_
        refine w_ine K rfl (fun _ => ?_) (fun _ => ?_)
        · refine w_go K 1 (c' := (61, [some (.ref 111), some (.int a1), o2, some (.int v3), some (.int (gI s 112 (ix v3)))], [.int (gI s 112 (ix v3))], mT s)) rfl ?_
          refine w_zle K rfl (fun _ => ?_) (fun _ => ?_)
          · refine w_go K 2 (c' := (28, [some (.ref 111), some (.int a1), (mm_cut o2 0), some (.int (v3 + 1)), some (.int (gI s 112 (ix v3)))], [], mT s)) rfl ?_
            exact fun a b => ih (v3 + 1) _ _ s a b
          · refine w_go K 2 (c' := (68, [some (.ref 111), some (.int a1), o2, some (.int v3), some (.int (gI s 112 (ix v3)))], [.int 16, .int (gI s 112 (ix v3))], mT s)) rfl ?_
            refine w_ige K rfl (fun _ => ?_) (fun _ => ?_)
            · refine w_go K 2 (c' := (28, [some (.ref 111), some (.int a1), (mm_cut o2 0), some (.int (v3 + 1)), some (.int (gI s 112 (ix v3)))], [], mT s)) rfl ?_
              exact fun a b => ih (v3 + 1) _ _ s a b
            · refine w_go K 6 (c' := (82, [some (.ref 111), some (.int a1), o2, some (.int v3), some (.int (gI s 112 (ix v3)))], [.int v3, .ref 113, .int (gI s 112 (ix v3)), .ref 115], mT s)) rfl ?_
              refine w_ck K (st_iL rfl rfl) ?_
              refine w_go K 0 (c' := (83, [some (.ref 111), some (.int a1), o2, some (.int v3), some (.int (gI s 112 (ix v3)))], [.int (gI s 113 (ix v3)), .int (gI s 112 (ix v3)), .ref 115], mT s)) rfl ?_
              refine w_ck K (st_iS rfl rfl) ?_
              refine w_go K 2 (c' := (28, [some (.ref 111), some (.int a1), (mm_cut o2 0), some (.int (v3 + 1)), some (.int (gI s 112 (ix v3)))], [], mT (sI s 115 (ix (gI s 112 (ix v3))) (gI s 113 (ix v3))))) rfl ?_
              exact fun a b => ih (v3 + 1) _ _ (sI s 115 (ix (gI s 112 (ix v3))) (gI s 113 (ix v3))) a b
        · refine w_go K 2 (c' := (28, [some (.ref 111), some (.int a1), (mm_cut o2 0), some (.int (v3 + 1)), some (.int (gI s 112 (ix v3)))], [], mT s)) rfl ?_
          exact fun a b => ih (v3 + 1) _ _ s a b
def f_Improvements_putIn (a1 : Int32) (s : mS) : mS := (mq_let (lp_Improvements_putIn_2 a1 mm_N (0 : Int32) s) (fun (x10 : Int32 × mS) => (mq_let (lp_Improvements_putIn_28 a1 mm_N (0 : Int32) x10.2) (fun (x12 : Int32 × mS) => x12.2))))
def ok_Improvements_putIn (a1 : Int32) (s : mS) : Prop := (okl_Improvements_putIn_2 a1 mm_N (0 : Int32) s ∧ mq_letP (lp_Improvements_putIn_2 a1 mm_N (0 : Int32) s) (fun (x10 : Int32 × mS) => (okl_Improvements_putIn_28 a1 mm_N (0 : Int32) x10.2 ∧ mq_letP (lp_Improvements_putIn_28 a1 mm_N (0 : Int32) x10.2) (fun (x12 : Int32 × mS) => True))))
set_option maxRecDepth 4000 in
theorem t_Improvements_putIn {len : Nat} {xs : Nat → Int32}  (d : Nat) (a1 : Int32) (s : mS) {T : Option mm_R} (K : mS → Prop) (hK : ∀ t, K t → some (none, mT t) = T) : ok_Improvements_putIn a1 s → K (f_Improvements_putIn a1 s) → mm_fix (mm_X len xs) mm_Y (mm_call (mm_X len xs) mm_Y (d + 0)) (mm_look mc_Improvements_putIn) (0, [some (.ref 111), some (.int a1), some (.ref 25), none, none], [], mT s) = T := by
  unfold ok_Improvements_putIn f_Improvements_putIn
  refine w_go K 2 (c' := (2, [some (.ref 111), some (.int a1), some (.ref 25), some (.int 0), none], [], mT s)) rfl ?_
  refine w_join K (fun (x10 : Int32 × mS) => ∀ (q11 : Option Value), mm_fix (mm_X len xs) mm_Y (mm_call (mm_X len xs) mm_Y (d + 0)) (mm_look mc_Improvements_putIn) (26, [some (.ref 111), some (.int a1), some (.ref 25), some (.int x10.1), q11], [], mT x10.2) = T) (fun K hJ => tl_Improvements_putIn_2 (len := len) (xs := xs) d a1 (T := T) K hJ mm_N (0 : Int32) _ s) (fun x10 h1 h2 q11 => ?_)
  revert h1 h2
  refine w_go K 2 (c' := (28, [some (.ref 111), some (.int a1), some (.ref 25), some (.int 0), q11], [], mT x10.2)) rfl ?_
  refine w_join K (fun (x12 : Int32 × mS) => ∀ (q13 : Option Value) (q14 : Option Value), mm_fix (mm_X len xs) mm_Y (mm_call (mm_X len xs) mm_Y (d + 0)) (mm_look mc_Improvements_putIn) (90, [some (.ref 111), some (.int a1), q13, some (.int x12.1), q14], [], mT x12.2) = T) (fun K hJ => tl_Improvements_putIn_28 (len := len) (xs := xs) d a1 (T := T) K hJ mm_N (0 : Int32) _ _ x10.2) (fun x12 h1 h2 q13 q14 => ?_)
  revert h1 h2
  refine w_go K 0 (c' := (90, [some (.ref 111), some (.int a1), q13, some (.int x12.1), q14], [], mT x12.2)) rfl ?_
  exact w_ret K rfl (hK _)
theorem m_Improvements_putIn {len : Nat} {xs : Nat → Int32}  (d : Nat) (a1 : Int32) (s : mS) : ok_Improvements_putIn a1 s → mm_call (mm_X len xs) mm_Y (d + 1) 153 [.ref 111, .int a1, .ref 25] (mT s) = some (none, mT (f_Improvements_putIn a1 s)) := fun h => t_Improvements_putIn (len := len) (xs := xs) d a1 s (fun t => (some (none, mT t) : Option mm_R) = some (none, mT (f_Improvements_putIn a1 s))) (fun _ h => h) h rfl
def lp_Net_press_115_31  : Nat → Int32 → Int32 → mS → Int32 × Int32 × mS
  | 0, v2, v3, s => (v2, v3, s)
  | n + 1, v2, v3, s => (if (gI s 25 10) ≤ v3 then (v2, v3, s) else (if (16 : Int32) ≤ v3 then (v2, v3, s) else (mq_let (if (16 : Int32) ≤ v3 then (0 : Int32) else (((gI s 115 (ix v3)) * (gI s 31 (ix v3))) / 100)) (fun (x11 : Int32) => (mq_let (f_Net_pressureBehind v3 x11 s) (fun (x12 : Int32) => (mq_let (if v2 = 0 then (0 : Int32) else (if (gI s 30 (ix v3)) = x12 then (1 : Int32) else (0 : Int32))) (fun (x13 : Int32) => (lp_Net_press_115_31 n x13 (v3 + 1) (sI s 30 (ix v3) x12))))))))))
def okl_Net_press_115_31  : Nat → Int32 → Int32 → mS → Prop
  | 0, v2, v3, s => False
  | n + 1, v2, v3, s => (if (gI s 25 10) ≤ v3 then True else (if (16 : Int32) ≤ v3 then True else ((if (16 : Int32) ≤ v3 then True else (mm_inb v3 16 = true ∧ (mm_inb v3 16 = true ∧ True))) ∧ mq_letP (if (16 : Int32) ≤ v3 then (0 : Int32) else (((gI s 115 (ix v3)) * (gI s 31 (ix v3))) / 100)) (fun (x11 : Int32) => (ok_Net_pressureBehind v3 x11 s ∧ mq_letP (f_Net_pressureBehind v3 x11 s) (fun (x12 : Int32) => ((if v2 = 0 then True else (mm_inb v3 16 = true ∧ True)) ∧ mq_letP (if v2 = 0 then (0 : Int32) else (if (gI s 30 (ix v3)) = x12 then (1 : Int32) else (0 : Int32))) (fun (x13 : Int32) => (mm_inb v3 16 = true ∧ (okl_Net_press_115_31 n x13 (v3 + 1) (sI s 30 (ix v3) x12)))))))))))
set_option maxRecDepth 4000 in
theorem tl_Net_press_115_31 {len : Nat} {xs : Nat → Int32}  (d : Nat)   {T : Option mm_R} (K : Int32 × Int32 × mS → Prop) (hX : ∀ r, K r → ∀ (o4 : Option Value) (o5 : Option Value), mm_fix (mm_X len xs) mm_Y (mm_call (mm_X len xs) mm_Y (d + 3)) (mm_look mc_Net_press) (114, [some (.ref 25), some (.ref 115), some (.int r.1), some (.int r.2.1), o4, o5], [], mT r.2.2) = T) : ∀ (n : Nat), ∀ (v2 : Int32) (v3 : Int32) (o4 : Option Value) (o5 : Option Value) (s : mS), okl_Net_press_115_31 n v2 v3 s → K (lp_Net_press_115_31 n v2 v3 s) → mm_fix (mm_X len xs) mm_Y (mm_call (mm_X len xs) mm_Y (d + 3)) (mm_look mc_Net_press) (31, [some (.ref 25), some (.ref 115), some (.int v2), some (.int v3), o4, o5], [], mT s) = T := by
  intro n
  induction n with
  | zero => intro v2 v3 o4 o5 s; exact fun h => h.elim
  | succ n ih =>
    intro v2 v3 o4 o5 s
    rw [okl_Net_press_115_31, lp_Net_press_115_31]
    refine w_go K 3 (c' := (36, [some (.ref 25), some (.ref 115), some (.int v2), some (.int v3), o4, o5], [.int (gI s 25 10), .int v3], mT s)) rfl ?_
    refine w_ige K rfl (fun _ => ?_) (fun _ => ?_)
    · refine w_go K 0 (c' := (114, [some (.ref 25), some (.ref 115), some (.int v2), some (.int v3), o4, o5], [], mT s)) rfl ?_
      exact fun _ b => hX _ b _ _
    · refine w_go K 2 (c' := (42, [some (.ref 25), some (.ref 115), some (.int v2), some (.int v3), o4, o5], [.int 16, .int v3], mT s)) rfl ?_
      refine w_ige K rfl (fun _ => ?_) (fun _ => ?_)
      · refine w_go K 0 (c' := (114, [some (.ref 25), some (.ref 115), some (.int v2), some (.int v3), o4, o5], [], mT s)) rfl ?_
        exact fun _ b => hX _ b _ _
      · refine w_go K 3 (c' := (48, [some (.ref 25), some (.ref 115), some (.int v2), some (.int v3), o4, o5], [.int 16, .int v3], mT s)) rfl ?_
        refine w_join K (fun (x11 : Int32) => mm_fix (mm_X len xs) mm_Y (mm_call (mm_X len xs) mm_Y (d + 3)) (mm_look mc_Net_press) (68, [some (.ref 25), some (.ref 115), some (.int v2), some (.int v3), o4, o5], [.int x11], mT s) = T) (fun K hJ => ?_) (fun x11 h1 h2 => ?_)
        · refine w_go K 0 (c' := (48, [some (.ref 25), some (.ref 115), some (.int v2), some (.int v3), o4, o5], [.int 16, .int v3], mT s)) rfl ?_
          refine w_ige K rfl (fun _ => ?_) (fun _ => ?_)
          · refine w_go K 1 (c' := (68, [some (.ref 25), some (.ref 115), some (.int v2), some (.int v3), o4, o5], [.int 0], mT s)) rfl ?_
            exact fun _ h => hJ _ h
          · refine w_go K 2 (c' := (53, [some (.ref 25), some (.ref 115), some (.int v2), some (.int v3), o4, o5], [.int v3, .ref 115], mT s)) rfl ?_
            refine w_ck K (st_iL rfl rfl) ?_
            refine w_go K 3 (c' := (59, [some (.ref 25), some (.ref 115), some (.int v2), some (.int v3), o4, o5], [.int v3, .ref 31, .int (gI s 115 (ix v3))], mT s)) rfl ?_
            refine w_ck K (st_iL rfl rfl) ?_
            refine w_go K 4 (c' := (68, [some (.ref 25), some (.ref 115), some (.int v2), some (.int v3), o4, o5], [.int (((gI s 115 (ix v3)) * (gI s 31 (ix v3))) / 100)], mT s)) rfl ?_
            exact fun _ h => hJ _ h
        · revert h1 h2
          refine w_go K 4 (c' := (74, [some (.ref 25), some (.ref 115), some (.int v2), some (.int v3), some (.int x11), o5], [.int x11, .int v3, .ref 25], mT s)) rfl ?_
          refine w_callL K (E := f_Net_pressureBehind v3 x11 s) (g := fun (x12 : Int32) => (some (.int x12), mT s)) rfl (m_Net_pressureBehind (len := len) (xs := xs) (d + 0) v3 x11 s) (fun x12 => ?_)
          refine w_go K 2 (c' := (80, [some (.ref 25), some (.ref 115), some (.int v2), some (.int v3), some (.int x11), some (.int x12)], [.int v2], mT s)) rfl ?_
          refine w_join K (fun (x13 : Int32) => mm_fix (mm_X len xs) mm_Y (mm_call (mm_X len xs) mm_Y (d + 3)) (mm_look mc_Net_press) (99, [some (.ref 25), some (.ref 115), some (.int v2), some (.int v3), some (.int x11), some (.int x12)], [.int x13], mT s) = T) (fun K hJ => ?_) (fun x13 h1 h2 => ?_)
          · refine w_go K 0 (c' := (80, [some (.ref 25), some (.ref 115), some (.int v2), some (.int v3), some (.int x11), some (.int x12)], [.int v2], mT s)) rfl ?_
            refine w_zeq K rfl (fun _ => ?_) (fun _ => ?_)
            · refine w_go K 1 (c' := (99, [some (.ref 25), some (.ref 115), some (.int v2), some (.int v3), some (.int x11), some (.int x12)], [.int 0], mT s)) rfl ?_
              exact fun _ h => hJ _ h
            · refine w_go K 3 (c' := (88, [some (.ref 25), some (.ref 115), some (.int v2), some (.int v3), some (.int x11), some (.int x12)], [.int v3, .ref 30], mT s)) rfl ?_
              refine w_ck K (st_iL rfl rfl) ?_
              refine w_go K 1 (c' := (91, [some (.ref 25), some (.ref 115), some (.int v2), some (.int v3), some (.int x11), some (.int x12)], [.int x12, .int (gI s 30 (ix v3))], mT s)) rfl ?_
              refine w_ineT K rfl (fun _ => ?_) (fun _ => ?_)
              · refine w_go K 2 (c' := (99, [some (.ref 25), some (.ref 115), some (.int v2), some (.int v3), some (.int x11), some (.int x12)], [.int 1], mT s)) rfl ?_
                exact fun _ h => hJ _ h
              · refine w_go K 1 (c' := (99, [some (.ref 25), some (.ref 115), some (.int v2), some (.int v3), some (.int x11), some (.int x12)], [.int 0], mT s)) rfl ?_
                exact fun _ h => hJ _ h
          · revert h1 h2
            refine w_go K 5 (c' := (107, [some (.ref 25), some (.ref 115), some (.int x13), some (.int v3), some (.int x11), some (.int x12)], [.int x12, .int v3, .ref 30], mT s)) rfl ?_
            refine w_ck K (st_iS rfl rfl) ?_
            refine w_go K 2 (c' := (31, [some (.ref 25), some (.ref 115), some (.int x13), some (.int (v3 + 1)), some (.int x11), some (.int x12)], [], mT (sI s 30 (ix v3) x12))) rfl ?_
            exact fun a b => ih x13 (v3 + 1) _ _ (sI s 30 (ix v3) x12) a b
def f_Net_press_115  (s : mS) : Int32 × mS := (mq_let (if (gI s 30 0) = (gI s 25 11) then (1 : Int32) else (0 : Int32)) (fun (x10 : Int32) => (mq_let (lp_Net_press_115_31 mm_N x10 (1 : Int32) (sI s 30 0 (gI s 25 11))) (fun (x14 : Int32 × Int32 × mS) => (x14.1, x14.2.2)))))
def ok_Net_press_115  (s : mS) : Prop := (True ∧ mq_letP (if (gI s 30 0) = (gI s 25 11) then (1 : Int32) else (0 : Int32)) (fun (x10 : Int32) => (okl_Net_press_115_31 mm_N x10 (1 : Int32) (sI s 30 0 (gI s 25 11)) ∧ mq_letP (lp_Net_press_115_31 mm_N x10 (1 : Int32) (sI s 30 0 (gI s 25 11))) (fun (x14 : Int32 × Int32 × mS) => mm_bit x14.1 = true))))
set_option maxRecDepth 4000 in
theorem t_Net_press_115 {len : Nat} {xs : Nat → Int32}  (d : Nat)  (s : mS) {T : Option mm_R} (K : Int32 × mS → Prop) (hK : ∀ t, K t → some (some (.int t.1), mT t.2) = T) : ok_Net_press_115 s → K (f_Net_press_115 s) → mm_fix (mm_X len xs) mm_Y (mm_call (mm_X len xs) mm_Y (d + 3)) (mm_look mc_Net_press) (0, [some (.ref 25), some (.ref 115), none, none, none, none], [], mT s) = T := by
  unfold ok_Net_press_115 f_Net_press_115
  refine w_go K 6 (c' := (10, [some (.ref 25), some (.ref 115), none, none, none, none], [.int (gI s 25 11), .int (gI s 30 0)], mT s)) rfl ?_
  refine w_join K (fun (x10 : Int32) => mm_fix (mm_X len xs) mm_Y (mm_call (mm_X len xs) mm_Y (d + 3)) (mm_look mc_Net_press) (18, [some (.ref 25), some (.ref 115), none, none, none, none], [.int x10], mT s) = T) (fun K hJ => ?_) (fun x10 h1 h2 => ?_)
  · refine w_go K 0 (c' := (10, [some (.ref 25), some (.ref 115), none, none, none, none], [.int (gI s 25 11), .int (gI s 30 0)], mT s)) rfl ?_
    refine w_ineT K rfl (fun _ => ?_) (fun _ => ?_)
    · refine w_go K 2 (c' := (18, [some (.ref 25), some (.ref 115), none, none, none, none], [.int 1], mT s)) rfl ?_
      exact fun _ h => hJ _ h
    · refine w_go K 1 (c' := (18, [some (.ref 25), some (.ref 115), none, none, none, none], [.int 0], mT s)) rfl ?_
      exact fun _ h => hJ _ h
  · revert h1 h2
    refine w_go K 9 (c' := (31, [some (.ref 25), some (.ref 115), some (.int x10), some (.int 1), none, none], [], mT (sI s 30 0 (gI s 25 11)))) rfl ?_
    refine w_join K (fun (x14 : Int32 × Int32 × mS) => ∀ (q15 : Option Value) (q16 : Option Value), mm_fix (mm_X len xs) mm_Y (mm_call (mm_X len xs) mm_Y (d + 3)) (mm_look mc_Net_press) (114, [some (.ref 25), some (.ref 115), some (.int x14.1), some (.int x14.2.1), q15, q16], [], mT x14.2.2) = T) (fun K hJ => tl_Net_press_115_31 (len := len) (xs := xs) d (T := T) K hJ mm_N x10 (1 : Int32) _ _ (sI s 30 0 (gI s 25 11))) (fun x14 h1 h2 q15 q16 => ?_)
    revert h1 h2
    refine w_go K 1 (c' := (115, [some (.ref 25), some (.ref 115), some (.int x14.1), some (.int x14.2.1), q15, q16], [.int x14.1], mT x14.2.2)) rfl ?_
    exact w_retb K rfl (hK _)
theorem m_Net_press_115 {len : Nat} {xs : Nat → Int32}  (d : Nat)  (s : mS) : ok_Net_press_115 s → mm_call (mm_X len xs) mm_Y (d + 4) 54 [.ref 25, .ref 115] (mT s) = some (some (.int (f_Net_press_115 s).1), mT (f_Net_press_115 s).2) := fun h => t_Net_press_115 (len := len) (xs := xs) d s (fun t => (some (some (.int t.1), mT t.2) : Option mm_R) = some (some (.int (f_Net_press_115 s).1), mT (f_Net_press_115 s).2)) (fun _ h => h) h rfl
def lp_Net_settle_115_9  : Nat → Int32 → Int32 → mS → Int32 × Int32 × mS
  | 0, v3, v4, s => (v3, v4, s)
  | n + 1, v3, v4, s => (if (12 : Int32) ≤ v4 then (v3, v4, s) else (if v3 = 0 then (mq_let (f_Net_gatherFlow s) (fun (x11 : mS) => (mq_let (f_Net_press_115 x11) (fun (x12 : Int32 × mS) => (mq_let (if v4 ≤ 0 then (0 : Int32) else (if x12.1 = 0 then (0 : Int32) else (1 : Int32))) (fun (x13 : Int32) => (mq_let (f_Things_takeBy_30 x12.2) (fun (x14 : mS) => (lp_Net_settle_115_9 n x13 (v4 + 1) x14))))))))) else (v3, v4, s)))
def okl_Net_settle_115_9  : Nat → Int32 → Int32 → mS → Prop
  | 0, v3, v4, s => False
  | n + 1, v3, v4, s => (if (12 : Int32) ≤ v4 then True else (if v3 = 0 then (ok_Net_gatherFlow s ∧ mq_letP (f_Net_gatherFlow s) (fun (x11 : mS) => (ok_Net_press_115 x11 ∧ mq_letP (f_Net_press_115 x11) (fun (x12 : Int32 × mS) => (True ∧ mq_letP (if v4 ≤ 0 then (0 : Int32) else (if x12.1 = 0 then (0 : Int32) else (1 : Int32))) (fun (x13 : Int32) => (ok_Things_takeBy_30 x12.2 ∧ mq_letP (f_Things_takeBy_30 x12.2) (fun (x14 : mS) => (okl_Net_settle_115_9 n x13 (v4 + 1) x14))))))))) else True))
set_option maxRecDepth 4000 in
theorem tl_Net_settle_115_9 {len : Nat} {xs : Nat → Int32}  (d : Nat)   {T : Option mm_R} (K : Int32 × Int32 × mS → Prop) (hX : ∀ r, K r → ∀ (o5 : Option Value), mm_fix (mm_X len xs) mm_Y (mm_call (mm_X len xs) mm_Y (d + 4)) (mm_look mc_Net_settle) (62, [some (.ref 25), some (.ref 12), some (.ref 115), some (.int r.1), some (.int r.2.1), o5], [], mT r.2.2) = T) : ∀ (n : Nat), ∀ (v3 : Int32) (v4 : Int32) (o5 : Option Value) (s : mS), okl_Net_settle_115_9 n v3 v4 s → K (lp_Net_settle_115_9 n v3 v4 s) → mm_fix (mm_X len xs) mm_Y (mm_call (mm_X len xs) mm_Y (d + 4)) (mm_look mc_Net_settle) (9, [some (.ref 25), some (.ref 12), some (.ref 115), some (.int v3), some (.int v4), o5], [], mT s) = T := by
  intro n
  induction n with
  | zero => intro v3 v4 o5 s; exact fun h => h.elim
  | succ n ih =>
    intro v3 v4 o5 s
    rw [okl_Net_settle_115_9, lp_Net_settle_115_9]
    refine w_go K 2 (c' := (13, [some (.ref 25), some (.ref 12), some (.ref 115), some (.int v3), some (.int v4), o5], [.int 12, .int v4], mT s)) rfl ?_
    refine w_ige K rfl (fun _ => ?_) (fun _ => ?_)
    · refine w_go K 0 (c' := (62, [some (.ref 25), some (.ref 12), some (.ref 115), some (.int v3), some (.int v4), o5], [], mT s)) rfl ?_
      exact fun _ b => hX _ b _
    · refine w_go K 1 (c' := (17, [some (.ref 25), some (.ref 12), some (.ref 115), some (.int v3), some (.int v4), o5], [.int v3], mT s)) rfl ?_
      refine w_zne K rfl (fun _ => ?_) (fun _ => ?_)
      · refine w_go K 2 (c' := (22, [some (.ref 25), some (.ref 12), some (.ref 115), some (.int v3), some (.int v4), o5], [.ref 12, .ref 25], mT s)) rfl ?_
        refine w_callL K (E := f_Net_gatherFlow s) (g := fun (x11 : mS) => (none, mT x11)) rfl (m_Net_gatherFlow (len := len) (xs := xs) (d + 2) s) (fun x11 => ?_)
        refine w_go K 2 (c' := (27, [some (.ref 25), some (.ref 12), some (.ref 115), some (.int v3), some (.int v4), o5], [.ref 115, .ref 25], mT x11)) rfl ?_
        refine w_callL K (E := f_Net_press_115 x11) (g := fun (x12 : Int32 × mS) => (some (.int x12.1), mT x12.2)) rfl (m_Net_press_115 (len := len) (xs := xs) (d + 0) x11) (fun x12 => ?_)
        refine w_go K 2 (c' := (34, [some (.ref 25), some (.ref 12), some (.ref 115), some (.int v3), some (.int v4), some (.int x12.1)], [.int v4], mT x12.2)) rfl ?_
        refine w_join K (fun (x13 : Int32) => mm_fix (mm_X len xs) mm_Y (mm_call (mm_X len xs) mm_Y (d + 4)) (mm_look mc_Net_settle) (47, [some (.ref 25), some (.ref 12), some (.ref 115), some (.int v3), some (.int v4), some (.int x12.1)], [.int x13], mT x12.2) = T) (fun K hJ => ?_) (fun x13 h1 h2 => ?_)
        · refine w_go K 0 (c' := (34, [some (.ref 25), some (.ref 12), some (.ref 115), some (.int v3), some (.int v4), some (.int x12.1)], [.int v4], mT x12.2)) rfl ?_
          refine w_zleT K rfl (fun _ => ?_) (fun _ => ?_)
          · refine w_go K 1 (c' := (47, [some (.ref 25), some (.ref 12), some (.ref 115), some (.int v3), some (.int v4), some (.int x12.1)], [.int 0], mT x12.2)) rfl ?_
            exact fun _ h => hJ _ h
          · refine w_go K 1 (c' := (39, [some (.ref 25), some (.ref 12), some (.ref 115), some (.int v3), some (.int v4), some (.int x12.1)], [.int x12.1], mT x12.2)) rfl ?_
            refine w_zeqT K rfl (fun _ => ?_) (fun _ => ?_)
            · refine w_go K 1 (c' := (47, [some (.ref 25), some (.ref 12), some (.ref 115), some (.int v3), some (.int v4), some (.int x12.1)], [.int 0], mT x12.2)) rfl ?_
              exact fun _ h => hJ _ h
            · refine w_go K 2 (c' := (47, [some (.ref 25), some (.ref 12), some (.ref 115), some (.int v3), some (.int v4), some (.int x12.1)], [.int 1], mT x12.2)) rfl ?_
              exact fun _ h => hJ _ h
        · revert h1 h2
          refine w_go K 4 (c' := (53, [some (.ref 25), some (.ref 12), some (.ref 115), some (.int x13), some (.int v4), some (.int x12.1)], [.ref 30, .ref 12], mT x12.2)) rfl ?_
          refine w_callL K (E := f_Things_takeBy_30 x12.2) (g := fun (x14 : mS) => (none, mT x14)) rfl (m_Things_takeBy_30 (len := len) (xs := xs) (d + 3) x12.2) (fun x14 => ?_)
          refine w_go K 2 (c' := (9, [some (.ref 25), some (.ref 12), some (.ref 115), some (.int x13), some (.int (v4 + 1)), some (.int x12.1)], [], mT x14)) rfl ?_
          exact fun a b => ih x13 (v4 + 1) _ x14 a b
      · refine w_go K 0 (c' := (62, [some (.ref 25), some (.ref 12), some (.ref 115), some (.int v3), some (.int v4), o5], [], mT s)) rfl ?_
        exact fun _ b => hX _ b _
def f_Net_settle_115  (s : mS) : Int32 × mS := (mq_let (f_Things_takeWants s) (fun (x10 : mS) => (mq_let (lp_Net_settle_115_9 mm_N (0 : Int32) (0 : Int32) x10) (fun (x15 : Int32 × Int32 × mS) => (x15.1, x15.2.2)))))
def ok_Net_settle_115  (s : mS) : Prop := (ok_Things_takeWants s ∧ mq_letP (f_Things_takeWants s) (fun (x10 : mS) => (okl_Net_settle_115_9 mm_N (0 : Int32) (0 : Int32) x10 ∧ mq_letP (lp_Net_settle_115_9 mm_N (0 : Int32) (0 : Int32) x10) (fun (x15 : Int32 × Int32 × mS) => mm_bit x15.1 = true))))
set_option maxRecDepth 4000 in
theorem t_Net_settle_115 {len : Nat} {xs : Nat → Int32}  (d : Nat)  (s : mS) {T : Option mm_R} (K : Int32 × mS → Prop) (hK : ∀ t, K t → some (some (.int t.1), mT t.2) = T) : ok_Net_settle_115 s → K (f_Net_settle_115 s) → mm_fix (mm_X len xs) mm_Y (mm_call (mm_X len xs) mm_Y (d + 4)) (mm_look mc_Net_settle) (0, [some (.ref 25), some (.ref 12), some (.ref 115), none, none, none], [], mT s) = T := by
  unfold ok_Net_settle_115 f_Net_settle_115
  refine w_go K 1 (c' := (1, [some (.ref 25), some (.ref 12), some (.ref 115), none, none, none], [.ref 12], mT s)) rfl ?_
  refine w_callL K (E := f_Things_takeWants s) (g := fun (x10 : mS) => (none, mT x10)) rfl (m_Things_takeWants (len := len) (xs := xs) (d + 3) s) (fun x10 => ?_)
  refine w_go K 4 (c' := (9, [some (.ref 25), some (.ref 12), some (.ref 115), some (.int 0), some (.int 0), none], [], mT x10)) rfl ?_
  refine w_join K (fun (x15 : Int32 × Int32 × mS) => ∀ (q16 : Option Value), mm_fix (mm_X len xs) mm_Y (mm_call (mm_X len xs) mm_Y (d + 4)) (mm_look mc_Net_settle) (62, [some (.ref 25), some (.ref 12), some (.ref 115), some (.int x15.1), some (.int x15.2.1), q16], [], mT x15.2.2) = T) (fun K hJ => tl_Net_settle_115_9 (len := len) (xs := xs) d (T := T) K hJ mm_N (0 : Int32) (0 : Int32) _ x10) (fun x15 h1 h2 q16 => ?_)
  revert h1 h2
  refine w_go K 1 (c' := (63, [some (.ref 25), some (.ref 12), some (.ref 115), some (.int x15.1), some (.int x15.2.1), q16], [.int x15.1], mT x15.2.2)) rfl ?_
  exact w_retb K rfl (hK _)
theorem m_Net_settle_115 {len : Nat} {xs : Nat → Int32}  (d : Nat)  (s : mS) : ok_Net_settle_115 s → mm_call (mm_X len xs) mm_Y (d + 5) 51 [.ref 25, .ref 12, .ref 115] (mT s) = some (some (.int (f_Net_settle_115 s).1), mT (f_Net_settle_115 s).2) := fun h => t_Net_settle_115 (len := len) (xs := xs) d s (fun t => (some (some (.int t.1), mT t.2) : Option mm_R) = some (some (.int (f_Net_settle_115 s).1), mT (f_Net_settle_115 s).2)) (fun _ h => h) h rfl
def lp_Things_burnFully_30_4 (s : mS) : Nat → Int32 → Int32 → Int32 × Int32
  | 0, v2, v3 => (v2, v3)
  | n + 1, v2, v3 => (if (gI s 12 12) ≤ v3 then (v2, v3) else (if (40 : Int32) ≤ v3 then (v2, v3) else (mq_let (if (gI s 13 (ix v3)) < 0 then (0 : Int32) else (if (16 : Int32) ≤ (gI s 13 (ix v3)) then (0 : Int32) else (gI s 30 (ix (gI s 13 (ix v3)))))) (fun (x10 : Int32) => (if (gI s 14 (ix v3)) = 3 then (lp_Things_burnFully_30_4 s n v2 (v3 + 1)) else (if (gI s 23 (ix v3)) ≤ 0 then (lp_Things_burnFully_30_4 s n v2 (v3 + 1)) else (if x10 < 20 then (lp_Things_burnFully_30_4 s n v2 (v3 + 1)) else (lp_Things_burnFully_30_4 s n (v2 + 1) (v3 + 1)))))))))
def okl_Things_burnFully_30_4 (s : mS) : Nat → Int32 → Int32 → Prop
  | 0, v2, v3 => False
  | n + 1, v2, v3 => (if (gI s 12 12) ≤ v3 then True else (if (40 : Int32) ≤ v3 then True else (mm_inb v3 40 = true ∧ ((if (gI s 13 (ix v3)) < 0 then True else (if (16 : Int32) ≤ (gI s 13 (ix v3)) then True else (mm_inb (gI s 13 (ix v3)) 16 = true ∧ True))) ∧ mq_letP (if (gI s 13 (ix v3)) < 0 then (0 : Int32) else (if (16 : Int32) ≤ (gI s 13 (ix v3)) then (0 : Int32) else (gI s 30 (ix (gI s 13 (ix v3)))))) (fun (x10 : Int32) => (mm_inb v3 40 = true ∧ (if (gI s 14 (ix v3)) = 3 then (okl_Things_burnFully_30_4 s n v2 (v3 + 1)) else (mm_inb v3 40 = true ∧ (if (gI s 23 (ix v3)) ≤ 0 then (okl_Things_burnFully_30_4 s n v2 (v3 + 1)) else (if x10 < 20 then (okl_Things_burnFully_30_4 s n v2 (v3 + 1)) else (okl_Things_burnFully_30_4 s n (v2 + 1) (v3 + 1))))))))))))
set_option maxRecDepth 4000 in
theorem tl_Things_burnFully_30_4 {len : Nat} {xs : Nat → Int32}  (d : Nat)  (s : mS) {T : Option mm_R} (K : Int32 × Int32 → Prop) (hX : ∀ r, K r → ∀ (o4 : Option Value) (o5 : Option Value), mm_fix (mm_X len xs) mm_Y (mm_call (mm_X len xs) mm_Y (d + 0)) (mm_look mc_Things_burnFully) (83, [some (.ref 12), some (.ref 30), some (.int r.1), some (.int r.2), o4, o5], [], mT s) = T) : ∀ (n : Nat), ∀ (v2 : Int32) (v3 : Int32) (o4 : Option Value) (o5 : Option Value), okl_Things_burnFully_30_4 s n v2 v3 → K (lp_Things_burnFully_30_4 s n v2 v3) → mm_fix (mm_X len xs) mm_Y (mm_call (mm_X len xs) mm_Y (d + 0)) (mm_look mc_Things_burnFully) (4, [some (.ref 12), some (.ref 30), some (.int v2), some (.int v3), o4, o5], [], mT s) = T := by
  intro n
  induction n with
  | zero => intro v2 v3 o4 o5; exact fun h => h.elim
  | succ n ih =>
    intro v2 v3 o4 o5
    rw [okl_Things_burnFully_30_4, lp_Things_burnFully_30_4]
    refine w_go K 3 (c' := (9, [some (.ref 12), some (.ref 30), some (.int v2), some (.int v3), o4, o5], [.int (gI s 12 12), .int v3], mT s)) rfl ?_
    refine w_ige K rfl (fun _ => ?_) (fun _ => ?_)
    · refine w_go K 0 (c' := (83, [some (.ref 12), some (.ref 30), some (.int v2), some (.int v3), o4, o5], [], mT s)) rfl ?_
      exact fun _ b => hX _ b _ _
    · refine w_go K 2 (c' := (15, [some (.ref 12), some (.ref 30), some (.int v2), some (.int v3), o4, o5], [.int 40, .int v3], mT s)) rfl ?_
      refine w_ige K rfl (fun _ => ?_) (fun _ => ?_)
      · refine w_go K 0 (c' := (83, [some (.ref 12), some (.ref 30), some (.int v2), some (.int v3), o4, o5], [], mT s)) rfl ?_
        exact fun _ b => hX _ b _ _
      · refine w_go K 3 (c' := (23, [some (.ref 12), some (.ref 30), some (.int v2), some (.int v3), o4, o5], [.int v3, .ref 13], mT s)) rfl ?_
        refine w_ck K (st_iL rfl rfl) ?_
        refine w_go K 2 (c' := (28, [some (.ref 12), some (.ref 30), some (.int v2), some (.int v3), some (.int (gI s 13 (ix v3))), o5], [.int (gI s 13 (ix v3))], mT s)) rfl ?_
        refine w_join K (fun (x10 : Int32) => mm_fix (mm_X len xs) mm_Y (mm_call (mm_X len xs) mm_Y (d + 0)) (mm_look mc_Things_burnFully) (46, [some (.ref 12), some (.ref 30), some (.int v2), some (.int v3), some (.int (gI s 13 (ix v3))), o5], [.int x10], mT s) = T) (fun K hJ => ?_) (fun x10 h1 h2 => ?_)
        · refine w_go K 0 (c' := (28, [some (.ref 12), some (.ref 30), some (.int v2), some (.int v3), some (.int (gI s 13 (ix v3))), o5], [.int (gI s 13 (ix v3))], mT s)) rfl ?_
          refine w_zlt K rfl (fun _ => ?_) (fun _ => ?_)
          · refine w_go K 1 (c' := (46, [some (.ref 12), some (.ref 30), some (.int v2), some (.int v3), some (.int (gI s 13 (ix v3))), o5], [.int 0], mT s)) rfl ?_
            exact fun _ h => hJ _ h
          · refine w_go K 3 (c' := (35, [some (.ref 12), some (.ref 30), some (.int v2), some (.int v3), some (.int (gI s 13 (ix v3))), o5], [.int 16, .int (gI s 13 (ix v3))], mT s)) rfl ?_
            refine w_ige K rfl (fun _ => ?_) (fun _ => ?_)
            · refine w_go K 1 (c' := (46, [some (.ref 12), some (.ref 30), some (.int v2), some (.int v3), some (.int (gI s 13 (ix v3))), o5], [.int 0], mT s)) rfl ?_
              exact fun _ h => hJ _ h
            · refine w_go K 2 (c' := (41, [some (.ref 12), some (.ref 30), some (.int v2), some (.int v3), some (.int (gI s 13 (ix v3))), o5], [.int (gI s 13 (ix v3)), .ref 30], mT s)) rfl ?_
              refine w_ck K (st_iL rfl rfl) ?_
              refine w_go K 1 (c' := (46, [some (.ref 12), some (.ref 30), some (.int v2), some (.int v3), some (.int (gI s 13 (ix v3))), o5], [.int (gI s 30 (ix (gI s 13 (ix v3))))], mT s)) rfl ?_
              exact fun _ h => hJ _ h
        · revert h1 h2
          refine w_go K 4 (c' := (53, [some (.ref 12), some (.ref 30), some (.int v2), some (.int v3), some (.int (gI s 13 (ix v3))), some (.int x10)], [.int v3, .ref 14], mT s)) rfl ?_
          refine w_ck K (st_iL rfl rfl) ?_
          refine w_go K 1 (c' := (55, [some (.ref 12), some (.ref 30), some (.int v2), some (.int v3), some (.int (gI s 13 (ix v3))), some (.int x10)], [.int 3, .int (gI s 14 (ix v3))], mT s)) rfl ?_
          refine w_ieq K rfl (fun _ => ?_) (fun _ => ?_)
          · refine w_go K 2 (c' := (4, [some (.ref 12), some (.ref 30), some (.int v2), some (.int (v3 + 1)), some (.int (gI s 13 (ix v3))), some (.int x10)], [], mT s)) rfl ?_
            exact fun a b => ih v2 (v3 + 1) _ _ a b
          · refine w_go K 3 (c' := (63, [some (.ref 12), some (.ref 30), some (.int v2), some (.int v3), some (.int (gI s 13 (ix v3))), some (.int x10)], [.int v3, .ref 23], mT s)) rfl ?_
            refine w_ck K (st_iL rfl rfl) ?_
            refine w_go K 0 (c' := (64, [some (.ref 12), some (.ref 30), some (.int v2), some (.int v3), some (.int (gI s 13 (ix v3))), some (.int x10)], [.int (gI s 23 (ix v3))], mT s)) rfl ?_
            refine w_zle K rfl (fun _ => ?_) (fun _ => ?_)
            · refine w_go K 2 (c' := (4, [some (.ref 12), some (.ref 30), some (.int v2), some (.int (v3 + 1)), some (.int (gI s 13 (ix v3))), some (.int x10)], [], mT s)) rfl ?_
              exact fun a b => ih v2 (v3 + 1) _ _ a b
            · refine w_go K 2 (c' := (71, [some (.ref 12), some (.ref 30), some (.int v2), some (.int v3), some (.int (gI s 13 (ix v3))), some (.int x10)], [.int 20, .int x10], mT s)) rfl ?_
              refine w_ilt K rfl (fun _ => ?_) (fun _ => ?_)
              · refine w_go K 2 (c' := (4, [some (.ref 12), some (.ref 30), some (.int v2), some (.int (v3 + 1)), some (.int (gI s 13 (ix v3))), some (.int x10)], [], mT s)) rfl ?_
                exact fun a b => ih v2 (v3 + 1) _ _ a b
              · refine w_go K 3 (c' := (4, [some (.ref 12), some (.ref 30), some (.int (v2 + 1)), some (.int (v3 + 1)), some (.int (gI s 13 (ix v3))), some (.int x10)], [], mT s)) rfl ?_
                exact fun a b => ih (v2 + 1) (v3 + 1) _ _ a b
def f_Things_burnFully_30  (s : mS) : Int32 := (mq_let (lp_Things_burnFully_30_4 s mm_N (0 : Int32) (0 : Int32)) (fun (x11 : Int32 × Int32) => x11.1))
def ok_Things_burnFully_30  (s : mS) : Prop := (okl_Things_burnFully_30_4 s mm_N (0 : Int32) (0 : Int32) ∧ mq_letP (lp_Things_burnFully_30_4 s mm_N (0 : Int32) (0 : Int32)) (fun (x11 : Int32 × Int32) => True))
set_option maxRecDepth 4000 in
theorem t_Things_burnFully_30 {len : Nat} {xs : Nat → Int32}  (d : Nat)  (s : mS) {T : Option mm_R} (K : Int32 → Prop) (hK : ∀ t, K t → some (some (.int t), mT s) = T) : ok_Things_burnFully_30 s → K (f_Things_burnFully_30 s) → mm_fix (mm_X len xs) mm_Y (mm_call (mm_X len xs) mm_Y (d + 0)) (mm_look mc_Things_burnFully) (0, [some (.ref 12), some (.ref 30), none, none, none, none], [], mT s) = T := by
  unfold ok_Things_burnFully_30 f_Things_burnFully_30
  refine w_go K 4 (c' := (4, [some (.ref 12), some (.ref 30), some (.int 0), some (.int 0), none, none], [], mT s)) rfl ?_
  refine w_join K (fun (x11 : Int32 × Int32) => ∀ (q12 : Option Value) (q13 : Option Value), mm_fix (mm_X len xs) mm_Y (mm_call (mm_X len xs) mm_Y (d + 0)) (mm_look mc_Things_burnFully) (83, [some (.ref 12), some (.ref 30), some (.int x11.1), some (.int x11.2), q12, q13], [], mT s) = T) (fun K hJ => tl_Things_burnFully_30_4 (len := len) (xs := xs) d s (T := T) K hJ mm_N (0 : Int32) (0 : Int32) _ _) (fun x11 h1 h2 q12 q13 => ?_)
  revert h1 h2
  refine w_go K 1 (c' := (84, [some (.ref 12), some (.ref 30), some (.int x11.1), some (.int x11.2), q12, q13], [.int x11.1], mT s)) rfl ?_
  exact w_ret K rfl (hK _)
theorem m_Things_burnFully_30 {len : Nat} {xs : Nat → Int32}  (d : Nat)  (s : mS) : ok_Things_burnFully_30 s → mm_call (mm_X len xs) mm_Y (d + 1) 154 [.ref 12, .ref 30] (mT s) = some (some (.int (f_Things_burnFully_30 s)), mT s) := fun h => t_Things_burnFully_30 (len := len) (xs := xs) d s (fun t => (some (some (.int t), mT s) : Option mm_R) = some (some (.int (f_Things_burnFully_30 s)), mT s)) (fun _ h => h) h rfl
def lp_Improvements_choose_8 (a1 : Int32) : Nat → Int32 → mS → Int32 × mS
  | 0, v4, s => (v4, s)
  | n + 1, v4, s => (if ((1 : Int32) <<< ((gI s 111 4) &&& 31)) ≤ v4 then (v4, s) else (mq_let (f_Improvements_priceOf v4 s) (fun (x10 : Int32) => (if x10 ≤ a1 then (mq_let (f_Improvements_putIn v4 s) (fun (x11 : mS) => (mq_let (f_Net_settle_115 x11) (fun (x12 : Int32 × mS) => (mq_let (f_Things_burnFully_30 x12.2) (fun (x13 : Int32) => (if (gI x12.2 111 6) < x13 then (lp_Improvements_choose_8 a1 n (v4 + 1) (sI (sI (sI x12.2 111 5 v4) 111 6 x13) 111 7 x10)) else (if x13 = (gI x12.2 111 6) then (if (gI x12.2 111 7) ≤ x10 then (lp_Improvements_choose_8 a1 n (v4 + 1) x12.2) else (lp_Improvements_choose_8 a1 n (v4 + 1) (sI (sI (sI x12.2 111 5 v4) 111 6 x13) 111 7 x10))) else (lp_Improvements_choose_8 a1 n (v4 + 1) x12.2))))))))) else (lp_Improvements_choose_8 a1 n (v4 + 1) s)))))
def okl_Improvements_choose_8 (a1 : Int32) : Nat → Int32 → mS → Prop
  | 0, v4, s => False
  | n + 1, v4, s => (if ((1 : Int32) <<< ((gI s 111 4) &&& 31)) ≤ v4 then True else (ok_Improvements_priceOf v4 s ∧ mq_letP (f_Improvements_priceOf v4 s) (fun (x10 : Int32) => (if x10 ≤ a1 then (ok_Improvements_putIn v4 s ∧ mq_letP (f_Improvements_putIn v4 s) (fun (x11 : mS) => (ok_Net_settle_115 x11 ∧ mq_letP (f_Net_settle_115 x11) (fun (x12 : Int32 × mS) => (ok_Things_burnFully_30 x12.2 ∧ mq_letP (f_Things_burnFully_30 x12.2) (fun (x13 : Int32) => (if (gI x12.2 111 6) < x13 then (okl_Improvements_choose_8 a1 n (v4 + 1) (sI (sI (sI x12.2 111 5 v4) 111 6 x13) 111 7 x10)) else (if x13 = (gI x12.2 111 6) then (if (gI x12.2 111 7) ≤ x10 then (okl_Improvements_choose_8 a1 n (v4 + 1) x12.2) else (okl_Improvements_choose_8 a1 n (v4 + 1) (sI (sI (sI x12.2 111 5 v4) 111 6 x13) 111 7 x10))) else (okl_Improvements_choose_8 a1 n (v4 + 1) x12.2))))))))) else (okl_Improvements_choose_8 a1 n (v4 + 1) s)))))
set_option maxRecDepth 4000 in
theorem tl_Improvements_choose_8 {len : Nat} {xs : Nat → Int32}  (d : Nat) (a1 : Int32)  {T : Option mm_R} (K : Int32 × mS → Prop) (hX : ∀ r, K r → ∀ (o5 : Option Value) (o6 : Option Value), mm_fix (mm_X len xs) mm_Y (mm_call (mm_X len xs) mm_Y (d + 5)) (mm_look mc_Improvements_choose) (114, [some (.ref 111), some (.int a1), some (.ref 25), some (.ref 12), some (.int r.1), o5, o6], [], mT r.2) = T) : ∀ (n : Nat), ∀ (v4 : Int32) (o5 : Option Value) (o6 : Option Value) (s : mS), okl_Improvements_choose_8 a1 n v4 s → K (lp_Improvements_choose_8 a1 n v4 s) → mm_fix (mm_X len xs) mm_Y (mm_call (mm_X len xs) mm_Y (d + 5)) (mm_look mc_Improvements_choose) (8, [some (.ref 111), some (.int a1), some (.ref 25), some (.ref 12), some (.int v4), o5, o6], [], mT s) = T := by
  intro n
  induction n with
  | zero => intro v4 o5 o6 s; exact fun h => h.elim
  | succ n ih =>
    intro v4 o5 o6 s
    rw [okl_Improvements_choose_8, lp_Improvements_choose_8]
    refine w_go K 5 (c' := (16, [some (.ref 111), some (.int a1), some (.ref 25), some (.ref 12), some (.int v4), o5, o6], [.int ((1 : Int32) <<< ((gI s 111 4) &&& 31)), .int v4], mT s)) rfl ?_
    refine w_ige K rfl (fun _ => ?_) (fun _ => ?_)
    · refine w_go K 0 (c' := (114, [some (.ref 111), some (.int a1), some (.ref 25), some (.ref 12), some (.int v4), o5, o6], [], mT s)) rfl ?_
      exact fun _ b => hX _ b _ _
    · refine w_go K 2 (c' := (22, [some (.ref 111), some (.int a1), some (.ref 25), some (.ref 12), some (.int v4), o5, o6], [.int v4, .ref 111], mT s)) rfl ?_
      refine w_callL K (E := f_Improvements_priceOf v4 s) (g := fun (x10 : Int32) => (some (.int x10), mT s)) rfl (m_Improvements_priceOf (len := len) (xs := xs) (d + 4) v4 s) (fun x10 => ?_)
      refine w_go K 3 (c' := (30, [some (.ref 111), some (.int a1), some (.ref 25), some (.ref 12), some (.int v4), some (.int x10), o6], [.int a1, .int x10], mT s)) rfl ?_
      refine w_ile K rfl (fun _ => ?_) (fun _ => ?_)
      · refine w_go K 3 (c' := (40, [some (.ref 111), some (.int a1), some (.ref 25), some (.ref 12), some (.int v4), some (.int x10), o6], [.ref 25, .int v4, .ref 111], mT s)) rfl ?_
        refine w_callL K (E := f_Improvements_putIn v4 s) (g := fun (x11 : mS) => (none, mT x11)) rfl (m_Improvements_putIn (len := len) (xs := xs) (d + 4) v4 s) (fun x11 => ?_)
        refine w_go K 4 (c' := (49, [some (.ref 111), some (.int a1), some (.ref 25), some (.ref 12), some (.int v4), some (.int x10), o6], [.ref 115, .ref 12, .ref 25], mT x11)) rfl ?_
        refine w_callL K (E := f_Net_settle_115 x11) (g := fun (x12 : Int32 × mS) => (some (.int x12.1), mT x12.2)) rfl (m_Net_settle_115 (len := len) (xs := xs) (d + 0) x11) (fun x12 => ?_)
        refine w_go K 4 (c' := (58, [some (.ref 111), some (.int a1), some (.ref 25), some (.ref 12), some (.int v4), some (.int x10), o6], [.ref 30, .ref 12], mT x12.2)) rfl ?_
        refine w_callL K (E := f_Things_burnFully_30 x12.2) (g := fun (x13 : Int32) => (some (.int x13), mT x12.2)) rfl (m_Things_burnFully_30 (len := len) (xs := xs) (d + 4) x12.2) (fun x13 => ?_)
        refine w_go K 4 (c' := (69, [some (.ref 111), some (.int a1), some (.ref 25), some (.ref 12), some (.int v4), some (.int x10), some (.int x13)], [.int (gI x12.2 111 6), .int x13], mT x12.2)) rfl ?_
        refine w_igt K rfl (fun _ => ?_) (fun _ => ?_)
        · refine w_go K 11 (c' := (8, [some (.ref 111), some (.int a1), some (.ref 25), some (.ref 12), some (.int (v4 + 1)), some (.int x10), some (.int x13)], [], mT (sI (sI (sI x12.2 111 5 v4) 111 6 x13) 111 7 x10))) rfl ?_
          exact fun a b => ih (v4 + 1) _ _ (sI (sI (sI x12.2 111 5 v4) 111 6 x13) 111 7 x10) a b
        · refine w_go K 3 (c' := (78, [some (.ref 111), some (.int a1), some (.ref 25), some (.ref 12), some (.int v4), some (.int x10), some (.int x13)], [.int (gI x12.2 111 6), .int x13], mT x12.2)) rfl ?_
          refine w_ine K rfl (fun _ => ?_) (fun _ => ?_)
          · refine w_go K 3 (c' := (87, [some (.ref 111), some (.int a1), some (.ref 25), some (.ref 12), some (.int v4), some (.int x10), some (.int x13)], [.int (gI x12.2 111 7), .int x10], mT x12.2)) rfl ?_
            refine w_ige K rfl (fun _ => ?_) (fun _ => ?_)
            · refine w_go K 2 (c' := (8, [some (.ref 111), some (.int a1), some (.ref 25), some (.ref 12), some (.int (v4 + 1)), some (.int x10), some (.int x13)], [], mT x12.2)) rfl ?_
              exact fun a b => ih (v4 + 1) _ _ x12.2 a b
            · refine w_go K 11 (c' := (8, [some (.ref 111), some (.int a1), some (.ref 25), some (.ref 12), some (.int (v4 + 1)), some (.int x10), some (.int x13)], [], mT (sI (sI (sI x12.2 111 5 v4) 111 6 x13) 111 7 x10))) rfl ?_
              exact fun a b => ih (v4 + 1) _ _ (sI (sI (sI x12.2 111 5 v4) 111 6 x13) 111 7 x10) a b
          · refine w_go K 2 (c' := (8, [some (.ref 111), some (.int a1), some (.ref 25), some (.ref 12), some (.int (v4 + 1)), some (.int x10), some (.int x13)], [], mT x12.2)) rfl ?_
            exact fun a b => ih (v4 + 1) _ _ x12.2 a b
      · refine w_go K 3 (c' := (8, [some (.ref 111), some (.int a1), some (.ref 25), some (.ref 12), some (.int (v4 + 1)), some (.int x10), o6], [], mT s)) rfl ?_
        exact fun a b => ih (v4 + 1) _ _ s a b
def f_Improvements_choose (a1 : Int32) (s : mS) : mS := (mq_let (lp_Improvements_choose_8 a1 mm_N (0 : Int32) (sI s 111 6 (-1))) (fun (x14 : Int32 × mS) => x14.2))
def ok_Improvements_choose (a1 : Int32) (s : mS) : Prop := (okl_Improvements_choose_8 a1 mm_N (0 : Int32) (sI s 111 6 (-1)) ∧ mq_letP (lp_Improvements_choose_8 a1 mm_N (0 : Int32) (sI s 111 6 (-1))) (fun (x14 : Int32 × mS) => True))
set_option maxRecDepth 4000 in
theorem t_Improvements_choose {len : Nat} {xs : Nat → Int32}  (d : Nat) (a1 : Int32) (s : mS) {T : Option mm_R} (K : mS → Prop) (hK : ∀ t, K t → some (none, mT t) = T) : ok_Improvements_choose a1 s → K (f_Improvements_choose a1 s) → mm_fix (mm_X len xs) mm_Y (mm_call (mm_X len xs) mm_Y (d + 5)) (mm_look mc_Improvements_choose) (0, [some (.ref 111), some (.int a1), some (.ref 25), some (.ref 12), none, none, none], [], mT s) = T := by
  unfold ok_Improvements_choose f_Improvements_choose
  refine w_go K 5 (c' := (8, [some (.ref 111), some (.int a1), some (.ref 25), some (.ref 12), some (.int 0), none, none], [], mT (sI s 111 6 (-1)))) rfl ?_
  refine w_join K (fun (x14 : Int32 × mS) => ∀ (q15 : Option Value) (q16 : Option Value), mm_fix (mm_X len xs) mm_Y (mm_call (mm_X len xs) mm_Y (d + 5)) (mm_look mc_Improvements_choose) (114, [some (.ref 111), some (.int a1), some (.ref 25), some (.ref 12), some (.int x14.1), q15, q16], [], mT x14.2) = T) (fun K hJ => tl_Improvements_choose_8 (len := len) (xs := xs) d a1 (T := T) K hJ mm_N (0 : Int32) _ _ (sI s 111 6 (-1))) (fun x14 h1 h2 q15 q16 => ?_)
  revert h1 h2
  refine w_go K 0 (c' := (114, [some (.ref 111), some (.int a1), some (.ref 25), some (.ref 12), some (.int x14.1), q15, q16], [], mT x14.2)) rfl ?_
  exact w_ret K rfl (hK _)
theorem m_Improvements_choose {len : Nat} {xs : Nat → Int32}  (d : Nat) (a1 : Int32) (s : mS) : ok_Improvements_choose a1 s → mm_call (mm_X len xs) mm_Y (d + 6) 151 [.ref 111, .int a1, .ref 25, .ref 12] (mT s) = some (none, mT (f_Improvements_choose a1 s)) := fun h => t_Improvements_choose (len := len) (xs := xs) d a1 s (fun t => (some (none, mT t) : Option mm_R) = some (none, mT (f_Improvements_choose a1 s))) (fun _ h => h) h rfl
def f_G_choice (a1 : Int32) (a2 : Int32) (a3 : Int32) (s : mS) : Int32 × mS := (mq_let (f_G_within a1 (0 : Int32) (9999 : Int32) s) (fun (x10 : Int32) => (if x10 = 0 then ((-1), s) else (mq_let (f_G_within a2 (0 : Int32) (3999 : Int32) s) (fun (x11 : Int32) => (if x11 = 0 then ((-1), s) else (mq_let (f_G_within a3 (0 : Int32) (2 : Int32) s) (fun (x12 : Int32) => (if x12 = 0 then ((-1), s) else (mq_let (f_Things_askAll a2 s) (fun (x13 : mS) => (mq_let (f_Improvements_choose a1 x13) (fun (x14 : mS) => (if a3 = 0 then ((gI x14 111 5), x14) else (if a3 = 1 then ((gI x14 111 6), x14) else ((gI x14 111 7), x14))))))))))))))))
def ok_G_choice (a1 : Int32) (a2 : Int32) (a3 : Int32) (s : mS) : Prop := (True ∧ mq_letP (f_G_within a1 (0 : Int32) (9999 : Int32) s) (fun (x10 : Int32) => (if x10 = 0 then True else (True ∧ mq_letP (f_G_within a2 (0 : Int32) (3999 : Int32) s) (fun (x11 : Int32) => (if x11 = 0 then True else (True ∧ mq_letP (f_G_within a3 (0 : Int32) (2 : Int32) s) (fun (x12 : Int32) => (if x12 = 0 then True else (ok_Things_askAll a2 s ∧ mq_letP (f_Things_askAll a2 s) (fun (x13 : mS) => (ok_Improvements_choose a1 x13 ∧ mq_letP (f_Improvements_choose a1 x13) (fun (x14 : mS) => True)))))))))))))
set_option maxRecDepth 4000 in
theorem t_G_choice {len : Nat} {xs : Nat → Int32}  (d : Nat) (a1 : Int32) (a2 : Int32) (a3 : Int32) (s : mS) {T : Option mm_R} (K : Int32 × mS → Prop) (hK : ∀ t, K t → some (some (.int t.1), mT t.2) = T) : ok_G_choice a1 a2 a3 s → K (f_G_choice a1 a2 a3 s) → mm_fix (mm_X len xs) mm_Y (mm_call (mm_X len xs) mm_Y (d + 6)) (mm_look mc_G_choice) (0, [some (.ref 0), some (.int a1), some (.int a2), some (.int a3)], [], mT s) = T := by
  unfold ok_G_choice f_G_choice
  refine w_go K 3 (c' := (5, [some (.ref 0), some (.int a1), some (.int a2), some (.int a3)], [.int 9999, .int 0, .int a1], mT s)) rfl ?_
  refine w_callL K (E := f_G_within a1 (0 : Int32) (9999 : Int32) s) (g := fun (x10 : Int32) => (some (.int x10), mT s)) rfl (m_G_within (len := len) (xs := xs) (d + 5) a1 (0 : Int32) (9999 : Int32) s) (fun x10 => ?_)
  refine w_go K 0 (c' := (8, [some (.ref 0), some (.int a1), some (.int a2), some (.int a3)], [.int x10], mT s)) rfl ?_
  refine w_zeq K rfl (fun _ => ?_) (fun _ => ?_)
  · refine w_go K 1 (c' := (32, [some (.ref 0), some (.int a1), some (.int a2), some (.int a3)], [.int (-1)], mT s)) rfl ?_
    exact w_ret K rfl (hK _)
  · refine w_go K 3 (c' := (16, [some (.ref 0), some (.int a1), some (.int a2), some (.int a3)], [.int 3999, .int 0, .int a2], mT s)) rfl ?_
    refine w_callL K (E := f_G_within a2 (0 : Int32) (3999 : Int32) s) (g := fun (x11 : Int32) => (some (.int x11), mT s)) rfl (m_G_within (len := len) (xs := xs) (d + 5) a2 (0 : Int32) (3999 : Int32) s) (fun x11 => ?_)
    refine w_go K 0 (c' := (19, [some (.ref 0), some (.int a1), some (.int a2), some (.int a3)], [.int x11], mT s)) rfl ?_
    refine w_zeq K rfl (fun _ => ?_) (fun _ => ?_)
    · refine w_go K 1 (c' := (32, [some (.ref 0), some (.int a1), some (.int a2), some (.int a3)], [.int (-1)], mT s)) rfl ?_
      exact w_ret K rfl (hK _)
    · refine w_go K 3 (c' := (25, [some (.ref 0), some (.int a1), some (.int a2), some (.int a3)], [.int 2, .int 0, .int a3], mT s)) rfl ?_
      refine w_callL K (E := f_G_within a3 (0 : Int32) (2 : Int32) s) (g := fun (x12 : Int32) => (some (.int x12), mT s)) rfl (m_G_within (len := len) (xs := xs) (d + 5) a3 (0 : Int32) (2 : Int32) s) (fun x12 => ?_)
      refine w_go K 0 (c' := (28, [some (.ref 0), some (.int a1), some (.int a2), some (.int a3)], [.int x12], mT s)) rfl ?_
      refine w_zne K rfl (fun _ => ?_) (fun _ => ?_)
      · refine w_go K 1 (c' := (32, [some (.ref 0), some (.int a1), some (.int a2), some (.int a3)], [.int (-1)], mT s)) rfl ?_
        exact w_ret K rfl (hK _)
      · refine w_go K 5 (c' := (42, [some (.ref 0), some (.int a1), some (.int a2), some (.int a3)], [.ref 1, .int a2, .ref 12], mT s)) rfl ?_
        refine w_callL K (E := f_Things_askAll a2 s) (g := fun (x13 : mS) => (none, mT x13)) rfl (m_Things_askAll (len := len) (xs := xs) (d + 1) a2 s) (fun x13 => ?_)
        refine w_go K 7 (c' := (58, [some (.ref 0), some (.int a1), some (.int a2), some (.int a3)], [.ref 12, .ref 25, .int a1, .ref 111], mT x13)) rfl ?_
        refine w_callL K (E := f_Improvements_choose a1 x13) (g := fun (x14 : mS) => (none, mT x14)) rfl (m_Improvements_choose (len := len) (xs := xs) (d + 0) a1 x13) (fun x14 => ?_)
        refine w_go K 1 (c' := (62, [some (.ref 0), some (.int a1), some (.int a2), some (.int a3)], [.int a3], mT x14)) rfl ?_
        refine w_go K 1 (c' := (mm_sw [(0, 88), (1, 96)] 104 a3, [some (.ref 0), some (.int a1), some (.int a2), some (.int a3)], [], mT x14)) rfl ?_
        refine w_swT K (fun _ => ?_) (fun _ => ?_)
        · refine w_go K 3 (c' := (95, [some (.ref 0), some (.int a1), some (.int a2), some (.int a3)], [.int (gI x14 111 5)], mT x14)) rfl ?_
          exact w_ret K rfl (hK _)
        · refine w_swT K (fun _ => ?_) (fun _ => ?_)
          · refine w_go K 3 (c' := (103, [some (.ref 0), some (.int a1), some (.int a2), some (.int a3)], [.int (gI x14 111 6)], mT x14)) rfl ?_
            exact w_ret K rfl (hK _)
          · refine w_go K 0 (c' := (104, [some (.ref 0), some (.int a1), some (.int a2), some (.int a3)], [], mT x14)) rfl ?_
            refine w_go K 3 (c' := (111, [some (.ref 0), some (.int a1), some (.int a2), some (.int a3)], [.int (gI x14 111 7)], mT x14)) rfl ?_
            exact w_ret K rfl (hK _)
theorem m_G_choice {len : Nat} {xs : Nat → Int32}  (d : Nat) (a1 : Int32) (a2 : Int32) (a3 : Int32) (s : mS) : ok_G_choice a1 a2 a3 s → mm_call (mm_X len xs) mm_Y (d + 7) 150 [.ref 0, .int a1, .int a2, .int a3] (mT s) = some (some (.int (f_G_choice a1 a2 a3 s).1), mT (f_G_choice a1 a2 a3 s).2) := fun h => t_G_choice (len := len) (xs := xs) d a1 a2 a3 s (fun t => (some (some (.int t.1), mT t.2) : Option mm_R) = some (some (.int (f_G_choice a1 a2 a3 s).1), mT (f_G_choice a1 a2 a3 s).2)) (fun _ h => h) h rfl
def lp_M_coinOf_4 (a1 : Int32) (s : mS) : Nat → Int32 → Int32 → Int32 × Int32
  | 0, v2, v3 => (v2, v3)
  | n + 1, v2, v3 => (if (gI s 116 103) ≤ v3 then (v2, v3) else (lp_M_coinOf_4 a1 s n (v2 + (((a1 >>> (v3 &&& 31)) &&& 1) * (gI s 178 (ix v3)))) (v3 + 1)))
def okl_M_coinOf_4 (a1 : Int32) (s : mS) : Nat → Int32 → Int32 → Prop
  | 0, v2, v3 => False
  | n + 1, v2, v3 => (if (gI s 116 103) ≤ v3 then True else (mm_inb v3 8 = true ∧ (okl_M_coinOf_4 a1 s n (v2 + (((a1 >>> (v3 &&& 31)) &&& 1) * (gI s 178 (ix v3)))) (v3 + 1))))
set_option maxRecDepth 4000 in
theorem tl_M_coinOf_4 {len : Nat} {xs : Nat → Int32}  (d : Nat) (a1 : Int32) (s : mS) {T : Option mm_R} (K : Int32 × Int32 → Prop) (hX : ∀ r, K r → mm_fix (mm_X len xs) mm_Y (mm_call (mm_X len xs) mm_Y (d + 0)) (mm_look mc_M_coinOf) (33, [some (.ref 116), some (.int a1), some (.int r.1), some (.int r.2)], [], mT s) = T) : ∀ (n : Nat), ∀ (v2 : Int32) (v3 : Int32), okl_M_coinOf_4 a1 s n v2 v3 → K (lp_M_coinOf_4 a1 s n v2 v3) → mm_fix (mm_X len xs) mm_Y (mm_call (mm_X len xs) mm_Y (d + 0)) (mm_look mc_M_coinOf) (4, [some (.ref 116), some (.int a1), some (.int v2), some (.int v3)], [], mT s) = T := by
  intro n
  induction n with
  | zero => intro v2 v3; exact fun h => h.elim
  | succ n ih =>
    intro v2 v3
    rw [okl_M_coinOf_4, lp_M_coinOf_4]
    refine w_go K 3 (c' := (9, [some (.ref 116), some (.int a1), some (.int v2), some (.int v3)], [.int (gI s 116 103), .int v3], mT s)) rfl ?_
    refine w_ige K rfl (fun _ => ?_) (fun _ => ?_)
    · refine w_go K 0 (c' := (33, [some (.ref 116), some (.int a1), some (.int v2), some (.int v3)], [], mT s)) rfl ?_
      exact fun _ b => hX _ b
    · refine w_go K 9 (c' := (23, [some (.ref 116), some (.int a1), some (.int v2), some (.int v3)], [.int v3, .ref 178, .int ((a1 >>> (v3 &&& 31)) &&& 1), .int v2], mT s)) rfl ?_
      refine w_ck K (st_iL rfl rfl) ?_
      refine w_go K 5 (c' := (4, [some (.ref 116), some (.int a1), some (.int (v2 + (((a1 >>> (v3 &&& 31)) &&& 1) * (gI s 178 (ix v3))))), some (.int (v3 + 1))], [], mT s)) rfl ?_
      exact fun a b => ih (v2 + (((a1 >>> (v3 &&& 31)) &&& 1) * (gI s 178 (ix v3)))) (v3 + 1) a b
def f_M_coinOf (a1 : Int32) (s : mS) : Int32 := (mq_let (lp_M_coinOf_4 a1 s mm_N (0 : Int32) (0 : Int32)) (fun (x10 : Int32 × Int32) => x10.1))
def ok_M_coinOf (a1 : Int32) (s : mS) : Prop := (okl_M_coinOf_4 a1 s mm_N (0 : Int32) (0 : Int32) ∧ mq_letP (lp_M_coinOf_4 a1 s mm_N (0 : Int32) (0 : Int32)) (fun (x10 : Int32 × Int32) => True))
set_option maxRecDepth 4000 in
theorem t_M_coinOf {len : Nat} {xs : Nat → Int32}  (d : Nat) (a1 : Int32) (s : mS) {T : Option mm_R} (K : Int32 → Prop) (hK : ∀ t, K t → some (some (.int t), mT s) = T) : ok_M_coinOf a1 s → K (f_M_coinOf a1 s) → mm_fix (mm_X len xs) mm_Y (mm_call (mm_X len xs) mm_Y (d + 0)) (mm_look mc_M_coinOf) (0, [some (.ref 116), some (.int a1), none, none], [], mT s) = T := by
  unfold ok_M_coinOf f_M_coinOf
  refine w_go K 4 (c' := (4, [some (.ref 116), some (.int a1), some (.int 0), some (.int 0)], [], mT s)) rfl ?_
  refine w_join K (fun (x10 : Int32 × Int32) => mm_fix (mm_X len xs) mm_Y (mm_call (mm_X len xs) mm_Y (d + 0)) (mm_look mc_M_coinOf) (33, [some (.ref 116), some (.int a1), some (.int x10.1), some (.int x10.2)], [], mT s) = T) (fun K hJ => tl_M_coinOf_4 (len := len) (xs := xs) d a1 s (T := T) K hJ mm_N (0 : Int32) (0 : Int32)) (fun x10 h1 h2 => ?_)
  revert h1 h2
  refine w_go K 1 (c' := (34, [some (.ref 116), some (.int a1), some (.int x10.1), some (.int x10.2)], [.int x10.1], mT s)) rfl ?_
  exact w_ret K rfl (hK _)
theorem m_M_coinOf {len : Nat} {xs : Nat → Int32}  (d : Nat) (a1 : Int32) (s : mS) : ok_M_coinOf a1 s → mm_call (mm_X len xs) mm_Y (d + 1) 248 [.ref 116, .int a1] (mT s) = some (some (.int (f_M_coinOf a1 s)), mT s) := fun h => t_M_coinOf (len := len) (xs := xs) d a1 s (fun t => (some (some (.int t), mT s) : Option mm_R) = some (some (.int (f_M_coinOf a1 s)), mT s)) (fun _ h => h) h rfl
def lp_M_burning_2 (a1 : Int32) (a2 : Int32) : Nat → Int32 → mS → Int32 × mS
  | 0, v3, s => (v3, s)
  | n + 1, v3, s => (if (gI s 116 7) ≤ v3 then (v3, s) else (lp_M_burning_2 a1 a2 n (v3 + 1) (sI s 147 (ix v3) (gI s 128 (ix v3)))))
def okl_M_burning_2 (a1 : Int32) (a2 : Int32) : Nat → Int32 → mS → Prop
  | 0, v3, s => False
  | n + 1, v3, s => (if (gI s 116 7) ≤ v3 then True else (mm_inb v3 16 = true ∧ (mm_inb v3 16 = true ∧ (okl_M_burning_2 a1 a2 n (v3 + 1) (sI s 147 (ix v3) (gI s 128 (ix v3)))))))
set_option maxRecDepth 4000 in
theorem tl_M_burning_2 {len : Nat} {xs : Nat → Int32}  (d : Nat) (a1 : Int32) (a2 : Int32)  {T : Option mm_R} (K : Int32 × mS → Prop) (hX : ∀ r, K r → ∀ (o4 : Option Value), mm_fix (mm_X len xs) mm_Y (mm_call (mm_X len xs) mm_Y (d + 4)) (mm_look mc_M_burning) (28, [some (.ref 116), some (.int a1), some (.int a2), some (.int r.1), o4], [], mT r.2) = T) : ∀ (n : Nat), ∀ (v3 : Int32) (o4 : Option Value) (s : mS), okl_M_burning_2 a1 a2 n v3 s → K (lp_M_burning_2 a1 a2 n v3 s) → mm_fix (mm_X len xs) mm_Y (mm_call (mm_X len xs) mm_Y (d + 4)) (mm_look mc_M_burning) (2, [some (.ref 116), some (.int a1), some (.int a2), some (.int v3), o4], [], mT s) = T := by
  intro n
  induction n with
  | zero => intro v3 o4 s; exact fun h => h.elim
  | succ n ih =>
    intro v3 o4 s
    rw [okl_M_burning_2, lp_M_burning_2]
    refine w_go K 3 (c' := (7, [some (.ref 116), some (.int a1), some (.int a2), some (.int v3), o4], [.int (gI s 116 7), .int v3], mT s)) rfl ?_
    refine w_ige K rfl (fun _ => ?_) (fun _ => ?_)
    · refine w_go K 0 (c' := (28, [some (.ref 116), some (.int a1), some (.int a2), some (.int v3), o4], [], mT s)) rfl ?_
      exact fun _ b => hX _ b _
    · refine w_go K 6 (c' := (20, [some (.ref 116), some (.int a1), some (.int a2), some (.int v3), o4], [.int v3, .ref 128, .int v3, .ref 147], mT s)) rfl ?_
      refine w_ck K (st_iL rfl rfl) ?_
      refine w_go K 0 (c' := (21, [some (.ref 116), some (.int a1), some (.int a2), some (.int v3), o4], [.int (gI s 128 (ix v3)), .int v3, .ref 147], mT s)) rfl ?_
      refine w_ck K (st_iS rfl rfl) ?_
      refine w_go K 2 (c' := (2, [some (.ref 116), some (.int a1), some (.int a2), some (.int (v3 + 1)), o4], [], mT (sI s 147 (ix v3) (gI s 128 (ix v3))))) rfl ?_
      exact fun a b => ih (v3 + 1) _ (sI s 147 (ix v3) (gI s 128 (ix v3))) a b
def lp_M_burning_30 (a1 : Int32) (a2 : Int32) : Nat → Int32 → mS → Int32 × mS
  | 0, v3, s => (v3, s)
  | n + 1, v3, s => (if (gI s 116 103) ≤ v3 then (v3, s) else (if ((a1 >>> (v3 &&& 31)) &&& 1) = 1 then (lp_M_burning_30 a1 a2 n (v3 + 1) (sI s 147 (ix (gI s 176 (ix v3))) (gI s 177 (ix v3)))) else (lp_M_burning_30 a1 a2 n (v3 + 1) s)))
def okl_M_burning_30 (a1 : Int32) (a2 : Int32) : Nat → Int32 → mS → Prop
  | 0, v3, s => False
  | n + 1, v3, s => (if (gI s 116 103) ≤ v3 then True else (if ((a1 >>> (v3 &&& 31)) &&& 1) = 1 then (mm_inb v3 8 = true ∧ (mm_inb v3 8 = true ∧ (mm_inb (gI s 176 (ix v3)) 16 = true ∧ (okl_M_burning_30 a1 a2 n (v3 + 1) (sI s 147 (ix (gI s 176 (ix v3))) (gI s 177 (ix v3))))))) else (okl_M_burning_30 a1 a2 n (v3 + 1) s)))
set_option maxRecDepth 4000 in
theorem tl_M_burning_30 {len : Nat} {xs : Nat → Int32}  (d : Nat) (a1 : Int32) (a2 : Int32)  {T : Option mm_R} (K : Int32 × mS → Prop) (hX : ∀ r, K r → ∀ (o4 : Option Value), mm_fix (mm_X len xs) mm_Y (mm_call (mm_X len xs) mm_Y (d + 4)) (mm_look mc_M_burning) (70, [some (.ref 116), some (.int a1), some (.int a2), some (.int r.1), o4], [], mT r.2) = T) : ∀ (n : Nat), ∀ (v3 : Int32) (o4 : Option Value) (s : mS), okl_M_burning_30 a1 a2 n v3 s → K (lp_M_burning_30 a1 a2 n v3 s) → mm_fix (mm_X len xs) mm_Y (mm_call (mm_X len xs) mm_Y (d + 4)) (mm_look mc_M_burning) (30, [some (.ref 116), some (.int a1), some (.int a2), some (.int v3), o4], [], mT s) = T := by
  intro n
  induction n with
  | zero => intro v3 o4 s; exact fun h => h.elim
  | succ n ih =>
    intro v3 o4 s
    rw [okl_M_burning_30, lp_M_burning_30]
    refine w_go K 3 (c' := (35, [some (.ref 116), some (.int a1), some (.int a2), some (.int v3), o4], [.int (gI s 116 103), .int v3], mT s)) rfl ?_
    refine w_ige K rfl (fun _ => ?_) (fun _ => ?_)
    · refine w_go K 0 (c' := (70, [some (.ref 116), some (.int a1), some (.int a2), some (.int v3), o4], [], mT s)) rfl ?_
      exact fun _ b => hX _ b _
    · refine w_go K 6 (c' := (44, [some (.ref 116), some (.int a1), some (.int a2), some (.int v3), o4], [.int 1, .int ((a1 >>> (v3 &&& 31)) &&& 1)], mT s)) rfl ?_
      refine w_ine K rfl (fun _ => ?_) (fun _ => ?_)
      · refine w_go K 5 (c' := (56, [some (.ref 116), some (.int a1), some (.int a2), some (.int v3), o4], [.int v3, .ref 176, .ref 147], mT s)) rfl ?_
        refine w_ck K (st_iL rfl rfl) ?_
        refine w_go K 3 (c' := (62, [some (.ref 116), some (.int a1), some (.int a2), some (.int v3), o4], [.int v3, .ref 177, .int (gI s 176 (ix v3)), .ref 147], mT s)) rfl ?_
        refine w_ck K (st_iL rfl rfl) ?_
        refine w_go K 0 (c' := (63, [some (.ref 116), some (.int a1), some (.int a2), some (.int v3), o4], [.int (gI s 177 (ix v3)), .int (gI s 176 (ix v3)), .ref 147], mT s)) rfl ?_
        refine w_ck K (st_iS rfl rfl) ?_
        refine w_go K 2 (c' := (30, [some (.ref 116), some (.int a1), some (.int a2), some (.int (v3 + 1)), o4], [], mT (sI s 147 (ix (gI s 176 (ix v3))) (gI s 177 (ix v3))))) rfl ?_
        exact fun a b => ih (v3 + 1) _ (sI s 147 (ix (gI s 176 (ix v3))) (gI s 177 (ix v3))) a b
      · refine w_go K 2 (c' := (30, [some (.ref 116), some (.int a1), some (.int a2), some (.int (v3 + 1)), o4], [], mT s)) rfl ?_
        exact fun a b => ih (v3 + 1) _ s a b
def lp_M_burning_81 (s : mS) : Nat → Int32 → Int32 → Int32 × Int32
  | 0, v3, v4 => (v3, v4)
  | n + 1, v3, v4 => (if (gI s 116 8) ≤ v4 then (v3, v4) else (if (gI s 133 (ix v4)) = 3 then (lp_M_burning_81 s n (v3 + 0) (v4 + 1)) else (if (gI s 142 (ix v4)) ≤ 0 then (lp_M_burning_81 s n (v3 + 0) (v4 + 1)) else (if (gI s 145 (ix (gI s 132 (ix v4)))) < 20 then (lp_M_burning_81 s n (v3 + 0) (v4 + 1)) else (lp_M_burning_81 s n (v3 + 1) (v4 + 1))))))
def okl_M_burning_81 (s : mS) : Nat → Int32 → Int32 → Prop
  | 0, v3, v4 => False
  | n + 1, v3, v4 => (if (gI s 116 8) ≤ v4 then True else (mm_inb v4 40 = true ∧ (if (gI s 133 (ix v4)) = 3 then (okl_M_burning_81 s n (v3 + 0) (v4 + 1)) else (mm_inb v4 40 = true ∧ (if (gI s 142 (ix v4)) ≤ 0 then (okl_M_burning_81 s n (v3 + 0) (v4 + 1)) else (mm_inb v4 40 = true ∧ (mm_inb (gI s 132 (ix v4)) 16 = true ∧ (if (gI s 145 (ix (gI s 132 (ix v4)))) < 20 then (okl_M_burning_81 s n (v3 + 0) (v4 + 1)) else (okl_M_burning_81 s n (v3 + 1) (v4 + 1))))))))))
set_option maxRecDepth 4000 in
theorem tl_M_burning_81 {len : Nat} {xs : Nat → Int32}  (d : Nat)  (s : mS) {T : Option mm_R} (K : Int32 × Int32 → Prop) (hX : ∀ r, K r → ∀ (o1 : Option Value) (o2 : Option Value), mm_fix (mm_X len xs) mm_Y (mm_call (mm_X len xs) mm_Y (d + 4)) (mm_look mc_M_burning) (142, [some (.ref 116), o1, o2, some (.int r.1), some (.int r.2)], [], mT s) = T) : ∀ (n : Nat), ∀ (v3 : Int32) (v4 : Int32) (o1 : Option Value) (o2 : Option Value), okl_M_burning_81 s n v3 v4 → K (lp_M_burning_81 s n v3 v4) → mm_fix (mm_X len xs) mm_Y (mm_call (mm_X len xs) mm_Y (d + 4)) (mm_look mc_M_burning) (81, [some (.ref 116), o1, o2, some (.int v3), some (.int v4)], [], mT s) = T := by
  intro n
  induction n with
  | zero => intro v3 v4 o1 o2; exact fun h => h.elim
  | succ n ih =>
    intro v3 v4 o1 o2
    rw [okl_M_burning_81, lp_M_burning_81]
    refine w_go K 3 (c' := (87, [some (.ref 116), o1, o2, some (.int v3), some (.int v4)], [.int (gI s 116 8), .int v4], mT s)) rfl ?_
    refine w_ige K rfl (fun _ => ?_) (fun _ => ?_)
    · refine w_go K 0 (c' := (142, [some (.ref 116), o1, o2, some (.int v3), some (.int v4)], [], mT s)) rfl ?_
      exact fun _ b => hX _ b _ _
    · refine w_go K 4 (c' := (97, [some (.ref 116), o1, o2, some (.int v3), some (.int v4)], [.int v4, .ref 133, .int v3], mT s)) rfl ?_
      refine w_ck K (st_iL rfl rfl) ?_
      refine w_go K 1 (c' := (99, [some (.ref 116), o1, o2, some (.int v3), some (.int v4)], [.int 3, .int (gI s 133 (ix v4)), .int v3], mT s)) rfl ?_
      refine w_ieq K rfl (fun _ => ?_) (fun _ => ?_)
      · refine w_go K 5 (c' := (81, [some (.ref 116), o1, (mm_cut o2 0), some (.int (v3 + 0)), some (.int (v4 + 1))], [], mT s)) rfl ?_
        exact fun a b => ih (v3 + 0) (v4 + 1) _ _ a b
      · refine w_go K 3 (c' := (108, [some (.ref 116), o1, o2, some (.int v3), some (.int v4)], [.int v4, .ref 142, .int v3], mT s)) rfl ?_
        refine w_ck K (st_iL rfl rfl) ?_
        refine w_go K 0 (c' := (109, [some (.ref 116), o1, o2, some (.int v3), some (.int v4)], [.int (gI s 142 (ix v4)), .int v3], mT s)) rfl ?_
        refine w_zle K rfl (fun _ => ?_) (fun _ => ?_)
        · refine w_go K 5 (c' := (81, [some (.ref 116), o1, (mm_cut o2 0), some (.int (v3 + 0)), some (.int (v4 + 1))], [], mT s)) rfl ?_
          exact fun a b => ih (v3 + 0) (v4 + 1) _ _ a b
        · refine w_go K 5 (c' := (122, [some (.ref 116), o1, o2, some (.int v3), some (.int v4)], [.int v4, .ref 132, .ref 145, .int v3], mT s)) rfl ?_
          refine w_ck K (st_iL rfl rfl) ?_
          refine w_go K 0 (c' := (123, [some (.ref 116), o1, o2, some (.int v3), some (.int v4)], [.int (gI s 132 (ix v4)), .ref 145, .int v3], mT s)) rfl ?_
          refine w_ck K (st_iL rfl rfl) ?_
          refine w_go K 1 (c' := (126, [some (.ref 116), o1, o2, some (.int v3), some (.int v4)], [.int 20, .int (gI s 145 (ix (gI s 132 (ix v4)))), .int v3], mT s)) rfl ?_
          refine w_ilt K rfl (fun _ => ?_) (fun _ => ?_)
          · refine w_go K 5 (c' := (81, [some (.ref 116), o1, (mm_cut o2 0), some (.int (v3 + 0)), some (.int (v4 + 1))], [], mT s)) rfl ?_
            exact fun a b => ih (v3 + 0) (v4 + 1) _ _ a b
          · refine w_go K 6 (c' := (81, [some (.ref 116), o1, (mm_cut o2 0), some (.int (v3 + 1)), some (.int (v4 + 1))], [], mT s)) rfl ?_
            exact fun a b => ih (v3 + 1) (v4 + 1) _ _ a b
def f_M_burning (a1 : Int32) (a2 : Int32) (s : mS) : Int32 × mS := (mq_let (lp_M_burning_2 a1 a2 mm_N (0 : Int32) s) (fun (x10 : Int32 × mS) => (mq_let (lp_M_burning_30 a1 a2 mm_N (0 : Int32) x10.2) (fun (x12 : Int32 × mS) => (mq_let (f_M_settles a2 x12.2) (fun (x14 : Int32 × mS) => (mq_let (lp_M_burning_81 x14.2 mm_N (0 : Int32) (0 : Int32)) (fun (x15 : Int32 × Int32) => (x15.1, x14.2)))))))))
def ok_M_burning (a1 : Int32) (a2 : Int32) (s : mS) : Prop := (okl_M_burning_2 a1 a2 mm_N (0 : Int32) s ∧ mq_letP (lp_M_burning_2 a1 a2 mm_N (0 : Int32) s) (fun (x10 : Int32 × mS) => (okl_M_burning_30 a1 a2 mm_N (0 : Int32) x10.2 ∧ mq_letP (lp_M_burning_30 a1 a2 mm_N (0 : Int32) x10.2) (fun (x12 : Int32 × mS) => (ok_M_settles a2 x12.2 ∧ mq_letP (f_M_settles a2 x12.2) (fun (x14 : Int32 × mS) => (okl_M_burning_81 x14.2 mm_N (0 : Int32) (0 : Int32) ∧ mq_letP (lp_M_burning_81 x14.2 mm_N (0 : Int32) (0 : Int32)) (fun (x15 : Int32 × Int32) => True))))))))
set_option maxRecDepth 4000 in
theorem t_M_burning {len : Nat} {xs : Nat → Int32}  (d : Nat) (a1 : Int32) (a2 : Int32) (s : mS) {T : Option mm_R} (K : Int32 × mS → Prop) (hK : ∀ t, K t → some (some (.int t.1), mT t.2) = T) : ok_M_burning a1 a2 s → K (f_M_burning a1 a2 s) → mm_fix (mm_X len xs) mm_Y (mm_call (mm_X len xs) mm_Y (d + 4)) (mm_look mc_M_burning) (0, [some (.ref 116), some (.int a1), some (.int a2), none, none], [], mT s) = T := by
  unfold ok_M_burning f_M_burning
  refine w_go K 2 (c' := (2, [some (.ref 116), some (.int a1), some (.int a2), some (.int 0), none], [], mT s)) rfl ?_
  refine w_join K (fun (x10 : Int32 × mS) => ∀ (q11 : Option Value), mm_fix (mm_X len xs) mm_Y (mm_call (mm_X len xs) mm_Y (d + 4)) (mm_look mc_M_burning) (28, [some (.ref 116), some (.int a1), some (.int a2), some (.int x10.1), q11], [], mT x10.2) = T) (fun K hJ => tl_M_burning_2 (len := len) (xs := xs) d a1 a2 (T := T) K hJ mm_N (0 : Int32) _ s) (fun x10 h1 h2 q11 => ?_)
  revert h1 h2
  refine w_go K 2 (c' := (30, [some (.ref 116), some (.int a1), some (.int a2), some (.int 0), q11], [], mT x10.2)) rfl ?_
  refine w_join K (fun (x12 : Int32 × mS) => ∀ (q13 : Option Value), mm_fix (mm_X len xs) mm_Y (mm_call (mm_X len xs) mm_Y (d + 4)) (mm_look mc_M_burning) (70, [some (.ref 116), some (.int a1), some (.int a2), some (.int x12.1), q13], [], mT x12.2) = T) (fun K hJ => tl_M_burning_30 (len := len) (xs := xs) d a1 a2 (T := T) K hJ mm_N (0 : Int32) _ x10.2) (fun x12 h1 h2 q13 => ?_)
  revert h1 h2
  refine w_go K 2 (c' := (72, [some (.ref 116), some (.int a1), some (.int a2), some (.int x12.1), q13], [.int a2, .ref 116], mT x12.2)) rfl ?_
  refine w_callL K (E := f_M_settles a2 x12.2) (g := fun (x14 : Int32 × mS) => (some (.int x14.1), mT x14.2)) rfl (m_M_settles (len := len) (xs := xs) (d + 0) a2 x12.2) (fun x14 => ?_)
  refine w_go K 5 (c' := (81, [some (.ref 116), some (.int a1), some (.int a2), some (.int 0), some (.int 0)], [], mT x14.2)) rfl ?_
  refine w_join K (fun (x15 : Int32 × Int32) => ∀ (q16 : Option Value) (q17 : Option Value), mm_fix (mm_X len xs) mm_Y (mm_call (mm_X len xs) mm_Y (d + 4)) (mm_look mc_M_burning) (142, [some (.ref 116), q16, q17, some (.int x15.1), some (.int x15.2)], [], mT x14.2) = T) (fun K hJ => tl_M_burning_81 (len := len) (xs := xs) d x14.2 (T := T) K hJ mm_N (0 : Int32) (0 : Int32) _ _) (fun x15 h1 h2 q16 q17 => ?_)
  revert h1 h2
  refine w_go K 1 (c' := (143, [some (.ref 116), q16, q17, some (.int x15.1), some (.int x15.2)], [.int x15.1], mT x14.2)) rfl ?_
  exact w_ret K rfl (hK _)
theorem m_M_burning {len : Nat} {xs : Nat → Int32}  (d : Nat) (a1 : Int32) (a2 : Int32) (s : mS) : ok_M_burning a1 a2 s → mm_call (mm_X len xs) mm_Y (d + 5) 249 [.ref 116, .int a1, .int a2] (mT s) = some (some (.int (f_M_burning a1 a2 s).1), mT (f_M_burning a1 a2 s).2) := fun h => t_M_burning (len := len) (xs := xs) d a1 a2 s (fun t => (some (some (.int t.1), mT t.2) : Option mm_R) = some (some (.int (f_M_burning a1 a2 s).1), mT (f_M_burning a1 a2 s).2)) (fun _ h => h) h rfl
