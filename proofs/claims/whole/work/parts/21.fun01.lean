/-! FUNCTIONS OF METHODS, by program: f_ what it does, ok_ that no row fails, m_ the small machine does so. -/
def f_Works_isCoal (a1 : Int32) (s : mS) : Int32 := (if a1 < 0 then 0 else (if (3 : Int32) ≤ a1 then 0 else 1))
set_option maxRecDepth 4000 in
theorem t_Works_isCoal {len : Nat} {xs : Nat → Int32}  (d : Nat) (a1 : Int32) (s : mS) {T : Option mm_R} (K : Int32 → Prop) (hK : ∀ t, K t → some (some (.int t), mT s) = T) : True → K (f_Works_isCoal a1 s) → mm_fix (mm_X len xs) mm_Y (mm_call (mm_X len xs) mm_Y (d + 0)) (mm_look mc_Works_isCoal) (0, [some (.ref 3), some (.int a1)], [], mT s) = T := by
  unfold f_Works_isCoal
  refine w_go K 1 (c' := (1, [some (.ref 3), some (.int a1)], [.int a1], mT s)) rfl ?_
  refine w_zltT K rfl (fun _ => ?_) (fun _ => ?_)
  · refine w_go K 1 (c' := (18, [some (.ref 3), some (.int a1)], [.int 0], mT s)) rfl ?_
    exact w_ret K rfl (hK _)
  · refine w_go K 4 (c' := (10, [some (.ref 3), some (.int a1)], [.int 3, .int a1], mT s)) rfl ?_
    refine w_igeT K rfl (fun _ => ?_) (fun _ => ?_)
    · refine w_go K 1 (c' := (18, [some (.ref 3), some (.int a1)], [.int 0], mT s)) rfl ?_
      exact w_ret K rfl (hK _)
    · refine w_go K 2 (c' := (18, [some (.ref 3), some (.int a1)], [.int 1], mT s)) rfl ?_
      exact w_ret K rfl (hK _)
theorem m_Works_isCoal {len : Nat} {xs : Nat → Int32}  (d : Nat) (a1 : Int32) (s : mS) : True → mm_call (mm_X len xs) mm_Y (d + 1) 13 [.ref 3, .int a1] (mT s) = some (some (.int (f_Works_isCoal a1 s)), mT s) := fun h => t_Works_isCoal (len := len) (xs := xs) d a1 s (fun t => (some (some (.int t), mT s) : Option mm_R) = some (some (.int (f_Works_isCoal a1 s)), mT s)) (fun _ h => h) h rfl
def f_G_within (a0 : Int32) (a1 : Int32) (a2 : Int32) (s : mS) : Int32 := (if a0 < a1 then 0 else (if a2 < a0 then 0 else 1))
set_option maxRecDepth 4000 in
theorem t_G_within {len : Nat} {xs : Nat → Int32}  (d : Nat) (a0 : Int32) (a1 : Int32) (a2 : Int32) (s : mS) {T : Option mm_R} (K : Int32 → Prop) (hK : ∀ t, K t → some (some (.int t), mT s) = T) : True → K (f_G_within a0 a1 a2 s) → mm_fix (mm_X len xs) mm_Y (mm_call (mm_X len xs) mm_Y (d + 0)) (mm_look mc_G_within) (0, [some (.int a0), some (.int a1), some (.int a2)], [], mT s) = T := by
  unfold f_G_within
  refine w_go K 2 (c' := (2, [some (.int a0), some (.int a1), some (.int a2)], [.int a1, .int a0], mT s)) rfl ?_
  refine w_iltT K rfl (fun _ => ?_) (fun _ => ?_)
  · refine w_go K 1 (c' := (15, [some (.int a0), some (.int a1), some (.int a2)], [.int 0], mT s)) rfl ?_
    exact w_ret K rfl (hK _)
  · refine w_go K 2 (c' := (7, [some (.int a0), some (.int a1), some (.int a2)], [.int a2, .int a0], mT s)) rfl ?_
    refine w_igtT K rfl (fun _ => ?_) (fun _ => ?_)
    · refine w_go K 1 (c' := (15, [some (.int a0), some (.int a1), some (.int a2)], [.int 0], mT s)) rfl ?_
      exact w_ret K rfl (hK _)
    · refine w_go K 2 (c' := (15, [some (.int a0), some (.int a1), some (.int a2)], [.int 1], mT s)) rfl ?_
      exact w_ret K rfl (hK _)
theorem m_G_within {len : Nat} {xs : Nat → Int32}  (d : Nat) (a0 : Int32) (a1 : Int32) (a2 : Int32) (s : mS) : True → mm_call (mm_X len xs) mm_Y (d + 1) 14 [.int a0, .int a1, .int a2] (mT s) = some (some (.int (f_G_within a0 a1 a2 s)), mT s) := fun h => t_G_within (len := len) (xs := xs) d a0 a1 a2 s (fun t => (some (some (.int t), mT s) : Option mm_R) = some (some (.int (f_G_within a0 a1 a2 s)), mT s)) (fun _ h => h) h rfl
def f_G_coal (a1 : Int32) (a2 : Int32) (a3 : Int32) (a4 : Int32) (s : mS) : Int32 × mS := (mq_let (f_Works_isCoal a1 s) (fun (x10 : Int32) => (if x10 = 0 then (0, s) else (mq_let (f_G_within a2 (10 : Int32) (200 : Int32) s) (fun (x11 : Int32) => (if x11 = 0 then (0, s) else (mq_let (f_G_within a3 (0 : Int32) (80 : Int32) s) (fun (x12 : Int32) => (if x12 = 0 then (0, s) else (mq_let (f_G_within a4 (0 : Int32) (20 : Int32) s) (fun (x13 : Int32) => (if x13 = 0 then (0, s) else (1, sI (sI (sI s 4 (ix a1) a2) 5 (ix a1) a3) 6 (ix a1) a4)))))))))))))
def ok_G_coal (a1 : Int32) (a2 : Int32) (a3 : Int32) (a4 : Int32) (s : mS) : Prop := (True ∧ mq_letP (f_Works_isCoal a1 s) (fun (x10 : Int32) => (if x10 = 0 then True else (True ∧ mq_letP (f_G_within a2 (10 : Int32) (200 : Int32) s) (fun (x11 : Int32) => (if x11 = 0 then True else (True ∧ mq_letP (f_G_within a3 (0 : Int32) (80 : Int32) s) (fun (x12 : Int32) => (if x12 = 0 then True else (True ∧ mq_letP (f_G_within a4 (0 : Int32) (20 : Int32) s) (fun (x13 : Int32) => (if x13 = 0 then True else (mm_inb a1 3 = true ∧ (mm_inb a1 3 = true ∧ (mm_inb a1 3 = true ∧ True)))))))))))))))
set_option maxRecDepth 4000 in
theorem t_G_coal {len : Nat} {xs : Nat → Int32}  (d : Nat) (a1 : Int32) (a2 : Int32) (a3 : Int32) (a4 : Int32) (s : mS) {T : Option mm_R} (K : Int32 × mS → Prop) (hK : ∀ t, K t → some (some (.int t.1), mT t.2) = T) : ok_G_coal a1 a2 a3 a4 s → K (f_G_coal a1 a2 a3 a4 s) → mm_fix (mm_X len xs) mm_Y (mm_call (mm_X len xs) mm_Y (d + 1)) (mm_look mc_G_coal) (0, [some (.ref 0), some (.int a1), some (.int a2), some (.int a3), some (.int a4)], [], mT s) = T := by
  unfold ok_G_coal f_G_coal
  refine w_go K 3 (c' := (5, [some (.ref 0), some (.int a1), some (.int a2), some (.int a3), some (.int a4)], [.int a1, .ref 3], mT s)) rfl ?_
  refine w_callL K (E := f_Works_isCoal a1 s) (g := fun (x10 : Int32) => (some (.int x10), mT s)) rfl (m_Works_isCoal (len := len) (xs := xs) (d + 0) a1 s) (fun x10 => ?_)
  refine w_go K 0 (c' := (8, [some (.ref 0), some (.int a1), some (.int a2), some (.int a3), some (.int a4)], [.int x10], mT s)) rfl ?_
  refine w_zeq K rfl (fun _ => ?_) (fun _ => ?_)
  · refine w_go K 1 (c' := (45, [some (.ref 0), some (.int a1), some (.int a2), some (.int a3), some (.int a4)], [.int 0], mT s)) rfl ?_
    exact w_ret K rfl (hK _)
  · refine w_go K 3 (c' := (17, [some (.ref 0), some (.int a1), some (.int a2), some (.int a3), some (.int a4)], [.int 200, .int 10, .int a2], mT s)) rfl ?_
    refine w_callL K (E := f_G_within a2 (10 : Int32) (200 : Int32) s) (g := fun (x11 : Int32) => (some (.int x11), mT s)) rfl (m_G_within (len := len) (xs := xs) (d + 0) a2 (10 : Int32) (200 : Int32) s) (fun x11 => ?_)
    refine w_go K 0 (c' := (20, [some (.ref 0), some (.int a1), some (.int a2), some (.int a3), some (.int a4)], [.int x11], mT s)) rfl ?_
    refine w_zeq K rfl (fun _ => ?_) (fun _ => ?_)
    · refine w_go K 1 (c' := (45, [some (.ref 0), some (.int a1), some (.int a2), some (.int a3), some (.int a4)], [.int 0], mT s)) rfl ?_
      exact w_ret K rfl (hK _)
    · refine w_go K 3 (c' := (27, [some (.ref 0), some (.int a1), some (.int a2), some (.int a3), some (.int a4)], [.int 80, .int 0, .int a3], mT s)) rfl ?_
      refine w_callL K (E := f_G_within a3 (0 : Int32) (80 : Int32) s) (g := fun (x12 : Int32) => (some (.int x12), mT s)) rfl (m_G_within (len := len) (xs := xs) (d + 0) a3 (0 : Int32) (80 : Int32) s) (fun x12 => ?_)
      refine w_go K 0 (c' := (30, [some (.ref 0), some (.int a1), some (.int a2), some (.int a3), some (.int a4)], [.int x12], mT s)) rfl ?_
      refine w_zeq K rfl (fun _ => ?_) (fun _ => ?_)
      · refine w_go K 1 (c' := (45, [some (.ref 0), some (.int a1), some (.int a2), some (.int a3), some (.int a4)], [.int 0], mT s)) rfl ?_
        exact w_ret K rfl (hK _)
      · refine w_go K 3 (c' := (38, [some (.ref 0), some (.int a1), some (.int a2), some (.int a3), some (.int a4)], [.int 20, .int 0, .int a4], mT s)) rfl ?_
        refine w_callL K (E := f_G_within a4 (0 : Int32) (20 : Int32) s) (g := fun (x13 : Int32) => (some (.int x13), mT s)) rfl (m_G_within (len := len) (xs := xs) (d + 0) a4 (0 : Int32) (20 : Int32) s) (fun x13 => ?_)
        refine w_go K 0 (c' := (41, [some (.ref 0), some (.int a1), some (.int a2), some (.int a3), some (.int a4)], [.int x13], mT s)) rfl ?_
        refine w_zne K rfl (fun _ => ?_) (fun _ => ?_)
        · refine w_go K 1 (c' := (45, [some (.ref 0), some (.int a1), some (.int a2), some (.int a3), some (.int a4)], [.int 0], mT s)) rfl ?_
          exact w_ret K rfl (hK _)
        · refine w_go K 5 (c' := (55, [some (.ref 0), some (.int a1), some (.int a2), some (.int a3), some (.int a4)], [.int a2, .int a1, .ref 4], mT s)) rfl ?_
          refine w_ck K (st_iS rfl rfl) ?_
          refine w_go K 5 (c' := (65, [some (.ref 0), some (.int a1), some (.int a2), some (.int a3), some (.int a4)], [.int a3, .int a1, .ref 5], mT (sI s 4 (ix a1) a2))) rfl ?_
          refine w_ck K (st_iS rfl rfl) ?_
          refine w_go K 5 (c' := (76, [some (.ref 0), some (.int a1), some (.int a2), some (.int a3), some (.int a4)], [.int a4, .int a1, .ref 6], mT (sI (sI s 4 (ix a1) a2) 5 (ix a1) a3))) rfl ?_
          refine w_ck K (st_iS rfl rfl) ?_
          refine w_go K 1 (c' := (78, [some (.ref 0), some (.int a1), some (.int a2), some (.int a3), some (.int a4)], [.int 1], mT (sI (sI (sI s 4 (ix a1) a2) 5 (ix a1) a3) 6 (ix a1) a4))) rfl ?_
          exact w_ret K rfl (hK _)
theorem m_G_coal {len : Nat} {xs : Nat → Int32}  (d : Nat) (a1 : Int32) (a2 : Int32) (a3 : Int32) (a4 : Int32) (s : mS) : ok_G_coal a1 a2 a3 a4 s → mm_call (mm_X len xs) mm_Y (d + 2) 12 [.ref 0, .int a1, .int a2, .int a3, .int a4] (mT s) = some (some (.int (f_G_coal a1 a2 a3 a4 s).1), mT (f_G_coal a1 a2 a3 a4 s).2) := fun h => t_G_coal (len := len) (xs := xs) d a1 a2 a3 a4 s (fun t => (some (some (.int t.1), mT t.2) : Option mm_R) = some (some (.int (f_G_coal a1 a2 a3 a4 s).1), mT (f_G_coal a1 a2 a3 a4 s).2)) (fun _ h => h) h rfl
def f_M_isIn (a0 : Int32) (a1 : Int32) (a2 : Int32) (s : mS) : Int32 := (if a0 < a1 then 0 else (if a2 < a0 then 0 else 1))
set_option maxRecDepth 4000 in
theorem t_M_isIn {len : Nat} {xs : Nat → Int32}  (d : Nat) (a0 : Int32) (a1 : Int32) (a2 : Int32) (s : mS) {T : Option mm_R} (K : Int32 → Prop) (hK : ∀ t, K t → some (some (.int t), mT s) = T) : True → K (f_M_isIn a0 a1 a2 s) → mm_fix (mm_X len xs) mm_Y (mm_call (mm_X len xs) mm_Y (d + 0)) (mm_look mc_M_isIn) (0, [some (.int a0), some (.int a1), some (.int a2)], [], mT s) = T := by
  unfold f_M_isIn
  refine w_go K 2 (c' := (2, [some (.int a0), some (.int a1), some (.int a2)], [.int a1, .int a0], mT s)) rfl ?_
  refine w_iltT K rfl (fun _ => ?_) (fun _ => ?_)
  · refine w_go K 1 (c' := (15, [some (.int a0), some (.int a1), some (.int a2)], [.int 0], mT s)) rfl ?_
    exact w_ret K rfl (hK _)
  · refine w_go K 2 (c' := (7, [some (.int a0), some (.int a1), some (.int a2)], [.int a2, .int a0], mT s)) rfl ?_
    refine w_igtT K rfl (fun _ => ?_) (fun _ => ?_)
    · refine w_go K 1 (c' := (15, [some (.int a0), some (.int a1), some (.int a2)], [.int 0], mT s)) rfl ?_
      exact w_ret K rfl (hK _)
    · refine w_go K 2 (c' := (15, [some (.int a0), some (.int a1), some (.int a2)], [.int 1], mT s)) rfl ?_
      exact w_ret K rfl (hK _)
theorem m_M_isIn {len : Nat} {xs : Nat → Int32}  (d : Nat) (a0 : Int32) (a1 : Int32) (a2 : Int32) (s : mS) : True → mm_call (mm_X len xs) mm_Y (d + 1) 160 [.int a0, .int a1, .int a2] (mT s) = some (some (.int (f_M_isIn a0 a1 a2 s)), mT s) := fun h => t_M_isIn (len := len) (xs := xs) d a0 a1 a2 s (fun t => (some (some (.int t), mT s) : Option mm_R) = some (some (.int (f_M_isIn a0 a1 a2 s)), mT s)) (fun _ h => h) h rfl
def f_M_isCoal (a0 : Int32) (s : mS) : Int32 := (mq_let (f_M_isIn a0 (0 : Int32) (2 : Int32) s) (fun (x10 : Int32) => x10))
def ok_M_isCoal (a0 : Int32) (s : mS) : Prop := (True ∧ mq_letP (f_M_isIn a0 (0 : Int32) (2 : Int32) s) (fun (x10 : Int32) => mm_bit x10 = true))
set_option maxRecDepth 4000 in
theorem t_M_isCoal {len : Nat} {xs : Nat → Int32}  (d : Nat) (a0 : Int32) (s : mS) {T : Option mm_R} (K : Int32 → Prop) (hK : ∀ t, K t → some (some (.int t), mT s) = T) : ok_M_isCoal a0 s → K (f_M_isCoal a0 s) → mm_fix (mm_X len xs) mm_Y (mm_call (mm_X len xs) mm_Y (d + 1)) (mm_look mc_M_isCoal) (0, [some (.int a0)], [], mT s) = T := by
  unfold ok_M_isCoal f_M_isCoal
  refine w_go K 3 (c' := (3, [some (.int a0)], [.int 2, .int 0, .int a0], mT s)) rfl ?_
  refine w_callL K (E := f_M_isIn a0 (0 : Int32) (2 : Int32) s) (g := fun (x10 : Int32) => (some (.int x10), mT s)) rfl (m_M_isIn (len := len) (xs := xs) (d + 0) a0 (0 : Int32) (2 : Int32) s) (fun x10 => ?_)
  refine w_go K 0 (c' := (6, [some (.int a0)], [.int x10], mT s)) rfl ?_
  exact w_retb K rfl (hK _)
theorem m_M_isCoal {len : Nat} {xs : Nat → Int32}  (d : Nat) (a0 : Int32) (s : mS) : ok_M_isCoal a0 s → mm_call (mm_X len xs) mm_Y (d + 2) 159 [.int a0] (mT s) = some (some (.int (f_M_isCoal a0 s)), mT s) := fun h => t_M_isCoal (len := len) (xs := xs) d a0 s (fun t => (some (some (.int t), mT s) : Option mm_R) = some (some (.int (f_M_isCoal a0 s)), mT s)) (fun _ h => h) h rfl
def f_M_coal (a1 : Int32) (a2 : Int32) (a3 : Int32) (a4 : Int32) (s : mS) : Int32 × mS := (mq_let (f_M_isCoal a1 s) (fun (x10 : Int32) => (if x10 = 0 then (0, s) else (mq_let (f_M_isIn a2 (10 : Int32) (200 : Int32) s) (fun (x11 : Int32) => (if x11 = 0 then (0, s) else (mq_let (f_M_isIn a3 (0 : Int32) (80 : Int32) s) (fun (x12 : Int32) => (if x12 = 0 then (0, s) else (mq_let (f_M_isIn a4 (0 : Int32) (20 : Int32) s) (fun (x13 : Int32) => (if x13 = 0 then (0, s) else (1, sI (sI (sI s 118 (ix a1) a2) 119 (ix a1) a3) 120 (ix a1) a4)))))))))))))
def ok_M_coal (a1 : Int32) (a2 : Int32) (a3 : Int32) (a4 : Int32) (s : mS) : Prop := (ok_M_isCoal a1 s ∧ mq_letP (f_M_isCoal a1 s) (fun (x10 : Int32) => (if x10 = 0 then True else (True ∧ mq_letP (f_M_isIn a2 (10 : Int32) (200 : Int32) s) (fun (x11 : Int32) => (if x11 = 0 then True else (True ∧ mq_letP (f_M_isIn a3 (0 : Int32) (80 : Int32) s) (fun (x12 : Int32) => (if x12 = 0 then True else (True ∧ mq_letP (f_M_isIn a4 (0 : Int32) (20 : Int32) s) (fun (x13 : Int32) => (if x13 = 0 then True else (mm_inb a1 3 = true ∧ (mm_inb a1 3 = true ∧ (mm_inb a1 3 = true ∧ True)))))))))))))))
set_option maxRecDepth 4000 in
theorem t_M_coal {len : Nat} {xs : Nat → Int32}  (d : Nat) (a1 : Int32) (a2 : Int32) (a3 : Int32) (a4 : Int32) (s : mS) {T : Option mm_R} (K : Int32 × mS → Prop) (hK : ∀ t, K t → some (some (.int t.1), mT t.2) = T) : ok_M_coal a1 a2 a3 a4 s → K (f_M_coal a1 a2 a3 a4 s) → mm_fix (mm_X len xs) mm_Y (mm_call (mm_X len xs) mm_Y (d + 2)) (mm_look mc_M_coal) (0, [some (.ref 116), some (.int a1), some (.int a2), some (.int a3), some (.int a4)], [], mT s) = T := by
  unfold ok_M_coal f_M_coal
  refine w_go K 1 (c' := (1, [some (.ref 116), some (.int a1), some (.int a2), some (.int a3), some (.int a4)], [.int a1], mT s)) rfl ?_
  refine w_callL K (E := f_M_isCoal a1 s) (g := fun (x10 : Int32) => (some (.int x10), mT s)) rfl (m_M_isCoal (len := len) (xs := xs) (d + 0) a1 s) (fun x10 => ?_)
  refine w_go K 0 (c' := (4, [some (.ref 116), some (.int a1), some (.int a2), some (.int a3), some (.int a4)], [.int x10], mT s)) rfl ?_
  refine w_zeq K rfl (fun _ => ?_) (fun _ => ?_)
  · refine w_go K 1 (c' := (41, [some (.ref 116), some (.int a1), some (.int a2), some (.int a3), some (.int a4)], [.int 0], mT s)) rfl ?_
    exact w_ret K rfl (hK _)
  · refine w_go K 3 (c' := (13, [some (.ref 116), some (.int a1), some (.int a2), some (.int a3), some (.int a4)], [.int 200, .int 10, .int a2], mT s)) rfl ?_
    refine w_callL K (E := f_M_isIn a2 (10 : Int32) (200 : Int32) s) (g := fun (x11 : Int32) => (some (.int x11), mT s)) rfl (m_M_isIn (len := len) (xs := xs) (d + 1) a2 (10 : Int32) (200 : Int32) s) (fun x11 => ?_)
    refine w_go K 0 (c' := (16, [some (.ref 116), some (.int a1), some (.int a2), some (.int a3), some (.int a4)], [.int x11], mT s)) rfl ?_
    refine w_zeq K rfl (fun _ => ?_) (fun _ => ?_)
    · refine w_go K 1 (c' := (41, [some (.ref 116), some (.int a1), some (.int a2), some (.int a3), some (.int a4)], [.int 0], mT s)) rfl ?_
      exact w_ret K rfl (hK _)
    · refine w_go K 3 (c' := (23, [some (.ref 116), some (.int a1), some (.int a2), some (.int a3), some (.int a4)], [.int 80, .int 0, .int a3], mT s)) rfl ?_
      refine w_callL K (E := f_M_isIn a3 (0 : Int32) (80 : Int32) s) (g := fun (x12 : Int32) => (some (.int x12), mT s)) rfl (m_M_isIn (len := len) (xs := xs) (d + 1) a3 (0 : Int32) (80 : Int32) s) (fun x12 => ?_)
      refine w_go K 0 (c' := (26, [some (.ref 116), some (.int a1), some (.int a2), some (.int a3), some (.int a4)], [.int x12], mT s)) rfl ?_
      refine w_zeq K rfl (fun _ => ?_) (fun _ => ?_)
      · refine w_go K 1 (c' := (41, [some (.ref 116), some (.int a1), some (.int a2), some (.int a3), some (.int a4)], [.int 0], mT s)) rfl ?_
        exact w_ret K rfl (hK _)
      · refine w_go K 3 (c' := (34, [some (.ref 116), some (.int a1), some (.int a2), some (.int a3), some (.int a4)], [.int 20, .int 0, .int a4], mT s)) rfl ?_
        refine w_callL K (E := f_M_isIn a4 (0 : Int32) (20 : Int32) s) (g := fun (x13 : Int32) => (some (.int x13), mT s)) rfl (m_M_isIn (len := len) (xs := xs) (d + 1) a4 (0 : Int32) (20 : Int32) s) (fun x13 => ?_)
        refine w_go K 0 (c' := (37, [some (.ref 116), some (.int a1), some (.int a2), some (.int a3), some (.int a4)], [.int x13], mT s)) rfl ?_
        refine w_zne K rfl (fun _ => ?_) (fun _ => ?_)
        · refine w_go K 1 (c' := (41, [some (.ref 116), some (.int a1), some (.int a2), some (.int a3), some (.int a4)], [.int 0], mT s)) rfl ?_
          exact w_ret K rfl (hK _)
        · refine w_go K 4 (c' := (48, [some (.ref 116), some (.int a1), some (.int a2), some (.int a3), some (.int a4)], [.int a2, .int a1, .ref 118], mT s)) rfl ?_
          refine w_ck K (st_iS rfl rfl) ?_
          refine w_go K 4 (c' := (55, [some (.ref 116), some (.int a1), some (.int a2), some (.int a3), some (.int a4)], [.int a3, .int a1, .ref 119], mT (sI s 118 (ix a1) a2))) rfl ?_
          refine w_ck K (st_iS rfl rfl) ?_
          refine w_go K 4 (c' := (63, [some (.ref 116), some (.int a1), some (.int a2), some (.int a3), some (.int a4)], [.int a4, .int a1, .ref 120], mT (sI (sI s 118 (ix a1) a2) 119 (ix a1) a3))) rfl ?_
          refine w_ck K (st_iS rfl rfl) ?_
          refine w_go K 1 (c' := (65, [some (.ref 116), some (.int a1), some (.int a2), some (.int a3), some (.int a4)], [.int 1], mT (sI (sI (sI s 118 (ix a1) a2) 119 (ix a1) a3) 120 (ix a1) a4))) rfl ?_
          exact w_ret K rfl (hK _)
theorem m_M_coal {len : Nat} {xs : Nat → Int32}  (d : Nat) (a1 : Int32) (a2 : Int32) (a3 : Int32) (a4 : Int32) (s : mS) : ok_M_coal a1 a2 a3 a4 s → mm_call (mm_X len xs) mm_Y (d + 3) 158 [.ref 116, .int a1, .int a2, .int a3, .int a4] (mT s) = some (some (.int (f_M_coal a1 a2 a3 a4 s).1), mT (f_M_coal a1 a2 a3 a4 s).2) := fun h => t_M_coal (len := len) (xs := xs) d a1 a2 a3 a4 s (fun t => (some (some (.int t.1), mT t.2) : Option mm_R) = some (some (.int (f_M_coal a1 a2 a3 a4 s).1), mT (f_M_coal a1 a2 a3 a4 s).2)) (fun _ h => h) h rfl
def f_G_buy (a1 : Int32) (a2 : Int32) (a3 : Int32) (s : mS) : Int32 × mS := (mq_let (f_Works_isCoal a1 s) (fun (x10 : Int32) => (if x10 = 0 then ((-1), s) else (mq_let (f_G_within a2 (1 : Int32) (9999 : Int32) s) (fun (x11 : Int32) => (if x11 = 0 then ((-1), s) else (mq_let (f_G_within a3 (0 : Int32) (999 : Int32) s) (fun (x12 : Int32) => (if x12 = 0 then ((-1), s) else (if ((gI s 7 (ix a1)) + a2) ≤ 9999 then ((gI (sI s 7 (ix a1) ((gI s 7 (ix a1)) + a2)) 7 (ix a1)), sL (sI s 7 (ix a1) ((gI s 7 (ix a1)) + a2)) 82 13 ((gL s 82 13) + ((Int32.toInt64 a2) * (Int32.toInt64 a3)))) else ((-1), s)))))))))))
def ok_G_buy (a1 : Int32) (a2 : Int32) (a3 : Int32) (s : mS) : Prop := (True ∧ mq_letP (f_Works_isCoal a1 s) (fun (x10 : Int32) => (if x10 = 0 then True else (True ∧ mq_letP (f_G_within a2 (1 : Int32) (9999 : Int32) s) (fun (x11 : Int32) => (if x11 = 0 then True else (True ∧ mq_letP (f_G_within a3 (0 : Int32) (999 : Int32) s) (fun (x12 : Int32) => (if x12 = 0 then True else (mm_inb a1 3 = true ∧ (if ((gI s 7 (ix a1)) + a2) ≤ 9999 then (mm_inb a1 3 = true ∧ (mm_inb a1 3 = true ∧ (mm_inb a1 3 = true ∧ True))) else True)))))))))))
set_option maxRecDepth 4000 in
theorem t_G_buy {len : Nat} {xs : Nat → Int32}  (d : Nat) (a1 : Int32) (a2 : Int32) (a3 : Int32) (s : mS) {T : Option mm_R} (K : Int32 × mS → Prop) (hK : ∀ t, K t → some (some (.int t.1), mT t.2) = T) : ok_G_buy a1 a2 a3 s → K (f_G_buy a1 a2 a3 s) → mm_fix (mm_X len xs) mm_Y (mm_call (mm_X len xs) mm_Y (d + 1)) (mm_look mc_G_buy) (0, [some (.ref 0), some (.int a1), some (.int a2), some (.int a3)], [], mT s) = T := by
  unfold ok_G_buy f_G_buy
  refine w_go K 3 (c' := (5, [some (.ref 0), some (.int a1), some (.int a2), some (.int a3)], [.int a1, .ref 3], mT s)) rfl ?_
  refine w_callL K (E := f_Works_isCoal a1 s) (g := fun (x10 : Int32) => (some (.int x10), mT s)) rfl (m_Works_isCoal (len := len) (xs := xs) (d + 0) a1 s) (fun x10 => ?_)
  refine w_go K 0 (c' := (8, [some (.ref 0), some (.int a1), some (.int a2), some (.int a3)], [.int x10], mT s)) rfl ?_
  refine w_zeq K rfl (fun _ => ?_) (fun _ => ?_)
  · refine w_go K 1 (c' := (51, [some (.ref 0), some (.int a1), some (.int a2), some (.int a3)], [.int (-1)], mT s)) rfl ?_
    exact w_ret K rfl (hK _)
  · refine w_go K 3 (c' := (16, [some (.ref 0), some (.int a1), some (.int a2), some (.int a3)], [.int 9999, .int 1, .int a2], mT s)) rfl ?_
    refine w_callL K (E := f_G_within a2 (1 : Int32) (9999 : Int32) s) (g := fun (x11 : Int32) => (some (.int x11), mT s)) rfl (m_G_within (len := len) (xs := xs) (d + 0) a2 (1 : Int32) (9999 : Int32) s) (fun x11 => ?_)
    refine w_go K 0 (c' := (19, [some (.ref 0), some (.int a1), some (.int a2), some (.int a3)], [.int x11], mT s)) rfl ?_
    refine w_zeq K rfl (fun _ => ?_) (fun _ => ?_)
    · refine w_go K 1 (c' := (51, [some (.ref 0), some (.int a1), some (.int a2), some (.int a3)], [.int (-1)], mT s)) rfl ?_
      exact w_ret K rfl (hK _)
    · refine w_go K 3 (c' := (27, [some (.ref 0), some (.int a1), some (.int a2), some (.int a3)], [.int 999, .int 0, .int a3], mT s)) rfl ?_
      refine w_callL K (E := f_G_within a3 (0 : Int32) (999 : Int32) s) (g := fun (x12 : Int32) => (some (.int x12), mT s)) rfl (m_G_within (len := len) (xs := xs) (d + 0) a3 (0 : Int32) (999 : Int32) s) (fun x12 => ?_)
      refine w_go K 0 (c' := (30, [some (.ref 0), some (.int a1), some (.int a2), some (.int a3)], [.int x12], mT s)) rfl ?_
      refine w_zeq K rfl (fun _ => ?_) (fun _ => ?_)
      · refine w_go K 1 (c' := (51, [some (.ref 0), some (.int a1), some (.int a2), some (.int a3)], [.int (-1)], mT s)) rfl ?_
        exact w_ret K rfl (hK _)
      · refine w_go K 4 (c' := (41, [some (.ref 0), some (.int a1), some (.int a2), some (.int a3)], [.int a1, .ref 7], mT s)) rfl ?_
        refine w_ck K (st_iL rfl rfl) ?_
        refine w_go K 3 (c' := (47, [some (.ref 0), some (.int a1), some (.int a2), some (.int a3)], [.int 9999, .int ((gI s 7 (ix a1)) + a2)], mT s)) rfl ?_
        refine w_ile K rfl (fun _ => ?_) (fun _ => ?_)
        · refine w_go K 5 (c' := (61, [some (.ref 0), some (.int a1), some (.int a2), some (.int a3)], [.int a1, .ref 7, .int a1, .ref 7], mT s)) rfl ?_
          refine w_ck K (st_iL rfl rfl) ?_
          refine w_go K 2 (c' := (64, [some (.ref 0), some (.int a1), some (.int a2), some (.int a3)], [.int ((gI s 7 (ix a1)) + a2), .int a1, .ref 7], mT s)) rfl ?_
          refine w_ck K (st_iS rfl rfl) ?_
          refine w_go K 15 (c' := (90, [some (.ref 0), some (.int a1), some (.int a2), some (.int a3)], [.int a1, .ref 7], mT (sL (sI s 7 (ix a1) ((gI s 7 (ix a1)) + a2)) 82 13 ((gL s 82 13) + ((Int32.toInt64 a2) * (Int32.toInt64 a3)))))) rfl ?_
          refine w_ck K (st_iL rfl rfl) ?_
          refine w_go K 0 (c' := (91, [some (.ref 0), some (.int a1), some (.int a2), some (.int a3)], [.int (gI (sI s 7 (ix a1) ((gI s 7 (ix a1)) + a2)) 7 (ix a1))], mT (sL (sI s 7 (ix a1) ((gI s 7 (ix a1)) + a2)) 82 13 ((gL s 82 13) + ((Int32.toInt64 a2) * (Int32.toInt64 a3)))))) rfl ?_
          exact w_ret K rfl (hK _)
        · refine w_go K 1 (c' := (51, [some (.ref 0), some (.int a1), some (.int a2), some (.int a3)], [.int (-1)], mT s)) rfl ?_
          exact w_ret K rfl (hK _)
theorem m_G_buy {len : Nat} {xs : Nat → Int32}  (d : Nat) (a1 : Int32) (a2 : Int32) (a3 : Int32) (s : mS) : ok_G_buy a1 a2 a3 s → mm_call (mm_X len xs) mm_Y (d + 2) 15 [.ref 0, .int a1, .int a2, .int a3] (mT s) = some (some (.int (f_G_buy a1 a2 a3 s).1), mT (f_G_buy a1 a2 a3 s).2) := fun h => t_G_buy (len := len) (xs := xs) d a1 a2 a3 s (fun t => (some (some (.int t.1), mT t.2) : Option mm_R) = some (some (.int (f_G_buy a1 a2 a3 s).1), mT (f_G_buy a1 a2 a3 s).2)) (fun _ h => h) h rfl
def f_M_buy (a1 : Int32) (a2 : Int32) (a3 : Int32) (s : mS) : Int32 × mS := (mq_let (f_M_isCoal a1 s) (fun (x10 : Int32) => (if x10 = 0 then ((-1), s) else (mq_let (f_M_isIn a2 (1 : Int32) (9999 : Int32) s) (fun (x11 : Int32) => (if x11 = 0 then ((-1), s) else (mq_let (f_M_isIn a3 (0 : Int32) (999 : Int32) s) (fun (x12 : Int32) => (if x12 = 0 then ((-1), s) else (if ((gI s 121 (ix a1)) + a2) ≤ 9999 then ((gI (sI s 121 (ix a1) ((gI s 121 (ix a1)) + a2)) 121 (ix a1)), sL (sI s 121 (ix a1) ((gI s 121 (ix a1)) + a2)) 116 39 ((gL s 116 39) + ((Int32.toInt64 a2) * (Int32.toInt64 a3)))) else ((-1), s)))))))))))
def ok_M_buy (a1 : Int32) (a2 : Int32) (a3 : Int32) (s : mS) : Prop := (ok_M_isCoal a1 s ∧ mq_letP (f_M_isCoal a1 s) (fun (x10 : Int32) => (if x10 = 0 then True else (True ∧ mq_letP (f_M_isIn a2 (1 : Int32) (9999 : Int32) s) (fun (x11 : Int32) => (if x11 = 0 then True else (True ∧ mq_letP (f_M_isIn a3 (0 : Int32) (999 : Int32) s) (fun (x12 : Int32) => (if x12 = 0 then True else (mm_inb a1 3 = true ∧ (if ((gI s 121 (ix a1)) + a2) ≤ 9999 then (mm_inb a1 3 = true ∧ (mm_inb a1 3 = true ∧ (mm_inb a1 3 = true ∧ True))) else True)))))))))))
set_option maxRecDepth 4000 in
theorem t_M_buy {len : Nat} {xs : Nat → Int32}  (d : Nat) (a1 : Int32) (a2 : Int32) (a3 : Int32) (s : mS) {T : Option mm_R} (K : Int32 × mS → Prop) (hK : ∀ t, K t → some (some (.int t.1), mT t.2) = T) : ok_M_buy a1 a2 a3 s → K (f_M_buy a1 a2 a3 s) → mm_fix (mm_X len xs) mm_Y (mm_call (mm_X len xs) mm_Y (d + 2)) (mm_look mc_M_buy) (0, [some (.ref 116), some (.int a1), some (.int a2), some (.int a3)], [], mT s) = T := by
  unfold ok_M_buy f_M_buy
  refine w_go K 1 (c' := (1, [some (.ref 116), some (.int a1), some (.int a2), some (.int a3)], [.int a1], mT s)) rfl ?_
  refine w_callL K (E := f_M_isCoal a1 s) (g := fun (x10 : Int32) => (some (.int x10), mT s)) rfl (m_M_isCoal (len := len) (xs := xs) (d + 0) a1 s) (fun x10 => ?_)
  refine w_go K 0 (c' := (4, [some (.ref 116), some (.int a1), some (.int a2), some (.int a3)], [.int x10], mT s)) rfl ?_
  refine w_zeq K rfl (fun _ => ?_) (fun _ => ?_)
  · refine w_go K 1 (c' := (44, [some (.ref 116), some (.int a1), some (.int a2), some (.int a3)], [.int (-1)], mT s)) rfl ?_
    exact w_ret K rfl (hK _)
  · refine w_go K 3 (c' := (12, [some (.ref 116), some (.int a1), some (.int a2), some (.int a3)], [.int 9999, .int 1, .int a2], mT s)) rfl ?_
    refine w_callL K (E := f_M_isIn a2 (1 : Int32) (9999 : Int32) s) (g := fun (x11 : Int32) => (some (.int x11), mT s)) rfl (m_M_isIn (len := len) (xs := xs) (d + 1) a2 (1 : Int32) (9999 : Int32) s) (fun x11 => ?_)
    refine w_go K 0 (c' := (15, [some (.ref 116), some (.int a1), some (.int a2), some (.int a3)], [.int x11], mT s)) rfl ?_
    refine w_zeq K rfl (fun _ => ?_) (fun _ => ?_)
    · refine w_go K 1 (c' := (44, [some (.ref 116), some (.int a1), some (.int a2), some (.int a3)], [.int (-1)], mT s)) rfl ?_
      exact w_ret K rfl (hK _)
    · refine w_go K 3 (c' := (23, [some (.ref 116), some (.int a1), some (.int a2), some (.int a3)], [.int 999, .int 0, .int a3], mT s)) rfl ?_
      refine w_callL K (E := f_M_isIn a3 (0 : Int32) (999 : Int32) s) (g := fun (x12 : Int32) => (some (.int x12), mT s)) rfl (m_M_isIn (len := len) (xs := xs) (d + 1) a3 (0 : Int32) (999 : Int32) s) (fun x12 => ?_)
      refine w_go K 0 (c' := (26, [some (.ref 116), some (.int a1), some (.int a2), some (.int a3)], [.int x12], mT s)) rfl ?_
      refine w_zeq K rfl (fun _ => ?_) (fun _ => ?_)
      · refine w_go K 1 (c' := (44, [some (.ref 116), some (.int a1), some (.int a2), some (.int a3)], [.int (-1)], mT s)) rfl ?_
        exact w_ret K rfl (hK _)
      · refine w_go K 3 (c' := (34, [some (.ref 116), some (.int a1), some (.int a2), some (.int a3)], [.int a1, .ref 121], mT s)) rfl ?_
        refine w_ck K (st_iL rfl rfl) ?_
        refine w_go K 3 (c' := (40, [some (.ref 116), some (.int a1), some (.int a2), some (.int a3)], [.int 9999, .int ((gI s 121 (ix a1)) + a2)], mT s)) rfl ?_
        refine w_ile K rfl (fun _ => ?_) (fun _ => ?_)
        · refine w_go K 4 (c' := (51, [some (.ref 116), some (.int a1), some (.int a2), some (.int a3)], [.int a1, .ref 121, .int a1, .ref 121], mT s)) rfl ?_
          refine w_ck K (st_iL rfl rfl) ?_
          refine w_go K 2 (c' := (54, [some (.ref 116), some (.int a1), some (.int a2), some (.int a3)], [.int ((gI s 121 (ix a1)) + a2), .int a1, .ref 121], mT s)) rfl ?_
          refine w_ck K (st_iS rfl rfl) ?_
          refine w_go K 13 (c' := (74, [some (.ref 116), some (.int a1), some (.int a2), some (.int a3)], [.int a1, .ref 121], mT (sL (sI s 121 (ix a1) ((gI s 121 (ix a1)) + a2)) 116 39 ((gL s 116 39) + ((Int32.toInt64 a2) * (Int32.toInt64 a3)))))) rfl ?_
          refine w_ck K (st_iL rfl rfl) ?_
          refine w_go K 0 (c' := (75, [some (.ref 116), some (.int a1), some (.int a2), some (.int a3)], [.int (gI (sI s 121 (ix a1) ((gI s 121 (ix a1)) + a2)) 121 (ix a1))], mT (sL (sI s 121 (ix a1) ((gI s 121 (ix a1)) + a2)) 116 39 ((gL s 116 39) + ((Int32.toInt64 a2) * (Int32.toInt64 a3)))))) rfl ?_
          exact w_ret K rfl (hK _)
        · refine w_go K 1 (c' := (44, [some (.ref 116), some (.int a1), some (.int a2), some (.int a3)], [.int (-1)], mT s)) rfl ?_
          exact w_ret K rfl (hK _)
theorem m_M_buy {len : Nat} {xs : Nat → Int32}  (d : Nat) (a1 : Int32) (a2 : Int32) (a3 : Int32) (s : mS) : ok_M_buy a1 a2 a3 s → mm_call (mm_X len xs) mm_Y (d + 3) 161 [.ref 116, .int a1, .int a2, .int a3] (mT s) = some (some (.int (f_M_buy a1 a2 a3 s).1), mT (f_M_buy a1 a2 a3 s).2) := fun h => t_M_buy (len := len) (xs := xs) d a1 a2 a3 s (fun t => (some (some (.int t.1), mT t.2) : Option mm_R) = some (some (.int (f_M_buy a1 a2 a3 s).1), mT (f_M_buy a1 a2 a3 s).2)) (fun _ h => h) h rfl
def f_Works_build  (s : mS) : Int32 × mS := (if (6 : Int32) ≤ (gI s 3 8) then ((-1), s) else ((gI s 3 8), sI s 3 8 ((gI s 3 8) + 1)))
set_option maxRecDepth 4000 in
theorem t_Works_build {len : Nat} {xs : Nat → Int32}  (d : Nat)  (s : mS) {T : Option mm_R} (K : Int32 × mS → Prop) (hK : ∀ t, K t → some (some (.int t.1), mT t.2) = T) : True → K (f_Works_build s) → mm_fix (mm_X len xs) mm_Y (mm_call (mm_X len xs) mm_Y (d + 0)) (mm_look mc_Works_build) (0, [some (.ref 3)], [], mT s) = T := by
  unfold f_Works_build
  refine w_go K 3 (c' := (6, [some (.ref 3)], [.int 6, .int (gI s 3 8)], mT s)) rfl ?_
  refine w_igeT K rfl (fun _ => ?_) (fun _ => ?_)
  · refine w_go K 1 (c' := (24, [some (.ref 3)], [.int (-1)], mT s)) rfl ?_
    exact w_ret K rfl (hK _)
  · refine w_go K 8 (c' := (24, [some (.ref 3)], [.int (gI s 3 8)], mT (sI s 3 8 ((gI s 3 8) + 1)))) rfl ?_
    exact w_ret K rfl (hK _)
theorem m_Works_build {len : Nat} {xs : Nat → Int32}  (d : Nat)  (s : mS) : True → mm_call (mm_X len xs) mm_Y (d + 1) 17 [.ref 3] (mT s) = some (some (.int (f_Works_build s).1), mT (f_Works_build s).2) := fun h => t_Works_build (len := len) (xs := xs) d s (fun t => (some (some (.int t.1), mT t.2) : Option mm_R) = some (some (.int (f_Works_build s).1), mT (f_Works_build s).2)) (fun _ h => h) h rfl
def f_G_bench  (s : mS) : Int32 × mS := (mq_let (f_Works_build s) (fun (x10 : Int32 × mS) => (x10.1, x10.2)))
set_option maxRecDepth 4000 in
theorem t_G_bench {len : Nat} {xs : Nat → Int32}  (d : Nat)  (s : mS) {T : Option mm_R} (K : Int32 × mS → Prop) (hK : ∀ t, K t → some (some (.int t.1), mT t.2) = T) : True → K (f_G_bench s) → mm_fix (mm_X len xs) mm_Y (mm_call (mm_X len xs) mm_Y (d + 1)) (mm_look mc_G_bench) (0, [some (.ref 0)], [], mT s) = T := by
  unfold f_G_bench
  refine w_go K 2 (c' := (4, [some (.ref 0)], [.ref 3], mT s)) rfl ?_
  refine w_callLT K (E := f_Works_build s) (g := fun (x10 : Int32 × mS) => (some (.int x10.1), mT x10.2)) rfl (m_Works_build (len := len) (xs := xs) (d + 0) s) (fun x10 => ?_)
  refine w_go K 0 (c' := (7, [some (.ref 0)], [.int x10.1], mT x10.2)) rfl ?_
  exact w_ret K rfl (hK _)
theorem m_G_bench {len : Nat} {xs : Nat → Int32}  (d : Nat)  (s : mS) : True → mm_call (mm_X len xs) mm_Y (d + 2) 16 [.ref 0] (mT s) = some (some (.int (f_G_bench s).1), mT (f_G_bench s).2) := fun h => t_G_bench (len := len) (xs := xs) d s (fun t => (some (some (.int t.1), mT t.2) : Option mm_R) = some (some (.int (f_G_bench s).1), mT (f_G_bench s).2)) (fun _ h => h) h rfl
def f_M_bench  (s : mS) : Int32 × mS := (if (gI s 116 4) = 6 then ((-1), s) else ((((gI s 116 4) + 1) - 1), sI s 116 4 ((gI s 116 4) + 1)))
set_option maxRecDepth 4000 in
theorem t_M_bench {len : Nat} {xs : Nat → Int32}  (d : Nat)  (s : mS) {T : Option mm_R} (K : Int32 × mS → Prop) (hK : ∀ t, K t → some (some (.int t.1), mT t.2) = T) : True → K (f_M_bench s) → mm_fix (mm_X len xs) mm_Y (mm_call (mm_X len xs) mm_Y (d + 0)) (mm_look mc_M_bench) (0, [some (.ref 116)], [], mT s) = T := by
  unfold f_M_bench
  refine w_go K 3 (c' := (6, [some (.ref 116)], [.int 6, .int (gI s 116 4)], mT s)) rfl ?_
  refine w_ineT K rfl (fun _ => ?_) (fun _ => ?_)
  · refine w_go K 1 (c' := (10, [some (.ref 116)], [.int (-1)], mT s)) rfl ?_
    exact w_ret K rfl (hK _)
  · refine w_go K 10 (c' := (27, [some (.ref 116)], [.int (((gI s 116 4) + 1) - 1)], mT (sI s 116 4 ((gI s 116 4) + 1)))) rfl ?_
    exact w_ret K rfl (hK _)
theorem m_M_bench {len : Nat} {xs : Nat → Int32}  (d : Nat)  (s : mS) : True → mm_call (mm_X len xs) mm_Y (d + 1) 162 [.ref 116] (mT s) = some (some (.int (f_M_bench s).1), mT (f_M_bench s).2) := fun h => t_M_bench (len := len) (xs := xs) d s (fun t => (some (some (.int t.1), mT t.2) : Option mm_R) = some (some (.int (f_M_bench s).1), mT (f_M_bench s).2)) (fun _ h => h) h rfl
def f_Works_light (a1 : Int32) (a2 : Int32) (a3 : Int32) (s : mS) : Int32 × mS := (if a1 < 0 then ((-1), s) else (if (gI s 3 8) ≤ a1 then ((-1), s) else (if (6 : Int32) ≤ a1 then ((-1), s) else (mq_let (f_Works_isCoal a2 s) (fun (x10 : Int32) => (if x10 = 0 then ((-1), s) else (mq_let (f_G_within a3 (1 : Int32) (9 : Int32) s) (fun (x11 : Int32) => (if x11 = 0 then ((-1), s) else (if (0 : Int32) < (gI s 8 (ix a1)) then ((-1), s) else (if (gI s 7 (ix a2)) < a3 then ((-1), s) else (if (((gI s 3 10) + 1) * 3) ≤ (gI s 3 9) then ((gI (sI (sI (sI (sI s 7 (ix a2) ((gI s 7 (ix a2)) - a3)) 3 10 ((gI s 3 10) + 1)) 8 (ix a1) 16) 9 (ix a1) (a3 * (gI s 4 (ix a2)))) 9 (ix a1)), sI (sI (sI (sI (sI (sI s 7 (ix a2) ((gI s 7 (ix a2)) - a3)) 3 10 ((gI s 3 10) + 1)) 8 (ix a1) 16) 9 (ix a1) (a3 * (gI s 4 (ix a2)))) 10 (ix a1) (a3 * (gI s 5 (ix a2)))) 11 (ix a1) (a3 * (gI s 6 (ix a2)))) else ((-1), s)))))))))))))
def ok_Works_light (a1 : Int32) (a2 : Int32) (a3 : Int32) (s : mS) : Prop := (if a1 < 0 then True else (if (gI s 3 8) ≤ a1 then True else (if (6 : Int32) ≤ a1 then True else (True ∧ mq_letP (f_Works_isCoal a2 s) (fun (x10 : Int32) => (if x10 = 0 then True else (True ∧ mq_letP (f_G_within a3 (1 : Int32) (9 : Int32) s) (fun (x11 : Int32) => (if x11 = 0 then True else (mm_inb a1 6 = true ∧ (if (0 : Int32) < (gI s 8 (ix a1)) then True else (mm_inb a2 3 = true ∧ (if (gI s 7 (ix a2)) < a3 then True else (if (((gI s 3 10) + 1) * 3) ≤ (gI s 3 9) then (mm_inb a2 3 = true ∧ (mm_inb a2 3 = true ∧ (mm_inb a1 6 = true ∧ (mm_inb a2 3 = true ∧ (mm_inb a1 6 = true ∧ (mm_inb a2 3 = true ∧ (mm_inb a1 6 = true ∧ (mm_inb a2 3 = true ∧ (mm_inb a1 6 = true ∧ (mm_inb a1 6 = true ∧ True)))))))))) else True))))))))))))))
set_option maxRecDepth 4000 in
theorem t_Works_light {len : Nat} {xs : Nat → Int32}  (d : Nat) (a1 : Int32) (a2 : Int32) (a3 : Int32) (s : mS) {T : Option mm_R} (K : Int32 × mS → Prop) (hK : ∀ t, K t → some (some (.int t.1), mT t.2) = T) : ok_Works_light a1 a2 a3 s → K (f_Works_light a1 a2 a3 s) → mm_fix (mm_X len xs) mm_Y (mm_call (mm_X len xs) mm_Y (d + 1)) (mm_look mc_Works_light) (0, [some (.ref 3), some (.int a1), some (.int a2), some (.int a3)], [], mT s) = T := by
  unfold ok_Works_light f_Works_light
  refine w_go K 1 (c' := (1, [some (.ref 3), some (.int a1), some (.int a2), some (.int a3)], [.int a1], mT s)) rfl ?_
  refine w_zlt K rfl (fun _ => ?_) (fun _ => ?_)
  · refine w_go K 1 (c' := (37, [some (.ref 3), some (.int a1), some (.int a2), some (.int a3)], [.int (-1)], mT s)) rfl ?_
    exact w_ret K rfl (hK _)
  · refine w_go K 3 (c' := (9, [some (.ref 3), some (.int a1), some (.int a2), some (.int a3)], [.int (gI s 3 8), .int a1], mT s)) rfl ?_
    refine w_ige K rfl (fun _ => ?_) (fun _ => ?_)
    · refine w_go K 1 (c' := (37, [some (.ref 3), some (.int a1), some (.int a2), some (.int a3)], [.int (-1)], mT s)) rfl ?_
      exact w_ret K rfl (hK _)
    · refine w_go K 2 (c' := (15, [some (.ref 3), some (.int a1), some (.int a2), some (.int a3)], [.int 6, .int a1], mT s)) rfl ?_
      refine w_ige K rfl (fun _ => ?_) (fun _ => ?_)
      · refine w_go K 1 (c' := (37, [some (.ref 3), some (.int a1), some (.int a2), some (.int a3)], [.int (-1)], mT s)) rfl ?_
        exact w_ret K rfl (hK _)
      · refine w_go K 2 (c' := (20, [some (.ref 3), some (.int a1), some (.int a2), some (.int a3)], [.int a2, .ref 3], mT s)) rfl ?_
        refine w_callL K (E := f_Works_isCoal a2 s) (g := fun (x10 : Int32) => (some (.int x10), mT s)) rfl (m_Works_isCoal (len := len) (xs := xs) (d + 0) a2 s) (fun x10 => ?_)
        refine w_go K 0 (c' := (23, [some (.ref 3), some (.int a1), some (.int a2), some (.int a3)], [.int x10], mT s)) rfl ?_
        refine w_zeq K rfl (fun _ => ?_) (fun _ => ?_)
        · refine w_go K 1 (c' := (37, [some (.ref 3), some (.int a1), some (.int a2), some (.int a3)], [.int (-1)], mT s)) rfl ?_
          exact w_ret K rfl (hK _)
        · refine w_go K 3 (c' := (30, [some (.ref 3), some (.int a1), some (.int a2), some (.int a3)], [.int 9, .int 1, .int a3], mT s)) rfl ?_
          refine w_callL K (E := f_G_within a3 (1 : Int32) (9 : Int32) s) (g := fun (x11 : Int32) => (some (.int x11), mT s)) rfl (m_G_within (len := len) (xs := xs) (d + 0) a3 (1 : Int32) (9 : Int32) s) (fun x11 => ?_)
          refine w_go K 0 (c' := (33, [some (.ref 3), some (.int a1), some (.int a2), some (.int a3)], [.int x11], mT s)) rfl ?_
          refine w_zne K rfl (fun _ => ?_) (fun _ => ?_)
          · refine w_go K 1 (c' := (37, [some (.ref 3), some (.int a1), some (.int a2), some (.int a3)], [.int (-1)], mT s)) rfl ?_
            exact w_ret K rfl (hK _)
          · refine w_go K 3 (c' := (43, [some (.ref 3), some (.int a1), some (.int a2), some (.int a3)], [.int a1, .ref 8], mT s)) rfl ?_
            refine w_ck K (st_iL rfl rfl) ?_
            refine w_go K 0 (c' := (44, [some (.ref 3), some (.int a1), some (.int a2), some (.int a3)], [.int (gI s 8 (ix a1))], mT s)) rfl ?_
            refine w_zgt K rfl (fun _ => ?_) (fun _ => ?_)
            · refine w_go K 1 (c' := (73, [some (.ref 3), some (.int a1), some (.int a2), some (.int a3)], [.int (-1)], mT s)) rfl ?_
              exact w_ret K rfl (hK _)
            · refine w_go K 3 (c' := (52, [some (.ref 3), some (.int a1), some (.int a2), some (.int a3)], [.int a2, .ref 7], mT s)) rfl ?_
              refine w_ck K (st_iL rfl rfl) ?_
              refine w_go K 1 (c' := (54, [some (.ref 3), some (.int a1), some (.int a2), some (.int a3)], [.int a3, .int (gI s 7 (ix a2))], mT s)) rfl ?_
              refine w_ilt K rfl (fun _ => ?_) (fun _ => ?_)
              · refine w_go K 1 (c' := (73, [some (.ref 3), some (.int a1), some (.int a2), some (.int a3)], [.int (-1)], mT s)) rfl ?_
                exact w_ret K rfl (hK _)
              · refine w_go K 8 (c' := (69, [some (.ref 3), some (.int a1), some (.int a2), some (.int a3)], [.int (gI s 3 9), .int (((gI s 3 10) + 1) * 3)], mT s)) rfl ?_
                refine w_ile K rfl (fun _ => ?_) (fun _ => ?_)
                · refine w_go K 4 (c' := (80, [some (.ref 3), some (.int a1), some (.int a2), some (.int a3)], [.int a2, .ref 7, .int a2, .ref 7], mT s)) rfl ?_
                  refine w_ck K (st_iL rfl rfl) ?_
                  refine w_go K 2 (c' := (83, [some (.ref 3), some (.int a1), some (.int a2), some (.int a3)], [.int ((gI s 7 (ix a2)) - a3), .int a2, .ref 7], mT s)) rfl ?_
                  refine w_ck K (st_iS rfl rfl) ?_
                  refine w_go K 10 (c' := (101, [some (.ref 3), some (.int a1), some (.int a2), some (.int a3)], [.int 16, .int a1, .ref 8], mT (sI (sI s 7 (ix a2) ((gI s 7 (ix a2)) - a3)) 3 10 ((gI s 3 10) + 1)))) rfl ?_
                  refine w_ck K (st_iS rfl rfl) ?_
                  refine w_go K 7 (c' := (113, [some (.ref 3), some (.int a1), some (.int a2), some (.int a3)], [.int a2, .ref 4, .int a3, .int a1, .ref 9], mT (sI (sI (sI s 7 (ix a2) ((gI s 7 (ix a2)) - a3)) 3 10 ((gI s 3 10) + 1)) 8 (ix a1) 16))) rfl ?_
                  refine w_ck K (st_iL rfl rfl) ?_
                  refine w_go K 1 (c' := (115, [some (.ref 3), some (.int a1), some (.int a2), some (.int a3)], [.int (a3 * (gI s 4 (ix a2))), .int a1, .ref 9], mT (sI (sI (sI s 7 (ix a2) ((gI s 7 (ix a2)) - a3)) 3 10 ((gI s 3 10) + 1)) 8 (ix a1) 16))) rfl ?_
                  refine w_ck K (st_iS rfl rfl) ?_
                  refine w_go K 7 (c' := (127, [some (.ref 3), some (.int a1), some (.int a2), some (.int a3)], [.int a2, .ref 5, .int a3, .int a1, .ref 10], mT (sI (sI (sI (sI s 7 (ix a2) ((gI s 7 (ix a2)) - a3)) 3 10 ((gI s 3 10) + 1)) 8 (ix a1) 16) 9 (ix a1) (a3 * (gI s 4 (ix a2)))))) rfl ?_
                  refine w_ck K (st_iL rfl rfl) ?_
                  refine w_go K 1 (c' := (129, [some (.ref 3), some (.int a1), some (.int a2), some (.int a3)], [.int (a3 * (gI s 5 (ix a2))), .int a1, .ref 10], mT (sI (sI (sI (sI s 7 (ix a2) ((gI s 7 (ix a2)) - a3)) 3 10 ((gI s 3 10) + 1)) 8 (ix a1) 16) 9 (ix a1) (a3 * (gI s 4 (ix a2)))))) rfl ?_
                  refine w_ck K (st_iS rfl rfl) ?_
                  refine w_go K 7 (c' := (141, [some (.ref 3), some (.int a1), some (.int a2), some (.int a3)], [.int a2, .ref 6, .int a3, .int a1, .ref 11], mT (sI (sI (sI (sI (sI s 7 (ix a2) ((gI s 7 (ix a2)) - a3)) 3 10 ((gI s 3 10) + 1)) 8 (ix a1) 16) 9 (ix a1) (a3 * (gI s 4 (ix a2)))) 10 (ix a1) (a3 * (gI s 5 (ix a2)))))) rfl ?_
                  refine w_ck K (st_iL rfl rfl) ?_
                  refine w_go K 1 (c' := (143, [some (.ref 3), some (.int a1), some (.int a2), some (.int a3)], [.int (a3 * (gI s 6 (ix a2))), .int a1, .ref 11], mT (sI (sI (sI (sI (sI s 7 (ix a2) ((gI s 7 (ix a2)) - a3)) 3 10 ((gI s 3 10) + 1)) 8 (ix a1) 16) 9 (ix a1) (a3 * (gI s 4 (ix a2)))) 10 (ix a1) (a3 * (gI s 5 (ix a2)))))) rfl ?_
                  refine w_ck K (st_iS rfl rfl) ?_
                  refine w_go K 3 (c' := (149, [some (.ref 3), some (.int a1), some (.int a2), some (.int a3)], [.int a1, .ref 9], mT (sI (sI (sI (sI (sI (sI s 7 (ix a2) ((gI s 7 (ix a2)) - a3)) 3 10 ((gI s 3 10) + 1)) 8 (ix a1) 16) 9 (ix a1) (a3 * (gI s 4 (ix a2)))) 10 (ix a1) (a3 * (gI s 5 (ix a2)))) 11 (ix a1) (a3 * (gI s 6 (ix a2)))))) rfl ?_
                  refine w_ck K (st_iL rfl rfl) ?_
                  refine w_go K 0 (c' := (150, [some (.ref 3), some (.int a1), some (.int a2), some (.int a3)], [.int (gI (sI (sI (sI (sI s 7 (ix a2) ((gI s 7 (ix a2)) - a3)) 3 10 ((gI s 3 10) + 1)) 8 (ix a1) 16) 9 (ix a1) (a3 * (gI s 4 (ix a2)))) 9 (ix a1))], mT (sI (sI (sI (sI (sI (sI s 7 (ix a2) ((gI s 7 (ix a2)) - a3)) 3 10 ((gI s 3 10) + 1)) 8 (ix a1) 16) 9 (ix a1) (a3 * (gI s 4 (ix a2)))) 10 (ix a1) (a3 * (gI s 5 (ix a2)))) 11 (ix a1) (a3 * (gI s 6 (ix a2)))))) rfl ?_
                  exact w_ret K rfl (hK _)
                · refine w_go K 1 (c' := (73, [some (.ref 3), some (.int a1), some (.int a2), some (.int a3)], [.int (-1)], mT s)) rfl ?_
                  exact w_ret K rfl (hK _)
theorem m_Works_light {len : Nat} {xs : Nat → Int32}  (d : Nat) (a1 : Int32) (a2 : Int32) (a3 : Int32) (s : mS) : ok_Works_light a1 a2 a3 s → mm_call (mm_X len xs) mm_Y (d + 2) 19 [.ref 3, .int a1, .int a2, .int a3] (mT s) = some (some (.int (f_Works_light a1 a2 a3 s).1), mT (f_Works_light a1 a2 a3 s).2) := fun h => t_Works_light (len := len) (xs := xs) d a1 a2 a3 s (fun t => (some (some (.int t.1), mT t.2) : Option mm_R) = some (some (.int (f_Works_light a1 a2 a3 s).1), mT (f_Works_light a1 a2 a3 s).2)) (fun _ h => h) h rfl
def f_G_charge (a1 : Int32) (a2 : Int32) (a3 : Int32) (s : mS) : Int32 × mS := (mq_let (f_Works_light a1 a2 a3 s) (fun (x10 : Int32 × mS) => (x10.1, x10.2)))
def ok_G_charge (a1 : Int32) (a2 : Int32) (a3 : Int32) (s : mS) : Prop := (ok_Works_light a1 a2 a3 s ∧ mq_letP (f_Works_light a1 a2 a3 s) (fun (x10 : Int32 × mS) => True))
set_option maxRecDepth 4000 in
theorem t_G_charge {len : Nat} {xs : Nat → Int32}  (d : Nat) (a1 : Int32) (a2 : Int32) (a3 : Int32) (s : mS) {T : Option mm_R} (K : Int32 × mS → Prop) (hK : ∀ t, K t → some (some (.int t.1), mT t.2) = T) : ok_G_charge a1 a2 a3 s → K (f_G_charge a1 a2 a3 s) → mm_fix (mm_X len xs) mm_Y (mm_call (mm_X len xs) mm_Y (d + 2)) (mm_look mc_G_charge) (0, [some (.ref 0), some (.int a1), some (.int a2), some (.int a3)], [], mT s) = T := by
  unfold ok_G_charge f_G_charge
  refine w_go K 5 (c' := (7, [some (.ref 0), some (.int a1), some (.int a2), some (.int a3)], [.int a3, .int a2, .int a1, .ref 3], mT s)) rfl ?_
  refine w_callL K (E := f_Works_light a1 a2 a3 s) (g := fun (x10 : Int32 × mS) => (some (.int x10.1), mT x10.2)) rfl (m_Works_light (len := len) (xs := xs) (d + 0) a1 a2 a3 s) (fun x10 => ?_)
  refine w_go K 0 (c' := (10, [some (.ref 0), some (.int a1), some (.int a2), some (.int a3)], [.int x10.1], mT x10.2)) rfl ?_
  exact w_ret K rfl (hK _)
theorem m_G_charge {len : Nat} {xs : Nat → Int32}  (d : Nat) (a1 : Int32) (a2 : Int32) (a3 : Int32) (s : mS) : ok_G_charge a1 a2 a3 s → mm_call (mm_X len xs) mm_Y (d + 3) 18 [.ref 0, .int a1, .int a2, .int a3] (mT s) = some (some (.int (f_G_charge a1 a2 a3 s).1), mT (f_G_charge a1 a2 a3 s).2) := fun h => t_G_charge (len := len) (xs := xs) d a1 a2 a3 s (fun t => (some (some (.int t.1), mT t.2) : Option mm_R) = some (some (.int (f_G_charge a1 a2 a3 s).1), mT (f_G_charge a1 a2 a3 s).2)) (fun _ h => h) h rfl
def f_M_charge (a1 : Int32) (a2 : Int32) (a3 : Int32) (s : mS) : Int32 × mS := (mq_let (f_M_isIn a1 (0 : Int32) ((gI s 116 4) - 1) s) (fun (x10 : Int32) => (if x10 = 0 then ((-1), s) else (mq_let (f_M_isCoal a2 s) (fun (x11 : Int32) => (if x11 = 0 then ((-1), s) else (if (gI s 126 (ix a1)) = (-1) then (mq_let (f_M_isIn a3 (1 : Int32) (9 : Int32) s) (fun (x12 : Int32) => (if x12 = 0 then ((-1), s) else (if (gI s 121 (ix a2)) < a3 then ((-1), s) else (if (3 * ((gI s 116 3) + 1)) ≤ (gI s 116 2) then ((gI (sI (sI (sI (sI s 121 (ix a2) ((gI s 121 (ix a2)) - a3)) 116 3 ((gI s 116 3) + 1)) 126 (ix a1) 0) 123 (ix a1) (a3 * (gI s 118 (ix a2)))) 123 (ix a1)), sI (sI (sI (sI (sI (sI s 121 (ix a2) ((gI s 121 (ix a2)) - a3)) 116 3 ((gI s 116 3) + 1)) 126 (ix a1) 0) 123 (ix a1) (a3 * (gI s 118 (ix a2)))) 124 (ix a1) (a3 * (gI s 119 (ix a2)))) 125 (ix a1) (a3 * (gI s 120 (ix a2)))) else ((-1), s)))))) else ((-1), s))))))))
def ok_M_charge (a1 : Int32) (a2 : Int32) (a3 : Int32) (s : mS) : Prop := (True ∧ mq_letP (f_M_isIn a1 (0 : Int32) ((gI s 116 4) - 1) s) (fun (x10 : Int32) => (if x10 = 0 then True else (ok_M_isCoal a2 s ∧ mq_letP (f_M_isCoal a2 s) (fun (x11 : Int32) => (if x11 = 0 then True else (mm_inb a1 6 = true ∧ (if (gI s 126 (ix a1)) = (-1) then (True ∧ mq_letP (f_M_isIn a3 (1 : Int32) (9 : Int32) s) (fun (x12 : Int32) => (if x12 = 0 then True else (mm_inb a2 3 = true ∧ (if (gI s 121 (ix a2)) < a3 then True else (if (3 * ((gI s 116 3) + 1)) ≤ (gI s 116 2) then (mm_inb a2 3 = true ∧ (mm_inb a2 3 = true ∧ (mm_inb a1 6 = true ∧ (mm_inb a2 3 = true ∧ (mm_inb a1 6 = true ∧ (mm_inb a2 3 = true ∧ (mm_inb a1 6 = true ∧ (mm_inb a2 3 = true ∧ (mm_inb a1 6 = true ∧ (mm_inb a1 6 = true ∧ True)))))))))) else True)))))) else True))))))))
set_option maxRecDepth 4000 in
theorem t_M_charge {len : Nat} {xs : Nat → Int32}  (d : Nat) (a1 : Int32) (a2 : Int32) (a3 : Int32) (s : mS) {T : Option mm_R} (K : Int32 × mS → Prop) (hK : ∀ t, K t → some (some (.int t.1), mT t.2) = T) : ok_M_charge a1 a2 a3 s → K (f_M_charge a1 a2 a3 s) → mm_fix (mm_X len xs) mm_Y (mm_call (mm_X len xs) mm_Y (d + 2)) (mm_look mc_M_charge) (0, [some (.ref 116), some (.int a1), some (.int a2), some (.int a3)], [], mT s) = T := by
  unfold ok_M_charge f_M_charge
  refine w_go K 6 (c' := (8, [some (.ref 116), some (.int a1), some (.int a2), some (.int a3)], [.int ((gI s 116 4) - 1), .int 0, .int a1], mT s)) rfl ?_
  refine w_callL K (E := f_M_isIn a1 (0 : Int32) ((gI s 116 4) - 1) s) (g := fun (x10 : Int32) => (some (.int x10), mT s)) rfl (m_M_isIn (len := len) (xs := xs) (d + 1) a1 (0 : Int32) ((gI s 116 4) - 1) s) (fun x10 => ?_)
  refine w_go K 0 (c' := (11, [some (.ref 116), some (.int a1), some (.int a2), some (.int a3)], [.int x10], mT s)) rfl ?_
  refine w_zeq K rfl (fun _ => ?_) (fun _ => ?_)
  · refine w_go K 1 (c' := (67, [some (.ref 116), some (.int a1), some (.int a2), some (.int a3)], [.int (-1)], mT s)) rfl ?_
    exact w_ret K rfl (hK _)
  · refine w_go K 1 (c' := (15, [some (.ref 116), some (.int a1), some (.int a2), some (.int a3)], [.int a2], mT s)) rfl ?_
    refine w_callL K (E := f_M_isCoal a2 s) (g := fun (x11 : Int32) => (some (.int x11), mT s)) rfl (m_M_isCoal (len := len) (xs := xs) (d + 0) a2 s) (fun x11 => ?_)
    refine w_go K 0 (c' := (18, [some (.ref 116), some (.int a1), some (.int a2), some (.int a3)], [.int x11], mT s)) rfl ?_
    refine w_zeq K rfl (fun _ => ?_) (fun _ => ?_)
    · refine w_go K 1 (c' := (67, [some (.ref 116), some (.int a1), some (.int a2), some (.int a3)], [.int (-1)], mT s)) rfl ?_
      exact w_ret K rfl (hK _)
    · refine w_go K 3 (c' := (26, [some (.ref 116), some (.int a1), some (.int a2), some (.int a3)], [.int a1, .ref 126], mT s)) rfl ?_
      refine w_ck K (st_iL rfl rfl) ?_
      refine w_go K 1 (c' := (28, [some (.ref 116), some (.int a1), some (.int a2), some (.int a3)], [.int (-1), .int (gI s 126 (ix a1))], mT s)) rfl ?_
      refine w_ine K rfl (fun _ => ?_) (fun _ => ?_)
      · refine w_go K 3 (c' := (35, [some (.ref 116), some (.int a1), some (.int a2), some (.int a3)], [.int 9, .int 1, .int a3], mT s)) rfl ?_
        refine w_callL K (E := f_M_isIn a3 (1 : Int32) (9 : Int32) s) (g := fun (x12 : Int32) => (some (.int x12), mT s)) rfl (m_M_isIn (len := len) (xs := xs) (d + 1) a3 (1 : Int32) (9 : Int32) s) (fun x12 => ?_)
        refine w_go K 0 (c' := (38, [some (.ref 116), some (.int a1), some (.int a2), some (.int a3)], [.int x12], mT s)) rfl ?_
        refine w_zeq K rfl (fun _ => ?_) (fun _ => ?_)
        · refine w_go K 1 (c' := (67, [some (.ref 116), some (.int a1), some (.int a2), some (.int a3)], [.int (-1)], mT s)) rfl ?_
          exact w_ret K rfl (hK _)
        · refine w_go K 3 (c' := (46, [some (.ref 116), some (.int a1), some (.int a2), some (.int a3)], [.int a2, .ref 121], mT s)) rfl ?_
          refine w_ck K (st_iL rfl rfl) ?_
          refine w_go K 1 (c' := (48, [some (.ref 116), some (.int a1), some (.int a2), some (.int a3)], [.int a3, .int (gI s 121 (ix a2))], mT s)) rfl ?_
          refine w_ilt K rfl (fun _ => ?_) (fun _ => ?_)
          · refine w_go K 1 (c' := (67, [some (.ref 116), some (.int a1), some (.int a2), some (.int a3)], [.int (-1)], mT s)) rfl ?_
            exact w_ret K rfl (hK _)
          · refine w_go K 8 (c' := (63, [some (.ref 116), some (.int a1), some (.int a2), some (.int a3)], [.int (gI s 116 2), .int (3 * ((gI s 116 3) + 1))], mT s)) rfl ?_
            refine w_ile K rfl (fun _ => ?_) (fun _ => ?_)
            · refine w_go K 4 (c' := (74, [some (.ref 116), some (.int a1), some (.int a2), some (.int a3)], [.int a2, .ref 121, .int a2, .ref 121], mT s)) rfl ?_
              refine w_ck K (st_iL rfl rfl) ?_
              refine w_go K 2 (c' := (77, [some (.ref 116), some (.int a1), some (.int a2), some (.int a3)], [.int ((gI s 121 (ix a2)) - a3), .int a2, .ref 121], mT s)) rfl ?_
              refine w_ck K (st_iS rfl rfl) ?_
              refine w_go K 10 (c' := (94, [some (.ref 116), some (.int a1), some (.int a2), some (.int a3)], [.int 0, .int a1, .ref 126], mT (sI (sI s 121 (ix a2) ((gI s 121 (ix a2)) - a3)) 116 3 ((gI s 116 3) + 1)))) rfl ?_
              refine w_ck K (st_iS rfl rfl) ?_
              refine w_go K 7 (c' := (106, [some (.ref 116), some (.int a1), some (.int a2), some (.int a3)], [.int a2, .ref 118, .int a3, .int a1, .ref 123], mT (sI (sI (sI s 121 (ix a2) ((gI s 121 (ix a2)) - a3)) 116 3 ((gI s 116 3) + 1)) 126 (ix a1) 0))) rfl ?_
              refine w_ck K (st_iL rfl rfl) ?_
              refine w_go K 1 (c' := (108, [some (.ref 116), some (.int a1), some (.int a2), some (.int a3)], [.int (a3 * (gI s 118 (ix a2))), .int a1, .ref 123], mT (sI (sI (sI s 121 (ix a2) ((gI s 121 (ix a2)) - a3)) 116 3 ((gI s 116 3) + 1)) 126 (ix a1) 0))) rfl ?_
              refine w_ck K (st_iS rfl rfl) ?_
              refine w_go K 7 (c' := (120, [some (.ref 116), some (.int a1), some (.int a2), some (.int a3)], [.int a2, .ref 119, .int a3, .int a1, .ref 124], mT (sI (sI (sI (sI s 121 (ix a2) ((gI s 121 (ix a2)) - a3)) 116 3 ((gI s 116 3) + 1)) 126 (ix a1) 0) 123 (ix a1) (a3 * (gI s 118 (ix a2)))))) rfl ?_
              refine w_ck K (st_iL rfl rfl) ?_
              refine w_go K 1 (c' := (122, [some (.ref 116), some (.int a1), some (.int a2), some (.int a3)], [.int (a3 * (gI s 119 (ix a2))), .int a1, .ref 124], mT (sI (sI (sI (sI s 121 (ix a2) ((gI s 121 (ix a2)) - a3)) 116 3 ((gI s 116 3) + 1)) 126 (ix a1) 0) 123 (ix a1) (a3 * (gI s 118 (ix a2)))))) rfl ?_
              refine w_ck K (st_iS rfl rfl) ?_
              refine w_go K 7 (c' := (134, [some (.ref 116), some (.int a1), some (.int a2), some (.int a3)], [.int a2, .ref 120, .int a3, .int a1, .ref 125], mT (sI (sI (sI (sI (sI s 121 (ix a2) ((gI s 121 (ix a2)) - a3)) 116 3 ((gI s 116 3) + 1)) 126 (ix a1) 0) 123 (ix a1) (a3 * (gI s 118 (ix a2)))) 124 (ix a1) (a3 * (gI s 119 (ix a2)))))) rfl ?_
              refine w_ck K (st_iL rfl rfl) ?_
              refine w_go K 1 (c' := (136, [some (.ref 116), some (.int a1), some (.int a2), some (.int a3)], [.int (a3 * (gI s 120 (ix a2))), .int a1, .ref 125], mT (sI (sI (sI (sI (sI s 121 (ix a2) ((gI s 121 (ix a2)) - a3)) 116 3 ((gI s 116 3) + 1)) 126 (ix a1) 0) 123 (ix a1) (a3 * (gI s 118 (ix a2)))) 124 (ix a1) (a3 * (gI s 119 (ix a2)))))) rfl ?_
              refine w_ck K (st_iS rfl rfl) ?_
              refine w_go K 3 (c' := (142, [some (.ref 116), some (.int a1), some (.int a2), some (.int a3)], [.int a1, .ref 123], mT (sI (sI (sI (sI (sI (sI s 121 (ix a2) ((gI s 121 (ix a2)) - a3)) 116 3 ((gI s 116 3) + 1)) 126 (ix a1) 0) 123 (ix a1) (a3 * (gI s 118 (ix a2)))) 124 (ix a1) (a3 * (gI s 119 (ix a2)))) 125 (ix a1) (a3 * (gI s 120 (ix a2)))))) rfl ?_
              refine w_ck K (st_iL rfl rfl) ?_
              refine w_go K 0 (c' := (143, [some (.ref 116), some (.int a1), some (.int a2), some (.int a3)], [.int (gI (sI (sI (sI (sI s 121 (ix a2) ((gI s 121 (ix a2)) - a3)) 116 3 ((gI s 116 3) + 1)) 126 (ix a1) 0) 123 (ix a1) (a3 * (gI s 118 (ix a2)))) 123 (ix a1))], mT (sI (sI (sI (sI (sI (sI s 121 (ix a2) ((gI s 121 (ix a2)) - a3)) 116 3 ((gI s 116 3) + 1)) 126 (ix a1) 0) 123 (ix a1) (a3 * (gI s 118 (ix a2)))) 124 (ix a1) (a3 * (gI s 119 (ix a2)))) 125 (ix a1) (a3 * (gI s 120 (ix a2)))))) rfl ?_
              exact w_ret K rfl (hK _)
            · refine w_go K 1 (c' := (67, [some (.ref 116), some (.int a1), some (.int a2), some (.int a3)], [.int (-1)], mT s)) rfl ?_
              exact w_ret K rfl (hK _)
      · refine w_go K 1 (c' := (67, [some (.ref 116), some (.int a1), some (.int a2), some (.int a3)], [.int (-1)], mT s)) rfl ?_
        exact w_ret K rfl (hK _)
theorem m_M_charge {len : Nat} {xs : Nat → Int32}  (d : Nat) (a1 : Int32) (a2 : Int32) (a3 : Int32) (s : mS) : ok_M_charge a1 a2 a3 s → mm_call (mm_X len xs) mm_Y (d + 3) 163 [.ref 116, .int a1, .int a2, .int a3] (mT s) = some (some (.int (f_M_charge a1 a2 a3 s).1), mT (f_M_charge a1 a2 a3 s).2) := fun h => t_M_charge (len := len) (xs := xs) d a1 a2 a3 s (fun t => (some (some (.int t.1), mT t.2) : Option mm_R) = some (some (.int (f_M_charge a1 a2 a3 s).1), mT (f_M_charge a1 a2 a3 s).2)) (fun _ h => h) h rfl
def f_G_hands (a1 : Int32) (s : mS) : Int32 × mS := (mq_let (f_G_within a1 (0 : Int32) (30 : Int32) s) (fun (x10 : Int32) => (if x10 = 0 then (0, s) else (1, sI s 3 9 a1))))
set_option maxRecDepth 4000 in
theorem t_G_hands {len : Nat} {xs : Nat → Int32}  (d : Nat) (a1 : Int32) (s : mS) {T : Option mm_R} (K : Int32 × mS → Prop) (hK : ∀ t, K t → some (some (.int t.1), mT t.2) = T) : True → K (f_G_hands a1 s) → mm_fix (mm_X len xs) mm_Y (mm_call (mm_X len xs) mm_Y (d + 1)) (mm_look mc_G_hands) (0, [some (.ref 0), some (.int a1)], [], mT s) = T := by
  unfold f_G_hands
  refine w_go K 3 (c' := (4, [some (.ref 0), some (.int a1)], [.int 30, .int 0, .int a1], mT s)) rfl ?_
  refine w_callLT K (E := f_G_within a1 (0 : Int32) (30 : Int32) s) (g := fun (x10 : Int32) => (some (.int x10), mT s)) rfl (m_G_within (len := len) (xs := xs) (d + 0) a1 (0 : Int32) (30 : Int32) s) (fun x10 => ?_)
  refine w_go K 0 (c' := (7, [some (.ref 0), some (.int a1)], [.int x10], mT s)) rfl ?_
  refine w_zneT K rfl (fun _ => ?_) (fun _ => ?_)
  · refine w_go K 1 (c' := (11, [some (.ref 0), some (.int a1)], [.int 0], mT s)) rfl ?_
    exact w_ret K rfl (hK _)
  · refine w_go K 5 (c' := (21, [some (.ref 0), some (.int a1)], [.int 1], mT (sI s 3 9 a1))) rfl ?_
    exact w_ret K rfl (hK _)
theorem m_G_hands {len : Nat} {xs : Nat → Int32}  (d : Nat) (a1 : Int32) (s : mS) : True → mm_call (mm_X len xs) mm_Y (d + 2) 20 [.ref 0, .int a1] (mT s) = some (some (.int (f_G_hands a1 s).1), mT (f_G_hands a1 s).2) := fun h => t_G_hands (len := len) (xs := xs) d a1 s (fun t => (some (some (.int t.1), mT t.2) : Option mm_R) = some (some (.int (f_G_hands a1 s).1), mT (f_G_hands a1 s).2)) (fun _ h => h) h rfl
def f_M_hands (a1 : Int32) (s : mS) : Int32 × mS := (mq_let (f_M_isIn a1 (0 : Int32) (30 : Int32) s) (fun (x10 : Int32) => (if x10 = 0 then (0, s) else (1, sI s 116 2 a1))))
set_option maxRecDepth 4000 in
theorem t_M_hands {len : Nat} {xs : Nat → Int32}  (d : Nat) (a1 : Int32) (s : mS) {T : Option mm_R} (K : Int32 × mS → Prop) (hK : ∀ t, K t → some (some (.int t.1), mT t.2) = T) : True → K (f_M_hands a1 s) → mm_fix (mm_X len xs) mm_Y (mm_call (mm_X len xs) mm_Y (d + 1)) (mm_look mc_M_hands) (0, [some (.ref 116), some (.int a1)], [], mT s) = T := by
  unfold f_M_hands
  refine w_go K 3 (c' := (4, [some (.ref 116), some (.int a1)], [.int 30, .int 0, .int a1], mT s)) rfl ?_
  refine w_callLT K (E := f_M_isIn a1 (0 : Int32) (30 : Int32) s) (g := fun (x10 : Int32) => (some (.int x10), mT s)) rfl (m_M_isIn (len := len) (xs := xs) (d + 0) a1 (0 : Int32) (30 : Int32) s) (fun x10 => ?_)
  refine w_go K 0 (c' := (7, [some (.ref 116), some (.int a1)], [.int x10], mT s)) rfl ?_
  refine w_zneT K rfl (fun _ => ?_) (fun _ => ?_)
  · refine w_go K 1 (c' := (11, [some (.ref 116), some (.int a1)], [.int 0], mT s)) rfl ?_
    exact w_ret K rfl (hK _)
  · refine w_go K 4 (c' := (18, [some (.ref 116), some (.int a1)], [.int 1], mT (sI s 116 2 a1))) rfl ?_
    exact w_ret K rfl (hK _)
theorem m_M_hands {len : Nat} {xs : Nat → Int32}  (d : Nat) (a1 : Int32) (s : mS) : True → mm_call (mm_X len xs) mm_Y (d + 2) 164 [.ref 116, .int a1] (mT s) = some (some (.int (f_M_hands a1 s).1), mT (f_M_hands a1 s).2) := fun h => t_M_hands (len := len) (xs := xs) d a1 s (fun t => (some (some (.int t.1), mT t.2) : Option mm_R) = some (some (.int (f_M_hands a1 s).1), mT (f_M_hands a1 s).2)) (fun _ h => h) h rfl
def f_Works_letOff  (s : mS) : mS := (if (gI s 3 12) ≤ (gI s 3 11) then s else sI (sL s 3 14 ((gL s 3 14) + (Int32.toInt64 ((gI s 3 12) - (gI s 3 11))))) 3 12 (gI s 3 11))
set_option maxRecDepth 4000 in
theorem t_Works_letOff {len : Nat} {xs : Nat → Int32}  (d : Nat)  (s : mS) {T : Option mm_R} (K : mS → Prop) (hK : ∀ t, K t → some (none, mT t) = T) : True → K (f_Works_letOff s) → mm_fix (mm_X len xs) mm_Y (mm_call (mm_X len xs) mm_Y (d + 0)) (mm_look mc_Works_letOff) (0, [some (.ref 3)], [], mT s) = T := by
  unfold f_Works_letOff
  refine w_go K 4 (c' := (8, [some (.ref 3)], [.int (gI s 3 11), .int (gI s 3 12)], mT s)) rfl ?_
  refine w_ileT K rfl (fun _ => ?_) (fun _ => ?_)
  · refine w_go K 0 (c' := (38, [some (.ref 3)], [], mT s)) rfl ?_
    exact w_ret K rfl (hK _)
  · refine w_go K 15 (c' := (38, [some (.ref 3)], [], mT (sI (sL s 3 14 ((gL s 3 14) + (Int32.toInt64 ((gI s 3 12) - (gI s 3 11))))) 3 12 (gI s 3 11)))) rfl ?_
    exact w_ret K rfl (hK _)
theorem m_Works_letOff {len : Nat} {xs : Nat → Int32}  (d : Nat)  (s : mS) : True → mm_call (mm_X len xs) mm_Y (d + 1) 22 [.ref 3] (mT s) = some (none, mT (f_Works_letOff s)) := fun h => t_Works_letOff (len := len) (xs := xs) d s (fun t => (some (none, mT t) : Option mm_R) = some (none, mT (f_Works_letOff s))) (fun _ h => h) h rfl
def f_G_holder (a1 : Int32) (s : mS) : Int32 × mS := (mq_let (f_G_within a1 (0 : Int32) (99999 : Int32) s) (fun (x10 : Int32) => (if x10 = 0 then (0, s) else (mq_let (f_Works_letOff (sI s 3 11 a1)) (fun (x11 : mS) => (1, x11))))))
set_option maxRecDepth 4000 in
theorem t_G_holder {len : Nat} {xs : Nat → Int32}  (d : Nat) (a1 : Int32) (s : mS) {T : Option mm_R} (K : Int32 × mS → Prop) (hK : ∀ t, K t → some (some (.int t.1), mT t.2) = T) : True → K (f_G_holder a1 s) → mm_fix (mm_X len xs) mm_Y (mm_call (mm_X len xs) mm_Y (d + 1)) (mm_look mc_G_holder) (0, [some (.ref 0), some (.int a1)], [], mT s) = T := by
  unfold f_G_holder
  refine w_go K 3 (c' := (4, [some (.ref 0), some (.int a1)], [.int 99999, .int 0, .int a1], mT s)) rfl ?_
  refine w_callLT K (E := f_G_within a1 (0 : Int32) (99999 : Int32) s) (g := fun (x10 : Int32) => (some (.int x10), mT s)) rfl (m_G_within (len := len) (xs := xs) (d + 0) a1 (0 : Int32) (99999 : Int32) s) (fun x10 => ?_)
  refine w_go K 0 (c' := (7, [some (.ref 0), some (.int a1)], [.int x10], mT s)) rfl ?_
  refine w_zneT K rfl (fun _ => ?_) (fun _ => ?_)
  · refine w_go K 1 (c' := (11, [some (.ref 0), some (.int a1)], [.int 0], mT s)) rfl ?_
    exact w_ret K rfl (hK _)
  · refine w_go K 6 (c' := (24, [some (.ref 0), some (.int a1)], [.ref 3], mT (sI s 3 11 a1))) rfl ?_
    refine w_callLT K (E := f_Works_letOff (sI s 3 11 a1)) (g := fun (x11 : mS) => (none, mT x11)) rfl (m_Works_letOff (len := len) (xs := xs) (d + 0) (sI s 3 11 a1)) (fun x11 => ?_)
    refine w_go K 1 (c' := (28, [some (.ref 0), some (.int a1)], [.int 1], mT x11)) rfl ?_
    exact w_ret K rfl (hK _)
theorem m_G_holder {len : Nat} {xs : Nat → Int32}  (d : Nat) (a1 : Int32) (s : mS) : True → mm_call (mm_X len xs) mm_Y (d + 2) 21 [.ref 0, .int a1] (mT s) = some (some (.int (f_G_holder a1 s).1), mT (f_G_holder a1 s).2) := fun h => t_G_holder (len := len) (xs := xs) d a1 s (fun t => (some (some (.int t.1), mT t.2) : Option mm_R) = some (some (.int (f_G_holder a1 s).1), mT (f_G_holder a1 s).2)) (fun _ h => h) h rfl
def f_M_fills (a1 : Int32) (s : mS) : mS := (if (gI s 116 5) < ((gI s 116 6) + a1) then sI (sL (sI s 116 6 ((gI s 116 6) + a1)) 116 37 ((gL s 116 37) + (Int32.toInt64 (((gI s 116 6) + a1) - (gI s 116 5))))) 116 6 (gI s 116 5) else sI s 116 6 ((gI s 116 6) + a1))
set_option maxRecDepth 4000 in
theorem t_M_fills {len : Nat} {xs : Nat → Int32}  (d : Nat) (a1 : Int32) (s : mS) {T : Option mm_R} (K : mS → Prop) (hK : ∀ t, K t → some (none, mT t) = T) : True → K (f_M_fills a1 s) → mm_fix (mm_X len xs) mm_Y (mm_call (mm_X len xs) mm_Y (d + 0)) (mm_look mc_M_fills) (0, [some (.ref 116), some (.int a1)], [], mT s) = T := by
  unfold f_M_fills
  refine w_go K 10 (c' := (18, [some (.ref 116), some (.int a1)], [.int (gI s 116 5), .int ((gI s 116 6) + a1)], mT (sI s 116 6 ((gI s 116 6) + a1)))) rfl ?_
  refine w_igtT K rfl (fun _ => ?_) (fun _ => ?_)
  · refine w_go K 15 (c' := (49, [some (.ref 116), some (.int a1)], [], mT (sI (sL (sI s 116 6 ((gI s 116 6) + a1)) 116 37 ((gL s 116 37) + (Int32.toInt64 (((gI s 116 6) + a1) - (gI s 116 5))))) 116 6 (gI s 116 5)))) rfl ?_
    exact w_ret K rfl (hK _)
  · refine w_go K 0 (c' := (21, [some (.ref 116), some (.int a1)], [], mT (sI s 116 6 ((gI s 116 6) + a1)))) rfl ?_
    exact w_ret K rfl (hK _)
theorem m_M_fills {len : Nat} {xs : Nat → Int32}  (d : Nat) (a1 : Int32) (s : mS) : True → mm_call (mm_X len xs) mm_Y (d + 1) 166 [.ref 116, .int a1] (mT s) = some (none, mT (f_M_fills a1 s)) := fun h => t_M_fills (len := len) (xs := xs) d a1 s (fun t => (some (none, mT t) : Option mm_R) = some (none, mT (f_M_fills a1 s))) (fun _ h => h) h rfl
def f_M_holder (a1 : Int32) (s : mS) : Int32 × mS := (mq_let (f_M_isIn a1 (0 : Int32) (99999 : Int32) s) (fun (x10 : Int32) => (if x10 = 0 then (0, s) else (mq_let (f_M_fills (0 : Int32) (sI s 116 5 a1)) (fun (x11 : mS) => (1, x11))))))
set_option maxRecDepth 4000 in
theorem t_M_holder {len : Nat} {xs : Nat → Int32}  (d : Nat) (a1 : Int32) (s : mS) {T : Option mm_R} (K : Int32 × mS → Prop) (hK : ∀ t, K t → some (some (.int t.1), mT t.2) = T) : True → K (f_M_holder a1 s) → mm_fix (mm_X len xs) mm_Y (mm_call (mm_X len xs) mm_Y (d + 1)) (mm_look mc_M_holder) (0, [some (.ref 116), some (.int a1)], [], mT s) = T := by
  unfold f_M_holder
  refine w_go K 3 (c' := (4, [some (.ref 116), some (.int a1)], [.int 99999, .int 0, .int a1], mT s)) rfl ?_
  refine w_callLT K (E := f_M_isIn a1 (0 : Int32) (99999 : Int32) s) (g := fun (x10 : Int32) => (some (.int x10), mT s)) rfl (m_M_isIn (len := len) (xs := xs) (d + 0) a1 (0 : Int32) (99999 : Int32) s) (fun x10 => ?_)
  refine w_go K 0 (c' := (7, [some (.ref 116), some (.int a1)], [.int x10], mT s)) rfl ?_
  refine w_zneT K rfl (fun _ => ?_) (fun _ => ?_)
  · refine w_go K 1 (c' := (11, [some (.ref 116), some (.int a1)], [.int 0], mT s)) rfl ?_
    exact w_ret K rfl (hK _)
  · refine w_go K 5 (c' := (19, [some (.ref 116), some (.int a1)], [.int 0, .ref 116], mT (sI s 116 5 a1))) rfl ?_
    refine w_callLT K (E := f_M_fills (0 : Int32) (sI s 116 5 a1)) (g := fun (x11 : mS) => (none, mT x11)) rfl (m_M_fills (len := len) (xs := xs) (d + 0) (0 : Int32) (sI s 116 5 a1)) (fun x11 => ?_)
    refine w_go K 1 (c' := (23, [some (.ref 116), some (.int a1)], [.int 1], mT x11)) rfl ?_
    exact w_ret K rfl (hK _)
theorem m_M_holder {len : Nat} {xs : Nat → Int32}  (d : Nat) (a1 : Int32) (s : mS) : True → mm_call (mm_X len xs) mm_Y (d + 2) 165 [.ref 116, .int a1] (mT s) = some (some (.int (f_M_holder a1 s).1), mT (f_M_holder a1 s).2) := fun h => t_M_holder (len := len) (xs := xs) d a1 s (fun t => (some (some (.int t.1), mT t.2) : Option mm_R) = some (some (.int (f_M_holder a1 s).1), mT (f_M_holder a1 s).2)) (fun _ h => h) h rfl
def f_G_round (a1 : Int32) (a2 : Int32) (s : mS) : Int32 × mS := (mq_let (f_G_within a1 (40 : Int32) (80 : Int32) s) (fun (x10 : Int32) => (if x10 = 0 then (0, s) else (mq_let (f_G_within a2 (10 : Int32) (40 : Int32) s) (fun (x11 : Int32) => (if x11 = 0 then (0, s) else (1, sI (sI s 1 1 a1) 1 2 a2)))))))
set_option maxRecDepth 4000 in
theorem t_G_round {len : Nat} {xs : Nat → Int32}  (d : Nat) (a1 : Int32) (a2 : Int32) (s : mS) {T : Option mm_R} (K : Int32 × mS → Prop) (hK : ∀ t, K t → some (some (.int t.1), mT t.2) = T) : True → K (f_G_round a1 a2 s) → mm_fix (mm_X len xs) mm_Y (mm_call (mm_X len xs) mm_Y (d + 1)) (mm_look mc_G_round) (0, [some (.ref 0), some (.int a1), some (.int a2)], [], mT s) = T := by
  unfold f_G_round
  refine w_go K 3 (c' := (5, [some (.ref 0), some (.int a1), some (.int a2)], [.int 80, .int 40, .int a1], mT s)) rfl ?_
  refine w_callLT K (E := f_G_within a1 (40 : Int32) (80 : Int32) s) (g := fun (x10 : Int32) => (some (.int x10), mT s)) rfl (m_G_within (len := len) (xs := xs) (d + 0) a1 (40 : Int32) (80 : Int32) s) (fun x10 => ?_)
  refine w_go K 0 (c' := (8, [some (.ref 0), some (.int a1), some (.int a2)], [.int x10], mT s)) rfl ?_
  refine w_zeqT K rfl (fun _ => ?_) (fun _ => ?_)
  · refine w_go K 1 (c' := (23, [some (.ref 0), some (.int a1), some (.int a2)], [.int 0], mT s)) rfl ?_
    exact w_ret K rfl (hK _)
  · refine w_go K 3 (c' := (16, [some (.ref 0), some (.int a1), some (.int a2)], [.int 40, .int 10, .int a2], mT s)) rfl ?_
    refine w_callLT K (E := f_G_within a2 (10 : Int32) (40 : Int32) s) (g := fun (x11 : Int32) => (some (.int x11), mT s)) rfl (m_G_within (len := len) (xs := xs) (d + 0) a2 (10 : Int32) (40 : Int32) s) (fun x11 => ?_)
    refine w_go K 0 (c' := (19, [some (.ref 0), some (.int a1), some (.int a2)], [.int x11], mT s)) rfl ?_
    refine w_zneT K rfl (fun _ => ?_) (fun _ => ?_)
    · refine w_go K 1 (c' := (23, [some (.ref 0), some (.int a1), some (.int a2)], [.int 0], mT s)) rfl ?_
      exact w_ret K rfl (hK _)
    · refine w_go K 9 (c' := (41, [some (.ref 0), some (.int a1), some (.int a2)], [.int 1], mT (sI (sI s 1 1 a1) 1 2 a2))) rfl ?_
      exact w_ret K rfl (hK _)
theorem m_G_round {len : Nat} {xs : Nat → Int32}  (d : Nat) (a1 : Int32) (a2 : Int32) (s : mS) : True → mm_call (mm_X len xs) mm_Y (d + 2) 23 [.ref 0, .int a1, .int a2] (mT s) = some (some (.int (f_G_round a1 a2 s).1), mT (f_G_round a1 a2 s).2) := fun h => t_G_round (len := len) (xs := xs) d a1 a2 s (fun t => (some (some (.int t.1), mT t.2) : Option mm_R) = some (some (.int (f_G_round a1 a2 s).1), mT (f_G_round a1 a2 s).2)) (fun _ h => h) h rfl
def f_M_round (a1 : Int32) (a2 : Int32) (s : mS) : Int32 × mS := (mq_let (f_M_isIn a1 (40 : Int32) (80 : Int32) s) (fun (x10 : Int32) => (if x10 = 0 then (0, s) else (mq_let (f_M_isIn a2 (10 : Int32) (40 : Int32) s) (fun (x11 : Int32) => (if x11 = 0 then (0, s) else (1, sI (sI s 116 9 a1) 116 10 a2)))))))
set_option maxRecDepth 4000 in
theorem t_M_round {len : Nat} {xs : Nat → Int32}  (d : Nat) (a1 : Int32) (a2 : Int32) (s : mS) {T : Option mm_R} (K : Int32 × mS → Prop) (hK : ∀ t, K t → some (some (.int t.1), mT t.2) = T) : True → K (f_M_round a1 a2 s) → mm_fix (mm_X len xs) mm_Y (mm_call (mm_X len xs) mm_Y (d + 1)) (mm_look mc_M_round) (0, [some (.ref 116), some (.int a1), some (.int a2)], [], mT s) = T := by
  unfold f_M_round
  refine w_go K 3 (c' := (5, [some (.ref 116), some (.int a1), some (.int a2)], [.int 80, .int 40, .int a1], mT s)) rfl ?_
  refine w_callLT K (E := f_M_isIn a1 (40 : Int32) (80 : Int32) s) (g := fun (x10 : Int32) => (some (.int x10), mT s)) rfl (m_M_isIn (len := len) (xs := xs) (d + 0) a1 (40 : Int32) (80 : Int32) s) (fun x10 => ?_)
  refine w_go K 0 (c' := (8, [some (.ref 116), some (.int a1), some (.int a2)], [.int x10], mT s)) rfl ?_
  refine w_zeqT K rfl (fun _ => ?_) (fun _ => ?_)
  · refine w_go K 1 (c' := (23, [some (.ref 116), some (.int a1), some (.int a2)], [.int 0], mT s)) rfl ?_
    exact w_ret K rfl (hK _)
  · refine w_go K 3 (c' := (16, [some (.ref 116), some (.int a1), some (.int a2)], [.int 40, .int 10, .int a2], mT s)) rfl ?_
    refine w_callLT K (E := f_M_isIn a2 (10 : Int32) (40 : Int32) s) (g := fun (x11 : Int32) => (some (.int x11), mT s)) rfl (m_M_isIn (len := len) (xs := xs) (d + 0) a2 (10 : Int32) (40 : Int32) s) (fun x11 => ?_)
    refine w_go K 0 (c' := (19, [some (.ref 116), some (.int a1), some (.int a2)], [.int x11], mT s)) rfl ?_
    refine w_zneT K rfl (fun _ => ?_) (fun _ => ?_)
    · refine w_go K 1 (c' := (23, [some (.ref 116), some (.int a1), some (.int a2)], [.int 0], mT s)) rfl ?_
      exact w_ret K rfl (hK _)
    · refine w_go K 7 (c' := (35, [some (.ref 116), some (.int a1), some (.int a2)], [.int 1], mT (sI (sI s 116 9 a1) 116 10 a2))) rfl ?_
      exact w_ret K rfl (hK _)
theorem m_M_round {len : Nat} {xs : Nat → Int32}  (d : Nat) (a1 : Int32) (a2 : Int32) (s : mS) : True → mm_call (mm_X len xs) mm_Y (d + 2) 167 [.ref 116, .int a1, .int a2] (mT s) = some (some (.int (f_M_round a1 a2 s).1), mT (f_M_round a1 a2 s).2) := fun h => t_M_round (len := len) (xs := xs) d a1 a2 s (fun t => (some (some (.int t.1), mT t.2) : Option mm_R) = some (some (.int (f_M_round a1 a2 s).1), mT (f_M_round a1 a2 s).2)) (fun _ h => h) h rfl
def f_G_fog (a1 : Int32) (a2 : Int32) (s : mS) : Int32 × mS := (mq_let (f_G_within a1 (0 : Int32) (41 : Int32) s) (fun (x10 : Int32) => (if x10 = 0 then (0, s) else (mq_let (f_G_within a2 (0 : Int32) (3 : Int32) s) (fun (x11 : Int32) => (if x11 = 0 then (0, s) else (1, sI s 2 (ix a1) a2)))))))
def ok_G_fog (a1 : Int32) (a2 : Int32) (s : mS) : Prop := (True ∧ mq_letP (f_G_within a1 (0 : Int32) (41 : Int32) s) (fun (x10 : Int32) => (if x10 = 0 then True else (True ∧ mq_letP (f_G_within a2 (0 : Int32) (3 : Int32) s) (fun (x11 : Int32) => (if x11 = 0 then True else (mm_inb a1 42 = true ∧ True)))))))
set_option maxRecDepth 4000 in
theorem t_G_fog {len : Nat} {xs : Nat → Int32}  (d : Nat) (a1 : Int32) (a2 : Int32) (s : mS) {T : Option mm_R} (K : Int32 × mS → Prop) (hK : ∀ t, K t → some (some (.int t.1), mT t.2) = T) : ok_G_fog a1 a2 s → K (f_G_fog a1 a2 s) → mm_fix (mm_X len xs) mm_Y (mm_call (mm_X len xs) mm_Y (d + 1)) (mm_look mc_G_fog) (0, [some (.ref 0), some (.int a1), some (.int a2)], [], mT s) = T := by
  unfold ok_G_fog f_G_fog
  refine w_go K 3 (c' := (4, [some (.ref 0), some (.int a1), some (.int a2)], [.int 41, .int 0, .int a1], mT s)) rfl ?_
  refine w_callL K (E := f_G_within a1 (0 : Int32) (41 : Int32) s) (g := fun (x10 : Int32) => (some (.int x10), mT s)) rfl (m_G_within (len := len) (xs := xs) (d + 0) a1 (0 : Int32) (41 : Int32) s) (fun x10 => ?_)
  refine w_go K 0 (c' := (7, [some (.ref 0), some (.int a1), some (.int a2)], [.int x10], mT s)) rfl ?_
  refine w_zeq K rfl (fun _ => ?_) (fun _ => ?_)
  · refine w_go K 1 (c' := (20, [some (.ref 0), some (.int a1), some (.int a2)], [.int 0], mT s)) rfl ?_
    exact w_ret K rfl (hK _)
  · refine w_go K 3 (c' := (13, [some (.ref 0), some (.int a1), some (.int a2)], [.int 3, .int 0, .int a2], mT s)) rfl ?_
    refine w_callL K (E := f_G_within a2 (0 : Int32) (3 : Int32) s) (g := fun (x11 : Int32) => (some (.int x11), mT s)) rfl (m_G_within (len := len) (xs := xs) (d + 0) a2 (0 : Int32) (3 : Int32) s) (fun x11 => ?_)
    refine w_go K 0 (c' := (16, [some (.ref 0), some (.int a1), some (.int a2)], [.int x11], mT s)) rfl ?_
    refine w_zne K rfl (fun _ => ?_) (fun _ => ?_)
    · refine w_go K 1 (c' := (20, [some (.ref 0), some (.int a1), some (.int a2)], [.int 0], mT s)) rfl ?_
      exact w_ret K rfl (hK _)
    · refine w_go K 5 (c' := (30, [some (.ref 0), some (.int a1), some (.int a2)], [.int a2, .int a1, .ref 2], mT s)) rfl ?_
      refine w_ck K (st_iS rfl rfl) ?_
      refine w_go K 1 (c' := (32, [some (.ref 0), some (.int a1), some (.int a2)], [.int 1], mT (sI s 2 (ix a1) a2))) rfl ?_
      exact w_ret K rfl (hK _)
theorem m_G_fog {len : Nat} {xs : Nat → Int32}  (d : Nat) (a1 : Int32) (a2 : Int32) (s : mS) : ok_G_fog a1 a2 s → mm_call (mm_X len xs) mm_Y (d + 2) 24 [.ref 0, .int a1, .int a2] (mT s) = some (some (.int (f_G_fog a1 a2 s).1), mT (f_G_fog a1 a2 s).2) := fun h => t_G_fog (len := len) (xs := xs) d a1 a2 s (fun t => (some (some (.int t.1), mT t.2) : Option mm_R) = some (some (.int (f_G_fog a1 a2 s).1), mT (f_G_fog a1 a2 s).2)) (fun _ h => h) h rfl
def f_M_fog (a1 : Int32) (a2 : Int32) (s : mS) : Int32 × mS := (mq_let (f_M_isIn a1 (0 : Int32) (41 : Int32) s) (fun (x10 : Int32) => (if x10 = 0 then (0, s) else (mq_let (f_M_isIn a2 (0 : Int32) (3 : Int32) s) (fun (x11 : Int32) => (if x11 = 0 then (0, s) else (1, sI s 122 (ix a1) a2)))))))
def ok_M_fog (a1 : Int32) (a2 : Int32) (s : mS) : Prop := (True ∧ mq_letP (f_M_isIn a1 (0 : Int32) (41 : Int32) s) (fun (x10 : Int32) => (if x10 = 0 then True else (True ∧ mq_letP (f_M_isIn a2 (0 : Int32) (3 : Int32) s) (fun (x11 : Int32) => (if x11 = 0 then True else (mm_inb a1 42 = true ∧ True)))))))
set_option maxRecDepth 4000 in
theorem t_M_fog {len : Nat} {xs : Nat → Int32}  (d : Nat) (a1 : Int32) (a2 : Int32) (s : mS) {T : Option mm_R} (K : Int32 × mS → Prop) (hK : ∀ t, K t → some (some (.int t.1), mT t.2) = T) : ok_M_fog a1 a2 s → K (f_M_fog a1 a2 s) → mm_fix (mm_X len xs) mm_Y (mm_call (mm_X len xs) mm_Y (d + 1)) (mm_look mc_M_fog) (0, [some (.ref 116), some (.int a1), some (.int a2)], [], mT s) = T := by
  unfold ok_M_fog f_M_fog
  refine w_go K 3 (c' := (4, [some (.ref 116), some (.int a1), some (.int a2)], [.int 41, .int 0, .int a1], mT s)) rfl ?_
  refine w_callL K (E := f_M_isIn a1 (0 : Int32) (41 : Int32) s) (g := fun (x10 : Int32) => (some (.int x10), mT s)) rfl (m_M_isIn (len := len) (xs := xs) (d + 0) a1 (0 : Int32) (41 : Int32) s) (fun x10 => ?_)
  refine w_go K 0 (c' := (7, [some (.ref 116), some (.int a1), some (.int a2)], [.int x10], mT s)) rfl ?_
  refine w_zeq K rfl (fun _ => ?_) (fun _ => ?_)
  · refine w_go K 1 (c' := (20, [some (.ref 116), some (.int a1), some (.int a2)], [.int 0], mT s)) rfl ?_
    exact w_ret K rfl (hK _)
  · refine w_go K 3 (c' := (13, [some (.ref 116), some (.int a1), some (.int a2)], [.int 3, .int 0, .int a2], mT s)) rfl ?_
    refine w_callL K (E := f_M_isIn a2 (0 : Int32) (3 : Int32) s) (g := fun (x11 : Int32) => (some (.int x11), mT s)) rfl (m_M_isIn (len := len) (xs := xs) (d + 0) a2 (0 : Int32) (3 : Int32) s) (fun x11 => ?_)
    refine w_go K 0 (c' := (16, [some (.ref 116), some (.int a1), some (.int a2)], [.int x11], mT s)) rfl ?_
    refine w_zne K rfl (fun _ => ?_) (fun _ => ?_)
    · refine w_go K 1 (c' := (20, [some (.ref 116), some (.int a1), some (.int a2)], [.int 0], mT s)) rfl ?_
      exact w_ret K rfl (hK _)
    · refine w_go K 4 (c' := (27, [some (.ref 116), some (.int a1), some (.int a2)], [.int a2, .int a1, .ref 122], mT s)) rfl ?_
      refine w_ck K (st_iS rfl rfl) ?_
      refine w_go K 1 (c' := (29, [some (.ref 116), some (.int a1), some (.int a2)], [.int 1], mT (sI s 122 (ix a1) a2))) rfl ?_
      exact w_ret K rfl (hK _)
theorem m_M_fog {len : Nat} {xs : Nat → Int32}  (d : Nat) (a1 : Int32) (a2 : Int32) (s : mS) : ok_M_fog a1 a2 s → mm_call (mm_X len xs) mm_Y (d + 2) 168 [.ref 116, .int a1, .int a2] (mT s) = some (some (.int (f_M_fog a1 a2 s).1), mT (f_M_fog a1 a2 s).2) := fun h => t_M_fog (len := len) (xs := xs) d a1 a2 s (fun t => (some (some (.int t.1), mT t.2) : Option mm_R) = some (some (.int (f_M_fog a1 a2 s).1), mT (f_M_fog a1 a2 s).2)) (fun _ h => h) h rfl
def f_G_gate (a1 : Int32) (s : mS) : Int32 × mS := (mq_let (f_G_within a1 (0 : Int32) (99 : Int32) s) (fun (x10 : Int32) => (if x10 = 0 then (0, s) else (1, sI s 25 11 a1))))
set_option maxRecDepth 4000 in
theorem t_G_gate {len : Nat} {xs : Nat → Int32}  (d : Nat) (a1 : Int32) (s : mS) {T : Option mm_R} (K : Int32 × mS → Prop) (hK : ∀ t, K t → some (some (.int t.1), mT t.2) = T) : True → K (f_G_gate a1 s) → mm_fix (mm_X len xs) mm_Y (mm_call (mm_X len xs) mm_Y (d + 1)) (mm_look mc_G_gate) (0, [some (.ref 0), some (.int a1)], [], mT s) = T := by
  unfold f_G_gate
  refine w_go K 3 (c' := (4, [some (.ref 0), some (.int a1)], [.int 99, .int 0, .int a1], mT s)) rfl ?_
  refine w_callLT K (E := f_G_within a1 (0 : Int32) (99 : Int32) s) (g := fun (x10 : Int32) => (some (.int x10), mT s)) rfl (m_G_within (len := len) (xs := xs) (d + 0) a1 (0 : Int32) (99 : Int32) s) (fun x10 => ?_)
  refine w_go K 0 (c' := (7, [some (.ref 0), some (.int a1)], [.int x10], mT s)) rfl ?_
  refine w_zneT K rfl (fun _ => ?_) (fun _ => ?_)
  · refine w_go K 1 (c' := (11, [some (.ref 0), some (.int a1)], [.int 0], mT s)) rfl ?_
    exact w_ret K rfl (hK _)
  · refine w_go K 5 (c' := (21, [some (.ref 0), some (.int a1)], [.int 1], mT (sI s 25 11 a1))) rfl ?_
    exact w_ret K rfl (hK _)
theorem m_G_gate {len : Nat} {xs : Nat → Int32}  (d : Nat) (a1 : Int32) (s : mS) : True → mm_call (mm_X len xs) mm_Y (d + 2) 25 [.ref 0, .int a1] (mT s) = some (some (.int (f_G_gate a1 s).1), mT (f_G_gate a1 s).2) := fun h => t_G_gate (len := len) (xs := xs) d a1 s (fun t => (some (some (.int t.1), mT t.2) : Option mm_R) = some (some (.int (f_G_gate a1 s).1), mT (f_G_gate a1 s).2)) (fun _ h => h) h rfl
def f_M_gate (a1 : Int32) (s : mS) : Int32 × mS := (mq_let (f_M_isIn a1 (0 : Int32) (99 : Int32) s) (fun (x10 : Int32) => (if x10 = 0 then (0, s) else (1, sI s 116 11 a1))))
set_option maxRecDepth 4000 in
theorem t_M_gate {len : Nat} {xs : Nat → Int32}  (d : Nat) (a1 : Int32) (s : mS) {T : Option mm_R} (K : Int32 × mS → Prop) (hK : ∀ t, K t → some (some (.int t.1), mT t.2) = T) : True → K (f_M_gate a1 s) → mm_fix (mm_X len xs) mm_Y (mm_call (mm_X len xs) mm_Y (d + 1)) (mm_look mc_M_gate) (0, [some (.ref 116), some (.int a1)], [], mT s) = T := by
  unfold f_M_gate
  refine w_go K 3 (c' := (4, [some (.ref 116), some (.int a1)], [.int 99, .int 0, .int a1], mT s)) rfl ?_
  refine w_callLT K (E := f_M_isIn a1 (0 : Int32) (99 : Int32) s) (g := fun (x10 : Int32) => (some (.int x10), mT s)) rfl (m_M_isIn (len := len) (xs := xs) (d + 0) a1 (0 : Int32) (99 : Int32) s) (fun x10 => ?_)
  refine w_go K 0 (c' := (7, [some (.ref 116), some (.int a1)], [.int x10], mT s)) rfl ?_
  refine w_zneT K rfl (fun _ => ?_) (fun _ => ?_)
  · refine w_go K 1 (c' := (11, [some (.ref 116), some (.int a1)], [.int 0], mT s)) rfl ?_
    exact w_ret K rfl (hK _)
  · refine w_go K 4 (c' := (18, [some (.ref 116), some (.int a1)], [.int 1], mT (sI s 116 11 a1))) rfl ?_
    exact w_ret K rfl (hK _)
theorem m_M_gate {len : Nat} {xs : Nat → Int32}  (d : Nat) (a1 : Int32) (s : mS) : True → mm_call (mm_X len xs) mm_Y (d + 2) 169 [.ref 116, .int a1] (mT s) = some (some (.int (f_M_gate a1 s).1), mT (f_M_gate a1 s).2) := fun h => t_M_gate (len := len) (xs := xs) d a1 s (fun t => (some (some (.int t.1), mT t.2) : Option mm_R) = some (some (.int (f_M_gate a1 s).1), mT (f_M_gate a1 s).2)) (fun _ h => h) h rfl
def f_Net_has (a1 : Int32) (s : mS) : Int32 := (if a1 < 0 then 0 else (if (gI s 25 10) ≤ a1 then 0 else (if (16 : Int32) ≤ a1 then 0 else 1)))
set_option maxRecDepth 4000 in
theorem t_Net_has {len : Nat} {xs : Nat → Int32}  (d : Nat) (a1 : Int32) (s : mS) {T : Option mm_R} (K : Int32 → Prop) (hK : ∀ t, K t → some (some (.int t), mT s) = T) : True → K (f_Net_has a1 s) → mm_fix (mm_X len xs) mm_Y (mm_call (mm_X len xs) mm_Y (d + 0)) (mm_look mc_Net_has) (0, [some (.ref 25), some (.int a1)], [], mT s) = T := by
  unfold f_Net_has
  refine w_go K 1 (c' := (1, [some (.ref 25), some (.int a1)], [.int a1], mT s)) rfl ?_
  refine w_zltT K rfl (fun _ => ?_) (fun _ => ?_)
  · refine w_go K 1 (c' := (23, [some (.ref 25), some (.int a1)], [.int 0], mT s)) rfl ?_
    exact w_ret K rfl (hK _)
  · refine w_go K 3 (c' := (9, [some (.ref 25), some (.int a1)], [.int (gI s 25 10), .int a1], mT s)) rfl ?_
    refine w_igeT K rfl (fun _ => ?_) (fun _ => ?_)
    · refine w_go K 1 (c' := (23, [some (.ref 25), some (.int a1)], [.int 0], mT s)) rfl ?_
      exact w_ret K rfl (hK _)
    · refine w_go K 2 (c' := (15, [some (.ref 25), some (.int a1)], [.int 16, .int a1], mT s)) rfl ?_
      refine w_igeT K rfl (fun _ => ?_) (fun _ => ?_)
      · refine w_go K 1 (c' := (23, [some (.ref 25), some (.int a1)], [.int 0], mT s)) rfl ?_
        exact w_ret K rfl (hK _)
      · refine w_go K 2 (c' := (23, [some (.ref 25), some (.int a1)], [.int 1], mT s)) rfl ?_
        exact w_ret K rfl (hK _)
theorem m_Net_has {len : Nat} {xs : Nat → Int32}  (d : Nat) (a1 : Int32) (s : mS) : True → mm_call (mm_X len xs) mm_Y (d + 1) 27 [.ref 25, .int a1] (mT s) = some (some (.int (f_Net_has a1 s)), mT s) := fun h => t_Net_has (len := len) (xs := xs) d a1 s (fun t => (some (some (.int t), mT s) : Option mm_R) = some (some (.int (f_Net_has a1 s)), mT s)) (fun _ h => h) h rfl
def f_Net_lay (a1 : Int32) (a2 : Int32) (a3 : Int32) (s : mS) : Int32 × mS := (if (gI s 25 10) < 16 then ((gI s 25 10), sI (sI (sI (sI s 26 (ix (gI s 25 10)) a1) 27 (ix (gI s 25 10)) a2) 28 (ix (gI s 25 10)) a3) 25 10 ((gI s 25 10) + 1)) else ((-1), s))
def ok_Net_lay (a1 : Int32) (a2 : Int32) (a3 : Int32) (s : mS) : Prop := (if (gI s 25 10) < 16 then (mm_inb (gI s 25 10) 16 = true ∧ (mm_inb (gI s 25 10) 16 = true ∧ (mm_inb (gI s 25 10) 16 = true ∧ True))) else True)
set_option maxRecDepth 4000 in
theorem t_Net_lay {len : Nat} {xs : Nat → Int32}  (d : Nat) (a1 : Int32) (a2 : Int32) (a3 : Int32) (s : mS) {T : Option mm_R} (K : Int32 × mS → Prop) (hK : ∀ t, K t → some (some (.int t.1), mT t.2) = T) : ok_Net_lay a1 a2 a3 s → K (f_Net_lay a1 a2 a3 s) → mm_fix (mm_X len xs) mm_Y (mm_call (mm_X len xs) mm_Y (d + 0)) (mm_look mc_Net_lay) (0, [some (.ref 25), some (.int a1), some (.int a2), some (.int a3)], [], mT s) = T := by
  unfold ok_Net_lay f_Net_lay
  refine w_go K 3 (c' := (6, [some (.ref 25), some (.int a1), some (.int a2), some (.int a3)], [.int 16, .int (gI s 25 10)], mT s)) rfl ?_
  refine w_ilt K rfl (fun _ => ?_) (fun _ => ?_)
  · refine w_go K 5 (c' := (20, [some (.ref 25), some (.int a1), some (.int a2), some (.int a3)], [.int a1, .int (gI s 25 10), .ref 26], mT s)) rfl ?_
    refine w_ck K (st_iS rfl rfl) ?_
    refine w_go K 5 (c' := (30, [some (.ref 25), some (.int a1), some (.int a2), some (.int a3)], [.int a2, .int (gI s 25 10), .ref 27], mT (sI s 26 (ix (gI s 25 10)) a1))) rfl ?_
    refine w_ck K (st_iS rfl rfl) ?_
    refine w_go K 5 (c' := (40, [some (.ref 25), some (.int a1), some (.int a2), some (.int a3)], [.int a3, .int (gI s 25 10), .ref 28], mT (sI (sI s 26 (ix (gI s 25 10)) a1) 27 (ix (gI s 25 10)) a2))) rfl ?_
    refine w_ck K (st_iS rfl rfl) ?_
    refine w_go K 7 (c' := (52, [some (.ref 25), some (.int a1), some (.int a2), some (.int a3)], [.int (gI s 25 10)], mT (sI (sI (sI (sI s 26 (ix (gI s 25 10)) a1) 27 (ix (gI s 25 10)) a2) 28 (ix (gI s 25 10)) a3) 25 10 ((gI s 25 10) + 1)))) rfl ?_
    exact w_ret K rfl (hK _)
  · refine w_go K 1 (c' := (10, [some (.ref 25), some (.int a1), some (.int a2), some (.int a3)], [.int (-1)], mT s)) rfl ?_
    exact w_ret K rfl (hK _)
theorem m_Net_lay {len : Nat} {xs : Nat → Int32}  (d : Nat) (a1 : Int32) (a2 : Int32) (a3 : Int32) (s : mS) : ok_Net_lay a1 a2 a3 s → mm_call (mm_X len xs) mm_Y (d + 1) 28 [.ref 25, .int a1, .int a2, .int a3] (mT s) = some (some (.int (f_Net_lay a1 a2 a3 s).1), mT (f_Net_lay a1 a2 a3 s).2) := fun h => t_Net_lay (len := len) (xs := xs) d a1 a2 a3 s (fun t => (some (some (.int t.1), mT t.2) : Option mm_R) = some (some (.int (f_Net_lay a1 a2 a3 s).1), mT (f_Net_lay a1 a2 a3 s).2)) (fun _ h => h) h rfl
def f_G_node (a1 : Int32) (a2 : Int32) (a3 : Int32) (s : mS) : Int32 × mS := (mq_let (f_Net_has a1 s) (fun (x10 : Int32) => (if x10 = 0 then ((-1), s) else (mq_let (f_G_within a2 (1 : Int32) (9 : Int32) s) (fun (x11 : Int32) => (if x11 = 0 then ((-1), s) else (mq_let (f_G_within a3 ((-9) : Int32) (9 : Int32) s) (fun (x12 : Int32) => (if x12 = 0 then ((-1), s) else (mq_let (f_Net_lay a1 a2 a3 s) (fun (x13 : Int32 × mS) => (x13.1, x13.2))))))))))))
def ok_G_node (a1 : Int32) (a2 : Int32) (a3 : Int32) (s : mS) : Prop := (True ∧ mq_letP (f_Net_has a1 s) (fun (x10 : Int32) => (if x10 = 0 then True else (True ∧ mq_letP (f_G_within a2 (1 : Int32) (9 : Int32) s) (fun (x11 : Int32) => (if x11 = 0 then True else (True ∧ mq_letP (f_G_within a3 ((-9) : Int32) (9 : Int32) s) (fun (x12 : Int32) => (if x12 = 0 then True else (ok_Net_lay a1 a2 a3 s ∧ mq_letP (f_Net_lay a1 a2 a3 s) (fun (x13 : Int32 × mS) => True)))))))))))
set_option maxRecDepth 4000 in
theorem t_G_node {len : Nat} {xs : Nat → Int32}  (d : Nat) (a1 : Int32) (a2 : Int32) (a3 : Int32) (s : mS) {T : Option mm_R} (K : Int32 × mS → Prop) (hK : ∀ t, K t → some (some (.int t.1), mT t.2) = T) : ok_G_node a1 a2 a3 s → K (f_G_node a1 a2 a3 s) → mm_fix (mm_X len xs) mm_Y (mm_call (mm_X len xs) mm_Y (d + 1)) (mm_look mc_G_node) (0, [some (.ref 0), some (.int a1), some (.int a2), some (.int a3)], [], mT s) = T := by
  unfold ok_G_node f_G_node
  refine w_go K 3 (c' := (5, [some (.ref 0), some (.int a1), some (.int a2), some (.int a3)], [.int a1, .ref 25], mT s)) rfl ?_
  refine w_callL K (E := f_Net_has a1 s) (g := fun (x10 : Int32) => (some (.int x10), mT s)) rfl (m_Net_has (len := len) (xs := xs) (d + 0) a1 s) (fun x10 => ?_)
  refine w_go K 0 (c' := (8, [some (.ref 0), some (.int a1), some (.int a2), some (.int a3)], [.int x10], mT s)) rfl ?_
  refine w_zeq K rfl (fun _ => ?_) (fun _ => ?_)
  · refine w_go K 1 (c' := (33, [some (.ref 0), some (.int a1), some (.int a2), some (.int a3)], [.int (-1)], mT s)) rfl ?_
    exact w_ret K rfl (hK _)
  · refine w_go K 3 (c' := (15, [some (.ref 0), some (.int a1), some (.int a2), some (.int a3)], [.int 9, .int 1, .int a2], mT s)) rfl ?_
    refine w_callL K (E := f_G_within a2 (1 : Int32) (9 : Int32) s) (g := fun (x11 : Int32) => (some (.int x11), mT s)) rfl (m_G_within (len := len) (xs := xs) (d + 0) a2 (1 : Int32) (9 : Int32) s) (fun x11 => ?_)
    refine w_go K 0 (c' := (18, [some (.ref 0), some (.int a1), some (.int a2), some (.int a3)], [.int x11], mT s)) rfl ?_
    refine w_zeq K rfl (fun _ => ?_) (fun _ => ?_)
    · refine w_go K 1 (c' := (33, [some (.ref 0), some (.int a1), some (.int a2), some (.int a3)], [.int (-1)], mT s)) rfl ?_
      exact w_ret K rfl (hK _)
    · refine w_go K 3 (c' := (26, [some (.ref 0), some (.int a1), some (.int a2), some (.int a3)], [.int 9, .int (-9), .int a3], mT s)) rfl ?_
      refine w_callL K (E := f_G_within a3 ((-9) : Int32) (9 : Int32) s) (g := fun (x12 : Int32) => (some (.int x12), mT s)) rfl (m_G_within (len := len) (xs := xs) (d + 0) a3 ((-9) : Int32) (9 : Int32) s) (fun x12 => ?_)
      refine w_go K 0 (c' := (29, [some (.ref 0), some (.int a1), some (.int a2), some (.int a3)], [.int x12], mT s)) rfl ?_
      refine w_zne K rfl (fun _ => ?_) (fun _ => ?_)
      · refine w_go K 1 (c' := (33, [some (.ref 0), some (.int a1), some (.int a2), some (.int a3)], [.int (-1)], mT s)) rfl ?_
        exact w_ret K rfl (hK _)
      · refine w_go K 5 (c' := (41, [some (.ref 0), some (.int a1), some (.int a2), some (.int a3)], [.int a3, .int a2, .int a1, .ref 25], mT s)) rfl ?_
        refine w_callL K (E := f_Net_lay a1 a2 a3 s) (g := fun (x13 : Int32 × mS) => (some (.int x13.1), mT x13.2)) rfl (m_Net_lay (len := len) (xs := xs) (d + 0) a1 a2 a3 s) (fun x13 => ?_)
        refine w_go K 0 (c' := (44, [some (.ref 0), some (.int a1), some (.int a2), some (.int a3)], [.int x13.1], mT x13.2)) rfl ?_
        exact w_ret K rfl (hK _)
theorem m_G_node {len : Nat} {xs : Nat → Int32}  (d : Nat) (a1 : Int32) (a2 : Int32) (a3 : Int32) (s : mS) : ok_G_node a1 a2 a3 s → mm_call (mm_X len xs) mm_Y (d + 2) 26 [.ref 0, .int a1, .int a2, .int a3] (mT s) = some (some (.int (f_G_node a1 a2 a3 s).1), mT (f_G_node a1 a2 a3 s).2) := fun h => t_G_node (len := len) (xs := xs) d a1 a2 a3 s (fun t => (some (some (.int t.1), mT t.2) : Option mm_R) = some (some (.int (f_G_node a1 a2 a3 s).1), mT (f_G_node a1 a2 a3 s).2)) (fun _ h => h) h rfl
def f_M_isNode (a1 : Int32) (s : mS) : Int32 := (mq_let (f_M_isIn a1 (0 : Int32) ((gI s 116 7) - 1) s) (fun (x10 : Int32) => x10))
def ok_M_isNode (a1 : Int32) (s : mS) : Prop := (True ∧ mq_letP (f_M_isIn a1 (0 : Int32) ((gI s 116 7) - 1) s) (fun (x10 : Int32) => mm_bit x10 = true))
set_option maxRecDepth 4000 in
theorem t_M_isNode {len : Nat} {xs : Nat → Int32}  (d : Nat) (a1 : Int32) (s : mS) {T : Option mm_R} (K : Int32 → Prop) (hK : ∀ t, K t → some (some (.int t), mT s) = T) : ok_M_isNode a1 s → K (f_M_isNode a1 s) → mm_fix (mm_X len xs) mm_Y (mm_call (mm_X len xs) mm_Y (d + 1)) (mm_look mc_M_isNode) (0, [some (.ref 116), some (.int a1)], [], mT s) = T := by
  unfold ok_M_isNode f_M_isNode
  refine w_go K 6 (c' := (8, [some (.ref 116), some (.int a1)], [.int ((gI s 116 7) - 1), .int 0, .int a1], mT s)) rfl ?_
  refine w_callL K (E := f_M_isIn a1 (0 : Int32) ((gI s 116 7) - 1) s) (g := fun (x10 : Int32) => (some (.int x10), mT s)) rfl (m_M_isIn (len := len) (xs := xs) (d + 0) a1 (0 : Int32) ((gI s 116 7) - 1) s) (fun x10 => ?_)
  refine w_go K 0 (c' := (11, [some (.ref 116), some (.int a1)], [.int x10], mT s)) rfl ?_
  exact w_retb K rfl (hK _)
theorem m_M_isNode {len : Nat} {xs : Nat → Int32}  (d : Nat) (a1 : Int32) (s : mS) : ok_M_isNode a1 s → mm_call (mm_X len xs) mm_Y (d + 2) 171 [.ref 116, .int a1] (mT s) = some (some (.int (f_M_isNode a1 s)), mT s) := fun h => t_M_isNode (len := len) (xs := xs) d a1 s (fun t => (some (some (.int t), mT s) : Option mm_R) = some (some (.int (f_M_isNode a1 s)), mT s)) (fun _ h => h) h rfl
def f_M_node (a1 : Int32) (a2 : Int32) (a3 : Int32) (s : mS) : Int32 × mS := (mq_let (f_M_isNode a1 s) (fun (x10 : Int32) => (if x10 = 0 then ((-1), s) else (mq_let (f_M_isIn a2 (1 : Int32) (9 : Int32) s) (fun (x11 : Int32) => (if x11 = 0 then ((-1), s) else (mq_let (f_M_isIn a3 ((-9) : Int32) (9 : Int32) s) (fun (x12 : Int32) => (if x12 = 0 then ((-1), s) else (if (gI s 116 7) = 16 then ((-1), s) else ((((gI s 116 7) + 1) - 1), sI (sI (sI (sI (sI s 127 (ix (gI s 116 7)) a1) 128 (ix (gI s 116 7)) a2) 129 (ix (gI s 116 7)) a3) 116 102 0) 116 7 ((gI s 116 7) + 1))))))))))))
def ok_M_node (a1 : Int32) (a2 : Int32) (a3 : Int32) (s : mS) : Prop := (ok_M_isNode a1 s ∧ mq_letP (f_M_isNode a1 s) (fun (x10 : Int32) => (if x10 = 0 then True else (True ∧ mq_letP (f_M_isIn a2 (1 : Int32) (9 : Int32) s) (fun (x11 : Int32) => (if x11 = 0 then True else (True ∧ mq_letP (f_M_isIn a3 ((-9) : Int32) (9 : Int32) s) (fun (x12 : Int32) => (if x12 = 0 then True else (if (gI s 116 7) = 16 then True else (mm_inb (gI s 116 7) 16 = true ∧ (mm_inb (gI s 116 7) 16 = true ∧ (mm_inb (gI s 116 7) 16 = true ∧ True)))))))))))))
set_option maxRecDepth 4000 in
theorem t_M_node {len : Nat} {xs : Nat → Int32}  (d : Nat) (a1 : Int32) (a2 : Int32) (a3 : Int32) (s : mS) {T : Option mm_R} (K : Int32 × mS → Prop) (hK : ∀ t, K t → some (some (.int t.1), mT t.2) = T) : ok_M_node a1 a2 a3 s → K (f_M_node a1 a2 a3 s) → mm_fix (mm_X len xs) mm_Y (mm_call (mm_X len xs) mm_Y (d + 2)) (mm_look mc_M_node) (0, [some (.ref 116), some (.int a1), some (.int a2), some (.int a3)], [], mT s) = T := by
  unfold ok_M_node f_M_node
  refine w_go K 2 (c' := (2, [some (.ref 116), some (.int a1), some (.int a2), some (.int a3)], [.int a1, .ref 116], mT s)) rfl ?_
  refine w_callL K (E := f_M_isNode a1 s) (g := fun (x10 : Int32) => (some (.int x10), mT s)) rfl (m_M_isNode (len := len) (xs := xs) (d + 0) a1 s) (fun x10 => ?_)
  refine w_go K 0 (c' := (5, [some (.ref 116), some (.int a1), some (.int a2), some (.int a3)], [.int x10], mT s)) rfl ?_
  refine w_zeq K rfl (fun _ => ?_) (fun _ => ?_)
  · refine w_go K 1 (c' := (39, [some (.ref 116), some (.int a1), some (.int a2), some (.int a3)], [.int (-1)], mT s)) rfl ?_
    exact w_ret K rfl (hK _)
  · refine w_go K 3 (c' := (12, [some (.ref 116), some (.int a1), some (.int a2), some (.int a3)], [.int 9, .int 1, .int a2], mT s)) rfl ?_
    refine w_callL K (E := f_M_isIn a2 (1 : Int32) (9 : Int32) s) (g := fun (x11 : Int32) => (some (.int x11), mT s)) rfl (m_M_isIn (len := len) (xs := xs) (d + 1) a2 (1 : Int32) (9 : Int32) s) (fun x11 => ?_)
    refine w_go K 0 (c' := (15, [some (.ref 116), some (.int a1), some (.int a2), some (.int a3)], [.int x11], mT s)) rfl ?_
    refine w_zeq K rfl (fun _ => ?_) (fun _ => ?_)
    · refine w_go K 1 (c' := (39, [some (.ref 116), some (.int a1), some (.int a2), some (.int a3)], [.int (-1)], mT s)) rfl ?_
      exact w_ret K rfl (hK _)
    · refine w_go K 3 (c' := (23, [some (.ref 116), some (.int a1), some (.int a2), some (.int a3)], [.int 9, .int (-9), .int a3], mT s)) rfl ?_
      refine w_callL K (E := f_M_isIn a3 ((-9) : Int32) (9 : Int32) s) (g := fun (x12 : Int32) => (some (.int x12), mT s)) rfl (m_M_isIn (len := len) (xs := xs) (d + 1) a3 ((-9) : Int32) (9 : Int32) s) (fun x12 => ?_)
      refine w_go K 0 (c' := (26, [some (.ref 116), some (.int a1), some (.int a2), some (.int a3)], [.int x12], mT s)) rfl ?_
      refine w_zeq K rfl (fun _ => ?_) (fun _ => ?_)
      · refine w_go K 1 (c' := (39, [some (.ref 116), some (.int a1), some (.int a2), some (.int a3)], [.int (-1)], mT s)) rfl ?_
        exact w_ret K rfl (hK _)
      · refine w_go K 3 (c' := (35, [some (.ref 116), some (.int a1), some (.int a2), some (.int a3)], [.int 16, .int (gI s 116 7)], mT s)) rfl ?_
        refine w_ine K rfl (fun _ => ?_) (fun _ => ?_)
        · refine w_go K 1 (c' := (39, [some (.ref 116), some (.int a1), some (.int a2), some (.int a3)], [.int (-1)], mT s)) rfl ?_
          exact w_ret K rfl (hK _)
        · refine w_go K 5 (c' := (49, [some (.ref 116), some (.int a1), some (.int a2), some (.int a3)], [.int a1, .int (gI s 116 7), .ref 127], mT s)) rfl ?_
          refine w_ck K (st_iS rfl rfl) ?_
          refine w_go K 5 (c' := (59, [some (.ref 116), some (.int a1), some (.int a2), some (.int a3)], [.int a2, .int (gI s 116 7), .ref 128], mT (sI s 127 (ix (gI s 116 7)) a1))) rfl ?_
          refine w_ck K (st_iS rfl rfl) ?_
          refine w_go K 5 (c' := (69, [some (.ref 116), some (.int a1), some (.int a2), some (.int a3)], [.int a3, .int (gI s 116 7), .ref 129], mT (sI (sI s 127 (ix (gI s 116 7)) a1) 128 (ix (gI s 116 7)) a2))) rfl ?_
          refine w_ck K (st_iS rfl rfl) ?_
          refine w_go K 13 (c' := (91, [some (.ref 116), some (.int a1), some (.int a2), some (.int a3)], [.int (((gI s 116 7) + 1) - 1)], mT (sI (sI (sI (sI (sI s 127 (ix (gI s 116 7)) a1) 128 (ix (gI s 116 7)) a2) 129 (ix (gI s 116 7)) a3) 116 102 0) 116 7 ((gI s 116 7) + 1)))) rfl ?_
          exact w_ret K rfl (hK _)
theorem m_M_node {len : Nat} {xs : Nat → Int32}  (d : Nat) (a1 : Int32) (a2 : Int32) (a3 : Int32) (s : mS) : ok_M_node a1 a2 a3 s → mm_call (mm_X len xs) mm_Y (d + 3) 170 [.ref 116, .int a1, .int a2, .int a3] (mT s) = some (some (.int (f_M_node a1 a2 a3 s).1), mT (f_M_node a1 a2 a3 s).2) := fun h => t_M_node (len := len) (xs := xs) d a1 a2 a3 s (fun t => (some (some (.int t.1), mT t.2) : Option mm_R) = some (some (.int (f_M_node a1 a2 a3 s).1), mT (f_M_node a1 a2 a3 s).2)) (fun _ h => h) h rfl
def f_Net_hasPipe (a1 : Int32) (s : mS) : Int32 := (if a1 ≤ 0 then 0 else (mq_let (f_Net_has a1 s) (fun (x10 : Int32) => (if x10 = 0 then 0 else 1))))
set_option maxRecDepth 4000 in
theorem t_Net_hasPipe {len : Nat} {xs : Nat → Int32}  (d : Nat) (a1 : Int32) (s : mS) {T : Option mm_R} (K : Int32 → Prop) (hK : ∀ t, K t → some (some (.int t), mT s) = T) : True → K (f_Net_hasPipe a1 s) → mm_fix (mm_X len xs) mm_Y (mm_call (mm_X len xs) mm_Y (d + 1)) (mm_look mc_Net_hasPipe) (0, [some (.ref 25), some (.int a1)], [], mT s) = T := by
  unfold f_Net_hasPipe
  refine w_go K 1 (c' := (1, [some (.ref 25), some (.int a1)], [.int a1], mT s)) rfl ?_
  refine w_zleT K rfl (fun _ => ?_) (fun _ => ?_)
  · refine w_go K 1 (c' := (17, [some (.ref 25), some (.int a1)], [.int 0], mT s)) rfl ?_
    exact w_ret K rfl (hK _)
  · refine w_go K 2 (c' := (6, [some (.ref 25), some (.int a1)], [.int a1, .ref 25], mT s)) rfl ?_
    refine w_callLT K (E := f_Net_has a1 s) (g := fun (x10 : Int32) => (some (.int x10), mT s)) rfl (m_Net_has (len := len) (xs := xs) (d + 0) a1 s) (fun x10 => ?_)
    refine w_go K 0 (c' := (9, [some (.ref 25), some (.int a1)], [.int x10], mT s)) rfl ?_
    refine w_zeqT K rfl (fun _ => ?_) (fun _ => ?_)
    · refine w_go K 1 (c' := (17, [some (.ref 25), some (.int a1)], [.int 0], mT s)) rfl ?_
      exact w_ret K rfl (hK _)
    · refine w_go K 2 (c' := (17, [some (.ref 25), some (.int a1)], [.int 1], mT s)) rfl ?_
      exact w_ret K rfl (hK _)
theorem m_Net_hasPipe {len : Nat} {xs : Nat → Int32}  (d : Nat) (a1 : Int32) (s : mS) : True → mm_call (mm_X len xs) mm_Y (d + 2) 30 [.ref 25, .int a1] (mT s) = some (some (.int (f_Net_hasPipe a1 s)), mT s) := fun h => t_Net_hasPipe (len := len) (xs := xs) d a1 s (fun t => (some (some (.int t), mT s) : Option mm_R) = some (some (.int (f_Net_hasPipe a1 s)), mT s)) (fun _ h => h) h rfl
def f_G_water (a1 : Int32) (a2 : Int32) (s : mS) : Int32 × mS := (mq_let (f_Net_hasPipe a1 s) (fun (x10 : Int32) => (if x10 = 0 then (0, s) else (if (gI s 29 (ix a1)) = a2 then (0, s) else (1, sI s 29 (ix a1) a2)))))
def ok_G_water (a1 : Int32) (a2 : Int32) (s : mS) : Prop := (True ∧ mq_letP (f_Net_hasPipe a1 s) (fun (x10 : Int32) => (if x10 = 0 then True else (mm_inb a1 16 = true ∧ (if (gI s 29 (ix a1)) = a2 then True else ((mm_inb a1 16 && mm_bit a2) = true ∧ True))))))
set_option maxRecDepth 4000 in
theorem t_G_water {len : Nat} {xs : Nat → Int32}  (d : Nat) (a1 : Int32) (a2 : Int32) (s : mS) {T : Option mm_R} (K : Int32 × mS → Prop) (hK : ∀ t, K t → some (some (.int t.1), mT t.2) = T) : ok_G_water a1 a2 s → K (f_G_water a1 a2 s) → mm_fix (mm_X len xs) mm_Y (mm_call (mm_X len xs) mm_Y (d + 2)) (mm_look mc_G_water) (0, [some (.ref 0), some (.int a1), some (.int a2)], [], mT s) = T := by
  unfold ok_G_water f_G_water
  refine w_go K 3 (c' := (5, [some (.ref 0), some (.int a1), some (.int a2)], [.int a1, .ref 25], mT s)) rfl ?_
  refine w_callL K (E := f_Net_hasPipe a1 s) (g := fun (x10 : Int32) => (some (.int x10), mT s)) rfl (m_Net_hasPipe (len := len) (xs := xs) (d + 0) a1 s) (fun x10 => ?_)
  refine w_go K 0 (c' := (8, [some (.ref 0), some (.int a1), some (.int a2)], [.int x10], mT s)) rfl ?_
  refine w_zeq K rfl (fun _ => ?_) (fun _ => ?_)
  · refine w_go K 1 (c' := (25, [some (.ref 0), some (.int a1), some (.int a2)], [.int 0], mT s)) rfl ?_
    exact w_ret K rfl (hK _)
  · refine w_go K 4 (c' := (19, [some (.ref 0), some (.int a1), some (.int a2)], [.int a1, .ref 29], mT s)) rfl ?_
    refine w_ck K (st_bL rfl rfl) ?_
    refine w_go K 1 (c' := (21, [some (.ref 0), some (.int a1), some (.int a2)], [.int a2, .int (gI s 29 (ix a1))], mT s)) rfl ?_
    refine w_ine K rfl (fun _ => ?_) (fun _ => ?_)
    · refine w_go K 1 (c' := (25, [some (.ref 0), some (.int a1), some (.int a2)], [.int 0], mT s)) rfl ?_
      exact w_ret K rfl (hK _)
    · refine w_go K 5 (c' := (35, [some (.ref 0), some (.int a1), some (.int a2)], [.int a2, .int a1, .ref 29], mT s)) rfl ?_
      refine w_ck K (st_bS rfl rfl) ?_
      refine w_go K 1 (c' := (37, [some (.ref 0), some (.int a1), some (.int a2)], [.int 1], mT (sI s 29 (ix a1) a2))) rfl ?_
      exact w_ret K rfl (hK _)
theorem m_G_water {len : Nat} {xs : Nat → Int32}  (d : Nat) (a1 : Int32) (a2 : Int32) (s : mS) : ok_G_water a1 a2 s → mm_call (mm_X len xs) mm_Y (d + 3) 29 [.ref 0, .int a1, .int a2] (mT s) = some (some (.int (f_G_water a1 a2 s).1), mT (f_G_water a1 a2 s).2) := fun h => t_G_water (len := len) (xs := xs) d a1 a2 s (fun t => (some (some (.int t.1), mT t.2) : Option mm_R) = some (some (.int (f_G_water a1 a2 s).1), mT (f_G_water a1 a2 s).2)) (fun _ h => h) h rfl
def f_M_water (a1 : Int32) (a2 : Int32) (s : mS) : Int32 × mS := (mq_let (f_M_isIn a1 (1 : Int32) ((gI s 116 7) - 1) s) (fun (x10 : Int32) => (if x10 = 0 then (0, s) else (if (gI s 130 (ix a1)) = a2 then (0, s) else (1, sI s 130 (ix a1) a2)))))
def ok_M_water (a1 : Int32) (a2 : Int32) (s : mS) : Prop := (True ∧ mq_letP (f_M_isIn a1 (1 : Int32) ((gI s 116 7) - 1) s) (fun (x10 : Int32) => (if x10 = 0 then True else (mm_inb a1 16 = true ∧ (if (gI s 130 (ix a1)) = a2 then True else ((mm_inb a1 16 && mm_bit a2) = true ∧ True))))))
set_option maxRecDepth 4000 in
theorem t_M_water {len : Nat} {xs : Nat → Int32}  (d : Nat) (a1 : Int32) (a2 : Int32) (s : mS) {T : Option mm_R} (K : Int32 × mS → Prop) (hK : ∀ t, K t → some (some (.int t.1), mT t.2) = T) : ok_M_water a1 a2 s → K (f_M_water a1 a2 s) → mm_fix (mm_X len xs) mm_Y (mm_call (mm_X len xs) mm_Y (d + 1)) (mm_look mc_M_water) (0, [some (.ref 116), some (.int a1), some (.int a2)], [], mT s) = T := by
  unfold ok_M_water f_M_water
  refine w_go K 6 (c' := (8, [some (.ref 116), some (.int a1), some (.int a2)], [.int ((gI s 116 7) - 1), .int 1, .int a1], mT s)) rfl ?_
  refine w_callL K (E := f_M_isIn a1 (1 : Int32) ((gI s 116 7) - 1) s) (g := fun (x10 : Int32) => (some (.int x10), mT s)) rfl (m_M_isIn (len := len) (xs := xs) (d + 0) a1 (1 : Int32) ((gI s 116 7) - 1) s) (fun x10 => ?_)
  refine w_go K 0 (c' := (11, [some (.ref 116), some (.int a1), some (.int a2)], [.int x10], mT s)) rfl ?_
  refine w_zeq K rfl (fun _ => ?_) (fun _ => ?_)
  · refine w_go K 1 (c' := (25, [some (.ref 116), some (.int a1), some (.int a2)], [.int 0], mT s)) rfl ?_
    exact w_ret K rfl (hK _)
  · refine w_go K 3 (c' := (19, [some (.ref 116), some (.int a1), some (.int a2)], [.int a1, .ref 130], mT s)) rfl ?_
    refine w_ck K (st_bL rfl rfl) ?_
    refine w_go K 1 (c' := (21, [some (.ref 116), some (.int a1), some (.int a2)], [.int a2, .int (gI s 130 (ix a1))], mT s)) rfl ?_
    refine w_ine K rfl (fun _ => ?_) (fun _ => ?_)
    · refine w_go K 1 (c' := (25, [some (.ref 116), some (.int a1), some (.int a2)], [.int 0], mT s)) rfl ?_
      exact w_ret K rfl (hK _)
    · refine w_go K 4 (c' := (32, [some (.ref 116), some (.int a1), some (.int a2)], [.int a2, .int a1, .ref 130], mT s)) rfl ?_
      refine w_ck K (st_bS rfl rfl) ?_
      refine w_go K 1 (c' := (34, [some (.ref 116), some (.int a1), some (.int a2)], [.int 1], mT (sI s 130 (ix a1) a2))) rfl ?_
      exact w_ret K rfl (hK _)
theorem m_M_water {len : Nat} {xs : Nat → Int32}  (d : Nat) (a1 : Int32) (a2 : Int32) (s : mS) : ok_M_water a1 a2 s → mm_call (mm_X len xs) mm_Y (d + 2) 172 [.ref 116, .int a1, .int a2] (mT s) = some (some (.int (f_M_water a1 a2 s).1), mT (f_M_water a1 a2 s).2) := fun h => t_M_water (len := len) (xs := xs) d a1 a2 s (fun t => (some (some (.int t.1), mT t.2) : Option mm_R) = some (some (.int (f_M_water a1 a2 s).1), mT (f_M_water a1 a2 s).2)) (fun _ h => h) h rfl
def f_Things_put (a1 : Int32) (a2 : Int32) (a3 : Int32) (a4 : Int32) (s : mS) : Int32 × mS := (if (gI s 12 12) < 40 then ((gI s 12 12), sI (sI (sI (sI (sI s 13 (ix (gI s 12 12)) a1) 14 (ix (gI s 12 12)) a2) 15 (ix (gI s 12 12)) a3) 16 (ix (gI s 12 12)) a4) 12 12 ((gI s 12 12) + 1)) else ((-1), s))
def ok_Things_put (a1 : Int32) (a2 : Int32) (a3 : Int32) (a4 : Int32) (s : mS) : Prop := (if (gI s 12 12) < 40 then (mm_inb (gI s 12 12) 40 = true ∧ (mm_inb (gI s 12 12) 40 = true ∧ (mm_inb (gI s 12 12) 40 = true ∧ (mm_inb (gI s 12 12) 40 = true ∧ True)))) else True)
set_option maxRecDepth 4000 in
theorem t_Things_put {len : Nat} {xs : Nat → Int32}  (d : Nat) (a1 : Int32) (a2 : Int32) (a3 : Int32) (a4 : Int32) (s : mS) {T : Option mm_R} (K : Int32 × mS → Prop) (hK : ∀ t, K t → some (some (.int t.1), mT t.2) = T) : ok_Things_put a1 a2 a3 a4 s → K (f_Things_put a1 a2 a3 a4 s) → mm_fix (mm_X len xs) mm_Y (mm_call (mm_X len xs) mm_Y (d + 0)) (mm_look mc_Things_put) (0, [some (.ref 12), some (.int a1), some (.int a2), some (.int a3), some (.int a4)], [], mT s) = T := by
  unfold ok_Things_put f_Things_put
  refine w_go K 3 (c' := (6, [some (.ref 12), some (.int a1), some (.int a2), some (.int a3), some (.int a4)], [.int 40, .int (gI s 12 12)], mT s)) rfl ?_
  refine w_ilt K rfl (fun _ => ?_) (fun _ => ?_)
  · refine w_go K 5 (c' := (20, [some (.ref 12), some (.int a1), some (.int a2), some (.int a3), some (.int a4)], [.int a1, .int (gI s 12 12), .ref 13], mT s)) rfl ?_
    refine w_ck K (st_iS rfl rfl) ?_
    refine w_go K 5 (c' := (30, [some (.ref 12), some (.int a1), some (.int a2), some (.int a3), some (.int a4)], [.int a2, .int (gI s 12 12), .ref 14], mT (sI s 13 (ix (gI s 12 12)) a1))) rfl ?_
    refine w_ck K (st_iS rfl rfl) ?_
    refine w_go K 5 (c' := (40, [some (.ref 12), some (.int a1), some (.int a2), some (.int a3), some (.int a4)], [.int a3, .int (gI s 12 12), .ref 15], mT (sI (sI s 13 (ix (gI s 12 12)) a1) 14 (ix (gI s 12 12)) a2))) rfl ?_
    refine w_ck K (st_iS rfl rfl) ?_
    refine w_go K 5 (c' := (51, [some (.ref 12), some (.int a1), some (.int a2), some (.int a3), some (.int a4)], [.int a4, .int (gI s 12 12), .ref 16], mT (sI (sI (sI s 13 (ix (gI s 12 12)) a1) 14 (ix (gI s 12 12)) a2) 15 (ix (gI s 12 12)) a3))) rfl ?_
    refine w_ck K (st_iS rfl rfl) ?_
    refine w_go K 7 (c' := (63, [some (.ref 12), some (.int a1), some (.int a2), some (.int a3), some (.int a4)], [.int (gI s 12 12)], mT (sI (sI (sI (sI (sI s 13 (ix (gI s 12 12)) a1) 14 (ix (gI s 12 12)) a2) 15 (ix (gI s 12 12)) a3) 16 (ix (gI s 12 12)) a4) 12 12 ((gI s 12 12) + 1)))) rfl ?_
    exact w_ret K rfl (hK _)
  · refine w_go K 1 (c' := (10, [some (.ref 12), some (.int a1), some (.int a2), some (.int a3), some (.int a4)], [.int (-1)], mT s)) rfl ?_
    exact w_ret K rfl (hK _)
theorem m_Things_put {len : Nat} {xs : Nat → Int32}  (d : Nat) (a1 : Int32) (a2 : Int32) (a3 : Int32) (a4 : Int32) (s : mS) : ok_Things_put a1 a2 a3 a4 s → mm_call (mm_X len xs) mm_Y (d + 1) 32 [.ref 12, .int a1, .int a2, .int a3, .int a4] (mT s) = some (some (.int (f_Things_put a1 a2 a3 a4 s).1), mT (f_Things_put a1 a2 a3 a4 s).2) := fun h => t_Things_put (len := len) (xs := xs) d a1 a2 a3 a4 s (fun t => (some (some (.int t.1), mT t.2) : Option mm_R) = some (some (.int (f_Things_put a1 a2 a3 a4 s).1), mT (f_Things_put a1 a2 a3 a4 s).2)) (fun _ h => h) h rfl
