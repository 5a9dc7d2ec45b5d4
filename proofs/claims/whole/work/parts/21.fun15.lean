/-! FUNCTIONS OF METHODS, by program: f_ what it does, ok_ that no row fails, m_ the small machine does so. -/
def lp_Night_plan_18 (a2 : Int32) (a3 : Int32) : Nat → Int32 → mS → Int32 × mS
  | 0, v4, s => (v4, s)
  | n + 1, v4, s => (if (16 : Int32) < v4 then (v4, s) else (mq_let (f_Works_gasOf (a3 * (gI s 4 (ix a2))) v4 s) (fun (x11 : Int32) => (lp_Night_plan_18 a2 a3 n (v4 + 1) (sI s 97 (ix v4) x11)))))
def okl_Night_plan_18 (a2 : Int32) (a3 : Int32) : Nat → Int32 → mS → Prop
  | 0, v4, s => False
  | n + 1, v4, s => (if (16 : Int32) < v4 then True else (mm_inb a2 3 = true ∧ (ok_Works_gasOf (a3 * (gI s 4 (ix a2))) v4 s ∧ mq_letP (f_Works_gasOf (a3 * (gI s 4 (ix a2))) v4 s) (fun (x11 : Int32) => (mm_inb v4 17 = true ∧ (okl_Night_plan_18 a2 a3 n (v4 + 1) (sI s 97 (ix v4) x11)))))))
set_option maxRecDepth 4000 in
theorem tl_Night_plan_18 {len : Nat} {xs : Nat → Int32}  (d : Nat) (a2 : Int32) (a3 : Int32)  {T : Option mm_R} (K : Int32 × mS → Prop) (hX : ∀ r, K r → ∀ (o5 : Option Value), mm_fix (mm_X len xs) mm_Y (mm_call (mm_X len xs) mm_Y (d + 27)) (mm_look mc_Night_plan) (51, [some (.ref 94), some (.ref 3), some (.int a2), some (.int a3), some (.int r.1), o5], [], mT r.2) = T) : ∀ (n : Nat), ∀ (v4 : Int32) (o5 : Option Value) (s : mS), okl_Night_plan_18 a2 a3 n v4 s → K (lp_Night_plan_18 a2 a3 n v4 s) → mm_fix (mm_X len xs) mm_Y (mm_call (mm_X len xs) mm_Y (d + 27)) (mm_look mc_Night_plan) (18, [some (.ref 94), some (.ref 3), some (.int a2), some (.int a3), some (.int v4), o5], [], mT s) = T := by
  intro n
  induction n with
  | zero => intro v4 o5 s; exact fun h => h.elim
  | succ n ih =>
    intro v4 o5 s
    rw [okl_Night_plan_18, lp_Night_plan_18]
    refine w_go K 2 (c' := (22, [some (.ref 94), some (.ref 3), some (.int a2), some (.int a3), some (.int v4), o5], [.int 16, .int v4], mT s)) rfl ?_
    refine w_igt K rfl (fun _ => ?_) (fun _ => ?_)
    · refine w_go K 0 (c' := (51, [some (.ref 94), some (.ref 3), some (.int a2), some (.int a3), some (.int v4), o5], [], mT s)) rfl ?_
      exact fun _ b => hX _ b _
    · refine w_go K 7 (c' := (37, [some (.ref 94), some (.ref 3), some (.int a2), some (.int a3), some (.int v4), o5], [.int a2, .ref 4, .int a3, .int v4, .ref 97], mT s)) rfl ?_
      refine w_ck K (st_iL rfl rfl) ?_
      refine w_go K 2 (c' := (41, [some (.ref 94), some (.ref 3), some (.int a2), some (.int a3), some (.int v4), o5], [.int v4, .int (a3 * (gI s 4 (ix a2))), .int v4, .ref 97], mT s)) rfl ?_
      refine w_callL K (E := f_Works_gasOf (a3 * (gI s 4 (ix a2))) v4 s) (g := fun (x11 : Int32) => (some (.int x11), mT s)) rfl (m_Works_gasOf (len := len) (xs := xs) (d + 26) (a3 * (gI s 4 (ix a2))) v4 s) (fun x11 => ?_)
      refine w_go K 0 (c' := (44, [some (.ref 94), some (.ref 3), some (.int a2), some (.int a3), some (.int v4), o5], [.int x11, .int v4, .ref 97], mT s)) rfl ?_
      refine w_ck K (st_iS rfl rfl) ?_
      refine w_go K 2 (c' := (18, [some (.ref 94), some (.ref 3), some (.int a2), some (.int a3), some (.int (v4 + 1)), o5], [], mT (sI s 97 (ix v4) x11))) rfl ?_
      exact fun a b => ih (v4 + 1) _ (sI s 97 (ix v4) x11) a b
def lp_Night_plan_62 (a2 : Int32) (a3 : Int32) (a4 : Int32) : Nat → Int32 → mS → Int32 × mS
  | 0, v5, s => (v5, s)
  | n + 1, v5, s => (if (8 : Int32) ≤ v5 then (v5, s) else (mq_let (if v5 = 0 then (a4 - (gI s 3 10)) else a4) (fun (x14 : Int32) => (mq_let (f_Works_coldLater (v5 * 4) (sI s 98 (ix v5) x14)) (fun (x15 : Int32) => (lp_Night_plan_62 a2 a3 a4 n (v5 + 1) (sI (sI s 98 (ix v5) x14) 99 (ix v5) x15)))))))
def okl_Night_plan_62 (a2 : Int32) (a3 : Int32) (a4 : Int32) : Nat → Int32 → mS → Prop
  | 0, v5, s => False
  | n + 1, v5, s => (if (8 : Int32) ≤ v5 then True else (True ∧ mq_letP (if v5 = 0 then (a4 - (gI s 3 10)) else a4) (fun (x14 : Int32) => (mm_inb v5 8 = true ∧ (ok_Works_coldLater (v5 * 4) (sI s 98 (ix v5) x14) ∧ mq_letP (f_Works_coldLater (v5 * 4) (sI s 98 (ix v5) x14)) (fun (x15 : Int32) => (mm_inb v5 8 = true ∧ (okl_Night_plan_62 a2 a3 a4 n (v5 + 1) (sI (sI s 98 (ix v5) x14) 99 (ix v5) x15)))))))))
set_option maxRecDepth 4000 in
theorem tl_Night_plan_62 {len : Nat} {xs : Nat → Int32}  (d : Nat) (a2 : Int32) (a3 : Int32) (a4 : Int32)  {T : Option mm_R} (K : Int32 × mS → Prop) (hX : ∀ r, K r → mm_fix (mm_X len xs) mm_Y (mm_call (mm_X len xs) mm_Y (d + 27)) (mm_look mc_Night_plan) (114, [some (.ref 94), some (.ref 3), some (.int a2), some (.int a3), some (.int a4), some (.int r.1)], [], mT r.2) = T) : ∀ (n : Nat), ∀ (v5 : Int32) (s : mS), okl_Night_plan_62 a2 a3 a4 n v5 s → K (lp_Night_plan_62 a2 a3 a4 n v5 s) → mm_fix (mm_X len xs) mm_Y (mm_call (mm_X len xs) mm_Y (d + 27)) (mm_look mc_Night_plan) (62, [some (.ref 94), some (.ref 3), some (.int a2), some (.int a3), some (.int a4), some (.int v5)], [], mT s) = T := by
  intro n
  induction n with
  | zero => intro v5 s; exact fun h => h.elim
  | succ n ih =>
    intro v5 s
    rw [okl_Night_plan_62, lp_Night_plan_62]
    refine w_go K 2 (c' := (66, [some (.ref 94), some (.ref 3), some (.int a2), some (.int a3), some (.int a4), some (.int v5)], [.int 8, .int v5], mT s)) rfl ?_
    refine w_ige K rfl (fun _ => ?_) (fun _ => ?_)
    · refine w_go K 0 (c' := (114, [some (.ref 94), some (.ref 3), some (.int a2), some (.int a3), some (.int a4), some (.int v5)], [], mT s)) rfl ?_
      exact fun _ b => hX _ b
    · refine w_go K 4 (c' := (77, [some (.ref 94), some (.ref 3), some (.int a2), some (.int a3), some (.int a4), some (.int v5)], [.int v5, .int v5, .ref 98], mT s)) rfl ?_
      refine w_join K (fun (x14 : Int32) => mm_fix (mm_X len xs) mm_Y (mm_call (mm_X len xs) mm_Y (d + 27)) (mm_look mc_Night_plan) (92, [some (.ref 94), some (.ref 3), some (.int a2), some (.int a3), some (.int a4), some (.int v5)], [.int x14, .int v5, .ref 98], mT s) = T) (fun K hJ => ?_) (fun x14 h1 h2 => ?_)
      · refine w_go K 0 (c' := (77, [some (.ref 94), some (.ref 3), some (.int a2), some (.int a3), some (.int a4), some (.int v5)], [.int v5, .int v5, .ref 98], mT s)) rfl ?_
        refine w_zneT K rfl (fun _ => ?_) (fun _ => ?_)
        · refine w_go K 5 (c' := (92, [some (.ref 94), some (.ref 3), some (.int a2), some (.int a3), some (.int a4), some (.int v5)], [.int (a4 - (gI s 3 10)), .int v5, .ref 98], mT s)) rfl ?_
          exact fun _ h => hJ _ h
        · refine w_go K 1 (c' := (92, [some (.ref 94), some (.ref 3), some (.int a2), some (.int a3), some (.int a4), some (.int v5)], [.int a4, .int v5, .ref 98], mT s)) rfl ?_
          exact fun _ h => hJ _ h
      · revert h1 h2
        refine w_go K 0 (c' := (92, [some (.ref 94), some (.ref 3), some (.int a2), some (.int a3), some (.int a4), some (.int v5)], [.int x14, .int v5, .ref 98], mT s)) rfl ?_
        refine w_ck K (st_iS rfl rfl) ?_
        refine w_go K 7 (c' := (104, [some (.ref 94), some (.ref 3), some (.int a2), some (.int a3), some (.int a4), some (.int v5)], [.int (v5 * 4), .ref 3, .int v5, .ref 99], mT (sI s 98 (ix v5) x14))) rfl ?_
        refine w_callL K (E := f_Works_coldLater (v5 * 4) (sI s 98 (ix v5) x14)) (g := fun (x15 : Int32) => (some (.int x15), mT (sI s 98 (ix v5) x14))) rfl (m_Works_coldLater (len := len) (xs := xs) (d + 26) (v5 * 4) (sI s 98 (ix v5) x14)) (fun x15 => ?_)
        refine w_go K 0 (c' := (107, [some (.ref 94), some (.ref 3), some (.int a2), some (.int a3), some (.int a4), some (.int v5)], [.int x15, .int v5, .ref 99], mT (sI s 98 (ix v5) x14))) rfl ?_
        refine w_ck K (st_iS rfl rfl) ?_
        refine w_go K 2 (c' := (62, [some (.ref 94), some (.ref 3), some (.int a2), some (.int a3), some (.int a4), some (.int (v5 + 1))], [], mT (sI (sI s 98 (ix v5) x14) 99 (ix v5) x15))) rfl ?_
        exact fun a b => ih (v5 + 1) (sI (sI s 98 (ix v5) x14) 99 (ix v5) x15) a b
def f_Night_plan (a2 : Int32) (a3 : Int32) (s : mS) : Int32 × mS := (mq_let (f_Works_isCoal a2 s) (fun (x10 : Int32) => (if x10 = 0 then (0, s) else (if (1 : Int32) ≤ a3 then (mq_let (lp_Night_plan_18 a2 a3 mm_N (0 : Int32) s) (fun (x12 : Int32 × mS) => (mq_let (lp_Night_plan_62 a2 a3 ((gI x12.2 3 9) / 3) mm_N (0 : Int32) x12.2) (fun (x16 : Int32 × mS) => (mq_let (f_Night_seekT (0 : Int32) (0 : Int32) (gI x16.2 3 12) (sI (sI (sI x16.2 94 7 ((gI x16.2 7 (ix a2)) / a3)) 94 8 (gI x16.2 3 11)) 94 9 1000)) (fun (x17 : mS) => (if (1000 : Int32) ≤ (gI x17 94 9) then (0, x17) else (1, x17)))))))) else (0, s)))))
def ok_Night_plan (a2 : Int32) (a3 : Int32) (s : mS) : Prop := (True ∧ mq_letP (f_Works_isCoal a2 s) (fun (x10 : Int32) => (if x10 = 0 then True else (if (1 : Int32) ≤ a3 then (okl_Night_plan_18 a2 a3 mm_N (0 : Int32) s ∧ mq_letP (lp_Night_plan_18 a2 a3 mm_N (0 : Int32) s) (fun (x12 : Int32 × mS) => (okl_Night_plan_62 a2 a3 ((gI x12.2 3 9) / 3) mm_N (0 : Int32) x12.2 ∧ mq_letP (lp_Night_plan_62 a2 a3 ((gI x12.2 3 9) / 3) mm_N (0 : Int32) x12.2) (fun (x16 : Int32 × mS) => (mm_inb a2 3 = true ∧ ((!(decide (a3 = (0 : Int32)))) = true ∧ (ok_Night_seekT (0 : Int32) (0 : Int32) (gI x16.2 3 12) (sI (sI (sI x16.2 94 7 ((gI x16.2 7 (ix a2)) / a3)) 94 8 (gI x16.2 3 11)) 94 9 1000) ∧ mq_letP (f_Night_seekT (0 : Int32) (0 : Int32) (gI x16.2 3 12) (sI (sI (sI x16.2 94 7 ((gI x16.2 7 (ix a2)) / a3)) 94 8 (gI x16.2 3 11)) 94 9 1000)) (fun (x17 : mS) => True)))))))) else True))))
set_option maxRecDepth 4000 in
theorem t_Night_plan {len : Nat} {xs : Nat → Int32}  (d : Nat) (a2 : Int32) (a3 : Int32) (s : mS) {T : Option mm_R} (K : Int32 × mS → Prop) (hK : ∀ t, K t → some (some (.int t.1), mT t.2) = T) : ok_Night_plan a2 a3 s → K (f_Night_plan a2 a3 s) → mm_fix (mm_X len xs) mm_Y (mm_call (mm_X len xs) mm_Y (d + 27)) (mm_look mc_Night_plan) (0, [some (.ref 94), some (.ref 3), some (.int a2), some (.int a3), none, none], [], mT s) = T := by
  unfold ok_Night_plan f_Night_plan
  refine w_go K 2 (c' := (2, [some (.ref 94), some (.ref 3), some (.int a2), some (.int a3), none, none], [.int a2, .ref 3], mT s)) rfl ?_
  refine w_callL K (E := f_Works_isCoal a2 s) (g := fun (x10 : Int32) => (some (.int x10), mT s)) rfl (m_Works_isCoal (len := len) (xs := xs) (d + 26) a2 s) (fun x10 => ?_)
  refine w_go K 0 (c' := (5, [some (.ref 94), some (.ref 3), some (.int a2), some (.int a3), none, none], [.int x10], mT s)) rfl ?_
  refine w_zeq K rfl (fun _ => ?_) (fun _ => ?_)
  · refine w_go K 1 (c' := (14, [some (.ref 94), some (.ref 3), some (.int a2), some (.int a3), none, none], [.int 0], mT s)) rfl ?_
    exact w_ret K rfl (hK _)
  · refine w_go K 2 (c' := (10, [some (.ref 94), some (.ref 3), some (.int a2), some (.int a3), none, none], [.int 1, .int a3], mT s)) rfl ?_
    refine w_ige K rfl (fun _ => ?_) (fun _ => ?_)
    · refine w_go K 2 (c' := (18, [some (.ref 94), some (.ref 3), some (.int a2), some (.int a3), some (.int 0), none], [], mT s)) rfl ?_
      refine w_join K (fun (x12 : Int32 × mS) => ∀ (q13 : Option Value), mm_fix (mm_X len xs) mm_Y (mm_call (mm_X len xs) mm_Y (d + 27)) (mm_look mc_Night_plan) (51, [some (.ref 94), some (.ref 3), some (.int a2), some (.int a3), some (.int x12.1), q13], [], mT x12.2) = T) (fun K hJ => tl_Night_plan_18 (len := len) (xs := xs) d a2 a3 (T := T) K hJ mm_N (0 : Int32) _ s) (fun x12 h1 h2 q13 => ?_)
      revert h1 h2
      refine w_go K 7 (c' := (62, [some (.ref 94), some (.ref 3), some (.int a2), some (.int a3), some (.int ((gI x12.2 3 9) / 3)), some (.int 0)], [], mT x12.2)) rfl ?_
      refine w_join K (fun (x16 : Int32 × mS) => mm_fix (mm_X len xs) mm_Y (mm_call (mm_X len xs) mm_Y (d + 27)) (mm_look mc_Night_plan) (114, [some (.ref 94), some (.ref 3), some (.int a2), some (.int a3), some (.int ((gI x12.2 3 9) / 3)), some (.int x16.1)], [], mT x16.2) = T) (fun K hJ => tl_Night_plan_62 (len := len) (xs := xs) d a2 a3 ((gI x12.2 3 9) / 3) (T := T) K hJ mm_N (0 : Int32) x12.2) (fun x16 h1 h2 => ?_)
      revert h1 h2
      refine w_go K 4 (c' := (120, [some (.ref 94), some (.ref 3), some (.int a2), some (.int a3), some (.int ((gI x12.2 3 9) / 3)), some (.int x16.1)], [.int a2, .ref 7, .ref 94], mT x16.2)) rfl ?_
      refine w_ck K (st_iL rfl rfl) ?_
      refine w_go K 1 (c' := (122, [some (.ref 94), some (.ref 3), some (.int a2), some (.int a3), some (.int ((gI x12.2 3 9) / 3)), some (.int x16.1)], [.int a3, .int (gI x16.2 7 (ix a2)), .ref 94], mT x16.2)) rfl ?_
      refine w_ck K rfl ?_
      refine w_go K 13 (c' := (148, [some (.ref 94), some (.ref 3), some (.int a2), some (.int a3), some (.int ((gI x12.2 3 9) / 3)), some (.int x16.1)], [.int (gI x16.2 3 12), .int 0, .int 0, .ref 94], mT (sI (sI (sI x16.2 94 7 ((gI x16.2 7 (ix a2)) / a3)) 94 8 (gI x16.2 3 11)) 94 9 1000))) rfl ?_
      refine w_callL K (E := f_Night_seekT (0 : Int32) (0 : Int32) (gI x16.2 3 12) (sI (sI (sI x16.2 94 7 ((gI x16.2 7 (ix a2)) / a3)) 94 8 (gI x16.2 3 11)) 94 9 1000)) (g := fun (x17 : mS) => (none, mT x17)) rfl (m_Night_seekT (len := len) (xs := xs) (d + 0) (0 : Int32) (0 : Int32) (gI x16.2 3 12) (sI (sI (sI x16.2 94 7 ((gI x16.2 7 (ix a2)) / a3)) 94 8 (gI x16.2 3 11)) 94 9 1000)) (fun x17 => ?_)
      refine w_go K 3 (c' := (158, [some (.ref 94), some (.ref 3), some (.int a2), some (.int a3), some (.int ((gI x12.2 3 9) / 3)), some (.int x16.1)], [.int 1000, .int (gI x17 94 9)], mT x17)) rfl ?_
      refine w_igeT K rfl (fun _ => ?_) (fun _ => ?_)
      · refine w_go K 1 (c' := (166, [some (.ref 94), some (.ref 3), some (.int a2), some (.int a3), some (.int ((gI x12.2 3 9) / 3)), some (.int x16.1)], [.int 0], mT x17)) rfl ?_
        exact w_ret K rfl (hK _)
      · refine w_go K 2 (c' := (166, [some (.ref 94), some (.ref 3), some (.int a2), some (.int a3), some (.int ((gI x12.2 3 9) / 3)), some (.int x16.1)], [.int 1], mT x17)) rfl ?_
        exact w_ret K rfl (hK _)
    · refine w_go K 1 (c' := (14, [some (.ref 94), some (.ref 3), some (.int a2), some (.int a3), none, none], [.int 0], mT s)) rfl ?_
      exact w_ret K rfl (hK _)
theorem m_Night_plan {len : Nat} {xs : Nat → Int32}  (d : Nat) (a2 : Int32) (a3 : Int32) (s : mS) : ok_Night_plan a2 a3 s → mm_call (mm_X len xs) mm_Y (d + 28) 130 [.ref 94, .ref 3, .int a2, .int a3] (mT s) = some (some (.int (f_Night_plan a2 a3 s).1), mT (f_Night_plan a2 a3 s).2) := fun h => t_Night_plan (len := len) (xs := xs) d a2 a3 s (fun t => (some (some (.int t.1), mT t.2) : Option mm_R) = some (some (.int (f_Night_plan a2 a3 s).1), mT (f_Night_plan a2 a3 s).2)) (fun _ h => h) h rfl
def f_G_best (a1 : Int32) (a2 : Int32) (a3 : Int32) (s : mS) : Int32 × mS := (mq_let (f_Works_isCoal a1 s) (fun (x10 : Int32) => (if x10 = 0 then ((-1), s) else (mq_let (f_G_within a2 (1 : Int32) (9 : Int32) s) (fun (x11 : Int32) => (if x11 = 0 then ((-1), s) else (mq_let (f_G_within a3 (0 : Int32) (8 : Int32) s) (fun (x12 : Int32) => (if x12 = 0 then ((-1), s) else (mq_let (f_Night_foresee (gI s 0 9) s) (fun (x13 : mS) => (mq_let (f_Night_plan a1 a2 x13) (fun (x14 : Int32 × mS) => (if x14.1 = 0 then ((-1), x14.2) else (if a3 = 0 then ((gI x14.2 94 9), x14.2) else ((gI x14.2 101 (ix (a3 - 1))), x14.2))))))))))))))))
def ok_G_best (a1 : Int32) (a2 : Int32) (a3 : Int32) (s : mS) : Prop := (True ∧ mq_letP (f_Works_isCoal a1 s) (fun (x10 : Int32) => (if x10 = 0 then True else (True ∧ mq_letP (f_G_within a2 (1 : Int32) (9 : Int32) s) (fun (x11 : Int32) => (if x11 = 0 then True else (True ∧ mq_letP (f_G_within a3 (0 : Int32) (8 : Int32) s) (fun (x12 : Int32) => (if x12 = 0 then True else (ok_Night_foresee (gI s 0 9) s ∧ mq_letP (f_Night_foresee (gI s 0 9) s) (fun (x13 : mS) => (ok_Night_plan a1 a2 x13 ∧ mq_letP (f_Night_plan a1 a2 x13) (fun (x14 : Int32 × mS) => (if x14.1 = 0 then True else (if a3 = 0 then True else (mm_inb (a3 - 1) 8 = true ∧ True))))))))))))))))
set_option maxRecDepth 4000 in
theorem t_G_best {len : Nat} {xs : Nat → Int32}  (d : Nat) (a1 : Int32) (a2 : Int32) (a3 : Int32) (s : mS) {T : Option mm_R} (K : Int32 × mS → Prop) (hK : ∀ t, K t → some (some (.int t.1), mT t.2) = T) : ok_G_best a1 a2 a3 s → K (f_G_best a1 a2 a3 s) → mm_fix (mm_X len xs) mm_Y (mm_call (mm_X len xs) mm_Y (d + 28)) (mm_look mc_G_best) (0, [some (.ref 0), some (.int a1), some (.int a2), some (.int a3)], [], mT s) = T := by
  unfold ok_G_best f_G_best
  refine w_go K 3 (c' := (5, [some (.ref 0), some (.int a1), some (.int a2), some (.int a3)], [.int a1, .ref 3], mT s)) rfl ?_
  refine w_callL K (E := f_Works_isCoal a1 s) (g := fun (x10 : Int32) => (some (.int x10), mT s)) rfl (m_Works_isCoal (len := len) (xs := xs) (d + 27) a1 s) (fun x10 => ?_)
  refine w_go K 0 (c' := (8, [some (.ref 0), some (.int a1), some (.int a2), some (.int a3)], [.int x10], mT s)) rfl ?_
  refine w_zeq K rfl (fun _ => ?_) (fun _ => ?_)
  · refine w_go K 1 (c' := (32, [some (.ref 0), some (.int a1), some (.int a2), some (.int a3)], [.int (-1)], mT s)) rfl ?_
    exact w_ret K rfl (hK _)
  · refine w_go K 3 (c' := (15, [some (.ref 0), some (.int a1), some (.int a2), some (.int a3)], [.int 9, .int 1, .int a2], mT s)) rfl ?_
    refine w_callL K (E := f_G_within a2 (1 : Int32) (9 : Int32) s) (g := fun (x11 : Int32) => (some (.int x11), mT s)) rfl (m_G_within (len := len) (xs := xs) (d + 27) a2 (1 : Int32) (9 : Int32) s) (fun x11 => ?_)
    refine w_go K 0 (c' := (18, [some (.ref 0), some (.int a1), some (.int a2), some (.int a3)], [.int x11], mT s)) rfl ?_
    refine w_zeq K rfl (fun _ => ?_) (fun _ => ?_)
    · refine w_go K 1 (c' := (32, [some (.ref 0), some (.int a1), some (.int a2), some (.int a3)], [.int (-1)], mT s)) rfl ?_
      exact w_ret K rfl (hK _)
    · refine w_go K 3 (c' := (25, [some (.ref 0), some (.int a1), some (.int a2), some (.int a3)], [.int 8, .int 0, .int a3], mT s)) rfl ?_
      refine w_callL K (E := f_G_within a3 (0 : Int32) (8 : Int32) s) (g := fun (x12 : Int32) => (some (.int x12), mT s)) rfl (m_G_within (len := len) (xs := xs) (d + 27) a3 (0 : Int32) (8 : Int32) s) (fun x12 => ?_)
      refine w_go K 0 (c' := (28, [some (.ref 0), some (.int a1), some (.int a2), some (.int a3)], [.int x12], mT s)) rfl ?_
      refine w_zne K rfl (fun _ => ?_) (fun _ => ?_)
      · refine w_go K 1 (c' := (32, [some (.ref 0), some (.int a1), some (.int a2), some (.int a3)], [.int (-1)], mT s)) rfl ?_
        exact w_ret K rfl (hK _)
      · refine w_go K 10 (c' := (53, [some (.ref 0), some (.int a1), some (.int a2), some (.int a3)], [.ref 1, .ref 12, .ref 3, .int (gI s 0 9), .ref 94], mT s)) rfl ?_
        refine w_callL K (E := f_Night_foresee (gI s 0 9) s) (g := fun (x13 : mS) => (none, mT x13)) rfl (m_Night_foresee (len := len) (xs := xs) (d + 22) (gI s 0 9) s) (fun x13 => ?_)
        refine w_go K 6 (c' := (66, [some (.ref 0), some (.int a1), some (.int a2), some (.int a3)], [.int a2, .int a1, .ref 3, .ref 94], mT x13)) rfl ?_
        refine w_callL K (E := f_Night_plan a1 a2 x13) (g := fun (x14 : Int32 × mS) => (some (.int x14.1), mT x14.2)) rfl (m_Night_plan (len := len) (xs := xs) (d + 0) a1 a2 x13) (fun x14 => ?_)
        refine w_go K 0 (c' := (69, [some (.ref 0), some (.int a1), some (.int a2), some (.int a3)], [.int x14.1], mT x14.2)) rfl ?_
        refine w_zne K rfl (fun _ => ?_) (fun _ => ?_)
        · refine w_go K 1 (c' := (73, [some (.ref 0), some (.int a1), some (.int a2), some (.int a3)], [.int (-1)], mT x14.2)) rfl ?_
          exact w_ret K rfl (hK _)
        · refine w_go K 1 (c' := (75, [some (.ref 0), some (.int a1), some (.int a2), some (.int a3)], [.int a3], mT x14.2)) rfl ?_
          refine w_zne K rfl (fun _ => ?_) (fun _ => ?_)
          · refine w_go K 4 (c' := (99, [some (.ref 0), some (.int a1), some (.int a2), some (.int a3)], [.int (gI x14.2 94 9)], mT x14.2)) rfl ?_
            exact w_ret K rfl (hK _)
          · refine w_go K 6 (c' := (98, [some (.ref 0), some (.int a1), some (.int a2), some (.int a3)], [.int (a3 - 1), .ref 101], mT x14.2)) rfl ?_
            refine w_ck K (st_iL rfl rfl) ?_
            refine w_go K 0 (c' := (99, [some (.ref 0), some (.int a1), some (.int a2), some (.int a3)], [.int (gI x14.2 101 (ix (a3 - 1)))], mT x14.2)) rfl ?_
            exact w_ret K rfl (hK _)
theorem m_G_best {len : Nat} {xs : Nat → Int32}  (d : Nat) (a1 : Int32) (a2 : Int32) (a3 : Int32) (s : mS) : ok_G_best a1 a2 a3 s → mm_call (mm_X len xs) mm_Y (d + 29) 127 [.ref 0, .int a1, .int a2, .int a3] (mT s) = some (some (.int (f_G_best a1 a2 a3 s).1), mT (f_G_best a1 a2 a3 s).2) := fun h => t_G_best (len := len) (xs := xs) d a1 a2 a3 s (fun t => (some (some (.int t.1), mT t.2) : Option mm_R) = some (some (.int (f_G_best a1 a2 a3 s).1), mT (f_G_best a1 a2 a3 s).2)) (fun _ h => h) h rfl
def lp_M_stillMakes_4 (a1 : Int32) (s : mS) : Nat → Int32 → Int32 → Int32 × Int32
  | 0, v2, v3 => (v2, v3)
  | n + 1, v2, v3 => (if (gI s 116 4) ≤ v3 then (v2, v3) else (if (gI s 126 (ix v3)) = (-1) then (lp_M_stillMakes_4 a1 s n (v2 + 0) (v3 + 1)) else (mq_let (f_M_inStep (gI s 123 (ix v3)) ((gI s 126 (ix v3)) + a1) s) (fun (x10 : Int32) => (lp_M_stillMakes_4 a1 s n (v2 + x10) (v3 + 1))))))
def okl_M_stillMakes_4 (a1 : Int32) (s : mS) : Nat → Int32 → Int32 → Prop
  | 0, v2, v3 => False
  | n + 1, v2, v3 => (if (gI s 116 4) ≤ v3 then True else (mm_inb v3 6 = true ∧ (if (gI s 126 (ix v3)) = (-1) then (okl_M_stillMakes_4 a1 s n (v2 + 0) (v3 + 1)) else (mm_inb v3 6 = true ∧ (mm_inb v3 6 = true ∧ (ok_M_inStep (gI s 123 (ix v3)) ((gI s 126 (ix v3)) + a1) s ∧ mq_letP (f_M_inStep (gI s 123 (ix v3)) ((gI s 126 (ix v3)) + a1) s) (fun (x10 : Int32) => (okl_M_stillMakes_4 a1 s n (v2 + x10) (v3 + 1)))))))))
set_option maxRecDepth 4000 in
theorem tl_M_stillMakes_4 {len : Nat} {xs : Nat → Int32}  (d : Nat) (a1 : Int32) (s : mS) {T : Option mm_R} (K : Int32 × Int32 → Prop) (hX : ∀ r, K r → mm_fix (mm_X len xs) mm_Y (mm_call (mm_X len xs) mm_Y (d + 2)) (mm_look mc_M_stillMakes) (53, [some (.ref 116), some (.int a1), some (.int r.1), some (.int r.2)], [], mT s) = T) : ∀ (n : Nat), ∀ (v2 : Int32) (v3 : Int32), okl_M_stillMakes_4 a1 s n v2 v3 → K (lp_M_stillMakes_4 a1 s n v2 v3) → mm_fix (mm_X len xs) mm_Y (mm_call (mm_X len xs) mm_Y (d + 2)) (mm_look mc_M_stillMakes) (4, [some (.ref 116), some (.int a1), some (.int v2), some (.int v3)], [], mT s) = T := by
  intro n
  induction n with
  | zero => intro v2 v3; exact fun h => h.elim
  | succ n ih =>
    intro v2 v3
    rw [okl_M_stillMakes_4, lp_M_stillMakes_4]
    refine w_go K 3 (c' := (9, [some (.ref 116), some (.int a1), some (.int v2), some (.int v3)], [.int (gI s 116 4), .int v3], mT s)) rfl ?_
    refine w_ige K rfl (fun _ => ?_) (fun _ => ?_)
    · refine w_go K 0 (c' := (53, [some (.ref 116), some (.int a1), some (.int v2), some (.int v3)], [], mT s)) rfl ?_
      exact fun _ b => hX _ b
    · refine w_go K 4 (c' := (18, [some (.ref 116), some (.int a1), some (.int v2), some (.int v3)], [.int v3, .ref 126, .int v2], mT s)) rfl ?_
      refine w_ck K (st_iL rfl rfl) ?_
      refine w_go K 1 (c' := (20, [some (.ref 116), some (.int a1), some (.int v2), some (.int v3)], [.int (-1), .int (gI s 126 (ix v3)), .int v2], mT s)) rfl ?_
      refine w_ine K rfl (fun _ => ?_) (fun _ => ?_)
      · refine w_go K 6 (c' := (4, [some (.ref 116), some (.int a1), some (.int (v2 + 0)), some (.int (v3 + 1))], [], mT s)) rfl ?_
        exact fun a b => ih (v2 + 0) (v3 + 1) a b
      · refine w_go K 4 (c' := (33, [some (.ref 116), some (.int a1), some (.int v2), some (.int v3)], [.int v3, .ref 123, .ref 116, .int v2], mT s)) rfl ?_
        refine w_ck K (st_iL rfl rfl) ?_
        refine w_go K 3 (c' := (39, [some (.ref 116), some (.int a1), some (.int v2), some (.int v3)], [.int v3, .ref 126, .int (gI s 123 (ix v3)), .ref 116, .int v2], mT s)) rfl ?_
        refine w_ck K (st_iL rfl rfl) ?_
        refine w_go K 2 (c' := (42, [some (.ref 116), some (.int a1), some (.int v2), some (.int v3)], [.int ((gI s 126 (ix v3)) + a1), .int (gI s 123 (ix v3)), .ref 116, .int v2], mT s)) rfl ?_
        refine w_callL K (E := f_M_inStep (gI s 123 (ix v3)) ((gI s 126 (ix v3)) + a1) s) (g := fun (x10 : Int32) => (some (.int x10), mT s)) rfl (m_M_inStep (len := len) (xs := xs) (d + 0) (gI s 123 (ix v3)) ((gI s 126 (ix v3)) + a1) s) (fun x10 => ?_)
        refine w_go K 4 (c' := (4, [some (.ref 116), some (.int a1), some (.int (v2 + x10)), some (.int (v3 + 1))], [], mT s)) rfl ?_
        exact fun a b => ih (v2 + x10) (v3 + 1) a b
def f_M_stillMakes (a1 : Int32) (s : mS) : Int32 := (mq_let (lp_M_stillMakes_4 a1 s mm_N (0 : Int32) (0 : Int32)) (fun (x11 : Int32 × Int32) => x11.1))
def ok_M_stillMakes (a1 : Int32) (s : mS) : Prop := (okl_M_stillMakes_4 a1 s mm_N (0 : Int32) (0 : Int32) ∧ mq_letP (lp_M_stillMakes_4 a1 s mm_N (0 : Int32) (0 : Int32)) (fun (x11 : Int32 × Int32) => True))
set_option maxRecDepth 4000 in
theorem t_M_stillMakes {len : Nat} {xs : Nat → Int32}  (d : Nat) (a1 : Int32) (s : mS) {T : Option mm_R} (K : Int32 → Prop) (hK : ∀ t, K t → some (some (.int t), mT s) = T) : ok_M_stillMakes a1 s → K (f_M_stillMakes a1 s) → mm_fix (mm_X len xs) mm_Y (mm_call (mm_X len xs) mm_Y (d + 2)) (mm_look mc_M_stillMakes) (0, [some (.ref 116), some (.int a1), none, none], [], mT s) = T := by
  unfold ok_M_stillMakes f_M_stillMakes
  refine w_go K 4 (c' := (4, [some (.ref 116), some (.int a1), some (.int 0), some (.int 0)], [], mT s)) rfl ?_
  refine w_join K (fun (x11 : Int32 × Int32) => mm_fix (mm_X len xs) mm_Y (mm_call (mm_X len xs) mm_Y (d + 2)) (mm_look mc_M_stillMakes) (53, [some (.ref 116), some (.int a1), some (.int x11.1), some (.int x11.2)], [], mT s) = T) (fun K hJ => tl_M_stillMakes_4 (len := len) (xs := xs) d a1 s (T := T) K hJ mm_N (0 : Int32) (0 : Int32)) (fun x11 h1 h2 => ?_)
  revert h1 h2
  refine w_go K 1 (c' := (54, [some (.ref 116), some (.int a1), some (.int x11.1), some (.int x11.2)], [.int x11.1], mT s)) rfl ?_
  exact w_ret K rfl (hK _)
theorem m_M_stillMakes {len : Nat} {xs : Nat → Int32}  (d : Nat) (a1 : Int32) (s : mS) : ok_M_stillMakes a1 s → mm_call (mm_X len xs) mm_Y (d + 3) 235 [.ref 116, .int a1] (mT s) = some (some (.int (f_M_stillMakes a1 s)), mT s) := fun h => t_M_stillMakes (len := len) (xs := xs) d a1 s (fun t => (some (some (.int t), mT s) : Option mm_R) = some (some (.int (f_M_stillMakes a1 s)), mT s)) (fun _ h => h) h rfl
def lp_M_wantsIn_4 (a1 : Int32) (s : mS) : Nat → Int32 → Int32 → Int32 × Int32
  | 0, v2, v3 => (v2, v3)
  | n + 1, v2, v3 => (if (gI s 116 8) ≤ v3 then (v2, v3) else (mq_let (f_M_wants v3 a1 s) (fun (x10 : Int32) => (lp_M_wantsIn_4 a1 s n (v2 + x10) (v3 + 1)))))
def okl_M_wantsIn_4 (a1 : Int32) (s : mS) : Nat → Int32 → Int32 → Prop
  | 0, v2, v3 => False
  | n + 1, v2, v3 => (if (gI s 116 8) ≤ v3 then True else (ok_M_wants v3 a1 s ∧ mq_letP (f_M_wants v3 a1 s) (fun (x10 : Int32) => (okl_M_wantsIn_4 a1 s n (v2 + x10) (v3 + 1)))))
set_option maxRecDepth 4000 in
theorem tl_M_wantsIn_4 {len : Nat} {xs : Nat → Int32}  (d : Nat) (a1 : Int32) (s : mS) {T : Option mm_R} (K : Int32 × Int32 → Prop) (hX : ∀ r, K r → mm_fix (mm_X len xs) mm_Y (mm_call (mm_X len xs) mm_Y (d + 3)) (mm_look mc_M_wantsIn) (27, [some (.ref 116), some (.int a1), some (.int r.1), some (.int r.2)], [], mT s) = T) : ∀ (n : Nat), ∀ (v2 : Int32) (v3 : Int32), okl_M_wantsIn_4 a1 s n v2 v3 → K (lp_M_wantsIn_4 a1 s n v2 v3) → mm_fix (mm_X len xs) mm_Y (mm_call (mm_X len xs) mm_Y (d + 3)) (mm_look mc_M_wantsIn) (4, [some (.ref 116), some (.int a1), some (.int v2), some (.int v3)], [], mT s) = T := by
  intro n
  induction n with
  | zero => intro v2 v3; exact fun h => h.elim
  | succ n ih =>
    intro v2 v3
    rw [okl_M_wantsIn_4, lp_M_wantsIn_4]
    refine w_go K 3 (c' := (9, [some (.ref 116), some (.int a1), some (.int v2), some (.int v3)], [.int (gI s 116 8), .int v3], mT s)) rfl ?_
    refine w_ige K rfl (fun _ => ?_) (fun _ => ?_)
    · refine w_go K 0 (c' := (27, [some (.ref 116), some (.int a1), some (.int v2), some (.int v3)], [], mT s)) rfl ?_
      exact fun _ b => hX _ b
    · refine w_go K 4 (c' := (16, [some (.ref 116), some (.int a1), some (.int v2), some (.int v3)], [.int a1, .int v3, .ref 116, .int v2], mT s)) rfl ?_
      refine w_callL K (E := f_M_wants v3 a1 s) (g := fun (x10 : Int32) => (some (.int x10), mT s)) rfl (m_M_wants (len := len) (xs := xs) (d + 0) v3 a1 s) (fun x10 => ?_)
      refine w_go K 4 (c' := (4, [some (.ref 116), some (.int a1), some (.int (v2 + x10)), some (.int (v3 + 1))], [], mT s)) rfl ?_
      exact fun a b => ih (v2 + x10) (v3 + 1) a b
def f_M_wantsIn (a1 : Int32) (s : mS) : Int32 := (mq_let (lp_M_wantsIn_4 a1 s mm_N (0 : Int32) (0 : Int32)) (fun (x11 : Int32 × Int32) => x11.1))
def ok_M_wantsIn (a1 : Int32) (s : mS) : Prop := (okl_M_wantsIn_4 a1 s mm_N (0 : Int32) (0 : Int32) ∧ mq_letP (lp_M_wantsIn_4 a1 s mm_N (0 : Int32) (0 : Int32)) (fun (x11 : Int32 × Int32) => True))
set_option maxRecDepth 4000 in
theorem t_M_wantsIn {len : Nat} {xs : Nat → Int32}  (d : Nat) (a1 : Int32) (s : mS) {T : Option mm_R} (K : Int32 → Prop) (hK : ∀ t, K t → some (some (.int t), mT s) = T) : ok_M_wantsIn a1 s → K (f_M_wantsIn a1 s) → mm_fix (mm_X len xs) mm_Y (mm_call (mm_X len xs) mm_Y (d + 3)) (mm_look mc_M_wantsIn) (0, [some (.ref 116), some (.int a1), none, none], [], mT s) = T := by
  unfold ok_M_wantsIn f_M_wantsIn
  refine w_go K 4 (c' := (4, [some (.ref 116), some (.int a1), some (.int 0), some (.int 0)], [], mT s)) rfl ?_
  refine w_join K (fun (x11 : Int32 × Int32) => mm_fix (mm_X len xs) mm_Y (mm_call (mm_X len xs) mm_Y (d + 3)) (mm_look mc_M_wantsIn) (27, [some (.ref 116), some (.int a1), some (.int x11.1), some (.int x11.2)], [], mT s) = T) (fun K hJ => tl_M_wantsIn_4 (len := len) (xs := xs) d a1 s (T := T) K hJ mm_N (0 : Int32) (0 : Int32)) (fun x11 h1 h2 => ?_)
  revert h1 h2
  refine w_go K 1 (c' := (28, [some (.ref 116), some (.int a1), some (.int x11.1), some (.int x11.2)], [.int x11.1], mT s)) rfl ?_
  exact w_ret K rfl (hK _)
theorem m_M_wantsIn {len : Nat} {xs : Nat → Int32}  (d : Nat) (a1 : Int32) (s : mS) : ok_M_wantsIn a1 s → mm_call (mm_X len xs) mm_Y (d + 4) 236 [.ref 116, .int a1] (mT s) = some (some (.int (f_M_wantsIn a1 s)), mT s) := fun h => t_M_wantsIn (len := len) (xs := xs) d a1 s (fun t => (some (some (.int t), mT s) : Option mm_R) = some (some (.int (f_M_wantsIn a1 s)), mT s)) (fun _ h => h) h rfl
def lp_M_isGood_25 (a1 : Int32) (a3 : Int32) (s : mS) : Nat → Int32 → Int32 → Int32 × Int32
  | 0, v2, v4 => (v2, v4)
  | n + 1, v2, v4 => (if (8 : Int32) ≤ v4 then (v2, v4) else (mq_let (f_M_inStep a1 (a3 - (4 * v4)) s) (fun (x10 : Int32) => (lp_M_isGood_25 a1 a3 s n (v2 + ((gI s 170 (ix v4)) * x10)) (v4 + 1)))))
def okl_M_isGood_25 (a1 : Int32) (a3 : Int32) (s : mS) : Nat → Int32 → Int32 → Prop
  | 0, v2, v4 => False
  | n + 1, v2, v4 => (if (8 : Int32) ≤ v4 then True else (mm_inb v4 8 = true ∧ (ok_M_inStep a1 (a3 - (4 * v4)) s ∧ mq_letP (f_M_inStep a1 (a3 - (4 * v4)) s) (fun (x10 : Int32) => (okl_M_isGood_25 a1 a3 s n (v2 + ((gI s 170 (ix v4)) * x10)) (v4 + 1))))))
set_option maxRecDepth 4000 in
theorem tl_M_isGood_25 {len : Nat} {xs : Nat → Int32}  (d : Nat) (a1 : Int32) (a3 : Int32) (s : mS) {T : Option mm_R} (K : Int32 × Int32 → Prop) (hX : ∀ r, K r → mm_fix (mm_X len xs) mm_Y (mm_call (mm_X len xs) mm_Y (d + 2)) (mm_look mc_M_isGood) (60, [some (.ref 116), some (.int a1), some (.int r.1), some (.int a3), some (.int r.2)], [], mT s) = T) : ∀ (n : Nat), ∀ (v2 : Int32) (v4 : Int32), okl_M_isGood_25 a1 a3 s n v2 v4 → K (lp_M_isGood_25 a1 a3 s n v2 v4) → mm_fix (mm_X len xs) mm_Y (mm_call (mm_X len xs) mm_Y (d + 2)) (mm_look mc_M_isGood) (25, [some (.ref 116), some (.int a1), some (.int v2), some (.int a3), some (.int v4)], [], mT s) = T := by
  intro n
  induction n with
  | zero => intro v2 v4; exact fun h => h.elim
  | succ n ih =>
    intro v2 v4
    rw [okl_M_isGood_25, lp_M_isGood_25]
    refine w_go K 2 (c' := (29, [some (.ref 116), some (.int a1), some (.int v2), some (.int a3), some (.int v4)], [.int 8, .int v4], mT s)) rfl ?_
    refine w_ige K rfl (fun _ => ?_) (fun _ => ?_)
    · refine w_go K 0 (c' := (60, [some (.ref 116), some (.int a1), some (.int v2), some (.int a3), some (.int v4)], [], mT s)) rfl ?_
      exact fun _ b => hX _ b
    · refine w_go K 4 (c' := (39, [some (.ref 116), some (.int a1), some (.int v2), some (.int a3), some (.int v4)], [.int v4, .ref 170, .int v2], mT s)) rfl ?_
      refine w_ck K (st_iL rfl rfl) ?_
      refine w_go K 7 (c' := (48, [some (.ref 116), some (.int a1), some (.int v2), some (.int a3), some (.int v4)], [.int (a3 - (4 * v4)), .int a1, .ref 116, .int (gI s 170 (ix v4)), .int v2], mT s)) rfl ?_
      refine w_callL K (E := f_M_inStep a1 (a3 - (4 * v4)) s) (g := fun (x10 : Int32) => (some (.int x10), mT s)) rfl (m_M_inStep (len := len) (xs := xs) (d + 0) a1 (a3 - (4 * v4)) s) (fun x10 => ?_)
      refine w_go K 5 (c' := (25, [some (.ref 116), some (.int a1), some (.int (v2 + ((gI s 170 (ix v4)) * x10))), some (.int a3), some (.int (v4 + 1))], [], mT s)) rfl ?_
      exact fun a b => ih (v2 + ((gI s 170 (ix v4)) * x10)) (v4 + 1) a b
def lp_M_isGood_7 (a1 : Int32) (s : mS) : Nat → Int32 → Int32 → Option Int32 × Int32 × Int32
  | 0, v2, v3 => (none, v2, v3)
  | n + 1, v2, v3 => (if (32 : Int32) ≤ v3 then (none, v2, v3) else (mq_let (lp_M_isGood_25 a1 v3 s mm_N (v2 + (gI s 172 (ix v3))) (0 : Int32)) (fun (x11 : Int32 × Int32) => (mq_let (if x11.1 ≤ (gI s 116 5) then x11.1 else (gI s 116 5)) (fun (x12 : Int32) => (if (gI s 173 (ix v3)) ≤ x12 then (lp_M_isGood_7 a1 s n (x12 - (gI s 173 (ix v3))) (v3 + 1)) else (some (0 : Int32), v2, v3)))))))
def okl_M_isGood_7 (a1 : Int32) (s : mS) : Nat → Int32 → Int32 → Prop
  | 0, v2, v3 => False
  | n + 1, v2, v3 => (if (32 : Int32) ≤ v3 then True else (mm_inb v3 32 = true ∧ (okl_M_isGood_25 a1 v3 s mm_N (v2 + (gI s 172 (ix v3))) (0 : Int32) ∧ mq_letP (lp_M_isGood_25 a1 v3 s mm_N (v2 + (gI s 172 (ix v3))) (0 : Int32)) (fun (x11 : Int32 × Int32) => (True ∧ mq_letP (if x11.1 ≤ (gI s 116 5) then x11.1 else (gI s 116 5)) (fun (x12 : Int32) => (mm_inb v3 32 = true ∧ (if (gI s 173 (ix v3)) ≤ x12 then (mm_inb v3 32 = true ∧ (okl_M_isGood_7 a1 s n (x12 - (gI s 173 (ix v3))) (v3 + 1))) else True))))))))
set_option maxRecDepth 4000 in
theorem tl_M_isGood_7 {len : Nat} {xs : Nat → Int32}  (d : Nat) (a1 : Int32) (s : mS) {T : Option mm_R} (K : Option Int32 × Int32 × Int32 → Prop) (hX : ∀ r, K r → r.1 = none → ∀ (o4 : Option Value), mm_fix (mm_X len xs) mm_Y (mm_call (mm_X len xs) mm_Y (d + 2)) (mm_look mc_M_isGood) (100, [some (.ref 116), some (.int a1), some (.int r.2.1), some (.int r.2.2), o4], [], mT s) = T) (hR : ∀ r, K r → ∀ v, r.1 = some v → some (some (.int v), mT s) = T) : ∀ (n : Nat), ∀ (v2 : Int32) (v3 : Int32) (o4 : Option Value), okl_M_isGood_7 a1 s n v2 v3 → K (lp_M_isGood_7 a1 s n v2 v3) → mm_fix (mm_X len xs) mm_Y (mm_call (mm_X len xs) mm_Y (d + 2)) (mm_look mc_M_isGood) (7, [some (.ref 116), some (.int a1), some (.int v2), some (.int v3), o4], [], mT s) = T := by
  intro n
  induction n with
  | zero => intro v2 v3 o4; exact fun h => h.elim
  | succ n ih =>
    intro v2 v3 o4
    rw [okl_M_isGood_7, lp_M_isGood_7]
    refine w_go K 2 (c' := (10, [some (.ref 116), some (.int a1), some (.int v2), some (.int v3), o4], [.int 32, .int v3], mT s)) rfl ?_
    refine w_ige K rfl (fun _ => ?_) (fun _ => ?_)
    · refine w_go K 0 (c' := (100, [some (.ref 116), some (.int a1), some (.int v2), some (.int v3), o4], [], mT s)) rfl ?_
      exact fun _ b => hX _ b rfl _
    · refine w_go K 4 (c' := (19, [some (.ref 116), some (.int a1), some (.int v2), some (.int v3), o4], [.int v3, .ref 172, .int v2], mT s)) rfl ?_
      refine w_ck K (st_iL rfl rfl) ?_
      refine w_go K 4 (c' := (25, [some (.ref 116), some (.int a1), some (.int (v2 + (gI s 172 (ix v3)))), some (.int v3), some (.int 0)], [], mT s)) rfl ?_
      refine w_join K (fun (x11 : Int32 × Int32) => mm_fix (mm_X len xs) mm_Y (mm_call (mm_X len xs) mm_Y (d + 2)) (mm_look mc_M_isGood) (60, [some (.ref 116), some (.int a1), some (.int x11.1), some (.int v3), some (.int x11.2)], [], mT s) = T) (fun K hJ => tl_M_isGood_25 (len := len) (xs := xs) d a1 v3 s (T := T) K hJ mm_N (v2 + (gI s 172 (ix v3))) (0 : Int32)) (fun x11 h1 h2 => ?_)
      revert h1 h2
      refine w_go K 3 (c' := (65, [some (.ref 116), some (.int a1), some (.int x11.1), some (.int v3), some (.int x11.2)], [.int (gI s 116 5), .int x11.1], mT s)) rfl ?_
      refine w_join K (fun (x12 : Int32) => mm_fix (mm_X len xs) mm_Y (mm_call (mm_X len xs) mm_Y (d + 2)) (mm_look mc_M_isGood) (73, [some (.ref 116), some (.int a1), some (.int x12), some (.int v3), some (.int x11.2)], [], mT s) = T) (fun K hJ => ?_) (fun x12 h1 h2 => ?_)
      · refine w_go K 0 (c' := (65, [some (.ref 116), some (.int a1), some (.int x11.1), some (.int v3), some (.int x11.2)], [.int (gI s 116 5), .int x11.1], mT s)) rfl ?_
        refine w_ileT K rfl (fun _ => ?_) (fun _ => ?_)
        · refine w_go K 0 (c' := (73, [some (.ref 116), some (.int a1), some (.int x11.1), some (.int v3), some (.int x11.2)], [], mT s)) rfl ?_
          exact fun _ h => hJ _ h
        · refine w_go K 3 (c' := (73, [some (.ref 116), some (.int a1), some (.int (gI s 116 5)), some (.int v3), some (.int x11.2)], [], mT s)) rfl ?_
          exact fun _ h => hJ _ h
      · revert h1 h2
        refine w_go K 4 (c' := (79, [some (.ref 116), some (.int a1), some (.int x12), some (.int v3), some (.int x11.2)], [.int v3, .ref 173, .int x12], mT s)) rfl ?_
        refine w_ck K (st_iL rfl rfl) ?_
        refine w_go K 0 (c' := (80, [some (.ref 116), some (.int a1), some (.int x12), some (.int v3), some (.int x11.2)], [.int (gI s 173 (ix v3)), .int x12], mT s)) rfl ?_
        refine w_ige K rfl (fun _ => ?_) (fun _ => ?_)
        · refine w_go K 4 (c' := (91, [some (.ref 116), some (.int a1), some (.int x12), some (.int v3), some (.int x11.2)], [.int v3, .ref 173, .int x12], mT s)) rfl ?_
          refine w_ck K (st_iL rfl rfl) ?_
          refine w_go K 4 (c' := (7, [some (.ref 116), some (.int a1), some (.int (x12 - (gI s 173 (ix v3)))), some (.int (v3 + 1)), some (.int x11.2)], [], mT s)) rfl ?_
          exact fun a b => ih (x12 - (gI s 173 (ix v3))) (v3 + 1) _ a b
        · refine w_go K 1 (c' := (84, [some (.ref 116), some (.int a1), some (.int x12), some (.int v3), some (.int x11.2)], [.int 0], mT s)) rfl ?_
          exact w_ret K rfl (fun h => hR _ h _ rfl)
def f_M_isGood (a1 : Int32) (s : mS) : Int32 := (mq_let (lp_M_isGood_7 a1 s mm_N (gI s 116 6) (0 : Int32)) (fun (x13 : Option Int32 × Int32 × Int32) => mq_el x13.1 (fun v => v) 1))
def ok_M_isGood (a1 : Int32) (s : mS) : Prop := (okl_M_isGood_7 a1 s mm_N (gI s 116 6) (0 : Int32) ∧ mq_letP (lp_M_isGood_7 a1 s mm_N (gI s 116 6) (0 : Int32)) (fun (x13 : Option Int32 × Int32 × Int32) => mq_elP x13.1 True))
set_option maxRecDepth 4000 in
theorem t_M_isGood {len : Nat} {xs : Nat → Int32}  (d : Nat) (a1 : Int32) (s : mS) {T : Option mm_R} (K : Int32 → Prop) (hK : ∀ t, K t → some (some (.int t), mT s) = T) : ok_M_isGood a1 s → K (f_M_isGood a1 s) → mm_fix (mm_X len xs) mm_Y (mm_call (mm_X len xs) mm_Y (d + 2)) (mm_look mc_M_isGood) (0, [some (.ref 116), some (.int a1), none, none, none], [], mT s) = T := by
  unfold ok_M_isGood f_M_isGood
  refine w_go K 5 (c' := (7, [some (.ref 116), some (.int a1), some (.int (gI s 116 6)), some (.int 0), none], [], mT s)) rfl ?_
  refine w_join K (fun (x13 : Option Int32 × Int32 × Int32) => (x13.1 = none → ∀ (q14 : Option Value), mm_fix (mm_X len xs) mm_Y (mm_call (mm_X len xs) mm_Y (d + 2)) (mm_look mc_M_isGood) (100, [some (.ref 116), some (.int a1), some (.int x13.2.1), some (.int x13.2.2), q14], [], mT s) = T) ∧ (∀ v, x13.1 = some v → some (some (.int v), mT s) = T)) (fun K hJ => tl_M_isGood_7 (len := len) (xs := xs) d a1 s (T := T) K (fun r hr => (hJ r hr).1) (fun r hr => (hJ r hr).2) mm_N (gI s 116 6) (0 : Int32) _) (fun x13 h1 h2 => w_el K (fun v hv h => hK _ h) (fun h1 h2 q14 => ?_) h1 h2)
  revert h1 h2
  refine w_go K 1 (c' := (101, [some (.ref 116), some (.int a1), some (.int x13.2.1), some (.int x13.2.2), q14], [.int 1], mT s)) rfl ?_
  exact w_ret K rfl (hK _)
theorem m_M_isGood {len : Nat} {xs : Nat → Int32}  (d : Nat) (a1 : Int32) (s : mS) : ok_M_isGood a1 s → mm_call (mm_X len xs) mm_Y (d + 3) 238 [.ref 116, .int a1] (mT s) = some (some (.int (f_M_isGood a1 s)), mT s) := fun h => t_M_isGood (len := len) (xs := xs) d a1 s (fun t => (some (some (.int t), mT s) : Option mm_R) = some (some (.int (f_M_isGood a1 s)), mT s)) (fun _ h => h) h rfl
def lp_M_busy_4 (a1 : Int32) (s : mS) : Nat → Int32 → Int32 → Int32 × Int32
  | 0, v2, v3 => (v2, v3)
  | n + 1, v2, v3 => (if (gI s 116 4) ≤ v3 then (v2, v3) else (if (gI s 126 (ix v3)) = (-1) then (lp_M_busy_4 a1 s n (v2 + 0) (v3 + 1)) else (if (16 : Int32) ≤ ((gI s 126 (ix v3)) + (4 * a1)) then (lp_M_busy_4 a1 s n (v2 + 0) (v3 + 1)) else (lp_M_busy_4 a1 s n (v2 + 1) (v3 + 1)))))
def okl_M_busy_4 (a1 : Int32) (s : mS) : Nat → Int32 → Int32 → Prop
  | 0, v2, v3 => False
  | n + 1, v2, v3 => (if (gI s 116 4) ≤ v3 then True else (mm_inb v3 6 = true ∧ (if (gI s 126 (ix v3)) = (-1) then (okl_M_busy_4 a1 s n (v2 + 0) (v3 + 1)) else (mm_inb v3 6 = true ∧ (if (16 : Int32) ≤ ((gI s 126 (ix v3)) + (4 * a1)) then (okl_M_busy_4 a1 s n (v2 + 0) (v3 + 1)) else (okl_M_busy_4 a1 s n (v2 + 1) (v3 + 1)))))))
set_option maxRecDepth 4000 in
theorem tl_M_busy_4 {len : Nat} {xs : Nat → Int32}  (d : Nat) (a1 : Int32) (s : mS) {T : Option mm_R} (K : Int32 × Int32 → Prop) (hX : ∀ r, K r → mm_fix (mm_X len xs) mm_Y (mm_call (mm_X len xs) mm_Y (d + 0)) (mm_look mc_M_busy) (51, [some (.ref 116), some (.int a1), some (.int r.1), some (.int r.2)], [], mT s) = T) : ∀ (n : Nat), ∀ (v2 : Int32) (v3 : Int32), okl_M_busy_4 a1 s n v2 v3 → K (lp_M_busy_4 a1 s n v2 v3) → mm_fix (mm_X len xs) mm_Y (mm_call (mm_X len xs) mm_Y (d + 0)) (mm_look mc_M_busy) (4, [some (.ref 116), some (.int a1), some (.int v2), some (.int v3)], [], mT s) = T := by
  intro n
  induction n with
  | zero => intro v2 v3; exact fun h => h.elim
  | succ n ih =>
    intro v2 v3
    rw [okl_M_busy_4, lp_M_busy_4]
    refine w_go K 3 (c' := (9, [some (.ref 116), some (.int a1), some (.int v2), some (.int v3)], [.int (gI s 116 4), .int v3], mT s)) rfl ?_
    refine w_ige K rfl (fun _ => ?_) (fun _ => ?_)
    · refine w_go K 0 (c' := (51, [some (.ref 116), some (.int a1), some (.int v2), some (.int v3)], [], mT s)) rfl ?_
      exact fun _ b => hX _ b
    · refine w_go K 4 (c' := (18, [some (.ref 116), some (.int a1), some (.int v2), some (.int v3)], [.int v3, .ref 126, .int v2], mT s)) rfl ?_
      refine w_ck K (st_iL rfl rfl) ?_
      refine w_go K 1 (c' := (20, [some (.ref 116), some (.int a1), some (.int v2), some (.int v3)], [.int (-1), .int (gI s 126 (ix v3)), .int v2], mT s)) rfl ?_
      refine w_ieq K rfl (fun _ => ?_) (fun _ => ?_)
      · refine w_go K 5 (c' := (4, [some (.ref 116), some (.int a1), some (.int (v2 + 0)), some (.int (v3 + 1))], [], mT s)) rfl ?_
        exact fun a b => ih (v2 + 0) (v3 + 1) a b
      · refine w_go K 3 (c' := (28, [some (.ref 116), some (.int a1), some (.int v2), some (.int v3)], [.int v3, .ref 126, .int v2], mT s)) rfl ?_
        refine w_ck K (st_iL rfl rfl) ?_
        refine w_go K 5 (c' := (35, [some (.ref 116), some (.int a1), some (.int v2), some (.int v3)], [.int 16, .int ((gI s 126 (ix v3)) + (4 * a1)), .int v2], mT s)) rfl ?_
        refine w_ige K rfl (fun _ => ?_) (fun _ => ?_)
        · refine w_go K 5 (c' := (4, [some (.ref 116), some (.int a1), some (.int (v2 + 0)), some (.int (v3 + 1))], [], mT s)) rfl ?_
          exact fun a b => ih (v2 + 0) (v3 + 1) a b
        · refine w_go K 6 (c' := (4, [some (.ref 116), some (.int a1), some (.int (v2 + 1)), some (.int (v3 + 1))], [], mT s)) rfl ?_
          exact fun a b => ih (v2 + 1) (v3 + 1) a b
def lp_M_busy_55 (a1 : Int32) (s : mS) : Nat → Int32 → Int32 → Int32 × Int32
  | 0, v2, v3 => (v2, v3)
  | n + 1, v2, v3 => (if a1 ≤ v3 then (v2, v3) else (if v3 < 0 then (lp_M_busy_55 a1 s n (v2 + 0) (v3 + 1)) else (lp_M_busy_55 a1 s n (v2 + (gI s 170 (ix v3))) (v3 + 1))))
def okl_M_busy_55 (a1 : Int32) (s : mS) : Nat → Int32 → Int32 → Prop
  | 0, v2, v3 => False
  | n + 1, v2, v3 => (if a1 ≤ v3 then True else (if v3 < 0 then (okl_M_busy_55 a1 s n (v2 + 0) (v3 + 1)) else (mm_inb v3 8 = true ∧ (okl_M_busy_55 a1 s n (v2 + (gI s 170 (ix v3))) (v3 + 1)))))
set_option maxRecDepth 4000 in
theorem tl_M_busy_55 {len : Nat} {xs : Nat → Int32}  (d : Nat) (a1 : Int32) (s : mS) {T : Option mm_R} (K : Int32 × Int32 → Prop) (hX : ∀ r, K r → mm_fix (mm_X len xs) mm_Y (mm_call (mm_X len xs) mm_Y (d + 0)) (mm_look mc_M_busy) (83, [some (.ref 116), some (.int a1), some (.int r.1), some (.int r.2)], [], mT s) = T) : ∀ (n : Nat), ∀ (v2 : Int32) (v3 : Int32), okl_M_busy_55 a1 s n v2 v3 → K (lp_M_busy_55 a1 s n v2 v3) → mm_fix (mm_X len xs) mm_Y (mm_call (mm_X len xs) mm_Y (d + 0)) (mm_look mc_M_busy) (55, [some (.ref 116), some (.int a1), some (.int v2), some (.int v3)], [], mT s) = T := by
  intro n
  induction n with
  | zero => intro v2 v3; exact fun h => h.elim
  | succ n ih =>
    intro v2 v3
    rw [okl_M_busy_55, lp_M_busy_55]
    refine w_go K 2 (c' := (57, [some (.ref 116), some (.int a1), some (.int v2), some (.int v3)], [.int a1, .int v3], mT s)) rfl ?_
    refine w_ige K rfl (fun _ => ?_) (fun _ => ?_)
    · refine w_go K 0 (c' := (83, [some (.ref 116), some (.int a1), some (.int v2), some (.int v3)], [], mT s)) rfl ?_
      exact fun _ b => hX _ b
    · refine w_go K 2 (c' := (62, [some (.ref 116), some (.int a1), some (.int v2), some (.int v3)], [.int v3, .int v2], mT s)) rfl ?_
      refine w_zlt K rfl (fun _ => ?_) (fun _ => ?_)
      · refine w_go K 5 (c' := (55, [some (.ref 116), some (.int a1), some (.int (v2 + 0)), some (.int (v3 + 1))], [], mT s)) rfl ?_
        exact fun a b => ih (v2 + 0) (v3 + 1) a b
      · refine w_go K 3 (c' := (70, [some (.ref 116), some (.int a1), some (.int v2), some (.int v3)], [.int v3, .ref 170, .int v2], mT s)) rfl ?_
        refine w_ck K (st_iL rfl rfl) ?_
        refine w_go K 5 (c' := (55, [some (.ref 116), some (.int a1), some (.int (v2 + (gI s 170 (ix v3)))), some (.int (v3 + 1))], [], mT s)) rfl ?_
        exact fun a b => ih (v2 + (gI s 170 (ix v3))) (v3 + 1) a b
def f_M_busy (a1 : Int32) (s : mS) : Int32 := (mq_let (lp_M_busy_4 a1 s mm_N (0 : Int32) (0 : Int32)) (fun (x10 : Int32 × Int32) => (mq_let (lp_M_busy_55 a1 s mm_N x10.1 (a1 - 3)) (fun (x11 : Int32 × Int32) => x11.1))))
def ok_M_busy (a1 : Int32) (s : mS) : Prop := (okl_M_busy_4 a1 s mm_N (0 : Int32) (0 : Int32) ∧ mq_letP (lp_M_busy_4 a1 s mm_N (0 : Int32) (0 : Int32)) (fun (x10 : Int32 × Int32) => (okl_M_busy_55 a1 s mm_N x10.1 (a1 - 3) ∧ mq_letP (lp_M_busy_55 a1 s mm_N x10.1 (a1 - 3)) (fun (x11 : Int32 × Int32) => True))))
set_option maxRecDepth 4000 in
theorem t_M_busy {len : Nat} {xs : Nat → Int32}  (d : Nat) (a1 : Int32) (s : mS) {T : Option mm_R} (K : Int32 → Prop) (hK : ∀ t, K t → some (some (.int t), mT s) = T) : ok_M_busy a1 s → K (f_M_busy a1 s) → mm_fix (mm_X len xs) mm_Y (mm_call (mm_X len xs) mm_Y (d + 0)) (mm_look mc_M_busy) (0, [some (.ref 116), some (.int a1), none, none], [], mT s) = T := by
  unfold ok_M_busy f_M_busy
  refine w_go K 4 (c' := (4, [some (.ref 116), some (.int a1), some (.int 0), some (.int 0)], [], mT s)) rfl ?_
  refine w_join K (fun (x10 : Int32 × Int32) => mm_fix (mm_X len xs) mm_Y (mm_call (mm_X len xs) mm_Y (d + 0)) (mm_look mc_M_busy) (51, [some (.ref 116), some (.int a1), some (.int x10.1), some (.int x10.2)], [], mT s) = T) (fun K hJ => tl_M_busy_4 (len := len) (xs := xs) d a1 s (T := T) K hJ mm_N (0 : Int32) (0 : Int32)) (fun x10 h1 h2 => ?_)
  revert h1 h2
  refine w_go K 4 (c' := (55, [some (.ref 116), some (.int a1), some (.int x10.1), some (.int (a1 - 3))], [], mT s)) rfl ?_
  refine w_join K (fun (x11 : Int32 × Int32) => mm_fix (mm_X len xs) mm_Y (mm_call (mm_X len xs) mm_Y (d + 0)) (mm_look mc_M_busy) (83, [some (.ref 116), some (.int a1), some (.int x11.1), some (.int x11.2)], [], mT s) = T) (fun K hJ => tl_M_busy_55 (len := len) (xs := xs) d a1 s (T := T) K hJ mm_N x10.1 (a1 - 3)) (fun x11 h1 h2 => ?_)
  revert h1 h2
  refine w_go K 1 (c' := (84, [some (.ref 116), some (.int a1), some (.int x11.1), some (.int x11.2)], [.int x11.1], mT s)) rfl ?_
  exact w_ret K rfl (hK _)
theorem m_M_busy {len : Nat} {xs : Nat → Int32}  (d : Nat) (a1 : Int32) (s : mS) : ok_M_busy a1 s → mm_call (mm_X len xs) mm_Y (d + 1) 239 [.ref 116, .int a1] (mT s) = some (some (.int (f_M_busy a1 s)), mT s) := fun h => t_M_busy (len := len) (xs := xs) d a1 s (fun t => (some (some (.int t), mT s) : Option mm_R) = some (some (.int (f_M_busy a1 s)), mT s)) (fun _ h => h) h rfl
def lp_M_plans_88 (rf : Int32 → Int32 → Int32 → mS → Int32 × mS) (a1 : Int32) (a2 : Int32) (a3 : Int32) (a4 : Int32) : Nat → Int32 → mS → Option Int32 × Int32 × mS
  | 0, v6, s => (none, v6, s)
  | n + 1, v6, s => (if a4 < v6 then (none, v6, s) else (mq_let (rf (a1 + 1) (a2 - v6) a3 (sI s 170 (ix a1) v6)) (fun (x16 : Int32 × mS) => (if x16.1 = 0 then (lp_M_plans_88 rf a1 a2 a3 a4 n (v6 + 1) x16.2) else (some (1 : Int32), v6, x16.2)))))
def okl_M_plans_88 (rf : Int32 → Int32 → Int32 → mS → Int32 × mS) (rok : Int32 → Int32 → Int32 → mS → Prop) (a1 : Int32) (a2 : Int32) (a3 : Int32) (a4 : Int32) : Nat → Int32 → mS → Prop
  | 0, v6, s => False
  | n + 1, v6, s => (if a4 < v6 then True else (mm_inb a1 8 = true ∧ (rok (a1 + 1) (a2 - v6) a3 (sI s 170 (ix a1) v6) ∧ mq_letP (rf (a1 + 1) (a2 - v6) a3 (sI s 170 (ix a1) v6)) (fun (x16 : Int32 × mS) => (if x16.1 = 0 then (okl_M_plans_88 rf rok a1 a2 a3 a4 n (v6 + 1) x16.2) else True)))))
set_option maxRecDepth 4000 in
theorem tl_M_plans_88 {len : Nat} {xs : Nat → Int32} (rf : Int32 → Int32 → Int32 → mS → Int32 × mS) (rok : Int32 → Int32 → Int32 → mS → Prop) (D : Nat) (hrf : ∀ (e : Nat) (b0 : Int32) (b1 : Int32) (b2 : Int32) (s : mS), rok b0 b1 b2 s → mm_call (mm_X len xs) mm_Y (D + e) 237 [.ref 116, .int b0, .int b1, .int b2] (mT s) = some (some (.int (rf b0 b1 b2 s).1), mT (rf b0 b1 b2 s).2)) (d : Nat) (a1 : Int32) (a2 : Int32) (a3 : Int32) (a4 : Int32)  {T : Option mm_R} (K : Option Int32 × Int32 × mS → Prop) (hX : ∀ r, K r → r.1 = none → ∀ (o5 : Option Value), mm_fix (mm_X len xs) mm_Y (mm_call (mm_X len xs) mm_Y (D + d + 3)) (mm_look mc_M_plans) (126, [some (.ref 116), some (.int a1), some (.int a2), some (.int a3), some (.int a4), o5, some (.int r.2.1)], [], mT r.2.2) = T) (hR : ∀ r, K r → ∀ v, r.1 = some v → some (some (.int v), mT r.2.2) = T) : ∀ (n : Nat), ∀ (v6 : Int32) (o5 : Option Value) (s : mS), okl_M_plans_88 rf rok a1 a2 a3 a4 n v6 s → K (lp_M_plans_88 rf a1 a2 a3 a4 n v6 s) → mm_fix (mm_X len xs) mm_Y (mm_call (mm_X len xs) mm_Y (D + d + 3)) (mm_look mc_M_plans) (88, [some (.ref 116), some (.int a1), some (.int a2), some (.int a3), some (.int a4), o5, some (.int v6)], [], mT s) = T := by
  intro n
  induction n with
  | zero => intro v6 o5 s; exact fun h => h.elim
  | succ n ih =>
    intro v6 o5 s
    rw [okl_M_plans_88, lp_M_plans_88]
    refine w_go K 2 (c' := (92, [some (.ref 116), some (.int a1), some (.int a2), some (.int a3), some (.int a4), o5, some (.int v6)], [.int a4, .int v6], mT s)) rfl ?_
    refine w_igt K rfl (fun _ => ?_) (fun _ => ?_)
    · refine w_go K 0 (c' := (126, [some (.ref 116), some (.int a1), some (.int a2), some (.int a3), some (.int a4), o5, some (.int v6)], [], mT s)) rfl ?_
      exact fun _ b => hX _ b rfl _
    · refine w_go K 4 (c' := (102, [some (.ref 116), some (.int a1), some (.int a2), some (.int a3), some (.int a4), o5, some (.int v6)], [.int v6, .int a1, .ref 170], mT s)) rfl ?_
      refine w_ck K (st_iS rfl rfl) ?_
      refine w_go K 8 (c' := (112, [some (.ref 116), some (.int a1), some (.int a2), some (.int a3), some (.int a4), o5, some (.int v6)], [.int a3, .int (a2 - v6), .int (a1 + 1), .ref 116], mT (sI s 170 (ix a1) v6))) rfl ?_
      refine w_callL K (E := rf (a1 + 1) (a2 - v6) a3 (sI s 170 (ix a1) v6)) (g := fun (x16 : Int32 × mS) => (some (.int x16.1), mT x16.2)) rfl (hrf (d + 3) (a1 + 1) (a2 - v6) a3 (sI s 170 (ix a1) v6)) (fun x16 => ?_)
      refine w_go K 0 (c' := (115, [some (.ref 116), some (.int a1), some (.int a2), some (.int a3), some (.int a4), o5, some (.int v6)], [.int x16.1], mT x16.2)) rfl ?_
      refine w_zeq K rfl (fun _ => ?_) (fun _ => ?_)
      · refine w_go K 2 (c' := (88, [some (.ref 116), some (.int a1), some (.int a2), some (.int a3), some (.int a4), (mm_cut o5 0), some (.int (v6 + 1))], [], mT x16.2)) rfl ?_
        exact fun a b => ih (v6 + 1) _ x16.2 a b
      · refine w_go K 1 (c' := (119, [some (.ref 116), some (.int a1), some (.int a2), some (.int a3), some (.int a4), o5, some (.int v6)], [.int 1], mT x16.2)) rfl ?_
        exact w_ret K rfl (fun h => hR _ h _ rfl)
def f_M_plans (rf : Int32 → Int32 → Int32 → mS → Int32 × mS) (a1 : Int32) (a2 : Int32) (a3 : Int32) (s : mS) : Int32 × mS := (if a1 = 8 then (if a2 = 0 then (mq_let (f_M_isGood a3 s) (fun (x10 : Int32) => (if x10 = 0 then (0, s) else (1, s)))) else (0, s)) else (mq_let (if a1 = 0 then (gI s 116 3) else (0 : Int32)) (fun (x11 : Int32) => (mq_let (f_M_busy a1 s) (fun (x12 : Int32) => (mq_let (if (((gI s 116 2) / 3) - x11) ≤ ((gI s 116 4) - x12) then (((gI s 116 2) / 3) - x11) else ((gI s 116 4) - x12)) (fun (x13 : Int32) => (mq_let (if x13 ≤ a2 then x13 else a2) (fun (x14 : Int32) => (mq_let (if (0 : Int32) ≤ x14 then x14 else (0 : Int32)) (fun (x15 : Int32) => (mq_let (lp_M_plans_88 rf a1 a2 a3 x15 mm_N (0 : Int32) s) (fun (x17 : Option Int32 × Int32 × mS) => mq_el x17.1 (fun v => (v, x17.2.2)) (0, sI x17.2.2 170 (ix a1) 0))))))))))))))
def ok_M_plans (rf : Int32 → Int32 → Int32 → mS → Int32 × mS) (rok : Int32 → Int32 → Int32 → mS → Prop) (a1 : Int32) (a2 : Int32) (a3 : Int32) (s : mS) : Prop := (if a1 = 8 then (if a2 = 0 then (ok_M_isGood a3 s ∧ mq_letP (f_M_isGood a3 s) (fun (x10 : Int32) => True)) else True) else (True ∧ mq_letP (if a1 = 0 then (gI s 116 3) else (0 : Int32)) (fun (x11 : Int32) => (ok_M_busy a1 s ∧ mq_letP (f_M_busy a1 s) (fun (x12 : Int32) => (True ∧ mq_letP (if (((gI s 116 2) / 3) - x11) ≤ ((gI s 116 4) - x12) then (((gI s 116 2) / 3) - x11) else ((gI s 116 4) - x12)) (fun (x13 : Int32) => (True ∧ mq_letP (if x13 ≤ a2 then x13 else a2) (fun (x14 : Int32) => (True ∧ mq_letP (if (0 : Int32) ≤ x14 then x14 else (0 : Int32)) (fun (x15 : Int32) => (okl_M_plans_88 rf rok a1 a2 a3 x15 mm_N (0 : Int32) s ∧ mq_letP (lp_M_plans_88 rf a1 a2 a3 x15 mm_N (0 : Int32) s) (fun (x17 : Option Int32 × Int32 × mS) => mq_elP x17.1 (mm_inb a1 8 = true ∧ True))))))))))))))
set_option maxRecDepth 4000 in
theorem t_M_plans {len : Nat} {xs : Nat → Int32} (rf : Int32 → Int32 → Int32 → mS → Int32 × mS) (rok : Int32 → Int32 → Int32 → mS → Prop) (D : Nat) (hrf : ∀ (e : Nat) (b0 : Int32) (b1 : Int32) (b2 : Int32) (s : mS), rok b0 b1 b2 s → mm_call (mm_X len xs) mm_Y (D + e) 237 [.ref 116, .int b0, .int b1, .int b2] (mT s) = some (some (.int (rf b0 b1 b2 s).1), mT (rf b0 b1 b2 s).2)) (d : Nat) (a1 : Int32) (a2 : Int32) (a3 : Int32) (s : mS) {T : Option mm_R} (K : Int32 × mS → Prop) (hK : ∀ t, K t → some (some (.int t.1), mT t.2) = T) : ok_M_plans rf rok a1 a2 a3 s → K (f_M_plans rf a1 a2 a3 s) → mm_fix (mm_X len xs) mm_Y (mm_call (mm_X len xs) mm_Y (D + d + 3)) (mm_look mc_M_plans) (0, [some (.ref 116), some (.int a1), some (.int a2), some (.int a3), none, none, none], [], mT s) = T := by
  unfold ok_M_plans f_M_plans
  refine w_go K 2 (c' := (3, [some (.ref 116), some (.int a1), some (.int a2), some (.int a3), none, none, none], [.int 8, .int a1], mT s)) rfl ?_
  refine w_ine K rfl (fun _ => ?_) (fun _ => ?_)
  · refine w_go K 1 (c' := (7, [some (.ref 116), some (.int a1), some (.int a2), some (.int a3), none, none, none], [.int a2], mT s)) rfl ?_
    refine w_zne K rfl (fun _ => ?_) (fun _ => ?_)
    · refine w_go K 2 (c' := (12, [some (.ref 116), some (.int a1), some (.int a2), some (.int a3), none, none, none], [.int a3, .ref 116], mT s)) rfl ?_
      refine w_callL K (E := f_M_isGood a3 s) (g := fun (x10 : Int32) => (some (.int x10), mT s)) rfl (m_M_isGood (len := len) (xs := xs) (D + d + 0) a3 s) (fun x10 => ?_)
      refine w_go K 0 (c' := (15, [some (.ref 116), some (.int a1), some (.int a2), some (.int a3), none, none, none], [.int x10], mT s)) rfl ?_
      refine w_zeqT K rfl (fun _ => ?_) (fun _ => ?_)
      · refine w_go K 1 (c' := (23, [some (.ref 116), some (.int a1), some (.int a2), some (.int a3), none, none, none], [.int 0], mT s)) rfl ?_
        exact w_ret K rfl (hK _)
      · refine w_go K 2 (c' := (23, [some (.ref 116), some (.int a1), some (.int a2), some (.int a3), none, none, none], [.int 1], mT s)) rfl ?_
        exact w_ret K rfl (hK _)
    · refine w_go K 1 (c' := (23, [some (.ref 116), some (.int a1), some (.int a2), some (.int a3), none, none, none], [.int 0], mT s)) rfl ?_
      exact w_ret K rfl (hK _)
  · refine w_go K 5 (c' := (31, [some (.ref 116), some (.int a1), some (.int a2), some (.int a3), none, none, none], [.int a1, .int ((gI s 116 2) / 3)], mT s)) rfl ?_
    refine w_join K (fun (x11 : Int32) => mm_fix (mm_X len xs) mm_Y (mm_call (mm_X len xs) mm_Y (D + d + 3)) (mm_look mc_M_plans) (42, [some (.ref 116), some (.int a1), some (.int a2), some (.int a3), none, none, none], [.int x11, .int ((gI s 116 2) / 3)], mT s) = T) (fun K hJ => ?_) (fun x11 h1 h2 => ?_)
    · refine w_go K 0 (c' := (31, [some (.ref 116), some (.int a1), some (.int a2), some (.int a3), none, none, none], [.int a1, .int ((gI s 116 2) / 3)], mT s)) rfl ?_
      refine w_zneT K rfl (fun _ => ?_) (fun _ => ?_)
      · refine w_go K 3 (c' := (42, [some (.ref 116), some (.int a1), some (.int a2), some (.int a3), none, none, none], [.int (gI s 116 3), .int ((gI s 116 2) / 3)], mT s)) rfl ?_
        exact fun _ h => hJ _ h
      · refine w_go K 1 (c' := (42, [some (.ref 116), some (.int a1), some (.int a2), some (.int a3), none, none, none], [.int 0, .int ((gI s 116 2) / 3)], mT s)) rfl ?_
        exact fun _ h => hJ _ h
    · revert h1 h2
      refine w_go K 6 (c' := (51, [some (.ref 116), some (.int a1), some (.int a2), some (.int a3), some (.int (((gI s 116 2) / 3) - x11)), none, none], [.int a1, .ref 116, .int (gI s 116 4)], mT s)) rfl ?_
      refine w_callL K (E := f_M_busy a1 s) (g := fun (x12 : Int32) => (some (.int x12), mT s)) rfl (m_M_busy (len := len) (xs := xs) (D + d + 2) a1 s) (fun x12 => ?_)
      refine w_go K 4 (c' := (61, [some (.ref 116), some (.int a1), some (.int a2), some (.int a3), some (.int (((gI s 116 2) / 3) - x11)), some (.int ((gI s 116 4) - x12)), none], [.int (((gI s 116 2) / 3) - x11), .int ((gI s 116 4) - x12)], mT s)) rfl ?_
      refine w_join K (fun (x13 : Int32) => mm_fix (mm_X len xs) mm_Y (mm_call (mm_X len xs) mm_Y (D + d + 3)) (mm_look mc_M_plans) (68, [some (.ref 116), some (.int a1), some (.int a2), some (.int a3), some (.int x13), some (.int ((gI s 116 4) - x12)), none], [], mT s) = T) (fun K hJ => ?_) (fun x13 h1 h2 => ?_)
      · refine w_go K 0 (c' := (61, [some (.ref 116), some (.int a1), some (.int a2), some (.int a3), some (.int (((gI s 116 2) / 3) - x11)), some (.int ((gI s 116 4) - x12)), none], [.int (((gI s 116 2) / 3) - x11), .int ((gI s 116 4) - x12)], mT s)) rfl ?_
        refine w_igeT K rfl (fun _ => ?_) (fun _ => ?_)
        · refine w_go K 0 (c' := (68, [some (.ref 116), some (.int a1), some (.int a2), some (.int a3), some (.int (((gI s 116 2) / 3) - x11)), some (.int ((gI s 116 4) - x12)), none], [], mT s)) rfl ?_
          exact fun _ h => hJ _ h
        · refine w_go K 2 (c' := (68, [some (.ref 116), some (.int a1), some (.int a2), some (.int a3), some (.int ((gI s 116 4) - x12)), some (.int ((gI s 116 4) - x12)), none], [], mT s)) rfl ?_
          exact fun _ h => hJ _ h
      · revert h1 h2
        refine w_go K 2 (c' := (71, [some (.ref 116), some (.int a1), some (.int a2), some (.int a3), some (.int x13), some (.int ((gI s 116 4) - x12)), none], [.int x13, .int a2], mT s)) rfl ?_
        refine w_join K (fun (x14 : Int32) => mm_fix (mm_X len xs) mm_Y (mm_call (mm_X len xs) mm_Y (D + d + 3)) (mm_look mc_M_plans) (77, [some (.ref 116), some (.int a1), some (.int a2), some (.int a3), some (.int x14), some (.int ((gI s 116 4) - x12)), none], [], mT s) = T) (fun K hJ => ?_) (fun x14 h1 h2 => ?_)
        · refine w_go K 0 (c' := (71, [some (.ref 116), some (.int a1), some (.int a2), some (.int a3), some (.int x13), some (.int ((gI s 116 4) - x12)), none], [.int x13, .int a2], mT s)) rfl ?_
          refine w_igeT K rfl (fun _ => ?_) (fun _ => ?_)
          · refine w_go K 0 (c' := (77, [some (.ref 116), some (.int a1), some (.int a2), some (.int a3), some (.int x13), some (.int ((gI s 116 4) - x12)), none], [], mT s)) rfl ?_
            exact fun _ h => hJ _ h
          · refine w_go K 2 (c' := (77, [some (.ref 116), some (.int a1), some (.int a2), some (.int a3), some (.int a2), some (.int ((gI s 116 4) - x12)), none], [], mT s)) rfl ?_
            exact fun _ h => hJ _ h
        · revert h1 h2
          refine w_go K 1 (c' := (79, [some (.ref 116), some (.int a1), some (.int a2), some (.int a3), some (.int x14), some (.int ((gI s 116 4) - x12)), none], [.int x14], mT s)) rfl ?_
          refine w_join K (fun (x15 : Int32) => mm_fix (mm_X len xs) mm_Y (mm_call (mm_X len xs) mm_Y (D + d + 3)) (mm_look mc_M_plans) (85, [some (.ref 116), some (.int a1), some (.int a2), some (.int a3), some (.int x15), some (.int ((gI s 116 4) - x12)), none], [], mT s) = T) (fun K hJ => ?_) (fun x15 h1 h2 => ?_)
          · refine w_go K 0 (c' := (79, [some (.ref 116), some (.int a1), some (.int a2), some (.int a3), some (.int x14), some (.int ((gI s 116 4) - x12)), none], [.int x14], mT s)) rfl ?_
            refine w_zgeT K rfl (fun _ => ?_) (fun _ => ?_)
            · refine w_go K 0 (c' := (85, [some (.ref 116), some (.int a1), some (.int a2), some (.int a3), some (.int x14), some (.int ((gI s 116 4) - x12)), none], [], mT s)) rfl ?_
              exact fun _ h => hJ _ h
            · refine w_go K 2 (c' := (85, [some (.ref 116), some (.int a1), some (.int a2), some (.int a3), some (.int 0), some (.int ((gI s 116 4) - x12)), none], [], mT s)) rfl ?_
              exact fun _ h => hJ _ h
          · revert h1 h2
            refine w_go K 2 (c' := (88, [some (.ref 116), some (.int a1), some (.int a2), some (.int a3), some (.int x15), some (.int ((gI s 116 4) - x12)), some (.int 0)], [], mT s)) rfl ?_
            refine w_join K (fun (x17 : Option Int32 × Int32 × mS) => (x17.1 = none → ∀ (q18 : Option Value), mm_fix (mm_X len xs) mm_Y (mm_call (mm_X len xs) mm_Y (D + d + 3)) (mm_look mc_M_plans) (126, [some (.ref 116), some (.int a1), some (.int a2), some (.int a3), some (.int x15), q18, some (.int x17.2.1)], [], mT x17.2.2) = T) ∧ (∀ v, x17.1 = some v → some (some (.int v), mT x17.2.2) = T)) (fun K hJ => tl_M_plans_88 (len := len) (xs := xs) rf rok D hrf d a1 a2 a3 x15 (T := T) K (fun r hr => (hJ r hr).1) (fun r hr => (hJ r hr).2) mm_N (0 : Int32) _ s) (fun x17 h1 h2 => w_el K (fun v hv h => hK _ h) (fun h1 h2 q18 => ?_) h1 h2)
            revert h1 h2
            refine w_go K 4 (c' := (132, [some (.ref 116), some (.int a1), some (.int a2), some (.int a3), some (.int x15), q18, some (.int x17.2.1)], [.int 0, .int a1, .ref 170], mT x17.2.2)) rfl ?_
            refine w_ck K (st_iS rfl rfl) ?_
            refine w_go K 1 (c' := (134, [some (.ref 116), some (.int a1), some (.int a2), some (.int a3), some (.int x15), q18, some (.int x17.2.1)], [.int 0], mT (sI x17.2.2 170 (ix a1) 0))) rfl ?_
            exact w_ret K rfl (hK _)
theorem m_M_plans {len : Nat} {xs : Nat → Int32} (rf : Int32 → Int32 → Int32 → mS → Int32 × mS) (rok : Int32 → Int32 → Int32 → mS → Prop) (D : Nat) (hrf : ∀ (e : Nat) (b0 : Int32) (b1 : Int32) (b2 : Int32) (s : mS), rok b0 b1 b2 s → mm_call (mm_X len xs) mm_Y (D + e) 237 [.ref 116, .int b0, .int b1, .int b2] (mT s) = some (some (.int (rf b0 b1 b2 s).1), mT (rf b0 b1 b2 s).2)) (d : Nat) (a1 : Int32) (a2 : Int32) (a3 : Int32) (s : mS) : ok_M_plans rf rok a1 a2 a3 s → mm_call (mm_X len xs) mm_Y (D + d + 4) 237 [.ref 116, .int a1, .int a2, .int a3] (mT s) = some (some (.int (f_M_plans rf a1 a2 a3 s).1), mT (f_M_plans rf a1 a2 a3 s).2) := fun h => t_M_plans (len := len) (xs := xs) rf rok D hrf d a1 a2 a3 s (fun t => (some (some (.int t.1), mT t.2) : Option mm_R) = some (some (.int (f_M_plans rf a1 a2 a3 s).1), mT (f_M_plans rf a1 a2 a3 s).2)) (fun _ h => h) h rfl
def F_M_plans : Nat → Int32 → Int32 → Int32 → mS → Int32 × mS
  | 0, b0, b1, b2, s => (0, s)
  | n + 1, b0, b1, b2, s => f_M_plans (F_M_plans n) b0 b1 b2 s
def OK_M_plans : Nat → Int32 → Int32 → Int32 → mS → Prop
  | 0, b0, b1, b2, s => False
  | n + 1, b0, b1, b2, s => ok_M_plans (F_M_plans n) (OK_M_plans n) b0 b1 b2 s
theorem M_M_plans {len : Nat} {xs : Nat → Int32} : ∀ (n d : Nat) (b0 : Int32) (b1 : Int32) (b2 : Int32) (s : mS), OK_M_plans n b0 b1 b2 s → mm_call (mm_X len xs) mm_Y (n * 4 + d) 237 [.ref 116, .int b0, .int b1, .int b2] (mT s) = some (some (.int (F_M_plans n b0 b1 b2 s).1), mT (F_M_plans n b0 b1 b2 s).2)
  | 0, _, _, _, _, _, h => h.elim
  | n + 1, d, b0, b1, b2, s, h => by
    have e : (n + 1) * 4 + d = n * 4 + d + 4 := by omega
    rw [e]
    exact m_M_plans (len := len) (xs := xs) (F_M_plans n) (OK_M_plans n) (n * 4) (M_M_plans n) d b0 b1 b2 s h
def f_M_plansT (b0 : Int32) (b1 : Int32) (b2 : Int32) (s : mS) : Int32 × mS := F_M_plans 9 b0 b1 b2 s
def ok_M_plansT (b0 : Int32) (b1 : Int32) (b2 : Int32) (s : mS) : Prop := OK_M_plans 9 b0 b1 b2 s
theorem m_M_plansT {len : Nat} {xs : Nat → Int32} (d : Nat) (b0 : Int32) (b1 : Int32) (b2 : Int32) (s : mS) (h : ok_M_plansT b0 b1 b2 s) : mm_call (mm_X len xs) mm_Y (d + 36) 237 [.ref 116, .int b0, .int b1, .int b2] (mT s) = some (some (.int (f_M_plansT b0 b1 b2 s).1), mT (f_M_plansT b0 b1 b2 s).2) := by
  have e : d + 36 = 9 * 4 + d := by omega
  rw [e]
  exact M_M_plans 9 d b0 b1 b2 s h
def lp_M_best_53 (a1 : Int32) (a2 : Int32) (a3 : Int32) (a4 : Int32) : Nat → Int32 → mS → Int32 × mS
  | 0, v5, s => (v5, s)
  | n + 1, v5, s => (if (32 : Int32) ≤ v5 then (v5, s) else (mq_let (f_M_stillMakes v5 s) (fun (x14 : Int32) => (mq_let (f_M_wantsIn ((gI s 116 1) + v5) (sI s 172 (ix v5) x14)) (fun (x15 : Int32) => (lp_M_best_53 a1 a2 a3 a4 n (v5 + 1) (sI (sI s 172 (ix v5) x14) 173 (ix v5) x15)))))))
def okl_M_best_53 (a1 : Int32) (a2 : Int32) (a3 : Int32) (a4 : Int32) : Nat → Int32 → mS → Prop
  | 0, v5, s => False
  | n + 1, v5, s => (if (32 : Int32) ≤ v5 then True else (ok_M_stillMakes v5 s ∧ mq_letP (f_M_stillMakes v5 s) (fun (x14 : Int32) => (mm_inb v5 32 = true ∧ (ok_M_wantsIn ((gI s 116 1) + v5) (sI s 172 (ix v5) x14) ∧ mq_letP (f_M_wantsIn ((gI s 116 1) + v5) (sI s 172 (ix v5) x14)) (fun (x15 : Int32) => (mm_inb v5 32 = true ∧ (okl_M_best_53 a1 a2 a3 a4 n (v5 + 1) (sI (sI s 172 (ix v5) x14) 173 (ix v5) x15)))))))))
set_option maxRecDepth 4000 in
theorem tl_M_best_53 {len : Nat} {xs : Nat → Int32}  (d : Nat) (a1 : Int32) (a2 : Int32) (a3 : Int32) (a4 : Int32)  {T : Option mm_R} (K : Int32 × mS → Prop) (hX : ∀ r, K r → ∀ (o6 : Option Value), mm_fix (mm_X len xs) mm_Y (mm_call (mm_X len xs) mm_Y (d + 36)) (mm_look mc_M_best) (97, [some (.ref 116), some (.int a1), some (.int a2), some (.int a3), some (.int a4), some (.int r.1), o6], [], mT r.2) = T) : ∀ (n : Nat), ∀ (v5 : Int32) (o6 : Option Value) (s : mS), okl_M_best_53 a1 a2 a3 a4 n v5 s → K (lp_M_best_53 a1 a2 a3 a4 n v5 s) → mm_fix (mm_X len xs) mm_Y (mm_call (mm_X len xs) mm_Y (d + 36)) (mm_look mc_M_best) (53, [some (.ref 116), some (.int a1), some (.int a2), some (.int a3), some (.int a4), some (.int v5), o6], [], mT s) = T := by
  intro n
  induction n with
  | zero => intro v5 o6 s; exact fun h => h.elim
  | succ n ih =>
    intro v5 o6 s
    rw [okl_M_best_53, lp_M_best_53]
    refine w_go K 2 (c' := (57, [some (.ref 116), some (.int a1), some (.int a2), some (.int a3), some (.int a4), some (.int v5), o6], [.int 32, .int v5], mT s)) rfl ?_
    refine w_ige K rfl (fun _ => ?_) (fun _ => ?_)
    · refine w_go K 0 (c' := (97, [some (.ref 116), some (.int a1), some (.int a2), some (.int a3), some (.int a4), some (.int v5), o6], [], mT s)) rfl ?_
      exact fun _ b => hX _ b _
    · refine w_go K 5 (c' := (69, [some (.ref 116), some (.int a1), some (.int a2), some (.int a3), some (.int a4), some (.int v5), o6], [.int v5, .ref 116, .int v5, .ref 172], mT s)) rfl ?_
      refine w_callL K (E := f_M_stillMakes v5 s) (g := fun (x14 : Int32) => (some (.int x14), mT s)) rfl (m_M_stillMakes (len := len) (xs := xs) (d + 33) v5 s) (fun x14 => ?_)
      refine w_go K 0 (c' := (72, [some (.ref 116), some (.int a1), some (.int a2), some (.int a3), some (.int a4), some (.int v5), o6], [.int x14, .int v5, .ref 172], mT s)) rfl ?_
      refine w_ck K (st_iS rfl rfl) ?_
      refine w_go K 8 (c' := (87, [some (.ref 116), some (.int a1), some (.int a2), some (.int a3), some (.int a4), some (.int v5), o6], [.int ((gI s 116 1) + v5), .ref 116, .int v5, .ref 173], mT (sI s 172 (ix v5) x14))) rfl ?_
      refine w_callL K (E := f_M_wantsIn ((gI s 116 1) + v5) (sI s 172 (ix v5) x14)) (g := fun (x15 : Int32) => (some (.int x15), mT (sI s 172 (ix v5) x14))) rfl (m_M_wantsIn (len := len) (xs := xs) (d + 32) ((gI s 116 1) + v5) (sI s 172 (ix v5) x14)) (fun x15 => ?_)
      refine w_go K 0 (c' := (90, [some (.ref 116), some (.int a1), some (.int a2), some (.int a3), some (.int a4), some (.int v5), o6], [.int x15, .int v5, .ref 173], mT (sI s 172 (ix v5) x14))) rfl ?_
      refine w_ck K (st_iS rfl rfl) ?_
      refine w_go K 2 (c' := (53, [some (.ref 116), some (.int a1), some (.int a2), some (.int a3), some (.int a4), some (.int (v5 + 1)), o6], [], mT (sI (sI s 172 (ix v5) x14) 173 (ix v5) x15))) rfl ?_
      exact fun a b => ih (v5 + 1) _ (sI (sI s 172 (ix v5) x14) 173 (ix v5) x15) a b
def lp_M_best_110 (a1 : Int32) (a2 : Int32) (a3 : Int32) (a4 : Int32) (a5 : Int32) : Nat → Int32 → mS → Int32 × mS
  | 0, v6, s => (v6, s)
  | n + 1, v6, s => (if (8 : Int32) ≤ v6 then (v6, s) else (lp_M_best_110 a1 a2 a3 a4 a5 n (v6 + 1) (sI s 170 (ix v6) 0)))
def okl_M_best_110 (a1 : Int32) (a2 : Int32) (a3 : Int32) (a4 : Int32) (a5 : Int32) : Nat → Int32 → mS → Prop
  | 0, v6, s => False
  | n + 1, v6, s => (if (8 : Int32) ≤ v6 then True else (mm_inb v6 8 = true ∧ (okl_M_best_110 a1 a2 a3 a4 a5 n (v6 + 1) (sI s 170 (ix v6) 0))))
set_option maxRecDepth 4000 in
theorem tl_M_best_110 {len : Nat} {xs : Nat → Int32}  (d : Nat) (a1 : Int32) (a2 : Int32) (a3 : Int32) (a4 : Int32) (a5 : Int32)  {T : Option mm_R} (K : Int32 × mS → Prop) (hX : ∀ r, K r → mm_fix (mm_X len xs) mm_Y (mm_call (mm_X len xs) mm_Y (d + 36)) (mm_look mc_M_best) (131, [some (.ref 116), some (.int a1), some (.int a2), some (.int a3), some (.int a4), some (.int a5), some (.int r.1)], [], mT r.2) = T) : ∀ (n : Nat), ∀ (v6 : Int32) (s : mS), okl_M_best_110 a1 a2 a3 a4 a5 n v6 s → K (lp_M_best_110 a1 a2 a3 a4 a5 n v6 s) → mm_fix (mm_X len xs) mm_Y (mm_call (mm_X len xs) mm_Y (d + 36)) (mm_look mc_M_best) (110, [some (.ref 116), some (.int a1), some (.int a2), some (.int a3), some (.int a4), some (.int a5), some (.int v6)], [], mT s) = T := by
  intro n
  induction n with
  | zero => intro v6 s; exact fun h => h.elim
  | succ n ih =>
    intro v6 s
    rw [okl_M_best_110, lp_M_best_110]
    refine w_go K 2 (c' := (114, [some (.ref 116), some (.int a1), some (.int a2), some (.int a3), some (.int a4), some (.int a5), some (.int v6)], [.int 8, .int v6], mT s)) rfl ?_
    refine w_ige K rfl (fun _ => ?_) (fun _ => ?_)
    · refine w_go K 0 (c' := (131, [some (.ref 116), some (.int a1), some (.int a2), some (.int a3), some (.int a4), some (.int a5), some (.int v6)], [], mT s)) rfl ?_
      exact fun _ b => hX _ b
    · refine w_go K 4 (c' := (124, [some (.ref 116), some (.int a1), some (.int a2), some (.int a3), some (.int a4), some (.int a5), some (.int v6)], [.int 0, .int v6, .ref 170], mT s)) rfl ?_
      refine w_ck K (st_iS rfl rfl) ?_
      refine w_go K 2 (c' := (110, [some (.ref 116), some (.int a1), some (.int a2), some (.int a3), some (.int a4), some (.int a5), some (.int (v6 + 1))], [], mT (sI s 170 (ix v6) 0))) rfl ?_
      exact fun a b => ih (v6 + 1) (sI s 170 (ix v6) 0) a b
def lp_M_best_100 (a1 : Int32) (a2 : Int32) (a3 : Int32) (a4 : Int32) : Nat → Int32 → mS → Option Int32 × Int32 × mS
  | 0, v5, s => (none, v5, s)
  | n + 1, v5, s => (if a4 < v5 then (none, v5, s) else (mq_let (lp_M_best_110 a1 a2 a3 a4 v5 mm_N (0 : Int32) s) (fun (x18 : Int32 × mS) => (mq_let (f_M_plansT (0 : Int32) v5 (a2 * (gI x18.2 118 (ix a1))) x18.2) (fun (x19 : Int32 × mS) => (if x19.1 = 0 then (lp_M_best_100 a1 a2 a3 a4 n (v5 + 1) x19.2) else (if a3 = 0 then (some v5, v5, x19.2) else (some (gI x19.2 170 (ix (a3 - 1))), v5, x19.2))))))))
def okl_M_best_100 (a1 : Int32) (a2 : Int32) (a3 : Int32) (a4 : Int32) : Nat → Int32 → mS → Prop
  | 0, v5, s => False
  | n + 1, v5, s => (if a4 < v5 then True else (okl_M_best_110 a1 a2 a3 a4 v5 mm_N (0 : Int32) s ∧ mq_letP (lp_M_best_110 a1 a2 a3 a4 v5 mm_N (0 : Int32) s) (fun (x18 : Int32 × mS) => (mm_inb a1 3 = true ∧ (ok_M_plansT (0 : Int32) v5 (a2 * (gI x18.2 118 (ix a1))) x18.2 ∧ mq_letP (f_M_plansT (0 : Int32) v5 (a2 * (gI x18.2 118 (ix a1))) x18.2) (fun (x19 : Int32 × mS) => (if x19.1 = 0 then (okl_M_best_100 a1 a2 a3 a4 n (v5 + 1) x19.2) else (if a3 = 0 then True else (mm_inb (a3 - 1) 8 = true ∧ True)))))))))
set_option maxRecDepth 4000 in
theorem tl_M_best_100 {len : Nat} {xs : Nat → Int32}  (d : Nat) (a1 : Int32) (a2 : Int32) (a3 : Int32) (a4 : Int32)  {T : Option mm_R} (K : Option Int32 × Int32 × mS → Prop) (hX : ∀ r, K r → r.1 = none → ∀ (o6 : Option Value), mm_fix (mm_X len xs) mm_Y (mm_call (mm_X len xs) mm_Y (d + 36)) (mm_look mc_M_best) (173, [some (.ref 116), some (.int a1), some (.int a2), some (.int a3), some (.int a4), some (.int r.2.1), o6], [], mT r.2.2) = T) (hR : ∀ r, K r → ∀ v, r.1 = some v → some (some (.int v), mT r.2.2) = T) : ∀ (n : Nat), ∀ (v5 : Int32) (o6 : Option Value) (s : mS), okl_M_best_100 a1 a2 a3 a4 n v5 s → K (lp_M_best_100 a1 a2 a3 a4 n v5 s) → mm_fix (mm_X len xs) mm_Y (mm_call (mm_X len xs) mm_Y (d + 36)) (mm_look mc_M_best) (100, [some (.ref 116), some (.int a1), some (.int a2), some (.int a3), some (.int a4), some (.int v5), o6], [], mT s) = T := by
  intro n
  induction n with
  | zero => intro v5 o6 s; exact fun h => h.elim
  | succ n ih =>
    intro v5 o6 s
    rw [okl_M_best_100, lp_M_best_100]
    refine w_go K 2 (c' := (104, [some (.ref 116), some (.int a1), some (.int a2), some (.int a3), some (.int a4), some (.int v5), o6], [.int a4, .int v5], mT s)) rfl ?_
    refine w_igt K rfl (fun _ => ?_) (fun _ => ?_)
    · refine w_go K 0 (c' := (173, [some (.ref 116), some (.int a1), some (.int a2), some (.int a3), some (.int a4), some (.int v5), o6], [], mT s)) rfl ?_
      exact fun _ b => hX _ b rfl _
    · refine w_go K 2 (c' := (110, [some (.ref 116), some (.int a1), some (.int a2), some (.int a3), some (.int a4), some (.int v5), some (.int 0)], [], mT s)) rfl ?_
      refine w_join K (fun (x18 : Int32 × mS) => mm_fix (mm_X len xs) mm_Y (mm_call (mm_X len xs) mm_Y (d + 36)) (mm_look mc_M_best) (131, [some (.ref 116), some (.int a1), some (.int a2), some (.int a3), some (.int a4), some (.int v5), some (.int x18.1)], [], mT x18.2) = T) (fun K hJ => tl_M_best_110 (len := len) (xs := xs) d a1 a2 a3 a4 v5 (T := T) K hJ mm_N (0 : Int32) s) (fun x18 h1 h2 => ?_)
      revert h1 h2
      refine w_go K 7 (c' := (141, [some (.ref 116), some (.int a1), some (.int a2), some (.int a3), some (.int a4), some (.int v5), some (.int x18.1)], [.int a1, .ref 118, .int a2, .int v5, .int 0, .ref 116], mT x18.2)) rfl ?_
      refine w_ck K (st_iL rfl rfl) ?_
      refine w_go K 1 (c' := (143, [some (.ref 116), some (.int a1), some (.int a2), some (.int a3), some (.int a4), some (.int v5), some (.int x18.1)], [.int (a2 * (gI x18.2 118 (ix a1))), .int v5, .int 0, .ref 116], mT x18.2)) rfl ?_
      refine w_callL K (E := f_M_plansT (0 : Int32) v5 (a2 * (gI x18.2 118 (ix a1))) x18.2) (g := fun (x19 : Int32 × mS) => (some (.int x19.1), mT x19.2)) rfl (m_M_plansT (len := len) (xs := xs) (d + 0) (0 : Int32) v5 (a2 * (gI x18.2 118 (ix a1))) x18.2) (fun x19 => ?_)
      refine w_go K 0 (c' := (146, [some (.ref 116), some (.int a1), some (.int a2), some (.int a3), some (.int a4), some (.int v5), some (.int x18.1)], [.int x19.1], mT x19.2)) rfl ?_
      refine w_zeq K rfl (fun _ => ?_) (fun _ => ?_)
      · refine w_go K 2 (c' := (100, [some (.ref 116), some (.int a1), some (.int a2), some (.int a3), some (.int a4), some (.int (v5 + 1)), some (.int x18.1)], [], mT x19.2)) rfl ?_
        exact fun a b => ih (v5 + 1) _ x19.2 a b
      · refine w_go K 1 (c' := (150, [some (.ref 116), some (.int a1), some (.int a2), some (.int a3), some (.int a4), some (.int v5), some (.int x18.1)], [.int a3], mT x19.2)) rfl ?_
        refine w_zne K rfl (fun _ => ?_) (fun _ => ?_)
        · refine w_go K 2 (c' := (166, [some (.ref 116), some (.int a1), some (.int a2), some (.int a3), some (.int a4), some (.int v5), some (.int x18.1)], [.int v5], mT x19.2)) rfl ?_
          exact w_ret K rfl (fun h => hR _ h _ rfl)
        · refine w_go K 5 (c' := (165, [some (.ref 116), some (.int a1), some (.int a2), some (.int a3), some (.int a4), some (.int v5), some (.int x18.1)], [.int (a3 - 1), .ref 170], mT x19.2)) rfl ?_
          refine w_ck K (st_iL rfl rfl) ?_
          refine w_go K 0 (c' := (166, [some (.ref 116), some (.int a1), some (.int a2), some (.int a3), some (.int a4), some (.int v5), some (.int x18.1)], [.int (gI x19.2 170 (ix (a3 - 1)))], mT x19.2)) rfl ?_
          exact w_ret K rfl (fun h => hR _ h _ rfl)
def f_M_best (a1 : Int32) (a2 : Int32) (a3 : Int32) (s : mS) : Int32 × mS := (mq_let (f_M_isCoal a1 s) (fun (x10 : Int32) => (if x10 = 0 then ((-1), s) else (mq_let (f_M_isIn a2 (1 : Int32) (9 : Int32) s) (fun (x11 : Int32) => (if x11 = 0 then ((-1), s) else (mq_let (f_M_isIn a3 (0 : Int32) (8 : Int32) s) (fun (x12 : Int32) => (if x12 = 0 then ((-1), s) else (mq_let (if ((gI s 121 (ix a1)) / a2) ≤ 48 then ((gI s 121 (ix a1)) / a2) else (48 : Int32)) (fun (x13 : Int32) => (mq_let (lp_M_best_53 a1 a2 a3 x13 mm_N (0 : Int32) s) (fun (x16 : Int32 × mS) => (mq_let (lp_M_best_100 a1 a2 a3 x13 mm_N (0 : Int32) x16.2) (fun (x20 : Option Int32 × Int32 × mS) => mq_el x20.1 (fun v => (v, x20.2.2)) ((-1), x20.2.2))))))))))))))))
def ok_M_best (a1 : Int32) (a2 : Int32) (a3 : Int32) (s : mS) : Prop := (ok_M_isCoal a1 s ∧ mq_letP (f_M_isCoal a1 s) (fun (x10 : Int32) => (if x10 = 0 then True else (True ∧ mq_letP (f_M_isIn a2 (1 : Int32) (9 : Int32) s) (fun (x11 : Int32) => (if x11 = 0 then True else (True ∧ mq_letP (f_M_isIn a3 (0 : Int32) (8 : Int32) s) (fun (x12 : Int32) => (if x12 = 0 then True else (mm_inb a1 3 = true ∧ ((!(decide (a2 = (0 : Int32)))) = true ∧ (True ∧ mq_letP (if ((gI s 121 (ix a1)) / a2) ≤ 48 then ((gI s 121 (ix a1)) / a2) else (48 : Int32)) (fun (x13 : Int32) => (okl_M_best_53 a1 a2 a3 x13 mm_N (0 : Int32) s ∧ mq_letP (lp_M_best_53 a1 a2 a3 x13 mm_N (0 : Int32) s) (fun (x16 : Int32 × mS) => (okl_M_best_100 a1 a2 a3 x13 mm_N (0 : Int32) x16.2 ∧ mq_letP (lp_M_best_100 a1 a2 a3 x13 mm_N (0 : Int32) x16.2) (fun (x20 : Option Int32 × Int32 × mS) => mq_elP x20.1 True)))))))))))))))))
set_option maxRecDepth 4000 in
theorem t_M_best {len : Nat} {xs : Nat → Int32}  (d : Nat) (a1 : Int32) (a2 : Int32) (a3 : Int32) (s : mS) {T : Option mm_R} (K : Int32 × mS → Prop) (hK : ∀ t, K t → some (some (.int t.1), mT t.2) = T) : ok_M_best a1 a2 a3 s → K (f_M_best a1 a2 a3 s) → mm_fix (mm_X len xs) mm_Y (mm_call (mm_X len xs) mm_Y (d + 36)) (mm_look mc_M_best) (0, [some (.ref 116), some (.int a1), some (.int a2), some (.int a3), none, none, none], [], mT s) = T := by
  unfold ok_M_best f_M_best
  refine w_go K 1 (c' := (1, [some (.ref 116), some (.int a1), some (.int a2), some (.int a3), none, none, none], [.int a1], mT s)) rfl ?_
  refine w_callL K (E := f_M_isCoal a1 s) (g := fun (x10 : Int32) => (some (.int x10), mT s)) rfl (m_M_isCoal (len := len) (xs := xs) (d + 34) a1 s) (fun x10 => ?_)
  refine w_go K 0 (c' := (4, [some (.ref 116), some (.int a1), some (.int a2), some (.int a3), none, none, none], [.int x10], mT s)) rfl ?_
  refine w_zeq K rfl (fun _ => ?_) (fun _ => ?_)
  · refine w_go K 1 (c' := (28, [some (.ref 116), some (.int a1), some (.int a2), some (.int a3), none, none, none], [.int (-1)], mT s)) rfl ?_
    exact w_ret K rfl (hK _)
  · refine w_go K 3 (c' := (11, [some (.ref 116), some (.int a1), some (.int a2), some (.int a3), none, none, none], [.int 9, .int 1, .int a2], mT s)) rfl ?_
    refine w_callL K (E := f_M_isIn a2 (1 : Int32) (9 : Int32) s) (g := fun (x11 : Int32) => (some (.int x11), mT s)) rfl (m_M_isIn (len := len) (xs := xs) (d + 35) a2 (1 : Int32) (9 : Int32) s) (fun x11 => ?_)
    refine w_go K 0 (c' := (14, [some (.ref 116), some (.int a1), some (.int a2), some (.int a3), none, none, none], [.int x11], mT s)) rfl ?_
    refine w_zeq K rfl (fun _ => ?_) (fun _ => ?_)
    · refine w_go K 1 (c' := (28, [some (.ref 116), some (.int a1), some (.int a2), some (.int a3), none, none, none], [.int (-1)], mT s)) rfl ?_
      exact w_ret K rfl (hK _)
    · refine w_go K 3 (c' := (21, [some (.ref 116), some (.int a1), some (.int a2), some (.int a3), none, none, none], [.int 8, .int 0, .int a3], mT s)) rfl ?_
      refine w_callL K (E := f_M_isIn a3 (0 : Int32) (8 : Int32) s) (g := fun (x12 : Int32) => (some (.int x12), mT s)) rfl (m_M_isIn (len := len) (xs := xs) (d + 35) a3 (0 : Int32) (8 : Int32) s) (fun x12 => ?_)
      refine w_go K 0 (c' := (24, [some (.ref 116), some (.int a1), some (.int a2), some (.int a3), none, none, none], [.int x12], mT s)) rfl ?_
      refine w_zne K rfl (fun _ => ?_) (fun _ => ?_)
      · refine w_go K 1 (c' := (28, [some (.ref 116), some (.int a1), some (.int a2), some (.int a3), none, none, none], [.int (-1)], mT s)) rfl ?_
        exact w_ret K rfl (hK _)
      · refine w_go K 3 (c' := (34, [some (.ref 116), some (.int a1), some (.int a2), some (.int a3), none, none, none], [.int a1, .ref 121], mT s)) rfl ?_
        refine w_ck K (st_iL rfl rfl) ?_
        refine w_go K 1 (c' := (36, [some (.ref 116), some (.int a1), some (.int a2), some (.int a3), none, none, none], [.int a2, .int (gI s 121 (ix a1))], mT s)) rfl ?_
        refine w_ck K rfl ?_
        refine w_go K 3 (c' := (43, [some (.ref 116), some (.int a1), some (.int a2), some (.int a3), some (.int ((gI s 121 (ix a1)) / a2)), none, none], [.int 48, .int ((gI s 121 (ix a1)) / a2)], mT s)) rfl ?_
        refine w_join K (fun (x13 : Int32) => mm_fix (mm_X len xs) mm_Y (mm_call (mm_X len xs) mm_Y (d + 36)) (mm_look mc_M_best) (50, [some (.ref 116), some (.int a1), some (.int a2), some (.int a3), some (.int x13), none, none], [], mT s) = T) (fun K hJ => ?_) (fun x13 h1 h2 => ?_)
        · refine w_go K 0 (c' := (43, [some (.ref 116), some (.int a1), some (.int a2), some (.int a3), some (.int ((gI s 121 (ix a1)) / a2)), none, none], [.int 48, .int ((gI s 121 (ix a1)) / a2)], mT s)) rfl ?_
          refine w_ileT K rfl (fun _ => ?_) (fun _ => ?_)
          · refine w_go K 0 (c' := (50, [some (.ref 116), some (.int a1), some (.int a2), some (.int a3), some (.int ((gI s 121 (ix a1)) / a2)), none, none], [], mT s)) rfl ?_
            exact fun _ h => hJ _ h
          · refine w_go K 2 (c' := (50, [some (.ref 116), some (.int a1), some (.int a2), some (.int a3), some (.int 48), none, none], [], mT s)) rfl ?_
            exact fun _ h => hJ _ h
        · revert h1 h2
          refine w_go K 2 (c' := (53, [some (.ref 116), some (.int a1), some (.int a2), some (.int a3), some (.int x13), some (.int 0), none], [], mT s)) rfl ?_
          refine w_join K (fun (x16 : Int32 × mS) => ∀ (q17 : Option Value), mm_fix (mm_X len xs) mm_Y (mm_call (mm_X len xs) mm_Y (d + 36)) (mm_look mc_M_best) (97, [some (.ref 116), some (.int a1), some (.int a2), some (.int a3), some (.int x13), some (.int x16.1), q17], [], mT x16.2) = T) (fun K hJ => tl_M_best_53 (len := len) (xs := xs) d a1 a2 a3 x13 (T := T) K hJ mm_N (0 : Int32) _ s) (fun x16 h1 h2 q17 => ?_)
          revert h1 h2
          refine w_go K 2 (c' := (100, [some (.ref 116), some (.int a1), some (.int a2), some (.int a3), some (.int x13), some (.int 0), q17], [], mT x16.2)) rfl ?_
          refine w_join K (fun (x20 : Option Int32 × Int32 × mS) => (x20.1 = none → ∀ (q21 : Option Value), mm_fix (mm_X len xs) mm_Y (mm_call (mm_X len xs) mm_Y (d + 36)) (mm_look mc_M_best) (173, [some (.ref 116), some (.int a1), some (.int a2), some (.int a3), some (.int x13), some (.int x20.2.1), q21], [], mT x20.2.2) = T) ∧ (∀ v, x20.1 = some v → some (some (.int v), mT x20.2.2) = T)) (fun K hJ => tl_M_best_100 (len := len) (xs := xs) d a1 a2 a3 x13 (T := T) K (fun r hr => (hJ r hr).1) (fun r hr => (hJ r hr).2) mm_N (0 : Int32) _ x16.2) (fun x20 h1 h2 => w_el K (fun v hv h => hK _ h) (fun h1 h2 q21 => ?_) h1 h2)
          revert h1 h2
          refine w_go K 1 (c' := (174, [some (.ref 116), some (.int a1), some (.int a2), some (.int a3), some (.int x13), some (.int x20.2.1), q21], [.int (-1)], mT x20.2.2)) rfl ?_
          exact w_ret K rfl (hK _)
theorem m_M_best {len : Nat} {xs : Nat → Int32}  (d : Nat) (a1 : Int32) (a2 : Int32) (a3 : Int32) (s : mS) : ok_M_best a1 a2 a3 s → mm_call (mm_X len xs) mm_Y (d + 37) 234 [.ref 116, .int a1, .int a2, .int a3] (mT s) = some (some (.int (f_M_best a1 a2 a3 s).1), mT (f_M_best a1 a2 a3 s).2) := fun h => t_M_best (len := len) (xs := xs) d a1 a2 a3 s (fun t => (some (some (.int t.1), mT t.2) : Option mm_R) = some (some (.int (f_M_best a1 a2 a3 s).1), mT (f_M_best a1 a2 a3 s).2)) (fun _ h => h) h rfl
def lp_Night_firstShort_9 (a1 : Int32) (s : mS) : Nat → Int32 → Int32 → Option Int32 × Int32 × Int32
  | 0, v5, v6 => (none, v5, v6)
  | n + 1, v5, v6 => (if (192 : Int32) ≤ v6 then (none, v5, v6) else (mq_let (f_Works_gasLater v6 s) (fun (x10 : Int32) => (mq_let (f_Things_allWants (a1 + v6) s) (fun (x11 : Int32) => (if (0 : Int32) ≤ ((if (v5 + x10) < (gI s 3 11) then (v5 + x10) else (gI s 3 11)) - x11) then (lp_Night_firstShort_9 a1 s n ((if (v5 + x10) < (gI s 3 11) then (v5 + x10) else (gI s 3 11)) - x11) (v6 + 1)) else (some (a1 + v6), v5, v6)))))))
def okl_Night_firstShort_9 (a1 : Int32) (s : mS) : Nat → Int32 → Int32 → Prop
  | 0, v5, v6 => False
  | n + 1, v5, v6 => (if (192 : Int32) ≤ v6 then True else (ok_Works_gasLater v6 s ∧ mq_letP (f_Works_gasLater v6 s) (fun (x10 : Int32) => (ok_Things_allWants (a1 + v6) s ∧ mq_letP (f_Things_allWants (a1 + v6) s) (fun (x11 : Int32) => (if (0 : Int32) ≤ ((if (v5 + x10) < (gI s 3 11) then (v5 + x10) else (gI s 3 11)) - x11) then (okl_Night_firstShort_9 a1 s n ((if (v5 + x10) < (gI s 3 11) then (v5 + x10) else (gI s 3 11)) - x11) (v6 + 1)) else True))))))
set_option maxRecDepth 4000 in
theorem tl_Night_firstShort_9 {len : Nat} {xs : Nat → Int32}  (d : Nat) (a1 : Int32) (s : mS) {T : Option mm_R} (K : Option Int32 × Int32 × Int32 → Prop) (hX : ∀ r, K r → r.1 = none → ∀ (o0 : Option Value), mm_fix (mm_X len xs) mm_Y (mm_call (mm_X len xs) mm_Y (d + 5)) (mm_look mc_Night_firstShort) (62, [o0, some (.int a1), some (.ref 3), some (.ref 12), some (.ref 1), some (.int r.2.1), some (.int r.2.2)], [], mT s) = T) (hR : ∀ r, K r → ∀ v, r.1 = some v → some (some (.int v), mT s) = T) : ∀ (n : Nat), ∀ (v5 : Int32) (v6 : Int32) (o0 : Option Value), okl_Night_firstShort_9 a1 s n v5 v6 → K (lp_Night_firstShort_9 a1 s n v5 v6) → mm_fix (mm_X len xs) mm_Y (mm_call (mm_X len xs) mm_Y (d + 5)) (mm_look mc_Night_firstShort) (9, [o0, some (.int a1), some (.ref 3), some (.ref 12), some (.ref 1), some (.int v5), some (.int v6)], [], mT s) = T := by
  intro n
  induction n with
  | zero => intro v5 v6 o0; exact fun h => h.elim
  | succ n ih =>
    intro v5 v6 o0
    rw [okl_Night_firstShort_9, lp_Night_firstShort_9]
    refine w_go K 2 (c' := (14, [o0, some (.int a1), some (.ref 3), some (.ref 12), some (.ref 1), some (.int v5), some (.int v6)], [.int 192, .int v6], mT s)) rfl ?_
    refine w_ige K rfl (fun _ => ?_) (fun _ => ?_)
    · refine w_go K 0 (c' := (62, [o0, some (.int a1), some (.ref 3), some (.ref 12), some (.ref 1), some (.int v5), some (.int v6)], [], mT s)) rfl ?_
      exact fun _ b => hX _ b rfl _
    · refine w_go K 5 (c' := (26, [o0, some (.int a1), some (.ref 3), some (.ref 12), some (.ref 1), some (.int v5), some (.int v6)], [.int v6, .ref 3, .int v5, .int (gI s 3 11)], mT s)) rfl ?_
      refine w_callL K (E := f_Works_gasLater v6 s) (g := fun (x10 : Int32) => (some (.int x10), mT s)) rfl (m_Works_gasLater (len := len) (xs := xs) (d + 3) v6 s) (fun x10 => ?_)
      refine w_go K 7 (c' := (40, [o0, some (.int a1), some (.ref 3), some (.ref 12), some (.ref 1), some (.int v5), some (.int v6)], [.ref 1, .int (a1 + v6), .ref 12, .int (if (v5 + x10) < (gI s 3 11) then (v5 + x10) else (gI s 3 11))], mT s)) rfl ?_
      refine w_callL K (E := f_Things_allWants (a1 + v6) s) (g := fun (x11 : Int32) => (some (.int x11), mT s)) rfl (m_Things_allWants (len := len) (xs := xs) (d + 0) (a1 + v6) s) (fun x11 => ?_)
      refine w_go K 3 (c' := (48, [o0, some (.int a1), some (.ref 3), some (.ref 12), some (.ref 1), some (.int ((if (v5 + x10) < (gI s 3 11) then (v5 + x10) else (gI s 3 11)) - x11)), some (.int v6)], [.int ((if (v5 + x10) < (gI s 3 11) then (v5 + x10) else (gI s 3 11)) - x11)], mT s)) rfl ?_
      refine w_zge K rfl (fun _ => ?_) (fun _ => ?_)
      · refine w_go K 2 (c' := (9, [o0, some (.int a1), some (.ref 3), some (.ref 12), some (.ref 1), some (.int ((if (v5 + x10) < (gI s 3 11) then (v5 + x10) else (gI s 3 11)) - x11)), some (.int (v6 + 1))], [], mT s)) rfl ?_
        exact fun a b => ih ((if (v5 + x10) < (gI s 3 11) then (v5 + x10) else (gI s 3 11)) - x11) (v6 + 1) _ a b
      · refine w_go K 3 (c' := (55, [o0, some (.int a1), some (.ref 3), some (.ref 12), some (.ref 1), some (.int ((if (v5 + x10) < (gI s 3 11) then (v5 + x10) else (gI s 3 11)) - x11)), some (.int v6)], [.int (a1 + v6)], mT s)) rfl ?_
        exact w_ret K rfl (fun h => hR _ h _ rfl)
def f_Night_firstShort (a1 : Int32) (s : mS) : Int32 := (mq_let (lp_Night_firstShort_9 a1 s mm_N (gI s 3 12) (0 : Int32)) (fun (x12 : Option Int32 × Int32 × Int32) => mq_el x12.1 (fun v => v) (-1)))
def ok_Night_firstShort (a1 : Int32) (s : mS) : Prop := (okl_Night_firstShort_9 a1 s mm_N (gI s 3 12) (0 : Int32) ∧ mq_letP (lp_Night_firstShort_9 a1 s mm_N (gI s 3 12) (0 : Int32)) (fun (x12 : Option Int32 × Int32 × Int32) => mq_elP x12.1 True))
set_option maxRecDepth 4000 in
theorem t_Night_firstShort {len : Nat} {xs : Nat → Int32}  (d : Nat) (a1 : Int32) (s : mS) {T : Option mm_R} (K : Int32 → Prop) (hK : ∀ t, K t → some (some (.int t), mT s) = T) : ok_Night_firstShort a1 s → K (f_Night_firstShort a1 s) → mm_fix (mm_X len xs) mm_Y (mm_call (mm_X len xs) mm_Y (d + 5)) (mm_look mc_Night_firstShort) (0, [some (.ref 94), some (.int a1), some (.ref 3), some (.ref 12), some (.ref 1), none, none], [], mT s) = T := by
  unfold ok_Night_firstShort f_Night_firstShort
  refine w_go K 5 (c' := (9, [some (.ref 94), some (.int a1), some (.ref 3), some (.ref 12), some (.ref 1), some (.int (gI s 3 12)), some (.int 0)], [], mT s)) rfl ?_
  refine w_join K (fun (x12 : Option Int32 × Int32 × Int32) => (x12.1 = none → ∀ (q13 : Option Value), mm_fix (mm_X len xs) mm_Y (mm_call (mm_X len xs) mm_Y (d + 5)) (mm_look mc_Night_firstShort) (62, [q13, some (.int a1), some (.ref 3), some (.ref 12), some (.ref 1), some (.int x12.2.1), some (.int x12.2.2)], [], mT s) = T) ∧ (∀ v, x12.1 = some v → some (some (.int v), mT s) = T)) (fun K hJ => tl_Night_firstShort_9 (len := len) (xs := xs) d a1 s (T := T) K (fun r hr => (hJ r hr).1) (fun r hr => (hJ r hr).2) mm_N (gI s 3 12) (0 : Int32) _) (fun x12 h1 h2 => w_el K (fun v hv h => hK _ h) (fun h1 h2 q13 => ?_) h1 h2)
  revert h1 h2
  refine w_go K 1 (c' := (63, [q13, some (.int a1), some (.ref 3), some (.ref 12), some (.ref 1), some (.int x12.2.1), some (.int x12.2.2)], [.int (-1)], mT s)) rfl ?_
  exact w_ret K rfl (hK _)
theorem m_Night_firstShort {len : Nat} {xs : Nat → Int32}  (d : Nat) (a1 : Int32) (s : mS) : ok_Night_firstShort a1 s → mm_call (mm_X len xs) mm_Y (d + 6) 139 [.ref 94, .int a1, .ref 3, .ref 12, .ref 1] (mT s) = some (some (.int (f_Night_firstShort a1 s)), mT s) := fun h => t_Night_firstShort (len := len) (xs := xs) d a1 s (fun t => (some (some (.int t), mT s) : Option mm_R) = some (some (.int (f_Night_firstShort a1 s)), mT s)) (fun _ h => h) h rfl
def f_G_last  (s : mS) : Int32 := (mq_let (f_Night_firstShort (gI s 0 9) s) (fun (x10 : Int32) => x10))
def ok_G_last  (s : mS) : Prop := (ok_Night_firstShort (gI s 0 9) s ∧ mq_letP (f_Night_firstShort (gI s 0 9) s) (fun (x10 : Int32) => True))
set_option maxRecDepth 4000 in
theorem t_G_last {len : Nat} {xs : Nat → Int32}  (d : Nat)  (s : mS) {T : Option mm_R} (K : Int32 → Prop) (hK : ∀ t, K t → some (some (.int t), mT s) = T) : ok_G_last s → K (f_G_last s) → mm_fix (mm_X len xs) mm_Y (mm_call (mm_X len xs) mm_Y (d + 6)) (mm_look mc_G_last) (0, [some (.ref 0)], [], mT s) = T := by
  unfold ok_G_last f_G_last
  refine w_go K 10 (c' := (20, [some (.ref 0)], [.ref 1, .ref 12, .ref 3, .int (gI s 0 9), .ref 94], mT s)) rfl ?_
  refine w_callL K (E := f_Night_firstShort (gI s 0 9) s) (g := fun (x10 : Int32) => (some (.int x10), mT s)) rfl (m_Night_firstShort (len := len) (xs := xs) (d + 0) (gI s 0 9) s) (fun x10 => ?_)
  refine w_go K 0 (c' := (23, [some (.ref 0)], [.int x10], mT s)) rfl ?_
  exact w_ret K rfl (hK _)
theorem m_G_last {len : Nat} {xs : Nat → Int32}  (d : Nat)  (s : mS) : ok_G_last s → mm_call (mm_X len xs) mm_Y (d + 7) 138 [.ref 0] (mT s) = some (some (.int (f_G_last s)), mT s) := fun h => t_G_last (len := len) (xs := xs) d s (fun t => (some (some (.int t), mT s) : Option mm_R) = some (some (.int (f_G_last s)), mT s)) (fun _ h => h) h rfl
def lp_M_last_7 (s : mS) : Nat → Int32 → Int32 → Option Int32 × Int32 × Int32
  | 0, v1, v2 => (none, v1, v2)
  | n + 1, v1, v2 => (if (192 : Int32) ≤ v2 then (none, v1, v2) else (mq_let (f_M_stillMakes v2 s) (fun (x10 : Int32) => (mq_let (if (v1 + x10) ≤ (gI s 116 5) then (v1 + x10) else (gI s 116 5)) (fun (x11 : Int32) => (mq_let (f_M_wantsIn ((gI s 116 1) + v2) s) (fun (x12 : Int32) => (if x12 ≤ x11 then (lp_M_last_7 s n (x11 - x12) (v2 + 1)) else (some ((gI s 116 1) + v2), v1, v2)))))))))
def okl_M_last_7 (s : mS) : Nat → Int32 → Int32 → Prop
  | 0, v1, v2 => False
  | n + 1, v1, v2 => (if (192 : Int32) ≤ v2 then True else (ok_M_stillMakes v2 s ∧ mq_letP (f_M_stillMakes v2 s) (fun (x10 : Int32) => (True ∧ mq_letP (if (v1 + x10) ≤ (gI s 116 5) then (v1 + x10) else (gI s 116 5)) (fun (x11 : Int32) => (ok_M_wantsIn ((gI s 116 1) + v2) s ∧ mq_letP (f_M_wantsIn ((gI s 116 1) + v2) s) (fun (x12 : Int32) => (if x12 ≤ x11 then (okl_M_last_7 s n (x11 - x12) (v2 + 1)) else True))))))))
set_option maxRecDepth 4000 in
theorem tl_M_last_7 {len : Nat} {xs : Nat → Int32}  (d : Nat)  (s : mS) {T : Option mm_R} (K : Option Int32 × Int32 × Int32 → Prop) (hX : ∀ r, K r → r.1 = none → ∀ (o3 : Option Value), mm_fix (mm_X len xs) mm_Y (mm_call (mm_X len xs) mm_Y (d + 4)) (mm_look mc_M_last) (68, [some (.ref 116), some (.int r.2.1), some (.int r.2.2), o3], [], mT s) = T) (hR : ∀ r, K r → ∀ v, r.1 = some v → some (some (.int v), mT s) = T) : ∀ (n : Nat), ∀ (v1 : Int32) (v2 : Int32) (o3 : Option Value), okl_M_last_7 s n v1 v2 → K (lp_M_last_7 s n v1 v2) → mm_fix (mm_X len xs) mm_Y (mm_call (mm_X len xs) mm_Y (d + 4)) (mm_look mc_M_last) (7, [some (.ref 116), some (.int v1), some (.int v2), o3], [], mT s) = T := by
  intro n
  induction n with
  | zero => intro v1 v2 o3; exact fun h => h.elim
  | succ n ih =>
    intro v1 v2 o3
    rw [okl_M_last_7, lp_M_last_7]
    refine w_go K 2 (c' := (11, [some (.ref 116), some (.int v1), some (.int v2), o3], [.int 192, .int v2], mT s)) rfl ?_
    refine w_ige K rfl (fun _ => ?_) (fun _ => ?_)
    · refine w_go K 0 (c' := (68, [some (.ref 116), some (.int v1), some (.int v2), o3], [], mT s)) rfl ?_
      exact fun _ b => hX _ b rfl _
    · refine w_go K 3 (c' := (17, [some (.ref 116), some (.int v1), some (.int v2), o3], [.int v2, .ref 116, .int v1], mT s)) rfl ?_
      refine w_callL K (E := f_M_stillMakes v2 s) (g := fun (x10 : Int32) => (some (.int x10), mT s)) rfl (m_M_stillMakes (len := len) (xs := xs) (d + 1) v2 s) (fun x10 => ?_)
      refine w_go K 5 (c' := (27, [some (.ref 116), some (.int (v1 + x10)), some (.int v2), o3], [.int (gI s 116 5), .int (v1 + x10)], mT s)) rfl ?_
      refine w_join K (fun (x11 : Int32) => mm_fix (mm_X len xs) mm_Y (mm_call (mm_X len xs) mm_Y (d + 4)) (mm_look mc_M_last) (35, [some (.ref 116), some (.int x11), some (.int v2), o3], [], mT s) = T) (fun K hJ => ?_) (fun x11 h1 h2 => ?_)
      · refine w_go K 0 (c' := (27, [some (.ref 116), some (.int (v1 + x10)), some (.int v2), o3], [.int (gI s 116 5), .int (v1 + x10)], mT s)) rfl ?_
        refine w_ileT K rfl (fun _ => ?_) (fun _ => ?_)
        · refine w_go K 0 (c' := (35, [some (.ref 116), some (.int (v1 + x10)), some (.int v2), o3], [], mT s)) rfl ?_
          exact fun _ h => hJ _ h
        · refine w_go K 3 (c' := (35, [some (.ref 116), some (.int (gI s 116 5)), some (.int v2), o3], [], mT s)) rfl ?_
          exact fun _ h => hJ _ h
      · revert h1 h2
        refine w_go K 5 (c' := (42, [some (.ref 116), some (.int x11), some (.int v2), o3], [.int ((gI s 116 1) + v2), .ref 116], mT s)) rfl ?_
        refine w_callL K (E := f_M_wantsIn ((gI s 116 1) + v2) s) (g := fun (x12 : Int32) => (some (.int x12), mT s)) rfl (m_M_wantsIn (len := len) (xs := xs) (d + 0) ((gI s 116 1) + v2) s) (fun x12 => ?_)
        refine w_go K 3 (c' := (48, [some (.ref 116), some (.int x11), some (.int v2), some (.int x12)], [.int x12, .int x11], mT s)) rfl ?_
        refine w_ige K rfl (fun _ => ?_) (fun _ => ?_)
        · refine w_go K 6 (c' := (7, [some (.ref 116), some (.int (x11 - x12)), some (.int (v2 + 1)), some (.int x12)], [], mT s)) rfl ?_
          exact fun a b => ih (x11 - x12) (v2 + 1) _ a b
        · refine w_go K 4 (c' := (57, [some (.ref 116), some (.int x11), some (.int v2), some (.int x12)], [.int ((gI s 116 1) + v2)], mT s)) rfl ?_
          exact w_ret K rfl (fun h => hR _ h _ rfl)
def f_M_last  (s : mS) : Int32 := (mq_let (lp_M_last_7 s mm_N (gI s 116 6) (0 : Int32)) (fun (x13 : Option Int32 × Int32 × Int32) => mq_el x13.1 (fun v => v) (-1)))
def ok_M_last  (s : mS) : Prop := (okl_M_last_7 s mm_N (gI s 116 6) (0 : Int32) ∧ mq_letP (lp_M_last_7 s mm_N (gI s 116 6) (0 : Int32)) (fun (x13 : Option Int32 × Int32 × Int32) => mq_elP x13.1 True))
set_option maxRecDepth 4000 in
theorem t_M_last {len : Nat} {xs : Nat → Int32}  (d : Nat)  (s : mS) {T : Option mm_R} (K : Int32 → Prop) (hK : ∀ t, K t → some (some (.int t), mT s) = T) : ok_M_last s → K (f_M_last s) → mm_fix (mm_X len xs) mm_Y (mm_call (mm_X len xs) mm_Y (d + 4)) (mm_look mc_M_last) (0, [some (.ref 116), none, none, none], [], mT s) = T := by
  unfold ok_M_last f_M_last
  refine w_go K 5 (c' := (7, [some (.ref 116), some (.int (gI s 116 6)), some (.int 0), none], [], mT s)) rfl ?_
  refine w_join K (fun (x13 : Option Int32 × Int32 × Int32) => (x13.1 = none → ∀ (q14 : Option Value), mm_fix (mm_X len xs) mm_Y (mm_call (mm_X len xs) mm_Y (d + 4)) (mm_look mc_M_last) (68, [some (.ref 116), some (.int x13.2.1), some (.int x13.2.2), q14], [], mT s) = T) ∧ (∀ v, x13.1 = some v → some (some (.int v), mT s) = T)) (fun K hJ => tl_M_last_7 (len := len) (xs := xs) d s (T := T) K (fun r hr => (hJ r hr).1) (fun r hr => (hJ r hr).2) mm_N (gI s 116 6) (0 : Int32) _) (fun x13 h1 h2 => w_el K (fun v hv h => hK _ h) (fun h1 h2 q14 => ?_) h1 h2)
  revert h1 h2
  refine w_go K 1 (c' := (69, [some (.ref 116), some (.int x13.2.1), some (.int x13.2.2), q14], [.int (-1)], mT s)) rfl ?_
  exact w_ret K rfl (hK _)
theorem m_M_last {len : Nat} {xs : Nat → Int32}  (d : Nat)  (s : mS) : ok_M_last s → mm_call (mm_X len xs) mm_Y (d + 5) 240 [.ref 116] (mT s) = some (some (.int (f_M_last s)), mT s) := fun h => t_M_last (len := len) (xs := xs) d s (fun t => (some (some (.int t), mT s) : Option mm_R) = some (some (.int (f_M_last s)), mT s)) (fun _ h => h) h rfl
def f_G_sees (a1 : Int32) (a2 : Int32) (s : mS) : Int32 × mS := (mq_let (f_Net_hasPipe a1 s) (fun (x10 : Int32) => (if x10 = 0 then (0, s) else (mq_let (f_G_within a2 ((-1) : Int32) (1 : Int32) s) (fun (x11 : Int32) => (if x11 = 0 then (0, s) else (1, sI s 103 (ix a1) a2)))))))
def ok_G_sees (a1 : Int32) (a2 : Int32) (s : mS) : Prop := (True ∧ mq_letP (f_Net_hasPipe a1 s) (fun (x10 : Int32) => (if x10 = 0 then True else (True ∧ mq_letP (f_G_within a2 ((-1) : Int32) (1 : Int32) s) (fun (x11 : Int32) => (if x11 = 0 then True else (mm_inb a1 16 = true ∧ True)))))))
set_option maxRecDepth 4000 in
theorem t_G_sees {len : Nat} {xs : Nat → Int32}  (d : Nat) (a1 : Int32) (a2 : Int32) (s : mS) {T : Option mm_R} (K : Int32 × mS → Prop) (hK : ∀ t, K t → some (some (.int t.1), mT t.2) = T) : ok_G_sees a1 a2 s → K (f_G_sees a1 a2 s) → mm_fix (mm_X len xs) mm_Y (mm_call (mm_X len xs) mm_Y (d + 2)) (mm_look mc_G_sees) (0, [some (.ref 0), some (.int a1), some (.int a2)], [], mT s) = T := by
  unfold ok_G_sees f_G_sees
  refine w_go K 3 (c' := (5, [some (.ref 0), some (.int a1), some (.int a2)], [.int a1, .ref 25], mT s)) rfl ?_
  refine w_callL K (E := f_Net_hasPipe a1 s) (g := fun (x10 : Int32) => (some (.int x10), mT s)) rfl (m_Net_hasPipe (len := len) (xs := xs) (d + 0) a1 s) (fun x10 => ?_)
  refine w_go K 0 (c' := (8, [some (.ref 0), some (.int a1), some (.int a2)], [.int x10], mT s)) rfl ?_
  refine w_zeq K rfl (fun _ => ?_) (fun _ => ?_)
  · refine w_go K 1 (c' := (21, [some (.ref 0), some (.int a1), some (.int a2)], [.int 0], mT s)) rfl ?_
    exact w_ret K rfl (hK _)
  · refine w_go K 3 (c' := (14, [some (.ref 0), some (.int a1), some (.int a2)], [.int 1, .int (-1), .int a2], mT s)) rfl ?_
    refine w_callL K (E := f_G_within a2 ((-1) : Int32) (1 : Int32) s) (g := fun (x11 : Int32) => (some (.int x11), mT s)) rfl (m_G_within (len := len) (xs := xs) (d + 1) a2 ((-1) : Int32) (1 : Int32) s) (fun x11 => ?_)
    refine w_go K 0 (c' := (17, [some (.ref 0), some (.int a1), some (.int a2)], [.int x11], mT s)) rfl ?_
    refine w_zne K rfl (fun _ => ?_) (fun _ => ?_)
    · refine w_go K 1 (c' := (21, [some (.ref 0), some (.int a1), some (.int a2)], [.int 0], mT s)) rfl ?_
      exact w_ret K rfl (hK _)
    · refine w_go K 5 (c' := (31, [some (.ref 0), some (.int a1), some (.int a2)], [.int a2, .int a1, .ref 103], mT s)) rfl ?_
      refine w_ck K (st_iS rfl rfl) ?_
      refine w_go K 1 (c' := (33, [some (.ref 0), some (.int a1), some (.int a2)], [.int 1], mT (sI s 103 (ix a1) a2))) rfl ?_
      exact w_ret K rfl (hK _)
theorem m_G_sees {len : Nat} {xs : Nat → Int32}  (d : Nat) (a1 : Int32) (a2 : Int32) (s : mS) : ok_G_sees a1 a2 s → mm_call (mm_X len xs) mm_Y (d + 3) 140 [.ref 0, .int a1, .int a2] (mT s) = some (some (.int (f_G_sees a1 a2 s).1), mT (f_G_sees a1 a2 s).2) := fun h => t_G_sees (len := len) (xs := xs) d a1 a2 s (fun t => (some (some (.int t.1), mT t.2) : Option mm_R) = some (some (.int (f_G_sees a1 a2 s).1), mT (f_G_sees a1 a2 s).2)) (fun _ h => h) h rfl
def f_M_sees (a1 : Int32) (a2 : Int32) (s : mS) : Int32 × mS := (mq_let (f_M_isIn a1 (1 : Int32) ((gI s 116 7) - 1) s) (fun (x10 : Int32) => (if x10 = 0 then (0, s) else (mq_let (f_M_isIn a2 ((-1) : Int32) (1 : Int32) s) (fun (x11 : Int32) => (if x11 = 0 then (0, s) else (1, sI (sI s 174 (ix a1) a2) 116 102 0)))))))
def ok_M_sees (a1 : Int32) (a2 : Int32) (s : mS) : Prop := (True ∧ mq_letP (f_M_isIn a1 (1 : Int32) ((gI s 116 7) - 1) s) (fun (x10 : Int32) => (if x10 = 0 then True else (True ∧ mq_letP (f_M_isIn a2 ((-1) : Int32) (1 : Int32) s) (fun (x11 : Int32) => (if x11 = 0 then True else (mm_inb a1 16 = true ∧ True)))))))
set_option maxRecDepth 4000 in
theorem t_M_sees {len : Nat} {xs : Nat → Int32}  (d : Nat) (a1 : Int32) (a2 : Int32) (s : mS) {T : Option mm_R} (K : Int32 × mS → Prop) (hK : ∀ t, K t → some (some (.int t.1), mT t.2) = T) : ok_M_sees a1 a2 s → K (f_M_sees a1 a2 s) → mm_fix (mm_X len xs) mm_Y (mm_call (mm_X len xs) mm_Y (d + 1)) (mm_look mc_M_sees) (0, [some (.ref 116), some (.int a1), some (.int a2)], [], mT s) = T := by
  unfold ok_M_sees f_M_sees
  refine w_go K 6 (c' := (8, [some (.ref 116), some (.int a1), some (.int a2)], [.int ((gI s 116 7) - 1), .int 1, .int a1], mT s)) rfl ?_
  refine w_callL K (E := f_M_isIn a1 (1 : Int32) ((gI s 116 7) - 1) s) (g := fun (x10 : Int32) => (some (.int x10), mT s)) rfl (m_M_isIn (len := len) (xs := xs) (d + 0) a1 (1 : Int32) ((gI s 116 7) - 1) s) (fun x10 => ?_)
  refine w_go K 0 (c' := (11, [some (.ref 116), some (.int a1), some (.int a2)], [.int x10], mT s)) rfl ?_
  refine w_zeq K rfl (fun _ => ?_) (fun _ => ?_)
  · refine w_go K 1 (c' := (24, [some (.ref 116), some (.int a1), some (.int a2)], [.int 0], mT s)) rfl ?_
    exact w_ret K rfl (hK _)
  · refine w_go K 3 (c' := (17, [some (.ref 116), some (.int a1), some (.int a2)], [.int 1, .int (-1), .int a2], mT s)) rfl ?_
    refine w_callL K (E := f_M_isIn a2 ((-1) : Int32) (1 : Int32) s) (g := fun (x11 : Int32) => (some (.int x11), mT s)) rfl (m_M_isIn (len := len) (xs := xs) (d + 0) a2 ((-1) : Int32) (1 : Int32) s) (fun x11 => ?_)
    refine w_go K 0 (c' := (20, [some (.ref 116), some (.int a1), some (.int a2)], [.int x11], mT s)) rfl ?_
    refine w_zne K rfl (fun _ => ?_) (fun _ => ?_)
    · refine w_go K 1 (c' := (24, [some (.ref 116), some (.int a1), some (.int a2)], [.int 0], mT s)) rfl ?_
      exact w_ret K rfl (hK _)
    · refine w_go K 4 (c' := (31, [some (.ref 116), some (.int a1), some (.int a2)], [.int a2, .int a1, .ref 174], mT s)) rfl ?_
      refine w_ck K (st_iS rfl rfl) ?_
      refine w_go K 4 (c' := (38, [some (.ref 116), some (.int a1), some (.int a2)], [.int 1], mT (sI (sI s 174 (ix a1) a2) 116 102 0))) rfl ?_
      exact w_ret K rfl (hK _)
theorem m_M_sees {len : Nat} {xs : Nat → Int32}  (d : Nat) (a1 : Int32) (a2 : Int32) (s : mS) : ok_M_sees a1 a2 s → mm_call (mm_X len xs) mm_Y (d + 2) 241 [.ref 116, .int a1, .int a2] (mT s) = some (some (.int (f_M_sees a1 a2 s).1), mT (f_M_sees a1 a2 s).2) := fun h => t_M_sees (len := len) (xs := xs) d a1 a2 s (fun t => (some (some (.int t.1), mT t.2) : Option mm_R) = some (some (.int (f_M_sees a1 a2 s).1), mT (f_M_sees a1 a2 s).2)) (fun _ h => h) h rfl
