/-! FUNCTIONS OF METHODS, by program: f_ what it does, ok_ that no row fails, m_ the small machine does so. -/
def lp_Laws_weigh_19 (a1 : Int32) : Nat → Int32 → Int32 → mS → Int32 × Int32 × mS
  | 0, v2, v3, s => (v2, v3, s)
  | n + 1, v2, v3, s => (if (4 : Int32) ≤ v3 then (v2, v3, s) else (mq_let (gP s (ix v3)) (fun (r10 : Nat) => (if (gI s r10 10) = 0 then (lp_Laws_weigh_19 a1 n v2 (v3 + 1) s) else (if (gI s 39 1) < (gI s r10 9) then (lp_Laws_weigh_19 a1 n v2 (v3 + 1) s) else (if (gI s r10 9) < v2 then (lp_Laws_weigh_19 a1 n v2 (v3 + 1) s) else (mq_let (f_Act_tells_39 r10 a1 s) (fun (x11 : Int32 × mS) => (if x11.1 = 0 then (lp_Laws_weigh_19 a1 n v2 (v3 + 1) x11.2) else (lp_Laws_weigh_19 a1 n (gI x11.2 r10 9) (v3 + 1) (sI (sI (sI x11.2 36 9 v3) 36 8 (gI (sI x11.2 36 9 v3) r10 11)) 36 3 (gI (sI (sI x11.2 36 9 v3) 36 8 (gI (sI x11.2 36 9 v3) r10 11)) r10 12))))))))))))
def okl_Laws_weigh_19 (a1 : Int32) : Nat → Int32 → Int32 → mS → Prop
  | 0, v2, v3, s => False
  | n + 1, v2, v3, s => (if (4 : Int32) ≤ v3 then True else (mm_inb v3 4 = true ∧ (mq_A (gP s (ix v3)) ∧ mq_letP (gP s (ix v3)) (fun (r10 : Nat) => (if (gI s r10 10) = 0 then (okl_Laws_weigh_19 a1 n v2 (v3 + 1) s) else (if (gI s 39 1) < (gI s r10 9) then (okl_Laws_weigh_19 a1 n v2 (v3 + 1) s) else (if (gI s r10 9) < v2 then (okl_Laws_weigh_19 a1 n v2 (v3 + 1) s) else (ok_Act_tells_39 r10 a1 s ∧ mq_letP (f_Act_tells_39 r10 a1 s) (fun (x11 : Int32 × mS) => (if x11.1 = 0 then (okl_Laws_weigh_19 a1 n v2 (v3 + 1) x11.2) else (mm_bit (gI (sI (sI x11.2 36 9 v3) 36 8 (gI (sI x11.2 36 9 v3) r10 11)) r10 12) = true ∧ (okl_Laws_weigh_19 a1 n (gI x11.2 r10 9) (v3 + 1) (sI (sI (sI x11.2 36 9 v3) 36 8 (gI (sI x11.2 36 9 v3) r10 11)) 36 3 (gI (sI (sI x11.2 36 9 v3) 36 8 (gI (sI x11.2 36 9 v3) r10 11)) r10 12))))))))))))))
set_option maxRecDepth 4000 in
theorem tl_Laws_weigh_19 {len : Nat} {xs : Nat → Int32}  (d : Nat) (a1 : Int32)  {T : Option mm_R} (K : Int32 × Int32 × mS → Prop) (hX : ∀ r, K r → ∀ (o4 : Option Value), mm_fix (mm_X len xs) mm_Y (mm_call (mm_X len xs) mm_Y (d + 3)) (mm_look mc_Laws_weigh) (111, [some (.ref 36), some (.int a1), some (.int r.1), some (.int r.2.1), o4], [], mT r.2.2) = T) : ∀ (n : Nat), ∀ (v2 : Int32) (v3 : Int32) (o4 : Option Value) (s : mS), okl_Laws_weigh_19 a1 n v2 v3 s → K (lp_Laws_weigh_19 a1 n v2 v3 s) → mm_fix (mm_X len xs) mm_Y (mm_call (mm_X len xs) mm_Y (d + 3)) (mm_look mc_Laws_weigh) (19, [some (.ref 36), some (.int a1), some (.int v2), some (.int v3), o4], [], mT s) = T := by
  intro n
  induction n with
  | zero => intro v2 v3 o4 s; exact fun h => h.elim
  | succ n ih =>
    intro v2 v3 o4 s
    rw [okl_Laws_weigh_19, lp_Laws_weigh_19]
    refine w_go K 2 (c' := (21, [some (.ref 36), some (.int a1), some (.int v2), some (.int v3), o4], [.int 4, .int v3], mT s)) rfl ?_
    refine w_ige K rfl (fun _ => ?_) (fun _ => ?_)
    · refine w_go K 0 (c' := (111, [some (.ref 36), some (.int a1), some (.int v2), some (.int v3), o4], [], mT s)) rfl ?_
      exact fun _ b => hX _ b _
    · refine w_go K 3 (c' := (29, [some (.ref 36), some (.int a1), some (.int v2), some (.int v3), o4], [.int v3, .ref 38], mT s)) rfl ?_
      refine w_ck K (st_aG rfl) ?_
      refine w_gP K (fun r10 hr10 => ?_)
      refine w_go K 2 (c' := (34, [some (.ref 36), some (.int a1), some (.int v2), some (.int v3), some (.ref r10)], [.ref r10], mT s)) rfl ?_
      refine w_st K (c' := (37, [some (.ref 36), some (.int a1), some (.int v2), some (.int v3), some (.ref r10)], [.int (gI s r10 10)], mT s)) (st_gI (len := 3) (b := 10) rfl hr10) ?_
      refine w_go K 0 (c' := (37, [some (.ref 36), some (.int a1), some (.int v2), some (.int v3), some (.ref r10)], [.int (gI s r10 10)], mT s)) rfl ?_
      refine w_zeq K rfl (fun _ => ?_) (fun _ => ?_)
      · refine w_go K 2 (c' := (19, [some (.ref 36), some (.int a1), some (.int v2), some (.int (v3 + 1)), some (.ref r10)], [], mT s)) rfl ?_
        exact fun a b => ih v2 (v3 + 1) _ s a b
      · refine w_go K 1 (c' := (42, [some (.ref 36), some (.int a1), some (.int v2), some (.int v3), some (.ref r10)], [.ref r10], mT s)) rfl ?_
        refine w_st K (c' := (45, [some (.ref 36), some (.int a1), some (.int v2), some (.int v3), some (.ref r10)], [.int (gI s r10 9)], mT s)) (st_gI (len := 3) (b := 9) rfl hr10) ?_
        refine w_go K 4 (c' := (51, [some (.ref 36), some (.int a1), some (.int v2), some (.int v3), some (.ref r10)], [.int (gI s 39 1), .int (gI s r10 9)], mT s)) rfl ?_
        refine w_igt K rfl (fun _ => ?_) (fun _ => ?_)
        · refine w_go K 2 (c' := (19, [some (.ref 36), some (.int a1), some (.int v2), some (.int (v3 + 1)), some (.ref r10)], [], mT s)) rfl ?_
          exact fun a b => ih v2 (v3 + 1) _ s a b
        · refine w_go K 1 (c' := (56, [some (.ref 36), some (.int a1), some (.int v2), some (.int v3), some (.ref r10)], [.ref r10], mT s)) rfl ?_
          refine w_st K (c' := (59, [some (.ref 36), some (.int a1), some (.int v2), some (.int v3), some (.ref r10)], [.int (gI s r10 9)], mT s)) (st_gI (len := 3) (b := 9) rfl hr10) ?_
          refine w_go K 1 (c' := (60, [some (.ref 36), some (.int a1), some (.int v2), some (.int v3), some (.ref r10)], [.int v2, .int (gI s r10 9)], mT s)) rfl ?_
          refine w_ilt K rfl (fun _ => ?_) (fun _ => ?_)
          · refine w_go K 2 (c' := (19, [some (.ref 36), some (.int a1), some (.int v2), some (.int (v3 + 1)), some (.ref r10)], [], mT s)) rfl ?_
            exact fun a b => ih v2 (v3 + 1) _ s a b
          · refine w_go K 4 (c' := (70, [some (.ref 36), some (.int a1), some (.int v2), some (.int v3), some (.ref r10)], [.ref 39, .int a1, .ref r10], mT s)) rfl ?_
            refine w_callL K (E := f_Act_tells_39 r10 a1 s) (g := fun (x11 : Int32 × mS) => (some (.int x11.1), mT x11.2)) (st_c (b := 3) (st := [.ref 39, .int a1, .ref r10]) (args := [.int a1, .ref 39]) (rest := []) rfl rfl rfl hr10) (m_Act_tells_39 (len := len) (xs := xs) r10 hr10 (d + 0) a1 s) (fun x11 => ?_)
            refine w_go K 0 (c' := (73, [some (.ref 36), some (.int a1), some (.int v2), some (.int v3), some (.ref r10)], [.int x11.1], mT x11.2)) rfl ?_
            refine w_zeq K rfl (fun _ => ?_) (fun _ => ?_)
            · refine w_go K 2 (c' := (19, [some (.ref 36), some (.int a1), some (.int v2), some (.int (v3 + 1)), some (.ref r10)], [], mT x11.2)) rfl ?_
              exact fun a b => ih v2 (v3 + 1) _ x11.2 a b
            · refine w_go K 1 (c' := (78, [some (.ref 36), some (.int a1), some (.int v2), some (.int v3), some (.ref r10)], [.ref r10], mT x11.2)) rfl ?_
              refine w_st K (c' := (81, [some (.ref 36), some (.int a1), some (.int v2), some (.int v3), some (.ref r10)], [.int (gI x11.2 r10 9)], mT x11.2)) (st_gI (len := 3) (b := 9) rfl hr10) ?_
              refine w_go K 6 (c' := (90, [some (.ref 36), some (.int a1), some (.int (gI x11.2 r10 9)), some (.int v3), some (.ref r10)], [.ref r10, .ref 36], mT (sI x11.2 36 9 v3))) rfl ?_
              refine w_st K (c' := (93, [some (.ref 36), some (.int a1), some (.int (gI x11.2 r10 9)), some (.int v3), some (.ref r10)], [.int (gI (sI x11.2 36 9 v3) r10 11), .ref 36], mT (sI x11.2 36 9 v3))) (st_gI (len := 3) (b := 11) rfl hr10) ?_
              refine w_go K 3 (c' := (99, [some (.ref 36), some (.int a1), some (.int (gI x11.2 r10 9)), some (.int v3), some (.ref r10)], [.ref r10, .ref 36], mT (sI (sI x11.2 36 9 v3) 36 8 (gI (sI x11.2 36 9 v3) r10 11)))) rfl ?_
              refine w_st K (c' := (102, [some (.ref 36), some (.int a1), some (.int (gI x11.2 r10 9)), some (.int v3), some (.ref r10)], [.int (gI (sI (sI x11.2 36 9 v3) 36 8 (gI (sI x11.2 36 9 v3) r10 11)) r10 12), .ref 36], mT (sI (sI x11.2 36 9 v3) 36 8 (gI (sI x11.2 36 9 v3) r10 11)))) (st_gI (len := 3) (b := 12) rfl hr10) ?_
              refine w_go K 0 (c' := (102, [some (.ref 36), some (.int a1), some (.int (gI x11.2 r10 9)), some (.int v3), some (.ref r10)], [.int (gI (sI (sI x11.2 36 9 v3) 36 8 (gI (sI x11.2 36 9 v3) r10 11)) r10 12), .ref 36], mT (sI (sI x11.2 36 9 v3) 36 8 (gI (sI x11.2 36 9 v3) r10 11)))) rfl ?_
              refine w_ck K rfl ?_
              refine w_go K 2 (c' := (19, [some (.ref 36), some (.int a1), some (.int (gI x11.2 r10 9)), some (.int (v3 + 1)), some (.ref r10)], [], mT (sI (sI (sI x11.2 36 9 v3) 36 8 (gI (sI x11.2 36 9 v3) r10 11)) 36 3 (gI (sI (sI x11.2 36 9 v3) 36 8 (gI (sI x11.2 36 9 v3) r10 11)) r10 12)))) rfl ?_
              exact fun a b => ih (gI x11.2 r10 9) (v3 + 1) _ (sI (sI (sI x11.2 36 9 v3) 36 8 (gI (sI x11.2 36 9 v3) r10 11)) 36 3 (gI (sI (sI x11.2 36 9 v3) 36 8 (gI (sI x11.2 36 9 v3) r10 11)) r10 12)) a b
def f_Laws_weigh (a1 : Int32) (s : mS) : mS := (mq_let (lp_Laws_weigh_19 a1 mm_N ((-1) : Int32) (0 : Int32) (sI (sI (sI s 36 8 0) 36 9 (-1)) 36 3 0)) (fun (x12 : Int32 × Int32 × mS) => x12.2.2))
def ok_Laws_weigh (a1 : Int32) (s : mS) : Prop := (okl_Laws_weigh_19 a1 mm_N ((-1) : Int32) (0 : Int32) (sI (sI (sI s 36 8 0) 36 9 (-1)) 36 3 0) ∧ mq_letP (lp_Laws_weigh_19 a1 mm_N ((-1) : Int32) (0 : Int32) (sI (sI (sI s 36 8 0) 36 9 (-1)) 36 3 0)) (fun (x12 : Int32 × Int32 × mS) => True))
set_option maxRecDepth 4000 in
theorem t_Laws_weigh {len : Nat} {xs : Nat → Int32}  (d : Nat) (a1 : Int32) (s : mS) {T : Option mm_R} (K : mS → Prop) (hK : ∀ t, K t → some (none, mT t) = T) : ok_Laws_weigh a1 s → K (f_Laws_weigh a1 s) → mm_fix (mm_X len xs) mm_Y (mm_call (mm_X len xs) mm_Y (d + 3)) (mm_look mc_Laws_weigh) (0, [some (.ref 36), some (.int a1), none, none, none], [], mT s) = T := by
  unfold ok_Laws_weigh f_Laws_weigh
  refine w_go K 13 (c' := (19, [some (.ref 36), some (.int a1), some (.int (-1)), some (.int 0), none], [], mT (sI (sI (sI s 36 8 0) 36 9 (-1)) 36 3 0))) rfl ?_
  refine w_join K (fun (x12 : Int32 × Int32 × mS) => ∀ (q13 : Option Value), mm_fix (mm_X len xs) mm_Y (mm_call (mm_X len xs) mm_Y (d + 3)) (mm_look mc_Laws_weigh) (111, [some (.ref 36), some (.int a1), some (.int x12.1), some (.int x12.2.1), q13], [], mT x12.2.2) = T) (fun K hJ => tl_Laws_weigh_19 (len := len) (xs := xs) d a1 (T := T) K hJ mm_N ((-1) : Int32) (0 : Int32) _ (sI (sI (sI s 36 8 0) 36 9 (-1)) 36 3 0)) (fun x12 h1 h2 q13 => ?_)
  revert h1 h2
  refine w_go K 0 (c' := (111, [some (.ref 36), some (.int a1), some (.int x12.1), some (.int x12.2.1), q13], [], mT x12.2.2)) rfl ?_
  exact w_ret K rfl (hK _)
theorem m_Laws_weigh {len : Nat} {xs : Nat → Int32}  (d : Nat) (a1 : Int32) (s : mS) : ok_Laws_weigh a1 s → mm_call (mm_X len xs) mm_Y (d + 4) 63 [.ref 36, .int a1] (mT s) = some (none, mT (f_Laws_weigh a1 s)) := fun h => t_Laws_weigh (len := len) (xs := xs) d a1 s (fun t => (some (none, mT t) : Option mm_R) = some (none, mT (f_Laws_weigh a1 s))) (fun _ h => h) h rfl
def f_Laws_judge (a1 : Int32) (a2 : Int32) (a3 : Int32) (s : mS) : mS := (mq_let (f_Sky_hourOf a2 s) (fun (x10 : Int32) => (mq_let (f_Sky_dayOf a2 (sI s 39 0 x10)) (fun (x11 : Int32) => (mq_let (f_Sky_fogIn a2 (sI (sI s 39 0 x10) 39 1 x11)) (fun (x12 : Int32) => (mq_let (if a1 = 2 then sI (sI (sI (sI (sI s 39 0 x10) 39 1 x11) 39 2 x12) 39 3 0) 39 4 0 else (mq_let (f_Laws_weigh (2 : Int32) (sI (sI (sI (sI (sI s 39 0 x10) 39 1 x11) 39 2 x12) 39 3 0) 39 4 0)) (fun (x15 : mS) => sI x15 39 3 (gI x15 36 8)))) (fun (x14 : mS) => (mq_let (f_Laws_weigh a1 (sI x14 39 4 a3)) (fun (x16 : mS) => x16))))))))))
def ok_Laws_judge (a1 : Int32) (a2 : Int32) (a3 : Int32) (s : mS) : Prop := (True ∧ mq_letP (f_Sky_hourOf a2 s) (fun (x10 : Int32) => (True ∧ mq_letP (f_Sky_dayOf a2 (sI s 39 0 x10)) (fun (x11 : Int32) => (ok_Sky_fogIn a2 (sI (sI s 39 0 x10) 39 1 x11) ∧ mq_letP (f_Sky_fogIn a2 (sI (sI s 39 0 x10) 39 1 x11)) (fun (x12 : Int32) => ((if a1 = 2 then True else (ok_Laws_weigh (2 : Int32) (sI (sI (sI (sI (sI s 39 0 x10) 39 1 x11) 39 2 x12) 39 3 0) 39 4 0) ∧ mq_letP (f_Laws_weigh (2 : Int32) (sI (sI (sI (sI (sI s 39 0 x10) 39 1 x11) 39 2 x12) 39 3 0) 39 4 0)) (fun (x15 : mS) => True))) ∧ mq_letP (if a1 = 2 then sI (sI (sI (sI (sI s 39 0 x10) 39 1 x11) 39 2 x12) 39 3 0) 39 4 0 else (mq_let (f_Laws_weigh (2 : Int32) (sI (sI (sI (sI (sI s 39 0 x10) 39 1 x11) 39 2 x12) 39 3 0) 39 4 0)) (fun (x15 : mS) => sI x15 39 3 (gI x15 36 8)))) (fun (x14 : mS) => (ok_Laws_weigh a1 (sI x14 39 4 a3) ∧ mq_letP (f_Laws_weigh a1 (sI x14 39 4 a3)) (fun (x16 : mS) => True))))))))))
set_option maxRecDepth 4000 in
theorem t_Laws_judge {len : Nat} {xs : Nat → Int32}  (d : Nat) (a1 : Int32) (a2 : Int32) (a3 : Int32) (s : mS) {T : Option mm_R} (K : mS → Prop) (hK : ∀ t, K t → some (none, mT t) = T) : ok_Laws_judge a1 a2 a3 s → K (f_Laws_judge a1 a2 a3 s) → mm_fix (mm_X len xs) mm_Y (mm_call (mm_X len xs) mm_Y (d + 4)) (mm_look mc_Laws_judge) (0, [some (.ref 36), some (.int a1), some (.int a2), some (.int a3), some (.ref 1)], [], mT s) = T := by
  unfold ok_Laws_judge f_Laws_judge
  refine w_go K 4 (c' := (6, [some (.ref 36), some (.int a1), some (.int a2), some (.int a3), some (.ref 1)], [.int a2, .int 0, .ref 39], mT s)) rfl ?_
  refine w_callL K (E := f_Sky_hourOf a2 s) (g := fun (x10 : Int32) => (some (.int x10), mT s)) rfl (m_Sky_hourOf (len := len) (xs := xs) (d + 2) a2 s) (fun x10 => ?_)
  refine w_go K 5 (c' := (16, [some (.ref 36), some (.int a1), some (.int a2), some (.int a3), some (.ref 1)], [.int a2, .int 1, .ref 39], mT (sI s 39 0 x10))) rfl ?_
  refine w_callL K (E := f_Sky_dayOf a2 (sI s 39 0 x10)) (g := fun (x11 : Int32) => (some (.int x11), mT (sI s 39 0 x10))) rfl (m_Sky_dayOf (len := len) (xs := xs) (d + 3) a2 (sI s 39 0 x10)) (fun x11 => ?_)
  refine w_go K 6 (c' := (28, [some (.ref 36), some (.int a1), some (.int a2), some (.int a3), some (.ref 1)], [.int a2, .ref 1, .int 2, .ref 39], mT (sI (sI s 39 0 x10) 39 1 x11))) rfl ?_
  refine w_callL K (E := f_Sky_fogIn a2 (sI (sI s 39 0 x10) 39 1 x11)) (g := fun (x12 : Int32) => (some (.int x12), mT (sI (sI s 39 0 x10) 39 1 x11))) rfl (m_Sky_fogIn (len := len) (xs := xs) (d + 2) a2 (sI (sI s 39 0 x10) 39 1 x11)) (fun x12 => ?_)
  refine w_go K 13 (c' := (48, [some (.ref 36), some (.int a1), some (.int a2), some (.int a3), some (.ref 1)], [.int 2, .int a1], mT (sI (sI (sI (sI (sI s 39 0 x10) 39 1 x11) 39 2 x12) 39 3 0) 39 4 0))) rfl ?_
  refine w_join K (fun (x14 : mS) => mm_fix (mm_X len xs) mm_Y (mm_call (mm_X len xs) mm_Y (d + 4)) (mm_look mc_Laws_judge) (66, [some (.ref 36), some (.int a1), some (.int a2), some (.int a3), some (.ref 1)], [], mT x14) = T) (fun K hJ => ?_) (fun x14 h1 h2 => ?_)
  · refine w_go K 0 (c' := (48, [some (.ref 36), some (.int a1), some (.int a2), some (.int a3), some (.ref 1)], [.int 2, .int a1], mT (sI (sI (sI (sI (sI s 39 0 x10) 39 1 x11) 39 2 x12) 39 3 0) 39 4 0))) rfl ?_
    refine w_ieq K rfl (fun _ => ?_) (fun _ => ?_)
    · refine w_go K 0 (c' := (66, [some (.ref 36), some (.int a1), some (.int a2), some (.int a3), some (.ref 1)], [], mT (sI (sI (sI (sI (sI s 39 0 x10) 39 1 x11) 39 2 x12) 39 3 0) 39 4 0))) rfl ?_
      exact fun _ h => hJ _ h
    · refine w_go K 2 (c' := (53, [some (.ref 36), some (.int a1), some (.int a2), some (.int a3), some (.ref 1)], [.int 2, .ref 36], mT (sI (sI (sI (sI (sI s 39 0 x10) 39 1 x11) 39 2 x12) 39 3 0) 39 4 0))) rfl ?_
      refine w_callL K (E := f_Laws_weigh (2 : Int32) (sI (sI (sI (sI (sI s 39 0 x10) 39 1 x11) 39 2 x12) 39 3 0) 39 4 0)) (g := fun (x15 : mS) => (none, mT x15)) rfl (m_Laws_weigh (len := len) (xs := xs) (d + 0) (2 : Int32) (sI (sI (sI (sI (sI s 39 0 x10) 39 1 x11) 39 2 x12) 39 3 0) 39 4 0)) (fun x15 => ?_)
      refine w_go K 6 (c' := (66, [some (.ref 36), some (.int a1), some (.int a2), some (.int a3), some (.ref 1)], [], mT (sI x15 39 3 (gI x15 36 8)))) rfl ?_
      exact fun _ h => hJ _ h
  · revert h1 h2
    refine w_go K 7 (c' := (75, [some (.ref 36), some (.int a1), some (.int a2), some (.int a3), some (.ref 1)], [.int a1, .ref 36], mT (sI x14 39 4 a3))) rfl ?_
    refine w_callL K (E := f_Laws_weigh a1 (sI x14 39 4 a3)) (g := fun (x16 : mS) => (none, mT x16)) rfl (m_Laws_weigh (len := len) (xs := xs) (d + 0) a1 (sI x14 39 4 a3)) (fun x16 => ?_)
    refine w_go K 0 (c' := (78, [some (.ref 36), some (.int a1), some (.int a2), some (.int a3), some (.ref 1)], [], mT x16)) rfl ?_
    exact w_ret K rfl (hK _)
theorem m_Laws_judge {len : Nat} {xs : Nat → Int32}  (d : Nat) (a1 : Int32) (a2 : Int32) (a3 : Int32) (s : mS) : ok_Laws_judge a1 a2 a3 s → mm_call (mm_X len xs) mm_Y (d + 5) 62 [.ref 36, .int a1, .int a2, .int a3, .ref 1] (mT s) = some (none, mT (f_Laws_judge a1 a2 a3 s)) := fun h => t_Laws_judge (len := len) (xs := xs) d a1 a2 a3 s (fun t => (some (none, mT t) : Option mm_R) = some (none, mT (f_Laws_judge a1 a2 a3 s))) (fun _ h => h) h rfl
def lp_Things_anyWantsAt_2 (a1 : Int32) (s : mS) : Nat → Int32 → Option Int32 × Int32
  | 0, v2 => (none, v2)
  | n + 1, v2 => (if (gI s 12 12) ≤ v2 then (none, v2) else (if (40 : Int32) ≤ v2 then (none, v2) else (if (gI s 13 (ix v2)) = a1 then (if (gI s 14 (ix v2)) = 3 then (lp_Things_anyWantsAt_2 a1 s n (v2 + 1)) else (if (gI s 23 (ix v2)) ≤ 0 then (lp_Things_anyWantsAt_2 a1 s n (v2 + 1)) else (some (1 : Int32), v2))) else (lp_Things_anyWantsAt_2 a1 s n (v2 + 1)))))
def okl_Things_anyWantsAt_2 (a1 : Int32) (s : mS) : Nat → Int32 → Prop
  | 0, v2 => False
  | n + 1, v2 => (if (gI s 12 12) ≤ v2 then True else (if (40 : Int32) ≤ v2 then True else (mm_inb v2 40 = true ∧ (if (gI s 13 (ix v2)) = a1 then (mm_inb v2 40 = true ∧ (if (gI s 14 (ix v2)) = 3 then (okl_Things_anyWantsAt_2 a1 s n (v2 + 1)) else (mm_inb v2 40 = true ∧ (if (gI s 23 (ix v2)) ≤ 0 then (okl_Things_anyWantsAt_2 a1 s n (v2 + 1)) else True)))) else (okl_Things_anyWantsAt_2 a1 s n (v2 + 1))))))
set_option maxRecDepth 4000 in
theorem tl_Things_anyWantsAt_2 {len : Nat} {xs : Nat → Int32}  (d : Nat) (a1 : Int32) (s : mS) {T : Option mm_R} (K : Option Int32 × Int32 → Prop) (hX : ∀ r, K r → r.1 = none → mm_fix (mm_X len xs) mm_Y (mm_call (mm_X len xs) mm_Y (d + 0)) (mm_look mc_Things_anyWantsAt) (53, [some (.ref 12), some (.int a1), some (.int r.2)], [], mT s) = T) (hR : ∀ r, K r → ∀ v, r.1 = some v → some (some (.int v), mT s) = T) : ∀ (n : Nat), ∀ (v2 : Int32), okl_Things_anyWantsAt_2 a1 s n v2 → K (lp_Things_anyWantsAt_2 a1 s n v2) → mm_fix (mm_X len xs) mm_Y (mm_call (mm_X len xs) mm_Y (d + 0)) (mm_look mc_Things_anyWantsAt) (2, [some (.ref 12), some (.int a1), some (.int v2)], [], mT s) = T := by
  intro n
  induction n with
  | zero => intro v2; exact fun h => h.elim
  | succ n ih =>
    intro v2
    rw [okl_Things_anyWantsAt_2, lp_Things_anyWantsAt_2]
    refine w_go K 3 (c' := (7, [some (.ref 12), some (.int a1), some (.int v2)], [.int (gI s 12 12), .int v2], mT s)) rfl ?_
    refine w_ige K rfl (fun _ => ?_) (fun _ => ?_)
    · refine w_go K 0 (c' := (53, [some (.ref 12), some (.int a1), some (.int v2)], [], mT s)) rfl ?_
      exact fun _ b => hX _ b rfl
    · refine w_go K 2 (c' := (13, [some (.ref 12), some (.int a1), some (.int v2)], [.int 40, .int v2], mT s)) rfl ?_
      refine w_ige K rfl (fun _ => ?_) (fun _ => ?_)
      · refine w_go K 0 (c' := (53, [some (.ref 12), some (.int a1), some (.int v2)], [], mT s)) rfl ?_
        exact fun _ b => hX _ b rfl
      · refine w_go K 3 (c' := (21, [some (.ref 12), some (.int a1), some (.int v2)], [.int v2, .ref 13], mT s)) rfl ?_
        refine w_ck K (st_iL rfl rfl) ?_
        refine w_go K 1 (c' := (23, [some (.ref 12), some (.int a1), some (.int v2)], [.int a1, .int (gI s 13 (ix v2))], mT s)) rfl ?_
        refine w_ine K rfl (fun _ => ?_) (fun _ => ?_)
        · refine w_go K 3 (c' := (31, [some (.ref 12), some (.int a1), some (.int v2)], [.int v2, .ref 14], mT s)) rfl ?_
          refine w_ck K (st_iL rfl rfl) ?_
          refine w_go K 1 (c' := (33, [some (.ref 12), some (.int a1), some (.int v2)], [.int 3, .int (gI s 14 (ix v2))], mT s)) rfl ?_
          refine w_ieq K rfl (fun _ => ?_) (fun _ => ?_)
          · refine w_go K 2 (c' := (2, [some (.ref 12), some (.int a1), some (.int (v2 + 1))], [], mT s)) rfl ?_
            exact fun a b => ih (v2 + 1) a b
          · refine w_go K 3 (c' := (41, [some (.ref 12), some (.int a1), some (.int v2)], [.int v2, .ref 23], mT s)) rfl ?_
            refine w_ck K (st_iL rfl rfl) ?_
            refine w_go K 0 (c' := (42, [some (.ref 12), some (.int a1), some (.int v2)], [.int (gI s 23 (ix v2))], mT s)) rfl ?_
            refine w_zle K rfl (fun _ => ?_) (fun _ => ?_)
            · refine w_go K 2 (c' := (2, [some (.ref 12), some (.int a1), some (.int (v2 + 1))], [], mT s)) rfl ?_
              exact fun a b => ih (v2 + 1) a b
            · refine w_go K 1 (c' := (46, [some (.ref 12), some (.int a1), some (.int v2)], [.int 1], mT s)) rfl ?_
              exact w_ret K rfl (fun h => hR _ h _ rfl)
        · refine w_go K 2 (c' := (2, [some (.ref 12), some (.int a1), some (.int (v2 + 1))], [], mT s)) rfl ?_
          exact fun a b => ih (v2 + 1) a b
def f_Things_anyWantsAt (a1 : Int32) (s : mS) : Int32 := (mq_let (lp_Things_anyWantsAt_2 a1 s mm_N (0 : Int32)) (fun (x10 : Option Int32 × Int32) => mq_el x10.1 (fun v => v) 0))
def ok_Things_anyWantsAt (a1 : Int32) (s : mS) : Prop := (okl_Things_anyWantsAt_2 a1 s mm_N (0 : Int32) ∧ mq_letP (lp_Things_anyWantsAt_2 a1 s mm_N (0 : Int32)) (fun (x10 : Option Int32 × Int32) => mq_elP x10.1 True))
set_option maxRecDepth 4000 in
theorem t_Things_anyWantsAt {len : Nat} {xs : Nat → Int32}  (d : Nat) (a1 : Int32) (s : mS) {T : Option mm_R} (K : Int32 → Prop) (hK : ∀ t, K t → some (some (.int t), mT s) = T) : ok_Things_anyWantsAt a1 s → K (f_Things_anyWantsAt a1 s) → mm_fix (mm_X len xs) mm_Y (mm_call (mm_X len xs) mm_Y (d + 0)) (mm_look mc_Things_anyWantsAt) (0, [some (.ref 12), some (.int a1), none], [], mT s) = T := by
  unfold ok_Things_anyWantsAt f_Things_anyWantsAt
  refine w_go K 2 (c' := (2, [some (.ref 12), some (.int a1), some (.int 0)], [], mT s)) rfl ?_
  refine w_join K (fun (x10 : Option Int32 × Int32) => (x10.1 = none → mm_fix (mm_X len xs) mm_Y (mm_call (mm_X len xs) mm_Y (d + 0)) (mm_look mc_Things_anyWantsAt) (53, [some (.ref 12), some (.int a1), some (.int x10.2)], [], mT s) = T) ∧ (∀ v, x10.1 = some v → some (some (.int v), mT s) = T)) (fun K hJ => tl_Things_anyWantsAt_2 (len := len) (xs := xs) d a1 s (T := T) K (fun r hr => (hJ r hr).1) (fun r hr => (hJ r hr).2) mm_N (0 : Int32)) (fun x10 h1 h2 => w_el K (fun v hv h => hK _ h) (fun h1 h2 => ?_) h1 h2)
  revert h1 h2
  refine w_go K 1 (c' := (54, [some (.ref 12), some (.int a1), some (.int x10.2)], [.int 0], mT s)) rfl ?_
  exact w_ret K rfl (hK _)
theorem m_Things_anyWantsAt {len : Nat} {xs : Nat → Int32}  (d : Nat) (a1 : Int32) (s : mS) : ok_Things_anyWantsAt a1 s → mm_call (mm_X len xs) mm_Y (d + 1) 69 [.ref 12, .int a1] (mT s) = some (some (.int (f_Things_anyWantsAt a1 s)), mT s) := fun h => t_Things_anyWantsAt (len := len) (xs := xs) d a1 s (fun t => (some (some (.int t), mT s) : Option mm_R) = some (some (.int (f_Things_anyWantsAt a1 s)), mT s)) (fun _ h => h) h rfl
def lp_G_countFails_31  : Nat → Int32 → mS → Int32 × mS
  | 0, v1, s => (v1, s)
  | n + 1, v1, s => (if (gI s 25 10) ≤ v1 then (v1, s) else (if (16 : Int32) ≤ v1 then (v1, s) else (if (gI s 36 8) ≤ (gI s 32 (ix v1)) then (lp_G_countFails_31 n (v1 + 1) s) else (mq_let (f_Things_anyWantsAt v1 s) (fun (x11 : Int32) => (if x11 = 0 then (lp_G_countFails_31 n (v1 + 1) s) else (lp_G_countFails_31 n (v1 + 1) (sI s 0 12 ((gI s 0 12) + 1)))))))))
def okl_G_countFails_31  : Nat → Int32 → mS → Prop
  | 0, v1, s => False
  | n + 1, v1, s => (if (gI s 25 10) ≤ v1 then True else (if (16 : Int32) ≤ v1 then True else (mm_inb v1 16 = true ∧ (if (gI s 36 8) ≤ (gI s 32 (ix v1)) then (okl_G_countFails_31 n (v1 + 1) s) else (ok_Things_anyWantsAt v1 s ∧ mq_letP (f_Things_anyWantsAt v1 s) (fun (x11 : Int32) => (if x11 = 0 then (okl_G_countFails_31 n (v1 + 1) s) else (okl_G_countFails_31 n (v1 + 1) (sI s 0 12 ((gI s 0 12) + 1))))))))))
set_option maxRecDepth 4000 in
theorem tl_G_countFails_31 {len : Nat} {xs : Nat → Int32}  (d : Nat)   {T : Option mm_R} (K : Int32 × mS → Prop) (hX : ∀ r, K r → mm_fix (mm_X len xs) mm_Y (mm_call (mm_X len xs) mm_Y (d + 5)) (mm_look mc_G_countFails) (94, [some (.ref 0), some (.int r.1)], [], mT r.2) = T) : ∀ (n : Nat), ∀ (v1 : Int32) (s : mS), okl_G_countFails_31 n v1 s → K (lp_G_countFails_31 n v1 s) → mm_fix (mm_X len xs) mm_Y (mm_call (mm_X len xs) mm_Y (d + 5)) (mm_look mc_G_countFails) (31, [some (.ref 0), some (.int v1)], [], mT s) = T := by
  intro n
  induction n with
  | zero => intro v1 s; exact fun h => h.elim
  | succ n ih =>
    intro v1 s
    rw [okl_G_countFails_31, lp_G_countFails_31]
    refine w_go K 4 (c' := (39, [some (.ref 0), some (.int v1)], [.int (gI s 25 10), .int v1], mT s)) rfl ?_
    refine w_ige K rfl (fun _ => ?_) (fun _ => ?_)
    · refine w_go K 0 (c' := (94, [some (.ref 0), some (.int v1)], [], mT s)) rfl ?_
      exact fun _ b => hX _ b
    · refine w_go K 2 (c' := (45, [some (.ref 0), some (.int v1)], [.int 16, .int v1], mT s)) rfl ?_
      refine w_ige K rfl (fun _ => ?_) (fun _ => ?_)
      · refine w_go K 0 (c' := (94, [some (.ref 0), some (.int v1)], [], mT s)) rfl ?_
        exact fun _ b => hX _ b
      · refine w_go K 4 (c' := (56, [some (.ref 0), some (.int v1)], [.int v1, .ref 32], mT s)) rfl ?_
        refine w_ck K (st_iL rfl rfl) ?_
        refine w_go K 3 (c' := (64, [some (.ref 0), some (.int v1)], [.int (gI s 36 8), .int (gI s 32 (ix v1))], mT s)) rfl ?_
        refine w_ige K rfl (fun _ => ?_) (fun _ => ?_)
        · refine w_go K 2 (c' := (31, [some (.ref 0), some (.int (v1 + 1))], [], mT s)) rfl ?_
          exact fun a b => ih (v1 + 1) s a b
        · refine w_go K 3 (c' := (72, [some (.ref 0), some (.int v1)], [.int v1, .ref 12], mT s)) rfl ?_
          refine w_callL K (E := f_Things_anyWantsAt v1 s) (g := fun (x11 : Int32) => (some (.int x11), mT s)) rfl (m_Things_anyWantsAt (len := len) (xs := xs) (d + 4) v1 s) (fun x11 => ?_)
          refine w_go K 0 (c' := (75, [some (.ref 0), some (.int v1)], [.int x11], mT s)) rfl ?_
          refine w_zeq K rfl (fun _ => ?_) (fun _ => ?_)
          · refine w_go K 2 (c' := (31, [some (.ref 0), some (.int (v1 + 1))], [], mT s)) rfl ?_
            exact fun a b => ih (v1 + 1) s a b
          · refine w_go K 8 (c' := (31, [some (.ref 0), some (.int (v1 + 1))], [], mT (sI s 0 12 ((gI s 0 12) + 1)))) rfl ?_
            exact fun a b => ih (v1 + 1) (sI s 0 12 ((gI s 0 12) + 1)) a b
def f_G_countFails  (s : mS) : mS := (mq_let (f_Laws_judge (0 : Int32) (gI s 0 9) (0 : Int32) s) (fun (x10 : mS) => (if (gI x10 36 9) = (-1) then x10 else (mq_let (lp_G_countFails_31 mm_N (1 : Int32) x10) (fun (x12 : Int32 × mS) => x12.2)))))
def ok_G_countFails  (s : mS) : Prop := (ok_Laws_judge (0 : Int32) (gI s 0 9) (0 : Int32) s ∧ mq_letP (f_Laws_judge (0 : Int32) (gI s 0 9) (0 : Int32) s) (fun (x10 : mS) => (if (gI x10 36 9) = (-1) then True else (okl_G_countFails_31 mm_N (1 : Int32) x10 ∧ mq_letP (lp_G_countFails_31 mm_N (1 : Int32) x10) (fun (x12 : Int32 × mS) => True)))))
set_option maxRecDepth 4000 in
theorem t_G_countFails {len : Nat} {xs : Nat → Int32}  (d : Nat)  (s : mS) {T : Option mm_R} (K : mS → Prop) (hK : ∀ t, K t → some (none, mT t) = T) : ok_G_countFails s → K (f_G_countFails s) → mm_fix (mm_X len xs) mm_Y (mm_call (mm_X len xs) mm_Y (d + 5)) (mm_look mc_G_countFails) (0, [some (.ref 0), none], [], mT s) = T := by
  unfold ok_G_countFails f_G_countFails
  refine w_go K 8 (c' := (14, [some (.ref 0), none], [.ref 1, .int 0, .int (gI s 0 9), .int 0, .ref 36], mT s)) rfl ?_
  refine w_callL K (E := f_Laws_judge (0 : Int32) (gI s 0 9) (0 : Int32) s) (g := fun (x10 : mS) => (none, mT x10)) rfl (m_Laws_judge (len := len) (xs := xs) (d + 0) (0 : Int32) (gI s 0 9) (0 : Int32) s) (fun x10 => ?_)
  refine w_go K 4 (c' := (25, [some (.ref 0), none], [.int (-1), .int (gI x10 36 9)], mT x10)) rfl ?_
  refine w_ine K rfl (fun _ => ?_) (fun _ => ?_)
  · refine w_go K 0 (c' := (28, [some (.ref 0), none], [], mT x10)) rfl ?_
    exact w_ret K rfl (hK _)
  · refine w_go K 2 (c' := (31, [some (.ref 0), some (.int 1)], [], mT x10)) rfl ?_
    refine w_join K (fun (x12 : Int32 × mS) => mm_fix (mm_X len xs) mm_Y (mm_call (mm_X len xs) mm_Y (d + 5)) (mm_look mc_G_countFails) (94, [some (.ref 0), some (.int x12.1)], [], mT x12.2) = T) (fun K hJ => tl_G_countFails_31 (len := len) (xs := xs) d (T := T) K hJ mm_N (1 : Int32) x10) (fun x12 h1 h2 => ?_)
    revert h1 h2
    refine w_go K 0 (c' := (94, [some (.ref 0), some (.int x12.1)], [], mT x12.2)) rfl ?_
    exact w_ret K rfl (hK _)
theorem m_G_countFails {len : Nat} {xs : Nat → Int32}  (d : Nat)  (s : mS) : ok_G_countFails s → mm_call (mm_X len xs) mm_Y (d + 6) 61 [.ref 0] (mT s) = some (none, mT (f_G_countFails s)) := fun h => t_G_countFails (len := len) (xs := xs) d s (fun t => (some (none, mT t) : Option mm_R) = some (none, mT (f_G_countFails s))) (fun _ h => h) h rfl
def f_G_goOneStep  (s : mS) : mS := (mq_let (f_Works_bake s) (fun (x10 : mS) => (mq_let (f_Things_askAll (gI x10 0 9) x10) (fun (x11 : mS) => (mq_let (f_Net_settle_27 x11) (fun (x12 : Int32 × mS) => (mq_let (if x12.1 = 0 then sI x12.2 0 11 ((gI x12.2 0 11) + 1) else x12.2) (fun (x13 : mS) => (mq_let (f_Things_usedInAll x13) (fun (x14 : Int32) => (mq_let (if x14 ≤ (gI x13 3 12) then (0 : Int32) else (1 : Int32)) (fun (x15 : Int32) => (mq_let (if x15 = 0 then (x14, sI x13 0 14 x15) else (mq_let (f_Things_takeNothing (sI (sI x13 0 14 x15) 0 10 ((gI x13 0 10) + 1))) (fun (x18 : mS) => ((0 : Int32), x18)))) (fun (x17 : Int32 × mS) => (mq_let (f_Things_keep (sL (sI x17.2 3 12 ((gI x17.2 3 12) - x17.1)) 0 13 ((gL x17.2 0 13) + (Int32.toInt64 x17.1)))) (fun (x19 : mS) => (mq_let (f_Net_keep (gI x19 0 14) x19) (fun (x20 : mS) => (mq_let (f_G_countFails x20) (fun (x21 : mS) => sI x21 0 9 ((gI x21 0 9) + 1)))))))))))))))))))))
def ok_G_goOneStep  (s : mS) : Prop := (ok_Works_bake s ∧ mq_letP (f_Works_bake s) (fun (x10 : mS) => (ok_Things_askAll (gI x10 0 9) x10 ∧ mq_letP (f_Things_askAll (gI x10 0 9) x10) (fun (x11 : mS) => (ok_Net_settle_27 x11 ∧ mq_letP (f_Net_settle_27 x11) (fun (x12 : Int32 × mS) => (True ∧ mq_letP (if x12.1 = 0 then sI x12.2 0 11 ((gI x12.2 0 11) + 1) else x12.2) (fun (x13 : mS) => (ok_Things_usedInAll x13 ∧ mq_letP (f_Things_usedInAll x13) (fun (x14 : Int32) => (True ∧ mq_letP (if x14 ≤ (gI x13 3 12) then (0 : Int32) else (1 : Int32)) (fun (x15 : Int32) => (mm_bit x15 = true ∧ ((if x15 = 0 then True else (ok_Things_takeNothing (sI (sI x13 0 14 x15) 0 10 ((gI x13 0 10) + 1)) ∧ mq_letP (f_Things_takeNothing (sI (sI x13 0 14 x15) 0 10 ((gI x13 0 10) + 1))) (fun (x18 : mS) => True))) ∧ mq_letP (if x15 = 0 then (x14, sI x13 0 14 x15) else (mq_let (f_Things_takeNothing (sI (sI x13 0 14 x15) 0 10 ((gI x13 0 10) + 1))) (fun (x18 : mS) => ((0 : Int32), x18)))) (fun (x17 : Int32 × mS) => (ok_Things_keep (sL (sI x17.2 3 12 ((gI x17.2 3 12) - x17.1)) 0 13 ((gL x17.2 0 13) + (Int32.toInt64 x17.1))) ∧ mq_letP (f_Things_keep (sL (sI x17.2 3 12 ((gI x17.2 3 12) - x17.1)) 0 13 ((gL x17.2 0 13) + (Int32.toInt64 x17.1)))) (fun (x19 : mS) => (ok_Net_keep (gI x19 0 14) x19 ∧ mq_letP (f_Net_keep (gI x19 0 14) x19) (fun (x20 : mS) => (ok_G_countFails x20 ∧ mq_letP (f_G_countFails x20) (fun (x21 : mS) => True)))))))))))))))))))))
set_option maxRecDepth 4000 in
theorem t_G_goOneStep {len : Nat} {xs : Nat → Int32}  (d : Nat)  (s : mS) {T : Option mm_R} (K : mS → Prop) (hK : ∀ t, K t → some (none, mT t) = T) : ok_G_goOneStep s → K (f_G_goOneStep s) → mm_fix (mm_X len xs) mm_Y (mm_call (mm_X len xs) mm_Y (d + 6)) (mm_look mc_G_goOneStep) (0, [some (.ref 0), none], [], mT s) = T := by
  unfold ok_G_goOneStep f_G_goOneStep
  refine w_go K 2 (c' := (4, [some (.ref 0), none], [.ref 3], mT s)) rfl ?_
  refine w_callL K (E := f_Works_bake s) (g := fun (x10 : mS) => (none, mT x10)) rfl (m_Works_bake (len := len) (xs := xs) (d + 3) s) (fun x10 => ?_)
  refine w_go K 6 (c' := (19, [some (.ref 0), none], [.ref 1, .int (gI x10 0 9), .ref 12], mT x10)) rfl ?_
  refine w_callL K (E := f_Things_askAll (gI x10 0 9) x10) (g := fun (x11 : mS) => (none, mT x11)) rfl (m_Things_askAll (len := len) (xs := xs) (d + 1) (gI x10 0 9) x10) (fun x11 => ?_)
  refine w_go K 7 (c' := (37, [some (.ref 0), none], [.ref 27, .ref 12, .ref 25], mT x11)) rfl ?_
  refine w_callL K (E := f_Net_settle_27 x11) (g := fun (x12 : Int32 × mS) => (some (.int x12.1), mT x12.2)) rfl (m_Net_settle_27 (len := len) (xs := xs) (d + 1) x11) (fun x12 => ?_)
  refine w_go K 0 (c' := (40, [some (.ref 0), none], [.int x12.1], mT x12.2)) rfl ?_
  refine w_join K (fun (x13 : mS) => mm_fix (mm_X len xs) mm_Y (mm_call (mm_X len xs) mm_Y (d + 6)) (mm_look mc_G_goOneStep) (53, [some (.ref 0), none], [], mT x13) = T) (fun K hJ => ?_) (fun x13 h1 h2 => ?_)
  · refine w_go K 0 (c' := (40, [some (.ref 0), none], [.int x12.1], mT x12.2)) rfl ?_
    refine w_zneT K rfl (fun _ => ?_) (fun _ => ?_)
    · refine w_go K 6 (c' := (53, [some (.ref 0), none], [], mT (sI x12.2 0 11 ((gI x12.2 0 11) + 1)))) rfl ?_
      exact fun _ h => hJ _ h
    · refine w_go K 0 (c' := (53, [some (.ref 0), none], [], mT x12.2)) rfl ?_
      exact fun _ h => hJ _ h
  · revert h1 h2
    refine w_go K 2 (c' := (57, [some (.ref 0), none], [.ref 12], mT x13)) rfl ?_
    refine w_callL K (E := f_Things_usedInAll x13) (g := fun (x14 : Int32) => (some (.int x14), mT x13)) rfl (m_Things_usedInAll (len := len) (xs := xs) (d + 5) x13) (fun x14 => ?_)
    refine w_go K 6 (c' := (70, [some (.ref 0), some (.int x14)], [.int (gI x13 3 12), .int x14, .ref 0], mT x13)) rfl ?_
    refine w_join K (fun (x15 : Int32) => mm_fix (mm_X len xs) mm_Y (mm_call (mm_X len xs) mm_Y (d + 6)) (mm_look mc_G_goOneStep) (78, [some (.ref 0), some (.int x14)], [.int x15, .ref 0], mT x13) = T) (fun K hJ => ?_) (fun x15 h1 h2 => ?_)
    · refine w_go K 0 (c' := (70, [some (.ref 0), some (.int x14)], [.int (gI x13 3 12), .int x14, .ref 0], mT x13)) rfl ?_
      refine w_ileT K rfl (fun _ => ?_) (fun _ => ?_)
      · refine w_go K 1 (c' := (78, [some (.ref 0), some (.int x14)], [.int 0, .ref 0], mT x13)) rfl ?_
        exact fun _ h => hJ _ h
      · refine w_go K 2 (c' := (78, [some (.ref 0), some (.int x14)], [.int 1, .ref 0], mT x13)) rfl ?_
        exact fun _ h => hJ _ h
    · revert h1 h2
      refine w_go K 0 (c' := (78, [some (.ref 0), some (.int x14)], [.int x15, .ref 0], mT x13)) rfl ?_
      refine w_ck K rfl ?_
      refine w_go K 2 (c' := (85, [some (.ref 0), some (.int x14)], [.int x15], mT (sI x13 0 14 x15))) rfl ?_
      refine w_join K (fun (x17 : Int32 × mS) => mm_fix (mm_X len xs) mm_Y (mm_call (mm_X len xs) mm_Y (d + 6)) (mm_look mc_G_goOneStep) (107, [some (.ref 0), some (.int x17.1)], [], mT x17.2) = T) (fun K hJ => ?_) (fun x17 h1 h2 => ?_)
      · refine w_go K 0 (c' := (85, [some (.ref 0), some (.int x14)], [.int x15], mT (sI x13 0 14 x15))) rfl ?_
        refine w_zeq K rfl (fun _ => ?_) (fun _ => ?_)
        · refine w_go K 0 (c' := (107, [some (.ref 0), some (.int x14)], [], mT (sI x13 0 14 x15))) rfl ?_
          exact fun _ h => hJ _ h
        · refine w_go K 8 (c' := (102, [some (.ref 0), some (.int x14)], [.ref 12], mT (sI (sI x13 0 14 x15) 0 10 ((gI x13 0 10) + 1)))) rfl ?_
          refine w_callL K (E := f_Things_takeNothing (sI (sI x13 0 14 x15) 0 10 ((gI x13 0 10) + 1))) (g := fun (x18 : mS) => (none, mT x18)) rfl (m_Things_takeNothing (len := len) (xs := xs) (d + 5) (sI (sI x13 0 14 x15) 0 10 ((gI x13 0 10) + 1))) (fun x18 => ?_)
          refine w_go K 2 (c' := (107, [some (.ref 0), some (.int 0)], [], mT x18)) rfl ?_
          exact fun _ h => hJ _ h
      · revert h1 h2
        refine w_go K 16 (c' := (135, [some (.ref 0), some (.int x17.1)], [.ref 12], mT (sL (sI x17.2 3 12 ((gI x17.2 3 12) - x17.1)) 0 13 ((gL x17.2 0 13) + (Int32.toInt64 x17.1))))) rfl ?_
        refine w_callL K (E := f_Things_keep (sL (sI x17.2 3 12 ((gI x17.2 3 12) - x17.1)) 0 13 ((gL x17.2 0 13) + (Int32.toInt64 x17.1)))) (g := fun (x19 : mS) => (none, mT x19)) rfl (m_Things_keep (len := len) (xs := xs) (d + 5) (sL (sI x17.2 3 12 ((gI x17.2 3 12) - x17.1)) 0 13 ((gL x17.2 0 13) + (Int32.toInt64 x17.1)))) (fun x19 => ?_)
        refine w_go K 6 (c' := (150, [some (.ref 0), some (.int x17.1)], [.int (gI x19 0 14), .ref 12, .ref 25], mT x19)) rfl ?_
        refine w_callL K (E := f_Net_keep (gI x19 0 14) x19) (g := fun (x20 : mS) => (none, mT x20)) rfl (m_Net_keep (len := len) (xs := xs) (d + 3) (gI x19 0 14) x19) (fun x20 => ?_)
        refine w_go K 1 (c' := (154, [some (.ref 0), some (.int x17.1)], [.ref 0], mT x20)) rfl ?_
        refine w_callL K (E := f_G_countFails x20) (g := fun (x21 : mS) => (none, mT x21)) rfl (m_G_countFails (len := len) (xs := xs) (d + 0) x20) (fun x21 => ?_)
        refine w_go K 6 (c' := (167, [some (.ref 0), some (.int x17.1)], [], mT (sI x21 0 9 ((gI x21 0 9) + 1)))) rfl ?_
        exact w_ret K rfl (hK _)
theorem m_G_goOneStep {len : Nat} {xs : Nat → Int32}  (d : Nat)  (s : mS) : ok_G_goOneStep s → mm_call (mm_X len xs) mm_Y (d + 7) 39 [.ref 0] (mT s) = some (none, mT (f_G_goOneStep s)) := fun h => t_G_goOneStep (len := len) (xs := xs) d s (fun t => (some (none, mT t) : Option mm_R) = some (none, mT (f_G_goOneStep s))) (fun _ h => h) h rfl
def lp_G_steps_26 (a1 : Int32) : Nat → Int32 → mS → Int32 × mS
  | 0, v2, s => (v2, s)
  | n + 1, v2, s => (if a1 ≤ v2 then (v2, s) else (mq_let (f_G_goOneStep s) (fun (x11 : mS) => (lp_G_steps_26 a1 n (v2 + 1) x11))))
def okl_G_steps_26 (a1 : Int32) : Nat → Int32 → mS → Prop
  | 0, v2, s => False
  | n + 1, v2, s => (if a1 ≤ v2 then True else (ok_G_goOneStep s ∧ mq_letP (f_G_goOneStep s) (fun (x11 : mS) => (okl_G_steps_26 a1 n (v2 + 1) x11))))
set_option maxRecDepth 4000 in
theorem tl_G_steps_26 {len : Nat} {xs : Nat → Int32}  (d : Nat) (a1 : Int32)  {T : Option mm_R} (K : Int32 × mS → Prop) (hX : ∀ r, K r → mm_fix (mm_X len xs) mm_Y (mm_call (mm_X len xs) mm_Y (d + 7)) (mm_look mc_G_steps) (41, [some (.ref 0), some (.int a1), some (.int r.1)], [], mT r.2) = T) : ∀ (n : Nat), ∀ (v2 : Int32) (s : mS), okl_G_steps_26 a1 n v2 s → K (lp_G_steps_26 a1 n v2 s) → mm_fix (mm_X len xs) mm_Y (mm_call (mm_X len xs) mm_Y (d + 7)) (mm_look mc_G_steps) (26, [some (.ref 0), some (.int a1), some (.int v2)], [], mT s) = T := by
  intro n
  induction n with
  | zero => intro v2 s; exact fun h => h.elim
  | succ n ih =>
    intro v2 s
    rw [okl_G_steps_26, lp_G_steps_26]
    refine w_go K 2 (c' := (28, [some (.ref 0), some (.int a1), some (.int v2)], [.int a1, .int v2], mT s)) rfl ?_
    refine w_ige K rfl (fun _ => ?_) (fun _ => ?_)
    · refine w_go K 0 (c' := (41, [some (.ref 0), some (.int a1), some (.int v2)], [], mT s)) rfl ?_
      exact fun _ b => hX _ b
    · refine w_go K 1 (c' := (32, [some (.ref 0), some (.int a1), some (.int v2)], [.ref 0], mT s)) rfl ?_
      refine w_callL K (E := f_G_goOneStep s) (g := fun (x11 : mS) => (none, mT x11)) rfl (m_G_goOneStep (len := len) (xs := xs) (d + 0) s) (fun x11 => ?_)
      refine w_go K 2 (c' := (26, [some (.ref 0), some (.int a1), some (.int (v2 + 1))], [], mT x11)) rfl ?_
      exact fun a b => ih (v2 + 1) x11 a b
def f_G_steps (a1 : Int32) (s : mS) : Int32 × mS := (mq_let (f_G_within a1 (1 : Int32) (96 : Int32) s) (fun (x10 : Int32) => (if x10 = 0 then ((-1), s) else (if ((gI s 0 9) + a1) ≤ 3999 then (mq_let (lp_G_steps_26 a1 mm_N (0 : Int32) s) (fun (x12 : Int32 × mS) => ((gI x12.2 0 9), x12.2))) else ((-1), s)))))
def ok_G_steps (a1 : Int32) (s : mS) : Prop := (True ∧ mq_letP (f_G_within a1 (1 : Int32) (96 : Int32) s) (fun (x10 : Int32) => (if x10 = 0 then True else (if ((gI s 0 9) + a1) ≤ 3999 then (okl_G_steps_26 a1 mm_N (0 : Int32) s ∧ mq_letP (lp_G_steps_26 a1 mm_N (0 : Int32) s) (fun (x12 : Int32 × mS) => True)) else True))))
set_option maxRecDepth 4000 in
theorem t_G_steps {len : Nat} {xs : Nat → Int32}  (d : Nat) (a1 : Int32) (s : mS) {T : Option mm_R} (K : Int32 × mS → Prop) (hK : ∀ t, K t → some (some (.int t.1), mT t.2) = T) : ok_G_steps a1 s → K (f_G_steps a1 s) → mm_fix (mm_X len xs) mm_Y (mm_call (mm_X len xs) mm_Y (d + 7)) (mm_look mc_G_steps) (0, [some (.ref 0), some (.int a1), none], [], mT s) = T := by
  unfold ok_G_steps f_G_steps
  refine w_go K 3 (c' := (4, [some (.ref 0), some (.int a1), none], [.int 96, .int 1, .int a1], mT s)) rfl ?_
  refine w_callL K (E := f_G_within a1 (1 : Int32) (96 : Int32) s) (g := fun (x10 : Int32) => (some (.int x10), mT s)) rfl (m_G_within (len := len) (xs := xs) (d + 6) a1 (1 : Int32) (96 : Int32) s) (fun x10 => ?_)
  refine w_go K 0 (c' := (7, [some (.ref 0), some (.int a1), none], [.int x10], mT s)) rfl ?_
  refine w_zeq K rfl (fun _ => ?_) (fun _ => ?_)
  · refine w_go K 1 (c' := (23, [some (.ref 0), some (.int a1), none], [.int (-1)], mT s)) rfl ?_
    exact w_ret K rfl (hK _)
  · refine w_go K 5 (c' := (19, [some (.ref 0), some (.int a1), none], [.int 3999, .int ((gI s 0 9) + a1)], mT s)) rfl ?_
    refine w_ile K rfl (fun _ => ?_) (fun _ => ?_)
    · refine w_go K 2 (c' := (26, [some (.ref 0), some (.int a1), some (.int 0)], [], mT s)) rfl ?_
      refine w_join K (fun (x12 : Int32 × mS) => mm_fix (mm_X len xs) mm_Y (mm_call (mm_X len xs) mm_Y (d + 7)) (mm_look mc_G_steps) (41, [some (.ref 0), some (.int a1), some (.int x12.1)], [], mT x12.2) = T) (fun K hJ => tl_G_steps_26 (len := len) (xs := xs) d a1 (T := T) K hJ mm_N (0 : Int32) s) (fun x12 h1 h2 => ?_)
      revert h1 h2
      refine w_go K 2 (c' := (45, [some (.ref 0), some (.int a1), some (.int x12.1)], [.int (gI x12.2 0 9)], mT x12.2)) rfl ?_
      exact w_ret K rfl (hK _)
    · refine w_go K 1 (c' := (23, [some (.ref 0), some (.int a1), none], [.int (-1)], mT s)) rfl ?_
      exact w_ret K rfl (hK _)
theorem m_G_steps {len : Nat} {xs : Nat → Int32}  (d : Nat) (a1 : Int32) (s : mS) : ok_G_steps a1 s → mm_call (mm_X len xs) mm_Y (d + 8) 38 [.ref 0, .int a1] (mT s) = some (some (.int (f_G_steps a1 s).1), mT (f_G_steps a1 s).2) := fun h => t_G_steps (len := len) (xs := xs) d a1 s (fun t => (some (some (.int t.1), mT t.2) : Option mm_R) = some (some (.int (f_G_steps a1 s).1), mT (f_G_steps a1 s).2)) (fun _ h => h) h rfl
def f_M_inStep (a1 : Int32) (a2 : Int32) (s : mS) : Int32 := (mq_let (f_M_isIn a2 (0 : Int32) (15 : Int32) s) (fun (x10 : Int32) => (if x10 = 0 then 0 else (((a1 * (gI s 117 (ix (a2 + 1)))) / 72) - ((a1 * (gI s 117 (ix a2))) / 72)))))
def ok_M_inStep (a1 : Int32) (a2 : Int32) (s : mS) : Prop := (True ∧ mq_letP (f_M_isIn a2 (0 : Int32) (15 : Int32) s) (fun (x10 : Int32) => (if x10 = 0 then True else (mm_inb (a2 + 1) 17 = true ∧ (mm_inb a2 17 = true ∧ True)))))
set_option maxRecDepth 4000 in
theorem t_M_inStep {len : Nat} {xs : Nat → Int32}  (d : Nat) (a1 : Int32) (a2 : Int32) (s : mS) {T : Option mm_R} (K : Int32 → Prop) (hK : ∀ t, K t → some (some (.int t), mT s) = T) : ok_M_inStep a1 a2 s → K (f_M_inStep a1 a2 s) → mm_fix (mm_X len xs) mm_Y (mm_call (mm_X len xs) mm_Y (d + 1)) (mm_look mc_M_inStep) (0, [some (.ref 116), some (.int a1), some (.int a2)], [], mT s) = T := by
  unfold ok_M_inStep f_M_inStep
  refine w_go K 3 (c' := (4, [some (.ref 116), some (.int a1), some (.int a2)], [.int 15, .int 0, .int a2], mT s)) rfl ?_
  refine w_callL K (E := f_M_isIn a2 (0 : Int32) (15 : Int32) s) (g := fun (x10 : Int32) => (some (.int x10), mT s)) rfl (m_M_isIn (len := len) (xs := xs) (d + 0) a2 (0 : Int32) (15 : Int32) s) (fun x10 => ?_)
  refine w_go K 0 (c' := (7, [some (.ref 116), some (.int a1), some (.int a2)], [.int x10], mT s)) rfl ?_
  refine w_zeq K rfl (fun _ => ?_) (fun _ => ?_)
  · refine w_go K 1 (c' := (39, [some (.ref 116), some (.int a1), some (.int a2)], [.int 0], mT s)) rfl ?_
    exact w_ret K rfl (hK _)
  · refine w_go K 6 (c' := (18, [some (.ref 116), some (.int a1), some (.int a2)], [.int (a2 + 1), .ref 117, .int a1], mT s)) rfl ?_
    refine w_ck K (st_iL rfl rfl) ?_
    refine w_go K 7 (c' := (29, [some (.ref 116), some (.int a1), some (.int a2)], [.int a2, .ref 117, .int a1, .int ((a1 * (gI s 117 (ix (a2 + 1)))) / 72)], mT s)) rfl ?_
    refine w_ck K (st_iL rfl rfl) ?_
    refine w_go K 5 (c' := (39, [some (.ref 116), some (.int a1), some (.int a2)], [.int (((a1 * (gI s 117 (ix (a2 + 1)))) / 72) - ((a1 * (gI s 117 (ix a2))) / 72))], mT s)) rfl ?_
    exact w_ret K rfl (hK _)
theorem m_M_inStep {len : Nat} {xs : Nat → Int32}  (d : Nat) (a1 : Int32) (a2 : Int32) (s : mS) : ok_M_inStep a1 a2 s → mm_call (mm_X len xs) mm_Y (d + 2) 182 [.ref 116, .int a1, .int a2] (mT s) = some (some (.int (f_M_inStep a1 a2 s)), mT s) := fun h => t_M_inStep (len := len) (xs := xs) d a1 a2 s (fun t => (some (some (.int t), mT s) : Option mm_R) = some (some (.int (f_M_inStep a1 a2 s)), mT s)) (fun _ h => h) h rfl
def lp_M_burns_4 (s : mS) : Nat → Int32 → Int32 → Int32 × Int32
  | 0, v1, v2 => (v1, v2)
  | n + 1, v1, v2 => (if (gI s 116 4) ≤ v2 then (v1, v2) else (if (gI s 126 (ix v2)) = (-1) then (lp_M_burns_4 s n (v1 + 0) (v2 + 1)) else (mq_let (f_M_inStep (gI s 123 (ix v2)) (gI s 126 (ix v2)) s) (fun (x10 : Int32) => (lp_M_burns_4 s n (v1 + x10) (v2 + 1))))))
def okl_M_burns_4 (s : mS) : Nat → Int32 → Int32 → Prop
  | 0, v1, v2 => False
  | n + 1, v1, v2 => (if (gI s 116 4) ≤ v2 then True else (mm_inb v2 6 = true ∧ (if (gI s 126 (ix v2)) = (-1) then (okl_M_burns_4 s n (v1 + 0) (v2 + 1)) else (mm_inb v2 6 = true ∧ (mm_inb v2 6 = true ∧ (ok_M_inStep (gI s 123 (ix v2)) (gI s 126 (ix v2)) s ∧ mq_letP (f_M_inStep (gI s 123 (ix v2)) (gI s 126 (ix v2)) s) (fun (x10 : Int32) => (okl_M_burns_4 s n (v1 + x10) (v2 + 1)))))))))
set_option maxRecDepth 4000 in
theorem tl_M_burns_4 {len : Nat} {xs : Nat → Int32}  (d : Nat)  (s : mS) {T : Option mm_R} (K : Int32 × Int32 → Prop) (hX : ∀ r, K r → mm_fix (mm_X len xs) mm_Y (mm_call (mm_X len xs) mm_Y (d + 2)) (mm_look mc_M_burns) (51, [some (.ref 116), some (.int r.1), some (.int r.2)], [], mT s) = T) : ∀ (n : Nat), ∀ (v1 : Int32) (v2 : Int32), okl_M_burns_4 s n v1 v2 → K (lp_M_burns_4 s n v1 v2) → mm_fix (mm_X len xs) mm_Y (mm_call (mm_X len xs) mm_Y (d + 2)) (mm_look mc_M_burns) (4, [some (.ref 116), some (.int v1), some (.int v2)], [], mT s) = T := by
  intro n
  induction n with
  | zero => intro v1 v2; exact fun h => h.elim
  | succ n ih =>
    intro v1 v2
    rw [okl_M_burns_4, lp_M_burns_4]
    refine w_go K 3 (c' := (9, [some (.ref 116), some (.int v1), some (.int v2)], [.int (gI s 116 4), .int v2], mT s)) rfl ?_
    refine w_ige K rfl (fun _ => ?_) (fun _ => ?_)
    · refine w_go K 0 (c' := (51, [some (.ref 116), some (.int v1), some (.int v2)], [], mT s)) rfl ?_
      exact fun _ b => hX _ b
    · refine w_go K 4 (c' := (18, [some (.ref 116), some (.int v1), some (.int v2)], [.int v2, .ref 126, .int v1], mT s)) rfl ?_
      refine w_ck K (st_iL rfl rfl) ?_
      refine w_go K 1 (c' := (20, [some (.ref 116), some (.int v1), some (.int v2)], [.int (-1), .int (gI s 126 (ix v2)), .int v1], mT s)) rfl ?_
      refine w_ine K rfl (fun _ => ?_) (fun _ => ?_)
      · refine w_go K 6 (c' := (4, [some (.ref 116), some (.int (v1 + 0)), some (.int (v2 + 1))], [], mT s)) rfl ?_
        exact fun a b => ih (v1 + 0) (v2 + 1) a b
      · refine w_go K 4 (c' := (33, [some (.ref 116), some (.int v1), some (.int v2)], [.int v2, .ref 123, .ref 116, .int v1], mT s)) rfl ?_
        refine w_ck K (st_iL rfl rfl) ?_
        refine w_go K 3 (c' := (39, [some (.ref 116), some (.int v1), some (.int v2)], [.int v2, .ref 126, .int (gI s 123 (ix v2)), .ref 116, .int v1], mT s)) rfl ?_
        refine w_ck K (st_iL rfl rfl) ?_
        refine w_go K 0 (c' := (40, [some (.ref 116), some (.int v1), some (.int v2)], [.int (gI s 126 (ix v2)), .int (gI s 123 (ix v2)), .ref 116, .int v1], mT s)) rfl ?_
        refine w_callL K (E := f_M_inStep (gI s 123 (ix v2)) (gI s 126 (ix v2)) s) (g := fun (x10 : Int32) => (some (.int x10), mT s)) rfl (m_M_inStep (len := len) (xs := xs) (d + 0) (gI s 123 (ix v2)) (gI s 126 (ix v2)) s) (fun x10 => ?_)
        refine w_go K 4 (c' := (4, [some (.ref 116), some (.int (v1 + x10)), some (.int (v2 + 1))], [], mT s)) rfl ?_
        exact fun a b => ih (v1 + x10) (v2 + 1) a b
def f_M_burns  (s : mS) : mS := (mq_let (lp_M_burns_4 s mm_N (0 : Int32) (0 : Int32)) (fun (x11 : Int32 × Int32) => (mq_let (f_M_fills x11.1 (sL s 116 36 ((gL s 116 36) + (Int32.toInt64 x11.1)))) (fun (x12 : mS) => x12))))
def ok_M_burns  (s : mS) : Prop := (okl_M_burns_4 s mm_N (0 : Int32) (0 : Int32) ∧ mq_letP (lp_M_burns_4 s mm_N (0 : Int32) (0 : Int32)) (fun (x11 : Int32 × Int32) => True))
set_option maxRecDepth 4000 in
theorem t_M_burns {len : Nat} {xs : Nat → Int32}  (d : Nat)  (s : mS) {T : Option mm_R} (K : mS → Prop) (hK : ∀ t, K t → some (none, mT t) = T) : ok_M_burns s → K (f_M_burns s) → mm_fix (mm_X len xs) mm_Y (mm_call (mm_X len xs) mm_Y (d + 2)) (mm_look mc_M_burns) (0, [some (.ref 116), none, none], [], mT s) = T := by
  unfold ok_M_burns f_M_burns
  refine w_go K 4 (c' := (4, [some (.ref 116), some (.int 0), some (.int 0)], [], mT s)) rfl ?_
  refine w_join K (fun (x11 : Int32 × Int32) => mm_fix (mm_X len xs) mm_Y (mm_call (mm_X len xs) mm_Y (d + 2)) (mm_look mc_M_burns) (51, [some (.ref 116), some (.int x11.1), some (.int x11.2)], [], mT s) = T) (fun K hJ => tl_M_burns_4 (len := len) (xs := xs) d s (T := T) K hJ mm_N (0 : Int32) (0 : Int32)) (fun x11 h1 h2 => ?_)
  revert h1 h2
  refine w_go K 9 (c' := (64, [some (.ref 116), some (.int x11.1), some (.int x11.2)], [.int x11.1, .ref 116], mT (sL s 116 36 ((gL s 116 36) + (Int32.toInt64 x11.1))))) rfl ?_
  refine w_callLT K (E := f_M_fills x11.1 (sL s 116 36 ((gL s 116 36) + (Int32.toInt64 x11.1)))) (g := fun (x12 : mS) => (none, mT x12)) rfl (m_M_fills (len := len) (xs := xs) (d + 1) x11.1 (sL s 116 36 ((gL s 116 36) + (Int32.toInt64 x11.1)))) (fun x12 => ?_)
  refine w_go K 0 (c' := (67, [some (.ref 116), some (.int x11.1), some (.int x11.2)], [], mT x12)) rfl ?_
  exact w_ret K rfl (hK _)
theorem m_M_burns {len : Nat} {xs : Nat → Int32}  (d : Nat)  (s : mS) : ok_M_burns s → mm_call (mm_X len xs) mm_Y (d + 3) 181 [.ref 116] (mT s) = some (none, mT (f_M_burns s)) := fun h => t_M_burns (len := len) (xs := xs) d s (fun t => (some (none, mT t) : Option mm_R) = some (none, mT (f_M_burns s))) (fun _ h => h) h rfl
def f_M_fogIn (a1 : Int32) (s : mS) : Int32 := (if (42 : Int32) ≤ (a1 / 96) then 0 else (gI s 122 (ix (a1 / 96))))
def ok_M_fogIn (a1 : Int32) (s : mS) : Prop := (if (42 : Int32) ≤ (a1 / 96) then True else (mm_inb (a1 / 96) 42 = true ∧ True))
set_option maxRecDepth 4000 in
theorem t_M_fogIn {len : Nat} {xs : Nat → Int32}  (d : Nat) (a1 : Int32) (s : mS) {T : Option mm_R} (K : Int32 → Prop) (hK : ∀ t, K t → some (some (.int t), mT s) = T) : ok_M_fogIn a1 s → K (f_M_fogIn a1 s) → mm_fix (mm_X len xs) mm_Y (mm_call (mm_X len xs) mm_Y (d + 0)) (mm_look mc_M_fogIn) (0, [some (.ref 116), some (.int a1)], [], mT s) = T := by
  unfold ok_M_fogIn f_M_fogIn
  refine w_go K 4 (c' := (6, [some (.ref 116), some (.int a1)], [.int 42, .int (a1 / 96)], mT s)) rfl ?_
  refine w_ige K rfl (fun _ => ?_) (fun _ => ?_)
  · refine w_go K 1 (c' := (22, [some (.ref 116), some (.int a1)], [.int 0], mT s)) rfl ?_
    exact w_ret K rfl (hK _)
  · refine w_go K 5 (c' := (17, [some (.ref 116), some (.int a1)], [.int (a1 / 96), .ref 122], mT s)) rfl ?_
    refine w_ck K (st_iL rfl rfl) ?_
    refine w_go K 1 (c' := (22, [some (.ref 116), some (.int a1)], [.int (gI s 122 (ix (a1 / 96)))], mT s)) rfl ?_
    exact w_ret K rfl (hK _)
theorem m_M_fogIn {len : Nat} {xs : Nat → Int32}  (d : Nat) (a1 : Int32) (s : mS) : ok_M_fogIn a1 s → mm_call (mm_X len xs) mm_Y (d + 1) 186 [.ref 116, .int a1] (mT s) = some (some (.int (f_M_fogIn a1 s)), mT s) := fun h => t_M_fogIn (len := len) (xs := xs) d a1 s (fun t => (some (some (.int t), mT s) : Option mm_R) = some (some (.int (f_M_fogIn a1 s)), mT s)) (fun _ h => h) h rfl
def f_M_byHour (a1 : Int32) (a2 : Int32) (s : mS) : Int32 := (mq_let (if (6 : Int32) ≤ ((a2 - a2 / 96 * 96) / 4) then (if (10 : Int32) ≤ ((a2 - a2 / 96 * 96) / 4) then (if ((a2 - a2 / 96 * 96) / 4) < 16 then (a1 / 2) else (if ((a2 - a2 / 96 * 96) / 4) = 23 then (a1 / 2) else (2 * a1))) else a1) else (a1 / 4)) (fun (x10 : Int32) => (mq_let (f_M_fogIn a2 s) (fun (x11 : Int32) => ((x10 * (2 + x11)) / 2)))))
def ok_M_byHour (a1 : Int32) (a2 : Int32) (s : mS) : Prop := (True ∧ mq_letP (if (6 : Int32) ≤ ((a2 - a2 / 96 * 96) / 4) then (if (10 : Int32) ≤ ((a2 - a2 / 96 * 96) / 4) then (if ((a2 - a2 / 96 * 96) / 4) < 16 then (a1 / 2) else (if ((a2 - a2 / 96 * 96) / 4) = 23 then (a1 / 2) else (2 * a1))) else a1) else (a1 / 4)) (fun (x10 : Int32) => (ok_M_fogIn a2 s ∧ mq_letP (f_M_fogIn a2 s) (fun (x11 : Int32) => True))))
set_option maxRecDepth 4000 in
theorem t_M_byHour {len : Nat} {xs : Nat → Int32}  (d : Nat) (a1 : Int32) (a2 : Int32) (s : mS) {T : Option mm_R} (K : Int32 → Prop) (hK : ∀ t, K t → some (some (.int t), mT s) = T) : ok_M_byHour a1 a2 s → K (f_M_byHour a1 a2 s) → mm_fix (mm_X len xs) mm_Y (mm_call (mm_X len xs) mm_Y (d + 1)) (mm_look mc_M_byHour) (0, [some (.ref 116), some (.int a1), some (.int a2), none, none], [], mT s) = T := by
  unfold ok_M_byHour f_M_byHour
  refine w_go K 8 (c' := (10, [some (.ref 116), some (.int a1), some (.int a2), some (.int ((a2 - a2 / 96 * 96) / 4)), none], [.int 6, .int ((a2 - a2 / 96 * 96) / 4)], mT s)) rfl ?_
  refine w_join K (fun (x10 : Int32) => mm_fix (mm_X len xs) mm_Y (mm_call (mm_X len xs) mm_Y (d + 1)) (mm_look mc_M_byHour) (50, [some (.ref 116), some (.int a1), some (.int a2), some (.int ((a2 - a2 / 96 * 96) / 4)), none], [.int x10], mT s) = T) (fun K hJ => ?_) (fun x10 h1 h2 => ?_)
  · refine w_go K 0 (c' := (10, [some (.ref 116), some (.int a1), some (.int a2), some (.int ((a2 - a2 / 96 * 96) / 4)), none], [.int 6, .int ((a2 - a2 / 96 * 96) / 4)], mT s)) rfl ?_
    refine w_igeT K rfl (fun _ => ?_) (fun _ => ?_)
    · refine w_go K 2 (c' := (22, [some (.ref 116), some (.int a1), some (.int a2), some (.int ((a2 - a2 / 96 * 96) / 4)), none], [.int 10, .int ((a2 - a2 / 96 * 96) / 4)], mT s)) rfl ?_
      refine w_igeT K rfl (fun _ => ?_) (fun _ => ?_)
      · refine w_go K 2 (c' := (32, [some (.ref 116), some (.int a1), some (.int a2), some (.int ((a2 - a2 / 96 * 96) / 4)), none], [.int 16, .int ((a2 - a2 / 96 * 96) / 4)], mT s)) rfl ?_
        refine w_iltT K rfl (fun _ => ?_) (fun _ => ?_)
        · refine w_go K 4 (c' := (50, [some (.ref 116), some (.int a1), some (.int a2), some (.int ((a2 - a2 / 96 * 96) / 4)), none], [.int (a1 / 2)], mT s)) rfl ?_
          exact fun _ h => hJ _ h
        · refine w_go K 2 (c' := (38, [some (.ref 116), some (.int a1), some (.int a2), some (.int ((a2 - a2 / 96 * 96) / 4)), none], [.int 23, .int ((a2 - a2 / 96 * 96) / 4)], mT s)) rfl ?_
          refine w_ineT K rfl (fun _ => ?_) (fun _ => ?_)
          · refine w_go K 4 (c' := (50, [some (.ref 116), some (.int a1), some (.int a2), some (.int ((a2 - a2 / 96 * 96) / 4)), none], [.int (a1 / 2)], mT s)) rfl ?_
            exact fun _ h => hJ _ h
          · refine w_go K 3 (c' := (50, [some (.ref 116), some (.int a1), some (.int a2), some (.int ((a2 - a2 / 96 * 96) / 4)), none], [.int (2 * a1)], mT s)) rfl ?_
            exact fun _ h => hJ _ h
      · refine w_go K 2 (c' := (50, [some (.ref 116), some (.int a1), some (.int a2), some (.int ((a2 - a2 / 96 * 96) / 4)), none], [.int a1], mT s)) rfl ?_
        exact fun _ h => hJ _ h
    · refine w_go K 4 (c' := (50, [some (.ref 116), some (.int a1), some (.int a2), some (.int ((a2 - a2 / 96 * 96) / 4)), none], [.int (a1 / 4)], mT s)) rfl ?_
      exact fun _ h => hJ _ h
  · revert h1 h2
    refine w_go K 5 (c' := (57, [some (.ref 116), some (.int a1), some (.int a2), some (.int ((a2 - a2 / 96 * 96) / 4)), some (.int x10)], [.int a2, .ref 116, .int 2, .int x10], mT s)) rfl ?_
    refine w_callL K (E := f_M_fogIn a2 s) (g := fun (x11 : Int32) => (some (.int x11), mT s)) rfl (m_M_fogIn (len := len) (xs := xs) (d + 0) a2 s) (fun x11 => ?_)
    refine w_go K 4 (c' := (64, [some (.ref 116), some (.int a1), some (.int a2), some (.int ((a2 - a2 / 96 * 96) / 4)), some (.int x10)], [.int ((x10 * (2 + x11)) / 2)], mT s)) rfl ?_
    exact w_ret K rfl (hK _)
theorem m_M_byHour {len : Nat} {xs : Nat → Int32}  (d : Nat) (a1 : Int32) (a2 : Int32) (s : mS) : ok_M_byHour a1 a2 s → mm_call (mm_X len xs) mm_Y (d + 2) 185 [.ref 116, .int a1, .int a2] (mT s) = some (some (.int (f_M_byHour a1 a2 s)), mT s) := fun h => t_M_byHour (len := len) (xs := xs) d a1 a2 s (fun t => (some (some (.int t), mT s) : Option mm_R) = some (some (.int (f_M_byHour a1 a2 s)), mT s)) (fun _ h => h) h rfl
def f_M_wants (a1 : Int32) (a2 : Int32) (s : mS) : Int32 := (if (gI s 140 (ix a1)) = 0 then (if (gI s 133 (ix a1)) = 0 then (mq_let (f_M_byHour (gI s 134 (ix a1)) a2 s) (fun (x10 : Int32) => x10)) else (if (gI s 133 (ix a1)) = 1 then (if ((gI s 116 9) + (gI s 135 (ix a1))) ≤ (a2 - a2 / 96 * 96) then (gI s 134 (ix a1)) else (if (a2 - a2 / 96 * 96) < ((gI s 116 10) + (gI s 135 (ix a1))) then (gI s 134 (ix a1)) else (mq_let (f_M_fogIn a2 s) (fun (x11 : Int32) => (if x11 ≤ 1 then 0 else (gI s 134 (ix a1))))))) else (if (gI s 133 (ix a1)) = 2 then (mq_let (f_M_byHour (gI s 134 (ix a1)) a2 s) (fun (x12 : Int32) => (if (gI s 136 (ix a1)) ≤ x12 then (gI s 136 (ix a1)) else (mq_let (f_M_byHour (gI s 134 (ix a1)) a2 s) (fun (x13 : Int32) => x13))))) else (gI s 134 (ix a1))))) else 0)
def ok_M_wants (a1 : Int32) (a2 : Int32) (s : mS) : Prop := (mm_inb a1 40 = true ∧ (if (gI s 140 (ix a1)) = 0 then (mm_inb a1 40 = true ∧ (if (gI s 133 (ix a1)) = 0 then (mm_inb a1 40 = true ∧ (ok_M_byHour (gI s 134 (ix a1)) a2 s ∧ mq_letP (f_M_byHour (gI s 134 (ix a1)) a2 s) (fun (x10 : Int32) => True))) else (if (gI s 133 (ix a1)) = 1 then (mm_inb a1 40 = true ∧ (if ((gI s 116 9) + (gI s 135 (ix a1))) ≤ (a2 - a2 / 96 * 96) then (mm_inb a1 40 = true ∧ True) else (mm_inb a1 40 = true ∧ (if (a2 - a2 / 96 * 96) < ((gI s 116 10) + (gI s 135 (ix a1))) then (mm_inb a1 40 = true ∧ True) else (ok_M_fogIn a2 s ∧ mq_letP (f_M_fogIn a2 s) (fun (x11 : Int32) => (if x11 ≤ 1 then True else (mm_inb a1 40 = true ∧ True)))))))) else (if (gI s 133 (ix a1)) = 2 then (mm_inb a1 40 = true ∧ (ok_M_byHour (gI s 134 (ix a1)) a2 s ∧ mq_letP (f_M_byHour (gI s 134 (ix a1)) a2 s) (fun (x12 : Int32) => (mm_inb a1 40 = true ∧ (if (gI s 136 (ix a1)) ≤ x12 then (mm_inb a1 40 = true ∧ True) else (mm_inb a1 40 = true ∧ (ok_M_byHour (gI s 134 (ix a1)) a2 s ∧ mq_letP (f_M_byHour (gI s 134 (ix a1)) a2 s) (fun (x13 : Int32) => True)))))))) else (mm_inb a1 40 = true ∧ True))))) else True))
set_option maxRecDepth 4000 in
theorem t_M_wants {len : Nat} {xs : Nat → Int32}  (d : Nat) (a1 : Int32) (a2 : Int32) (s : mS) {T : Option mm_R} (K : Int32 → Prop) (hK : ∀ t, K t → some (some (.int t), mT s) = T) : ok_M_wants a1 a2 s → K (f_M_wants a1 a2 s) → mm_fix (mm_X len xs) mm_Y (mm_call (mm_X len xs) mm_Y (d + 2)) (mm_look mc_M_wants) (0, [some (.ref 116), some (.int a1), some (.int a2), none], [], mT s) = T := by
  unfold ok_M_wants f_M_wants
  refine w_go K 3 (c' := (5, [some (.ref 116), some (.int a1), some (.int a2), none], [.int a1, .ref 140], mT s)) rfl ?_
  refine w_ck K (st_bL rfl rfl) ?_
  refine w_go K 0 (c' := (6, [some (.ref 116), some (.int a1), some (.int a2), none], [.int (gI s 140 (ix a1))], mT s)) rfl ?_
  refine w_zeq K rfl (fun _ => ?_) (fun _ => ?_)
  · refine w_go K 7 (c' := (21, [some (.ref 116), some (.int a1), some (.int a2), some (.int (a2 - a2 / 96 * 96))], [.int a1, .ref 133], mT s)) rfl ?_
    refine w_ck K (st_iL rfl rfl) ?_
    refine w_go K 0 (c' := (22, [some (.ref 116), some (.int a1), some (.int a2), some (.int (a2 - a2 / 96 * 96))], [.int (gI s 133 (ix a1))], mT s)) rfl ?_
    refine w_go K 1 (c' := (mm_sw [(0, 48), (1, 60), (2, 110)] 151 (gI s 133 (ix a1)), [some (.ref 116), some (.int a1), some (.int a2), some (.int (a2 - a2 / 96 * 96))], [], mT s)) rfl ?_
    refine w_sw K (fun _ => ?_) (fun _ => ?_)
    · refine w_go K 4 (c' := (54, [some (.ref 116), some (.int a1), some (.int a2), some (.int (a2 - a2 / 96 * 96))], [.int a1, .ref 134, .ref 116], mT s)) rfl ?_
      refine w_ck K (st_iL rfl rfl) ?_
      refine w_go K 1 (c' := (56, [some (.ref 116), some (.int a1), some (.int a2), some (.int (a2 - a2 / 96 * 96))], [.int a2, .int (gI s 134 (ix a1)), .ref 116], mT s)) rfl ?_
      refine w_callL K (E := f_M_byHour (gI s 134 (ix a1)) a2 s) (g := fun (x10 : Int32) => (some (.int x10), mT s)) rfl (m_M_byHour (len := len) (xs := xs) (d + 0) (gI s 134 (ix a1)) a2 s) (fun x10 => ?_)
      refine w_go K 0 (c' := (59, [some (.ref 116), some (.int a1), some (.int a2), some (.int (a2 - a2 / 96 * 96))], [.int x10], mT s)) rfl ?_
      exact w_ret K rfl (hK _)
    · refine w_sw K (fun _ => ?_) (fun _ => ?_)
      · refine w_go K 6 (c' := (70, [some (.ref 116), some (.int a1), some (.int a2), some (.int (a2 - a2 / 96 * 96))], [.int a1, .ref 135, .int (gI s 116 9), .int (a2 - a2 / 96 * 96)], mT s)) rfl ?_
        refine w_ck K (st_iL rfl rfl) ?_
        refine w_go K 1 (c' := (72, [some (.ref 116), some (.int a1), some (.int a2), some (.int (a2 - a2 / 96 * 96))], [.int ((gI s 116 9) + (gI s 135 (ix a1))), .int (a2 - a2 / 96 * 96)], mT s)) rfl ?_
        refine w_ige K rfl (fun _ => ?_) (fun _ => ?_)
        · refine w_go K 3 (c' := (104, [some (.ref 116), some (.int a1), some (.int a2), some (.int (a2 - a2 / 96 * 96))], [.int a1, .ref 134], mT s)) rfl ?_
          refine w_ck K (st_iL rfl rfl) ?_
          refine w_go K 1 (c' := (109, [some (.ref 116), some (.int a1), some (.int a2), some (.int (a2 - a2 / 96 * 96))], [.int (gI s 134 (ix a1))], mT s)) rfl ?_
          exact w_ret K rfl (hK _)
        · refine w_go K 6 (c' := (85, [some (.ref 116), some (.int a1), some (.int a2), some (.int (a2 - a2 / 96 * 96))], [.int a1, .ref 135, .int (gI s 116 10), .int (a2 - a2 / 96 * 96)], mT s)) rfl ?_
          refine w_ck K (st_iL rfl rfl) ?_
          refine w_go K 1 (c' := (87, [some (.ref 116), some (.int a1), some (.int a2), some (.int (a2 - a2 / 96 * 96))], [.int ((gI s 116 10) + (gI s 135 (ix a1))), .int (a2 - a2 / 96 * 96)], mT s)) rfl ?_
          refine w_ilt K rfl (fun _ => ?_) (fun _ => ?_)
          · refine w_go K 3 (c' := (104, [some (.ref 116), some (.int a1), some (.int a2), some (.int (a2 - a2 / 96 * 96))], [.int a1, .ref 134], mT s)) rfl ?_
            refine w_ck K (st_iL rfl rfl) ?_
            refine w_go K 1 (c' := (109, [some (.ref 116), some (.int a1), some (.int a2), some (.int (a2 - a2 / 96 * 96))], [.int (gI s 134 (ix a1))], mT s)) rfl ?_
            exact w_ret K rfl (hK _)
          · refine w_go K 2 (c' := (92, [some (.ref 116), some (.int a1), some (.int a2), some (.int (a2 - a2 / 96 * 96))], [.int a2, .ref 116], mT s)) rfl ?_
            refine w_callL K (E := f_M_fogIn a2 s) (g := fun (x11 : Int32) => (some (.int x11), mT s)) rfl (m_M_fogIn (len := len) (xs := xs) (d + 1) a2 s) (fun x11 => ?_)
            refine w_go K 1 (c' := (96, [some (.ref 116), some (.int a1), some (.int a2), some (.int (a2 - a2 / 96 * 96))], [.int 1, .int x11], mT s)) rfl ?_
            refine w_ile K rfl (fun _ => ?_) (fun _ => ?_)
            · refine w_go K 1 (c' := (109, [some (.ref 116), some (.int a1), some (.int a2), some (.int (a2 - a2 / 96 * 96))], [.int 0], mT s)) rfl ?_
              exact w_ret K rfl (hK _)
            · refine w_go K 3 (c' := (104, [some (.ref 116), some (.int a1), some (.int a2), some (.int (a2 - a2 / 96 * 96))], [.int a1, .ref 134], mT s)) rfl ?_
              refine w_ck K (st_iL rfl rfl) ?_
              refine w_go K 1 (c' := (109, [some (.ref 116), some (.int a1), some (.int a2), some (.int (a2 - a2 / 96 * 96))], [.int (gI s 134 (ix a1))], mT s)) rfl ?_
              exact w_ret K rfl (hK _)
      · refine w_sw K (fun _ => ?_) (fun _ => ?_)
        · refine w_go K 4 (c' := (116, [some (.ref 116), some (.int a1), some (.int a2), some (.int (a2 - a2 / 96 * 96))], [.int a1, .ref 134, .ref 116], mT s)) rfl ?_
          refine w_ck K (st_iL rfl rfl) ?_
          refine w_go K 1 (c' := (118, [some (.ref 116), some (.int a1), some (.int a2), some (.int (a2 - a2 / 96 * 96))], [.int a2, .int (gI s 134 (ix a1)), .ref 116], mT s)) rfl ?_
          refine w_callL K (E := f_M_byHour (gI s 134 (ix a1)) a2 s) (g := fun (x12 : Int32) => (some (.int x12), mT s)) rfl (m_M_byHour (len := len) (xs := xs) (d + 0) (gI s 134 (ix a1)) a2 s) (fun x12 => ?_)
          refine w_go K 3 (c' := (126, [some (.ref 116), some (.int a1), some (.int a2), some (.int (a2 - a2 / 96 * 96))], [.int a1, .ref 136, .int x12], mT s)) rfl ?_
          refine w_ck K (st_iL rfl rfl) ?_
          refine w_go K 0 (c' := (127, [some (.ref 116), some (.int a1), some (.int a2), some (.int (a2 - a2 / 96 * 96))], [.int (gI s 136 (ix a1)), .int x12], mT s)) rfl ?_
          refine w_ige K rfl (fun _ => ?_) (fun _ => ?_)
          · refine w_go K 3 (c' := (149, [some (.ref 116), some (.int a1), some (.int a2), some (.int (a2 - a2 / 96 * 96))], [.int a1, .ref 136], mT s)) rfl ?_
            refine w_ck K (st_iL rfl rfl) ?_
            refine w_go K 0 (c' := (150, [some (.ref 116), some (.int a1), some (.int a2), some (.int (a2 - a2 / 96 * 96))], [.int (gI s 136 (ix a1))], mT s)) rfl ?_
            exact w_ret K rfl (hK _)
          · refine w_go K 4 (c' := (136, [some (.ref 116), some (.int a1), some (.int a2), some (.int (a2 - a2 / 96 * 96))], [.int a1, .ref 134, .ref 116], mT s)) rfl ?_
            refine w_ck K (st_iL rfl rfl) ?_
            refine w_go K 1 (c' := (138, [some (.ref 116), some (.int a1), some (.int a2), some (.int (a2 - a2 / 96 * 96))], [.int a2, .int (gI s 134 (ix a1)), .ref 116], mT s)) rfl ?_
            refine w_callL K (E := f_M_byHour (gI s 134 (ix a1)) a2 s) (g := fun (x13 : Int32) => (some (.int x13), mT s)) rfl (m_M_byHour (len := len) (xs := xs) (d + 0) (gI s 134 (ix a1)) a2 s) (fun x13 => ?_)
            refine w_go K 1 (c' := (150, [some (.ref 116), some (.int a1), some (.int a2), some (.int (a2 - a2 / 96 * 96))], [.int x13], mT s)) rfl ?_
            exact w_ret K rfl (hK _)
        · refine w_go K 0 (c' := (151, [some (.ref 116), some (.int a1), some (.int a2), some (.int (a2 - a2 / 96 * 96))], [], mT s)) rfl ?_
          refine w_go K 3 (c' := (156, [some (.ref 116), some (.int a1), some (.int a2), some (.int (a2 - a2 / 96 * 96))], [.int a1, .ref 134], mT s)) rfl ?_
          refine w_ck K (st_iL rfl rfl) ?_
          refine w_go K 0 (c' := (157, [some (.ref 116), some (.int a1), some (.int a2), some (.int (a2 - a2 / 96 * 96))], [.int (gI s 134 (ix a1))], mT s)) rfl ?_
          exact w_ret K rfl (hK _)
  · refine w_go K 1 (c' := (10, [some (.ref 116), some (.int a1), some (.int a2), none], [.int 0], mT s)) rfl ?_
    exact w_ret K rfl (hK _)
theorem m_M_wants {len : Nat} {xs : Nat → Int32}  (d : Nat) (a1 : Int32) (a2 : Int32) (s : mS) : ok_M_wants a1 a2 s → mm_call (mm_X len xs) mm_Y (d + 3) 184 [.ref 116, .int a1, .int a2] (mT s) = some (some (.int (f_M_wants a1 a2 s)), mT s) := fun h => t_M_wants (len := len) (xs := xs) d a1 a2 s (fun t => (some (some (.int t), mT s) : Option mm_R) = some (some (.int (f_M_wants a1 a2 s)), mT s)) (fun _ h => h) h rfl
def lp_M_flows_2  : Nat → Int32 → mS → Int32 × mS
  | 0, v1, s => (v1, s)
  | n + 1, v1, s => (if (gI s 116 7) ≤ v1 then (v1, s) else (lp_M_flows_2 n (v1 + 1) (sI s 144 (ix v1) 0)))
def okl_M_flows_2  : Nat → Int32 → mS → Prop
  | 0, v1, s => False
  | n + 1, v1, s => (if (gI s 116 7) ≤ v1 then True else (mm_inb v1 16 = true ∧ (okl_M_flows_2 n (v1 + 1) (sI s 144 (ix v1) 0))))
set_option maxRecDepth 4000 in
theorem tl_M_flows_2 {len : Nat} {xs : Nat → Int32}  (d : Nat)   {T : Option mm_R} (K : Int32 × mS → Prop) (hX : ∀ r, K r → mm_fix (mm_X len xs) mm_Y (mm_call (mm_X len xs) mm_Y (d + 0)) (mm_look mc_M_flows) (23, [some (.ref 116), some (.int r.1)], [], mT r.2) = T) : ∀ (n : Nat), ∀ (v1 : Int32) (s : mS), okl_M_flows_2 n v1 s → K (lp_M_flows_2 n v1 s) → mm_fix (mm_X len xs) mm_Y (mm_call (mm_X len xs) mm_Y (d + 0)) (mm_look mc_M_flows) (2, [some (.ref 116), some (.int v1)], [], mT s) = T := by
  intro n
  induction n with
  | zero => intro v1 s; exact fun h => h.elim
  | succ n ih =>
    intro v1 s
    rw [okl_M_flows_2, lp_M_flows_2]
    refine w_go K 3 (c' := (7, [some (.ref 116), some (.int v1)], [.int (gI s 116 7), .int v1], mT s)) rfl ?_
    refine w_ige K rfl (fun _ => ?_) (fun _ => ?_)
    · refine w_go K 0 (c' := (23, [some (.ref 116), some (.int v1)], [], mT s)) rfl ?_
      exact fun _ b => hX _ b
    · refine w_go K 4 (c' := (16, [some (.ref 116), some (.int v1)], [.int 0, .int v1, .ref 144], mT s)) rfl ?_
      refine w_ck K (st_iS rfl rfl) ?_
      refine w_go K 2 (c' := (2, [some (.ref 116), some (.int (v1 + 1))], [], mT (sI s 144 (ix v1) 0))) rfl ?_
      exact fun a b => ih (v1 + 1) (sI s 144 (ix v1) 0) a b
def lp_M_flows_25  : Nat → Int32 → mS → Int32 × mS
  | 0, v1, s => (v1, s)
  | n + 1, v1, s => (if (gI s 116 8) ≤ v1 then (v1, s) else (lp_M_flows_25 n (v1 + 1) (sI s 144 (ix (gI s 132 (ix v1))) ((gI s 144 (ix (gI s 132 (ix v1)))) + (gI s 143 (ix v1))))))
def okl_M_flows_25  : Nat → Int32 → mS → Prop
  | 0, v1, s => False
  | n + 1, v1, s => (if (gI s 116 8) ≤ v1 then True else (mm_inb v1 40 = true ∧ (mm_inb (gI s 132 (ix v1)) 16 = true ∧ (mm_inb v1 40 = true ∧ (mm_inb (gI s 132 (ix v1)) 16 = true ∧ (okl_M_flows_25 n (v1 + 1) (sI s 144 (ix (gI s 132 (ix v1))) ((gI s 144 (ix (gI s 132 (ix v1)))) + (gI s 143 (ix v1))))))))))
set_option maxRecDepth 4000 in
theorem tl_M_flows_25 {len : Nat} {xs : Nat → Int32}  (d : Nat)   {T : Option mm_R} (K : Int32 × mS → Prop) (hX : ∀ r, K r → mm_fix (mm_X len xs) mm_Y (mm_call (mm_X len xs) mm_Y (d + 0)) (mm_look mc_M_flows) (59, [some (.ref 116), some (.int r.1)], [], mT r.2) = T) : ∀ (n : Nat), ∀ (v1 : Int32) (s : mS), okl_M_flows_25 n v1 s → K (lp_M_flows_25 n v1 s) → mm_fix (mm_X len xs) mm_Y (mm_call (mm_X len xs) mm_Y (d + 0)) (mm_look mc_M_flows) (25, [some (.ref 116), some (.int v1)], [], mT s) = T := by
  intro n
  induction n with
  | zero => intro v1 s; exact fun h => h.elim
  | succ n ih =>
    intro v1 s
    rw [okl_M_flows_25, lp_M_flows_25]
    refine w_go K 3 (c' := (30, [some (.ref 116), some (.int v1)], [.int (gI s 116 8), .int v1], mT s)) rfl ?_
    refine w_ige K rfl (fun _ => ?_) (fun _ => ?_)
    · refine w_go K 0 (c' := (59, [some (.ref 116), some (.int v1)], [], mT s)) rfl ?_
      exact fun _ b => hX _ b
    · refine w_go K 5 (c' := (42, [some (.ref 116), some (.int v1)], [.int v1, .ref 132, .ref 144], mT s)) rfl ?_
      refine w_ck K (st_iL rfl rfl) ?_
      refine w_go K 1 (c' := (44, [some (.ref 116), some (.int v1)], [.int (gI s 132 (ix v1)), .ref 144, .int (gI s 132 (ix v1)), .ref 144], mT s)) rfl ?_
      refine w_ck K (st_iL rfl rfl) ?_
      refine w_go K 3 (c' := (50, [some (.ref 116), some (.int v1)], [.int v1, .ref 143, .int (gI s 144 (ix (gI s 132 (ix v1)))), .int (gI s 132 (ix v1)), .ref 144], mT s)) rfl ?_
      refine w_ck K (st_iL rfl rfl) ?_
      refine w_go K 1 (c' := (52, [some (.ref 116), some (.int v1)], [.int ((gI s 144 (ix (gI s 132 (ix v1)))) + (gI s 143 (ix v1))), .int (gI s 132 (ix v1)), .ref 144], mT s)) rfl ?_
      refine w_ck K (st_iS rfl rfl) ?_
      refine w_go K 2 (c' := (25, [some (.ref 116), some (.int (v1 + 1))], [], mT (sI s 144 (ix (gI s 132 (ix v1))) ((gI s 144 (ix (gI s 132 (ix v1)))) + (gI s 143 (ix v1)))))) rfl ?_
      exact fun a b => ih (v1 + 1) (sI s 144 (ix (gI s 132 (ix v1))) ((gI s 144 (ix (gI s 132 (ix v1)))) + (gI s 143 (ix v1)))) a b
def lp_M_flows_66  : Nat → Int32 → mS → Int32 × mS
  | 0, v1, s => (v1, s)
  | n + 1, v1, s => (if v1 ≤ 0 then (v1, s) else (lp_M_flows_66 n (v1 + (-1)) (sI s 144 (ix (gI s 127 (ix v1))) ((gI s 144 (ix (gI s 127 (ix v1)))) + (gI s 144 (ix v1))))))
def okl_M_flows_66  : Nat → Int32 → mS → Prop
  | 0, v1, s => False
  | n + 1, v1, s => (if v1 ≤ 0 then True else (mm_inb v1 16 = true ∧ (mm_inb (gI s 127 (ix v1)) 16 = true ∧ (mm_inb v1 16 = true ∧ (mm_inb (gI s 127 (ix v1)) 16 = true ∧ (okl_M_flows_66 n (v1 + (-1)) (sI s 144 (ix (gI s 127 (ix v1))) ((gI s 144 (ix (gI s 127 (ix v1)))) + (gI s 144 (ix v1))))))))))
set_option maxRecDepth 4000 in
theorem tl_M_flows_66 {len : Nat} {xs : Nat → Int32}  (d : Nat)   {T : Option mm_R} (K : Int32 × mS → Prop) (hX : ∀ r, K r → mm_fix (mm_X len xs) mm_Y (mm_call (mm_X len xs) mm_Y (d + 0)) (mm_look mc_M_flows) (96, [some (.ref 116), some (.int r.1)], [], mT r.2) = T) : ∀ (n : Nat), ∀ (v1 : Int32) (s : mS), okl_M_flows_66 n v1 s → K (lp_M_flows_66 n v1 s) → mm_fix (mm_X len xs) mm_Y (mm_call (mm_X len xs) mm_Y (d + 0)) (mm_look mc_M_flows) (66, [some (.ref 116), some (.int v1)], [], mT s) = T := by
  intro n
  induction n with
  | zero => intro v1 s; exact fun h => h.elim
  | succ n ih =>
    intro v1 s
    rw [okl_M_flows_66, lp_M_flows_66]
    refine w_go K 1 (c' := (67, [some (.ref 116), some (.int v1)], [.int v1], mT s)) rfl ?_
    refine w_zle K rfl (fun _ => ?_) (fun _ => ?_)
    · refine w_go K 0 (c' := (96, [some (.ref 116), some (.int v1)], [], mT s)) rfl ?_
      exact fun _ b => hX _ b
    · refine w_go K 5 (c' := (79, [some (.ref 116), some (.int v1)], [.int v1, .ref 127, .ref 144], mT s)) rfl ?_
      refine w_ck K (st_iL rfl rfl) ?_
      refine w_go K 1 (c' := (81, [some (.ref 116), some (.int v1)], [.int (gI s 127 (ix v1)), .ref 144, .int (gI s 127 (ix v1)), .ref 144], mT s)) rfl ?_
      refine w_ck K (st_iL rfl rfl) ?_
      refine w_go K 3 (c' := (87, [some (.ref 116), some (.int v1)], [.int v1, .ref 144, .int (gI s 144 (ix (gI s 127 (ix v1)))), .int (gI s 127 (ix v1)), .ref 144], mT s)) rfl ?_
      refine w_ck K (st_iL rfl rfl) ?_
      refine w_go K 1 (c' := (89, [some (.ref 116), some (.int v1)], [.int ((gI s 144 (ix (gI s 127 (ix v1)))) + (gI s 144 (ix v1))), .int (gI s 127 (ix v1)), .ref 144], mT s)) rfl ?_
      refine w_ck K (st_iS rfl rfl) ?_
      refine w_go K 2 (c' := (66, [some (.ref 116), some (.int (v1 + (-1)))], [], mT (sI s 144 (ix (gI s 127 (ix v1))) ((gI s 144 (ix (gI s 127 (ix v1)))) + (gI s 144 (ix v1)))))) rfl ?_
      exact fun a b => ih (v1 + (-1)) (sI s 144 (ix (gI s 127 (ix v1))) ((gI s 144 (ix (gI s 127 (ix v1)))) + (gI s 144 (ix v1)))) a b
def f_M_flows  (s : mS) : mS := (mq_let (lp_M_flows_2 mm_N (0 : Int32) s) (fun (x10 : Int32 × mS) => (mq_let (lp_M_flows_25 mm_N (0 : Int32) x10.2) (fun (x11 : Int32 × mS) => (mq_let (lp_M_flows_66 mm_N ((gI x11.2 116 7) - 1) x11.2) (fun (x12 : Int32 × mS) => x12.2))))))
def ok_M_flows  (s : mS) : Prop := (okl_M_flows_2 mm_N (0 : Int32) s ∧ mq_letP (lp_M_flows_2 mm_N (0 : Int32) s) (fun (x10 : Int32 × mS) => (okl_M_flows_25 mm_N (0 : Int32) x10.2 ∧ mq_letP (lp_M_flows_25 mm_N (0 : Int32) x10.2) (fun (x11 : Int32 × mS) => (okl_M_flows_66 mm_N ((gI x11.2 116 7) - 1) x11.2 ∧ mq_letP (lp_M_flows_66 mm_N ((gI x11.2 116 7) - 1) x11.2) (fun (x12 : Int32 × mS) => True))))))
set_option maxRecDepth 4000 in
theorem t_M_flows {len : Nat} {xs : Nat → Int32}  (d : Nat)  (s : mS) {T : Option mm_R} (K : mS → Prop) (hK : ∀ t, K t → some (none, mT t) = T) : ok_M_flows s → K (f_M_flows s) → mm_fix (mm_X len xs) mm_Y (mm_call (mm_X len xs) mm_Y (d + 0)) (mm_look mc_M_flows) (0, [some (.ref 116), none], [], mT s) = T := by
  unfold ok_M_flows f_M_flows
  refine w_go K 2 (c' := (2, [some (.ref 116), some (.int 0)], [], mT s)) rfl ?_
  refine w_join K (fun (x10 : Int32 × mS) => mm_fix (mm_X len xs) mm_Y (mm_call (mm_X len xs) mm_Y (d + 0)) (mm_look mc_M_flows) (23, [some (.ref 116), some (.int x10.1)], [], mT x10.2) = T) (fun K hJ => tl_M_flows_2 (len := len) (xs := xs) d (T := T) K hJ mm_N (0 : Int32) s) (fun x10 h1 h2 => ?_)
  revert h1 h2
  refine w_go K 2 (c' := (25, [some (.ref 116), some (.int 0)], [], mT x10.2)) rfl ?_
  refine w_join K (fun (x11 : Int32 × mS) => mm_fix (mm_X len xs) mm_Y (mm_call (mm_X len xs) mm_Y (d + 0)) (mm_look mc_M_flows) (59, [some (.ref 116), some (.int x11.1)], [], mT x11.2) = T) (fun K hJ => tl_M_flows_25 (len := len) (xs := xs) d (T := T) K hJ mm_N (0 : Int32) x10.2) (fun x11 h1 h2 => ?_)
  revert h1 h2
  refine w_go K 5 (c' := (66, [some (.ref 116), some (.int ((gI x11.2 116 7) - 1))], [], mT x11.2)) rfl ?_
  refine w_join K (fun (x12 : Int32 × mS) => mm_fix (mm_X len xs) mm_Y (mm_call (mm_X len xs) mm_Y (d + 0)) (mm_look mc_M_flows) (96, [some (.ref 116), some (.int x12.1)], [], mT x12.2) = T) (fun K hJ => tl_M_flows_66 (len := len) (xs := xs) d (T := T) K hJ mm_N ((gI x11.2 116 7) - 1) x11.2) (fun x12 h1 h2 => ?_)
  revert h1 h2
  refine w_go K 0 (c' := (96, [some (.ref 116), some (.int x12.1)], [], mT x12.2)) rfl ?_
  exact w_ret K rfl (hK _)
theorem m_M_flows {len : Nat} {xs : Nat → Int32}  (d : Nat)  (s : mS) : ok_M_flows s → mm_call (mm_X len xs) mm_Y (d + 1) 188 [.ref 116] (mT s) = some (none, mT (f_M_flows s)) := fun h => t_M_flows (len := len) (xs := xs) d s (fun t => (some (none, mT t) : Option mm_R) = some (none, mT (f_M_flows s))) (fun _ h => h) h rfl
def lp_M_sweep_16  : Nat → Int32 → mS → Int32 × mS
  | 0, v1, s => (v1, s)
  | n + 1, v1, s => (if (gI s 116 7) ≤ v1 then (v1, s) else (mq_let (if (gI s 130 (ix v1)) = 0 then (if (gI s 145 (ix (gI s 127 (ix v1)))) = 0 then (0 : Int32) else (if (0 : Int32) ≤ ((((gI s 145 (ix (gI s 127 (ix v1)))) - (((gI s 147 (ix v1)) * (gI s 144 (ix v1))) / 100)) + (gI s 129 (ix v1))) - (gI s 129 (ix (gI s 127 (ix v1))))) then ((((gI s 145 (ix (gI s 127 (ix v1)))) - (((gI s 147 (ix v1)) * (gI s 144 (ix v1))) / 100)) + (gI s 129 (ix v1))) - (gI s 129 (ix (gI s 127 (ix v1))))) else (0 : Int32))) else (0 : Int32)) (fun (x11 : Int32) => (lp_M_sweep_16 n (v1 + 1) (sI s 145 (ix v1) x11)))))
def okl_M_sweep_16  : Nat → Int32 → mS → Prop
  | 0, v1, s => False
  | n + 1, v1, s => (if (gI s 116 7) ≤ v1 then True else (mm_inb v1 16 = true ∧ (mm_inb (gI s 127 (ix v1)) 16 = true ∧ (mm_inb v1 16 = true ∧ (mm_inb v1 16 = true ∧ (mm_inb v1 16 = true ∧ (mm_inb v1 16 = true ∧ (mm_inb (gI s 127 (ix v1)) 16 = true ∧ (mm_inb v1 16 = true ∧ (True ∧ mq_letP (if (gI s 130 (ix v1)) = 0 then (if (gI s 145 (ix (gI s 127 (ix v1)))) = 0 then (0 : Int32) else (if (0 : Int32) ≤ ((((gI s 145 (ix (gI s 127 (ix v1)))) - (((gI s 147 (ix v1)) * (gI s 144 (ix v1))) / 100)) + (gI s 129 (ix v1))) - (gI s 129 (ix (gI s 127 (ix v1))))) then ((((gI s 145 (ix (gI s 127 (ix v1)))) - (((gI s 147 (ix v1)) * (gI s 144 (ix v1))) / 100)) + (gI s 129 (ix v1))) - (gI s 129 (ix (gI s 127 (ix v1))))) else (0 : Int32))) else (0 : Int32)) (fun (x11 : Int32) => (mm_inb v1 16 = true ∧ (okl_M_sweep_16 n (v1 + 1) (sI s 145 (ix v1) x11))))))))))))))
set_option maxRecDepth 4000 in
theorem tl_M_sweep_16 {len : Nat} {xs : Nat → Int32}  (d : Nat)   {T : Option mm_R} (K : Int32 × mS → Prop) (hX : ∀ r, K r → ∀ (o2 : Option Value) (o3 : Option Value), mm_fix (mm_X len xs) mm_Y (mm_call (mm_X len xs) mm_Y (d + 1)) (mm_look mc_M_sweep) (108, [some (.ref 116), some (.int r.1), o2, o3], [], mT r.2) = T) : ∀ (n : Nat), ∀ (v1 : Int32) (o2 : Option Value) (o3 : Option Value) (s : mS), okl_M_sweep_16 n v1 s → K (lp_M_sweep_16 n v1 s) → mm_fix (mm_X len xs) mm_Y (mm_call (mm_X len xs) mm_Y (d + 1)) (mm_look mc_M_sweep) (16, [some (.ref 116), some (.int v1), o2, o3], [], mT s) = T := by
  intro n
  induction n with
  | zero => intro v1 o2 o3 s; exact fun h => h.elim
  | succ n ih =>
    intro v1 o2 o3 s
    rw [okl_M_sweep_16, lp_M_sweep_16]
    refine w_go K 3 (c' := (21, [some (.ref 116), some (.int v1), o2, o3], [.int (gI s 116 7), .int v1], mT s)) rfl ?_
    refine w_ige K rfl (fun _ => ?_) (fun _ => ?_)
    · refine w_go K 0 (c' := (108, [some (.ref 116), some (.int v1), o2, o3], [], mT s)) rfl ?_
      exact fun _ b => hX _ b _ _
    · refine w_go K 5 (c' := (33, [some (.ref 116), some (.int v1), o2, o3], [.int v1, .ref 127, .ref 145], mT s)) rfl ?_
      refine w_ck K (st_iL rfl rfl) ?_
      refine w_go K 0 (c' := (34, [some (.ref 116), some (.int v1), o2, o3], [.int (gI s 127 (ix v1)), .ref 145], mT s)) rfl ?_
      refine w_ck K (st_iL rfl rfl) ?_
      refine w_go K 5 (c' := (42, [some (.ref 116), some (.int v1), some (.int (gI s 145 (ix (gI s 127 (ix v1))))), o3], [.int v1, .ref 147, .int (gI s 145 (ix (gI s 127 (ix v1))))], mT s)) rfl ?_
      refine w_ck K (st_iL rfl rfl) ?_
      refine w_go K 3 (c' := (48, [some (.ref 116), some (.int v1), some (.int (gI s 145 (ix (gI s 127 (ix v1))))), o3], [.int v1, .ref 144, .int (gI s 147 (ix v1)), .int (gI s 145 (ix (gI s 127 (ix v1))))], mT s)) rfl ?_
      refine w_ck K (st_iL rfl rfl) ?_
      refine w_go K 7 (c' := (59, [some (.ref 116), some (.int v1), some (.int (gI s 145 (ix (gI s 127 (ix v1))))), o3], [.int v1, .ref 129, .int ((gI s 145 (ix (gI s 127 (ix v1)))) - (((gI s 147 (ix v1)) * (gI s 144 (ix v1))) / 100))], mT s)) rfl ?_
      refine w_ck K (st_iL rfl rfl) ?_
      refine w_go K 6 (c' := (70, [some (.ref 116), some (.int v1), some (.int (gI s 145 (ix (gI s 127 (ix v1))))), o3], [.int v1, .ref 127, .ref 129, .int (((gI s 145 (ix (gI s 127 (ix v1)))) - (((gI s 147 (ix v1)) * (gI s 144 (ix v1))) / 100)) + (gI s 129 (ix v1)))], mT s)) rfl ?_
      refine w_ck K (st_iL rfl rfl) ?_
      refine w_go K 0 (c' := (71, [some (.ref 116), some (.int v1), some (.int (gI s 145 (ix (gI s 127 (ix v1))))), o3], [.int (gI s 127 (ix v1)), .ref 129, .int (((gI s 145 (ix (gI s 127 (ix v1)))) - (((gI s 147 (ix v1)) * (gI s 144 (ix v1))) / 100)) + (gI s 129 (ix v1)))], mT s)) rfl ?_
      refine w_ck K (st_iL rfl rfl) ?_
      refine w_go K 8 (c' := (84, [some (.ref 116), some (.int v1), some (.int (gI s 145 (ix (gI s 127 (ix v1))))), some (.int ((((gI s 145 (ix (gI s 127 (ix v1)))) - (((gI s 147 (ix v1)) * (gI s 144 (ix v1))) / 100)) + (gI s 129 (ix v1))) - (gI s 129 (ix (gI s 127 (ix v1))))))], [.int v1, .ref 130, .int v1, .ref 145], mT s)) rfl ?_
      refine w_ck K (st_bL rfl rfl) ?_
      refine w_go K 0 (c' := (85, [some (.ref 116), some (.int v1), some (.int (gI s 145 (ix (gI s 127 (ix v1))))), some (.int ((((gI s 145 (ix (gI s 127 (ix v1)))) - (((gI s 147 (ix v1)) * (gI s 144 (ix v1))) / 100)) + (gI s 129 (ix v1))) - (gI s 129 (ix (gI s 127 (ix v1))))))], [.int (gI s 130 (ix v1)), .int v1, .ref 145], mT s)) rfl ?_
      refine w_join K (fun (x11 : Int32) => mm_fix (mm_X len xs) mm_Y (mm_call (mm_X len xs) mm_Y (d + 1)) (mm_look mc_M_sweep) (101, [some (.ref 116), some (.int v1), some (.int (gI s 145 (ix (gI s 127 (ix v1))))), some (.int ((((gI s 145 (ix (gI s 127 (ix v1)))) - (((gI s 147 (ix v1)) * (gI s 144 (ix v1))) / 100)) + (gI s 129 (ix v1))) - (gI s 129 (ix (gI s 127 (ix v1))))))], [.int x11, .int v1, .ref 145], mT s) = T) (fun K hJ => ?_) (fun x11 h1 h2 => ?_)
      · refine w_go K 0 (c' := (85, [some (.ref 116), some (.int v1), some (.int (gI s 145 (ix (gI s 127 (ix v1))))), some (.int ((((gI s 145 (ix (gI s 127 (ix v1)))) - (((gI s 147 (ix v1)) * (gI s 144 (ix v1))) / 100)) + (gI s 129 (ix v1))) - (gI s 129 (ix (gI s 127 (ix v1))))))], [.int (gI s 130 (ix v1)), .int v1, .ref 145], mT s)) rfl ?_
        refine w_zneT K rfl (fun _ => ?_) (fun _ => ?_)
        · refine w_go K 1 (c' := (89, [some (.ref 116), some (.int v1), some (.int (gI s 145 (ix (gI s 127 (ix v1))))), some (.int ((((gI s 145 (ix (gI s 127 (ix v1)))) - (((gI s 147 (ix v1)) * (gI s 144 (ix v1))) / 100)) + (gI s 129 (ix v1))) - (gI s 129 (ix (gI s 127 (ix v1))))))], [.int (gI s 145 (ix (gI s 127 (ix v1)))), .int v1, .ref 145], mT s)) rfl ?_
          refine w_zeqT K rfl (fun _ => ?_) (fun _ => ?_)
          · refine w_go K 2 (c' := (101, [some (.ref 116), some (.int v1), some (.int (gI s 145 (ix (gI s 127 (ix v1))))), some (.int ((((gI s 145 (ix (gI s 127 (ix v1)))) - (((gI s 147 (ix v1)) * (gI s 144 (ix v1))) / 100)) + (gI s 129 (ix v1))) - (gI s 129 (ix (gI s 127 (ix v1))))))], [.int 0, .int v1, .ref 145], mT s)) rfl ?_
            exact fun _ h => hJ _ h
          · refine w_go K 1 (c' := (93, [some (.ref 116), some (.int v1), some (.int (gI s 145 (ix (gI s 127 (ix v1))))), some (.int ((((gI s 145 (ix (gI s 127 (ix v1)))) - (((gI s 147 (ix v1)) * (gI s 144 (ix v1))) / 100)) + (gI s 129 (ix v1))) - (gI s 129 (ix (gI s 127 (ix v1))))))], [.int ((((gI s 145 (ix (gI s 127 (ix v1)))) - (((gI s 147 (ix v1)) * (gI s 144 (ix v1))) / 100)) + (gI s 129 (ix v1))) - (gI s 129 (ix (gI s 127 (ix v1))))), .int v1, .ref 145], mT s)) rfl ?_
            refine w_zgeT K rfl (fun _ => ?_) (fun _ => ?_)
            · refine w_go K 1 (c' := (101, [some (.ref 116), some (.int v1), some (.int (gI s 145 (ix (gI s 127 (ix v1))))), some (.int ((((gI s 145 (ix (gI s 127 (ix v1)))) - (((gI s 147 (ix v1)) * (gI s 144 (ix v1))) / 100)) + (gI s 129 (ix v1))) - (gI s 129 (ix (gI s 127 (ix v1))))))], [.int ((((gI s 145 (ix (gI s 127 (ix v1)))) - (((gI s 147 (ix v1)) * (gI s 144 (ix v1))) / 100)) + (gI s 129 (ix v1))) - (gI s 129 (ix (gI s 127 (ix v1))))), .int v1, .ref 145], mT s)) rfl ?_
              exact fun _ h => hJ _ h
            · refine w_go K 2 (c' := (101, [some (.ref 116), some (.int v1), some (.int (gI s 145 (ix (gI s 127 (ix v1))))), some (.int ((((gI s 145 (ix (gI s 127 (ix v1)))) - (((gI s 147 (ix v1)) * (gI s 144 (ix v1))) / 100)) + (gI s 129 (ix v1))) - (gI s 129 (ix (gI s 127 (ix v1))))))], [.int 0, .int v1, .ref 145], mT s)) rfl ?_
              exact fun _ h => hJ _ h
        · refine w_go K 2 (c' := (101, [some (.ref 116), some (.int v1), some (.int (gI s 145 (ix (gI s 127 (ix v1))))), some (.int ((((gI s 145 (ix (gI s 127 (ix v1)))) - (((gI s 147 (ix v1)) * (gI s 144 (ix v1))) / 100)) + (gI s 129 (ix v1))) - (gI s 129 (ix (gI s 127 (ix v1))))))], [.int 0, .int v1, .ref 145], mT s)) rfl ?_
          exact fun _ h => hJ _ h
      · revert h1 h2
        refine w_go K 0 (c' := (101, [some (.ref 116), some (.int v1), some (.int (gI s 145 (ix (gI s 127 (ix v1))))), some (.int ((((gI s 145 (ix (gI s 127 (ix v1)))) - (((gI s 147 (ix v1)) * (gI s 144 (ix v1))) / 100)) + (gI s 129 (ix v1))) - (gI s 129 (ix (gI s 127 (ix v1))))))], [.int x11, .int v1, .ref 145], mT s)) rfl ?_
        refine w_ck K (st_iS rfl rfl) ?_
        refine w_go K 2 (c' := (16, [some (.ref 116), some (.int (v1 + 1)), some (.int (gI s 145 (ix (gI s 127 (ix v1))))), some (.int ((((gI s 145 (ix (gI s 127 (ix v1)))) - (((gI s 147 (ix v1)) * (gI s 144 (ix v1))) / 100)) + (gI s 129 (ix v1))) - (gI s 129 (ix (gI s 127 (ix v1))))))], [], mT (sI s 145 (ix v1) x11))) rfl ?_
        exact fun a b => ih (v1 + 1) _ _ (sI s 145 (ix v1) x11) a b
def lp_M_sweep_110  : Nat → Int32 → mS → Int32 × mS
  | 0, v1, s => (v1, s)
  | n + 1, v1, s => (if (gI s 116 8) ≤ v1 then (v1, s) else (mq_let (if (gI s 133 (ix v1)) = 3 then (((gI s 142 (ix v1)) * (gI s 145 (ix (gI s 132 (ix v1))))) / 20) else (if (20 : Int32) ≤ (gI s 145 (ix (gI s 132 (ix v1)))) then (gI s 142 (ix v1)) else (((gI s 142 (ix v1)) * (gI s 145 (ix (gI s 132 (ix v1))))) / 20))) (fun (x15 : Int32) => (lp_M_sweep_110 n (v1 + 1) (sI s 143 (ix v1) x15)))))
def okl_M_sweep_110  : Nat → Int32 → mS → Prop
  | 0, v1, s => False
  | n + 1, v1, s => (if (gI s 116 8) ≤ v1 then True else (mm_inb v1 40 = true ∧ (mm_inb (gI s 132 (ix v1)) 16 = true ∧ (mm_inb v1 40 = true ∧ ((if (gI s 133 (ix v1)) = 3 then (mm_inb v1 40 = true ∧ True) else (if (20 : Int32) ≤ (gI s 145 (ix (gI s 132 (ix v1)))) then (mm_inb v1 40 = true ∧ True) else (mm_inb v1 40 = true ∧ True))) ∧ mq_letP (if (gI s 133 (ix v1)) = 3 then (((gI s 142 (ix v1)) * (gI s 145 (ix (gI s 132 (ix v1))))) / 20) else (if (20 : Int32) ≤ (gI s 145 (ix (gI s 132 (ix v1)))) then (gI s 142 (ix v1)) else (((gI s 142 (ix v1)) * (gI s 145 (ix (gI s 132 (ix v1))))) / 20))) (fun (x15 : Int32) => (mm_inb v1 40 = true ∧ (okl_M_sweep_110 n (v1 + 1) (sI s 143 (ix v1) x15)))))))))
set_option maxRecDepth 4000 in
theorem tl_M_sweep_110 {len : Nat} {xs : Nat → Int32}  (d : Nat)   {T : Option mm_R} (K : Int32 × mS → Prop) (hX : ∀ r, K r → ∀ (o2 : Option Value) (o3 : Option Value), mm_fix (mm_X len xs) mm_Y (mm_call (mm_X len xs) mm_Y (d + 1)) (mm_look mc_M_sweep) (192, [some (.ref 116), some (.int r.1), o2, o3], [], mT r.2) = T) : ∀ (n : Nat), ∀ (v1 : Int32) (o2 : Option Value) (o3 : Option Value) (s : mS), okl_M_sweep_110 n v1 s → K (lp_M_sweep_110 n v1 s) → mm_fix (mm_X len xs) mm_Y (mm_call (mm_X len xs) mm_Y (d + 1)) (mm_look mc_M_sweep) (110, [some (.ref 116), some (.int v1), o2, o3], [], mT s) = T := by
  intro n
  induction n with
  | zero => intro v1 o2 o3 s; exact fun h => h.elim
  | succ n ih =>
    intro v1 o2 o3 s
    rw [okl_M_sweep_110, lp_M_sweep_110]
    refine w_go K 3 (c' := (115, [some (.ref 116), some (.int v1), o2, o3], [.int (gI s 116 8), .int v1], mT s)) rfl ?_
    refine w_ige K rfl (fun _ => ?_) (fun _ => ?_)
    · refine w_go K 0 (c' := (192, [some (.ref 116), some (.int v1), o2, o3], [], mT s)) rfl ?_
      exact fun _ b => hX _ b _ _
    · refine w_go K 5 (c' := (127, [some (.ref 116), some (.int v1), o2, o3], [.int v1, .ref 132, .ref 145], mT s)) rfl ?_
      refine w_ck K (st_iL rfl rfl) ?_
      refine w_go K 0 (c' := (128, [some (.ref 116), some (.int v1), o2, o3], [.int (gI s 132 (ix v1)), .ref 145], mT s)) rfl ?_
      refine w_ck K (st_iL rfl rfl) ?_
      refine w_go K 7 (c' := (140, [some (.ref 116), some (.int v1), some (.int (gI s 145 (ix (gI s 132 (ix v1))))), o3], [.int v1, .ref 133, .int v1, .ref 143], mT s)) rfl ?_
      refine w_ck K (st_iL rfl rfl) ?_
      refine w_go K 1 (c' := (142, [some (.ref 116), some (.int v1), some (.int (gI s 145 (ix (gI s 132 (ix v1))))), o3], [.int 3, .int (gI s 133 (ix v1)), .int v1, .ref 143], mT s)) rfl ?_
      refine w_join K (fun (x15 : Int32) => mm_fix (mm_X len xs) mm_Y (mm_call (mm_X len xs) mm_Y (d + 1)) (mm_look mc_M_sweep) (185, [some (.ref 116), some (.int v1), some (.int (gI s 145 (ix (gI s 132 (ix v1))))), o3], [.int x15, .int v1, .ref 143], mT s) = T) (fun K hJ => ?_) (fun x15 h1 h2 => ?_)
      · refine w_go K 0 (c' := (142, [some (.ref 116), some (.int v1), some (.int (gI s 145 (ix (gI s 132 (ix v1))))), o3], [.int 3, .int (gI s 133 (ix v1)), .int v1, .ref 143], mT s)) rfl ?_
        refine w_ine K rfl (fun _ => ?_) (fun _ => ?_)
        · refine w_go K 3 (c' := (150, [some (.ref 116), some (.int v1), some (.int (gI s 145 (ix (gI s 132 (ix v1))))), o3], [.int v1, .ref 142, .int v1, .ref 143], mT s)) rfl ?_
          refine w_ck K (st_iL rfl rfl) ?_
          refine w_go K 5 (c' := (185, [some (.ref 116), some (.int v1), some (.int (gI s 145 (ix (gI s 132 (ix v1))))), o3], [.int (((gI s 142 (ix v1)) * (gI s 145 (ix (gI s 132 (ix v1))))) / 20), .int v1, .ref 143], mT s)) rfl ?_
          exact fun _ h => hJ _ h
        · refine w_go K 2 (c' := (162, [some (.ref 116), some (.int v1), some (.int (gI s 145 (ix (gI s 132 (ix v1))))), o3], [.int 20, .int (gI s 145 (ix (gI s 132 (ix v1)))), .int v1, .ref 143], mT s)) rfl ?_
          refine w_ige K rfl (fun _ => ?_) (fun _ => ?_)
          · refine w_go K 3 (c' := (184, [some (.ref 116), some (.int v1), some (.int (gI s 145 (ix (gI s 132 (ix v1))))), o3], [.int v1, .ref 142, .int v1, .ref 143], mT s)) rfl ?_
            refine w_ck K (st_iL rfl rfl) ?_
            refine w_go K 0 (c' := (185, [some (.ref 116), some (.int v1), some (.int (gI s 145 (ix (gI s 132 (ix v1))))), o3], [.int (gI s 142 (ix v1)), .int v1, .ref 143], mT s)) rfl ?_
            exact fun _ h => hJ _ h
          · refine w_go K 3 (c' := (170, [some (.ref 116), some (.int v1), some (.int (gI s 145 (ix (gI s 132 (ix v1))))), o3], [.int v1, .ref 142, .int v1, .ref 143], mT s)) rfl ?_
            refine w_ck K (st_iL rfl rfl) ?_
            refine w_go K 5 (c' := (185, [some (.ref 116), some (.int v1), some (.int (gI s 145 (ix (gI s 132 (ix v1))))), o3], [.int (((gI s 142 (ix v1)) * (gI s 145 (ix (gI s 132 (ix v1))))) / 20), .int v1, .ref 143], mT s)) rfl ?_
            exact fun _ h => hJ _ h
      · revert h1 h2
        refine w_go K 0 (c' := (185, [some (.ref 116), some (.int v1), some (.int (gI s 145 (ix (gI s 132 (ix v1))))), o3], [.int x15, .int v1, .ref 143], mT s)) rfl ?_
        refine w_ck K (st_iS rfl rfl) ?_
        refine w_go K 2 (c' := (110, [some (.ref 116), some (.int (v1 + 1)), some (.int (gI s 145 (ix (gI s 132 (ix v1))))), o3], [], mT (sI s 143 (ix v1) x15))) rfl ?_
        exact fun a b => ih (v1 + 1) _ _ (sI s 143 (ix v1) x15) a b
def f_M_sweep  (s : mS) : mS := (mq_let (f_M_flows s) (fun (x10 : mS) => (mq_let (lp_M_sweep_16 mm_N (1 : Int32) (sI x10 145 0 (gI x10 116 11))) (fun (x12 : Int32 × mS) => (mq_let (lp_M_sweep_110 mm_N (0 : Int32) x12.2) (fun (x16 : Int32 × mS) => x16.2))))))
def ok_M_sweep  (s : mS) : Prop := (ok_M_flows s ∧ mq_letP (f_M_flows s) (fun (x10 : mS) => (okl_M_sweep_16 mm_N (1 : Int32) (sI x10 145 0 (gI x10 116 11)) ∧ mq_letP (lp_M_sweep_16 mm_N (1 : Int32) (sI x10 145 0 (gI x10 116 11))) (fun (x12 : Int32 × mS) => (okl_M_sweep_110 mm_N (0 : Int32) x12.2 ∧ mq_letP (lp_M_sweep_110 mm_N (0 : Int32) x12.2) (fun (x16 : Int32 × mS) => True))))))
set_option maxRecDepth 4000 in
theorem t_M_sweep {len : Nat} {xs : Nat → Int32}  (d : Nat)  (s : mS) {T : Option mm_R} (K : mS → Prop) (hK : ∀ t, K t → some (none, mT t) = T) : ok_M_sweep s → K (f_M_sweep s) → mm_fix (mm_X len xs) mm_Y (mm_call (mm_X len xs) mm_Y (d + 1)) (mm_look mc_M_sweep) (0, [some (.ref 116), none, none, none], [], mT s) = T := by
  unfold ok_M_sweep f_M_sweep
  refine w_go K 1 (c' := (1, [some (.ref 116), none, none, none], [.ref 116], mT s)) rfl ?_
  refine w_callL K (E := f_M_flows s) (g := fun (x10 : mS) => (none, mT x10)) rfl (m_M_flows (len := len) (xs := xs) (d + 0) s) (fun x10 => ?_)
  refine w_go K 8 (c' := (16, [some (.ref 116), some (.int 1), none, none], [], mT (sI x10 145 0 (gI x10 116 11)))) rfl ?_
  refine w_join K (fun (x12 : Int32 × mS) => ∀ (q13 : Option Value) (q14 : Option Value), mm_fix (mm_X len xs) mm_Y (mm_call (mm_X len xs) mm_Y (d + 1)) (mm_look mc_M_sweep) (108, [some (.ref 116), some (.int x12.1), q13, q14], [], mT x12.2) = T) (fun K hJ => tl_M_sweep_16 (len := len) (xs := xs) d (T := T) K hJ mm_N (1 : Int32) _ _ (sI x10 145 0 (gI x10 116 11))) (fun x12 h1 h2 q13 q14 => ?_)
  revert h1 h2
  refine w_go K 2 (c' := (110, [some (.ref 116), some (.int 0), q13, q14], [], mT x12.2)) rfl ?_
  refine w_join K (fun (x16 : Int32 × mS) => ∀ (q17 : Option Value) (q18 : Option Value), mm_fix (mm_X len xs) mm_Y (mm_call (mm_X len xs) mm_Y (d + 1)) (mm_look mc_M_sweep) (192, [some (.ref 116), some (.int x16.1), q17, q18], [], mT x16.2) = T) (fun K hJ => tl_M_sweep_110 (len := len) (xs := xs) d (T := T) K hJ mm_N (0 : Int32) _ _ x12.2) (fun x16 h1 h2 q17 q18 => ?_)
  revert h1 h2
  refine w_go K 0 (c' := (192, [some (.ref 116), some (.int x16.1), q17, q18], [], mT x16.2)) rfl ?_
  exact w_ret K rfl (hK _)
theorem m_M_sweep {len : Nat} {xs : Nat → Int32}  (d : Nat)  (s : mS) : ok_M_sweep s → mm_call (mm_X len xs) mm_Y (d + 2) 187 [.ref 116] (mT s) = some (none, mT (f_M_sweep s)) := fun h => t_M_sweep (len := len) (xs := xs) d s (fun t => (some (none, mT t) : Option mm_R) = some (none, mT (f_M_sweep s))) (fun _ h => h) h rfl
def lp_M_settles_2 (a1 : Int32) : Nat → Int32 → mS → Int32 × mS
  | 0, v2, s => (v2, s)
  | n + 1, v2, s => (if (gI s 116 8) ≤ v2 then (v2, s) else (mq_let (f_M_wants v2 a1 s) (fun (x10 : Int32) => (lp_M_settles_2 a1 n (v2 + 1) (sI (sI s 142 (ix v2) x10) 143 (ix v2) (gI (sI s 142 (ix v2) x10) 142 (ix v2)))))))
def okl_M_settles_2 (a1 : Int32) : Nat → Int32 → mS → Prop
  | 0, v2, s => False
  | n + 1, v2, s => (if (gI s 116 8) ≤ v2 then True else (ok_M_wants v2 a1 s ∧ mq_letP (f_M_wants v2 a1 s) (fun (x10 : Int32) => (mm_inb v2 40 = true ∧ (mm_inb v2 40 = true ∧ (mm_inb v2 40 = true ∧ (okl_M_settles_2 a1 n (v2 + 1) (sI (sI s 142 (ix v2) x10) 143 (ix v2) (gI (sI s 142 (ix v2) x10) 142 (ix v2))))))))))
set_option maxRecDepth 4000 in
theorem tl_M_settles_2 {len : Nat} {xs : Nat → Int32}  (d : Nat) (a1 : Int32)  {T : Option mm_R} (K : Int32 × mS → Prop) (hX : ∀ r, K r → ∀ (o3 : Option Value) (o4 : Option Value), mm_fix (mm_X len xs) mm_Y (mm_call (mm_X len xs) mm_Y (d + 3)) (mm_look mc_M_settles) (40, [some (.ref 116), some (.int a1), some (.int r.1), o3, o4], [], mT r.2) = T) : ∀ (n : Nat), ∀ (v2 : Int32) (o3 : Option Value) (o4 : Option Value) (s : mS), okl_M_settles_2 a1 n v2 s → K (lp_M_settles_2 a1 n v2 s) → mm_fix (mm_X len xs) mm_Y (mm_call (mm_X len xs) mm_Y (d + 3)) (mm_look mc_M_settles) (2, [some (.ref 116), some (.int a1), some (.int v2), o3, o4], [], mT s) = T := by
  intro n
  induction n with
  | zero => intro v2 o3 o4 s; exact fun h => h.elim
  | succ n ih =>
    intro v2 o3 o4 s
    rw [okl_M_settles_2, lp_M_settles_2]
    refine w_go K 3 (c' := (7, [some (.ref 116), some (.int a1), some (.int v2), o3, o4], [.int (gI s 116 8), .int v2], mT s)) rfl ?_
    refine w_ige K rfl (fun _ => ?_) (fun _ => ?_)
    · refine w_go K 0 (c' := (40, [some (.ref 116), some (.int a1), some (.int v2), o3, o4], [], mT s)) rfl ?_
      exact fun _ b => hX _ b _ _
    · refine w_go K 6 (c' := (18, [some (.ref 116), some (.int a1), some (.int v2), o3, o4], [.int a1, .int v2, .ref 116, .int v2, .ref 142], mT s)) rfl ?_
      refine w_callL K (E := f_M_wants v2 a1 s) (g := fun (x10 : Int32) => (some (.int x10), mT s)) rfl (m_M_wants (len := len) (xs := xs) (d + 0) v2 a1 s) (fun x10 => ?_)
      refine w_go K 0 (c' := (21, [some (.ref 116), some (.int a1), some (.int v2), o3, o4], [.int x10, .int v2, .ref 142], mT s)) rfl ?_
      refine w_ck K (st_iS rfl rfl) ?_
      refine w_go K 6 (c' := (32, [some (.ref 116), some (.int a1), some (.int v2), o3, o4], [.int v2, .ref 142, .int v2, .ref 143], mT (sI s 142 (ix v2) x10))) rfl ?_
      refine w_ck K (st_iL rfl rfl) ?_
      refine w_go K 0 (c' := (33, [some (.ref 116), some (.int a1), some (.int v2), o3, o4], [.int (gI (sI s 142 (ix v2) x10) 142 (ix v2)), .int v2, .ref 143], mT (sI s 142 (ix v2) x10))) rfl ?_
      refine w_ck K (st_iS rfl rfl) ?_
      refine w_go K 2 (c' := (2, [some (.ref 116), some (.int a1), some (.int (v2 + 1)), o3, o4], [], mT (sI (sI s 142 (ix v2) x10) 143 (ix v2) (gI (sI s 142 (ix v2) x10) 142 (ix v2))))) rfl ?_
      exact fun a b => ih (v2 + 1) _ _ (sI (sI s 142 (ix v2) x10) 143 (ix v2) (gI (sI s 142 (ix v2) x10) 142 (ix v2))) a b
def lp_M_settles_66 (a2 : Int32) : Nat → Int32 → Int32 → mS → Int32 × Int32 × mS
  | 0, v3, v4, s => (v3, v4, s)
  | n + 1, v3, v4, s => (if (gI s 116 7) ≤ v4 then (v3, v4, s) else (mq_let (if v3 = 0 then (0 : Int32) else (if (gI s 145 (ix v4)) = (gI s 146 (ix v4)) then (1 : Int32) else (0 : Int32))) (fun (x16 : Int32) => (lp_M_settles_66 a2 n x16 (v4 + 1) (sI s 146 (ix v4) (gI s 145 (ix v4)))))))
def okl_M_settles_66 (a2 : Int32) : Nat → Int32 → Int32 → mS → Prop
  | 0, v3, v4, s => False
  | n + 1, v3, v4, s => (if (gI s 116 7) ≤ v4 then True else ((if v3 = 0 then True else (mm_inb v4 16 = true ∧ (mm_inb v4 16 = true ∧ True))) ∧ mq_letP (if v3 = 0 then (0 : Int32) else (if (gI s 145 (ix v4)) = (gI s 146 (ix v4)) then (1 : Int32) else (0 : Int32))) (fun (x16 : Int32) => (mm_inb v4 16 = true ∧ (mm_inb v4 16 = true ∧ (okl_M_settles_66 a2 n x16 (v4 + 1) (sI s 146 (ix v4) (gI s 145 (ix v4)))))))))
set_option maxRecDepth 4000 in
theorem tl_M_settles_66 {len : Nat} {xs : Nat → Int32}  (d : Nat) (a2 : Int32)  {T : Option mm_R} (K : Int32 × Int32 × mS → Prop) (hX : ∀ r, K r → ∀ (o1 : Option Value), mm_fix (mm_X len xs) mm_Y (mm_call (mm_X len xs) mm_Y (d + 3)) (mm_look mc_M_settles) (122, [some (.ref 116), o1, some (.int a2), some (.int r.1), some (.int r.2.1)], [], mT r.2.2) = T) : ∀ (n : Nat), ∀ (v3 : Int32) (v4 : Int32) (o1 : Option Value) (s : mS), okl_M_settles_66 a2 n v3 v4 s → K (lp_M_settles_66 a2 n v3 v4 s) → mm_fix (mm_X len xs) mm_Y (mm_call (mm_X len xs) mm_Y (d + 3)) (mm_look mc_M_settles) (66, [some (.ref 116), o1, some (.int a2), some (.int v3), some (.int v4)], [], mT s) = T := by
  intro n
  induction n with
  | zero => intro v3 v4 o1 s; exact fun h => h.elim
  | succ n ih =>
    intro v3 v4 o1 s
    rw [okl_M_settles_66, lp_M_settles_66]
    refine w_go K 3 (c' := (72, [some (.ref 116), o1, some (.int a2), some (.int v3), some (.int v4)], [.int (gI s 116 7), .int v4], mT s)) rfl ?_
    refine w_ige K rfl (fun _ => ?_) (fun _ => ?_)
    · refine w_go K 0 (c' := (122, [some (.ref 116), o1, some (.int a2), some (.int v3), some (.int v4)], [], mT s)) rfl ?_
      exact fun _ b => hX _ b _
    · refine w_go K 1 (c' := (76, [some (.ref 116), o1, some (.int a2), some (.int v3), some (.int v4)], [.int v3], mT s)) rfl ?_
      refine w_join K (fun (x16 : Int32) => mm_fix (mm_X len xs) mm_Y (mm_call (mm_X len xs) mm_Y (d + 3)) (mm_look mc_M_settles) (101, [some (.ref 116), o1, some (.int a2), some (.int v3), some (.int v4)], [.int x16], mT s) = T) (fun K hJ => ?_) (fun x16 h1 h2 => ?_)
      · refine w_go K 0 (c' := (76, [some (.ref 116), o1, some (.int a2), some (.int v3), some (.int v4)], [.int v3], mT s)) rfl ?_
        refine w_zeq K rfl (fun _ => ?_) (fun _ => ?_)
        · refine w_go K 1 (c' := (101, [some (.ref 116), o1, some (.int a2), some (.int v3), some (.int v4)], [.int 0], mT s)) rfl ?_
          exact fun _ h => hJ _ h
        · refine w_go K 3 (c' := (85, [some (.ref 116), o1, some (.int a2), some (.int v3), some (.int v4)], [.int v4, .ref 145], mT s)) rfl ?_
          refine w_ck K (st_iL rfl rfl) ?_
          refine w_go K 3 (c' := (92, [some (.ref 116), o1, some (.int a2), some (.int v3), some (.int v4)], [.int v4, .ref 146, .int (gI s 145 (ix v4))], mT s)) rfl ?_
          refine w_ck K (st_iL rfl rfl) ?_
          refine w_go K 0 (c' := (93, [some (.ref 116), o1, some (.int a2), some (.int v3), some (.int v4)], [.int (gI s 146 (ix v4)), .int (gI s 145 (ix v4))], mT s)) rfl ?_
          refine w_ineT K rfl (fun _ => ?_) (fun _ => ?_)
          · refine w_go K 2 (c' := (101, [some (.ref 116), o1, some (.int a2), some (.int v3), some (.int v4)], [.int 1], mT s)) rfl ?_
            exact fun _ h => hJ _ h
          · refine w_go K 1 (c' := (101, [some (.ref 116), o1, some (.int a2), some (.int v3), some (.int v4)], [.int 0], mT s)) rfl ?_
            exact fun _ h => hJ _ h
      · revert h1 h2
        refine w_go K 7 (c' := (114, [some (.ref 116), o1, some (.int a2), some (.int x16), some (.int v4)], [.int v4, .ref 145, .int v4, .ref 146], mT s)) rfl ?_
        refine w_ck K (st_iL rfl rfl) ?_
        refine w_go K 0 (c' := (115, [some (.ref 116), o1, some (.int a2), some (.int x16), some (.int v4)], [.int (gI s 145 (ix v4)), .int v4, .ref 146], mT s)) rfl ?_
        refine w_ck K (st_iS rfl rfl) ?_
        refine w_go K 2 (c' := (66, [some (.ref 116), o1, some (.int a2), some (.int x16), some (.int (v4 + 1))], [], mT (sI s 146 (ix v4) (gI s 145 (ix v4))))) rfl ?_
        exact fun a b => ih x16 (v4 + 1) _ (sI s 146 (ix v4) (gI s 145 (ix v4))) a b
def lp_M_settles_42  : Nat → Int32 → mS → Option Int32 × Int32 × mS
  | 0, v2, s => (none, v2, s)
  | n + 1, v2, s => (if (12 : Int32) < v2 then (none, v2, s) else (mq_let (f_M_sweep s) (fun (x14 : mS) => (mq_let (if v2 ≤ 1 then (0 : Int32) else (1 : Int32)) (fun (x15 : Int32) => (mq_let (lp_M_settles_66 v2 mm_N x15 (0 : Int32) x14) (fun (x17 : Int32 × Int32 × mS) => (if x17.1 = 0 then (lp_M_settles_42 n (v2 + 1) x17.2.2) else (some (1 : Int32), v2, x17.2.2)))))))))
def okl_M_settles_42  : Nat → Int32 → mS → Prop
  | 0, v2, s => False
  | n + 1, v2, s => (if (12 : Int32) < v2 then True else (ok_M_sweep s ∧ mq_letP (f_M_sweep s) (fun (x14 : mS) => (True ∧ mq_letP (if v2 ≤ 1 then (0 : Int32) else (1 : Int32)) (fun (x15 : Int32) => (okl_M_settles_66 v2 mm_N x15 (0 : Int32) x14 ∧ mq_letP (lp_M_settles_66 v2 mm_N x15 (0 : Int32) x14) (fun (x17 : Int32 × Int32 × mS) => (if x17.1 = 0 then (okl_M_settles_42 n (v2 + 1) x17.2.2) else True))))))))
set_option maxRecDepth 4000 in
theorem tl_M_settles_42 {len : Nat} {xs : Nat → Int32}  (d : Nat)   {T : Option mm_R} (K : Option Int32 × Int32 × mS → Prop) (hX : ∀ r, K r → r.1 = none → ∀ (o1 : Option Value) (o3 : Option Value) (o4 : Option Value), mm_fix (mm_X len xs) mm_Y (mm_call (mm_X len xs) mm_Y (d + 3)) (mm_look mc_M_settles) (134, [some (.ref 116), o1, some (.int r.2.1), o3, o4], [], mT r.2.2) = T) (hR : ∀ r, K r → ∀ v, r.1 = some v → some (some (.int v), mT r.2.2) = T) : ∀ (n : Nat), ∀ (v2 : Int32) (o1 : Option Value) (o3 : Option Value) (o4 : Option Value) (s : mS), okl_M_settles_42 n v2 s → K (lp_M_settles_42 n v2 s) → mm_fix (mm_X len xs) mm_Y (mm_call (mm_X len xs) mm_Y (d + 3)) (mm_look mc_M_settles) (42, [some (.ref 116), o1, some (.int v2), o3, o4], [], mT s) = T := by
  intro n
  induction n with
  | zero => intro v2 o1 o3 o4 s; exact fun h => h.elim
  | succ n ih =>
    intro v2 o1 o3 o4 s
    rw [okl_M_settles_42, lp_M_settles_42]
    refine w_go K 2 (c' := (45, [some (.ref 116), o1, some (.int v2), o3, o4], [.int 12, .int v2], mT s)) rfl ?_
    refine w_igt K rfl (fun _ => ?_) (fun _ => ?_)
    · refine w_go K 0 (c' := (134, [some (.ref 116), o1, some (.int v2), o3, o4], [], mT s)) rfl ?_
      exact fun _ b => hX _ b rfl _ _ _
    · refine w_go K 1 (c' := (49, [some (.ref 116), o1, some (.int v2), o3, o4], [.ref 116], mT s)) rfl ?_
      refine w_callL K (E := f_M_sweep s) (g := fun (x14 : mS) => (none, mT x14)) rfl (m_M_sweep (len := len) (xs := xs) (d + 1) s) (fun x14 => ?_)
      refine w_go K 2 (c' := (54, [some (.ref 116), o1, some (.int v2), o3, o4], [.int 1, .int v2], mT x14)) rfl ?_
      refine w_join K (fun (x15 : Int32) => mm_fix (mm_X len xs) mm_Y (mm_call (mm_X len xs) mm_Y (d + 3)) (mm_look mc_M_settles) (62, [some (.ref 116), o1, some (.int v2), o3, o4], [.int x15], mT x14) = T) (fun K hJ => ?_) (fun x15 h1 h2 => ?_)
      · refine w_go K 0 (c' := (54, [some (.ref 116), o1, some (.int v2), o3, o4], [.int 1, .int v2], mT x14)) rfl ?_
        refine w_ileT K rfl (fun _ => ?_) (fun _ => ?_)
        · refine w_go K 1 (c' := (62, [some (.ref 116), o1, some (.int v2), o3, o4], [.int 0], mT x14)) rfl ?_
          exact fun _ h => hJ _ h
        · refine w_go K 2 (c' := (62, [some (.ref 116), o1, some (.int v2), o3, o4], [.int 1], mT x14)) rfl ?_
          exact fun _ h => hJ _ h
      · revert h1 h2
        refine w_go K 3 (c' := (66, [some (.ref 116), o1, some (.int v2), some (.int x15), some (.int 0)], [], mT x14)) rfl ?_
        refine w_join K (fun (x17 : Int32 × Int32 × mS) => ∀ (q18 : Option Value), mm_fix (mm_X len xs) mm_Y (mm_call (mm_X len xs) mm_Y (d + 3)) (mm_look mc_M_settles) (122, [some (.ref 116), q18, some (.int v2), some (.int x17.1), some (.int x17.2.1)], [], mT x17.2.2) = T) (fun K hJ => tl_M_settles_66 (len := len) (xs := xs) d v2 (T := T) K hJ mm_N x15 (0 : Int32) _ x14) (fun x17 h1 h2 q18 => ?_)
        revert h1 h2
        refine w_go K 1 (c' := (123, [some (.ref 116), q18, some (.int v2), some (.int x17.1), some (.int x17.2.1)], [.int x17.1], mT x17.2.2)) rfl ?_
        refine w_zeq K rfl (fun _ => ?_) (fun _ => ?_)
        · refine w_go K 2 (c' := (42, [some (.ref 116), (mm_cut q18 0), some (.int (v2 + 1)), some (.int x17.1), some (.int x17.2.1)], [], mT x17.2.2)) rfl ?_
          exact fun a b => ih (v2 + 1) _ _ _ x17.2.2 a b
        · refine w_go K 1 (c' := (127, [some (.ref 116), q18, some (.int v2), some (.int x17.1), some (.int x17.2.1)], [.int 1], mT x17.2.2)) rfl ?_
          exact w_ret K rfl (fun h => hR _ h _ rfl)
def f_M_settles (a1 : Int32) (s : mS) : Int32 × mS := (mq_let (lp_M_settles_2 a1 mm_N (0 : Int32) s) (fun (x11 : Int32 × mS) => (mq_let (lp_M_settles_42 mm_N (1 : Int32) x11.2) (fun (x19 : Option Int32 × Int32 × mS) => mq_el x19.1 (fun v => (v, x19.2.2)) (0, x19.2.2)))))
def ok_M_settles (a1 : Int32) (s : mS) : Prop := (okl_M_settles_2 a1 mm_N (0 : Int32) s ∧ mq_letP (lp_M_settles_2 a1 mm_N (0 : Int32) s) (fun (x11 : Int32 × mS) => (okl_M_settles_42 mm_N (1 : Int32) x11.2 ∧ mq_letP (lp_M_settles_42 mm_N (1 : Int32) x11.2) (fun (x19 : Option Int32 × Int32 × mS) => mq_elP x19.1 True))))
set_option maxRecDepth 4000 in
theorem t_M_settles {len : Nat} {xs : Nat → Int32}  (d : Nat) (a1 : Int32) (s : mS) {T : Option mm_R} (K : Int32 × mS → Prop) (hK : ∀ t, K t → some (some (.int t.1), mT t.2) = T) : ok_M_settles a1 s → K (f_M_settles a1 s) → mm_fix (mm_X len xs) mm_Y (mm_call (mm_X len xs) mm_Y (d + 3)) (mm_look mc_M_settles) (0, [some (.ref 116), some (.int a1), none, none, none], [], mT s) = T := by
  unfold ok_M_settles f_M_settles
  refine w_go K 2 (c' := (2, [some (.ref 116), some (.int a1), some (.int 0), none, none], [], mT s)) rfl ?_
  refine w_join K (fun (x11 : Int32 × mS) => ∀ (q12 : Option Value) (q13 : Option Value), mm_fix (mm_X len xs) mm_Y (mm_call (mm_X len xs) mm_Y (d + 3)) (mm_look mc_M_settles) (40, [some (.ref 116), some (.int a1), some (.int x11.1), q12, q13], [], mT x11.2) = T) (fun K hJ => tl_M_settles_2 (len := len) (xs := xs) d a1 (T := T) K hJ mm_N (0 : Int32) _ _ s) (fun x11 h1 h2 q12 q13 => ?_)
  revert h1 h2
  refine w_go K 2 (c' := (42, [some (.ref 116), some (.int a1), some (.int 1), q12, q13], [], mT x11.2)) rfl ?_
  refine w_join K (fun (x19 : Option Int32 × Int32 × mS) => (x19.1 = none → ∀ (q20 : Option Value) (q21 : Option Value) (q22 : Option Value), mm_fix (mm_X len xs) mm_Y (mm_call (mm_X len xs) mm_Y (d + 3)) (mm_look mc_M_settles) (134, [some (.ref 116), q20, some (.int x19.2.1), q21, q22], [], mT x19.2.2) = T) ∧ (∀ v, x19.1 = some v → some (some (.int v), mT x19.2.2) = T)) (fun K hJ => tl_M_settles_42 (len := len) (xs := xs) d (T := T) K (fun r hr => (hJ r hr).1) (fun r hr => (hJ r hr).2) mm_N (1 : Int32) _ _ _ x11.2) (fun x19 h1 h2 => w_el K (fun v hv h => hK _ h) (fun h1 h2 q20 q21 q22 => ?_) h1 h2)
  revert h1 h2
  refine w_go K 1 (c' := (135, [some (.ref 116), q20, some (.int x19.2.1), q21, q22], [.int 0], mT x19.2.2)) rfl ?_
  exact w_ret K rfl (hK _)
theorem m_M_settles {len : Nat} {xs : Nat → Int32}  (d : Nat) (a1 : Int32) (s : mS) : ok_M_settles a1 s → mm_call (mm_X len xs) mm_Y (d + 4) 183 [.ref 116, .int a1] (mT s) = some (some (.int (f_M_settles a1 s).1), mT (f_M_settles a1 s).2) := fun h => t_M_settles (len := len) (xs := xs) d a1 s (fun t => (some (some (.int t.1), mT t.2) : Option mm_R) = some (some (.int (f_M_settles a1 s).1), mT (f_M_settles a1 s).2)) (fun _ h => h) h rfl
