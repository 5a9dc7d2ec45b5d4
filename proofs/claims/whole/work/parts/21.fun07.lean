/-! FUNCTIONS OF METHODS, by program: f_ what it does, ok_ that no row fails, m_ the small machine does so. -/
def lp_Books_know_2 (a1 : Int32) : Nat → Int32 → mS → Int32 × mS
  | 0, v2, s => (v2, s)
  | n + 1, v2, s => (if (gI s 82 8) ≤ v2 then (v2, s) else (if (200 : Int32) ≤ v2 then (v2, s) else (lp_Books_know_2 a1 n (v2 + 1) (sI s 89 (ix v2) (gI s 87 (ix v2))))))
def okl_Books_know_2 (a1 : Int32) : Nat → Int32 → mS → Prop
  | 0, v2, s => False
  | n + 1, v2, s => (if (gI s 82 8) ≤ v2 then True else (if (200 : Int32) ≤ v2 then True else (mm_inb v2 200 = true ∧ (mm_inb v2 200 = true ∧ (okl_Books_know_2 a1 n (v2 + 1) (sI s 89 (ix v2) (gI s 87 (ix v2))))))))
set_option maxRecDepth 4000 in
theorem tl_Books_know_2 {len : Nat} {xs : Nat → Int32}  (d : Nat) (a1 : Int32)  {T : Option mm_R} (K : Int32 × mS → Prop) (hX : ∀ r, K r → ∀ (o3 : Option Value), mm_fix (mm_X len xs) mm_Y (mm_call (mm_X len xs) mm_Y (d + 1)) (mm_look mc_Books_know) (35, [some (.ref 82), some (.int a1), some (.int r.1), o3], [], mT r.2) = T) : ∀ (n : Nat), ∀ (v2 : Int32) (o3 : Option Value) (s : mS), okl_Books_know_2 a1 n v2 s → K (lp_Books_know_2 a1 n v2 s) → mm_fix (mm_X len xs) mm_Y (mm_call (mm_X len xs) mm_Y (d + 1)) (mm_look mc_Books_know) (2, [some (.ref 82), some (.int a1), some (.int v2), o3], [], mT s) = T := by
  intro n
  induction n with
  | zero => intro v2 o3 s; exact fun h => h.elim
  | succ n ih =>
    intro v2 o3 s
    rw [okl_Books_know_2, lp_Books_know_2]
    refine w_go K 3 (c' := (7, [some (.ref 82), some (.int a1), some (.int v2), o3], [.int (gI s 82 8), .int v2], mT s)) rfl ?_
    refine w_ige K rfl (fun _ => ?_) (fun _ => ?_)
    · refine w_go K 0 (c' := (35, [some (.ref 82), some (.int a1), some (.int v2), o3], [], mT s)) rfl ?_
      exact fun _ b => hX _ b _
    · refine w_go K 2 (c' := (14, [some (.ref 82), some (.int a1), some (.int v2), o3], [.int 200, .int v2], mT s)) rfl ?_
      refine w_ige K rfl (fun _ => ?_) (fun _ => ?_)
      · refine w_go K 0 (c' := (35, [some (.ref 82), some (.int a1), some (.int v2), o3], [], mT s)) rfl ?_
        exact fun _ b => hX _ b _
      · refine w_go K 6 (c' := (27, [some (.ref 82), some (.int a1), some (.int v2), o3], [.int v2, .ref 87, .int v2, .ref 89], mT s)) rfl ?_
        refine w_ck K (st_iL rfl rfl) ?_
        refine w_go K 0 (c' := (28, [some (.ref 82), some (.int a1), some (.int v2), o3], [.int (gI s 87 (ix v2)), .int v2, .ref 89], mT s)) rfl ?_
        refine w_ck K (st_iS rfl rfl) ?_
        refine w_go K 2 (c' := (2, [some (.ref 82), some (.int a1), some (.int (v2 + 1)), o3], [], mT (sI s 89 (ix v2) (gI s 87 (ix v2))))) rfl ?_
        exact fun a b => ih (v2 + 1) _ (sI s 89 (ix v2) (gI s 87 (ix v2))) a b
def lp_Books_know_37 (a1 : Int32) : Nat → Int32 → mS → Int32 × mS
  | 0, v2, s => (v2, s)
  | n + 1, v2, s => (if (gI s 82 12) ≤ v2 then (v2, s) else (if (100 : Int32) ≤ v2 then (v2, s) else (if a1 < (gI s 93 (ix v2)) then (lp_Books_know_37 a1 n (v2 + 1) s) else (if (gI s 91 (ix v2)) < 0 then (lp_Books_know_37 a1 n (v2 + 1) s) else (if (gI s 82 8) ≤ (gI s 91 (ix v2)) then (lp_Books_know_37 a1 n (v2 + 1) s) else (lp_Books_know_37 a1 n (v2 + 1) (sI s 89 (ix (gI s 91 (ix v2))) (gI s 92 (ix v2)))))))))
def okl_Books_know_37 (a1 : Int32) : Nat → Int32 → mS → Prop
  | 0, v2, s => False
  | n + 1, v2, s => (if (gI s 82 12) ≤ v2 then True else (if (100 : Int32) ≤ v2 then True else (mm_inb v2 100 = true ∧ (mm_inb v2 100 = true ∧ (if a1 < (gI s 93 (ix v2)) then (okl_Books_know_37 a1 n (v2 + 1) s) else (if (gI s 91 (ix v2)) < 0 then (okl_Books_know_37 a1 n (v2 + 1) s) else (if (gI s 82 8) ≤ (gI s 91 (ix v2)) then (okl_Books_know_37 a1 n (v2 + 1) s) else (mm_inb v2 100 = true ∧ (mm_inb (gI s 91 (ix v2)) 200 = true ∧ (okl_Books_know_37 a1 n (v2 + 1) (sI s 89 (ix (gI s 91 (ix v2))) (gI s 92 (ix v2)))))))))))))
set_option maxRecDepth 4000 in
theorem tl_Books_know_37 {len : Nat} {xs : Nat → Int32}  (d : Nat) (a1 : Int32)  {T : Option mm_R} (K : Int32 × mS → Prop) (hX : ∀ r, K r → ∀ (o3 : Option Value), mm_fix (mm_X len xs) mm_Y (mm_call (mm_X len xs) mm_Y (d + 1)) (mm_look mc_Books_know) (98, [some (.ref 82), some (.int a1), some (.int r.1), o3], [], mT r.2) = T) : ∀ (n : Nat), ∀ (v2 : Int32) (o3 : Option Value) (s : mS), okl_Books_know_37 a1 n v2 s → K (lp_Books_know_37 a1 n v2 s) → mm_fix (mm_X len xs) mm_Y (mm_call (mm_X len xs) mm_Y (d + 1)) (mm_look mc_Books_know) (37, [some (.ref 82), some (.int a1), some (.int v2), o3], [], mT s) = T := by
  intro n
  induction n with
  | zero => intro v2 o3 s; exact fun h => h.elim
  | succ n ih =>
    intro v2 o3 s
    rw [okl_Books_know_37, lp_Books_know_37]
    refine w_go K 3 (c' := (42, [some (.ref 82), some (.int a1), some (.int v2), o3], [.int (gI s 82 12), .int v2], mT s)) rfl ?_
    refine w_ige K rfl (fun _ => ?_) (fun _ => ?_)
    · refine w_go K 0 (c' := (98, [some (.ref 82), some (.int a1), some (.int v2), o3], [], mT s)) rfl ?_
      exact fun _ b => hX _ b _
    · refine w_go K 2 (c' := (48, [some (.ref 82), some (.int a1), some (.int v2), o3], [.int 100, .int v2], mT s)) rfl ?_
      refine w_ige K rfl (fun _ => ?_) (fun _ => ?_)
      · refine w_go K 0 (c' := (98, [some (.ref 82), some (.int a1), some (.int v2), o3], [], mT s)) rfl ?_
        exact fun _ b => hX _ b _
      · refine w_go K 3 (c' := (56, [some (.ref 82), some (.int a1), some (.int v2), o3], [.int v2, .ref 91], mT s)) rfl ?_
        refine w_ck K (st_iL rfl rfl) ?_
        refine w_go K 4 (c' := (63, [some (.ref 82), some (.int a1), some (.int v2), some (.int (gI s 91 (ix v2)))], [.int v2, .ref 93], mT s)) rfl ?_
        refine w_ck K (st_iL rfl rfl) ?_
        refine w_go K 1 (c' := (65, [some (.ref 82), some (.int a1), some (.int v2), some (.int (gI s 91 (ix v2)))], [.int a1, .int (gI s 93 (ix v2))], mT s)) rfl ?_
        refine w_igt K rfl (fun _ => ?_) (fun _ => ?_)
        · refine w_go K 2 (c' := (37, [some (.ref 82), some (.int a1), some (.int (v2 + 1)), some (.int (gI s 91 (ix v2)))], [], mT s)) rfl ?_
          exact fun a b => ih (v2 + 1) _ s a b
        · refine w_go K 1 (c' := (69, [some (.ref 82), some (.int a1), some (.int v2), some (.int (gI s 91 (ix v2)))], [.int (gI s 91 (ix v2))], mT s)) rfl ?_
          refine w_zlt K rfl (fun _ => ?_) (fun _ => ?_)
          · refine w_go K 2 (c' := (37, [some (.ref 82), some (.int a1), some (.int (v2 + 1)), some (.int (gI s 91 (ix v2)))], [], mT s)) rfl ?_
            exact fun a b => ih (v2 + 1) _ s a b
          · refine w_go K 3 (c' := (77, [some (.ref 82), some (.int a1), some (.int v2), some (.int (gI s 91 (ix v2)))], [.int (gI s 82 8), .int (gI s 91 (ix v2))], mT s)) rfl ?_
            refine w_ige K rfl (fun _ => ?_) (fun _ => ?_)
            · refine w_go K 2 (c' := (37, [some (.ref 82), some (.int a1), some (.int (v2 + 1)), some (.int (gI s 91 (ix v2)))], [], mT s)) rfl ?_
              exact fun a b => ih (v2 + 1) _ s a b
            · refine w_go K 6 (c' := (90, [some (.ref 82), some (.int a1), some (.int v2), some (.int (gI s 91 (ix v2)))], [.int v2, .ref 92, .int (gI s 91 (ix v2)), .ref 89], mT s)) rfl ?_
              refine w_ck K (st_iL rfl rfl) ?_
              refine w_go K 0 (c' := (91, [some (.ref 82), some (.int a1), some (.int v2), some (.int (gI s 91 (ix v2)))], [.int (gI s 92 (ix v2)), .int (gI s 91 (ix v2)), .ref 89], mT s)) rfl ?_
              refine w_ck K (st_iS rfl rfl) ?_
              refine w_go K 2 (c' := (37, [some (.ref 82), some (.int a1), some (.int (v2 + 1)), some (.int (gI s 91 (ix v2)))], [], mT (sI s 89 (ix (gI s 91 (ix v2))) (gI s 92 (ix v2))))) rfl ?_
              exact fun a b => ih (v2 + 1) _ (sI s 89 (ix (gI s 91 (ix v2))) (gI s 92 (ix v2))) a b
def lp_Books_know_100  : Nat → Int32 → mS → Int32 × mS
  | 0, v2, s => (v2, s)
  | n + 1, v2, s => (if (gI s 82 8) ≤ v2 then (v2, s) else (if (200 : Int32) ≤ v2 then (v2, s) else (mq_let (f_Books_unitsOf v2 s) (fun (x14 : Int64) => (lp_Books_know_100 n (v2 + 1) (sL s 90 (ix v2) x14))))))
def okl_Books_know_100  : Nat → Int32 → mS → Prop
  | 0, v2, s => False
  | n + 1, v2, s => (if (gI s 82 8) ≤ v2 then True else (if (200 : Int32) ≤ v2 then True else (ok_Books_unitsOf v2 s ∧ mq_letP (f_Books_unitsOf v2 s) (fun (x14 : Int64) => (mm_inb v2 200 = true ∧ (okl_Books_know_100 n (v2 + 1) (sL s 90 (ix v2) x14)))))))
set_option maxRecDepth 4000 in
theorem tl_Books_know_100 {len : Nat} {xs : Nat → Int32}  (d : Nat)   {T : Option mm_R} (K : Int32 × mS → Prop) (hX : ∀ r, K r → ∀ (o1 : Option Value) (o3 : Option Value), mm_fix (mm_X len xs) mm_Y (mm_call (mm_X len xs) mm_Y (d + 1)) (mm_look mc_Books_know) (132, [some (.ref 82), o1, some (.int r.1), o3], [], mT r.2) = T) : ∀ (n : Nat), ∀ (v2 : Int32) (o1 : Option Value) (o3 : Option Value) (s : mS), okl_Books_know_100 n v2 s → K (lp_Books_know_100 n v2 s) → mm_fix (mm_X len xs) mm_Y (mm_call (mm_X len xs) mm_Y (d + 1)) (mm_look mc_Books_know) (100, [some (.ref 82), o1, some (.int v2), o3], [], mT s) = T := by
  intro n
  induction n with
  | zero => intro v2 o1 o3 s; exact fun h => h.elim
  | succ n ih =>
    intro v2 o1 o3 s
    rw [okl_Books_know_100, lp_Books_know_100]
    refine w_go K 3 (c' := (105, [some (.ref 82), o1, some (.int v2), o3], [.int (gI s 82 8), .int v2], mT s)) rfl ?_
    refine w_ige K rfl (fun _ => ?_) (fun _ => ?_)
    · refine w_go K 0 (c' := (132, [some (.ref 82), o1, some (.int v2), o3], [], mT s)) rfl ?_
      exact fun _ b => hX _ b _ _
    · refine w_go K 2 (c' := (112, [some (.ref 82), o1, some (.int v2), o3], [.int 200, .int v2], mT s)) rfl ?_
      refine w_ige K rfl (fun _ => ?_) (fun _ => ?_)
      · refine w_go K 0 (c' := (132, [some (.ref 82), o1, some (.int v2), o3], [], mT s)) rfl ?_
        exact fun _ b => hX _ b _ _
      · refine w_go K 5 (c' := (122, [some (.ref 82), o1, some (.int v2), o3], [.int v2, .ref 82, .int v2, .ref 90], mT s)) rfl ?_
        refine w_callL K (E := f_Books_unitsOf v2 s) (g := fun (x14 : Int64) => (some (.long x14), mT s)) rfl (m_Books_unitsOf (len := len) (xs := xs) (d + 0) v2 s) (fun x14 => ?_)
        refine w_go K 0 (c' := (125, [some (.ref 82), o1, some (.int v2), o3], [.long x14, .int v2, .ref 90], mT s)) rfl ?_
        refine w_ck K (st_lS rfl rfl) ?_
        refine w_go K 2 (c' := (100, [some (.ref 82), (mm_cut o1 0), some (.int (v2 + 1)), o3], [], mT (sL s 90 (ix v2) x14))) rfl ?_
        exact fun a b => ih (v2 + 1) _ _ (sL s 90 (ix v2) x14) a b
def f_Books_know (a1 : Int32) (s : mS) : mS := (mq_let (lp_Books_know_2 a1 mm_N (0 : Int32) s) (fun (x10 : Int32 × mS) => (mq_let (lp_Books_know_37 a1 mm_N (0 : Int32) x10.2) (fun (x12 : Int32 × mS) => (mq_let (lp_Books_know_100 mm_N (0 : Int32) x12.2) (fun (x15 : Int32 × mS) => x15.2))))))
def ok_Books_know (a1 : Int32) (s : mS) : Prop := (okl_Books_know_2 a1 mm_N (0 : Int32) s ∧ mq_letP (lp_Books_know_2 a1 mm_N (0 : Int32) s) (fun (x10 : Int32 × mS) => (okl_Books_know_37 a1 mm_N (0 : Int32) x10.2 ∧ mq_letP (lp_Books_know_37 a1 mm_N (0 : Int32) x10.2) (fun (x12 : Int32 × mS) => (okl_Books_know_100 mm_N (0 : Int32) x12.2 ∧ mq_letP (lp_Books_know_100 mm_N (0 : Int32) x12.2) (fun (x15 : Int32 × mS) => True))))))
set_option maxRecDepth 4000 in
theorem t_Books_know {len : Nat} {xs : Nat → Int32}  (d : Nat) (a1 : Int32) (s : mS) {T : Option mm_R} (K : mS → Prop) (hK : ∀ t, K t → some (none, mT t) = T) : ok_Books_know a1 s → K (f_Books_know a1 s) → mm_fix (mm_X len xs) mm_Y (mm_call (mm_X len xs) mm_Y (d + 1)) (mm_look mc_Books_know) (0, [some (.ref 82), some (.int a1), none, none], [], mT s) = T := by
  unfold ok_Books_know f_Books_know
  refine w_go K 2 (c' := (2, [some (.ref 82), some (.int a1), some (.int 0), none], [], mT s)) rfl ?_
  refine w_join K (fun (x10 : Int32 × mS) => ∀ (q11 : Option Value), mm_fix (mm_X len xs) mm_Y (mm_call (mm_X len xs) mm_Y (d + 1)) (mm_look mc_Books_know) (35, [some (.ref 82), some (.int a1), some (.int x10.1), q11], [], mT x10.2) = T) (fun K hJ => tl_Books_know_2 (len := len) (xs := xs) d a1 (T := T) K hJ mm_N (0 : Int32) _ s) (fun x10 h1 h2 q11 => ?_)
  revert h1 h2
  refine w_go K 2 (c' := (37, [some (.ref 82), some (.int a1), some (.int 0), q11], [], mT x10.2)) rfl ?_
  refine w_join K (fun (x12 : Int32 × mS) => ∀ (q13 : Option Value), mm_fix (mm_X len xs) mm_Y (mm_call (mm_X len xs) mm_Y (d + 1)) (mm_look mc_Books_know) (98, [some (.ref 82), some (.int a1), some (.int x12.1), q13], [], mT x12.2) = T) (fun K hJ => tl_Books_know_37 (len := len) (xs := xs) d a1 (T := T) K hJ mm_N (0 : Int32) _ x10.2) (fun x12 h1 h2 q13 => ?_)
  revert h1 h2
  refine w_go K 2 (c' := (100, [some (.ref 82), some (.int a1), some (.int 0), q13], [], mT x12.2)) rfl ?_
  refine w_join K (fun (x15 : Int32 × mS) => ∀ (q16 : Option Value) (q17 : Option Value), mm_fix (mm_X len xs) mm_Y (mm_call (mm_X len xs) mm_Y (d + 1)) (mm_look mc_Books_know) (132, [some (.ref 82), q16, some (.int x15.1), q17], [], mT x15.2) = T) (fun K hJ => tl_Books_know_100 (len := len) (xs := xs) d (T := T) K hJ mm_N (0 : Int32) _ _ x12.2) (fun x15 h1 h2 q16 q17 => ?_)
  revert h1 h2
  refine w_go K 0 (c' := (132, [some (.ref 82), q16, some (.int x15.1), q17], [], mT x15.2)) rfl ?_
  exact w_ret K rfl (hK _)
theorem m_Books_know {len : Nat} {xs : Nat → Int32}  (d : Nat) (a1 : Int32) (s : mS) : ok_Books_know a1 s → mm_call (mm_X len xs) mm_Y (d + 2) 76 [.ref 82, .int a1] (mT s) = some (none, mT (f_Books_know a1 s)) := fun h => t_Books_know (len := len) (xs := xs) d a1 s (fun t => (some (none, mT t) : Option mm_R) = some (none, mT (f_Books_know a1 s))) (fun _ h => h) h rfl
def f_G_billOf (a1 : Int32) (s : mS) : Int64 × mS := (if (gI s 85 (ix a1)) = (-1) then (0, s) else (mq_let (f_Laws_judge (2 : Int32) (gI s 86 (ix a1)) (0 : Int32) s) (fun (x10 : mS) => (((gL x10 90 (ix a1)) * (Int32.toInt64 (if (if (0 : Int32) < (gI x10 36 8) then (gI x10 36 8) else (0 : Int32)) < (9999 : Int32) then (if (0 : Int32) < (gI x10 36 8) then (gI x10 36 8) else (0 : Int32)) else (9999 : Int32)))), x10))))
def ok_G_billOf (a1 : Int32) (s : mS) : Prop := (mm_inb a1 200 = true ∧ (if (gI s 85 (ix a1)) = (-1) then True else (mm_inb a1 200 = true ∧ (ok_Laws_judge (2 : Int32) (gI s 86 (ix a1)) (0 : Int32) s ∧ mq_letP (f_Laws_judge (2 : Int32) (gI s 86 (ix a1)) (0 : Int32) s) (fun (x10 : mS) => (mm_inb a1 200 = true ∧ True))))))
set_option maxRecDepth 4000 in
theorem t_G_billOf {len : Nat} {xs : Nat → Int32}  (d : Nat) (a1 : Int32) (s : mS) {T : Option mm_R} (K : Int64 × mS → Prop) (hK : ∀ t, K t → some (some (.long t.1), mT t.2) = T) : ok_G_billOf a1 s → K (f_G_billOf a1 s) → mm_fix (mm_X len xs) mm_Y (mm_call (mm_X len xs) mm_Y (d + 5)) (mm_look mc_G_billOf) (0, [some (.ref 0), some (.int a1)], [], mT s) = T := by
  unfold ok_G_billOf f_G_billOf
  refine w_go K 4 (c' := (8, [some (.ref 0), some (.int a1)], [.int a1, .ref 85], mT s)) rfl ?_
  refine w_ck K (st_iL rfl rfl) ?_
  refine w_go K 1 (c' := (10, [some (.ref 0), some (.int a1)], [.int (-1), .int (gI s 85 (ix a1))], mT s)) rfl ?_
  refine w_ine K rfl (fun _ => ?_) (fun _ => ?_)
  · refine w_go K 1 (c' := (14, [some (.ref 0), some (.int a1)], [.long 0], mT s)) rfl ?_
    exact w_ret K rfl (hK _)
  · refine w_go K 7 (c' := (28, [some (.ref 0), some (.int a1)], [.int a1, .ref 86, .int 2, .ref 36], mT s)) rfl ?_
    refine w_ck K (st_iL rfl rfl) ?_
    refine w_go K 3 (c' := (34, [some (.ref 0), some (.int a1)], [.ref 1, .int 0, .int (gI s 86 (ix a1)), .int 2, .ref 36], mT s)) rfl ?_
    refine w_callL K (E := f_Laws_judge (2 : Int32) (gI s 86 (ix a1)) (0 : Int32) s) (g := fun (x10 : mS) => (none, mT x10)) rfl (m_Laws_judge (len := len) (xs := xs) (d + 0) (2 : Int32) (gI s 86 (ix a1)) (0 : Int32) s) (fun x10 => ?_)
    refine w_go K 4 (c' := (45, [some (.ref 0), some (.int a1)], [.int a1, .ref 90], mT x10)) rfl ?_
    refine w_ck K (st_lL rfl rfl) ?_
    refine w_go K 9 (c' := (65, [some (.ref 0), some (.int a1)], [.long ((gL x10 90 (ix a1)) * (Int32.toInt64 (if (if (0 : Int32) < (gI x10 36 8) then (gI x10 36 8) else (0 : Int32)) < (9999 : Int32) then (if (0 : Int32) < (gI x10 36 8) then (gI x10 36 8) else (0 : Int32)) else (9999 : Int32))))], mT x10)) rfl ?_
    exact w_ret K rfl (hK _)
theorem m_G_billOf {len : Nat} {xs : Nat → Int32}  (d : Nat) (a1 : Int32) (s : mS) : ok_G_billOf a1 s → mm_call (mm_X len xs) mm_Y (d + 6) 78 [.ref 0, .int a1] (mT s) = some (some (.long (f_G_billOf a1 s).1), mT (f_G_billOf a1 s).2) := fun h => t_G_billOf (len := len) (xs := xs) d a1 s (fun t => (some (some (.long t.1), mT t.2) : Option mm_R) = some (some (.long (f_G_billOf a1 s).1), mT (f_G_billOf a1 s).2)) (fun _ h => h) h rfl
def f_G_bill (a1 : Int32) (a2 : Int32) (a3 : Int32) (a4 : Int32) (s : mS) : Int64 × mS := (mq_let (f_Books_readingOf a1 a2 s) (fun (x10 : Int32) => (if x10 = (-1) then ((-1), s) else (mq_let (f_G_within a3 (0 : Int32) (gI s 0 9) s) (fun (x11 : Int32) => (if x11 = 0 then ((-1), s) else (mq_let (f_G_within a4 (0 : Int32) (4 : Int32) s) (fun (x12 : Int32) => (if x12 = 0 then ((-1), s) else (if a3 < (gI s 86 (ix x10)) then ((-1), s) else (if a4 ≤ 2 then (mq_let (f_Books_know a3 s) (fun (x13 : mS) => (if a4 = 0 then ((Int32.toInt64 (gI x13 86 (ix x10))), x13) else (if a4 = 1 then ((Int32.toInt64 (gI x13 89 (ix x10))), x13) else (if a4 = 2 then (if (gI x13 88 (ix x10)) = 0 then (0, x13) else (1, x13)) else (if a4 = 3 then ((gL x13 90 (ix x10)), x13) else (mq_let (f_G_billOf x10 x13) (fun (x14 : Int64 × mS) => (x14.1, x14.2))))))))) else (if (1 : Int32) ≤ a2 then (mq_let (f_Books_know a3 s) (fun (x15 : mS) => (if a4 = 0 then ((Int32.toInt64 (gI x15 86 (ix x10))), x15) else (if a4 = 1 then ((Int32.toInt64 (gI x15 89 (ix x10))), x15) else (if a4 = 2 then (if (gI x15 88 (ix x10)) = 0 then (0, x15) else (1, x15)) else (if a4 = 3 then ((gL x15 90 (ix x10)), x15) else (mq_let (f_G_billOf x10 x15) (fun (x16 : Int64 × mS) => (x16.1, x16.2))))))))) else ((-1), s)))))))))))))
def ok_G_bill (a1 : Int32) (a2 : Int32) (a3 : Int32) (a4 : Int32) (s : mS) : Prop := (ok_Books_readingOf a1 a2 s ∧ mq_letP (f_Books_readingOf a1 a2 s) (fun (x10 : Int32) => (if x10 = (-1) then True else (True ∧ mq_letP (f_G_within a3 (0 : Int32) (gI s 0 9) s) (fun (x11 : Int32) => (if x11 = 0 then True else (True ∧ mq_letP (f_G_within a4 (0 : Int32) (4 : Int32) s) (fun (x12 : Int32) => (if x12 = 0 then True else (mm_inb x10 200 = true ∧ (if a3 < (gI s 86 (ix x10)) then True else (if a4 ≤ 2 then (ok_Books_know a3 s ∧ mq_letP (f_Books_know a3 s) (fun (x13 : mS) => (if a4 = 0 then (mm_inb x10 200 = true ∧ True) else (if a4 = 1 then (mm_inb x10 200 = true ∧ True) else (if a4 = 2 then (mm_inb x10 200 = true ∧ True) else (if a4 = 3 then (mm_inb x10 200 = true ∧ True) else (ok_G_billOf x10 x13 ∧ mq_letP (f_G_billOf x10 x13) (fun (x14 : Int64 × mS) => True)))))))) else (if (1 : Int32) ≤ a2 then (ok_Books_know a3 s ∧ mq_letP (f_Books_know a3 s) (fun (x15 : mS) => (if a4 = 0 then (mm_inb x10 200 = true ∧ True) else (if a4 = 1 then (mm_inb x10 200 = true ∧ True) else (if a4 = 2 then (mm_inb x10 200 = true ∧ True) else (if a4 = 3 then (mm_inb x10 200 = true ∧ True) else (ok_G_billOf x10 x15 ∧ mq_letP (f_G_billOf x10 x15) (fun (x16 : Int64 × mS) => True)))))))) else True)))))))))))))
set_option maxRecDepth 4000 in
theorem t_G_bill {len : Nat} {xs : Nat → Int32}  (d : Nat) (a1 : Int32) (a2 : Int32) (a3 : Int32) (a4 : Int32) (s : mS) {T : Option mm_R} (K : Int64 × mS → Prop) (hK : ∀ t, K t → some (some (.long t.1), mT t.2) = T) : ok_G_bill a1 a2 a3 a4 s → K (f_G_bill a1 a2 a3 a4 s) → mm_fix (mm_X len xs) mm_Y (mm_call (mm_X len xs) mm_Y (d + 6)) (mm_look mc_G_bill) (0, [some (.ref 0), some (.int a1), some (.int a2), some (.int a3), some (.int a4), none], [], mT s) = T := by
  unfold ok_G_bill f_G_bill
  refine w_go K 4 (c' := (6, [some (.ref 0), some (.int a1), some (.int a2), some (.int a3), some (.int a4), none], [.int a2, .int a1, .ref 82], mT s)) rfl ?_
  refine w_callL K (E := f_Books_readingOf a1 a2 s) (g := fun (x10 : Int32) => (some (.int x10), mT s)) rfl (m_Books_readingOf (len := len) (xs := xs) (d + 5) a1 a2 s) (fun x10 => ?_)
  refine w_go K 3 (c' := (14, [some (.ref 0), some (.int a1), some (.int a2), some (.int a3), some (.int a4), some (.int x10)], [.int (-1), .int x10], mT s)) rfl ?_
  refine w_ieq K rfl (fun _ => ?_) (fun _ => ?_)
  · refine w_go K 1 (c' := (42, [some (.ref 0), some (.int a1), some (.int a2), some (.int a3), some (.int a4), some (.int x10)], [.long (-1)], mT s)) rfl ?_
    exact w_ret K rfl (hK _)
  · refine w_go K 4 (c' := (23, [some (.ref 0), some (.int a1), some (.int a2), some (.int a3), some (.int a4), some (.int x10)], [.int (gI s 0 9), .int 0, .int a3], mT s)) rfl ?_
    refine w_callL K (E := f_G_within a3 (0 : Int32) (gI s 0 9) s) (g := fun (x11 : Int32) => (some (.int x11), mT s)) rfl (m_G_within (len := len) (xs := xs) (d + 5) a3 (0 : Int32) (gI s 0 9) s) (fun x11 => ?_)
    refine w_go K 0 (c' := (26, [some (.ref 0), some (.int a1), some (.int a2), some (.int a3), some (.int a4), some (.int x10)], [.int x11], mT s)) rfl ?_
    refine w_zeq K rfl (fun _ => ?_) (fun _ => ?_)
    · refine w_go K 1 (c' := (42, [some (.ref 0), some (.int a1), some (.int a2), some (.int a3), some (.int a4), some (.int x10)], [.long (-1)], mT s)) rfl ?_
      exact w_ret K rfl (hK _)
    · refine w_go K 3 (c' := (33, [some (.ref 0), some (.int a1), some (.int a2), some (.int a3), some (.int a4), some (.int x10)], [.int 4, .int 0, .int a4], mT s)) rfl ?_
      refine w_callL K (E := f_G_within a4 (0 : Int32) (4 : Int32) s) (g := fun (x12 : Int32) => (some (.int x12), mT s)) rfl (m_G_within (len := len) (xs := xs) (d + 5) a4 (0 : Int32) (4 : Int32) s) (fun x12 => ?_)
      refine w_go K 0 (c' := (36, [some (.ref 0), some (.int a1), some (.int a2), some (.int a3), some (.int a4), some (.int x10)], [.int x12], mT s)) rfl ?_
      refine w_zne K rfl (fun _ => ?_) (fun _ => ?_)
      · refine w_go K 1 (c' := (42, [some (.ref 0), some (.int a1), some (.int a2), some (.int a3), some (.int a4), some (.int x10)], [.long (-1)], mT s)) rfl ?_
        exact w_ret K rfl (hK _)
      · refine w_go K 4 (c' := (52, [some (.ref 0), some (.int a1), some (.int a2), some (.int a3), some (.int a4), some (.int x10)], [.int x10, .ref 86], mT s)) rfl ?_
        refine w_ck K (st_iL rfl rfl) ?_
        refine w_go K 1 (c' := (54, [some (.ref 0), some (.int a1), some (.int a2), some (.int a3), some (.int a4), some (.int x10)], [.int a3, .int (gI s 86 (ix x10))], mT s)) rfl ?_
        refine w_igt K rfl (fun _ => ?_) (fun _ => ?_)
        · refine w_go K 1 (c' := (71, [some (.ref 0), some (.int a1), some (.int a2), some (.int a3), some (.int a4), some (.int x10)], [.long (-1)], mT s)) rfl ?_
          exact w_ret K rfl (hK _)
        · refine w_go K 2 (c' := (60, [some (.ref 0), some (.int a1), some (.int a2), some (.int a3), some (.int a4), some (.int x10)], [.int 2, .int a4], mT s)) rfl ?_
          refine w_ile K rfl (fun _ => ?_) (fun _ => ?_)
          · refine w_go K 3 (c' := (77, [some (.ref 0), some (.int a1), some (.int a2), some (.int a3), some (.int a4), some (.int x10)], [.int a3, .ref 82], mT s)) rfl ?_
            refine w_callL K (E := f_Books_know a3 s) (g := fun (x13 : mS) => (none, mT x13)) rfl (m_Books_know (len := len) (xs := xs) (d + 4) a3 s) (fun x13 => ?_)
            refine w_go K 1 (c' := (82, [some (.ref 0), some (.int a1), some (.int a2), some (.int a3), some (.int a4), some (.int x10)], [.int a4], mT x13)) rfl ?_
            refine w_go K 1 (c' := (mm_sw [(0, 112), (1, 124), (2, 136), (3, 155)] 166 a4, [some (.ref 0), some (.int a1), some (.int a2), some (.int a3), some (.int a4), some (.int x10)], [], mT x13)) rfl ?_
            refine w_sw K (fun _ => ?_) (fun _ => ?_)
            · refine w_go K 4 (c' := (121, [some (.ref 0), some (.int a1), some (.int a2), some (.int a3), some (.int a4), some (.int x10)], [.int x10, .ref 86], mT x13)) rfl ?_
              refine w_ck K (st_iL rfl rfl) ?_
              refine w_go K 1 (c' := (123, [some (.ref 0), some (.int a1), some (.int a2), some (.int a3), some (.int a4), some (.int x10)], [.long (Int32.toInt64 (gI x13 86 (ix x10)))], mT x13)) rfl ?_
              exact w_ret K rfl (hK _)
            · refine w_sw K (fun _ => ?_) (fun _ => ?_)
              · refine w_go K 4 (c' := (133, [some (.ref 0), some (.int a1), some (.int a2), some (.int a3), some (.int a4), some (.int x10)], [.int x10, .ref 89], mT x13)) rfl ?_
                refine w_ck K (st_iL rfl rfl) ?_
                refine w_go K 1 (c' := (135, [some (.ref 0), some (.int a1), some (.int a2), some (.int a3), some (.int a4), some (.int x10)], [.long (Int32.toInt64 (gI x13 89 (ix x10)))], mT x13)) rfl ?_
                exact w_ret K rfl (hK _)
              · refine w_sw K (fun _ => ?_) (fun _ => ?_)
                · refine w_go K 4 (c' := (145, [some (.ref 0), some (.int a1), some (.int a2), some (.int a3), some (.int a4), some (.int x10)], [.int x10, .ref 88], mT x13)) rfl ?_
                  refine w_ck K (st_bL rfl rfl) ?_
                  refine w_go K 0 (c' := (146, [some (.ref 0), some (.int a1), some (.int a2), some (.int a3), some (.int a4), some (.int x10)], [.int (gI x13 88 (ix x10))], mT x13)) rfl ?_
                  refine w_zeqT K rfl (fun _ => ?_) (fun _ => ?_)
                  · refine w_go K 1 (c' := (154, [some (.ref 0), some (.int a1), some (.int a2), some (.int a3), some (.int a4), some (.int x10)], [.long 0], mT x13)) rfl ?_
                    exact w_ret K rfl (hK _)
                  · refine w_go K 2 (c' := (154, [some (.ref 0), some (.int a1), some (.int a2), some (.int a3), some (.int a4), some (.int x10)], [.long 1], mT x13)) rfl ?_
                    exact w_ret K rfl (hK _)
                · refine w_sw K (fun _ => ?_) (fun _ => ?_)
                  · refine w_go K 4 (c' := (164, [some (.ref 0), some (.int a1), some (.int a2), some (.int a3), some (.int a4), some (.int x10)], [.int x10, .ref 90], mT x13)) rfl ?_
                    refine w_ck K (st_lL rfl rfl) ?_
                    refine w_go K 0 (c' := (165, [some (.ref 0), some (.int a1), some (.int a2), some (.int a3), some (.int a4), some (.int x10)], [.long (gL x13 90 (ix x10))], mT x13)) rfl ?_
                    exact w_ret K rfl (hK _)
                  · refine w_go K 0 (c' := (166, [some (.ref 0), some (.int a1), some (.int a2), some (.int a3), some (.int a4), some (.int x10)], [], mT x13)) rfl ?_
                    refine w_go K 2 (c' := (169, [some (.ref 0), some (.int a1), some (.int a2), some (.int a3), some (.int a4), some (.int x10)], [.int x10, .ref 0], mT x13)) rfl ?_
                    refine w_callL K (E := f_G_billOf x10 x13) (g := fun (x14 : Int64 × mS) => (some (.long x14.1), mT x14.2)) rfl (m_G_billOf (len := len) (xs := xs) (d + 0) x10 x13) (fun x14 => ?_)
                    refine w_go K 0 (c' := (172, [some (.ref 0), some (.int a1), some (.int a2), some (.int a3), some (.int a4), some (.int x10)], [.long x14.1], mT x14.2)) rfl ?_
                    exact w_ret K rfl (hK _)
          · refine w_go K 2 (c' := (65, [some (.ref 0), some (.int a1), some (.int a2), some (.int a3), some (.int a4), some (.int x10)], [.int 1, .int a2], mT s)) rfl ?_
            refine w_ige K rfl (fun _ => ?_) (fun _ => ?_)
            · refine w_go K 3 (c' := (77, [some (.ref 0), some (.int a1), some (.int a2), some (.int a3), some (.int a4), some (.int x10)], [.int a3, .ref 82], mT s)) rfl ?_
              refine w_callL K (E := f_Books_know a3 s) (g := fun (x15 : mS) => (none, mT x15)) rfl (m_Books_know (len := len) (xs := xs) (d + 4) a3 s) (fun x15 => ?_)
              refine w_go K 1 (c' := (82, [some (.ref 0), some (.int a1), some (.int a2), some (.int a3), some (.int a4), some (.int x10)], [.int a4], mT x15)) rfl ?_
              refine w_go K 1 (c' := (mm_sw [(0, 112), (1, 124), (2, 136), (3, 155)] 166 a4, [some (.ref 0), some (.int a1), some (.int a2), some (.int a3), some (.int a4), some (.int x10)], [], mT x15)) rfl ?_
              refine w_sw K (fun _ => ?_) (fun _ => ?_)
              · refine w_go K 4 (c' := (121, [some (.ref 0), some (.int a1), some (.int a2), some (.int a3), some (.int a4), some (.int x10)], [.int x10, .ref 86], mT x15)) rfl ?_
                refine w_ck K (st_iL rfl rfl) ?_
                refine w_go K 1 (c' := (123, [some (.ref 0), some (.int a1), some (.int a2), some (.int a3), some (.int a4), some (.int x10)], [.long (Int32.toInt64 (gI x15 86 (ix x10)))], mT x15)) rfl ?_
                exact w_ret K rfl (hK _)
              · refine w_sw K (fun _ => ?_) (fun _ => ?_)
                · refine w_go K 4 (c' := (133, [some (.ref 0), some (.int a1), some (.int a2), some (.int a3), some (.int a4), some (.int x10)], [.int x10, .ref 89], mT x15)) rfl ?_
                  refine w_ck K (st_iL rfl rfl) ?_
                  refine w_go K 1 (c' := (135, [some (.ref 0), some (.int a1), some (.int a2), some (.int a3), some (.int a4), some (.int x10)], [.long (Int32.toInt64 (gI x15 89 (ix x10)))], mT x15)) rfl ?_
                  exact w_ret K rfl (hK _)
                · refine w_sw K (fun _ => ?_) (fun _ => ?_)
                  · refine w_go K 4 (c' := (145, [some (.ref 0), some (.int a1), some (.int a2), some (.int a3), some (.int a4), some (.int x10)], [.int x10, .ref 88], mT x15)) rfl ?_
                    refine w_ck K (st_bL rfl rfl) ?_
                    refine w_go K 0 (c' := (146, [some (.ref 0), some (.int a1), some (.int a2), some (.int a3), some (.int a4), some (.int x10)], [.int (gI x15 88 (ix x10))], mT x15)) rfl ?_
                    refine w_zeqT K rfl (fun _ => ?_) (fun _ => ?_)
                    · refine w_go K 1 (c' := (154, [some (.ref 0), some (.int a1), some (.int a2), some (.int a3), some (.int a4), some (.int x10)], [.long 0], mT x15)) rfl ?_
                      exact w_ret K rfl (hK _)
                    · refine w_go K 2 (c' := (154, [some (.ref 0), some (.int a1), some (.int a2), some (.int a3), some (.int a4), some (.int x10)], [.long 1], mT x15)) rfl ?_
                      exact w_ret K rfl (hK _)
                  · refine w_sw K (fun _ => ?_) (fun _ => ?_)
                    · refine w_go K 4 (c' := (164, [some (.ref 0), some (.int a1), some (.int a2), some (.int a3), some (.int a4), some (.int x10)], [.int x10, .ref 90], mT x15)) rfl ?_
                      refine w_ck K (st_lL rfl rfl) ?_
                      refine w_go K 0 (c' := (165, [some (.ref 0), some (.int a1), some (.int a2), some (.int a3), some (.int a4), some (.int x10)], [.long (gL x15 90 (ix x10))], mT x15)) rfl ?_
                      exact w_ret K rfl (hK _)
                    · refine w_go K 0 (c' := (166, [some (.ref 0), some (.int a1), some (.int a2), some (.int a3), some (.int a4), some (.int x10)], [], mT x15)) rfl ?_
                      refine w_go K 2 (c' := (169, [some (.ref 0), some (.int a1), some (.int a2), some (.int a3), some (.int a4), some (.int x10)], [.int x10, .ref 0], mT x15)) rfl ?_
                      refine w_callL K (E := f_G_billOf x10 x15) (g := fun (x16 : Int64 × mS) => (some (.long x16.1), mT x16.2)) rfl (m_G_billOf (len := len) (xs := xs) (d + 0) x10 x15) (fun x16 => ?_)
                      refine w_go K 0 (c' := (172, [some (.ref 0), some (.int a1), some (.int a2), some (.int a3), some (.int a4), some (.int x10)], [.long x16.1], mT x16.2)) rfl ?_
                      exact w_ret K rfl (hK _)
            · refine w_go K 1 (c' := (71, [some (.ref 0), some (.int a1), some (.int a2), some (.int a3), some (.int a4), some (.int x10)], [.long (-1)], mT s)) rfl ?_
              exact w_ret K rfl (hK _)
theorem m_G_bill {len : Nat} {xs : Nat → Int32}  (d : Nat) (a1 : Int32) (a2 : Int32) (a3 : Int32) (a4 : Int32) (s : mS) : ok_G_bill a1 a2 a3 a4 s → mm_call (mm_X len xs) mm_Y (d + 7) 75 [.ref 0, .int a1, .int a2, .int a3, .int a4] (mT s) = some (some (.long (f_G_bill a1 a2 a3 a4 s).1), mT (f_G_bill a1 a2 a3 a4 s).2) := fun h => t_G_bill (len := len) (xs := xs) d a1 a2 a3 a4 s (fun t => (some (some (.long t.1), mT t.2) : Option mm_R) = some (some (.long (f_G_bill a1 a2 a3 a4 s).1), mT (f_G_bill a1 a2 a3 a4 s).2)) (fun _ h => h) h rfl
def lp_M_shows_10 (a1 : Int32) (a2 : Int32) (s : mS) : Nat → Int32 → Int32 → Int32 × Int32
  | 0, v3, v4 => (v3, v4)
  | n + 1, v3, v4 => (if (gI s 116 58) ≤ v4 then (v3, v4) else (if (gI s 153 (ix v4)) = a1 then (if a2 < (gI s 154 (ix v4)) then (lp_M_shows_10 a1 a2 s n v3 (v4 + 1)) else (lp_M_shows_10 a1 a2 s n (gI s 155 (ix v4)) (v4 + 1))) else (lp_M_shows_10 a1 a2 s n v3 (v4 + 1))))
def okl_M_shows_10 (a1 : Int32) (a2 : Int32) (s : mS) : Nat → Int32 → Int32 → Prop
  | 0, v3, v4 => False
  | n + 1, v3, v4 => (if (gI s 116 58) ≤ v4 then True else (mm_inb v4 100 = true ∧ (if (gI s 153 (ix v4)) = a1 then (mm_inb v4 100 = true ∧ (if a2 < (gI s 154 (ix v4)) then (okl_M_shows_10 a1 a2 s n v3 (v4 + 1)) else (mm_inb v4 100 = true ∧ (okl_M_shows_10 a1 a2 s n (gI s 155 (ix v4)) (v4 + 1))))) else (okl_M_shows_10 a1 a2 s n v3 (v4 + 1)))))
set_option maxRecDepth 4000 in
theorem tl_M_shows_10 {len : Nat} {xs : Nat → Int32}  (d : Nat) (a1 : Int32) (a2 : Int32) (s : mS) {T : Option mm_R} (K : Int32 × Int32 → Prop) (hX : ∀ r, K r → mm_fix (mm_X len xs) mm_Y (mm_call (mm_X len xs) mm_Y (d + 0)) (mm_look mc_M_shows) (55, [some (.ref 116), some (.int a1), some (.int a2), some (.int r.1), some (.int r.2)], [], mT s) = T) : ∀ (n : Nat), ∀ (v3 : Int32) (v4 : Int32), okl_M_shows_10 a1 a2 s n v3 v4 → K (lp_M_shows_10 a1 a2 s n v3 v4) → mm_fix (mm_X len xs) mm_Y (mm_call (mm_X len xs) mm_Y (d + 0)) (mm_look mc_M_shows) (10, [some (.ref 116), some (.int a1), some (.int a2), some (.int v3), some (.int v4)], [], mT s) = T := by
  intro n
  induction n with
  | zero => intro v3 v4; exact fun h => h.elim
  | succ n ih =>
    intro v3 v4
    rw [okl_M_shows_10, lp_M_shows_10]
    refine w_go K 3 (c' := (16, [some (.ref 116), some (.int a1), some (.int a2), some (.int v3), some (.int v4)], [.int (gI s 116 58), .int v4], mT s)) rfl ?_
    refine w_ige K rfl (fun _ => ?_) (fun _ => ?_)
    · refine w_go K 0 (c' := (55, [some (.ref 116), some (.int a1), some (.int a2), some (.int v3), some (.int v4)], [], mT s)) rfl ?_
      exact fun _ b => hX _ b
    · refine w_go K 3 (c' := (25, [some (.ref 116), some (.int a1), some (.int a2), some (.int v3), some (.int v4)], [.int v4, .ref 153], mT s)) rfl ?_
      refine w_ck K (st_iL rfl rfl) ?_
      refine w_go K 1 (c' := (27, [some (.ref 116), some (.int a1), some (.int a2), some (.int v3), some (.int v4)], [.int a1, .int (gI s 153 (ix v4))], mT s)) rfl ?_
      refine w_ine K rfl (fun _ => ?_) (fun _ => ?_)
      · refine w_go K 3 (c' := (36, [some (.ref 116), some (.int a1), some (.int a2), some (.int v3), some (.int v4)], [.int v4, .ref 154], mT s)) rfl ?_
        refine w_ck K (st_iL rfl rfl) ?_
        refine w_go K 1 (c' := (38, [some (.ref 116), some (.int a1), some (.int a2), some (.int v3), some (.int v4)], [.int a2, .int (gI s 154 (ix v4))], mT s)) rfl ?_
        refine w_igt K rfl (fun _ => ?_) (fun _ => ?_)
        · refine w_go K 2 (c' := (10, [some (.ref 116), some (.int a1), some (.int a2), some (.int v3), some (.int (v4 + 1))], [], mT s)) rfl ?_
          exact fun a b => ih v3 (v4 + 1) a b
        · refine w_go K 3 (c' := (47, [some (.ref 116), some (.int a1), some (.int a2), some (.int v3), some (.int v4)], [.int v4, .ref 155], mT s)) rfl ?_
          refine w_ck K (st_iL rfl rfl) ?_
          refine w_go K 3 (c' := (10, [some (.ref 116), some (.int a1), some (.int a2), some (.int (gI s 155 (ix v4))), some (.int (v4 + 1))], [], mT s)) rfl ?_
          exact fun a b => ih (gI s 155 (ix v4)) (v4 + 1) a b
      · refine w_go K 2 (c' := (10, [some (.ref 116), some (.int a1), some (.int a2), some (.int v3), some (.int (v4 + 1))], [], mT s)) rfl ?_
        exact fun a b => ih v3 (v4 + 1) a b
def f_M_shows (a1 : Int32) (a2 : Int32) (s : mS) : Int32 := (mq_let (lp_M_shows_10 a1 a2 s mm_N (gI s 152 (ix a1)) (0 : Int32)) (fun (x10 : Int32 × Int32) => x10.1))
def ok_M_shows (a1 : Int32) (a2 : Int32) (s : mS) : Prop := (mm_inb a1 200 = true ∧ (okl_M_shows_10 a1 a2 s mm_N (gI s 152 (ix a1)) (0 : Int32) ∧ mq_letP (lp_M_shows_10 a1 a2 s mm_N (gI s 152 (ix a1)) (0 : Int32)) (fun (x10 : Int32 × Int32) => True)))
set_option maxRecDepth 4000 in
theorem t_M_shows {len : Nat} {xs : Nat → Int32}  (d : Nat) (a1 : Int32) (a2 : Int32) (s : mS) {T : Option mm_R} (K : Int32 → Prop) (hK : ∀ t, K t → some (some (.int t), mT s) = T) : ok_M_shows a1 a2 s → K (f_M_shows a1 a2 s) → mm_fix (mm_X len xs) mm_Y (mm_call (mm_X len xs) mm_Y (d + 0)) (mm_look mc_M_shows) (0, [some (.ref 116), some (.int a1), some (.int a2), none, none], [], mT s) = T := by
  unfold ok_M_shows f_M_shows
  refine w_go K 3 (c' := (5, [some (.ref 116), some (.int a1), some (.int a2), none, none], [.int a1, .ref 152], mT s)) rfl ?_
  refine w_ck K (st_iL rfl rfl) ?_
  refine w_go K 3 (c' := (10, [some (.ref 116), some (.int a1), some (.int a2), some (.int (gI s 152 (ix a1))), some (.int 0)], [], mT s)) rfl ?_
  refine w_join K (fun (x10 : Int32 × Int32) => mm_fix (mm_X len xs) mm_Y (mm_call (mm_X len xs) mm_Y (d + 0)) (mm_look mc_M_shows) (55, [some (.ref 116), some (.int a1), some (.int a2), some (.int x10.1), some (.int x10.2)], [], mT s) = T) (fun K hJ => tl_M_shows_10 (len := len) (xs := xs) d a1 a2 s (T := T) K hJ mm_N (gI s 152 (ix a1)) (0 : Int32)) (fun x10 h1 h2 => ?_)
  revert h1 h2
  refine w_go K 1 (c' := (56, [some (.ref 116), some (.int a1), some (.int a2), some (.int x10.1), some (.int x10.2)], [.int x10.1], mT s)) rfl ?_
  exact w_ret K rfl (hK _)
theorem m_M_shows {len : Nat} {xs : Nat → Int32}  (d : Nat) (a1 : Int32) (a2 : Int32) (s : mS) : ok_M_shows a1 a2 s → mm_call (mm_X len xs) mm_Y (d + 1) 200 [.ref 116, .int a1, .int a2] (mT s) = some (some (.int (f_M_shows a1 a2 s)), mT s) := fun h => t_M_shows (len := len) (xs := xs) d a1 a2 s (fun t => (some (some (.int t), mT s) : Option mm_R) = some (some (.int (f_M_shows a1 a2 s)), mT s)) (fun _ h => h) h rfl
def lp_M_units_6 (a1 : Int32) (a2 : Int32) (a3 : Int32) (a4 : Int64) (s : mS) : Nat → Int32 → Int32
  | 0, v6 => v6
  | n + 1, v6 => (if v6 ≤ 0 then v6 else (mq_let (f_M_readingOf a1 v6 s) (fun (x10 : Int32) => (if (gI s 156 (ix x10)) = 0 then v6 else (lp_M_units_6 a1 a2 a3 a4 s n (v6 + (-1)))))))
def okl_M_units_6 (a1 : Int32) (a2 : Int32) (a3 : Int32) (a4 : Int64) (s : mS) : Nat → Int32 → Prop
  | 0, v6 => False
  | n + 1, v6 => (if v6 ≤ 0 then True else (ok_M_readingOf a1 v6 s ∧ mq_letP (f_M_readingOf a1 v6 s) (fun (x10 : Int32) => (mm_inb x10 200 = true ∧ (if (gI s 156 (ix x10)) = 0 then True else (okl_M_units_6 a1 a2 a3 a4 s n (v6 + (-1))))))))
set_option maxRecDepth 4000 in
theorem tl_M_units_6 {len : Nat} {xs : Nat → Int32}  (d : Nat) (a1 : Int32) (a2 : Int32) (a3 : Int32) (a4 : Int64) (s : mS) {T : Option mm_R} (K : Int32 → Prop) (hX : ∀ r, K r → ∀ (o7 : Option Value) (o8 : Option Value) (o9 : Option Value), mm_fix (mm_X len xs) mm_Y (mm_call (mm_X len xs) mm_Y (d + 1)) (mm_look mc_M_units) (32, [some (.ref 116), some (.int a1), some (.int a2), some (.int a3), some (.long a4), none, some (.int r), o7, o8, o9], [], mT s) = T) : ∀ (n : Nat), ∀ (v6 : Int32) (o7 : Option Value) (o8 : Option Value) (o9 : Option Value), okl_M_units_6 a1 a2 a3 a4 s n v6 → K (lp_M_units_6 a1 a2 a3 a4 s n v6) → mm_fix (mm_X len xs) mm_Y (mm_call (mm_X len xs) mm_Y (d + 1)) (mm_look mc_M_units) (6, [some (.ref 116), some (.int a1), some (.int a2), some (.int a3), some (.long a4), none, some (.int v6), o7, o8, o9], [], mT s) = T := by
  intro n
  induction n with
  | zero => intro v6 o7 o8 o9; exact fun h => h.elim
  | succ n ih =>
    intro v6 o7 o8 o9
    rw [okl_M_units_6, lp_M_units_6]
    refine w_go K 1 (c' := (8, [some (.ref 116), some (.int a1), some (.int a2), some (.int a3), some (.long a4), none, some (.int v6), o7, o8, o9], [.int v6], mT s)) rfl ?_
    refine w_zle K rfl (fun _ => ?_) (fun _ => ?_)
    · refine w_go K 0 (c' := (32, [some (.ref 116), some (.int a1), some (.int a2), some (.int a3), some (.long a4), none, some (.int v6), o7, o8, o9], [], mT s)) rfl ?_
      exact fun _ b => hX _ b _ _ _
    · refine w_go K 5 (c' := (19, [some (.ref 116), some (.int a1), some (.int a2), some (.int a3), some (.long a4), none, some (.int v6), o7, o8, o9], [.int v6, .int a1, .ref 116, .ref 156], mT s)) rfl ?_
      refine w_callL K (E := f_M_readingOf a1 v6 s) (g := fun (x10 : Int32) => (some (.int x10), mT s)) rfl (m_M_readingOf (len := len) (xs := xs) (d + 0) a1 v6 s) (fun x10 => ?_)
      refine w_go K 0 (c' := (22, [some (.ref 116), some (.int a1), some (.int a2), some (.int a3), some (.long a4), none, some (.int v6), o7, o8, o9], [.int x10, .ref 156], mT s)) rfl ?_
      refine w_ck K (st_bL rfl rfl) ?_
      refine w_go K 0 (c' := (23, [some (.ref 116), some (.int a1), some (.int a2), some (.int a3), some (.long a4), none, some (.int v6), o7, o8, o9], [.int (gI s 156 (ix x10))], mT s)) rfl ?_
      refine w_zeq K rfl (fun _ => ?_) (fun _ => ?_)
      · refine w_go K 0 (c' := (32, [some (.ref 116), some (.int a1), some (.int a2), some (.int a3), some (.long a4), none, some (.int v6), o7, o8, o9], [], mT s)) rfl ?_
        exact fun _ b => hX _ b _ _ _
      · refine w_go K 2 (c' := (6, [some (.ref 116), some (.int a1), some (.int a2), some (.int a3), some (.long a4), none, some (.int (v6 + (-1))), o7, o8, o9], [], mT s)) rfl ?_
        exact fun a b => ih (v6 + (-1)) _ _ _ a b
def lp_M_units_83 (a1 : Int32) (a2 : Int32) (s : mS) : Nat → Int64 → Int32 → Int64 × Int32
  | 0, v4, v7 => (v4, v7)
  | n + 1, v4, v7 => (if a2 < v7 then (v4, v7) else (if v7 = 1 then (lp_M_units_83 a1 a2 s n (0 : Int64) (v7 + 1)) else (mq_let (f_M_readingOf a1 (v7 - 1) s) (fun (x25 : Int32) => (mq_let (f_M_readingOf a1 (v7 - 2) s) (fun (x26 : Int32) => (mq_let (f_M_readingOf a1 v7 s) (fun (x27 : Int32) => (mq_let (f_M_readingOf a1 (v7 - 1) s) (fun (x28 : Int32) => (if ((gI s 151 (ix x25)) - (gI s 151 (ix x26))) = 0 then (lp_M_units_83 a1 a2 s n (0 : Int64) (v7 + 1)) else (lp_M_units_83 a1 a2 s n ((v4 * (Int32.toInt64 ((gI s 151 (ix x27)) - (gI s 151 (ix x28))))) / (Int32.toInt64 ((gI s 151 (ix x25)) - (gI s 151 (ix x26))))) (v7 + 1)))))))))))))
def okl_M_units_83 (a1 : Int32) (a2 : Int32) (s : mS) : Nat → Int64 → Int32 → Prop
  | 0, v4, v7 => False
  | n + 1, v4, v7 => (if a2 < v7 then True else (if v7 = 1 then (okl_M_units_83 a1 a2 s n (0 : Int64) (v7 + 1)) else (ok_M_readingOf a1 (v7 - 1) s ∧ mq_letP (f_M_readingOf a1 (v7 - 1) s) (fun (x25 : Int32) => (mm_inb x25 200 = true ∧ (ok_M_readingOf a1 (v7 - 2) s ∧ mq_letP (f_M_readingOf a1 (v7 - 2) s) (fun (x26 : Int32) => (mm_inb x26 200 = true ∧ (ok_M_readingOf a1 v7 s ∧ mq_letP (f_M_readingOf a1 v7 s) (fun (x27 : Int32) => (mm_inb x27 200 = true ∧ (ok_M_readingOf a1 (v7 - 1) s ∧ mq_letP (f_M_readingOf a1 (v7 - 1) s) (fun (x28 : Int32) => (mm_inb x28 200 = true ∧ (if ((gI s 151 (ix x25)) - (gI s 151 (ix x26))) = 0 then (okl_M_units_83 a1 a2 s n (0 : Int64) (v7 + 1)) else ((!(decide ((Int32.toInt64 ((gI s 151 (ix x25)) - (gI s 151 (ix x26)))) = (0 : Int64)))) = true ∧ (okl_M_units_83 a1 a2 s n ((v4 * (Int32.toInt64 ((gI s 151 (ix x27)) - (gI s 151 (ix x28))))) / (Int32.toInt64 ((gI s 151 (ix x25)) - (gI s 151 (ix x26))))) (v7 + 1))))))))))))))))))
set_option maxRecDepth 4000 in
theorem tl_M_units_83 {len : Nat} {xs : Nat → Int32}  (d : Nat) (a1 : Int32) (a2 : Int32) (s : mS) {T : Option mm_R} (K : Int64 × Int32 → Prop) (hX : ∀ r, K r → ∀ (o3 : Option Value) (o6 : Option Value) (o8 : Option Value) (o9 : Option Value), mm_fix (mm_X len xs) mm_Y (mm_call (mm_X len xs) mm_Y (d + 1)) (mm_look mc_M_units) (188, [some (.ref 116), some (.int a1), some (.int a2), o3, some (.long r.1), none, o6, some (.int r.2), o8, o9], [], mT s) = T) : ∀ (n : Nat), ∀ (v4 : Int64) (v7 : Int32) (o3 : Option Value) (o6 : Option Value) (o8 : Option Value) (o9 : Option Value), okl_M_units_83 a1 a2 s n v4 v7 → K (lp_M_units_83 a1 a2 s n v4 v7) → mm_fix (mm_X len xs) mm_Y (mm_call (mm_X len xs) mm_Y (d + 1)) (mm_look mc_M_units) (83, [some (.ref 116), some (.int a1), some (.int a2), o3, some (.long v4), none, o6, some (.int v7), o8, o9], [], mT s) = T := by
  intro n
  induction n with
  | zero => intro v4 v7 o3 o6 o8 o9; exact fun h => h.elim
  | succ n ih =>
    intro v4 v7 o3 o6 o8 o9
    rw [okl_M_units_83, lp_M_units_83]
    refine w_go K 2 (c' := (86, [some (.ref 116), some (.int a1), some (.int a2), o3, some (.long v4), none, o6, some (.int v7), o8, o9], [.int a2, .int v7], mT s)) rfl ?_
    refine w_igt K rfl (fun _ => ?_) (fun _ => ?_)
    · refine w_go K 0 (c' := (188, [some (.ref 116), some (.int a1), some (.int a2), o3, some (.long v4), none, o6, some (.int v7), o8, o9], [], mT s)) rfl ?_
      exact fun _ b => hX _ b _ _ _ _
    · refine w_go K 2 (c' := (92, [some (.ref 116), some (.int a1), some (.int a2), o3, some (.long v4), none, o6, some (.int v7), o8, o9], [.int 1, .int v7], mT s)) rfl ?_
      refine w_ine K rfl (fun _ => ?_) (fun _ => ?_)
      · refine w_go K 5 (c' := (83, [some (.ref 116), some (.int a1), some (.int a2), (mm_cut o3 0), some (.long 0), none, (mm_cut o6 0), some (.int (v7 + 1)), o8, o9], [], mT s)) rfl ?_
        exact fun a b => ih (0 : Int64) (v7 + 1) _ _ _ _ a b
      · refine w_go K 7 (c' := (111, [some (.ref 116), some (.int a1), some (.int a2), o3, some (.long v4), none, o6, some (.int v7), o8, o9], [.int (v7 - 1), .int a1, .ref 116, .ref 151], mT s)) rfl ?_
        refine w_callL K (E := f_M_readingOf a1 (v7 - 1) s) (g := fun (x25 : Int32) => (some (.int x25), mT s)) rfl (m_M_readingOf (len := len) (xs := xs) (d + 0) a1 (v7 - 1) s) (fun x25 => ?_)
        refine w_go K 0 (c' := (114, [some (.ref 116), some (.int a1), some (.int a2), o3, some (.long v4), none, o6, some (.int v7), o8, o9], [.int x25, .ref 151], mT s)) rfl ?_
        refine w_ck K (st_iL rfl rfl) ?_
        refine w_go K 7 (c' := (125, [some (.ref 116), some (.int a1), some (.int a2), o3, some (.long v4), none, o6, some (.int v7), o8, o9], [.int (v7 - 2), .int a1, .ref 116, .ref 151, .int (gI s 151 (ix x25))], mT s)) rfl ?_
        refine w_callL K (E := f_M_readingOf a1 (v7 - 2) s) (g := fun (x26 : Int32) => (some (.int x26), mT s)) rfl (m_M_readingOf (len := len) (xs := xs) (d + 0) a1 (v7 - 2) s) (fun x26 => ?_)
        refine w_go K 0 (c' := (128, [some (.ref 116), some (.int a1), some (.int a2), o3, some (.long v4), none, o6, some (.int v7), o8, o9], [.int x26, .ref 151, .int (gI s 151 (ix x25))], mT s)) rfl ?_
        refine w_ck K (st_iL rfl rfl) ?_
        refine w_go K 7 (c' := (140, [some (.ref 116), some (.int a1), some (.int a2), o3, some (.long v4), none, o6, some (.int v7), some (.int ((gI s 151 (ix x25)) - (gI s 151 (ix x26)))), o9], [.int v7, .int a1, .ref 116, .ref 151], mT s)) rfl ?_
        refine w_callL K (E := f_M_readingOf a1 v7 s) (g := fun (x27 : Int32) => (some (.int x27), mT s)) rfl (m_M_readingOf (len := len) (xs := xs) (d + 0) a1 v7 s) (fun x27 => ?_)
        refine w_go K 0 (c' := (143, [some (.ref 116), some (.int a1), some (.int a2), o3, some (.long v4), none, o6, some (.int v7), some (.int ((gI s 151 (ix x25)) - (gI s 151 (ix x26)))), o9], [.int x27, .ref 151], mT s)) rfl ?_
        refine w_ck K (st_iL rfl rfl) ?_
        refine w_go K 7 (c' := (154, [some (.ref 116), some (.int a1), some (.int a2), o3, some (.long v4), none, o6, some (.int v7), some (.int ((gI s 151 (ix x25)) - (gI s 151 (ix x26)))), o9], [.int (v7 - 1), .int a1, .ref 116, .ref 151, .int (gI s 151 (ix x27))], mT s)) rfl ?_
        refine w_callL K (E := f_M_readingOf a1 (v7 - 1) s) (g := fun (x28 : Int32) => (some (.int x28), mT s)) rfl (m_M_readingOf (len := len) (xs := xs) (d + 0) a1 (v7 - 1) s) (fun x28 => ?_)
        refine w_go K 0 (c' := (157, [some (.ref 116), some (.int a1), some (.int a2), o3, some (.long v4), none, o6, some (.int v7), some (.int ((gI s 151 (ix x25)) - (gI s 151 (ix x26)))), o9], [.int x28, .ref 151, .int (gI s 151 (ix x27))], mT s)) rfl ?_
        refine w_ck K (st_iL rfl rfl) ?_
        refine w_go K 3 (c' := (163, [some (.ref 116), some (.int a1), some (.int a2), o3, some (.long v4), none, o6, some (.int v7), some (.int ((gI s 151 (ix x25)) - (gI s 151 (ix x26)))), some (.int ((gI s 151 (ix x27)) - (gI s 151 (ix x28))))], [.int ((gI s 151 (ix x25)) - (gI s 151 (ix x26)))], mT s)) rfl ?_
        refine w_zne K rfl (fun _ => ?_) (fun _ => ?_)
        · refine w_go K 5 (c' := (83, [some (.ref 116), some (.int a1), some (.int a2), (mm_cut o3 0), some (.long 0), none, (mm_cut o6 0), some (.int (v7 + 1)), some (.int ((gI s 151 (ix x25)) - (gI s 151 (ix x26)))), some (.int ((gI s 151 (ix x27)) - (gI s 151 (ix x28))))], [], mT s)) rfl ?_
          exact fun a b => ih (0 : Int64) (v7 + 1) _ _ _ _ a b
        · refine w_go K 6 (c' := (179, [some (.ref 116), some (.int a1), some (.int a2), o3, some (.long v4), none, o6, some (.int v7), some (.int ((gI s 151 (ix x25)) - (gI s 151 (ix x26)))), some (.int ((gI s 151 (ix x27)) - (gI s 151 (ix x28))))], [.long (Int32.toInt64 ((gI s 151 (ix x25)) - (gI s 151 (ix x26)))), .long (v4 * (Int32.toInt64 ((gI s 151 (ix x27)) - (gI s 151 (ix x28)))))], mT s)) rfl ?_
          refine w_ck K rfl ?_
          refine w_go K 3 (c' := (83, [some (.ref 116), some (.int a1), some (.int a2), (mm_cut o3 0), some (.long ((v4 * (Int32.toInt64 ((gI s 151 (ix x27)) - (gI s 151 (ix x28))))) / (Int32.toInt64 ((gI s 151 (ix x25)) - (gI s 151 (ix x26)))))), none, (mm_cut o6 0), some (.int (v7 + 1)), some (.int ((gI s 151 (ix x25)) - (gI s 151 (ix x26)))), some (.int ((gI s 151 (ix x27)) - (gI s 151 (ix x28))))], [], mT s)) rfl ?_
          exact fun a b => ih ((v4 * (Int32.toInt64 ((gI s 151 (ix x27)) - (gI s 151 (ix x28))))) / (Int32.toInt64 ((gI s 151 (ix x25)) - (gI s 151 (ix x26))))) (v7 + 1) _ _ _ _ a b
def f_M_units (a1 : Int32) (a2 : Int32) (a3 : Int32) (s : mS) : Int64 := (mq_let (lp_M_units_6 a1 a2 a3 (0 : Int64) s mm_N a2) (fun (x11 : Int32) => (mq_let (if x11 ≤ 0 then (0 : Int64) else (mq_let (f_M_readingOf a1 x11 s) (fun (x20 : Int32) => (mq_let (f_M_shows x20 a3 s) (fun (x21 : Int32) => (mq_let (f_M_readingOf a1 (x11 - 1) s) (fun (x22 : Int32) => (mq_let (f_M_shows x22 a3 s) (fun (x23 : Int32) => (Int32.toInt64 (x21 - x23))))))))))) (fun (x19 : Int64) => (mq_let (if (0 : Int32) ≤ (lg_cmp x19 0) then x19 else (0 : Int64)) (fun (x24 : Int64) => (mq_let (lp_M_units_83 a1 a2 s mm_N x24 (x11 + 1)) (fun (x29 : Int64 × Int32) => x29.1))))))))
def ok_M_units (a1 : Int32) (a2 : Int32) (a3 : Int32) (s : mS) : Prop := (okl_M_units_6 a1 a2 a3 (0 : Int64) s mm_N a2 ∧ mq_letP (lp_M_units_6 a1 a2 a3 (0 : Int64) s mm_N a2) (fun (x11 : Int32) => ((if x11 ≤ 0 then True else (ok_M_readingOf a1 x11 s ∧ mq_letP (f_M_readingOf a1 x11 s) (fun (x20 : Int32) => (ok_M_shows x20 a3 s ∧ mq_letP (f_M_shows x20 a3 s) (fun (x21 : Int32) => (ok_M_readingOf a1 (x11 - 1) s ∧ mq_letP (f_M_readingOf a1 (x11 - 1) s) (fun (x22 : Int32) => (ok_M_shows x22 a3 s ∧ mq_letP (f_M_shows x22 a3 s) (fun (x23 : Int32) => True))))))))) ∧ mq_letP (if x11 ≤ 0 then (0 : Int64) else (mq_let (f_M_readingOf a1 x11 s) (fun (x20 : Int32) => (mq_let (f_M_shows x20 a3 s) (fun (x21 : Int32) => (mq_let (f_M_readingOf a1 (x11 - 1) s) (fun (x22 : Int32) => (mq_let (f_M_shows x22 a3 s) (fun (x23 : Int32) => (Int32.toInt64 (x21 - x23))))))))))) (fun (x19 : Int64) => (True ∧ mq_letP (if (0 : Int32) ≤ (lg_cmp x19 0) then x19 else (0 : Int64)) (fun (x24 : Int64) => (okl_M_units_83 a1 a2 s mm_N x24 (x11 + 1) ∧ mq_letP (lp_M_units_83 a1 a2 s mm_N x24 (x11 + 1)) (fun (x29 : Int64 × Int32) => True))))))))
set_option maxRecDepth 4000 in
theorem t_M_units {len : Nat} {xs : Nat → Int32}  (d : Nat) (a1 : Int32) (a2 : Int32) (a3 : Int32) (s : mS) {T : Option mm_R} (K : Int64 → Prop) (hK : ∀ t, K t → some (some (.long t), mT s) = T) : ok_M_units a1 a2 a3 s → K (f_M_units a1 a2 a3 s) → mm_fix (mm_X len xs) mm_Y (mm_call (mm_X len xs) mm_Y (d + 1)) (mm_look mc_M_units) (0, [some (.ref 116), some (.int a1), some (.int a2), some (.int a3), none, none, none, none, none, none], [], mT s) = T := by
  unfold ok_M_units f_M_units
  refine w_go K 4 (c' := (6, [some (.ref 116), some (.int a1), some (.int a2), some (.int a3), some (.long 0), none, some (.int a2), none, none, none], [], mT s)) rfl ?_
  refine w_join K (fun (x11 : Int32) => ∀ (q12 : Option Value) (q13 : Option Value) (q14 : Option Value), mm_fix (mm_X len xs) mm_Y (mm_call (mm_X len xs) mm_Y (d + 1)) (mm_look mc_M_units) (32, [some (.ref 116), some (.int a1), some (.int a2), some (.int a3), some (.long 0), none, some (.int x11), q12, q13, q14], [], mT s) = T) (fun K hJ => tl_M_units_6 (len := len) (xs := xs) d a1 a2 a3 (0 : Int64) s (T := T) K hJ mm_N a2 _ _ _) (fun x11 h1 h2 q12 q13 q14 => ?_)
  revert h1 h2
  refine w_go K 1 (c' := (34, [some (.ref 116), some (.int a1), some (.int a2), some (.int a3), some (.long 0), none, some (.int x11), q12, q13, q14], [.int x11], mT s)) rfl ?_
  refine w_join K (fun (x19 : Int64) => mm_fix (mm_X len xs) mm_Y (mm_call (mm_X len xs) mm_Y (d + 1)) (mm_look mc_M_units) (67, [some (.ref 116), some (.int a1), some (.int a2), some (.int a3), some (.long x19), none, some (.int x11), q12, q13, q14], [], mT s) = T) (fun K hJ => ?_) (fun x19 h1 h2 => ?_)
  · refine w_go K 0 (c' := (34, [some (.ref 116), some (.int a1), some (.int a2), some (.int a3), some (.long 0), none, some (.int x11), q12, q13, q14], [.int x11], mT s)) rfl ?_
    refine w_zle K rfl (fun _ => ?_) (fun _ => ?_)
    · refine w_go K 0 (c' := (67, [some (.ref 116), some (.int a1), some (.int a2), some (.int a3), some (.long 0), none, some (.int x11), q12, q13, q14], [], mT s)) rfl ?_
      exact fun _ h => hJ _ h
    · refine w_go K 4 (c' := (42, [some (.ref 116), some (.int a1), some (.int a2), some (.int a3), some (.long 0), none, some (.int x11), q12, q13, q14], [.int x11, .int a1, .ref 116, .ref 116], mT s)) rfl ?_
      refine w_callL K (E := f_M_readingOf a1 x11 s) (g := fun (x20 : Int32) => (some (.int x20), mT s)) rfl (m_M_readingOf (len := len) (xs := xs) (d + 0) a1 x11 s) (fun x20 => ?_)
      refine w_go K 1 (c' := (46, [some (.ref 116), some (.int a1), some (.int a2), some (.int a3), some (.long 0), none, some (.int x11), q12, q13, q14], [.int a3, .int x20, .ref 116], mT s)) rfl ?_
      refine w_callL K (E := f_M_shows x20 a3 s) (g := fun (x21 : Int32) => (some (.int x21), mT s)) rfl (m_M_shows (len := len) (xs := xs) (d + 0) x20 a3 s) (fun x21 => ?_)
      refine w_go K 6 (c' := (56, [some (.ref 116), some (.int a1), some (.int a2), some (.int a3), some (.long 0), none, some (.int x11), q12, q13, q14], [.int (x11 - 1), .int a1, .ref 116, .ref 116, .int x21], mT s)) rfl ?_
      refine w_callL K (E := f_M_readingOf a1 (x11 - 1) s) (g := fun (x22 : Int32) => (some (.int x22), mT s)) rfl (m_M_readingOf (len := len) (xs := xs) (d + 0) a1 (x11 - 1) s) (fun x22 => ?_)
      refine w_go K 1 (c' := (60, [some (.ref 116), some (.int a1), some (.int a2), some (.int a3), some (.long 0), none, some (.int x11), q12, q13, q14], [.int a3, .int x22, .ref 116, .int x21], mT s)) rfl ?_
      refine w_callL K (E := f_M_shows x22 a3 s) (g := fun (x23 : Int32) => (some (.int x23), mT s)) rfl (m_M_shows (len := len) (xs := xs) (d + 0) x22 a3 s) (fun x23 => ?_)
      refine w_go K 3 (c' := (67, [some (.ref 116), some (.int a1), some (.int a2), some (.int a3), some (.long (Int32.toInt64 (x21 - x23))), none, some (.int x11), q12, q13, q14], [], mT s)) rfl ?_
      exact fun _ h => hJ _ h
  · revert h1 h2
    refine w_go K 3 (c' := (71, [some (.ref 116), some (.int a1), some (.int a2), some (.int a3), some (.long x19), none, some (.int x11), q12, q13, q14], [.int (lg_cmp x19 0)], mT s)) rfl ?_
    refine w_join K (fun (x24 : Int64) => mm_fix (mm_X len xs) mm_Y (mm_call (mm_X len xs) mm_Y (d + 1)) (mm_look mc_M_units) (77, [some (.ref 116), some (.int a1), some (.int a2), some (.int a3), some (.long x24), none, some (.int x11), q12, q13, q14], [], mT s) = T) (fun K hJ => ?_) (fun x24 h1 h2 => ?_)
    · refine w_go K 0 (c' := (71, [some (.ref 116), some (.int a1), some (.int a2), some (.int a3), some (.long x19), none, some (.int x11), q12, q13, q14], [.int (lg_cmp x19 0)], mT s)) rfl ?_
      refine w_zgeT K rfl (fun _ => ?_) (fun _ => ?_)
      · refine w_go K 0 (c' := (77, [some (.ref 116), some (.int a1), some (.int a2), some (.int a3), some (.long x19), none, some (.int x11), q12, q13, q14], [], mT s)) rfl ?_
        exact fun _ h => hJ _ h
      · refine w_go K 2 (c' := (77, [some (.ref 116), some (.int a1), some (.int a2), some (.int a3), some (.long 0), none, some (.int x11), q12, q13, q14], [], mT s)) rfl ?_
        exact fun _ h => hJ _ h
    · revert h1 h2
      refine w_go K 4 (c' := (83, [some (.ref 116), some (.int a1), some (.int a2), some (.int a3), some (.long x24), none, some (.int x11), some (.int (x11 + 1)), q13, q14], [], mT s)) rfl ?_
      refine w_join K (fun (x29 : Int64 × Int32) => ∀ (q30 : Option Value) (q31 : Option Value) (q32 : Option Value) (q33 : Option Value), mm_fix (mm_X len xs) mm_Y (mm_call (mm_X len xs) mm_Y (d + 1)) (mm_look mc_M_units) (188, [some (.ref 116), some (.int a1), some (.int a2), q30, some (.long x29.1), none, q31, some (.int x29.2), q32, q33], [], mT s) = T) (fun K hJ => tl_M_units_83 (len := len) (xs := xs) d a1 a2 s (T := T) K hJ mm_N x24 (x11 + 1) _ _ _ _) (fun x29 h1 h2 q30 q31 q32 q33 => ?_)
      revert h1 h2
      refine w_go K 1 (c' := (190, [some (.ref 116), some (.int a1), some (.int a2), q30, some (.long x29.1), none, q31, some (.int x29.2), q32, q33], [.long x29.1], mT s)) rfl ?_
      exact w_ret K rfl (hK _)
theorem m_M_units {len : Nat} {xs : Nat → Int32}  (d : Nat) (a1 : Int32) (a2 : Int32) (a3 : Int32) (s : mS) : ok_M_units a1 a2 a3 s → mm_call (mm_X len xs) mm_Y (d + 2) 201 [.ref 116, .int a1, .int a2, .int a3] (mT s) = some (some (.long (f_M_units a1 a2 a3 s)), mT s) := fun h => t_M_units (len := len) (xs := xs) d a1 a2 a3 s (fun t => (some (some (.long t), mT s) : Option mm_R) = some (some (.long (f_M_units a1 a2 a3 s)), mT s)) (fun _ h => h) h rfl
def f_M_billOf (a1 : Int32) (a2 : Int32) (a3 : Int32) (s : mS) : Int64 × mS := (mq_let (f_M_readingOf a1 a2 s) (fun (x10 : Int32) => (mq_let (f_M_dueOf_2 (gI s 151 (ix x10)) (0 : Int32) s) (fun (x11 : Int32 × mS) => (mq_let (if (gI x11.2 116 91) = 0 then (0 : Int32) else (if (0 : Int32) ≤ x11.1 then (if x11.1 ≤ 9999 then x11.1 else (9999 : Int32)) else (0 : Int32))) (fun (x12 : Int32) => (mq_let (f_M_units a1 a2 a3 x11.2) (fun (x13 : Int64) => ((x13 * (Int32.toInt64 x12)), x11.2)))))))))
def ok_M_billOf (a1 : Int32) (a2 : Int32) (a3 : Int32) (s : mS) : Prop := (ok_M_readingOf a1 a2 s ∧ mq_letP (f_M_readingOf a1 a2 s) (fun (x10 : Int32) => (mm_inb x10 200 = true ∧ (ok_M_dueOf_2 (gI s 151 (ix x10)) (0 : Int32) s ∧ mq_letP (f_M_dueOf_2 (gI s 151 (ix x10)) (0 : Int32) s) (fun (x11 : Int32 × mS) => (True ∧ mq_letP (if (gI x11.2 116 91) = 0 then (0 : Int32) else (if (0 : Int32) ≤ x11.1 then (if x11.1 ≤ 9999 then x11.1 else (9999 : Int32)) else (0 : Int32))) (fun (x12 : Int32) => (ok_M_units a1 a2 a3 x11.2 ∧ mq_letP (f_M_units a1 a2 a3 x11.2) (fun (x13 : Int64) => True)))))))))
set_option maxRecDepth 4000 in
theorem t_M_billOf {len : Nat} {xs : Nat → Int32}  (d : Nat) (a1 : Int32) (a2 : Int32) (a3 : Int32) (s : mS) {T : Option mm_R} (K : Int64 × mS → Prop) (hK : ∀ t, K t → some (some (.long t.1), mT t.2) = T) : ok_M_billOf a1 a2 a3 s → K (f_M_billOf a1 a2 a3 s) → mm_fix (mm_X len xs) mm_Y (mm_call (mm_X len xs) mm_Y (d + 5)) (mm_look mc_M_billOf) (0, [some (.ref 116), some (.int a1), some (.int a2), some (.int a3), none, none], [], mT s) = T := by
  unfold ok_M_billOf f_M_billOf
  refine w_go K 7 (c' := (9, [some (.ref 116), some (.int a1), some (.int a2), some (.int a3), none, none], [.int a2, .int a1, .ref 116, .ref 151, .int 2, .ref 116], mT s)) rfl ?_
  refine w_callL K (E := f_M_readingOf a1 a2 s) (g := fun (x10 : Int32) => (some (.int x10), mT s)) rfl (m_M_readingOf (len := len) (xs := xs) (d + 4) a1 a2 s) (fun x10 => ?_)
  refine w_go K 0 (c' := (12, [some (.ref 116), some (.int a1), some (.int a2), some (.int a3), none, none], [.int x10, .ref 151, .int 2, .ref 116], mT s)) rfl ?_
  refine w_ck K (st_iL rfl rfl) ?_
  refine w_go K 1 (c' := (14, [some (.ref 116), some (.int a1), some (.int a2), some (.int a3), none, none], [.int 0, .int (gI s 151 (ix x10)), .int 2, .ref 116], mT s)) rfl ?_
  refine w_callL K (E := f_M_dueOf_2 (gI s 151 (ix x10)) (0 : Int32) s) (g := fun (x11 : Int32 × mS) => (some (.int x11.1), mT x11.2)) rfl (m_M_dueOf_2 (len := len) (xs := xs) (d + 1) (gI s 151 (ix x10)) (0 : Int32) s) (fun x11 => ?_)
  refine w_go K 3 (c' := (23, [some (.ref 116), some (.int a1), some (.int a2), some (.int a3), some (.int x11.1), none], [.int (gI x11.2 116 91)], mT x11.2)) rfl ?_
  refine w_join K (fun (x12 : Int32) => mm_fix (mm_X len xs) mm_Y (mm_call (mm_X len xs) mm_Y (d + 5)) (mm_look mc_M_billOf) (51, [some (.ref 116), some (.int a1), some (.int a2), some (.int a3), some (.int x11.1), none], [.int x12], mT x11.2) = T) (fun K hJ => ?_) (fun x12 h1 h2 => ?_)
  · refine w_go K 0 (c' := (23, [some (.ref 116), some (.int a1), some (.int a2), some (.int a3), some (.int x11.1), none], [.int (gI x11.2 116 91)], mT x11.2)) rfl ?_
    refine w_zeqT K rfl (fun _ => ?_) (fun _ => ?_)
    · refine w_go K 2 (c' := (51, [some (.ref 116), some (.int a1), some (.int a2), some (.int a3), some (.int x11.1), none], [.int 0], mT x11.2)) rfl ?_
      exact fun _ h => hJ _ h
    · refine w_go K 1 (c' := (28, [some (.ref 116), some (.int a1), some (.int a2), some (.int a3), some (.int x11.1), none], [.int x11.1], mT x11.2)) rfl ?_
      refine w_zgeT K rfl (fun _ => ?_) (fun _ => ?_)
      · refine w_go K 2 (c' := (40, [some (.ref 116), some (.int a1), some (.int a2), some (.int a3), some (.int x11.1), none], [.int 9999, .int x11.1], mT x11.2)) rfl ?_
        refine w_ileT K rfl (fun _ => ?_) (fun _ => ?_)
        · refine w_go K 1 (c' := (51, [some (.ref 116), some (.int a1), some (.int a2), some (.int a3), some (.int x11.1), none], [.int x11.1], mT x11.2)) rfl ?_
          exact fun _ h => hJ _ h
        · refine w_go K 2 (c' := (51, [some (.ref 116), some (.int a1), some (.int a2), some (.int a3), some (.int x11.1), none], [.int 9999], mT x11.2)) rfl ?_
          exact fun _ h => hJ _ h
      · refine w_go K 2 (c' := (51, [some (.ref 116), some (.int a1), some (.int a2), some (.int a3), some (.int x11.1), none], [.int 0], mT x11.2)) rfl ?_
        exact fun _ h => hJ _ h
  · revert h1 h2
    refine w_go K 5 (c' := (57, [some (.ref 116), some (.int a1), some (.int a2), some (.int a3), some (.int x11.1), some (.int x12)], [.int a3, .int a2, .int a1, .ref 116], mT x11.2)) rfl ?_
    refine w_callL K (E := f_M_units a1 a2 a3 x11.2) (g := fun (x13 : Int64) => (some (.long x13), mT x11.2)) rfl (m_M_units (len := len) (xs := xs) (d + 3) a1 a2 a3 x11.2) (fun x13 => ?_)
    refine w_go K 3 (c' := (64, [some (.ref 116), some (.int a1), some (.int a2), some (.int a3), some (.int x11.1), some (.int x12)], [.long (x13 * (Int32.toInt64 x12))], mT x11.2)) rfl ?_
    exact w_ret K rfl (hK _)
theorem m_M_billOf {len : Nat} {xs : Nat → Int32}  (d : Nat) (a1 : Int32) (a2 : Int32) (a3 : Int32) (s : mS) : ok_M_billOf a1 a2 a3 s → mm_call (mm_X len xs) mm_Y (d + 6) 202 [.ref 116, .int a1, .int a2, .int a3] (mT s) = some (some (.long (f_M_billOf a1 a2 a3 s).1), mT (f_M_billOf a1 a2 a3 s).2) := fun h => t_M_billOf (len := len) (xs := xs) d a1 a2 a3 s (fun t => (some (some (.long t.1), mT t.2) : Option mm_R) = some (some (.long (f_M_billOf a1 a2 a3 s).1), mT (f_M_billOf a1 a2 a3 s).2)) (fun _ h => h) h rfl
def f_M_bill (a1 : Int32) (a2 : Int32) (a3 : Int32) (a4 : Int32) (s : mS) : Int64 × mS := (mq_let (f_M_isHouse a1 s) (fun (x10 : Int32) => (if x10 = 0 then ((-1), s) else (if a2 < 0 then ((-1), s) else (mq_let (f_M_isIn a3 (0 : Int32) (gI s 116 1) s) (fun (x11 : Int32) => (if x11 = 0 then ((-1), s) else (mq_let (f_M_readingOf a1 a2 s) (fun (x12 : Int32) => (if x12 = (-1) then ((-1), s) else (if (gI s 151 (ix x12)) ≤ a3 then (if a4 = 0 then ((Int32.toInt64 (gI s 151 (ix x12))), s) else (if a4 = 1 then (mq_let (f_M_shows x12 a3 s) (fun (x13 : Int32) => ((Int32.toInt64 x13), s))) else (if a4 = 2 then (if (gI s 156 (ix x12)) = 0 then (0, s) else (1, s)) else (if a4 = 3 then (if a2 = 0 then ((-1), s) else (mq_let (f_M_units a1 a2 a3 s) (fun (x14 : Int64) => (x14, s)))) else (if a4 = 4 then (if a2 = 0 then ((-1), s) else (mq_let (f_M_billOf a1 a2 a3 s) (fun (x15 : Int64 × mS) => (x15.1, x15.2)))) else ((-1), s)))))) else ((-1), s))))))))))))
def ok_M_bill (a1 : Int32) (a2 : Int32) (a3 : Int32) (a4 : Int32) (s : mS) : Prop := (ok_M_isHouse a1 s ∧ mq_letP (f_M_isHouse a1 s) (fun (x10 : Int32) => (if x10 = 0 then True else (if a2 < 0 then True else (True ∧ mq_letP (f_M_isIn a3 (0 : Int32) (gI s 116 1) s) (fun (x11 : Int32) => (if x11 = 0 then True else (ok_M_readingOf a1 a2 s ∧ mq_letP (f_M_readingOf a1 a2 s) (fun (x12 : Int32) => (if x12 = (-1) then True else (mm_inb x12 200 = true ∧ (if (gI s 151 (ix x12)) ≤ a3 then (if a4 = 0 then (mm_inb x12 200 = true ∧ True) else (if a4 = 1 then (ok_M_shows x12 a3 s ∧ mq_letP (f_M_shows x12 a3 s) (fun (x13 : Int32) => True)) else (if a4 = 2 then (mm_inb x12 200 = true ∧ True) else (if a4 = 3 then (if a2 = 0 then True else (ok_M_units a1 a2 a3 s ∧ mq_letP (f_M_units a1 a2 a3 s) (fun (x14 : Int64) => True))) else (if a4 = 4 then (if a2 = 0 then True else (ok_M_billOf a1 a2 a3 s ∧ mq_letP (f_M_billOf a1 a2 a3 s) (fun (x15 : Int64 × mS) => True))) else True))))) else True))))))))))))
set_option maxRecDepth 4000 in
theorem t_M_bill {len : Nat} {xs : Nat → Int32}  (d : Nat) (a1 : Int32) (a2 : Int32) (a3 : Int32) (a4 : Int32) (s : mS) {T : Option mm_R} (K : Int64 × mS → Prop) (hK : ∀ t, K t → some (some (.long t.1), mT t.2) = T) : ok_M_bill a1 a2 a3 a4 s → K (f_M_bill a1 a2 a3 a4 s) → mm_fix (mm_X len xs) mm_Y (mm_call (mm_X len xs) mm_Y (d + 6)) (mm_look mc_M_bill) (0, [some (.ref 116), some (.int a1), some (.int a2), some (.int a3), some (.int a4), none], [], mT s) = T := by
  unfold ok_M_bill f_M_bill
  refine w_go K 2 (c' := (2, [some (.ref 116), some (.int a1), some (.int a2), some (.int a3), some (.int a4), none], [.int a1, .ref 116], mT s)) rfl ?_
  refine w_callL K (E := f_M_isHouse a1 s) (g := fun (x10 : Int32) => (some (.int x10), mT s)) rfl (m_M_isHouse (len := len) (xs := xs) (d + 3) a1 s) (fun x10 => ?_)
  refine w_go K 0 (c' := (5, [some (.ref 116), some (.int a1), some (.int a2), some (.int a3), some (.int a4), none], [.int x10], mT s)) rfl ?_
  refine w_zeq K rfl (fun _ => ?_) (fun _ => ?_)
  · refine w_go K 1 (c' := (27, [some (.ref 116), some (.int a1), some (.int a2), some (.int a3), some (.int a4), none], [.long (-1)], mT s)) rfl ?_
    exact w_ret K rfl (hK _)
  · refine w_go K 1 (c' := (9, [some (.ref 116), some (.int a1), some (.int a2), some (.int a3), some (.int a4), none], [.int a2], mT s)) rfl ?_
    refine w_zlt K rfl (fun _ => ?_) (fun _ => ?_)
    · refine w_go K 1 (c' := (27, [some (.ref 116), some (.int a1), some (.int a2), some (.int a3), some (.int a4), none], [.long (-1)], mT s)) rfl ?_
      exact w_ret K rfl (hK _)
    · refine w_go K 4 (c' := (18, [some (.ref 116), some (.int a1), some (.int a2), some (.int a3), some (.int a4), none], [.int (gI s 116 1), .int 0, .int a3], mT s)) rfl ?_
      refine w_callL K (E := f_M_isIn a3 (0 : Int32) (gI s 116 1) s) (g := fun (x11 : Int32) => (some (.int x11), mT s)) rfl (m_M_isIn (len := len) (xs := xs) (d + 5) a3 (0 : Int32) (gI s 116 1) s) (fun x11 => ?_)
      refine w_go K 0 (c' := (21, [some (.ref 116), some (.int a1), some (.int a2), some (.int a3), some (.int a4), none], [.int x11], mT s)) rfl ?_
      refine w_zne K rfl (fun _ => ?_) (fun _ => ?_)
      · refine w_go K 1 (c' := (27, [some (.ref 116), some (.int a1), some (.int a2), some (.int a3), some (.int a4), none], [.long (-1)], mT s)) rfl ?_
        exact w_ret K rfl (hK _)
      · refine w_go K 3 (c' := (31, [some (.ref 116), some (.int a1), some (.int a2), some (.int a3), some (.int a4), none], [.int a2, .int a1, .ref 116], mT s)) rfl ?_
        refine w_callL K (E := f_M_readingOf a1 a2 s) (g := fun (x12 : Int32) => (some (.int x12), mT s)) rfl (m_M_readingOf (len := len) (xs := xs) (d + 5) a1 a2 s) (fun x12 => ?_)
        refine w_go K 3 (c' := (39, [some (.ref 116), some (.int a1), some (.int a2), some (.int a3), some (.int a4), some (.int x12)], [.int (-1), .int x12], mT s)) rfl ?_
        refine w_ieq K rfl (fun _ => ?_) (fun _ => ?_)
        · refine w_go K 1 (c' := (56, [some (.ref 116), some (.int a1), some (.int a2), some (.int a3), some (.int a4), some (.int x12)], [.long (-1)], mT s)) rfl ?_
          exact w_ret K rfl (hK _)
        · refine w_go K 3 (c' := (48, [some (.ref 116), some (.int a1), some (.int a2), some (.int a3), some (.int a4), some (.int x12)], [.int x12, .ref 151], mT s)) rfl ?_
          refine w_ck K (st_iL rfl rfl) ?_
          refine w_go K 1 (c' := (50, [some (.ref 116), some (.int a1), some (.int a2), some (.int a3), some (.int a4), some (.int x12)], [.int a3, .int (gI s 151 (ix x12))], mT s)) rfl ?_
          refine w_ile K rfl (fun _ => ?_) (fun _ => ?_)
          · refine w_go K 1 (c' := (59, [some (.ref 116), some (.int a1), some (.int a2), some (.int a3), some (.int a4), some (.int x12)], [.int a4], mT s)) rfl ?_
            refine w_go K 1 (c' := (mm_sw [(0, 92), (1, 101), (2, 110), (3, 126), (4, 144)] 162 a4, [some (.ref 116), some (.int a1), some (.int a2), some (.int a3), some (.int a4), some (.int x12)], [], mT s)) rfl ?_
            refine w_sw K (fun _ => ?_) (fun _ => ?_)
            · refine w_go K 3 (c' := (98, [some (.ref 116), some (.int a1), some (.int a2), some (.int a3), some (.int a4), some (.int x12)], [.int x12, .ref 151], mT s)) rfl ?_
              refine w_ck K (st_iL rfl rfl) ?_
              refine w_go K 1 (c' := (100, [some (.ref 116), some (.int a1), some (.int a2), some (.int a3), some (.int a4), some (.int x12)], [.long (Int32.toInt64 (gI s 151 (ix x12)))], mT s)) rfl ?_
              exact w_ret K rfl (hK _)
            · refine w_sw K (fun _ => ?_) (fun _ => ?_)
              · refine w_go K 3 (c' := (105, [some (.ref 116), some (.int a1), some (.int a2), some (.int a3), some (.int a4), some (.int x12)], [.int a3, .int x12, .ref 116], mT s)) rfl ?_
                refine w_callL K (E := f_M_shows x12 a3 s) (g := fun (x13 : Int32) => (some (.int x13), mT s)) rfl (m_M_shows (len := len) (xs := xs) (d + 5) x12 a3 s) (fun x13 => ?_)
                refine w_go K 1 (c' := (109, [some (.ref 116), some (.int a1), some (.int a2), some (.int a3), some (.int a4), some (.int x12)], [.long (Int32.toInt64 x13)], mT s)) rfl ?_
                exact w_ret K rfl (hK _)
              · refine w_sw K (fun _ => ?_) (fun _ => ?_)
                · refine w_go K 3 (c' := (116, [some (.ref 116), some (.int a1), some (.int a2), some (.int a3), some (.int a4), some (.int x12)], [.int x12, .ref 156], mT s)) rfl ?_
                  refine w_ck K (st_bL rfl rfl) ?_
                  refine w_go K 0 (c' := (117, [some (.ref 116), some (.int a1), some (.int a2), some (.int a3), some (.int a4), some (.int x12)], [.int (gI s 156 (ix x12))], mT s)) rfl ?_
                  refine w_zeqT K rfl (fun _ => ?_) (fun _ => ?_)
                  · refine w_go K 1 (c' := (125, [some (.ref 116), some (.int a1), some (.int a2), some (.int a3), some (.int a4), some (.int x12)], [.long 0], mT s)) rfl ?_
                    exact w_ret K rfl (hK _)
                  · refine w_go K 2 (c' := (125, [some (.ref 116), some (.int a1), some (.int a2), some (.int a3), some (.int a4), some (.int x12)], [.long 1], mT s)) rfl ?_
                    exact w_ret K rfl (hK _)
                · refine w_sw K (fun _ => ?_) (fun _ => ?_)
                  · refine w_go K 1 (c' := (127, [some (.ref 116), some (.int a1), some (.int a2), some (.int a3), some (.int a4), some (.int x12)], [.int a2], mT s)) rfl ?_
                    refine w_zne K rfl (fun _ => ?_) (fun _ => ?_)
                    · refine w_go K 2 (c' := (143, [some (.ref 116), some (.int a1), some (.int a2), some (.int a3), some (.int a4), some (.int x12)], [.long (-1)], mT s)) rfl ?_
                      exact w_ret K rfl (hK _)
                    · refine w_go K 4 (c' := (140, [some (.ref 116), some (.int a1), some (.int a2), some (.int a3), some (.int a4), some (.int x12)], [.int a3, .int a2, .int a1, .ref 116], mT s)) rfl ?_
                      refine w_callL K (E := f_M_units a1 a2 a3 s) (g := fun (x14 : Int64) => (some (.long x14), mT s)) rfl (m_M_units (len := len) (xs := xs) (d + 4) a1 a2 a3 s) (fun x14 => ?_)
                      refine w_go K 0 (c' := (143, [some (.ref 116), some (.int a1), some (.int a2), some (.int a3), some (.int a4), some (.int x12)], [.long x14], mT s)) rfl ?_
                      exact w_ret K rfl (hK _)
                  · refine w_sw K (fun _ => ?_) (fun _ => ?_)
                    · refine w_go K 1 (c' := (145, [some (.ref 116), some (.int a1), some (.int a2), some (.int a3), some (.int a4), some (.int x12)], [.int a2], mT s)) rfl ?_
                      refine w_zne K rfl (fun _ => ?_) (fun _ => ?_)
                      · refine w_go K 2 (c' := (161, [some (.ref 116), some (.int a1), some (.int a2), some (.int a3), some (.int a4), some (.int x12)], [.long (-1)], mT s)) rfl ?_
                        exact w_ret K rfl (hK _)
                      · refine w_go K 4 (c' := (158, [some (.ref 116), some (.int a1), some (.int a2), some (.int a3), some (.int a4), some (.int x12)], [.int a3, .int a2, .int a1, .ref 116], mT s)) rfl ?_
                        refine w_callL K (E := f_M_billOf a1 a2 a3 s) (g := fun (x15 : Int64 × mS) => (some (.long x15.1), mT x15.2)) rfl (m_M_billOf (len := len) (xs := xs) (d + 0) a1 a2 a3 s) (fun x15 => ?_)
                        refine w_go K 0 (c' := (161, [some (.ref 116), some (.int a1), some (.int a2), some (.int a3), some (.int a4), some (.int x12)], [.long x15.1], mT x15.2)) rfl ?_
                        exact w_ret K rfl (hK _)
                    · refine w_go K 0 (c' := (162, [some (.ref 116), some (.int a1), some (.int a2), some (.int a3), some (.int a4), some (.int x12)], [], mT s)) rfl ?_
                      refine w_go K 1 (c' := (165, [some (.ref 116), some (.int a1), some (.int a2), some (.int a3), some (.int a4), some (.int x12)], [.long (-1)], mT s)) rfl ?_
                      exact w_ret K rfl (hK _)
          · refine w_go K 1 (c' := (56, [some (.ref 116), some (.int a1), some (.int a2), some (.int a3), some (.int a4), some (.int x12)], [.long (-1)], mT s)) rfl ?_
            exact w_ret K rfl (hK _)
theorem m_M_bill {len : Nat} {xs : Nat → Int32}  (d : Nat) (a1 : Int32) (a2 : Int32) (a3 : Int32) (a4 : Int32) (s : mS) : ok_M_bill a1 a2 a3 a4 s → mm_call (mm_X len xs) mm_Y (d + 7) 199 [.ref 116, .int a1, .int a2, .int a3, .int a4] (mT s) = some (some (.long (f_M_bill a1 a2 a3 a4 s).1), mT (f_M_bill a1 a2 a3 a4 s).2) := fun h => t_M_bill (len := len) (xs := xs) d a1 a2 a3 a4 s (fun t => (some (some (.long t.1), mT t.2) : Option mm_R) = some (some (.long (f_M_bill a1 a2 a3 a4 s).1), mT (f_M_bill a1 a2 a3 a4 s).2)) (fun _ h => h) h rfl
def f_G_sell (a1 : Int32) (a2 : Int32) (s : mS) : Int32 × mS := (if a1 < 1 then ((-1), s) else (mq_let (f_G_within a2 (0 : Int32) (99 : Int32) s) (fun (x10 : Int32) => (if x10 = 0 then ((-1), s) else (if a1 ≤ (gI s 3 15) then (((gI s 3 15) - a1), sL (sI s 3 15 ((gI s 3 15) - a1)) 82 14 ((gL s 82 14) + ((Int32.toInt64 a1) * (Int32.toInt64 a2)))) else ((-1), s))))))
set_option maxRecDepth 4000 in
theorem t_G_sell {len : Nat} {xs : Nat → Int32}  (d : Nat) (a1 : Int32) (a2 : Int32) (s : mS) {T : Option mm_R} (K : Int32 × mS → Prop) (hK : ∀ t, K t → some (some (.int t.1), mT t.2) = T) : True → K (f_G_sell a1 a2 s) → mm_fix (mm_X len xs) mm_Y (mm_call (mm_X len xs) mm_Y (d + 1)) (mm_look mc_G_sell) (0, [some (.ref 0), some (.int a1), some (.int a2)], [], mT s) = T := by
  unfold f_G_sell
  refine w_go K 2 (c' := (2, [some (.ref 0), some (.int a1), some (.int a2)], [.int 1, .int a1], mT s)) rfl ?_
  refine w_iltT K rfl (fun _ => ?_) (fun _ => ?_)
  · refine w_go K 1 (c' := (27, [some (.ref 0), some (.int a1), some (.int a2)], [.int (-1)], mT s)) rfl ?_
    exact w_ret K rfl (hK _)
  · refine w_go K 3 (c' := (9, [some (.ref 0), some (.int a1), some (.int a2)], [.int 99, .int 0, .int a2], mT s)) rfl ?_
    refine w_callLT K (E := f_G_within a2 (0 : Int32) (99 : Int32) s) (g := fun (x10 : Int32) => (some (.int x10), mT s)) rfl (m_G_within (len := len) (xs := xs) (d + 0) a2 (0 : Int32) (99 : Int32) s) (fun x10 => ?_)
    refine w_go K 0 (c' := (12, [some (.ref 0), some (.int a1), some (.int a2)], [.int x10], mT s)) rfl ?_
    refine w_zeqT K rfl (fun _ => ?_) (fun _ => ?_)
    · refine w_go K 1 (c' := (27, [some (.ref 0), some (.int a1), some (.int a2)], [.int (-1)], mT s)) rfl ?_
      exact w_ret K rfl (hK _)
    · refine w_go K 4 (c' := (23, [some (.ref 0), some (.int a1), some (.int a2)], [.int (gI s 3 15), .int a1], mT s)) rfl ?_
      refine w_ileT K rfl (fun _ => ?_) (fun _ => ?_)
      · refine w_go K 21 (c' := (65, [some (.ref 0), some (.int a1), some (.int a2)], [.int ((gI s 3 15) - a1)], mT (sL (sI s 3 15 ((gI s 3 15) - a1)) 82 14 ((gL s 82 14) + ((Int32.toInt64 a1) * (Int32.toInt64 a2)))))) rfl ?_
        exact w_ret K rfl (hK _)
      · refine w_go K 1 (c' := (27, [some (.ref 0), some (.int a1), some (.int a2)], [.int (-1)], mT s)) rfl ?_
        exact w_ret K rfl (hK _)
theorem m_G_sell {len : Nat} {xs : Nat → Int32}  (d : Nat) (a1 : Int32) (a2 : Int32) (s : mS) : True → mm_call (mm_X len xs) mm_Y (d + 2) 79 [.ref 0, .int a1, .int a2] (mT s) = some (some (.int (f_G_sell a1 a2 s).1), mT (f_G_sell a1 a2 s).2) := fun h => t_G_sell (len := len) (xs := xs) d a1 a2 s (fun t => (some (some (.int t.1), mT t.2) : Option mm_R) = some (some (.int (f_G_sell a1 a2 s).1), mT (f_G_sell a1 a2 s).2)) (fun _ h => h) h rfl
def f_M_sell (a1 : Int32) (a2 : Int32) (s : mS) : Int32 × mS := (if a1 < 1 then ((-1), s) else (mq_let (f_M_isIn a2 (0 : Int32) (99 : Int32) s) (fun (x10 : Int32) => (if x10 = 0 then ((-1), s) else (if (lg_cmp (Int32.toInt64 a1) (gL s 116 42)) ≤ 0 then ((Int64.toInt32 ((gL s 116 42) - (Int32.toInt64 a1))), sL (sL s 116 42 ((gL s 116 42) - (Int32.toInt64 a1))) 116 40 ((gL s 116 40) + ((Int32.toInt64 a1) * (Int32.toInt64 a2)))) else ((-1), s))))))
set_option maxRecDepth 4000 in
theorem t_M_sell {len : Nat} {xs : Nat → Int32}  (d : Nat) (a1 : Int32) (a2 : Int32) (s : mS) {T : Option mm_R} (K : Int32 × mS → Prop) (hK : ∀ t, K t → some (some (.int t.1), mT t.2) = T) : True → K (f_M_sell a1 a2 s) → mm_fix (mm_X len xs) mm_Y (mm_call (mm_X len xs) mm_Y (d + 1)) (mm_look mc_M_sell) (0, [some (.ref 116), some (.int a1), some (.int a2)], [], mT s) = T := by
  unfold f_M_sell
  refine w_go K 2 (c' := (2, [some (.ref 116), some (.int a1), some (.int a2)], [.int 1, .int a1], mT s)) rfl ?_
  refine w_iltT K rfl (fun _ => ?_) (fun _ => ?_)
  · refine w_go K 1 (c' := (26, [some (.ref 116), some (.int a1), some (.int a2)], [.int (-1)], mT s)) rfl ?_
    exact w_ret K rfl (hK _)
  · refine w_go K 3 (c' := (9, [some (.ref 116), some (.int a1), some (.int a2)], [.int 99, .int 0, .int a2], mT s)) rfl ?_
    refine w_callLT K (E := f_M_isIn a2 (0 : Int32) (99 : Int32) s) (g := fun (x10 : Int32) => (some (.int x10), mT s)) rfl (m_M_isIn (len := len) (xs := xs) (d + 0) a2 (0 : Int32) (99 : Int32) s) (fun x10 => ?_)
    refine w_go K 0 (c' := (12, [some (.ref 116), some (.int a1), some (.int a2)], [.int x10], mT s)) rfl ?_
    refine w_zeqT K rfl (fun _ => ?_) (fun _ => ?_)
    · refine w_go K 1 (c' := (26, [some (.ref 116), some (.int a1), some (.int a2)], [.int (-1)], mT s)) rfl ?_
      exact w_ret K rfl (hK _)
    · refine w_go K 5 (c' := (22, [some (.ref 116), some (.int a1), some (.int a2)], [.int (lg_cmp (Int32.toInt64 a1) (gL s 116 42))], mT s)) rfl ?_
      refine w_zleT K rfl (fun _ => ?_) (fun _ => ?_)
      · refine w_go K 20 (c' := (57, [some (.ref 116), some (.int a1), some (.int a2)], [.int (Int64.toInt32 ((gL s 116 42) - (Int32.toInt64 a1)))], mT (sL (sL s 116 42 ((gL s 116 42) - (Int32.toInt64 a1))) 116 40 ((gL s 116 40) + ((Int32.toInt64 a1) * (Int32.toInt64 a2)))))) rfl ?_
        exact w_ret K rfl (hK _)
      · refine w_go K 1 (c' := (26, [some (.ref 116), some (.int a1), some (.int a2)], [.int (-1)], mT s)) rfl ?_
        exact w_ret K rfl (hK _)
theorem m_M_sell {len : Nat} {xs : Nat → Int32}  (d : Nat) (a1 : Int32) (a2 : Int32) (s : mS) : True → mm_call (mm_X len xs) mm_Y (d + 2) 203 [.ref 116, .int a1, .int a2] (mT s) = some (some (.int (f_M_sell a1 a2 s).1), mT (f_M_sell a1 a2 s).2) := fun h => t_M_sell (len := len) (xs := xs) d a1 a2 s (fun t => (some (some (.int t.1), mT t.2) : Option mm_R) = some (some (.int (f_M_sell a1 a2 s).1), mT (f_M_sell a1 a2 s).2)) (fun _ h => h) h rfl
def lp_Laws_store_3 (a1 : Int32) : Nat → Int32 → mS → Int32 × mS
  | 0, v2, s => (v2, s)
  | n + 1, v2, s => (if v2 < 0 then (v2, s) else (if (600 : Int32) ≤ (gI s 36 5) then (lp_Laws_store_3 a1 n (v2 + (-8)) s) else (lp_Laws_store_3 a1 n (v2 + (-8)) (sI (sI s 36 5 ((gI s 36 5) + 1)) 37 (ix (gI s 36 5)) ((Int32.toUInt32 a1 >>> (Int32.toUInt32 v2 &&& Int32.toUInt32 31)).toInt32 &&& 255)))))
def okl_Laws_store_3 (a1 : Int32) : Nat → Int32 → mS → Prop
  | 0, v2, s => False
  | n + 1, v2, s => (if v2 < 0 then True else (if (600 : Int32) ≤ (gI s 36 5) then (okl_Laws_store_3 a1 n (v2 + (-8)) s) else (mm_inb (gI s 36 5) 600 = true ∧ (okl_Laws_store_3 a1 n (v2 + (-8)) (sI (sI s 36 5 ((gI s 36 5) + 1)) 37 (ix (gI s 36 5)) ((Int32.toUInt32 a1 >>> (Int32.toUInt32 v2 &&& Int32.toUInt32 31)).toInt32 &&& 255))))))
set_option maxRecDepth 4000 in
theorem tl_Laws_store_3 {len : Nat} {xs : Nat → Int32}  (d : Nat) (a1 : Int32)  {T : Option mm_R} (K : Int32 × mS → Prop) (hX : ∀ r, K r → mm_fix (mm_X len xs) mm_Y (mm_call (mm_X len xs) mm_Y (d + 0)) (mm_look mc_Laws_store) (46, [some (.ref 36), some (.int a1), some (.int r.1)], [], mT r.2) = T) : ∀ (n : Nat), ∀ (v2 : Int32) (s : mS), okl_Laws_store_3 a1 n v2 s → K (lp_Laws_store_3 a1 n v2 s) → mm_fix (mm_X len xs) mm_Y (mm_call (mm_X len xs) mm_Y (d + 0)) (mm_look mc_Laws_store) (3, [some (.ref 36), some (.int a1), some (.int v2)], [], mT s) = T := by
  intro n
  induction n with
  | zero => intro v2 s; exact fun h => h.elim
  | succ n ih =>
    intro v2 s
    rw [okl_Laws_store_3, lp_Laws_store_3]
    refine w_go K 1 (c' := (4, [some (.ref 36), some (.int a1), some (.int v2)], [.int v2], mT s)) rfl ?_
    refine w_zlt K rfl (fun _ => ?_) (fun _ => ?_)
    · refine w_go K 0 (c' := (46, [some (.ref 36), some (.int a1), some (.int v2)], [], mT s)) rfl ?_
      exact fun _ b => hX _ b
    · refine w_go K 3 (c' := (14, [some (.ref 36), some (.int a1), some (.int v2)], [.int 600, .int (gI s 36 5)], mT s)) rfl ?_
      refine w_ige K rfl (fun _ => ?_) (fun _ => ?_)
      · refine w_go K 2 (c' := (3, [some (.ref 36), some (.int a1), some (.int (v2 + (-8)))], [], mT s)) rfl ?_
        exact fun a b => ih (v2 + (-8)) s a b
      · refine w_go K 14 (c' := (39, [some (.ref 36), some (.int a1), some (.int v2)], [.int ((Int32.toUInt32 a1 >>> (Int32.toUInt32 v2 &&& Int32.toUInt32 31)).toInt32 &&& 255), .int (gI s 36 5), .ref 37], mT (sI s 36 5 ((gI s 36 5) + 1)))) rfl ?_
        refine w_ck K (st_iS rfl rfl) ?_
        refine w_go K 2 (c' := (3, [some (.ref 36), some (.int a1), some (.int (v2 + (-8)))], [], mT (sI (sI s 36 5 ((gI s 36 5) + 1)) 37 (ix (gI s 36 5)) ((Int32.toUInt32 a1 >>> (Int32.toUInt32 v2 &&& Int32.toUInt32 31)).toInt32 &&& 255)))) rfl ?_
        exact fun a b => ih (v2 + (-8)) (sI (sI s 36 5 ((gI s 36 5) + 1)) 37 (ix (gI s 36 5)) ((Int32.toUInt32 a1 >>> (Int32.toUInt32 v2 &&& Int32.toUInt32 31)).toInt32 &&& 255)) a b
def f_Laws_store (a1 : Int32) (s : mS) : mS := (mq_let (lp_Laws_store_3 a1 mm_N (24 : Int32) s) (fun (x10 : Int32 × mS) => x10.2))
def ok_Laws_store (a1 : Int32) (s : mS) : Prop := (okl_Laws_store_3 a1 mm_N (24 : Int32) s ∧ mq_letP (lp_Laws_store_3 a1 mm_N (24 : Int32) s) (fun (x10 : Int32 × mS) => True))
set_option maxRecDepth 4000 in
theorem t_Laws_store {len : Nat} {xs : Nat → Int32}  (d : Nat) (a1 : Int32) (s : mS) {T : Option mm_R} (K : mS → Prop) (hK : ∀ t, K t → some (none, mT t) = T) : ok_Laws_store a1 s → K (f_Laws_store a1 s) → mm_fix (mm_X len xs) mm_Y (mm_call (mm_X len xs) mm_Y (d + 0)) (mm_look mc_Laws_store) (0, [some (.ref 36), some (.int a1), none], [], mT s) = T := by
  unfold ok_Laws_store f_Laws_store
  refine w_go K 2 (c' := (3, [some (.ref 36), some (.int a1), some (.int 24)], [], mT s)) rfl ?_
  refine w_join K (fun (x10 : Int32 × mS) => mm_fix (mm_X len xs) mm_Y (mm_call (mm_X len xs) mm_Y (d + 0)) (mm_look mc_Laws_store) (46, [some (.ref 36), some (.int a1), some (.int x10.1)], [], mT x10.2) = T) (fun K hJ => tl_Laws_store_3 (len := len) (xs := xs) d a1 (T := T) K hJ mm_N (24 : Int32) s) (fun x10 h1 h2 => ?_)
  revert h1 h2
  refine w_go K 0 (c' := (46, [some (.ref 36), some (.int a1), some (.int x10.1)], [], mT x10.2)) rfl ?_
  exact w_ret K rfl (hK _)
theorem m_Laws_store {len : Nat} {xs : Nat → Int32}  (d : Nat) (a1 : Int32) (s : mS) : ok_Laws_store a1 s → mm_call (mm_X len xs) mm_Y (d + 1) 81 [.ref 36, .int a1] (mT s) = some (none, mT (f_Laws_store a1 s)) := fun h => t_Laws_store (len := len) (xs := xs) d a1 s (fun t => (some (none, mT t) : Option mm_R) = some (none, mT (f_Laws_store a1 s))) (fun _ h => h) h rfl
def f_G_feed (a1 : Int32) (a2 : Int32) (a3 : Int32) (a4 : Int32) (a5 : Int32) (s : mS) : Int32 × mS := (if ((gI s 36 5) + 20) ≤ 600 then (mq_let (f_Laws_store a1 s) (fun (x10 : mS) => (mq_let (f_Laws_store a2 x10) (fun (x11 : mS) => (mq_let (f_Laws_store a3 x11) (fun (x12 : mS) => (mq_let (f_Laws_store a4 x12) (fun (x13 : mS) => (mq_let (f_Laws_store a5 x13) (fun (x14 : mS) => ((gI x14 36 5), x14))))))))))) else ((-1), s))
def ok_G_feed (a1 : Int32) (a2 : Int32) (a3 : Int32) (a4 : Int32) (a5 : Int32) (s : mS) : Prop := (if ((gI s 36 5) + 20) ≤ 600 then (ok_Laws_store a1 s ∧ mq_letP (f_Laws_store a1 s) (fun (x10 : mS) => (ok_Laws_store a2 x10 ∧ mq_letP (f_Laws_store a2 x10) (fun (x11 : mS) => (ok_Laws_store a3 x11 ∧ mq_letP (f_Laws_store a3 x11) (fun (x12 : mS) => (ok_Laws_store a4 x12 ∧ mq_letP (f_Laws_store a4 x12) (fun (x13 : mS) => (ok_Laws_store a5 x13 ∧ mq_letP (f_Laws_store a5 x13) (fun (x14 : mS) => True)))))))))) else True)
set_option maxRecDepth 4000 in
theorem t_G_feed {len : Nat} {xs : Nat → Int32}  (d : Nat) (a1 : Int32) (a2 : Int32) (a3 : Int32) (a4 : Int32) (a5 : Int32) (s : mS) {T : Option mm_R} (K : Int32 × mS → Prop) (hK : ∀ t, K t → some (some (.int t.1), mT t.2) = T) : ok_G_feed a1 a2 a3 a4 a5 s → K (f_G_feed a1 a2 a3 a4 a5 s) → mm_fix (mm_X len xs) mm_Y (mm_call (mm_X len xs) mm_Y (d + 1)) (mm_look mc_G_feed) (0, [some (.ref 0), some (.int a1), some (.int a2), some (.int a3), some (.int a4), some (.int a5)], [], mT s) = T := by
  unfold ok_G_feed f_G_feed
  refine w_go K 6 (c' := (13, [some (.ref 0), some (.int a1), some (.int a2), some (.int a3), some (.int a4), some (.int a5)], [.int 600, .int ((gI s 36 5) + 20)], mT s)) rfl ?_
  refine w_ile K rfl (fun _ => ?_) (fun _ => ?_)
  · refine w_go K 3 (c' := (23, [some (.ref 0), some (.int a1), some (.int a2), some (.int a3), some (.int a4), some (.int a5)], [.int a1, .ref 36], mT s)) rfl ?_
    refine w_callL K (E := f_Laws_store a1 s) (g := fun (x10 : mS) => (none, mT x10)) rfl (m_Laws_store (len := len) (xs := xs) (d + 0) a1 s) (fun x10 => ?_)
    refine w_go K 3 (c' := (31, [some (.ref 0), some (.int a1), some (.int a2), some (.int a3), some (.int a4), some (.int a5)], [.int a2, .ref 36], mT x10)) rfl ?_
    refine w_callL K (E := f_Laws_store a2 x10) (g := fun (x11 : mS) => (none, mT x11)) rfl (m_Laws_store (len := len) (xs := xs) (d + 0) a2 x10) (fun x11 => ?_)
    refine w_go K 3 (c' := (39, [some (.ref 0), some (.int a1), some (.int a2), some (.int a3), some (.int a4), some (.int a5)], [.int a3, .ref 36], mT x11)) rfl ?_
    refine w_callL K (E := f_Laws_store a3 x11) (g := fun (x12 : mS) => (none, mT x12)) rfl (m_Laws_store (len := len) (xs := xs) (d + 0) a3 x11) (fun x12 => ?_)
    refine w_go K 3 (c' := (48, [some (.ref 0), some (.int a1), some (.int a2), some (.int a3), some (.int a4), some (.int a5)], [.int a4, .ref 36], mT x12)) rfl ?_
    refine w_callL K (E := f_Laws_store a4 x12) (g := fun (x13 : mS) => (none, mT x13)) rfl (m_Laws_store (len := len) (xs := xs) (d + 0) a4 x12) (fun x13 => ?_)
    refine w_go K 3 (c' := (57, [some (.ref 0), some (.int a1), some (.int a2), some (.int a3), some (.int a4), some (.int a5)], [.int a5, .ref 36], mT x13)) rfl ?_
    refine w_callL K (E := f_Laws_store a5 x13) (g := fun (x14 : mS) => (none, mT x14)) rfl (m_Laws_store (len := len) (xs := xs) (d + 0) a5 x13) (fun x14 => ?_)
    refine w_go K 3 (c' := (67, [some (.ref 0), some (.int a1), some (.int a2), some (.int a3), some (.int a4), some (.int a5)], [.int (gI x14 36 5)], mT x14)) rfl ?_
    exact w_ret K rfl (hK _)
  · refine w_go K 1 (c' := (17, [some (.ref 0), some (.int a1), some (.int a2), some (.int a3), some (.int a4), some (.int a5)], [.int (-1)], mT s)) rfl ?_
    exact w_ret K rfl (hK _)
theorem m_G_feed {len : Nat} {xs : Nat → Int32}  (d : Nat) (a1 : Int32) (a2 : Int32) (a3 : Int32) (a4 : Int32) (a5 : Int32) (s : mS) : ok_G_feed a1 a2 a3 a4 a5 s → mm_call (mm_X len xs) mm_Y (d + 2) 80 [.ref 0, .int a1, .int a2, .int a3, .int a4, .int a5] (mT s) = some (some (.int (f_G_feed a1 a2 a3 a4 a5 s).1), mT (f_G_feed a1 a2 a3 a4 a5 s).2) := fun h => t_G_feed (len := len) (xs := xs) d a1 a2 a3 a4 a5 s (fun t => (some (some (.int t.1), mT t.2) : Option mm_R) = some (some (.int (f_G_feed a1 a2 a3 a4 a5 s).1), mT (f_G_feed a1 a2 a3 a4 a5 s).2)) (fun _ h => h) h rfl
def lp_M_feed_18 (a1 : Int32) (a2 : Int32) (a3 : Int32) (a4 : Int32) (a5 : Int32) : Nat → Int32 → mS → Int32 × mS
  | 0, v6, s => (v6, s)
  | n + 1, v6, s => (if (20 : Int32) ≤ v6 then (v6, s) else (mq_let (if (4 : Int32) ≤ v6 then (if (8 : Int32) ≤ v6 then (if (12 : Int32) ≤ v6 then (if (16 : Int32) ≤ v6 then a5 else a4) else a3) else a2) else a1) (fun (x10 : Int32) => (lp_M_feed_18 a1 a2 a3 a4 a5 n (v6 + 1) (sI (sI s 167 (ix (gI s 116 80)) ((x10 >>> ((24 - (8 * (v6 - v6 / 4 * 4))) &&& 31)) &&& 255)) 116 80 ((gI s 116 80) + 1))))))
def okl_M_feed_18 (a1 : Int32) (a2 : Int32) (a3 : Int32) (a4 : Int32) (a5 : Int32) : Nat → Int32 → mS → Prop
  | 0, v6, s => False
  | n + 1, v6, s => (if (20 : Int32) ≤ v6 then True else (True ∧ mq_letP (if (4 : Int32) ≤ v6 then (if (8 : Int32) ≤ v6 then (if (12 : Int32) ≤ v6 then (if (16 : Int32) ≤ v6 then a5 else a4) else a3) else a2) else a1) (fun (x10 : Int32) => (mm_inb (gI s 116 80) 600 = true ∧ (okl_M_feed_18 a1 a2 a3 a4 a5 n (v6 + 1) (sI (sI s 167 (ix (gI s 116 80)) ((x10 >>> ((24 - (8 * (v6 - v6 / 4 * 4))) &&& 31)) &&& 255)) 116 80 ((gI s 116 80) + 1)))))))
set_option maxRecDepth 4000 in
theorem tl_M_feed_18 {len : Nat} {xs : Nat → Int32}  (d : Nat) (a1 : Int32) (a2 : Int32) (a3 : Int32) (a4 : Int32) (a5 : Int32)  {T : Option mm_R} (K : Int32 × mS → Prop) (hX : ∀ r, K r → ∀ (o7 : Option Value), mm_fix (mm_X len xs) mm_Y (mm_call (mm_X len xs) mm_Y (d + 0)) (mm_look mc_M_feed) (115, [some (.ref 116), some (.int a1), some (.int a2), some (.int a3), some (.int a4), some (.int a5), some (.int r.1), o7], [], mT r.2) = T) : ∀ (n : Nat), ∀ (v6 : Int32) (o7 : Option Value) (s : mS), okl_M_feed_18 a1 a2 a3 a4 a5 n v6 s → K (lp_M_feed_18 a1 a2 a3 a4 a5 n v6 s) → mm_fix (mm_X len xs) mm_Y (mm_call (mm_X len xs) mm_Y (d + 0)) (mm_look mc_M_feed) (18, [some (.ref 116), some (.int a1), some (.int a2), some (.int a3), some (.int a4), some (.int a5), some (.int v6), o7], [], mT s) = T := by
  intro n
  induction n with
  | zero => intro v6 o7 s; exact fun h => h.elim
  | succ n ih =>
    intro v6 o7 s
    rw [okl_M_feed_18, lp_M_feed_18]
    refine w_go K 2 (c' := (22, [some (.ref 116), some (.int a1), some (.int a2), some (.int a3), some (.int a4), some (.int a5), some (.int v6), o7], [.int 20, .int v6], mT s)) rfl ?_
    refine w_ige K rfl (fun _ => ?_) (fun _ => ?_)
    · refine w_go K 0 (c' := (115, [some (.ref 116), some (.int a1), some (.int a2), some (.int a3), some (.int a4), some (.int a5), some (.int v6), o7], [], mT s)) rfl ?_
      exact fun _ b => hX _ b _
    · refine w_go K 2 (c' := (28, [some (.ref 116), some (.int a1), some (.int a2), some (.int a3), some (.int a4), some (.int a5), some (.int v6), o7], [.int 4, .int v6], mT s)) rfl ?_
      refine w_join K (fun (x10 : Int32) => mm_fix (mm_X len xs) mm_Y (mm_call (mm_X len xs) mm_Y (d + 0)) (mm_look mc_M_feed) (71, [some (.ref 116), some (.int a1), some (.int a2), some (.int a3), some (.int a4), some (.int a5), some (.int v6), o7], [.int x10], mT s) = T) (fun K hJ => ?_) (fun x10 h1 h2 => ?_)
      · refine w_go K 0 (c' := (28, [some (.ref 116), some (.int a1), some (.int a2), some (.int a3), some (.int a4), some (.int a5), some (.int v6), o7], [.int 4, .int v6], mT s)) rfl ?_
        refine w_igeT K rfl (fun _ => ?_) (fun _ => ?_)
        · refine w_go K 2 (c' := (39, [some (.ref 116), some (.int a1), some (.int a2), some (.int a3), some (.int a4), some (.int a5), some (.int v6), o7], [.int 8, .int v6], mT s)) rfl ?_
          refine w_igeT K rfl (fun _ => ?_) (fun _ => ?_)
          · refine w_go K 2 (c' := (50, [some (.ref 116), some (.int a1), some (.int a2), some (.int a3), some (.int a4), some (.int a5), some (.int v6), o7], [.int 12, .int v6], mT s)) rfl ?_
            refine w_igeT K rfl (fun _ => ?_) (fun _ => ?_)
            · refine w_go K 2 (c' := (61, [some (.ref 116), some (.int a1), some (.int a2), some (.int a3), some (.int a4), some (.int a5), some (.int v6), o7], [.int 16, .int v6], mT s)) rfl ?_
              refine w_igeT K rfl (fun _ => ?_) (fun _ => ?_)
              · refine w_go K 1 (c' := (71, [some (.ref 116), some (.int a1), some (.int a2), some (.int a3), some (.int a4), some (.int a5), some (.int v6), o7], [.int a5], mT s)) rfl ?_
                exact fun _ h => hJ _ h
              · refine w_go K 2 (c' := (71, [some (.ref 116), some (.int a1), some (.int a2), some (.int a3), some (.int a4), some (.int a5), some (.int v6), o7], [.int a4], mT s)) rfl ?_
                exact fun _ h => hJ _ h
            · refine w_go K 2 (c' := (71, [some (.ref 116), some (.int a1), some (.int a2), some (.int a3), some (.int a4), some (.int a5), some (.int v6), o7], [.int a3], mT s)) rfl ?_
              exact fun _ h => hJ _ h
          · refine w_go K 2 (c' := (71, [some (.ref 116), some (.int a1), some (.int a2), some (.int a3), some (.int a4), some (.int a5), some (.int v6), o7], [.int a2], mT s)) rfl ?_
            exact fun _ h => hJ _ h
        · refine w_go K 2 (c' := (71, [some (.ref 116), some (.int a1), some (.int a2), some (.int a3), some (.int a4), some (.int a5), some (.int v6), o7], [.int a1], mT s)) rfl ?_
          exact fun _ h => hJ _ h
      · revert h1 h2
        refine w_go K 16 (c' := (98, [some (.ref 116), some (.int a1), some (.int a2), some (.int a3), some (.int a4), some (.int a5), some (.int v6), some (.int x10)], [.int ((x10 >>> ((24 - (8 * (v6 - v6 / 4 * 4))) &&& 31)) &&& 255), .int (gI s 116 80), .ref 167], mT s)) rfl ?_
        refine w_ck K (st_iS rfl rfl) ?_
        refine w_go K 8 (c' := (18, [some (.ref 116), some (.int a1), some (.int a2), some (.int a3), some (.int a4), some (.int a5), some (.int (v6 + 1)), some (.int x10)], [], mT (sI (sI s 167 (ix (gI s 116 80)) ((x10 >>> ((24 - (8 * (v6 - v6 / 4 * 4))) &&& 31)) &&& 255)) 116 80 ((gI s 116 80) + 1)))) rfl ?_
        exact fun a b => ih (v6 + 1) _ (sI (sI s 167 (ix (gI s 116 80)) ((x10 >>> ((24 - (8 * (v6 - v6 / 4 * 4))) &&& 31)) &&& 255)) 116 80 ((gI s 116 80) + 1)) a b
def f_M_feed (a1 : Int32) (a2 : Int32) (a3 : Int32) (a4 : Int32) (a5 : Int32) (s : mS) : Int32 × mS := (if ((gI s 116 80) + 20) ≤ 600 then (mq_let (lp_M_feed_18 a1 a2 a3 a4 a5 mm_N (0 : Int32) s) (fun (x11 : Int32 × mS) => ((gI x11.2 116 80), x11.2))) else ((-1), s))
def ok_M_feed (a1 : Int32) (a2 : Int32) (a3 : Int32) (a4 : Int32) (a5 : Int32) (s : mS) : Prop := (if ((gI s 116 80) + 20) ≤ 600 then (okl_M_feed_18 a1 a2 a3 a4 a5 mm_N (0 : Int32) s ∧ mq_letP (lp_M_feed_18 a1 a2 a3 a4 a5 mm_N (0 : Int32) s) (fun (x11 : Int32 × mS) => True)) else True)
set_option maxRecDepth 4000 in
theorem t_M_feed {len : Nat} {xs : Nat → Int32}  (d : Nat) (a1 : Int32) (a2 : Int32) (a3 : Int32) (a4 : Int32) (a5 : Int32) (s : mS) {T : Option mm_R} (K : Int32 × mS → Prop) (hK : ∀ t, K t → some (some (.int t.1), mT t.2) = T) : ok_M_feed a1 a2 a3 a4 a5 s → K (f_M_feed a1 a2 a3 a4 a5 s) → mm_fix (mm_X len xs) mm_Y (mm_call (mm_X len xs) mm_Y (d + 0)) (mm_look mc_M_feed) (0, [some (.ref 116), some (.int a1), some (.int a2), some (.int a3), some (.int a4), some (.int a5), none, none], [], mT s) = T := by
  unfold ok_M_feed f_M_feed
  refine w_go K 5 (c' := (10, [some (.ref 116), some (.int a1), some (.int a2), some (.int a3), some (.int a4), some (.int a5), none, none], [.int 600, .int ((gI s 116 80) + 20)], mT s)) rfl ?_
  refine w_ile K rfl (fun _ => ?_) (fun _ => ?_)
  · refine w_go K 2 (c' := (18, [some (.ref 116), some (.int a1), some (.int a2), some (.int a3), some (.int a4), some (.int a5), some (.int 0), none], [], mT s)) rfl ?_
    refine w_join K (fun (x11 : Int32 × mS) => ∀ (q12 : Option Value), mm_fix (mm_X len xs) mm_Y (mm_call (mm_X len xs) mm_Y (d + 0)) (mm_look mc_M_feed) (115, [some (.ref 116), some (.int a1), some (.int a2), some (.int a3), some (.int a4), some (.int a5), some (.int x11.1), q12], [], mT x11.2) = T) (fun K hJ => tl_M_feed_18 (len := len) (xs := xs) d a1 a2 a3 a4 a5 (T := T) K hJ mm_N (0 : Int32) _ s) (fun x11 h1 h2 q12 => ?_)
    revert h1 h2
    refine w_go K 2 (c' := (119, [some (.ref 116), some (.int a1), some (.int a2), some (.int a3), some (.int a4), some (.int a5), some (.int x11.1), q12], [.int (gI x11.2 116 80)], mT x11.2)) rfl ?_
    exact w_ret K rfl (hK _)
  · refine w_go K 1 (c' := (14, [some (.ref 116), some (.int a1), some (.int a2), some (.int a3), some (.int a4), some (.int a5), none, none], [.int (-1)], mT s)) rfl ?_
    exact w_ret K rfl (hK _)
theorem m_M_feed {len : Nat} {xs : Nat → Int32}  (d : Nat) (a1 : Int32) (a2 : Int32) (a3 : Int32) (a4 : Int32) (a5 : Int32) (s : mS) : ok_M_feed a1 a2 a3 a4 a5 s → mm_call (mm_X len xs) mm_Y (d + 1) 204 [.ref 116, .int a1, .int a2, .int a3, .int a4, .int a5] (mT s) = some (some (.int (f_M_feed a1 a2 a3 a4 a5 s).1), mT (f_M_feed a1 a2 a3 a4 a5 s).2) := fun h => t_M_feed (len := len) (xs := xs) d a1 a2 a3 a4 a5 s (fun t => (some (some (.int t.1), mT t.2) : Option mm_R) = some (some (.int (f_M_feed a1 a2 a3 a4 a5 s).1), mT (f_M_feed a1 a2 a3 a4 a5 s).2)) (fun _ h => h) h rfl
def f_G_end (a1 : Int32) (s : mS) : Int32 × mS := (mq_let (f_G_within a1 (0 : Int32) (gI s 36 5) s) (fun (x10 : Int32) => (if x10 = 0 then (0, s) else (1, sI s 36 5 a1))))
set_option maxRecDepth 4000 in
theorem t_G_end {len : Nat} {xs : Nat → Int32}  (d : Nat) (a1 : Int32) (s : mS) {T : Option mm_R} (K : Int32 × mS → Prop) (hK : ∀ t, K t → some (some (.int t.1), mT t.2) = T) : True → K (f_G_end a1 s) → mm_fix (mm_X len xs) mm_Y (mm_call (mm_X len xs) mm_Y (d + 1)) (mm_look mc_G_end) (0, [some (.ref 0), some (.int a1)], [], mT s) = T := by
  unfold f_G_end
  refine w_go K 5 (c' := (9, [some (.ref 0), some (.int a1)], [.int (gI s 36 5), .int 0, .int a1], mT s)) rfl ?_
  refine w_callLT K (E := f_G_within a1 (0 : Int32) (gI s 36 5) s) (g := fun (x10 : Int32) => (some (.int x10), mT s)) rfl (m_G_within (len := len) (xs := xs) (d + 0) a1 (0 : Int32) (gI s 36 5) s) (fun x10 => ?_)
  refine w_go K 0 (c' := (12, [some (.ref 0), some (.int a1)], [.int x10], mT s)) rfl ?_
  refine w_zneT K rfl (fun _ => ?_) (fun _ => ?_)
  · refine w_go K 1 (c' := (16, [some (.ref 0), some (.int a1)], [.int 0], mT s)) rfl ?_
    exact w_ret K rfl (hK _)
  · refine w_go K 5 (c' := (26, [some (.ref 0), some (.int a1)], [.int 1], mT (sI s 36 5 a1))) rfl ?_
    exact w_ret K rfl (hK _)
theorem m_G_end {len : Nat} {xs : Nat → Int32}  (d : Nat) (a1 : Int32) (s : mS) : True → mm_call (mm_X len xs) mm_Y (d + 2) 82 [.ref 0, .int a1] (mT s) = some (some (.int (f_G_end a1 s).1), mT (f_G_end a1 s).2) := fun h => t_G_end (len := len) (xs := xs) d a1 s (fun t => (some (some (.int t.1), mT t.2) : Option mm_R) = some (some (.int (f_G_end a1 s).1), mT (f_G_end a1 s).2)) (fun _ h => h) h rfl
def f_M_end (a1 : Int32) (s : mS) : Int32 × mS := (mq_let (f_M_isIn a1 (0 : Int32) (gI s 116 80) s) (fun (x10 : Int32) => (if x10 = 0 then (0, s) else (1, sI s 116 80 a1))))
set_option maxRecDepth 4000 in
theorem t_M_end {len : Nat} {xs : Nat → Int32}  (d : Nat) (a1 : Int32) (s : mS) {T : Option mm_R} (K : Int32 × mS → Prop) (hK : ∀ t, K t → some (some (.int t.1), mT t.2) = T) : True → K (f_M_end a1 s) → mm_fix (mm_X len xs) mm_Y (mm_call (mm_X len xs) mm_Y (d + 1)) (mm_look mc_M_end) (0, [some (.ref 116), some (.int a1)], [], mT s) = T := by
  unfold f_M_end
  refine w_go K 4 (c' := (6, [some (.ref 116), some (.int a1)], [.int (gI s 116 80), .int 0, .int a1], mT s)) rfl ?_
  refine w_callLT K (E := f_M_isIn a1 (0 : Int32) (gI s 116 80) s) (g := fun (x10 : Int32) => (some (.int x10), mT s)) rfl (m_M_isIn (len := len) (xs := xs) (d + 0) a1 (0 : Int32) (gI s 116 80) s) (fun x10 => ?_)
  refine w_go K 0 (c' := (9, [some (.ref 116), some (.int a1)], [.int x10], mT s)) rfl ?_
  refine w_zneT K rfl (fun _ => ?_) (fun _ => ?_)
  · refine w_go K 1 (c' := (13, [some (.ref 116), some (.int a1)], [.int 0], mT s)) rfl ?_
    exact w_ret K rfl (hK _)
  · refine w_go K 4 (c' := (20, [some (.ref 116), some (.int a1)], [.int 1], mT (sI s 116 80 a1))) rfl ?_
    exact w_ret K rfl (hK _)
theorem m_M_end {len : Nat} {xs : Nat → Int32}  (d : Nat) (a1 : Int32) (s : mS) : True → mm_call (mm_X len xs) mm_Y (d + 2) 205 [.ref 116, .int a1] (mT s) = some (some (.int (f_M_end a1 s).1), mT (f_M_end a1 s).2) := fun h => t_M_end (len := len) (xs := xs) d a1 s (fun t => (some (some (.int t.1), mT t.2) : Option mm_R) = some (some (.int (f_M_end a1 s).1), mT (f_M_end a1 s).2)) (fun _ h => h) h rfl
def f_Act_clear (r0 : Nat) (s : mS) : mS := sI (sI s r0 7 0) r0 8 0
set_option maxRecDepth 4000 in
theorem t_Act_clear {len : Nat} {xs : Nat → Int32} (r0 : Nat) (hr0 : mq_A r0) (d : Nat)  (s : mS) {T : Option mm_R} (K : mS → Prop) (hK : ∀ t, K t → some (none, mT t) = T) : True → K (f_Act_clear r0 s) → mm_fix (mm_X len xs) mm_Y (mm_call (mm_X len xs) mm_Y (d + 0)) (mm_look mc_Act_clear) (0, [some (.ref r0)], [], mT s) = T := by
  unfold f_Act_clear
  refine w_go K 2 (c' := (2, [some (.ref r0)], [.int 0, .ref r0], mT s)) rfl ?_
  refine w_st K (c' := (5, [some (.ref r0)], [], mT (sI s r0 7 0))) (st_pI (len := 3) (b := 7) rfl hr0) ?_
  refine w_go K 2 (c' := (7, [some (.ref r0)], [.int 0, .ref r0], mT (sI s r0 7 0))) rfl ?_
  refine w_st K (c' := (10, [some (.ref r0)], [], mT (sI (sI s r0 7 0) r0 8 0))) (st_pI (len := 3) (b := 8) rfl hr0) ?_
  refine w_go K 0 (c' := (10, [some (.ref r0)], [], mT (sI (sI s r0 7 0) r0 8 0))) rfl ?_
  exact w_ret K rfl (hK _)
theorem m_Act_clear {len : Nat} {xs : Nat → Int32} (r0 : Nat) (hr0 : mq_A r0) (d : Nat)  (s : mS) : True → mm_call (mm_X len xs) mm_Y (d + 1) 86 [.ref r0] (mT s) = some (none, mT (f_Act_clear r0 s)) := fun h => t_Act_clear (len := len) (xs := xs) r0 hr0 d s (fun t => (some (none, mT t) : Option mm_R) = some (none, mT (f_Act_clear r0 s))) (fun _ h => h) h rfl
def f_Parser_signAt (a1 : Int32) (s : mS) : Int32 := (if a1 < 0 then (-1) else (if (gI s 80 1) ≤ a1 then (-1) else (if (600 : Int32) ≤ a1 then (-1) else (gI s 37 (ix a1)))))
def ok_Parser_signAt (a1 : Int32) (s : mS) : Prop := (if a1 < 0 then True else (if (gI s 80 1) ≤ a1 then True else ((gP s 5) = 48 ∧ (if (600 : Int32) ≤ a1 then True else ((gP s 5) = 48 ∧ (mm_inb a1 600 = true ∧ True))))))
set_option maxRecDepth 4000 in
theorem t_Parser_signAt {len : Nat} {xs : Nat → Int32}  (d : Nat) (a1 : Int32) (s : mS) {T : Option mm_R} (K : Int32 → Prop) (hK : ∀ t, K t → some (some (.int t), mT s) = T) : ok_Parser_signAt a1 s → K (f_Parser_signAt a1 s) → mm_fix (mm_X len xs) mm_Y (mm_call (mm_X len xs) mm_Y (d + 0)) (mm_look mc_Parser_signAt) (0, [some (.ref 80), some (.int a1)], [], mT s) = T := by
  unfold ok_Parser_signAt f_Parser_signAt
  refine w_go K 1 (c' := (1, [some (.ref 80), some (.int a1)], [.int a1], mT s)) rfl ?_
  refine w_zlt K rfl (fun _ => ?_) (fun _ => ?_)
  · refine w_go K 1 (c' := (31, [some (.ref 80), some (.int a1)], [.int (-1)], mT s)) rfl ?_
    exact w_ret K rfl (hK _)
  · refine w_go K 3 (c' := (9, [some (.ref 80), some (.int a1)], [.int (gI s 80 1), .int a1], mT s)) rfl ?_
    refine w_ige K rfl (fun _ => ?_) (fun _ => ?_)
    · refine w_go K 1 (c' := (31, [some (.ref 80), some (.int a1)], [.int (-1)], mT s)) rfl ?_
      exact w_ret K rfl (hK _)
    · refine w_go K 2 (c' := (14, [some (.ref 80), some (.int a1)], [.ref 80, .int a1], mT s)) rfl ?_
      refine w_hyp K (fun h11 => ?_)
      refine w_st K (c' := (17, [some (.ref 80), some (.int a1)], [.ref 37, .int a1], mT s)) (st_gT (len := 3) rfl h11) ?_
      refine w_go K 1 (c' := (18, [some (.ref 80), some (.int a1)], [.int 600, .int a1], mT s)) rfl ?_
      refine w_ige K rfl (fun _ => ?_) (fun _ => ?_)
      · refine w_go K 1 (c' := (31, [some (.ref 80), some (.int a1)], [.int (-1)], mT s)) rfl ?_
        exact w_ret K rfl (hK _)
      · refine w_go K 1 (c' := (22, [some (.ref 80), some (.int a1)], [.ref 80], mT s)) rfl ?_
        refine w_hyp K (fun h10 => ?_)
        refine w_st K (c' := (25, [some (.ref 80), some (.int a1)], [.ref 37], mT s)) (st_gT (len := 3) rfl h10) ?_
        refine w_go K 1 (c' := (26, [some (.ref 80), some (.int a1)], [.int a1, .ref 37], mT s)) rfl ?_
        refine w_ck K (st_iL rfl rfl) ?_
        refine w_go K 1 (c' := (31, [some (.ref 80), some (.int a1)], [.int (gI s 37 (ix a1))], mT s)) rfl ?_
        exact w_ret K rfl (hK _)
theorem m_Parser_signAt {len : Nat} {xs : Nat → Int32}  (d : Nat) (a1 : Int32) (s : mS) : ok_Parser_signAt a1 s → mm_call (mm_X len xs) mm_Y (d + 1) 88 [.ref 80, .int a1] (mT s) = some (some (.int (f_Parser_signAt a1 s)), mT s) := fun h => t_Parser_signAt (len := len) (xs := xs) d a1 s (fun t => (some (some (.int t), mT s) : Option mm_R) = some (some (.int (f_Parser_signAt a1 s)), mT s)) (fun _ h => h) h rfl
def f_Parser_isBlank (a0 : Int32) (s : mS) : Int32 := (if a0 = 32 then 1 else (if a0 = 10 then 1 else 0))
set_option maxRecDepth 4000 in
theorem t_Parser_isBlank {len : Nat} {xs : Nat → Int32}  (d : Nat) (a0 : Int32) (s : mS) {T : Option mm_R} (K : Int32 → Prop) (hK : ∀ t, K t → some (some (.int t), mT s) = T) : True → K (f_Parser_isBlank a0 s) → mm_fix (mm_X len xs) mm_Y (mm_call (mm_X len xs) mm_Y (d + 0)) (mm_look mc_Parser_isBlank) (0, [some (.int a0)], [], mT s) = T := by
  unfold f_Parser_isBlank
  refine w_go K 2 (c' := (3, [some (.int a0)], [.int 32, .int a0], mT s)) rfl ?_
  refine w_ieqT K rfl (fun _ => ?_) (fun _ => ?_)
  · refine w_go K 2 (c' := (17, [some (.int a0)], [.int 1], mT s)) rfl ?_
    exact w_ret K rfl (hK _)
  · refine w_go K 2 (c' := (9, [some (.int a0)], [.int 10, .int a0], mT s)) rfl ?_
    refine w_ineT K rfl (fun _ => ?_) (fun _ => ?_)
    · refine w_go K 2 (c' := (17, [some (.int a0)], [.int 1], mT s)) rfl ?_
      exact w_ret K rfl (hK _)
    · refine w_go K 1 (c' := (17, [some (.int a0)], [.int 0], mT s)) rfl ?_
      exact w_ret K rfl (hK _)
theorem m_Parser_isBlank {len : Nat} {xs : Nat → Int32}  (d : Nat) (a0 : Int32) (s : mS) : True → mm_call (mm_X len xs) mm_Y (d + 1) 89 [.int a0] (mT s) = some (some (.int (f_Parser_isBlank a0 s)), mT s) := fun h => t_Parser_isBlank (len := len) (xs := xs) d a0 s (fun t => (some (some (.int t), mT s) : Option mm_R) = some (some (.int (f_Parser_isBlank a0 s)), mT s)) (fun _ h => h) h rfl
