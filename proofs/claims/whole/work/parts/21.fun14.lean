/-! FUNCTIONS OF METHODS, by program: f_ what it does, ok_ that no row fails, m_ the small machine does so. -/
def lp_Net_walkTo_7 (a1 : Int32) (s : mS) : Nat → Int32 → Int32 → Int32 → Int32 × Int32 × Int32
  | 0, v2, v3, v4 => (v2, v3, v4)
  | n + 1, v2, v3, v4 => (if (16 : Int32) ≤ v4 then (v2, v3, v4) else (mq_let (f_Net_hasPipe v3 s) (fun (x10 : Int32) => (if x10 = 0 then (v2, v3, v4) else (lp_Net_walkTo_7 a1 s n (v2 + 1) (gI s 26 (ix v3)) (v4 + 1))))))
def okl_Net_walkTo_7 (a1 : Int32) (s : mS) : Nat → Int32 → Int32 → Int32 → Prop
  | 0, v2, v3, v4 => False
  | n + 1, v2, v3, v4 => (if (16 : Int32) ≤ v4 then True else (True ∧ mq_letP (f_Net_hasPipe v3 s) (fun (x10 : Int32) => (if x10 = 0 then True else (mm_inb v3 16 = true ∧ (okl_Net_walkTo_7 a1 s n (v2 + 1) (gI s 26 (ix v3)) (v4 + 1)))))))
set_option maxRecDepth 4000 in
theorem tl_Net_walkTo_7 {len : Nat} {xs : Nat → Int32}  (d : Nat) (a1 : Int32) (s : mS) {T : Option mm_R} (K : Int32 × Int32 × Int32 → Prop) (hX : ∀ r, K r → mm_fix (mm_X len xs) mm_Y (mm_call (mm_X len xs) mm_Y (d + 2)) (mm_look mc_Net_walkTo) (38, [some (.ref 25), some (.int a1), some (.int r.1), some (.int r.2.1), some (.int r.2.2)], [], mT s) = T) : ∀ (n : Nat), ∀ (v2 : Int32) (v3 : Int32) (v4 : Int32), okl_Net_walkTo_7 a1 s n v2 v3 v4 → K (lp_Net_walkTo_7 a1 s n v2 v3 v4) → mm_fix (mm_X len xs) mm_Y (mm_call (mm_X len xs) mm_Y (d + 2)) (mm_look mc_Net_walkTo) (7, [some (.ref 25), some (.int a1), some (.int v2), some (.int v3), some (.int v4)], [], mT s) = T := by
  intro n
  induction n with
  | zero => intro v2 v3 v4; exact fun h => h.elim
  | succ n ih =>
    intro v2 v3 v4
    rw [okl_Net_walkTo_7, lp_Net_walkTo_7]
    refine w_go K 2 (c' := (11, [some (.ref 25), some (.int a1), some (.int v2), some (.int v3), some (.int v4)], [.int 16, .int v4], mT s)) rfl ?_
    refine w_ige K rfl (fun _ => ?_) (fun _ => ?_)
    · refine w_go K 0 (c' := (38, [some (.ref 25), some (.int a1), some (.int v2), some (.int v3), some (.int v4)], [], mT s)) rfl ?_
      exact fun _ b => hX _ b
    · refine w_go K 2 (c' := (16, [some (.ref 25), some (.int a1), some (.int v2), some (.int v3), some (.int v4)], [.int v3, .ref 25], mT s)) rfl ?_
      refine w_callL K (E := f_Net_hasPipe v3 s) (g := fun (x10 : Int32) => (some (.int x10), mT s)) rfl (m_Net_hasPipe (len := len) (xs := xs) (d + 0) v3 s) (fun x10 => ?_)
      refine w_go K 0 (c' := (19, [some (.ref 25), some (.int a1), some (.int v2), some (.int v3), some (.int v4)], [.int x10], mT s)) rfl ?_
      refine w_zeq K rfl (fun _ => ?_) (fun _ => ?_)
      · refine w_go K 0 (c' := (38, [some (.ref 25), some (.int a1), some (.int v2), some (.int v3), some (.int v4)], [], mT s)) rfl ?_
        exact fun _ b => hX _ b
      · refine w_go K 4 (c' := (30, [some (.ref 25), some (.int a1), some (.int (v2 + 1)), some (.int v3), some (.int v4)], [.int v3, .ref 26], mT s)) rfl ?_
        refine w_ck K (st_iL rfl rfl) ?_
        refine w_go K 3 (c' := (7, [some (.ref 25), some (.int a1), some (.int (v2 + 1)), some (.int (gI s 26 (ix v3))), some (.int (v4 + 1))], [], mT s)) rfl ?_
        exact fun a b => ih (v2 + 1) (gI s 26 (ix v3)) (v4 + 1) a b
def lp_Net_walkTo_45 (a2 : Int32) : Nat → Int32 → Int32 → mS → Int32 × Int32 × mS
  | 0, v3, v4, s => (v3, v4, s)
  | n + 1, v3, v4, s => (if v4 < 0 then (v3, v4, s) else (mq_let (f_Net_hasPipe v3 s) (fun (x12 : Int32) => (if x12 = 0 then (v3, v4, s) else (lp_Net_walkTo_45 a2 n (gI s 26 (ix v3)) (v4 + (-1)) (sI s 35 (ix v4) v3))))))
def okl_Net_walkTo_45 (a2 : Int32) : Nat → Int32 → Int32 → mS → Prop
  | 0, v3, v4, s => False
  | n + 1, v3, v4, s => (if v4 < 0 then True else (True ∧ mq_letP (f_Net_hasPipe v3 s) (fun (x12 : Int32) => (if x12 = 0 then True else (mm_inb v4 16 = true ∧ (mm_inb v3 16 = true ∧ (okl_Net_walkTo_45 a2 n (gI s 26 (ix v3)) (v4 + (-1)) (sI s 35 (ix v4) v3))))))))
set_option maxRecDepth 4000 in
theorem tl_Net_walkTo_45 {len : Nat} {xs : Nat → Int32}  (d : Nat) (a2 : Int32)  {T : Option mm_R} (K : Int32 × Int32 × mS → Prop) (hX : ∀ r, K r → ∀ (o1 : Option Value), mm_fix (mm_X len xs) mm_Y (mm_call (mm_X len xs) mm_Y (d + 2)) (mm_look mc_Net_walkTo) (79, [some (.ref 25), o1, some (.int a2), some (.int r.1), some (.int r.2.1)], [], mT r.2.2) = T) : ∀ (n : Nat), ∀ (v3 : Int32) (v4 : Int32) (o1 : Option Value) (s : mS), okl_Net_walkTo_45 a2 n v3 v4 s → K (lp_Net_walkTo_45 a2 n v3 v4 s) → mm_fix (mm_X len xs) mm_Y (mm_call (mm_X len xs) mm_Y (d + 2)) (mm_look mc_Net_walkTo) (45, [some (.ref 25), o1, some (.int a2), some (.int v3), some (.int v4)], [], mT s) = T := by
  intro n
  induction n with
  | zero => intro v3 v4 o1 s; exact fun h => h.elim
  | succ n ih =>
    intro v3 v4 o1 s
    rw [okl_Net_walkTo_45, lp_Net_walkTo_45]
    refine w_go K 1 (c' := (47, [some (.ref 25), o1, some (.int a2), some (.int v3), some (.int v4)], [.int v4], mT s)) rfl ?_
    refine w_zlt K rfl (fun _ => ?_) (fun _ => ?_)
    · refine w_go K 0 (c' := (79, [some (.ref 25), o1, some (.int a2), some (.int v3), some (.int v4)], [], mT s)) rfl ?_
      exact fun _ b => hX _ b _
    · refine w_go K 2 (c' := (52, [some (.ref 25), o1, some (.int a2), some (.int v3), some (.int v4)], [.int v3, .ref 25], mT s)) rfl ?_
      refine w_callL K (E := f_Net_hasPipe v3 s) (g := fun (x12 : Int32) => (some (.int x12), mT s)) rfl (m_Net_hasPipe (len := len) (xs := xs) (d + 0) v3 s) (fun x12 => ?_)
      refine w_go K 0 (c' := (55, [some (.ref 25), o1, some (.int a2), some (.int v3), some (.int v4)], [.int x12], mT s)) rfl ?_
      refine w_zeq K rfl (fun _ => ?_) (fun _ => ?_)
      · refine w_go K 0 (c' := (79, [some (.ref 25), o1, some (.int a2), some (.int v3), some (.int v4)], [], mT s)) rfl ?_
        exact fun _ b => hX _ b _
      · refine w_go K 4 (c' := (65, [some (.ref 25), o1, some (.int a2), some (.int v3), some (.int v4)], [.int v3, .int v4, .ref 35], mT s)) rfl ?_
        refine w_ck K (st_iS rfl rfl) ?_
        refine w_go K 3 (c' := (71, [some (.ref 25), o1, some (.int a2), some (.int v3), some (.int v4)], [.int v3, .ref 26], mT (sI s 35 (ix v4) v3))) rfl ?_
        refine w_ck K (st_iL rfl rfl) ?_
        refine w_go K 3 (c' := (45, [some (.ref 25), o1, some (.int a2), some (.int (gI s 26 (ix v3))), some (.int (v4 + (-1)))], [], mT (sI s 35 (ix v4) v3))) rfl ?_
        exact fun a b => ih (gI s 26 (ix v3)) (v4 + (-1)) _ (sI s 35 (ix v4) v3) a b
def f_Net_walkTo (a1 : Int32) (s : mS) : Int32 × mS := (mq_let (lp_Net_walkTo_7 a1 s mm_N (0 : Int32) a1 (0 : Int32)) (fun (x11 : Int32 × Int32 × Int32) => (mq_let (lp_Net_walkTo_45 x11.1 mm_N a1 (x11.1 - 1) s) (fun (x13 : Int32 × Int32 × mS) => (x11.1, x13.2.2)))))
def ok_Net_walkTo (a1 : Int32) (s : mS) : Prop := (okl_Net_walkTo_7 a1 s mm_N (0 : Int32) a1 (0 : Int32) ∧ mq_letP (lp_Net_walkTo_7 a1 s mm_N (0 : Int32) a1 (0 : Int32)) (fun (x11 : Int32 × Int32 × Int32) => (okl_Net_walkTo_45 x11.1 mm_N a1 (x11.1 - 1) s ∧ mq_letP (lp_Net_walkTo_45 x11.1 mm_N a1 (x11.1 - 1) s) (fun (x13 : Int32 × Int32 × mS) => True))))
set_option maxRecDepth 4000 in
theorem t_Net_walkTo {len : Nat} {xs : Nat → Int32}  (d : Nat) (a1 : Int32) (s : mS) {T : Option mm_R} (K : Int32 × mS → Prop) (hK : ∀ t, K t → some (some (.int t.1), mT t.2) = T) : ok_Net_walkTo a1 s → K (f_Net_walkTo a1 s) → mm_fix (mm_X len xs) mm_Y (mm_call (mm_X len xs) mm_Y (d + 2)) (mm_look mc_Net_walkTo) (0, [some (.ref 25), some (.int a1), none, none, none], [], mT s) = T := by
  unfold ok_Net_walkTo f_Net_walkTo
  refine w_go K 6 (c' := (7, [some (.ref 25), some (.int a1), some (.int 0), some (.int a1), some (.int 0)], [], mT s)) rfl ?_
  refine w_join K (fun (x11 : Int32 × Int32 × Int32) => mm_fix (mm_X len xs) mm_Y (mm_call (mm_X len xs) mm_Y (d + 2)) (mm_look mc_Net_walkTo) (38, [some (.ref 25), some (.int a1), some (.int x11.1), some (.int x11.2.1), some (.int x11.2.2)], [], mT s) = T) (fun K hJ => tl_Net_walkTo_7 (len := len) (xs := xs) d a1 s (T := T) K hJ mm_N (0 : Int32) a1 (0 : Int32)) (fun x11 h1 h2 => ?_)
  revert h1 h2
  refine w_go K 6 (c' := (45, [some (.ref 25), some (.int a1), some (.int x11.1), some (.int a1), some (.int (x11.1 - 1))], [], mT s)) rfl ?_
  refine w_join K (fun (x13 : Int32 × Int32 × mS) => ∀ (q14 : Option Value), mm_fix (mm_X len xs) mm_Y (mm_call (mm_X len xs) mm_Y (d + 2)) (mm_look mc_Net_walkTo) (79, [some (.ref 25), q14, some (.int x11.1), some (.int x13.1), some (.int x13.2.1)], [], mT x13.2.2) = T) (fun K hJ => tl_Net_walkTo_45 (len := len) (xs := xs) d x11.1 (T := T) K hJ mm_N a1 (x11.1 - 1) _ s) (fun x13 h1 h2 q14 => ?_)
  revert h1 h2
  refine w_go K 1 (c' := (80, [some (.ref 25), q14, some (.int x11.1), some (.int x13.1), some (.int x13.2.1)], [.int x11.1], mT x13.2.2)) rfl ?_
  exact w_ret K rfl (hK _)
theorem m_Net_walkTo {len : Nat} {xs : Nat → Int32}  (d : Nat) (a1 : Int32) (s : mS) : ok_Net_walkTo a1 s → mm_call (mm_X len xs) mm_Y (d + 3) 125 [.ref 25, .int a1] (mT s) = some (some (.int (f_Net_walkTo a1 s).1), mT (f_Net_walkTo a1 s).2) := fun h => t_Net_walkTo (len := len) (xs := xs) d a1 s (fun t => (some (some (.int t.1), mT t.2) : Option mm_R) = some (some (.int (f_Net_walkTo a1 s).1), mT (f_Net_walkTo a1 s).2)) (fun _ h => h) h rfl
def lp_Net_firstWetOnWay_8 (a2 : Int32) (s : mS) : Nat → Int32 → Option Int32 × Int32
  | 0, v3 => (none, v3)
  | n + 1, v3 => (if a2 ≤ v3 then (none, v3) else (if (16 : Int32) ≤ v3 then (none, v3) else (mq_let (f_Net_has (gI s 35 (ix v3)) s) (fun (x11 : Int32) => (if x11 = 0 then (lp_Net_firstWetOnWay_8 a2 s n (v3 + 1)) else (if (gI s 34 (ix (gI s 35 (ix v3)))) = 0 then (lp_Net_firstWetOnWay_8 a2 s n (v3 + 1)) else (some (gI s 35 (ix v3)), v3)))))))
def okl_Net_firstWetOnWay_8 (a2 : Int32) (s : mS) : Nat → Int32 → Prop
  | 0, v3 => False
  | n + 1, v3 => (if a2 ≤ v3 then True else (if (16 : Int32) ≤ v3 then True else (mm_inb v3 16 = true ∧ (True ∧ mq_letP (f_Net_has (gI s 35 (ix v3)) s) (fun (x11 : Int32) => (if x11 = 0 then (okl_Net_firstWetOnWay_8 a2 s n (v3 + 1)) else (mm_inb (gI s 35 (ix v3)) 16 = true ∧ (if (gI s 34 (ix (gI s 35 (ix v3)))) = 0 then (okl_Net_firstWetOnWay_8 a2 s n (v3 + 1)) else True))))))))
set_option maxRecDepth 4000 in
theorem tl_Net_firstWetOnWay_8 {len : Nat} {xs : Nat → Int32}  (d : Nat) (a2 : Int32) (s : mS) {T : Option mm_R} (K : Option Int32 × Int32 → Prop) (hX : ∀ r, K r → r.1 = none → ∀ (o1 : Option Value) (o4 : Option Value), mm_fix (mm_X len xs) mm_Y (mm_call (mm_X len xs) mm_Y (d + 3)) (mm_look mc_Net_firstWetOnWay) (55, [some (.ref 25), o1, some (.int a2), some (.int r.2), o4], [], mT s) = T) (hR : ∀ r, K r → ∀ v, r.1 = some v → some (some (.int v), mT s) = T) : ∀ (n : Nat), ∀ (v3 : Int32) (o1 : Option Value) (o4 : Option Value), okl_Net_firstWetOnWay_8 a2 s n v3 → K (lp_Net_firstWetOnWay_8 a2 s n v3) → mm_fix (mm_X len xs) mm_Y (mm_call (mm_X len xs) mm_Y (d + 3)) (mm_look mc_Net_firstWetOnWay) (8, [some (.ref 25), o1, some (.int a2), some (.int v3), o4], [], mT s) = T := by
  intro n
  induction n with
  | zero => intro v3 o1 o4; exact fun h => h.elim
  | succ n ih =>
    intro v3 o1 o4
    rw [okl_Net_firstWetOnWay_8, lp_Net_firstWetOnWay_8]
    refine w_go K 2 (c' := (10, [some (.ref 25), o1, some (.int a2), some (.int v3), o4], [.int a2, .int v3], mT s)) rfl ?_
    refine w_ige K rfl (fun _ => ?_) (fun _ => ?_)
    · refine w_go K 0 (c' := (55, [some (.ref 25), o1, some (.int a2), some (.int v3), o4], [], mT s)) rfl ?_
      exact fun _ b => hX _ b rfl _ _
    · refine w_go K 2 (c' := (16, [some (.ref 25), o1, some (.int a2), some (.int v3), o4], [.int 16, .int v3], mT s)) rfl ?_
      refine w_ige K rfl (fun _ => ?_) (fun _ => ?_)
      · refine w_go K 0 (c' := (55, [some (.ref 25), o1, some (.int a2), some (.int v3), o4], [], mT s)) rfl ?_
        exact fun _ b => hX _ b rfl _ _
      · refine w_go K 3 (c' := (24, [some (.ref 25), o1, some (.int a2), some (.int v3), o4], [.int v3, .ref 35], mT s)) rfl ?_
        refine w_ck K (st_iL rfl rfl) ?_
        refine w_go K 3 (c' := (30, [some (.ref 25), o1, some (.int a2), some (.int v3), some (.int (gI s 35 (ix v3)))], [.int (gI s 35 (ix v3)), .ref 25], mT s)) rfl ?_
        refine w_callL K (E := f_Net_has (gI s 35 (ix v3)) s) (g := fun (x11 : Int32) => (some (.int x11), mT s)) rfl (m_Net_has (len := len) (xs := xs) (d + 2) (gI s 35 (ix v3)) s) (fun x11 => ?_)
        refine w_go K 0 (c' := (33, [some (.ref 25), o1, some (.int a2), some (.int v3), some (.int (gI s 35 (ix v3)))], [.int x11], mT s)) rfl ?_
        refine w_zeq K rfl (fun _ => ?_) (fun _ => ?_)
        · refine w_go K 2 (c' := (8, [some (.ref 25), o1, some (.int a2), some (.int (v3 + 1)), some (.int (gI s 35 (ix v3)))], [], mT s)) rfl ?_
          exact fun a b => ih (v3 + 1) _ _ a b
        · refine w_go K 3 (c' := (42, [some (.ref 25), o1, some (.int a2), some (.int v3), some (.int (gI s 35 (ix v3)))], [.int (gI s 35 (ix v3)), .ref 34], mT s)) rfl ?_
          refine w_ck K (st_bL rfl rfl) ?_
          refine w_go K 0 (c' := (43, [some (.ref 25), o1, some (.int a2), some (.int v3), some (.int (gI s 35 (ix v3)))], [.int (gI s 34 (ix (gI s 35 (ix v3))))], mT s)) rfl ?_
          refine w_zeq K rfl (fun _ => ?_) (fun _ => ?_)
          · refine w_go K 2 (c' := (8, [some (.ref 25), o1, some (.int a2), some (.int (v3 + 1)), some (.int (gI s 35 (ix v3)))], [], mT s)) rfl ?_
            exact fun a b => ih (v3 + 1) _ _ a b
          · refine w_go K 1 (c' := (48, [some (.ref 25), o1, some (.int a2), some (.int v3), some (.int (gI s 35 (ix v3)))], [.int (gI s 35 (ix v3))], mT s)) rfl ?_
            exact w_ret K rfl (fun h => hR _ h _ rfl)
def f_Net_firstWetOnWay (a1 : Int32) (s : mS) : Int32 × mS := (mq_let (f_Net_walkTo a1 s) (fun (x10 : Int32 × mS) => (mq_let (lp_Net_firstWetOnWay_8 x10.1 x10.2 mm_N (0 : Int32)) (fun (x12 : Option Int32 × Int32) => mq_el x12.1 (fun v => (v, x10.2)) ((-1), x10.2)))))
def ok_Net_firstWetOnWay (a1 : Int32) (s : mS) : Prop := (ok_Net_walkTo a1 s ∧ mq_letP (f_Net_walkTo a1 s) (fun (x10 : Int32 × mS) => (okl_Net_firstWetOnWay_8 x10.1 x10.2 mm_N (0 : Int32) ∧ mq_letP (lp_Net_firstWetOnWay_8 x10.1 x10.2 mm_N (0 : Int32)) (fun (x12 : Option Int32 × Int32) => mq_elP x12.1 True))))
set_option maxRecDepth 4000 in
theorem t_Net_firstWetOnWay {len : Nat} {xs : Nat → Int32}  (d : Nat) (a1 : Int32) (s : mS) {T : Option mm_R} (K : Int32 × mS → Prop) (hK : ∀ t, K t → some (some (.int t.1), mT t.2) = T) : ok_Net_firstWetOnWay a1 s → K (f_Net_firstWetOnWay a1 s) → mm_fix (mm_X len xs) mm_Y (mm_call (mm_X len xs) mm_Y (d + 3)) (mm_look mc_Net_firstWetOnWay) (0, [some (.ref 25), some (.int a1), none, none, none], [], mT s) = T := by
  unfold ok_Net_firstWetOnWay f_Net_firstWetOnWay
  refine w_go K 2 (c' := (2, [some (.ref 25), some (.int a1), none, none, none], [.int a1, .ref 25], mT s)) rfl ?_
  refine w_callL K (E := f_Net_walkTo a1 s) (g := fun (x10 : Int32 × mS) => (some (.int x10.1), mT x10.2)) rfl (m_Net_walkTo (len := len) (xs := xs) (d + 0) a1 s) (fun x10 => ?_)
  refine w_go K 3 (c' := (8, [some (.ref 25), some (.int a1), some (.int x10.1), some (.int 0), none], [], mT x10.2)) rfl ?_
  refine w_join K (fun (x12 : Option Int32 × Int32) => (x12.1 = none → ∀ (q13 : Option Value) (q14 : Option Value), mm_fix (mm_X len xs) mm_Y (mm_call (mm_X len xs) mm_Y (d + 3)) (mm_look mc_Net_firstWetOnWay) (55, [some (.ref 25), q13, some (.int x10.1), some (.int x12.2), q14], [], mT x10.2) = T) ∧ (∀ v, x12.1 = some v → some (some (.int v), mT x10.2) = T)) (fun K hJ => tl_Net_firstWetOnWay_8 (len := len) (xs := xs) d x10.1 x10.2 (T := T) K (fun r hr => (hJ r hr).1) (fun r hr => (hJ r hr).2) mm_N (0 : Int32) _ _) (fun x12 h1 h2 => w_el K (fun v hv h => hK _ h) (fun h1 h2 q13 q14 => ?_) h1 h2)
  revert h1 h2
  refine w_go K 1 (c' := (56, [some (.ref 25), q13, some (.int x10.1), some (.int x12.2), q14], [.int (-1)], mT x10.2)) rfl ?_
  exact w_ret K rfl (hK _)
theorem m_Net_firstWetOnWay {len : Nat} {xs : Nat → Int32}  (d : Nat) (a1 : Int32) (s : mS) : ok_Net_firstWetOnWay a1 s → mm_call (mm_X len xs) mm_Y (d + 4) 124 [.ref 25, .int a1] (mT s) = some (some (.int (f_Net_firstWetOnWay a1 s).1), mT (f_Net_firstWetOnWay a1 s).2) := fun h => t_Net_firstWetOnWay (len := len) (xs := xs) d a1 s (fun t => (some (some (.int t.1), mT t.2) : Option mm_R) = some (some (.int (f_Net_firstWetOnWay a1 s).1), mT (f_Net_firstWetOnWay a1 s).2)) (fun _ h => h) h rfl
def lp_Net_greatestLossOnWay_14 (a2 : Int32) (s : mS) : Nat → Int32 → Int32 → Int32 → Int32 × Int32 × Int32
  | 0, v3, v4, v5 => (v3, v4, v5)
  | n + 1, v3, v4, v5 => (if a2 ≤ v5 then (v3, v4, v5) else (if (16 : Int32) ≤ v5 then (v3, v4, v5) else (mq_let (f_Net_has (gI s 35 (ix v5)) s) (fun (x11 : Int32) => (mq_let (if x11 = 0 then (0 : Int32) else (((gI s 27 (ix (gI s 35 (ix v5)))) * (gI s 33 (ix (gI s 35 (ix v5))))) / 100)) (fun (x12 : Int32) => (if x12 ≤ v3 then (lp_Net_greatestLossOnWay_14 a2 s n v3 v4 (v5 + 1)) else (lp_Net_greatestLossOnWay_14 a2 s n x12 (gI s 35 (ix v5)) (v5 + 1)))))))))
def okl_Net_greatestLossOnWay_14 (a2 : Int32) (s : mS) : Nat → Int32 → Int32 → Int32 → Prop
  | 0, v3, v4, v5 => False
  | n + 1, v3, v4, v5 => (if a2 ≤ v5 then True else (if (16 : Int32) ≤ v5 then True else (mm_inb v5 16 = true ∧ (True ∧ mq_letP (f_Net_has (gI s 35 (ix v5)) s) (fun (x11 : Int32) => ((if x11 = 0 then True else (mm_inb (gI s 35 (ix v5)) 16 = true ∧ (mm_inb (gI s 35 (ix v5)) 16 = true ∧ True))) ∧ mq_letP (if x11 = 0 then (0 : Int32) else (((gI s 27 (ix (gI s 35 (ix v5)))) * (gI s 33 (ix (gI s 35 (ix v5))))) / 100)) (fun (x12 : Int32) => (if x12 ≤ v3 then (okl_Net_greatestLossOnWay_14 a2 s n v3 v4 (v5 + 1)) else (okl_Net_greatestLossOnWay_14 a2 s n x12 (gI s 35 (ix v5)) (v5 + 1))))))))))
set_option maxRecDepth 4000 in
theorem tl_Net_greatestLossOnWay_14 {len : Nat} {xs : Nat → Int32}  (d : Nat) (a2 : Int32) (s : mS) {T : Option mm_R} (K : Int32 × Int32 × Int32 → Prop) (hX : ∀ r, K r → ∀ (o1 : Option Value) (o6 : Option Value) (o7 : Option Value), mm_fix (mm_X len xs) mm_Y (mm_call (mm_X len xs) mm_Y (d + 3)) (mm_look mc_Net_greatestLossOnWay) (88, [some (.ref 25), o1, some (.int a2), some (.int r.1), some (.int r.2.1), some (.int r.2.2), o6, o7], [], mT s) = T) : ∀ (n : Nat), ∀ (v3 : Int32) (v4 : Int32) (v5 : Int32) (o1 : Option Value) (o6 : Option Value) (o7 : Option Value), okl_Net_greatestLossOnWay_14 a2 s n v3 v4 v5 → K (lp_Net_greatestLossOnWay_14 a2 s n v3 v4 v5) → mm_fix (mm_X len xs) mm_Y (mm_call (mm_X len xs) mm_Y (d + 3)) (mm_look mc_Net_greatestLossOnWay) (14, [some (.ref 25), o1, some (.int a2), some (.int v3), some (.int v4), some (.int v5), o6, o7], [], mT s) = T := by
  intro n
  induction n with
  | zero => intro v3 v4 v5 o1 o6 o7; exact fun h => h.elim
  | succ n ih =>
    intro v3 v4 v5 o1 o6 o7
    rw [okl_Net_greatestLossOnWay_14, lp_Net_greatestLossOnWay_14]
    refine w_go K 2 (c' := (17, [some (.ref 25), o1, some (.int a2), some (.int v3), some (.int v4), some (.int v5), o6, o7], [.int a2, .int v5], mT s)) rfl ?_
    refine w_ige K rfl (fun _ => ?_) (fun _ => ?_)
    · refine w_go K 0 (c' := (88, [some (.ref 25), o1, some (.int a2), some (.int v3), some (.int v4), some (.int v5), o6, o7], [], mT s)) rfl ?_
      exact fun _ b => hX _ b _ _ _
    · refine w_go K 2 (c' := (24, [some (.ref 25), o1, some (.int a2), some (.int v3), some (.int v4), some (.int v5), o6, o7], [.int 16, .int v5], mT s)) rfl ?_
      refine w_ige K rfl (fun _ => ?_) (fun _ => ?_)
      · refine w_go K 0 (c' := (88, [some (.ref 25), o1, some (.int a2), some (.int v3), some (.int v4), some (.int v5), o6, o7], [], mT s)) rfl ?_
        exact fun _ b => hX _ b _ _ _
      · refine w_go K 3 (c' := (33, [some (.ref 25), o1, some (.int a2), some (.int v3), some (.int v4), some (.int v5), o6, o7], [.int v5, .ref 35], mT s)) rfl ?_
        refine w_ck K (st_iL rfl rfl) ?_
        refine w_go K 3 (c' := (39, [some (.ref 25), o1, some (.int a2), some (.int v3), some (.int v4), some (.int v5), some (.int (gI s 35 (ix v5))), o7], [.int (gI s 35 (ix v5)), .ref 25], mT s)) rfl ?_
        refine w_callL K (E := f_Net_has (gI s 35 (ix v5)) s) (g := fun (x11 : Int32) => (some (.int x11), mT s)) rfl (m_Net_has (len := len) (xs := xs) (d + 2) (gI s 35 (ix v5)) s) (fun x11 => ?_)
        refine w_go K 0 (c' := (42, [some (.ref 25), o1, some (.int a2), some (.int v3), some (.int v4), some (.int v5), some (.int (gI s 35 (ix v5))), o7], [.int x11], mT s)) rfl ?_
        refine w_join K (fun (x12 : Int32) => mm_fix (mm_X len xs) mm_Y (mm_call (mm_X len xs) mm_Y (d + 3)) (mm_look mc_Net_greatestLossOnWay) (67, [some (.ref 25), o1, some (.int a2), some (.int v3), some (.int v4), some (.int v5), some (.int (gI s 35 (ix v5))), o7], [.int x12], mT s) = T) (fun K hJ => ?_) (fun x12 h1 h2 => ?_)
        · refine w_go K 0 (c' := (42, [some (.ref 25), o1, some (.int a2), some (.int v3), some (.int v4), some (.int v5), some (.int (gI s 35 (ix v5))), o7], [.int x11], mT s)) rfl ?_
          refine w_zeq K rfl (fun _ => ?_) (fun _ => ?_)
          · refine w_go K 1 (c' := (67, [some (.ref 25), o1, some (.int a2), some (.int v3), some (.int v4), some (.int v5), some (.int (gI s 35 (ix v5))), o7], [.int 0], mT s)) rfl ?_
            exact fun _ h => hJ _ h
          · refine w_go K 3 (c' := (51, [some (.ref 25), o1, some (.int a2), some (.int v3), some (.int v4), some (.int v5), some (.int (gI s 35 (ix v5))), o7], [.int (gI s 35 (ix v5)), .ref 27], mT s)) rfl ?_
            refine w_ck K (st_iL rfl rfl) ?_
            refine w_go K 3 (c' := (58, [some (.ref 25), o1, some (.int a2), some (.int v3), some (.int v4), some (.int v5), some (.int (gI s 35 (ix v5))), o7], [.int (gI s 35 (ix v5)), .ref 33, .int (gI s 27 (ix (gI s 35 (ix v5))))], mT s)) rfl ?_
            refine w_ck K (st_iL rfl rfl) ?_
            refine w_go K 4 (c' := (67, [some (.ref 25), o1, some (.int a2), some (.int v3), some (.int v4), some (.int v5), some (.int (gI s 35 (ix v5))), o7], [.int (((gI s 27 (ix (gI s 35 (ix v5)))) * (gI s 33 (ix (gI s 35 (ix v5))))) / 100)], mT s)) rfl ?_
            exact fun _ h => hJ _ h
        · revert h1 h2
          refine w_go K 3 (c' := (72, [some (.ref 25), o1, some (.int a2), some (.int v3), some (.int v4), some (.int v5), some (.int (gI s 35 (ix v5))), some (.int x12)], [.int v3, .int x12], mT s)) rfl ?_
          refine w_ile K rfl (fun _ => ?_) (fun _ => ?_)
          · refine w_go K 2 (c' := (14, [some (.ref 25), o1, some (.int a2), some (.int v3), some (.int v4), some (.int (v5 + 1)), some (.int (gI s 35 (ix v5))), some (.int x12)], [], mT s)) rfl ?_
            exact fun a b => ih v3 v4 (v5 + 1) _ _ _ a b
          · refine w_go K 6 (c' := (14, [some (.ref 25), o1, some (.int a2), some (.int x12), some (.int (gI s 35 (ix v5))), some (.int (v5 + 1)), some (.int (gI s 35 (ix v5))), some (.int x12)], [], mT s)) rfl ?_
            exact fun a b => ih x12 (gI s 35 (ix v5)) (v5 + 1) _ _ _ a b
def f_Net_greatestLossOnWay (a1 : Int32) (s : mS) : Int32 × mS := (mq_let (f_Net_walkTo a1 s) (fun (x10 : Int32 × mS) => (mq_let (lp_Net_greatestLossOnWay_14 x10.1 x10.2 mm_N ((-1) : Int32) ((-1) : Int32) (0 : Int32)) (fun (x13 : Int32 × Int32 × Int32) => (x13.2.1, x10.2)))))
def ok_Net_greatestLossOnWay (a1 : Int32) (s : mS) : Prop := (ok_Net_walkTo a1 s ∧ mq_letP (f_Net_walkTo a1 s) (fun (x10 : Int32 × mS) => (okl_Net_greatestLossOnWay_14 x10.1 x10.2 mm_N ((-1) : Int32) ((-1) : Int32) (0 : Int32) ∧ mq_letP (lp_Net_greatestLossOnWay_14 x10.1 x10.2 mm_N ((-1) : Int32) ((-1) : Int32) (0 : Int32)) (fun (x13 : Int32 × Int32 × Int32) => True))))
set_option maxRecDepth 4000 in
theorem t_Net_greatestLossOnWay {len : Nat} {xs : Nat → Int32}  (d : Nat) (a1 : Int32) (s : mS) {T : Option mm_R} (K : Int32 × mS → Prop) (hK : ∀ t, K t → some (some (.int t.1), mT t.2) = T) : ok_Net_greatestLossOnWay a1 s → K (f_Net_greatestLossOnWay a1 s) → mm_fix (mm_X len xs) mm_Y (mm_call (mm_X len xs) mm_Y (d + 3)) (mm_look mc_Net_greatestLossOnWay) (0, [some (.ref 25), some (.int a1), none, none, none, none, none, none], [], mT s) = T := by
  unfold ok_Net_greatestLossOnWay f_Net_greatestLossOnWay
  refine w_go K 2 (c' := (2, [some (.ref 25), some (.int a1), none, none, none, none, none, none], [.int a1, .ref 25], mT s)) rfl ?_
  refine w_callL K (E := f_Net_walkTo a1 s) (g := fun (x10 : Int32 × mS) => (some (.int x10.1), mT x10.2)) rfl (m_Net_walkTo (len := len) (xs := xs) (d + 0) a1 s) (fun x10 => ?_)
  refine w_go K 7 (c' := (14, [some (.ref 25), some (.int a1), some (.int x10.1), some (.int (-1)), some (.int (-1)), some (.int 0), none, none], [], mT x10.2)) rfl ?_
  refine w_join K (fun (x13 : Int32 × Int32 × Int32) => ∀ (q14 : Option Value) (q15 : Option Value) (q16 : Option Value), mm_fix (mm_X len xs) mm_Y (mm_call (mm_X len xs) mm_Y (d + 3)) (mm_look mc_Net_greatestLossOnWay) (88, [some (.ref 25), q14, some (.int x10.1), some (.int x13.1), some (.int x13.2.1), some (.int x13.2.2), q15, q16], [], mT x10.2) = T) (fun K hJ => tl_Net_greatestLossOnWay_14 (len := len) (xs := xs) d x10.1 x10.2 (T := T) K hJ mm_N ((-1) : Int32) ((-1) : Int32) (0 : Int32) _ _ _) (fun x13 h1 h2 q14 q15 q16 => ?_)
  revert h1 h2
  refine w_go K 1 (c' := (90, [some (.ref 25), q14, some (.int x10.1), some (.int x13.1), some (.int x13.2.1), some (.int x13.2.2), q15, q16], [.int x13.2.1], mT x10.2)) rfl ?_
  exact w_ret K rfl (hK _)
theorem m_Net_greatestLossOnWay {len : Nat} {xs : Nat → Int32}  (d : Nat) (a1 : Int32) (s : mS) : ok_Net_greatestLossOnWay a1 s → mm_call (mm_X len xs) mm_Y (d + 4) 126 [.ref 25, .int a1] (mT s) = some (some (.int (f_Net_greatestLossOnWay a1 s).1), mT (f_Net_greatestLossOnWay a1 s).2) := fun h => t_Net_greatestLossOnWay (len := len) (xs := xs) d a1 s (fun t => (some (some (.int t.1), mT t.2) : Option mm_R) = some (some (.int (f_Net_greatestLossOnWay a1 s).1), mT (f_Net_greatestLossOnWay a1 s).2)) (fun _ h => h) h rfl
def f_G_why (a1 : Int32) (a2 : Int32) (s : mS) : Int32 × mS := (if (gI s 0 9) = 0 then ((-1), s) else (mq_let (f_Net_has a1 s) (fun (x10 : Int32) => (if x10 = 0 then ((-1), s) else (mq_let (f_G_within a2 (0 : Int32) (1 : Int32) s) (fun (x11 : Int32) => (if x11 = 0 then ((-1), s) else (if (gI s 32 (ix a1)) < 20 then (if (gI s 0 14) = 0 then (mq_let (f_Net_firstWetOnWay a1 s) (fun (x12 : Int32 × mS) => (if x12.1 = (-1) then (if a2 = 0 then (3, x12.2) else (mq_let (f_Net_greatestLossOnWay a1 x12.2) (fun (x13 : Int32 × mS) => (x13.1, x13.2)))) else (if a2 = 0 then (2, x12.2) else (x12.1, x12.2))))) else (if a2 = 0 then (1, s) else ((-1), s))) else (if a2 = 0 then (0, s) else ((-1), s))))))))))
def ok_G_why (a1 : Int32) (a2 : Int32) (s : mS) : Prop := (if (gI s 0 9) = 0 then True else (True ∧ mq_letP (f_Net_has a1 s) (fun (x10 : Int32) => (if x10 = 0 then True else (True ∧ mq_letP (f_G_within a2 (0 : Int32) (1 : Int32) s) (fun (x11 : Int32) => (if x11 = 0 then True else (mm_inb a1 16 = true ∧ (if (gI s 32 (ix a1)) < 20 then (if (gI s 0 14) = 0 then (ok_Net_firstWetOnWay a1 s ∧ mq_letP (f_Net_firstWetOnWay a1 s) (fun (x12 : Int32 × mS) => (if x12.1 = (-1) then (if a2 = 0 then True else (ok_Net_greatestLossOnWay a1 x12.2 ∧ mq_letP (f_Net_greatestLossOnWay a1 x12.2) (fun (x13 : Int32 × mS) => True))) else True))) else True) else True)))))))))
set_option maxRecDepth 4000 in
theorem t_G_why {len : Nat} {xs : Nat → Int32}  (d : Nat) (a1 : Int32) (a2 : Int32) (s : mS) {T : Option mm_R} (K : Int32 × mS → Prop) (hK : ∀ t, K t → some (some (.int t.1), mT t.2) = T) : ok_G_why a1 a2 s → K (f_G_why a1 a2 s) → mm_fix (mm_X len xs) mm_Y (mm_call (mm_X len xs) mm_Y (d + 4)) (mm_look mc_G_why) (0, [some (.ref 0), some (.int a1), some (.int a2), none], [], mT s) = T := by
  unfold ok_G_why f_G_why
  refine w_go K 2 (c' := (4, [some (.ref 0), some (.int a1), some (.int a2), none], [.int (gI s 0 9)], mT s)) rfl ?_
  refine w_zeq K rfl (fun _ => ?_) (fun _ => ?_)
  · refine w_go K 1 (c' := (28, [some (.ref 0), some (.int a1), some (.int a2), none], [.int (-1)], mT s)) rfl ?_
    exact w_ret K rfl (hK _)
  · refine w_go K 3 (c' := (12, [some (.ref 0), some (.int a1), some (.int a2), none], [.int a1, .ref 25], mT s)) rfl ?_
    refine w_callL K (E := f_Net_has a1 s) (g := fun (x10 : Int32) => (some (.int x10), mT s)) rfl (m_Net_has (len := len) (xs := xs) (d + 3) a1 s) (fun x10 => ?_)
    refine w_go K 0 (c' := (15, [some (.ref 0), some (.int a1), some (.int a2), none], [.int x10], mT s)) rfl ?_
    refine w_zeq K rfl (fun _ => ?_) (fun _ => ?_)
    · refine w_go K 1 (c' := (28, [some (.ref 0), some (.int a1), some (.int a2), none], [.int (-1)], mT s)) rfl ?_
      exact w_ret K rfl (hK _)
    · refine w_go K 3 (c' := (21, [some (.ref 0), some (.int a1), some (.int a2), none], [.int 1, .int 0, .int a2], mT s)) rfl ?_
      refine w_callL K (E := f_G_within a2 (0 : Int32) (1 : Int32) s) (g := fun (x11 : Int32) => (some (.int x11), mT s)) rfl (m_G_within (len := len) (xs := xs) (d + 3) a2 (0 : Int32) (1 : Int32) s) (fun x11 => ?_)
      refine w_go K 0 (c' := (24, [some (.ref 0), some (.int a1), some (.int a2), none], [.int x11], mT s)) rfl ?_
      refine w_zne K rfl (fun _ => ?_) (fun _ => ?_)
      · refine w_go K 1 (c' := (28, [some (.ref 0), some (.int a1), some (.int a2), none], [.int (-1)], mT s)) rfl ?_
        exact w_ret K rfl (hK _)
      · refine w_go K 4 (c' := (37, [some (.ref 0), some (.int a1), some (.int a2), none], [.int a1, .ref 32], mT s)) rfl ?_
        refine w_ck K (st_iL rfl rfl) ?_
        refine w_go K 1 (c' := (40, [some (.ref 0), some (.int a1), some (.int a2), none], [.int 20, .int (gI s 32 (ix a1))], mT s)) rfl ?_
        refine w_ilt K rfl (fun _ => ?_) (fun _ => ?_)
        · refine w_go K 2 (c' := (57, [some (.ref 0), some (.int a1), some (.int a2), none], [.int (gI s 0 14)], mT s)) rfl ?_
          refine w_zeq K rfl (fun _ => ?_) (fun _ => ?_)
          · refine w_go K 3 (c' := (75, [some (.ref 0), some (.int a1), some (.int a2), none], [.int a1, .ref 25], mT s)) rfl ?_
            refine w_callL K (E := f_Net_firstWetOnWay a1 s) (g := fun (x12 : Int32 × mS) => (some (.int x12.1), mT x12.2)) rfl (m_Net_firstWetOnWay (len := len) (xs := xs) (d + 0) a1 s) (fun x12 => ?_)
            refine w_go K 3 (c' := (81, [some (.ref 0), some (.int a1), some (.int a2), some (.int x12.1)], [.int (-1), .int x12.1], mT x12.2)) rfl ?_
            refine w_ieq K rfl (fun _ => ?_) (fun _ => ?_)
            · refine w_go K 1 (c' := (95, [some (.ref 0), some (.int a1), some (.int a2), some (.int x12.1)], [.int a2], mT x12.2)) rfl ?_
              refine w_zne K rfl (fun _ => ?_) (fun _ => ?_)
              · refine w_go K 2 (c' := (110, [some (.ref 0), some (.int a1), some (.int a2), some (.int x12.1)], [.int 3], mT x12.2)) rfl ?_
                exact w_ret K rfl (hK _)
              · refine w_go K 3 (c' := (107, [some (.ref 0), some (.int a1), some (.int a2), some (.int x12.1)], [.int a1, .ref 25], mT x12.2)) rfl ?_
                refine w_callL K (E := f_Net_greatestLossOnWay a1 x12.2) (g := fun (x13 : Int32 × mS) => (some (.int x13.1), mT x13.2)) rfl (m_Net_greatestLossOnWay (len := len) (xs := xs) (d + 0) a1 x12.2) (fun x13 => ?_)
                refine w_go K 0 (c' := (110, [some (.ref 0), some (.int a1), some (.int a2), some (.int x12.1)], [.int x13.1], mT x13.2)) rfl ?_
                exact w_ret K rfl (hK _)
            · refine w_go K 1 (c' := (85, [some (.ref 0), some (.int a1), some (.int a2), some (.int x12.1)], [.int a2], mT x12.2)) rfl ?_
              refine w_zneT K rfl (fun _ => ?_) (fun _ => ?_)
              · refine w_go K 2 (c' := (93, [some (.ref 0), some (.int a1), some (.int a2), some (.int x12.1)], [.int 2], mT x12.2)) rfl ?_
                exact w_ret K rfl (hK _)
              · refine w_go K 1 (c' := (93, [some (.ref 0), some (.int a1), some (.int a2), some (.int x12.1)], [.int x12.1], mT x12.2)) rfl ?_
                exact w_ret K rfl (hK _)
          · refine w_go K 1 (c' := (61, [some (.ref 0), some (.int a1), some (.int a2), none], [.int a2], mT s)) rfl ?_
            refine w_zneT K rfl (fun _ => ?_) (fun _ => ?_)
            · refine w_go K 2 (c' := (69, [some (.ref 0), some (.int a1), some (.int a2), none], [.int 1], mT s)) rfl ?_
              exact w_ret K rfl (hK _)
            · refine w_go K 1 (c' := (69, [some (.ref 0), some (.int a1), some (.int a2), none], [.int (-1)], mT s)) rfl ?_
              exact w_ret K rfl (hK _)
        · refine w_go K 1 (c' := (44, [some (.ref 0), some (.int a1), some (.int a2), none], [.int a2], mT s)) rfl ?_
          refine w_zneT K rfl (fun _ => ?_) (fun _ => ?_)
          · refine w_go K 2 (c' := (52, [some (.ref 0), some (.int a1), some (.int a2), none], [.int 0], mT s)) rfl ?_
            exact w_ret K rfl (hK _)
          · refine w_go K 1 (c' := (52, [some (.ref 0), some (.int a1), some (.int a2), none], [.int (-1)], mT s)) rfl ?_
            exact w_ret K rfl (hK _)
theorem m_G_why {len : Nat} {xs : Nat → Int32}  (d : Nat) (a1 : Int32) (a2 : Int32) (s : mS) : ok_G_why a1 a2 s → mm_call (mm_X len xs) mm_Y (d + 5) 123 [.ref 0, .int a1, .int a2] (mT s) = some (some (.int (f_G_why a1 a2 s).1), mT (f_G_why a1 a2 s).2) := fun h => t_G_why (len := len) (xs := xs) d a1 a2 s (fun t => (some (some (.int t.1), mT t.2) : Option mm_R) = some (some (.int (f_G_why a1 a2 s).1), mT (f_G_why a1 a2 s).2)) (fun _ h => h) h rfl
def f_M_loss (a1 : Int32) (s : mS) : Int32 := (((gI s 128 (ix a1)) * (gI s 148 (ix a1))) / 100)
def ok_M_loss (a1 : Int32) (s : mS) : Prop := (mm_inb a1 16 = true ∧ (mm_inb a1 16 = true ∧ True))
set_option maxRecDepth 4000 in
theorem t_M_loss {len : Nat} {xs : Nat → Int32}  (d : Nat) (a1 : Int32) (s : mS) {T : Option mm_R} (K : Int32 → Prop) (hK : ∀ t, K t → some (some (.int t), mT s) = T) : ok_M_loss a1 s → K (f_M_loss a1 s) → mm_fix (mm_X len xs) mm_Y (mm_call (mm_X len xs) mm_Y (d + 0)) (mm_look mc_M_loss) (0, [some (.ref 116), some (.int a1)], [], mT s) = T := by
  unfold ok_M_loss f_M_loss
  refine w_go K 3 (c' := (5, [some (.ref 116), some (.int a1)], [.int a1, .ref 128], mT s)) rfl ?_
  refine w_ck K (st_iL rfl rfl) ?_
  refine w_go K 3 (c' := (11, [some (.ref 116), some (.int a1)], [.int a1, .ref 148, .int (gI s 128 (ix a1))], mT s)) rfl ?_
  refine w_ck K (st_iL rfl rfl) ?_
  refine w_go K 3 (c' := (16, [some (.ref 116), some (.int a1)], [.int (((gI s 128 (ix a1)) * (gI s 148 (ix a1))) / 100)], mT s)) rfl ?_
  exact w_ret K rfl (hK _)
theorem m_M_loss {len : Nat} {xs : Nat → Int32}  (d : Nat) (a1 : Int32) (s : mS) : ok_M_loss a1 s → mm_call (mm_X len xs) mm_Y (d + 1) 233 [.ref 116, .int a1] (mT s) = some (some (.int (f_M_loss a1 s)), mT s) := fun h => t_M_loss (len := len) (xs := xs) d a1 s (fun t => (some (some (.int t), mT s) : Option mm_R) = some (some (.int (f_M_loss a1 s)), mT s)) (fun _ h => h) h rfl
def lp_M_why_34 (a1 : Int32) (a2 : Int32) (s : mS) : Nat → Int32 → Int32 → Int32 → Int32 × Int32 × Int32
  | 0, v3, v4, v5 => (v3, v4, v5)
  | n + 1, v3, v4, v5 => (if v5 ≤ 0 then (v3, v4, v5) else (mq_let (if (gI s 131 (ix v5)) = 0 then v3 else v5) (fun (x12 : Int32) => (if v4 = (-1) then (lp_M_why_34 a1 a2 s n x12 v5 (gI s 127 (ix v5))) else (mq_let (f_M_loss v5 s) (fun (x13 : Int32) => (mq_let (f_M_loss v4 s) (fun (x14 : Int32) => (if x13 < x14 then (lp_M_why_34 a1 a2 s n x12 v4 (gI s 127 (ix v5))) else (lp_M_why_34 a1 a2 s n x12 v5 (gI s 127 (ix v5))))))))))))
def okl_M_why_34 (a1 : Int32) (a2 : Int32) (s : mS) : Nat → Int32 → Int32 → Int32 → Prop
  | 0, v3, v4, v5 => False
  | n + 1, v3, v4, v5 => (if v5 ≤ 0 then True else (mm_inb v5 16 = true ∧ (True ∧ mq_letP (if (gI s 131 (ix v5)) = 0 then v3 else v5) (fun (x12 : Int32) => (if v4 = (-1) then (mm_inb v5 16 = true ∧ (okl_M_why_34 a1 a2 s n x12 v5 (gI s 127 (ix v5)))) else (ok_M_loss v5 s ∧ mq_letP (f_M_loss v5 s) (fun (x13 : Int32) => (ok_M_loss v4 s ∧ mq_letP (f_M_loss v4 s) (fun (x14 : Int32) => (if x13 < x14 then (mm_inb v5 16 = true ∧ (okl_M_why_34 a1 a2 s n x12 v4 (gI s 127 (ix v5)))) else (mm_inb v5 16 = true ∧ (okl_M_why_34 a1 a2 s n x12 v5 (gI s 127 (ix v5))))))))))))))
set_option maxRecDepth 4000 in
theorem tl_M_why_34 {len : Nat} {xs : Nat → Int32}  (d : Nat) (a1 : Int32) (a2 : Int32) (s : mS) {T : Option mm_R} (K : Int32 × Int32 × Int32 → Prop) (hX : ∀ r, K r → mm_fix (mm_X len xs) mm_Y (mm_call (mm_X len xs) mm_Y (d + 2)) (mm_look mc_M_why) (89, [some (.ref 116), some (.int a1), some (.int a2), some (.int r.1), some (.int r.2.1), some (.int r.2.2)], [], mT s) = T) : ∀ (n : Nat), ∀ (v3 : Int32) (v4 : Int32) (v5 : Int32), okl_M_why_34 a1 a2 s n v3 v4 v5 → K (lp_M_why_34 a1 a2 s n v3 v4 v5) → mm_fix (mm_X len xs) mm_Y (mm_call (mm_X len xs) mm_Y (d + 2)) (mm_look mc_M_why) (34, [some (.ref 116), some (.int a1), some (.int a2), some (.int v3), some (.int v4), some (.int v5)], [], mT s) = T := by
  intro n
  induction n with
  | zero => intro v3 v4 v5; exact fun h => h.elim
  | succ n ih =>
    intro v3 v4 v5
    rw [okl_M_why_34, lp_M_why_34]
    refine w_go K 1 (c' := (36, [some (.ref 116), some (.int a1), some (.int a2), some (.int v3), some (.int v4), some (.int v5)], [.int v5], mT s)) rfl ?_
    refine w_zle K rfl (fun _ => ?_) (fun _ => ?_)
    · refine w_go K 0 (c' := (89, [some (.ref 116), some (.int a1), some (.int a2), some (.int v3), some (.int v4), some (.int v5)], [], mT s)) rfl ?_
      exact fun _ b => hX _ b
    · refine w_go K 3 (c' := (45, [some (.ref 116), some (.int a1), some (.int a2), some (.int v3), some (.int v4), some (.int v5)], [.int v5, .ref 131], mT s)) rfl ?_
      refine w_ck K (st_bL rfl rfl) ?_
      refine w_go K 0 (c' := (46, [some (.ref 116), some (.int a1), some (.int a2), some (.int v3), some (.int v4), some (.int v5)], [.int (gI s 131 (ix v5))], mT s)) rfl ?_
      refine w_join K (fun (x12 : Int32) => mm_fix (mm_X len xs) mm_Y (mm_call (mm_X len xs) mm_Y (d + 2)) (mm_look mc_M_why) (52, [some (.ref 116), some (.int a1), some (.int a2), some (.int x12), some (.int v4), some (.int v5)], [], mT s) = T) (fun K hJ => ?_) (fun x12 h1 h2 => ?_)
      · refine w_go K 0 (c' := (46, [some (.ref 116), some (.int a1), some (.int a2), some (.int v3), some (.int v4), some (.int v5)], [.int (gI s 131 (ix v5))], mT s)) rfl ?_
        refine w_zeqT K rfl (fun _ => ?_) (fun _ => ?_)
        · refine w_go K 0 (c' := (52, [some (.ref 116), some (.int a1), some (.int a2), some (.int v3), some (.int v4), some (.int v5)], [], mT s)) rfl ?_
          exact fun _ h => hJ _ h
        · refine w_go K 2 (c' := (52, [some (.ref 116), some (.int a1), some (.int a2), some (.int v5), some (.int v4), some (.int v5)], [], mT s)) rfl ?_
          exact fun _ h => hJ _ h
      · revert h1 h2
        refine w_go K 2 (c' := (55, [some (.ref 116), some (.int a1), some (.int a2), some (.int x12), some (.int v4), some (.int v5)], [.int (-1), .int v4], mT s)) rfl ?_
        refine w_ieq K rfl (fun _ => ?_) (fun _ => ?_)
        · refine w_go K 5 (c' := (83, [some (.ref 116), some (.int a1), some (.int a2), some (.int x12), some (.int v5), some (.int v5)], [.int v5, .ref 127], mT s)) rfl ?_
          refine w_ck K (st_iL rfl rfl) ?_
          refine w_go K 2 (c' := (34, [some (.ref 116), some (.int a1), some (.int a2), some (.int x12), some (.int v5), some (.int (gI s 127 (ix v5)))], [], mT s)) rfl ?_
          exact fun a b => ih x12 v5 (gI s 127 (ix v5)) a b
        · refine w_go K 2 (c' := (61, [some (.ref 116), some (.int a1), some (.int a2), some (.int x12), some (.int v4), some (.int v5)], [.int v5, .ref 116], mT s)) rfl ?_
          refine w_callL K (E := f_M_loss v5 s) (g := fun (x13 : Int32) => (some (.int x13), mT s)) rfl (m_M_loss (len := len) (xs := xs) (d + 1) v5 s) (fun x13 => ?_)
          refine w_go K 2 (c' := (67, [some (.ref 116), some (.int a1), some (.int a2), some (.int x12), some (.int v4), some (.int v5)], [.int v4, .ref 116, .int x13], mT s)) rfl ?_
          refine w_callL K (E := f_M_loss v4 s) (g := fun (x14 : Int32) => (some (.int x14), mT s)) rfl (m_M_loss (len := len) (xs := xs) (d + 1) v4 s) (fun x14 => ?_)
          refine w_go K 0 (c' := (70, [some (.ref 116), some (.int a1), some (.int a2), some (.int x12), some (.int v4), some (.int v5)], [.int x14, .int x13], mT s)) rfl ?_
          refine w_ilt K rfl (fun _ => ?_) (fun _ => ?_)
          · refine w_go K 3 (c' := (83, [some (.ref 116), some (.int a1), some (.int a2), some (.int x12), some (.int v4), some (.int v5)], [.int v5, .ref 127], mT s)) rfl ?_
            refine w_ck K (st_iL rfl rfl) ?_
            refine w_go K 2 (c' := (34, [some (.ref 116), some (.int a1), some (.int a2), some (.int x12), some (.int v4), some (.int (gI s 127 (ix v5)))], [], mT s)) rfl ?_
            exact fun a b => ih x12 v4 (gI s 127 (ix v5)) a b
          · refine w_go K 5 (c' := (83, [some (.ref 116), some (.int a1), some (.int a2), some (.int x12), some (.int v5), some (.int v5)], [.int v5, .ref 127], mT s)) rfl ?_
            refine w_ck K (st_iL rfl rfl) ?_
            refine w_go K 2 (c' := (34, [some (.ref 116), some (.int a1), some (.int a2), some (.int x12), some (.int v5), some (.int (gI s 127 (ix v5)))], [], mT s)) rfl ?_
            exact fun a b => ih x12 v5 (gI s 127 (ix v5)) a b
def f_M_why (a1 : Int32) (a2 : Int32) (s : mS) : Int32 := (mq_let (f_M_isNode a1 s) (fun (x10 : Int32) => (if x10 = 0 then (-1) else (if (gI s 116 1) = 0 then (-1) else (mq_let (f_M_isIn a2 (0 : Int32) (1 : Int32) s) (fun (x11 : Int32) => (if x11 = 0 then (-1) else (mq_let (lp_M_why_34 a1 a2 s mm_N ((-1) : Int32) ((-1) : Int32) a1) (fun (x15 : Int32 × Int32 × Int32) => (mq_let (if (gI s 149 (ix a1)) < 20 then (if (gI s 116 56) = 0 then (if x15.1 = (-1) then (3 : Int32) else (2 : Int32)) else (1 : Int32)) else (0 : Int32)) (fun (x16 : Int32) => (if a2 = 0 then x16 else (if x16 = 2 then x15.1 else (if x16 = 3 then x15.2.1 else (-1)))))))))))))))
def ok_M_why (a1 : Int32) (a2 : Int32) (s : mS) : Prop := (ok_M_isNode a1 s ∧ mq_letP (f_M_isNode a1 s) (fun (x10 : Int32) => (if x10 = 0 then True else (if (gI s 116 1) = 0 then True else (True ∧ mq_letP (f_M_isIn a2 (0 : Int32) (1 : Int32) s) (fun (x11 : Int32) => (if x11 = 0 then True else (okl_M_why_34 a1 a2 s mm_N ((-1) : Int32) ((-1) : Int32) a1 ∧ mq_letP (lp_M_why_34 a1 a2 s mm_N ((-1) : Int32) ((-1) : Int32) a1) (fun (x15 : Int32 × Int32 × Int32) => (mm_inb a1 16 = true ∧ True))))))))))
set_option maxRecDepth 4000 in
theorem t_M_why {len : Nat} {xs : Nat → Int32}  (d : Nat) (a1 : Int32) (a2 : Int32) (s : mS) {T : Option mm_R} (K : Int32 → Prop) (hK : ∀ t, K t → some (some (.int t), mT s) = T) : ok_M_why a1 a2 s → K (f_M_why a1 a2 s) → mm_fix (mm_X len xs) mm_Y (mm_call (mm_X len xs) mm_Y (d + 2)) (mm_look mc_M_why) (0, [some (.ref 116), some (.int a1), some (.int a2), none, none, none], [], mT s) = T := by
  unfold ok_M_why f_M_why
  refine w_go K 2 (c' := (2, [some (.ref 116), some (.int a1), some (.int a2), none, none, none], [.int a1, .ref 116], mT s)) rfl ?_
  refine w_callL K (E := f_M_isNode a1 s) (g := fun (x10 : Int32) => (some (.int x10), mT s)) rfl (m_M_isNode (len := len) (xs := xs) (d + 0) a1 s) (fun x10 => ?_)
  refine w_go K 0 (c' := (5, [some (.ref 116), some (.int a1), some (.int a2), none, none, none], [.int x10], mT s)) rfl ?_
  refine w_zeq K rfl (fun _ => ?_) (fun _ => ?_)
  · refine w_go K 1 (c' := (25, [some (.ref 116), some (.int a1), some (.int a2), none, none, none], [.int (-1)], mT s)) rfl ?_
    exact w_ret K rfl (hK _)
  · refine w_go K 2 (c' := (12, [some (.ref 116), some (.int a1), some (.int a2), none, none, none], [.int (gI s 116 1)], mT s)) rfl ?_
    refine w_zeq K rfl (fun _ => ?_) (fun _ => ?_)
    · refine w_go K 1 (c' := (25, [some (.ref 116), some (.int a1), some (.int a2), none, none, none], [.int (-1)], mT s)) rfl ?_
      exact w_ret K rfl (hK _)
    · refine w_go K 3 (c' := (18, [some (.ref 116), some (.int a1), some (.int a2), none, none, none], [.int 1, .int 0, .int a2], mT s)) rfl ?_
      refine w_callL K (E := f_M_isIn a2 (0 : Int32) (1 : Int32) s) (g := fun (x11 : Int32) => (some (.int x11), mT s)) rfl (m_M_isIn (len := len) (xs := xs) (d + 1) a2 (0 : Int32) (1 : Int32) s) (fun x11 => ?_)
      refine w_go K 0 (c' := (21, [some (.ref 116), some (.int a1), some (.int a2), none, none, none], [.int x11], mT s)) rfl ?_
      refine w_zne K rfl (fun _ => ?_) (fun _ => ?_)
      · refine w_go K 1 (c' := (25, [some (.ref 116), some (.int a1), some (.int a2), none, none, none], [.int (-1)], mT s)) rfl ?_
        exact w_ret K rfl (hK _)
      · refine w_go K 6 (c' := (34, [some (.ref 116), some (.int a1), some (.int a2), some (.int (-1)), some (.int (-1)), some (.int a1)], [], mT s)) rfl ?_
        refine w_join K (fun (x15 : Int32 × Int32 × Int32) => mm_fix (mm_X len xs) mm_Y (mm_call (mm_X len xs) mm_Y (d + 2)) (mm_look mc_M_why) (89, [some (.ref 116), some (.int a1), some (.int a2), some (.int x15.1), some (.int x15.2.1), some (.int x15.2.2)], [], mT s) = T) (fun K hJ => tl_M_why_34 (len := len) (xs := xs) d a1 a2 s (T := T) K hJ mm_N ((-1) : Int32) ((-1) : Int32) a1) (fun x15 h1 h2 => ?_)
        revert h1 h2
        refine w_go K 3 (c' := (94, [some (.ref 116), some (.int a1), some (.int a2), some (.int x15.1), some (.int x15.2.1), some (.int x15.2.2)], [.int a1, .ref 149], mT s)) rfl ?_
        refine w_ck K (st_iL rfl rfl) ?_
        refine w_go K 1 (c' := (97, [some (.ref 116), some (.int a1), some (.int a2), some (.int x15.1), some (.int x15.2.1), some (.int x15.2.2)], [.int 20, .int (gI s 149 (ix a1))], mT s)) rfl ?_
        refine w_joinT K (fun (x16 : Int32) => mm_fix (mm_X len xs) mm_Y (mm_call (mm_X len xs) mm_Y (d + 2)) (mm_look mc_M_why) (125, [some (.ref 116), some (.int a1), some (.int a2), some (.int x15.1), some (.int x15.2.1), some (.int x15.2.2)], [.int x16], mT s) = T) (fun K hJ => ?_) (fun x16 h1 h2 => ?_)
        · refine w_go K 0 (c' := (97, [some (.ref 116), some (.int a1), some (.int a2), some (.int x15.1), some (.int x15.2.1), some (.int x15.2.2)], [.int 20, .int (gI s 149 (ix a1))], mT s)) rfl ?_
          refine w_iltT K rfl (fun _ => ?_) (fun _ => ?_)
          · refine w_go K 2 (c' := (108, [some (.ref 116), some (.int a1), some (.int a2), some (.int x15.1), some (.int x15.2.1), some (.int x15.2.2)], [.int (gI s 116 56)], mT s)) rfl ?_
            refine w_zeqT K rfl (fun _ => ?_) (fun _ => ?_)
            · refine w_go K 2 (c' := (117, [some (.ref 116), some (.int a1), some (.int a2), some (.int x15.1), some (.int x15.2.1), some (.int x15.2.2)], [.int (-1), .int x15.1], mT s)) rfl ?_
              refine w_ieqT K rfl (fun _ => ?_) (fun _ => ?_)
              · refine w_go K 1 (c' := (125, [some (.ref 116), some (.int a1), some (.int a2), some (.int x15.1), some (.int x15.2.1), some (.int x15.2.2)], [.int 3], mT s)) rfl ?_
                exact fun _ h => hJ _ h
              · refine w_go K 2 (c' := (125, [some (.ref 116), some (.int a1), some (.int a2), some (.int x15.1), some (.int x15.2.1), some (.int x15.2.2)], [.int 2], mT s)) rfl ?_
                exact fun _ h => hJ _ h
            · refine w_go K 2 (c' := (125, [some (.ref 116), some (.int a1), some (.int a2), some (.int x15.1), some (.int x15.2.1), some (.int x15.2.2)], [.int 1], mT s)) rfl ?_
              exact fun _ h => hJ _ h
          · refine w_go K 2 (c' := (125, [some (.ref 116), some (.int a1), some (.int a2), some (.int x15.1), some (.int x15.2.1), some (.int x15.2.2)], [.int 0], mT s)) rfl ?_
            exact fun _ h => hJ _ h
        · revert h1 h2
          refine w_go K 2 (c' := (128, [some (.ref 116), some (.int a1), some (.int a2), some (.int x15.1), some (.int x15.2.1), some (.int x16)], [.int a2], mT s)) rfl ?_
          refine w_zneT K rfl (fun _ => ?_) (fun _ => ?_)
          · refine w_go K 2 (c' := (158, [some (.ref 116), some (.int a1), some (.int a2), some (.int x15.1), some (.int x15.2.1), some (.int x16)], [.int x16], mT s)) rfl ?_
            exact w_ret K rfl (hK _)
          · refine w_go K 2 (c' := (139, [some (.ref 116), some (.int a1), some (.int a2), some (.int x15.1), some (.int x15.2.1), some (.int x16)], [.int 2, .int x16], mT s)) rfl ?_
            refine w_ineT K rfl (fun _ => ?_) (fun _ => ?_)
            · refine w_go K 2 (c' := (158, [some (.ref 116), some (.int a1), some (.int a2), some (.int x15.1), some (.int x15.2.1), some (.int x16)], [.int x15.1], mT s)) rfl ?_
              exact w_ret K rfl (hK _)
            · refine w_go K 2 (c' := (149, [some (.ref 116), some (.int a1), some (.int a2), some (.int x15.1), some (.int x15.2.1), some (.int x16)], [.int 3, .int x16], mT s)) rfl ?_
              refine w_ineT K rfl (fun _ => ?_) (fun _ => ?_)
              · refine w_go K 2 (c' := (158, [some (.ref 116), some (.int a1), some (.int a2), some (.int x15.1), some (.int x15.2.1), some (.int x16)], [.int x15.2.1], mT s)) rfl ?_
                exact w_ret K rfl (hK _)
              · refine w_go K 1 (c' := (158, [some (.ref 116), some (.int a1), some (.int a2), some (.int x15.1), some (.int x15.2.1), some (.int x16)], [.int (-1)], mT s)) rfl ?_
                exact w_ret K rfl (hK _)
theorem m_M_why {len : Nat} {xs : Nat → Int32}  (d : Nat) (a1 : Int32) (a2 : Int32) (s : mS) : ok_M_why a1 a2 s → mm_call (mm_X len xs) mm_Y (d + 3) 232 [.ref 116, .int a1, .int a2] (mT s) = some (some (.int (f_M_why a1 a2 s)), mT s) := fun h => t_M_why (len := len) (xs := xs) d a1 a2 s (fun t => (some (some (.int t), mT s) : Option mm_R) = some (some (.int (f_M_why a1 a2 s)), mT s)) (fun _ h => h) h rfl
def lp_Things_allWants_5 (a1 : Int32) (s : mS) : Nat → Int32 → Int32 → Int32 × Int32
  | 0, v3, v4 => (v3, v4)
  | n + 1, v3, v4 => (if (gI s 12 12) ≤ v4 then (v3, v4) else (mq_let (f_Things_wantOf v4 a1 s) (fun (x10 : Int32) => (lp_Things_allWants_5 a1 s n (v3 + x10) (v4 + 1)))))
def okl_Things_allWants_5 (a1 : Int32) (s : mS) : Nat → Int32 → Int32 → Prop
  | 0, v3, v4 => False
  | n + 1, v3, v4 => (if (gI s 12 12) ≤ v4 then True else (ok_Things_wantOf v4 a1 s ∧ mq_letP (f_Things_wantOf v4 a1 s) (fun (x10 : Int32) => (okl_Things_allWants_5 a1 s n (v3 + x10) (v4 + 1)))))
set_option maxRecDepth 4000 in
theorem tl_Things_allWants_5 {len : Nat} {xs : Nat → Int32}  (d : Nat) (a1 : Int32) (s : mS) {T : Option mm_R} (K : Int32 × Int32 → Prop) (hX : ∀ r, K r → mm_fix (mm_X len xs) mm_Y (mm_call (mm_X len xs) mm_Y (d + 4)) (mm_look mc_Things_allWants) (31, [some (.ref 12), some (.int a1), some (.ref 1), some (.int r.1), some (.int r.2)], [], mT s) = T) : ∀ (n : Nat), ∀ (v3 : Int32) (v4 : Int32), okl_Things_allWants_5 a1 s n v3 v4 → K (lp_Things_allWants_5 a1 s n v3 v4) → mm_fix (mm_X len xs) mm_Y (mm_call (mm_X len xs) mm_Y (d + 4)) (mm_look mc_Things_allWants) (5, [some (.ref 12), some (.int a1), some (.ref 1), some (.int v3), some (.int v4)], [], mT s) = T := by
  intro n
  induction n with
  | zero => intro v3 v4; exact fun h => h.elim
  | succ n ih =>
    intro v3 v4
    rw [okl_Things_allWants_5, lp_Things_allWants_5]
    refine w_go K 3 (c' := (11, [some (.ref 12), some (.int a1), some (.ref 1), some (.int v3), some (.int v4)], [.int (gI s 12 12), .int v4], mT s)) rfl ?_
    refine w_ige K rfl (fun _ => ?_) (fun _ => ?_)
    · refine w_go K 0 (c' := (31, [some (.ref 12), some (.int a1), some (.ref 1), some (.int v3), some (.int v4)], [], mT s)) rfl ?_
      exact fun _ b => hX _ b
    · refine w_go K 5 (c' := (20, [some (.ref 12), some (.int a1), some (.ref 1), some (.int v3), some (.int v4)], [.ref 1, .int a1, .int v4, .ref 12, .int v3], mT s)) rfl ?_
      refine w_callL K (E := f_Things_wantOf v4 a1 s) (g := fun (x10 : Int32) => (some (.int x10), mT s)) rfl (m_Things_wantOf (len := len) (xs := xs) (d + 0) v4 a1 s) (fun x10 => ?_)
      refine w_go K 4 (c' := (5, [some (.ref 12), some (.int a1), some (.ref 1), some (.int (v3 + x10)), some (.int (v4 + 1))], [], mT s)) rfl ?_
      exact fun a b => ih (v3 + x10) (v4 + 1) a b
def f_Things_allWants (a1 : Int32) (s : mS) : Int32 := (mq_let (lp_Things_allWants_5 a1 s mm_N (0 : Int32) (0 : Int32)) (fun (x11 : Int32 × Int32) => x11.1))
def ok_Things_allWants (a1 : Int32) (s : mS) : Prop := (okl_Things_allWants_5 a1 s mm_N (0 : Int32) (0 : Int32) ∧ mq_letP (lp_Things_allWants_5 a1 s mm_N (0 : Int32) (0 : Int32)) (fun (x11 : Int32 × Int32) => True))
set_option maxRecDepth 4000 in
theorem t_Things_allWants {len : Nat} {xs : Nat → Int32}  (d : Nat) (a1 : Int32) (s : mS) {T : Option mm_R} (K : Int32 → Prop) (hK : ∀ t, K t → some (some (.int t), mT s) = T) : ok_Things_allWants a1 s → K (f_Things_allWants a1 s) → mm_fix (mm_X len xs) mm_Y (mm_call (mm_X len xs) mm_Y (d + 4)) (mm_look mc_Things_allWants) (0, [some (.ref 12), some (.int a1), some (.ref 1), none, none], [], mT s) = T := by
  unfold ok_Things_allWants f_Things_allWants
  refine w_go K 4 (c' := (5, [some (.ref 12), some (.int a1), some (.ref 1), some (.int 0), some (.int 0)], [], mT s)) rfl ?_
  refine w_join K (fun (x11 : Int32 × Int32) => mm_fix (mm_X len xs) mm_Y (mm_call (mm_X len xs) mm_Y (d + 4)) (mm_look mc_Things_allWants) (31, [some (.ref 12), some (.int a1), some (.ref 1), some (.int x11.1), some (.int x11.2)], [], mT s) = T) (fun K hJ => tl_Things_allWants_5 (len := len) (xs := xs) d a1 s (T := T) K hJ mm_N (0 : Int32) (0 : Int32)) (fun x11 h1 h2 => ?_)
  revert h1 h2
  refine w_go K 1 (c' := (32, [some (.ref 12), some (.int a1), some (.ref 1), some (.int x11.1), some (.int x11.2)], [.int x11.1], mT s)) rfl ?_
  exact w_ret K rfl (hK _)
theorem m_Things_allWants {len : Nat} {xs : Nat → Int32}  (d : Nat) (a1 : Int32) (s : mS) : ok_Things_allWants a1 s → mm_call (mm_X len xs) mm_Y (d + 5) 129 [.ref 12, .int a1, .ref 1] (mT s) = some (some (.int (f_Things_allWants a1 s)), mT s) := fun h => t_Things_allWants (len := len) (xs := xs) d a1 s (fun t => (some (some (.int t), mT s) : Option mm_R) = some (some (.int (f_Things_allWants a1 s)), mT s)) (fun _ h => h) h rfl
def lp_Night_foresee_3 (a1 : Int32) : Nat → Int32 → mS → Int32 × mS
  | 0, v5, s => (v5, s)
  | n + 1, v5, s => (if (32 : Int32) ≤ v5 then (v5, s) else (mq_let (f_Things_allWants (a1 + v5) s) (fun (x10 : Int32) => (mq_let (f_Works_gasLater v5 (sI s 95 (ix v5) x10)) (fun (x11 : Int32) => (lp_Night_foresee_3 a1 n (v5 + 1) (sI (sI s 95 (ix v5) x10) 96 (ix v5) x11)))))))
def okl_Night_foresee_3 (a1 : Int32) : Nat → Int32 → mS → Prop
  | 0, v5, s => False
  | n + 1, v5, s => (if (32 : Int32) ≤ v5 then True else (ok_Things_allWants (a1 + v5) s ∧ mq_letP (f_Things_allWants (a1 + v5) s) (fun (x10 : Int32) => (mm_inb v5 32 = true ∧ (ok_Works_gasLater v5 (sI s 95 (ix v5) x10) ∧ mq_letP (f_Works_gasLater v5 (sI s 95 (ix v5) x10)) (fun (x11 : Int32) => (mm_inb v5 32 = true ∧ (okl_Night_foresee_3 a1 n (v5 + 1) (sI (sI s 95 (ix v5) x10) 96 (ix v5) x11)))))))))
set_option maxRecDepth 4000 in
theorem tl_Night_foresee_3 {len : Nat} {xs : Nat → Int32}  (d : Nat) (a1 : Int32)  {T : Option mm_R} (K : Int32 × mS → Prop) (hX : ∀ r, K r → mm_fix (mm_X len xs) mm_Y (mm_call (mm_X len xs) mm_Y (d + 5)) (mm_look mc_Night_foresee) (46, [some (.ref 94), some (.int a1), some (.ref 3), some (.ref 12), some (.ref 1), some (.int r.1)], [], mT r.2) = T) : ∀ (n : Nat), ∀ (v5 : Int32) (s : mS), okl_Night_foresee_3 a1 n v5 s → K (lp_Night_foresee_3 a1 n v5 s) → mm_fix (mm_X len xs) mm_Y (mm_call (mm_X len xs) mm_Y (d + 5)) (mm_look mc_Night_foresee) (3, [some (.ref 94), some (.int a1), some (.ref 3), some (.ref 12), some (.ref 1), some (.int v5)], [], mT s) = T := by
  intro n
  induction n with
  | zero => intro v5 s; exact fun h => h.elim
  | succ n ih =>
    intro v5 s
    rw [okl_Night_foresee_3, lp_Night_foresee_3]
    refine w_go K 2 (c' := (7, [some (.ref 94), some (.int a1), some (.ref 3), some (.ref 12), some (.ref 1), some (.int v5)], [.int 32, .int v5], mT s)) rfl ?_
    refine w_ige K rfl (fun _ => ?_) (fun _ => ?_)
    · refine w_go K 0 (c' := (46, [some (.ref 94), some (.int a1), some (.ref 3), some (.ref 12), some (.ref 1), some (.int v5)], [], mT s)) rfl ?_
      exact fun _ b => hX _ b
    · refine w_go K 8 (c' := (23, [some (.ref 94), some (.int a1), some (.ref 3), some (.ref 12), some (.ref 1), some (.int v5)], [.ref 1, .int (a1 + v5), .ref 12, .int v5, .ref 95], mT s)) rfl ?_
      refine w_callL K (E := f_Things_allWants (a1 + v5) s) (g := fun (x10 : Int32) => (some (.int x10), mT s)) rfl (m_Things_allWants (len := len) (xs := xs) (d + 0) (a1 + v5) s) (fun x10 => ?_)
      refine w_go K 0 (c' := (26, [some (.ref 94), some (.int a1), some (.ref 3), some (.ref 12), some (.ref 1), some (.int v5)], [.int x10, .int v5, .ref 95], mT s)) rfl ?_
      refine w_ck K (st_iS rfl rfl) ?_
      refine w_go K 5 (c' := (36, [some (.ref 94), some (.int a1), some (.ref 3), some (.ref 12), some (.ref 1), some (.int v5)], [.int v5, .ref 3, .int v5, .ref 96], mT (sI s 95 (ix v5) x10))) rfl ?_
      refine w_callL K (E := f_Works_gasLater v5 (sI s 95 (ix v5) x10)) (g := fun (x11 : Int32) => (some (.int x11), mT (sI s 95 (ix v5) x10))) rfl (m_Works_gasLater (len := len) (xs := xs) (d + 3) v5 (sI s 95 (ix v5) x10)) (fun x11 => ?_)
      refine w_go K 0 (c' := (39, [some (.ref 94), some (.int a1), some (.ref 3), some (.ref 12), some (.ref 1), some (.int v5)], [.int x11, .int v5, .ref 96], mT (sI s 95 (ix v5) x10))) rfl ?_
      refine w_ck K (st_iS rfl rfl) ?_
      refine w_go K 2 (c' := (3, [some (.ref 94), some (.int a1), some (.ref 3), some (.ref 12), some (.ref 1), some (.int (v5 + 1))], [], mT (sI (sI s 95 (ix v5) x10) 96 (ix v5) x11))) rfl ?_
      exact fun a b => ih (v5 + 1) (sI (sI s 95 (ix v5) x10) 96 (ix v5) x11) a b
def f_Night_foresee (a1 : Int32) (s : mS) : mS := (mq_let (lp_Night_foresee_3 a1 mm_N (0 : Int32) s) (fun (x12 : Int32 × mS) => x12.2))
def ok_Night_foresee (a1 : Int32) (s : mS) : Prop := (okl_Night_foresee_3 a1 mm_N (0 : Int32) s ∧ mq_letP (lp_Night_foresee_3 a1 mm_N (0 : Int32) s) (fun (x12 : Int32 × mS) => True))
set_option maxRecDepth 4000 in
theorem t_Night_foresee {len : Nat} {xs : Nat → Int32}  (d : Nat) (a1 : Int32) (s : mS) {T : Option mm_R} (K : mS → Prop) (hK : ∀ t, K t → some (none, mT t) = T) : ok_Night_foresee a1 s → K (f_Night_foresee a1 s) → mm_fix (mm_X len xs) mm_Y (mm_call (mm_X len xs) mm_Y (d + 5)) (mm_look mc_Night_foresee) (0, [some (.ref 94), some (.int a1), some (.ref 3), some (.ref 12), some (.ref 1), none], [], mT s) = T := by
  unfold ok_Night_foresee f_Night_foresee
  refine w_go K 2 (c' := (3, [some (.ref 94), some (.int a1), some (.ref 3), some (.ref 12), some (.ref 1), some (.int 0)], [], mT s)) rfl ?_
  refine w_join K (fun (x12 : Int32 × mS) => mm_fix (mm_X len xs) mm_Y (mm_call (mm_X len xs) mm_Y (d + 5)) (mm_look mc_Night_foresee) (46, [some (.ref 94), some (.int a1), some (.ref 3), some (.ref 12), some (.ref 1), some (.int x12.1)], [], mT x12.2) = T) (fun K hJ => tl_Night_foresee_3 (len := len) (xs := xs) d a1 (T := T) K hJ mm_N (0 : Int32) s) (fun x12 h1 h2 => ?_)
  revert h1 h2
  refine w_go K 0 (c' := (46, [some (.ref 94), some (.int a1), some (.ref 3), some (.ref 12), some (.ref 1), some (.int x12.1)], [], mT x12.2)) rfl ?_
  exact w_ret K rfl (hK _)
theorem m_Night_foresee {len : Nat} {xs : Nat → Int32}  (d : Nat) (a1 : Int32) (s : mS) : ok_Night_foresee a1 s → mm_call (mm_X len xs) mm_Y (d + 6) 128 [.ref 94, .int a1, .ref 3, .ref 12, .ref 1] (mT s) = some (none, mT (f_Night_foresee a1 s)) := fun h => t_Night_foresee (len := len) (xs := xs) d a1 s (fun t => (some (none, mT t) : Option mm_R) = some (none, mT (f_Night_foresee a1 s))) (fun _ h => h) h rfl
def lp_Works_coldLater_4 (a1 : Int32) (s : mS) : Nat → Int32 → Int32 → Int32 × Int32
  | 0, v2, v3 => (v2, v3)
  | n + 1, v2, v3 => (if (gI s 3 8) ≤ v3 then (v2, v3) else (if (6 : Int32) ≤ v3 then (v2, v3) else (if a1 < (gI s 8 (ix v3)) then (lp_Works_coldLater_4 a1 s n v2 (v3 + 1)) else (lp_Works_coldLater_4 a1 s n (v2 + 1) (v3 + 1)))))
def okl_Works_coldLater_4 (a1 : Int32) (s : mS) : Nat → Int32 → Int32 → Prop
  | 0, v2, v3 => False
  | n + 1, v2, v3 => (if (gI s 3 8) ≤ v3 then True else (if (6 : Int32) ≤ v3 then True else (mm_inb v3 6 = true ∧ (if a1 < (gI s 8 (ix v3)) then (okl_Works_coldLater_4 a1 s n v2 (v3 + 1)) else (okl_Works_coldLater_4 a1 s n (v2 + 1) (v3 + 1))))))
set_option maxRecDepth 4000 in
theorem tl_Works_coldLater_4 {len : Nat} {xs : Nat → Int32}  (d : Nat) (a1 : Int32) (s : mS) {T : Option mm_R} (K : Int32 × Int32 → Prop) (hX : ∀ r, K r → mm_fix (mm_X len xs) mm_Y (mm_call (mm_X len xs) mm_Y (d + 0)) (mm_look mc_Works_coldLater) (37, [some (.ref 3), some (.int a1), some (.int r.1), some (.int r.2)], [], mT s) = T) : ∀ (n : Nat), ∀ (v2 : Int32) (v3 : Int32), okl_Works_coldLater_4 a1 s n v2 v3 → K (lp_Works_coldLater_4 a1 s n v2 v3) → mm_fix (mm_X len xs) mm_Y (mm_call (mm_X len xs) mm_Y (d + 0)) (mm_look mc_Works_coldLater) (4, [some (.ref 3), some (.int a1), some (.int v2), some (.int v3)], [], mT s) = T := by
  intro n
  induction n with
  | zero => intro v2 v3; exact fun h => h.elim
  | succ n ih =>
    intro v2 v3
    rw [okl_Works_coldLater_4, lp_Works_coldLater_4]
    refine w_go K 3 (c' := (9, [some (.ref 3), some (.int a1), some (.int v2), some (.int v3)], [.int (gI s 3 8), .int v3], mT s)) rfl ?_
    refine w_ige K rfl (fun _ => ?_) (fun _ => ?_)
    · refine w_go K 0 (c' := (37, [some (.ref 3), some (.int a1), some (.int v2), some (.int v3)], [], mT s)) rfl ?_
      exact fun _ b => hX _ b
    · refine w_go K 2 (c' := (15, [some (.ref 3), some (.int a1), some (.int v2), some (.int v3)], [.int 6, .int v3], mT s)) rfl ?_
      refine w_ige K rfl (fun _ => ?_) (fun _ => ?_)
      · refine w_go K 0 (c' := (37, [some (.ref 3), some (.int a1), some (.int v2), some (.int v3)], [], mT s)) rfl ?_
        exact fun _ b => hX _ b
      · refine w_go K 3 (c' := (23, [some (.ref 3), some (.int a1), some (.int v2), some (.int v3)], [.int v3, .ref 8], mT s)) rfl ?_
        refine w_ck K (st_iL rfl rfl) ?_
        refine w_go K 1 (c' := (25, [some (.ref 3), some (.int a1), some (.int v2), some (.int v3)], [.int a1, .int (gI s 8 (ix v3))], mT s)) rfl ?_
        refine w_igt K rfl (fun _ => ?_) (fun _ => ?_)
        · refine w_go K 2 (c' := (4, [some (.ref 3), some (.int a1), some (.int v2), some (.int (v3 + 1))], [], mT s)) rfl ?_
          exact fun a b => ih v2 (v3 + 1) a b
        · refine w_go K 3 (c' := (4, [some (.ref 3), some (.int a1), some (.int (v2 + 1)), some (.int (v3 + 1))], [], mT s)) rfl ?_
          exact fun a b => ih (v2 + 1) (v3 + 1) a b
def f_Works_coldLater (a1 : Int32) (s : mS) : Int32 := (mq_let (lp_Works_coldLater_4 a1 s mm_N (0 : Int32) (0 : Int32)) (fun (x10 : Int32 × Int32) => x10.1))
def ok_Works_coldLater (a1 : Int32) (s : mS) : Prop := (okl_Works_coldLater_4 a1 s mm_N (0 : Int32) (0 : Int32) ∧ mq_letP (lp_Works_coldLater_4 a1 s mm_N (0 : Int32) (0 : Int32)) (fun (x10 : Int32 × Int32) => True))
set_option maxRecDepth 4000 in
theorem t_Works_coldLater {len : Nat} {xs : Nat → Int32}  (d : Nat) (a1 : Int32) (s : mS) {T : Option mm_R} (K : Int32 → Prop) (hK : ∀ t, K t → some (some (.int t), mT s) = T) : ok_Works_coldLater a1 s → K (f_Works_coldLater a1 s) → mm_fix (mm_X len xs) mm_Y (mm_call (mm_X len xs) mm_Y (d + 0)) (mm_look mc_Works_coldLater) (0, [some (.ref 3), some (.int a1), none, none], [], mT s) = T := by
  unfold ok_Works_coldLater f_Works_coldLater
  refine w_go K 4 (c' := (4, [some (.ref 3), some (.int a1), some (.int 0), some (.int 0)], [], mT s)) rfl ?_
  refine w_join K (fun (x10 : Int32 × Int32) => mm_fix (mm_X len xs) mm_Y (mm_call (mm_X len xs) mm_Y (d + 0)) (mm_look mc_Works_coldLater) (37, [some (.ref 3), some (.int a1), some (.int x10.1), some (.int x10.2)], [], mT s) = T) (fun K hJ => tl_Works_coldLater_4 (len := len) (xs := xs) d a1 s (T := T) K hJ mm_N (0 : Int32) (0 : Int32)) (fun x10 h1 h2 => ?_)
  revert h1 h2
  refine w_go K 1 (c' := (38, [some (.ref 3), some (.int a1), some (.int x10.1), some (.int x10.2)], [.int x10.1], mT s)) rfl ?_
  exact w_ret K rfl (hK _)
theorem m_Works_coldLater {len : Nat} {xs : Nat → Int32}  (d : Nat) (a1 : Int32) (s : mS) : ok_Works_coldLater a1 s → mm_call (mm_X len xs) mm_Y (d + 1) 131 [.ref 3, .int a1] (mT s) = some (some (.int (f_Works_coldLater a1 s)), mT s) := fun h => t_Works_coldLater (len := len) (xs := xs) d a1 s (fun t => (some (some (.int t), mT s) : Option mm_R) = some (some (.int (f_Works_coldLater a1 s)), mT s)) (fun _ h => h) h rfl
def lp_Night_keepTried_7  : Nat → Int32 → mS → Int32 × mS
  | 0, v2, s => (v2, s)
  | n + 1, v2, s => (if (8 : Int32) ≤ v2 then (v2, s) else (lp_Night_keepTried_7 n (v2 + 1) (sI s 101 (ix v2) (gI s 100 (ix v2)))))
def okl_Night_keepTried_7  : Nat → Int32 → mS → Prop
  | 0, v2, s => False
  | n + 1, v2, s => (if (8 : Int32) ≤ v2 then True else (mm_inb v2 8 = true ∧ (mm_inb v2 8 = true ∧ (okl_Night_keepTried_7 n (v2 + 1) (sI s 101 (ix v2) (gI s 100 (ix v2)))))))
set_option maxRecDepth 4000 in
theorem tl_Night_keepTried_7 {len : Nat} {xs : Nat → Int32}  (d : Nat)   {T : Option mm_R} (K : Int32 × mS → Prop) (hX : ∀ r, K r → ∀ (o1 : Option Value), mm_fix (mm_X len xs) mm_Y (mm_call (mm_X len xs) mm_Y (d + 0)) (mm_look mc_Night_keepTried) (31, [some (.ref 94), o1, some (.int r.1)], [], mT r.2) = T) : ∀ (n : Nat), ∀ (v2 : Int32) (o1 : Option Value) (s : mS), okl_Night_keepTried_7 n v2 s → K (lp_Night_keepTried_7 n v2 s) → mm_fix (mm_X len xs) mm_Y (mm_call (mm_X len xs) mm_Y (d + 0)) (mm_look mc_Night_keepTried) (7, [some (.ref 94), o1, some (.int v2)], [], mT s) = T := by
  intro n
  induction n with
  | zero => intro v2 o1 s; exact fun h => h.elim
  | succ n ih =>
    intro v2 o1 s
    rw [okl_Night_keepTried_7, lp_Night_keepTried_7]
    refine w_go K 2 (c' := (10, [some (.ref 94), o1, some (.int v2)], [.int 8, .int v2], mT s)) rfl ?_
    refine w_ige K rfl (fun _ => ?_) (fun _ => ?_)
    · refine w_go K 0 (c' := (31, [some (.ref 94), o1, some (.int v2)], [], mT s)) rfl ?_
      exact fun _ b => hX _ b _
    · refine w_go K 6 (c' := (23, [some (.ref 94), o1, some (.int v2)], [.int v2, .ref 100, .int v2, .ref 101], mT s)) rfl ?_
      refine w_ck K (st_iL rfl rfl) ?_
      refine w_go K 0 (c' := (24, [some (.ref 94), o1, some (.int v2)], [.int (gI s 100 (ix v2)), .int v2, .ref 101], mT s)) rfl ?_
      refine w_ck K (st_iS rfl rfl) ?_
      refine w_go K 2 (c' := (7, [some (.ref 94), (mm_cut o1 0), some (.int (v2 + 1))], [], mT (sI s 101 (ix v2) (gI s 100 (ix v2))))) rfl ?_
      exact fun a b => ih (v2 + 1) _ (sI s 101 (ix v2) (gI s 100 (ix v2))) a b
def f_Night_keepTried (a1 : Int32) (s : mS) : mS := (mq_let (lp_Night_keepTried_7 mm_N (0 : Int32) (sI s 94 9 a1)) (fun (x10 : Int32 × mS) => x10.2))
def ok_Night_keepTried (a1 : Int32) (s : mS) : Prop := (okl_Night_keepTried_7 mm_N (0 : Int32) (sI s 94 9 a1) ∧ mq_letP (lp_Night_keepTried_7 mm_N (0 : Int32) (sI s 94 9 a1)) (fun (x10 : Int32 × mS) => True))
set_option maxRecDepth 4000 in
theorem t_Night_keepTried {len : Nat} {xs : Nat → Int32}  (d : Nat) (a1 : Int32) (s : mS) {T : Option mm_R} (K : mS → Prop) (hK : ∀ t, K t → some (none, mT t) = T) : ok_Night_keepTried a1 s → K (f_Night_keepTried a1 s) → mm_fix (mm_X len xs) mm_Y (mm_call (mm_X len xs) mm_Y (d + 0)) (mm_look mc_Night_keepTried) (0, [some (.ref 94), some (.int a1), none], [], mT s) = T := by
  unfold ok_Night_keepTried f_Night_keepTried
  refine w_go K 5 (c' := (7, [some (.ref 94), some (.int a1), some (.int 0)], [], mT (sI s 94 9 a1))) rfl ?_
  refine w_join K (fun (x10 : Int32 × mS) => ∀ (q11 : Option Value), mm_fix (mm_X len xs) mm_Y (mm_call (mm_X len xs) mm_Y (d + 0)) (mm_look mc_Night_keepTried) (31, [some (.ref 94), q11, some (.int x10.1)], [], mT x10.2) = T) (fun K hJ => tl_Night_keepTried_7 (len := len) (xs := xs) d (T := T) K hJ mm_N (0 : Int32) _ (sI s 94 9 a1)) (fun x10 h1 h2 q11 => ?_)
  revert h1 h2
  refine w_go K 0 (c' := (31, [some (.ref 94), q11, some (.int x10.1)], [], mT x10.2)) rfl ?_
  exact w_ret K rfl (hK _)
theorem m_Night_keepTried {len : Nat} {xs : Nat → Int32}  (d : Nat) (a1 : Int32) (s : mS) : ok_Night_keepTried a1 s → mm_call (mm_X len xs) mm_Y (d + 1) 133 [.ref 94, .int a1] (mT s) = some (none, mT (f_Night_keepTried a1 s)) := fun h => t_Night_keepTried (len := len) (xs := xs) d a1 s (fun t => (some (none, mT t) : Option mm_R) = some (none, mT (f_Night_keepTried a1 s))) (fun _ h => h) h rfl
def lp_Night_stillBurning_12 (a1 : Int32) (s : mS) : Nat → Int32 → Int32 → Int32 × Int32
  | 0, v2, v3 => (v2, v3)
  | n + 1, v2, v3 => (if a1 ≤ v3 then (v2, v3) else (if (8 : Int32) ≤ v3 then (v2, v3) else (lp_Night_stillBurning_12 a1 s n (v2 + (gI s 100 (ix v3))) (v3 + 1))))
def okl_Night_stillBurning_12 (a1 : Int32) (s : mS) : Nat → Int32 → Int32 → Prop
  | 0, v2, v3 => False
  | n + 1, v2, v3 => (if a1 ≤ v3 then True else (if (8 : Int32) ≤ v3 then True else (mm_inb v3 8 = true ∧ (okl_Night_stillBurning_12 a1 s n (v2 + (gI s 100 (ix v3))) (v3 + 1)))))
set_option maxRecDepth 4000 in
theorem tl_Night_stillBurning_12 {len : Nat} {xs : Nat → Int32}  (d : Nat) (a1 : Int32) (s : mS) {T : Option mm_R} (K : Int32 × Int32 → Prop) (hX : ∀ r, K r → mm_fix (mm_X len xs) mm_Y (mm_call (mm_X len xs) mm_Y (d + 0)) (mm_look mc_Night_stillBurning) (38, [some (.ref 94), some (.int a1), some (.int r.1), some (.int r.2)], [], mT s) = T) : ∀ (n : Nat), ∀ (v2 : Int32) (v3 : Int32), okl_Night_stillBurning_12 a1 s n v2 v3 → K (lp_Night_stillBurning_12 a1 s n v2 v3) → mm_fix (mm_X len xs) mm_Y (mm_call (mm_X len xs) mm_Y (d + 0)) (mm_look mc_Night_stillBurning) (12, [some (.ref 94), some (.int a1), some (.int v2), some (.int v3)], [], mT s) = T := by
  intro n
  induction n with
  | zero => intro v2 v3; exact fun h => h.elim
  | succ n ih =>
    intro v2 v3
    rw [okl_Night_stillBurning_12, lp_Night_stillBurning_12]
    refine w_go K 2 (c' := (14, [some (.ref 94), some (.int a1), some (.int v2), some (.int v3)], [.int a1, .int v3], mT s)) rfl ?_
    refine w_ige K rfl (fun _ => ?_) (fun _ => ?_)
    · refine w_go K 0 (c' := (38, [some (.ref 94), some (.int a1), some (.int v2), some (.int v3)], [], mT s)) rfl ?_
      exact fun _ b => hX _ b
    · refine w_go K 2 (c' := (20, [some (.ref 94), some (.int a1), some (.int v2), some (.int v3)], [.int 8, .int v3], mT s)) rfl ?_
      refine w_ige K rfl (fun _ => ?_) (fun _ => ?_)
      · refine w_go K 0 (c' := (38, [some (.ref 94), some (.int a1), some (.int v2), some (.int v3)], [], mT s)) rfl ?_
        exact fun _ b => hX _ b
      · refine w_go K 4 (c' := (29, [some (.ref 94), some (.int a1), some (.int v2), some (.int v3)], [.int v3, .ref 100, .int v2], mT s)) rfl ?_
        refine w_ck K (st_iL rfl rfl) ?_
        refine w_go K 4 (c' := (12, [some (.ref 94), some (.int a1), some (.int (v2 + (gI s 100 (ix v3)))), some (.int (v3 + 1))], [], mT s)) rfl ?_
        exact fun a b => ih (v2 + (gI s 100 (ix v3))) (v3 + 1) a b
def f_Night_stillBurning (a1 : Int32) (s : mS) : Int32 := (mq_let (lp_Night_stillBurning_12 a1 s mm_N (0 : Int32) (if (0 : Int32) < ((a1 - 4) + 1) then ((a1 - 4) + 1) else (0 : Int32))) (fun (x10 : Int32 × Int32) => x10.1))
def ok_Night_stillBurning (a1 : Int32) (s : mS) : Prop := (okl_Night_stillBurning_12 a1 s mm_N (0 : Int32) (if (0 : Int32) < ((a1 - 4) + 1) then ((a1 - 4) + 1) else (0 : Int32)) ∧ mq_letP (lp_Night_stillBurning_12 a1 s mm_N (0 : Int32) (if (0 : Int32) < ((a1 - 4) + 1) then ((a1 - 4) + 1) else (0 : Int32))) (fun (x10 : Int32 × Int32) => True))
set_option maxRecDepth 4000 in
theorem t_Night_stillBurning {len : Nat} {xs : Nat → Int32}  (d : Nat) (a1 : Int32) (s : mS) {T : Option mm_R} (K : Int32 → Prop) (hK : ∀ t, K t → some (some (.int t), mT s) = T) : ok_Night_stillBurning a1 s → K (f_Night_stillBurning a1 s) → mm_fix (mm_X len xs) mm_Y (mm_call (mm_X len xs) mm_Y (d + 0)) (mm_look mc_Night_stillBurning) (0, [some (.ref 94), some (.int a1), none, none], [], mT s) = T := by
  unfold ok_Night_stillBurning f_Night_stillBurning
  refine w_go K 10 (c' := (12, [some (.ref 94), some (.int a1), some (.int 0), some (.int (if (0 : Int32) < ((a1 - 4) + 1) then ((a1 - 4) + 1) else (0 : Int32)))], [], mT s)) rfl ?_
  refine w_join K (fun (x10 : Int32 × Int32) => mm_fix (mm_X len xs) mm_Y (mm_call (mm_X len xs) mm_Y (d + 0)) (mm_look mc_Night_stillBurning) (38, [some (.ref 94), some (.int a1), some (.int x10.1), some (.int x10.2)], [], mT s) = T) (fun K hJ => tl_Night_stillBurning_12 (len := len) (xs := xs) d a1 s (T := T) K hJ mm_N (0 : Int32) (if (0 : Int32) < ((a1 - 4) + 1) then ((a1 - 4) + 1) else (0 : Int32))) (fun x10 h1 h2 => ?_)
  revert h1 h2
  refine w_go K 1 (c' := (39, [some (.ref 94), some (.int a1), some (.int x10.1), some (.int x10.2)], [.int x10.1], mT s)) rfl ?_
  exact w_ret K rfl (hK _)
theorem m_Night_stillBurning {len : Nat} {xs : Nat → Int32}  (d : Nat) (a1 : Int32) (s : mS) : ok_Night_stillBurning a1 s → mm_call (mm_X len xs) mm_Y (d + 1) 135 [.ref 94, .int a1] (mT s) = some (some (.int (f_Night_stillBurning a1 s)), mT s) := fun h => t_Night_stillBurning (len := len) (xs := xs) d a1 s (fun t => (some (some (.int t), mT s) : Option mm_R) = some (some (.int (f_Night_stillBurning a1 s)), mT s)) (fun _ h => h) h rfl
def f_Night_mostAt (a1 : Int32) (a2 : Int32) (s : mS) : Int32 := (mq_let (f_Night_stillBurning a1 s) (fun (x10 : Int32) => (if (0 : Int32) < (if (if ((gI s 99 (ix a1)) - x10) < (gI s 98 (ix a1)) then ((gI s 99 (ix a1)) - x10) else (gI s 98 (ix a1))) < ((gI s 94 7) - a2) then (if ((gI s 99 (ix a1)) - x10) < (gI s 98 (ix a1)) then ((gI s 99 (ix a1)) - x10) else (gI s 98 (ix a1))) else ((gI s 94 7) - a2)) then (if (if ((gI s 99 (ix a1)) - x10) < (gI s 98 (ix a1)) then ((gI s 99 (ix a1)) - x10) else (gI s 98 (ix a1))) < ((gI s 94 7) - a2) then (if ((gI s 99 (ix a1)) - x10) < (gI s 98 (ix a1)) then ((gI s 99 (ix a1)) - x10) else (gI s 98 (ix a1))) else ((gI s 94 7) - a2)) else (0 : Int32))))
def ok_Night_mostAt (a1 : Int32) (a2 : Int32) (s : mS) : Prop := (mm_inb a1 8 = true ∧ (mm_inb a1 8 = true ∧ (ok_Night_stillBurning a1 s ∧ mq_letP (f_Night_stillBurning a1 s) (fun (x10 : Int32) => True))))
set_option maxRecDepth 4000 in
theorem t_Night_mostAt {len : Nat} {xs : Nat → Int32}  (d : Nat) (a1 : Int32) (a2 : Int32) (s : mS) {T : Option mm_R} (K : Int32 → Prop) (hK : ∀ t, K t → some (some (.int t), mT s) = T) : ok_Night_mostAt a1 a2 s → K (f_Night_mostAt a1 a2 s) → mm_fix (mm_X len xs) mm_Y (mm_call (mm_X len xs) mm_Y (d + 1)) (mm_look mc_Night_mostAt) (0, [some (.ref 94), some (.int a1), some (.int a2), none], [], mT s) = T := by
  unfold ok_Night_mostAt f_Night_mostAt
  refine w_go K 3 (c' := (5, [some (.ref 94), some (.int a1), some (.int a2), none], [.int a1, .ref 98], mT s)) rfl ?_
  refine w_ck K (st_iL rfl rfl) ?_
  refine w_go K 3 (c' := (11, [some (.ref 94), some (.int a1), some (.int a2), none], [.int a1, .ref 99, .int (gI s 98 (ix a1))], mT s)) rfl ?_
  refine w_ck K (st_iL rfl rfl) ?_
  refine w_go K 2 (c' := (14, [some (.ref 94), some (.int a1), some (.int a2), none], [.int a1, .ref 94, .int (gI s 99 (ix a1)), .int (gI s 98 (ix a1))], mT s)) rfl ?_
  refine w_callL K (E := f_Night_stillBurning a1 s) (g := fun (x10 : Int32) => (some (.int x10), mT s)) rfl (m_Night_stillBurning (len := len) (xs := xs) (d + 0) a1 s) (fun x10 => ?_)
  refine w_go K 11 (c' := (36, [some (.ref 94), some (.int a1), some (.int a2), some (.int (if ((gI s 99 (ix a1)) - x10) < (gI s 98 (ix a1)) then ((gI s 99 (ix a1)) - x10) else (gI s 98 (ix a1))))], [.int (if (0 : Int32) < (if (if ((gI s 99 (ix a1)) - x10) < (gI s 98 (ix a1)) then ((gI s 99 (ix a1)) - x10) else (gI s 98 (ix a1))) < ((gI s 94 7) - a2) then (if ((gI s 99 (ix a1)) - x10) < (gI s 98 (ix a1)) then ((gI s 99 (ix a1)) - x10) else (gI s 98 (ix a1))) else ((gI s 94 7) - a2)) then (if (if ((gI s 99 (ix a1)) - x10) < (gI s 98 (ix a1)) then ((gI s 99 (ix a1)) - x10) else (gI s 98 (ix a1))) < ((gI s 94 7) - a2) then (if ((gI s 99 (ix a1)) - x10) < (gI s 98 (ix a1)) then ((gI s 99 (ix a1)) - x10) else (gI s 98 (ix a1))) else ((gI s 94 7) - a2)) else (0 : Int32))], mT s)) rfl ?_
  exact w_ret K rfl (hK _)
theorem m_Night_mostAt {len : Nat} {xs : Nat → Int32}  (d : Nat) (a1 : Int32) (a2 : Int32) (s : mS) : ok_Night_mostAt a1 a2 s → mm_call (mm_X len xs) mm_Y (d + 2) 134 [.ref 94, .int a1, .int a2] (mT s) = some (some (.int (f_Night_mostAt a1 a2 s)), mT s) := fun h => t_Night_mostAt (len := len) (xs := xs) d a1 a2 s (fun t => (some (some (.int t), mT s) : Option mm_R) = some (some (.int (f_Night_mostAt a1 a2 s)), mT s)) (fun _ h => h) h rfl
def lp_Night_gasOfPlan_13 (a1 : Int32) (a2 : Int32) (s : mS) : Nat → Int32 → Int32 → Int32 × Int32
  | 0, v3, v4 => (v3, v4)
  | n + 1, v3, v4 => (if a1 < v4 then (v3, v4) else (if (8 : Int32) ≤ v4 then (v3, v4) else (if ((a2 - (v4 * 4)) + 1) < 0 then (lp_Night_gasOfPlan_13 a1 a2 s n v3 (v4 + 1)) else (if (17 : Int32) ≤ ((a2 - (v4 * 4)) + 1) then (lp_Night_gasOfPlan_13 a1 a2 s n v3 (v4 + 1)) else (lp_Night_gasOfPlan_13 a1 a2 s n (v3 + ((gI s 100 (ix v4)) * (gI s 97 (ix ((a2 - (v4 * 4)) + 1))))) (v4 + 1))))))
def okl_Night_gasOfPlan_13 (a1 : Int32) (a2 : Int32) (s : mS) : Nat → Int32 → Int32 → Prop
  | 0, v3, v4 => False
  | n + 1, v3, v4 => (if a1 < v4 then True else (if (8 : Int32) ≤ v4 then True else (if ((a2 - (v4 * 4)) + 1) < 0 then (okl_Night_gasOfPlan_13 a1 a2 s n v3 (v4 + 1)) else (if (17 : Int32) ≤ ((a2 - (v4 * 4)) + 1) then (okl_Night_gasOfPlan_13 a1 a2 s n v3 (v4 + 1)) else (mm_inb v4 8 = true ∧ (mm_inb ((a2 - (v4 * 4)) + 1) 17 = true ∧ (okl_Night_gasOfPlan_13 a1 a2 s n (v3 + ((gI s 100 (ix v4)) * (gI s 97 (ix ((a2 - (v4 * 4)) + 1))))) (v4 + 1))))))))
set_option maxRecDepth 4000 in
theorem tl_Night_gasOfPlan_13 {len : Nat} {xs : Nat → Int32}  (d : Nat) (a1 : Int32) (a2 : Int32) (s : mS) {T : Option mm_R} (K : Int32 × Int32 → Prop) (hX : ∀ r, K r → ∀ (o5 : Option Value), mm_fix (mm_X len xs) mm_Y (mm_call (mm_X len xs) mm_Y (d + 0)) (mm_look mc_Night_gasOfPlan) (75, [some (.ref 94), some (.int a1), some (.int a2), some (.int r.1), some (.int r.2), o5], [], mT s) = T) : ∀ (n : Nat), ∀ (v3 : Int32) (v4 : Int32) (o5 : Option Value), okl_Night_gasOfPlan_13 a1 a2 s n v3 v4 → K (lp_Night_gasOfPlan_13 a1 a2 s n v3 v4) → mm_fix (mm_X len xs) mm_Y (mm_call (mm_X len xs) mm_Y (d + 0)) (mm_look mc_Night_gasOfPlan) (13, [some (.ref 94), some (.int a1), some (.int a2), some (.int v3), some (.int v4), o5], [], mT s) = T := by
  intro n
  induction n with
  | zero => intro v3 v4 o5; exact fun h => h.elim
  | succ n ih =>
    intro v3 v4 o5
    rw [okl_Night_gasOfPlan_13, lp_Night_gasOfPlan_13]
    refine w_go K 2 (c' := (16, [some (.ref 94), some (.int a1), some (.int a2), some (.int v3), some (.int v4), o5], [.int a1, .int v4], mT s)) rfl ?_
    refine w_igt K rfl (fun _ => ?_) (fun _ => ?_)
    · refine w_go K 0 (c' := (75, [some (.ref 94), some (.int a1), some (.int a2), some (.int v3), some (.int v4), o5], [], mT s)) rfl ?_
      exact fun _ b => hX _ b _
    · refine w_go K 2 (c' := (23, [some (.ref 94), some (.int a1), some (.int a2), some (.int v3), some (.int v4), o5], [.int 8, .int v4], mT s)) rfl ?_
      refine w_ige K rfl (fun _ => ?_) (fun _ => ?_)
      · refine w_go K 0 (c' := (75, [some (.ref 94), some (.int a1), some (.int a2), some (.int v3), some (.int v4), o5], [], mT s)) rfl ?_
        exact fun _ b => hX _ b _
      · refine w_go K 9 (c' := (38, [some (.ref 94), some (.int a1), some (.int a2), some (.int v3), some (.int v4), some (.int ((a2 - (v4 * 4)) + 1))], [.int ((a2 - (v4 * 4)) + 1)], mT s)) rfl ?_
        refine w_zlt K rfl (fun _ => ?_) (fun _ => ?_)
        · refine w_go K 2 (c' := (13, [some (.ref 94), some (.int a1), some (.int a2), some (.int v3), some (.int (v4 + 1)), some (.int ((a2 - (v4 * 4)) + 1))], [], mT s)) rfl ?_
          exact fun a b => ih v3 (v4 + 1) _ a b
        · refine w_go K 4 (c' := (48, [some (.ref 94), some (.int a1), some (.int a2), some (.int v3), some (.int v4), some (.int ((a2 - (v4 * 4)) + 1))], [.int 17, .int ((a2 - (v4 * 4)) + 1)], mT s)) rfl ?_
          refine w_ige K rfl (fun _ => ?_) (fun _ => ?_)
          · refine w_go K 2 (c' := (13, [some (.ref 94), some (.int a1), some (.int a2), some (.int v3), some (.int (v4 + 1)), some (.int ((a2 - (v4 * 4)) + 1))], [], mT s)) rfl ?_
            exact fun a b => ih v3 (v4 + 1) _ a b
          · refine w_go K 4 (c' := (58, [some (.ref 94), some (.int a1), some (.int a2), some (.int v3), some (.int v4), some (.int ((a2 - (v4 * 4)) + 1))], [.int v4, .ref 100, .int v3], mT s)) rfl ?_
            refine w_ck K (st_iL rfl rfl) ?_
            refine w_go K 3 (c' := (65, [some (.ref 94), some (.int a1), some (.int a2), some (.int v3), some (.int v4), some (.int ((a2 - (v4 * 4)) + 1))], [.int ((a2 - (v4 * 4)) + 1), .ref 97, .int (gI s 100 (ix v4)), .int v3], mT s)) rfl ?_
            refine w_ck K (st_iL rfl rfl) ?_
            refine w_go K 5 (c' := (13, [some (.ref 94), some (.int a1), some (.int a2), some (.int (v3 + ((gI s 100 (ix v4)) * (gI s 97 (ix ((a2 - (v4 * 4)) + 1)))))), some (.int (v4 + 1)), some (.int ((a2 - (v4 * 4)) + 1))], [], mT s)) rfl ?_
            exact fun a b => ih (v3 + ((gI s 100 (ix v4)) * (gI s 97 (ix ((a2 - (v4 * 4)) + 1))))) (v4 + 1) _ a b
def f_Night_gasOfPlan (a1 : Int32) (a2 : Int32) (s : mS) : Int32 := (mq_let (lp_Night_gasOfPlan_13 a1 a2 s mm_N (0 : Int32) (if (0 : Int32) < ((a1 - 4) + 1) then ((a1 - 4) + 1) else (0 : Int32))) (fun (x10 : Int32 × Int32) => x10.1))
def ok_Night_gasOfPlan (a1 : Int32) (a2 : Int32) (s : mS) : Prop := (okl_Night_gasOfPlan_13 a1 a2 s mm_N (0 : Int32) (if (0 : Int32) < ((a1 - 4) + 1) then ((a1 - 4) + 1) else (0 : Int32)) ∧ mq_letP (lp_Night_gasOfPlan_13 a1 a2 s mm_N (0 : Int32) (if (0 : Int32) < ((a1 - 4) + 1) then ((a1 - 4) + 1) else (0 : Int32))) (fun (x10 : Int32 × Int32) => True))
set_option maxRecDepth 4000 in
theorem t_Night_gasOfPlan {len : Nat} {xs : Nat → Int32}  (d : Nat) (a1 : Int32) (a2 : Int32) (s : mS) {T : Option mm_R} (K : Int32 → Prop) (hK : ∀ t, K t → some (some (.int t), mT s) = T) : ok_Night_gasOfPlan a1 a2 s → K (f_Night_gasOfPlan a1 a2 s) → mm_fix (mm_X len xs) mm_Y (mm_call (mm_X len xs) mm_Y (d + 0)) (mm_look mc_Night_gasOfPlan) (0, [some (.ref 94), some (.int a1), some (.int a2), none, none, none], [], mT s) = T := by
  unfold ok_Night_gasOfPlan f_Night_gasOfPlan
  refine w_go K 10 (c' := (13, [some (.ref 94), some (.int a1), some (.int a2), some (.int 0), some (.int (if (0 : Int32) < ((a1 - 4) + 1) then ((a1 - 4) + 1) else (0 : Int32))), none], [], mT s)) rfl ?_
  refine w_join K (fun (x10 : Int32 × Int32) => ∀ (q11 : Option Value), mm_fix (mm_X len xs) mm_Y (mm_call (mm_X len xs) mm_Y (d + 0)) (mm_look mc_Night_gasOfPlan) (75, [some (.ref 94), some (.int a1), some (.int a2), some (.int x10.1), some (.int x10.2), q11], [], mT s) = T) (fun K hJ => tl_Night_gasOfPlan_13 (len := len) (xs := xs) d a1 a2 s (T := T) K hJ mm_N (0 : Int32) (if (0 : Int32) < ((a1 - 4) + 1) then ((a1 - 4) + 1) else (0 : Int32)) _) (fun x10 h1 h2 q11 => ?_)
  revert h1 h2
  refine w_go K 1 (c' := (76, [some (.ref 94), some (.int a1), some (.int a2), some (.int x10.1), some (.int x10.2), q11], [.int x10.1], mT s)) rfl ?_
  exact w_ret K rfl (hK _)
theorem m_Night_gasOfPlan {len : Nat} {xs : Nat → Int32}  (d : Nat) (a1 : Int32) (a2 : Int32) (s : mS) : ok_Night_gasOfPlan a1 a2 s → mm_call (mm_X len xs) mm_Y (d + 1) 137 [.ref 94, .int a1, .int a2] (mT s) = some (some (.int (f_Night_gasOfPlan a1 a2 s)), mT s) := fun h => t_Night_gasOfPlan (len := len) (xs := xs) d a1 a2 s (fun t => (some (some (.int t), mT s) : Option mm_R) = some (some (.int (f_Night_gasOfPlan a1 a2 s)), mT s)) (fun _ h => h) h rfl
def lp_Night_levelBehind_7 (a1 : Int32) (a3 : Int32) (s : mS) : Nat → Int32 → Int32 → Option Int32 × Int32 × Int32
  | 0, v2, v4 => (none, v2, v4)
  | n + 1, v2, v4 => (if (a3 + 4) ≤ v4 then (none, v2, v4) else (if (32 : Int32) ≤ v4 then (none, v2, v4) else (mq_let (f_Night_gasOfPlan a1 v4 s) (fun (x10 : Int32) => (if (0 : Int32) ≤ ((if ((v2 + (gI s 96 (ix v4))) + x10) < (gI s 94 8) then ((v2 + (gI s 96 (ix v4))) + x10) else (gI s 94 8)) - (gI s 95 (ix v4))) then (lp_Night_levelBehind_7 a1 a3 s n ((if ((v2 + (gI s 96 (ix v4))) + x10) < (gI s 94 8) then ((v2 + (gI s 96 (ix v4))) + x10) else (gI s 94 8)) - (gI s 95 (ix v4))) (v4 + 1)) else (some ((-1) : Int32), v2, v4))))))
def okl_Night_levelBehind_7 (a1 : Int32) (a3 : Int32) (s : mS) : Nat → Int32 → Int32 → Prop
  | 0, v2, v4 => False
  | n + 1, v2, v4 => (if (a3 + 4) ≤ v4 then True else (if (32 : Int32) ≤ v4 then True else (mm_inb v4 32 = true ∧ (ok_Night_gasOfPlan a1 v4 s ∧ mq_letP (f_Night_gasOfPlan a1 v4 s) (fun (x10 : Int32) => (mm_inb v4 32 = true ∧ (if (0 : Int32) ≤ ((if ((v2 + (gI s 96 (ix v4))) + x10) < (gI s 94 8) then ((v2 + (gI s 96 (ix v4))) + x10) else (gI s 94 8)) - (gI s 95 (ix v4))) then (okl_Night_levelBehind_7 a1 a3 s n ((if ((v2 + (gI s 96 (ix v4))) + x10) < (gI s 94 8) then ((v2 + (gI s 96 (ix v4))) + x10) else (gI s 94 8)) - (gI s 95 (ix v4))) (v4 + 1)) else True)))))))
set_option maxRecDepth 4000 in
theorem tl_Night_levelBehind_7 {len : Nat} {xs : Nat → Int32}  (d : Nat) (a1 : Int32) (a3 : Int32) (s : mS) {T : Option mm_R} (K : Option Int32 × Int32 × Int32 → Prop) (hX : ∀ r, K r → r.1 = none → mm_fix (mm_X len xs) mm_Y (mm_call (mm_X len xs) mm_Y (d + 1)) (mm_look mc_Night_levelBehind) (67, [some (.ref 94), some (.int a1), some (.int r.2.1), some (.int a3), some (.int r.2.2)], [], mT s) = T) (hR : ∀ r, K r → ∀ v, r.1 = some v → some (some (.int v), mT s) = T) : ∀ (n : Nat), ∀ (v2 : Int32) (v4 : Int32), okl_Night_levelBehind_7 a1 a3 s n v2 v4 → K (lp_Night_levelBehind_7 a1 a3 s n v2 v4) → mm_fix (mm_X len xs) mm_Y (mm_call (mm_X len xs) mm_Y (d + 1)) (mm_look mc_Night_levelBehind) (7, [some (.ref 94), some (.int a1), some (.int v2), some (.int a3), some (.int v4)], [], mT s) = T := by
  intro n
  induction n with
  | zero => intro v2 v4; exact fun h => h.elim
  | succ n ih =>
    intro v2 v4
    rw [okl_Night_levelBehind_7, lp_Night_levelBehind_7]
    refine w_go K 4 (c' := (12, [some (.ref 94), some (.int a1), some (.int v2), some (.int a3), some (.int v4)], [.int (a3 + 4), .int v4], mT s)) rfl ?_
    refine w_ige K rfl (fun _ => ?_) (fun _ => ?_)
    · refine w_go K 0 (c' := (67, [some (.ref 94), some (.int a1), some (.int v2), some (.int a3), some (.int v4)], [], mT s)) rfl ?_
      exact fun _ b => hX _ b rfl
    · refine w_go K 2 (c' := (19, [some (.ref 94), some (.int a1), some (.int v2), some (.int a3), some (.int v4)], [.int 32, .int v4], mT s)) rfl ?_
      refine w_ige K rfl (fun _ => ?_) (fun _ => ?_)
      · refine w_go K 0 (c' := (67, [some (.ref 94), some (.int a1), some (.int v2), some (.int a3), some (.int v4)], [], mT s)) rfl ?_
        exact fun _ b => hX _ b rfl
      · refine w_go K 6 (c' := (33, [some (.ref 94), some (.int a1), some (.int v2), some (.int a3), some (.int v4)], [.int v4, .ref 96, .int v2, .int (gI s 94 8)], mT s)) rfl ?_
        refine w_ck K (st_iL rfl rfl) ?_
        refine w_go K 4 (c' := (39, [some (.ref 94), some (.int a1), some (.int v2), some (.int a3), some (.int v4)], [.int v4, .int a1, .ref 94, .int (v2 + (gI s 96 (ix v4))), .int (gI s 94 8)], mT s)) rfl ?_
        refine w_callL K (E := f_Night_gasOfPlan a1 v4 s) (g := fun (x10 : Int32) => (some (.int x10), mT s)) rfl (m_Night_gasOfPlan (len := len) (xs := xs) (d + 0) a1 v4 s) (fun x10 => ?_)
        refine w_go K 5 (c' := (52, [some (.ref 94), some (.int a1), some (.int v2), some (.int a3), some (.int v4)], [.int v4, .ref 95, .int (if ((v2 + (gI s 96 (ix v4))) + x10) < (gI s 94 8) then ((v2 + (gI s 96 (ix v4))) + x10) else (gI s 94 8))], mT s)) rfl ?_
        refine w_ck K (st_iL rfl rfl) ?_
        refine w_go K 3 (c' := (56, [some (.ref 94), some (.int a1), some (.int ((if ((v2 + (gI s 96 (ix v4))) + x10) < (gI s 94 8) then ((v2 + (gI s 96 (ix v4))) + x10) else (gI s 94 8)) - (gI s 95 (ix v4)))), some (.int a3), some (.int v4)], [.int ((if ((v2 + (gI s 96 (ix v4))) + x10) < (gI s 94 8) then ((v2 + (gI s 96 (ix v4))) + x10) else (gI s 94 8)) - (gI s 95 (ix v4)))], mT s)) rfl ?_
        refine w_zge K rfl (fun _ => ?_) (fun _ => ?_)
        · refine w_go K 2 (c' := (7, [some (.ref 94), some (.int a1), some (.int ((if ((v2 + (gI s 96 (ix v4))) + x10) < (gI s 94 8) then ((v2 + (gI s 96 (ix v4))) + x10) else (gI s 94 8)) - (gI s 95 (ix v4)))), some (.int a3), some (.int (v4 + 1))], [], mT s)) rfl ?_
          exact fun a b => ih ((if ((v2 + (gI s 96 (ix v4))) + x10) < (gI s 94 8) then ((v2 + (gI s 96 (ix v4))) + x10) else (gI s 94 8)) - (gI s 95 (ix v4))) (v4 + 1) a b
        · refine w_go K 1 (c' := (60, [some (.ref 94), some (.int a1), some (.int ((if ((v2 + (gI s 96 (ix v4))) + x10) < (gI s 94 8) then ((v2 + (gI s 96 (ix v4))) + x10) else (gI s 94 8)) - (gI s 95 (ix v4)))), some (.int a3), some (.int v4)], [.int (-1)], mT s)) rfl ?_
          exact w_ret K rfl (fun h => hR _ h _ rfl)
def f_Night_levelBehind (a1 : Int32) (a2 : Int32) (s : mS) : Int32 := (mq_let (lp_Night_levelBehind_7 a1 (a1 * 4) s mm_N a2 (a1 * 4)) (fun (x11 : Option Int32 × Int32 × Int32) => mq_el x11.1 (fun v => v) x11.2.1))
def ok_Night_levelBehind (a1 : Int32) (a2 : Int32) (s : mS) : Prop := (okl_Night_levelBehind_7 a1 (a1 * 4) s mm_N a2 (a1 * 4) ∧ mq_letP (lp_Night_levelBehind_7 a1 (a1 * 4) s mm_N a2 (a1 * 4)) (fun (x11 : Option Int32 × Int32 × Int32) => mq_elP x11.1 True))
set_option maxRecDepth 4000 in
theorem t_Night_levelBehind {len : Nat} {xs : Nat → Int32}  (d : Nat) (a1 : Int32) (a2 : Int32) (s : mS) {T : Option mm_R} (K : Int32 → Prop) (hK : ∀ t, K t → some (some (.int t), mT s) = T) : ok_Night_levelBehind a1 a2 s → K (f_Night_levelBehind a1 a2 s) → mm_fix (mm_X len xs) mm_Y (mm_call (mm_X len xs) mm_Y (d + 1)) (mm_look mc_Night_levelBehind) (0, [some (.ref 94), some (.int a1), some (.int a2), none, none], [], mT s) = T := by
  unfold ok_Night_levelBehind f_Night_levelBehind
  refine w_go K 6 (c' := (7, [some (.ref 94), some (.int a1), some (.int a2), some (.int (a1 * 4)), some (.int (a1 * 4))], [], mT s)) rfl ?_
  refine w_join K (fun (x11 : Option Int32 × Int32 × Int32) => (x11.1 = none → mm_fix (mm_X len xs) mm_Y (mm_call (mm_X len xs) mm_Y (d + 1)) (mm_look mc_Night_levelBehind) (67, [some (.ref 94), some (.int a1), some (.int x11.2.1), some (.int (a1 * 4)), some (.int x11.2.2)], [], mT s) = T) ∧ (∀ v, x11.1 = some v → some (some (.int v), mT s) = T)) (fun K hJ => tl_Night_levelBehind_7 (len := len) (xs := xs) d a1 (a1 * 4) s (T := T) K (fun r hr => (hJ r hr).1) (fun r hr => (hJ r hr).2) mm_N a2 (a1 * 4)) (fun x11 h1 h2 => w_el K (fun v hv h => hK _ h) (fun h1 h2 => ?_) h1 h2)
  revert h1 h2
  refine w_go K 1 (c' := (68, [some (.ref 94), some (.int a1), some (.int x11.2.1), some (.int (a1 * 4)), some (.int x11.2.2)], [.int x11.2.1], mT s)) rfl ?_
  exact w_ret K rfl (hK _)
theorem m_Night_levelBehind {len : Nat} {xs : Nat → Int32}  (d : Nat) (a1 : Int32) (a2 : Int32) (s : mS) : ok_Night_levelBehind a1 a2 s → mm_call (mm_X len xs) mm_Y (d + 2) 136 [.ref 94, .int a1, .int a2] (mT s) = some (some (.int (f_Night_levelBehind a1 a2 s)), mT s) := fun h => t_Night_levelBehind (len := len) (xs := xs) d a1 a2 s (fun t => (some (some (.int t), mT s) : Option mm_R) = some (some (.int (f_Night_levelBehind a1 a2 s)), mT s)) (fun _ h => h) h rfl
def lp_Night_seek_36 (rf : Int32 → Int32 → Int32 → mS → mS) (a1 : Int32) (a2 : Int32) (a3 : Int32) (a4 : Int32) : Nat → Int32 → mS → Int32 × mS
  | 0, v5, s => (v5, s)
  | n + 1, v5, s => (if a4 < v5 then (v5, s) else (mq_let (f_Night_levelBehind a1 a3 (sI s 100 (ix a1) v5)) (fun (x12 : Int32) => (if x12 < 0 then (lp_Night_seek_36 rf a1 a2 a3 a4 n (v5 + 1) (sI s 100 (ix a1) v5)) else (mq_let (rf (a1 + 1) (a2 + v5) x12 (sI s 100 (ix a1) v5)) (fun (x13 : mS) => (lp_Night_seek_36 rf a1 a2 a3 a4 n (v5 + 1) x13)))))))
def okl_Night_seek_36 (rf : Int32 → Int32 → Int32 → mS → mS) (rok : Int32 → Int32 → Int32 → mS → Prop) (a1 : Int32) (a2 : Int32) (a3 : Int32) (a4 : Int32) : Nat → Int32 → mS → Prop
  | 0, v5, s => False
  | n + 1, v5, s => (if a4 < v5 then True else (mm_inb a1 8 = true ∧ (ok_Night_levelBehind a1 a3 (sI s 100 (ix a1) v5) ∧ mq_letP (f_Night_levelBehind a1 a3 (sI s 100 (ix a1) v5)) (fun (x12 : Int32) => (if x12 < 0 then (okl_Night_seek_36 rf rok a1 a2 a3 a4 n (v5 + 1) (sI s 100 (ix a1) v5)) else (rok (a1 + 1) (a2 + v5) x12 (sI s 100 (ix a1) v5) ∧ mq_letP (rf (a1 + 1) (a2 + v5) x12 (sI s 100 (ix a1) v5)) (fun (x13 : mS) => (okl_Night_seek_36 rf rok a1 a2 a3 a4 n (v5 + 1) x13))))))))
set_option maxRecDepth 4000 in
theorem tl_Night_seek_36 {len : Nat} {xs : Nat → Int32} (rf : Int32 → Int32 → Int32 → mS → mS) (rok : Int32 → Int32 → Int32 → mS → Prop) (D : Nat) (hrf : ∀ (e : Nat) (b0 : Int32) (b1 : Int32) (b2 : Int32) (s : mS), rok b0 b1 b2 s → mm_call (mm_X len xs) mm_Y (D + e) 132 [.ref 94, .int b0, .int b1, .int b2] (mT s) = some (none, mT (rf b0 b1 b2 s))) (d : Nat) (a1 : Int32) (a2 : Int32) (a3 : Int32) (a4 : Int32)  {T : Option mm_R} (K : Int32 × mS → Prop) (hX : ∀ r, K r → ∀ (o6 : Option Value), mm_fix (mm_X len xs) mm_Y (mm_call (mm_X len xs) mm_Y (D + d + 2)) (mm_look mc_Night_seek) (83, [some (.ref 94), some (.int a1), some (.int a2), some (.int a3), some (.int a4), some (.int r.1), o6], [], mT r.2) = T) : ∀ (n : Nat), ∀ (v5 : Int32) (o6 : Option Value) (s : mS), okl_Night_seek_36 rf rok a1 a2 a3 a4 n v5 s → K (lp_Night_seek_36 rf a1 a2 a3 a4 n v5 s) → mm_fix (mm_X len xs) mm_Y (mm_call (mm_X len xs) mm_Y (D + d + 2)) (mm_look mc_Night_seek) (36, [some (.ref 94), some (.int a1), some (.int a2), some (.int a3), some (.int a4), some (.int v5), o6], [], mT s) = T := by
  intro n
  induction n with
  | zero => intro v5 o6 s; exact fun h => h.elim
  | succ n ih =>
    intro v5 o6 s
    rw [okl_Night_seek_36, lp_Night_seek_36]
    refine w_go K 2 (c' := (40, [some (.ref 94), some (.int a1), some (.int a2), some (.int a3), some (.int a4), some (.int v5), o6], [.int a4, .int v5], mT s)) rfl ?_
    refine w_igt K rfl (fun _ => ?_) (fun _ => ?_)
    · refine w_go K 0 (c' := (83, [some (.ref 94), some (.int a1), some (.int a2), some (.int a3), some (.int a4), some (.int v5), o6], [], mT s)) rfl ?_
      exact fun _ b => hX _ b _
    · refine w_go K 4 (c' := (50, [some (.ref 94), some (.int a1), some (.int a2), some (.int a3), some (.int a4), some (.int v5), o6], [.int v5, .int a1, .ref 100], mT s)) rfl ?_
      refine w_ck K (st_iS rfl rfl) ?_
      refine w_go K 3 (c' := (54, [some (.ref 94), some (.int a1), some (.int a2), some (.int a3), some (.int a4), some (.int v5), o6], [.int a3, .int a1, .ref 94], mT (sI s 100 (ix a1) v5))) rfl ?_
      refine w_callL K (E := f_Night_levelBehind a1 a3 (sI s 100 (ix a1) v5)) (g := fun (x12 : Int32) => (some (.int x12), mT (sI s 100 (ix a1) v5))) rfl (m_Night_levelBehind (len := len) (xs := xs) (D + d + 0) a1 a3 (sI s 100 (ix a1) v5)) (fun x12 => ?_)
      refine w_go K 2 (c' := (61, [some (.ref 94), some (.int a1), some (.int a2), some (.int a3), some (.int a4), some (.int v5), some (.int x12)], [.int x12], mT (sI s 100 (ix a1) v5))) rfl ?_
      refine w_zlt K rfl (fun _ => ?_) (fun _ => ?_)
      · refine w_go K 2 (c' := (36, [some (.ref 94), some (.int a1), some (.int a2), some (.int a3), some (.int a4), some (.int (v5 + 1)), some (.int x12)], [], mT (sI s 100 (ix a1) v5))) rfl ?_
        exact fun a b => ih (v5 + 1) _ (sI s 100 (ix a1) v5) a b
      · refine w_go K 8 (c' := (74, [some (.ref 94), some (.int a1), some (.int a2), some (.int a3), some (.int a4), some (.int v5), some (.int x12)], [.int x12, .int (a2 + v5), .int (a1 + 1), .ref 94], mT (sI s 100 (ix a1) v5))) rfl ?_
        refine w_callL K (E := rf (a1 + 1) (a2 + v5) x12 (sI s 100 (ix a1) v5)) (g := fun (x13 : mS) => (none, mT x13)) rfl (hrf (d + 2) (a1 + 1) (a2 + v5) x12 (sI s 100 (ix a1) v5)) (fun x13 => ?_)
        refine w_go K 2 (c' := (36, [some (.ref 94), some (.int a1), some (.int a2), some (.int a3), some (.int a4), some (.int (v5 + 1)), some (.int x12)], [], mT x13)) rfl ?_
        exact fun a b => ih (v5 + 1) _ x13 a b
def f_Night_seek (rf : Int32 → Int32 → Int32 → mS → mS) (a1 : Int32) (a2 : Int32) (a3 : Int32) (s : mS) : mS := (if a2 < (gI s 94 9) then (if a1 < 0 then (mq_let (f_Night_keepTried a2 s) (fun (x10 : mS) => x10)) else (if a1 < 8 then (mq_let (f_Night_mostAt a1 a2 s) (fun (x11 : Int32) => (mq_let (lp_Night_seek_36 rf a1 a2 a3 x11 mm_N (0 : Int32) s) (fun (x14 : Int32 × mS) => x14.2)))) else (mq_let (f_Night_keepTried a2 s) (fun (x16 : mS) => x16)))) else s)
def ok_Night_seek (rf : Int32 → Int32 → Int32 → mS → mS) (rok : Int32 → Int32 → Int32 → mS → Prop) (a1 : Int32) (a2 : Int32) (a3 : Int32) (s : mS) : Prop := (if a2 < (gI s 94 9) then (if a1 < 0 then (ok_Night_keepTried a2 s ∧ mq_letP (f_Night_keepTried a2 s) (fun (x10 : mS) => True)) else (if a1 < 8 then (ok_Night_mostAt a1 a2 s ∧ mq_letP (f_Night_mostAt a1 a2 s) (fun (x11 : Int32) => (okl_Night_seek_36 rf rok a1 a2 a3 x11 mm_N (0 : Int32) s ∧ mq_letP (lp_Night_seek_36 rf a1 a2 a3 x11 mm_N (0 : Int32) s) (fun (x14 : Int32 × mS) => True)))) else (ok_Night_keepTried a2 s ∧ mq_letP (f_Night_keepTried a2 s) (fun (x16 : mS) => True)))) else True)
set_option maxRecDepth 4000 in
theorem t_Night_seek {len : Nat} {xs : Nat → Int32} (rf : Int32 → Int32 → Int32 → mS → mS) (rok : Int32 → Int32 → Int32 → mS → Prop) (D : Nat) (hrf : ∀ (e : Nat) (b0 : Int32) (b1 : Int32) (b2 : Int32) (s : mS), rok b0 b1 b2 s → mm_call (mm_X len xs) mm_Y (D + e) 132 [.ref 94, .int b0, .int b1, .int b2] (mT s) = some (none, mT (rf b0 b1 b2 s))) (d : Nat) (a1 : Int32) (a2 : Int32) (a3 : Int32) (s : mS) {T : Option mm_R} (K : mS → Prop) (hK : ∀ t, K t → some (none, mT t) = T) : ok_Night_seek rf rok a1 a2 a3 s → K (f_Night_seek rf a1 a2 a3 s) → mm_fix (mm_X len xs) mm_Y (mm_call (mm_X len xs) mm_Y (D + d + 2)) (mm_look mc_Night_seek) (0, [some (.ref 94), some (.int a1), some (.int a2), some (.int a3), none, none, none], [], mT s) = T := by
  unfold ok_Night_seek f_Night_seek
  refine w_go K 3 (c' := (5, [some (.ref 94), some (.int a1), some (.int a2), some (.int a3), none, none, none], [.int (gI s 94 9), .int a2], mT s)) rfl ?_
  refine w_ilt K rfl (fun _ => ?_) (fun _ => ?_)
  · refine w_go K 1 (c' := (10, [some (.ref 94), some (.int a1), some (.int a2), some (.int a3), none, none, none], [.int a1], mT s)) rfl ?_
    refine w_zlt K rfl (fun _ => ?_) (fun _ => ?_)
    · refine w_go K 2 (c' := (21, [some (.ref 94), some (.int a1), some (.int a2), some (.int a3), none, none, none], [.int a2, .ref 94], mT s)) rfl ?_
      refine w_callL K (E := f_Night_keepTried a2 s) (g := fun (x10 : mS) => (none, mT x10)) rfl (m_Night_keepTried (len := len) (xs := xs) (D + d + 1) a2 s) (fun x10 => ?_)
      refine w_go K 0 (c' := (24, [some (.ref 94), some (.int a1), some (.int a2), some (.int a3), none, none, none], [], mT x10)) rfl ?_
      exact w_ret K rfl (hK _)
    · refine w_go K 2 (c' := (16, [some (.ref 94), some (.int a1), some (.int a2), some (.int a3), none, none, none], [.int 8, .int a1], mT s)) rfl ?_
      refine w_ilt K rfl (fun _ => ?_) (fun _ => ?_)
      · refine w_go K 3 (c' := (28, [some (.ref 94), some (.int a1), some (.int a2), some (.int a3), none, none, none], [.int a2, .int a1, .ref 94], mT s)) rfl ?_
        refine w_callL K (E := f_Night_mostAt a1 a2 s) (g := fun (x11 : Int32) => (some (.int x11), mT s)) rfl (m_Night_mostAt (len := len) (xs := xs) (D + d + 0) a1 a2 s) (fun x11 => ?_)
        refine w_go K 3 (c' := (36, [some (.ref 94), some (.int a1), some (.int a2), some (.int a3), some (.int x11), some (.int 0), none], [], mT s)) rfl ?_
        refine w_join K (fun (x14 : Int32 × mS) => ∀ (q15 : Option Value), mm_fix (mm_X len xs) mm_Y (mm_call (mm_X len xs) mm_Y (D + d + 2)) (mm_look mc_Night_seek) (83, [some (.ref 94), some (.int a1), some (.int a2), some (.int a3), some (.int x11), some (.int x14.1), q15], [], mT x14.2) = T) (fun K hJ => tl_Night_seek_36 (len := len) (xs := xs) rf rok D hrf d a1 a2 a3 x11 (T := T) K hJ mm_N (0 : Int32) _ s) (fun x14 h1 h2 q15 => ?_)
        revert h1 h2
        refine w_go K 0 (c' := (83, [some (.ref 94), some (.int a1), some (.int a2), some (.int a3), some (.int x11), some (.int x14.1), q15], [], mT x14.2)) rfl ?_
        exact w_ret K rfl (hK _)
      · refine w_go K 2 (c' := (21, [some (.ref 94), some (.int a1), some (.int a2), some (.int a3), none, none, none], [.int a2, .ref 94], mT s)) rfl ?_
        refine w_callL K (E := f_Night_keepTried a2 s) (g := fun (x16 : mS) => (none, mT x16)) rfl (m_Night_keepTried (len := len) (xs := xs) (D + d + 1) a2 s) (fun x16 => ?_)
        refine w_go K 0 (c' := (24, [some (.ref 94), some (.int a1), some (.int a2), some (.int a3), none, none, none], [], mT x16)) rfl ?_
        exact w_ret K rfl (hK _)
  · refine w_go K 0 (c' := (8, [some (.ref 94), some (.int a1), some (.int a2), some (.int a3), none, none, none], [], mT s)) rfl ?_
    exact w_ret K rfl (hK _)
theorem m_Night_seek {len : Nat} {xs : Nat → Int32} (rf : Int32 → Int32 → Int32 → mS → mS) (rok : Int32 → Int32 → Int32 → mS → Prop) (D : Nat) (hrf : ∀ (e : Nat) (b0 : Int32) (b1 : Int32) (b2 : Int32) (s : mS), rok b0 b1 b2 s → mm_call (mm_X len xs) mm_Y (D + e) 132 [.ref 94, .int b0, .int b1, .int b2] (mT s) = some (none, mT (rf b0 b1 b2 s))) (d : Nat) (a1 : Int32) (a2 : Int32) (a3 : Int32) (s : mS) : ok_Night_seek rf rok a1 a2 a3 s → mm_call (mm_X len xs) mm_Y (D + d + 3) 132 [.ref 94, .int a1, .int a2, .int a3] (mT s) = some (none, mT (f_Night_seek rf a1 a2 a3 s)) := fun h => t_Night_seek (len := len) (xs := xs) rf rok D hrf d a1 a2 a3 s (fun t => (some (none, mT t) : Option mm_R) = some (none, mT (f_Night_seek rf a1 a2 a3 s))) (fun _ h => h) h rfl
def F_Night_seek : Nat → Int32 → Int32 → Int32 → mS → mS
  | 0, b0, b1, b2, s => s
  | n + 1, b0, b1, b2, s => f_Night_seek (F_Night_seek n) b0 b1 b2 s
def OK_Night_seek : Nat → Int32 → Int32 → Int32 → mS → Prop
  | 0, b0, b1, b2, s => False
  | n + 1, b0, b1, b2, s => ok_Night_seek (F_Night_seek n) (OK_Night_seek n) b0 b1 b2 s
theorem M_Night_seek {len : Nat} {xs : Nat → Int32} : ∀ (n d : Nat) (b0 : Int32) (b1 : Int32) (b2 : Int32) (s : mS), OK_Night_seek n b0 b1 b2 s → mm_call (mm_X len xs) mm_Y (n * 3 + d) 132 [.ref 94, .int b0, .int b1, .int b2] (mT s) = some (none, mT (F_Night_seek n b0 b1 b2 s))
  | 0, _, _, _, _, _, h => h.elim
  | n + 1, d, b0, b1, b2, s, h => by
    have e : (n + 1) * 3 + d = n * 3 + d + 3 := by omega
    rw [e]
    exact m_Night_seek (len := len) (xs := xs) (F_Night_seek n) (OK_Night_seek n) (n * 3) (M_Night_seek n) d b0 b1 b2 s h
def f_Night_seekT (b0 : Int32) (b1 : Int32) (b2 : Int32) (s : mS) : mS := F_Night_seek 9 b0 b1 b2 s
def ok_Night_seekT (b0 : Int32) (b1 : Int32) (b2 : Int32) (s : mS) : Prop := OK_Night_seek 9 b0 b1 b2 s
theorem m_Night_seekT {len : Nat} {xs : Nat → Int32} (d : Nat) (b0 : Int32) (b1 : Int32) (b2 : Int32) (s : mS) (h : ok_Night_seekT b0 b1 b2 s) : mm_call (mm_X len xs) mm_Y (d + 27) 132 [.ref 94, .int b0, .int b1, .int b2] (mT s) = some (none, mT (f_Night_seekT b0 b1 b2 s)) := by
  have e : d + 27 = 9 * 3 + d := by omega
  rw [e]
  exact M_Night_seek 9 d b0 b1 b2 s h
