/-! FUNCTIONS OF METHODS, by program: f_ what it does, ok_ that no row fails, m_ the small machine does so. -/
def lp_M_choice_42 (a1 : Int32) (a2 : Int32) (a3 : Int32) : Nat → Int32 → Int32 → Int32 → mS → Int32 × Int32 × Int32 × mS
  | 0, v4, v5, v6, s => (v4, v5, v6, s)
  | n + 1, v4, v5, v6, s => (if ((1 : Int32) <<< ((gI s 116 103) &&& 31)) ≤ v6 then (v4, v5, v6, s) else (mq_let (f_M_coinOf v6 s) (fun (x13 : Int32) => (if x13 ≤ a1 then (mq_let (f_M_burning v6 a2 s) (fun (x14 : Int32 × mS) => (if v4 = (-1) then (lp_M_choice_42 a1 a2 a3 n v6 x14.1 (v6 + 1) x14.2) else (if x14.1 < v5 then (lp_M_choice_42 a1 a2 a3 n v4 v5 (v6 + 1) x14.2) else (if x14.1 = v5 then (mq_let (f_M_coinOf v6 x14.2) (fun (x15 : Int32) => (mq_let (f_M_coinOf v4 x14.2) (fun (x16 : Int32) => (if x15 < x16 then (lp_M_choice_42 a1 a2 a3 n v6 x14.1 (v6 + 1) x14.2) else (lp_M_choice_42 a1 a2 a3 n v4 v5 (v6 + 1) x14.2)))))) else (lp_M_choice_42 a1 a2 a3 n v6 x14.1 (v6 + 1) x14.2)))))) else (lp_M_choice_42 a1 a2 a3 n v4 v5 (v6 + 1) s)))))
def okl_M_choice_42 (a1 : Int32) (a2 : Int32) (a3 : Int32) : Nat → Int32 → Int32 → Int32 → mS → Prop
  | 0, v4, v5, v6, s => False
  | n + 1, v4, v5, v6, s => (if ((1 : Int32) <<< ((gI s 116 103) &&& 31)) ≤ v6 then True else (ok_M_coinOf v6 s ∧ mq_letP (f_M_coinOf v6 s) (fun (x13 : Int32) => (if x13 ≤ a1 then (ok_M_burning v6 a2 s ∧ mq_letP (f_M_burning v6 a2 s) (fun (x14 : Int32 × mS) => (if v4 = (-1) then (okl_M_choice_42 a1 a2 a3 n v6 x14.1 (v6 + 1) x14.2) else (if x14.1 < v5 then (okl_M_choice_42 a1 a2 a3 n v4 v5 (v6 + 1) x14.2) else (if x14.1 = v5 then (ok_M_coinOf v6 x14.2 ∧ mq_letP (f_M_coinOf v6 x14.2) (fun (x15 : Int32) => (ok_M_coinOf v4 x14.2 ∧ mq_letP (f_M_coinOf v4 x14.2) (fun (x16 : Int32) => (if x15 < x16 then (okl_M_choice_42 a1 a2 a3 n v6 x14.1 (v6 + 1) x14.2) else (okl_M_choice_42 a1 a2 a3 n v4 v5 (v6 + 1) x14.2)))))) else (okl_M_choice_42 a1 a2 a3 n v6 x14.1 (v6 + 1) x14.2)))))) else (okl_M_choice_42 a1 a2 a3 n v4 v5 (v6 + 1) s)))))
set_option maxRecDepth 4000 in
theorem tl_M_choice_42 {len : Nat} {xs : Nat → Int32}  (d : Nat) (a1 : Int32) (a2 : Int32) (a3 : Int32)  {T : Option mm_R} (K : Int32 × Int32 × Int32 × mS → Prop) (hX : ∀ r, K r → ∀ (o7 : Option Value), mm_fix (mm_X len xs) mm_Y (mm_call (mm_X len xs) mm_Y (d + 5)) (mm_look mc_M_choice) (127, [some (.ref 116), some (.int a1), some (.int a2), some (.int a3), some (.int r.1), some (.int r.2.1), some (.int r.2.2.1), o7], [], mT r.2.2.2) = T) : ∀ (n : Nat), ∀ (v4 : Int32) (v5 : Int32) (v6 : Int32) (o7 : Option Value) (s : mS), okl_M_choice_42 a1 a2 a3 n v4 v5 v6 s → K (lp_M_choice_42 a1 a2 a3 n v4 v5 v6 s) → mm_fix (mm_X len xs) mm_Y (mm_call (mm_X len xs) mm_Y (d + 5)) (mm_look mc_M_choice) (42, [some (.ref 116), some (.int a1), some (.int a2), some (.int a3), some (.int v4), some (.int v5), some (.int v6), o7], [], mT s) = T := by
  intro n
  induction n with
  | zero => intro v4 v5 v6 o7 s; exact fun h => h.elim
  | succ n ih =>
    intro v4 v5 v6 o7 s
    rw [okl_M_choice_42, lp_M_choice_42]
    refine w_go K 5 (c' := (50, [some (.ref 116), some (.int a1), some (.int a2), some (.int a3), some (.int v4), some (.int v5), some (.int v6), o7], [.int ((1 : Int32) <<< ((gI s 116 103) &&& 31)), .int v6], mT s)) rfl ?_
    refine w_ige K rfl (fun _ => ?_) (fun _ => ?_)
    · refine w_go K 0 (c' := (127, [some (.ref 116), some (.int a1), some (.int a2), some (.int a3), some (.int v4), some (.int v5), some (.int v6), o7], [], mT s)) rfl ?_
      exact fun _ b => hX _ b _
    · refine w_go K 2 (c' := (56, [some (.ref 116), some (.int a1), some (.int a2), some (.int a3), some (.int v4), some (.int v5), some (.int v6), o7], [.int v6, .ref 116], mT s)) rfl ?_
      refine w_callL K (E := f_M_coinOf v6 s) (g := fun (x13 : Int32) => (some (.int x13), mT s)) rfl (m_M_coinOf (len := len) (xs := xs) (d + 4) v6 s) (fun x13 => ?_)
      refine w_go K 1 (c' := (60, [some (.ref 116), some (.int a1), some (.int a2), some (.int a3), some (.int v4), some (.int v5), some (.int v6), o7], [.int a1, .int x13], mT s)) rfl ?_
      refine w_ile K rfl (fun _ => ?_) (fun _ => ?_)
      · refine w_go K 3 (c' := (70, [some (.ref 116), some (.int a1), some (.int a2), some (.int a3), some (.int v4), some (.int v5), some (.int v6), o7], [.int a2, .int v6, .ref 116], mT s)) rfl ?_
        refine w_callL K (E := f_M_burning v6 a2 s) (g := fun (x14 : Int32 × mS) => (some (.int x14.1), mT x14.2)) rfl (m_M_burning (len := len) (xs := xs) (d + 0) v6 a2 s) (fun x14 => ?_)
        refine w_go K 3 (c' := (78, [some (.ref 116), some (.int a1), some (.int a2), some (.int a3), some (.int v4), some (.int v5), some (.int v6), some (.int x14.1)], [.int (-1), .int v4], mT x14.2)) rfl ?_
        refine w_ieq K rfl (fun _ => ?_) (fun _ => ?_)
        · refine w_go K 6 (c' := (42, [some (.ref 116), some (.int a1), some (.int a2), some (.int a3), some (.int v6), some (.int x14.1), some (.int (v6 + 1)), some (.int x14.1)], [], mT x14.2)) rfl ?_
          exact fun a b => ih v6 x14.1 (v6 + 1) _ x14.2 a b
        · refine w_go K 2 (c' := (85, [some (.ref 116), some (.int a1), some (.int a2), some (.int a3), some (.int v4), some (.int v5), some (.int v6), some (.int x14.1)], [.int v5, .int x14.1], mT x14.2)) rfl ?_
          refine w_ilt K rfl (fun _ => ?_) (fun _ => ?_)
          · refine w_go K 2 (c' := (42, [some (.ref 116), some (.int a1), some (.int a2), some (.int a3), some (.int v4), some (.int v5), some (.int (v6 + 1)), some (.int x14.1)], [], mT x14.2)) rfl ?_
            exact fun a b => ih v4 v5 (v6 + 1) _ x14.2 a b
          · refine w_go K 2 (c' := (92, [some (.ref 116), some (.int a1), some (.int a2), some (.int a3), some (.int v4), some (.int v5), some (.int v6), some (.int x14.1)], [.int v5, .int x14.1], mT x14.2)) rfl ?_
            refine w_ine K rfl (fun _ => ?_) (fun _ => ?_)
            · refine w_go K 2 (c' := (98, [some (.ref 116), some (.int a1), some (.int a2), some (.int a3), some (.int v4), some (.int v5), some (.int v6), some (.int x14.1)], [.int v6, .ref 116], mT x14.2)) rfl ?_
              refine w_callL K (E := f_M_coinOf v6 x14.2) (g := fun (x15 : Int32) => (some (.int x15), mT x14.2)) rfl (m_M_coinOf (len := len) (xs := xs) (d + 4) v6 x14.2) (fun x15 => ?_)
              refine w_go K 2 (c' := (104, [some (.ref 116), some (.int a1), some (.int a2), some (.int a3), some (.int v4), some (.int v5), some (.int v6), some (.int x14.1)], [.int v4, .ref 116, .int x15], mT x14.2)) rfl ?_
              refine w_callL K (E := f_M_coinOf v4 x14.2) (g := fun (x16 : Int32) => (some (.int x16), mT x14.2)) rfl (m_M_coinOf (len := len) (xs := xs) (d + 4) v4 x14.2) (fun x16 => ?_)
              refine w_go K 0 (c' := (107, [some (.ref 116), some (.int a1), some (.int a2), some (.int a3), some (.int v4), some (.int v5), some (.int v6), some (.int x14.1)], [.int x16, .int x15], mT x14.2)) rfl ?_
              refine w_ilt K rfl (fun _ => ?_) (fun _ => ?_)
              · refine w_go K 6 (c' := (42, [some (.ref 116), some (.int a1), some (.int a2), some (.int a3), some (.int v6), some (.int x14.1), some (.int (v6 + 1)), some (.int x14.1)], [], mT x14.2)) rfl ?_
                exact fun a b => ih v6 x14.1 (v6 + 1) _ x14.2 a b
              · refine w_go K 3 (c' := (42, [some (.ref 116), some (.int a1), some (.int a2), some (.int a3), some (.int v4), some (.int v5), some (.int (v6 + 1)), some (.int x14.1)], [], mT x14.2)) rfl ?_
                exact fun a b => ih v4 v5 (v6 + 1) _ x14.2 a b
            · refine w_go K 6 (c' := (42, [some (.ref 116), some (.int a1), some (.int a2), some (.int a3), some (.int v6), some (.int x14.1), some (.int (v6 + 1)), some (.int x14.1)], [], mT x14.2)) rfl ?_
              exact fun a b => ih v6 x14.1 (v6 + 1) _ x14.2 a b
      · refine w_go K 3 (c' := (42, [some (.ref 116), some (.int a1), some (.int a2), some (.int a3), some (.int v4), some (.int v5), some (.int (v6 + 1)), o7], [], mT s)) rfl ?_
        exact fun a b => ih v4 v5 (v6 + 1) _ s a b
def f_M_choice (a1 : Int32) (a2 : Int32) (a3 : Int32) (s : mS) : Int32 × mS := (mq_let (f_M_isIn a1 (0 : Int32) (9999 : Int32) s) (fun (x10 : Int32) => (if x10 = 0 then ((-1), s) else (mq_let (f_M_isIn a2 (0 : Int32) (3999 : Int32) s) (fun (x11 : Int32) => (if x11 = 0 then ((-1), s) else (mq_let (f_M_isIn a3 (0 : Int32) (2 : Int32) s) (fun (x12 : Int32) => (if x12 = 0 then ((-1), s) else (mq_let (lp_M_choice_42 a1 a2 a3 mm_N ((-1) : Int32) (0 : Int32) (0 : Int32) s) (fun (x17 : Int32 × Int32 × Int32 × mS) => (if a3 = 0 then (x17.1, x17.2.2.2) else (if a3 = 1 then (x17.2.1, x17.2.2.2) else (mq_let (f_M_coinOf x17.1 x17.2.2.2) (fun (x19 : Int32) => (x19, x17.2.2.2))))))))))))))))
def ok_M_choice (a1 : Int32) (a2 : Int32) (a3 : Int32) (s : mS) : Prop := (True ∧ mq_letP (f_M_isIn a1 (0 : Int32) (9999 : Int32) s) (fun (x10 : Int32) => (if x10 = 0 then True else (True ∧ mq_letP (f_M_isIn a2 (0 : Int32) (3999 : Int32) s) (fun (x11 : Int32) => (if x11 = 0 then True else (True ∧ mq_letP (f_M_isIn a3 (0 : Int32) (2 : Int32) s) (fun (x12 : Int32) => (if x12 = 0 then True else (okl_M_choice_42 a1 a2 a3 mm_N ((-1) : Int32) (0 : Int32) (0 : Int32) s ∧ mq_letP (lp_M_choice_42 a1 a2 a3 mm_N ((-1) : Int32) (0 : Int32) (0 : Int32) s) (fun (x17 : Int32 × Int32 × Int32 × mS) => (if a3 = 0 then True else (if a3 = 1 then True else (ok_M_coinOf x17.1 x17.2.2.2 ∧ mq_letP (f_M_coinOf x17.1 x17.2.2.2) (fun (x19 : Int32) => True)))))))))))))))
set_option maxRecDepth 4000 in
theorem t_M_choice {len : Nat} {xs : Nat → Int32}  (d : Nat) (a1 : Int32) (a2 : Int32) (a3 : Int32) (s : mS) {T : Option mm_R} (K : Int32 × mS → Prop) (hK : ∀ t, K t → some (some (.int t.1), mT t.2) = T) : ok_M_choice a1 a2 a3 s → K (f_M_choice a1 a2 a3 s) → mm_fix (mm_X len xs) mm_Y (mm_call (mm_X len xs) mm_Y (d + 5)) (mm_look mc_M_choice) (0, [some (.ref 116), some (.int a1), some (.int a2), some (.int a3), none, none, none, none], [], mT s) = T := by
  unfold ok_M_choice f_M_choice
  refine w_go K 3 (c' := (5, [some (.ref 116), some (.int a1), some (.int a2), some (.int a3), none, none, none, none], [.int 9999, .int 0, .int a1], mT s)) rfl ?_
  refine w_callL K (E := f_M_isIn a1 (0 : Int32) (9999 : Int32) s) (g := fun (x10 : Int32) => (some (.int x10), mT s)) rfl (m_M_isIn (len := len) (xs := xs) (d + 4) a1 (0 : Int32) (9999 : Int32) s) (fun x10 => ?_)
  refine w_go K 0 (c' := (8, [some (.ref 116), some (.int a1), some (.int a2), some (.int a3), none, none, none, none], [.int x10], mT s)) rfl ?_
  refine w_zeq K rfl (fun _ => ?_) (fun _ => ?_)
  · refine w_go K 1 (c' := (32, [some (.ref 116), some (.int a1), some (.int a2), some (.int a3), none, none, none, none], [.int (-1)], mT s)) rfl ?_
    exact w_ret K rfl (hK _)
  · refine w_go K 3 (c' := (16, [some (.ref 116), some (.int a1), some (.int a2), some (.int a3), none, none, none, none], [.int 3999, .int 0, .int a2], mT s)) rfl ?_
    refine w_callL K (E := f_M_isIn a2 (0 : Int32) (3999 : Int32) s) (g := fun (x11 : Int32) => (some (.int x11), mT s)) rfl (m_M_isIn (len := len) (xs := xs) (d + 4) a2 (0 : Int32) (3999 : Int32) s) (fun x11 => ?_)
    refine w_go K 0 (c' := (19, [some (.ref 116), some (.int a1), some (.int a2), some (.int a3), none, none, none, none], [.int x11], mT s)) rfl ?_
    refine w_zeq K rfl (fun _ => ?_) (fun _ => ?_)
    · refine w_go K 1 (c' := (32, [some (.ref 116), some (.int a1), some (.int a2), some (.int a3), none, none, none, none], [.int (-1)], mT s)) rfl ?_
      exact w_ret K rfl (hK _)
    · refine w_go K 3 (c' := (25, [some (.ref 116), some (.int a1), some (.int a2), some (.int a3), none, none, none, none], [.int 2, .int 0, .int a3], mT s)) rfl ?_
      refine w_callL K (E := f_M_isIn a3 (0 : Int32) (2 : Int32) s) (g := fun (x12 : Int32) => (some (.int x12), mT s)) rfl (m_M_isIn (len := len) (xs := xs) (d + 4) a3 (0 : Int32) (2 : Int32) s) (fun x12 => ?_)
      refine w_go K 0 (c' := (28, [some (.ref 116), some (.int a1), some (.int a2), some (.int a3), none, none, none, none], [.int x12], mT s)) rfl ?_
      refine w_zne K rfl (fun _ => ?_) (fun _ => ?_)
      · refine w_go K 1 (c' := (32, [some (.ref 116), some (.int a1), some (.int a2), some (.int a3), none, none, none, none], [.int (-1)], mT s)) rfl ?_
        exact w_ret K rfl (hK _)
      · refine w_go K 6 (c' := (42, [some (.ref 116), some (.int a1), some (.int a2), some (.int a3), some (.int (-1)), some (.int 0), some (.int 0), none], [], mT s)) rfl ?_
        refine w_join K (fun (x17 : Int32 × Int32 × Int32 × mS) => ∀ (q18 : Option Value), mm_fix (mm_X len xs) mm_Y (mm_call (mm_X len xs) mm_Y (d + 5)) (mm_look mc_M_choice) (127, [some (.ref 116), some (.int a1), some (.int a2), some (.int a3), some (.int x17.1), some (.int x17.2.1), some (.int x17.2.2.1), q18], [], mT x17.2.2.2) = T) (fun K hJ => tl_M_choice_42 (len := len) (xs := xs) d a1 a2 a3 (T := T) K hJ mm_N ((-1) : Int32) (0 : Int32) (0 : Int32) _ s) (fun x17 h1 h2 q18 => ?_)
        revert h1 h2
        refine w_go K 1 (c' := (128, [some (.ref 116), some (.int a1), some (.int a2), some (.int a3), some (.int x17.1), some (.int x17.2.1), some (.int x17.2.2.1), q18], [.int a3], mT x17.2.2.2)) rfl ?_
        refine w_zne K rfl (fun _ => ?_) (fun _ => ?_)
        · refine w_go K 2 (c' := (152, [some (.ref 116), some (.int a1), some (.int a2), some (.int a3), some (.int x17.1), some (.int x17.2.1), some (.int x17.2.2.1), q18], [.int x17.1], mT x17.2.2.2)) rfl ?_
          exact w_ret K rfl (hK _)
        · refine w_go K 2 (c' := (138, [some (.ref 116), some (.int a1), some (.int a2), some (.int a3), some (.int x17.1), some (.int x17.2.1), some (.int x17.2.2.1), q18], [.int 1, .int a3], mT x17.2.2.2)) rfl ?_
          refine w_ine K rfl (fun _ => ?_) (fun _ => ?_)
          · refine w_go K 2 (c' := (152, [some (.ref 116), some (.int a1), some (.int a2), some (.int a3), some (.int x17.1), some (.int x17.2.1), some (.int x17.2.2.1), q18], [.int x17.2.1], mT x17.2.2.2)) rfl ?_
            exact w_ret K rfl (hK _)
          · refine w_go K 2 (c' := (149, [some (.ref 116), some (.int a1), some (.int a2), some (.int a3), some (.int x17.1), some (.int x17.2.1), some (.int x17.2.2.1), q18], [.int x17.1, .ref 116], mT x17.2.2.2)) rfl ?_
            refine w_callL K (E := f_M_coinOf x17.1 x17.2.2.2) (g := fun (x19 : Int32) => (some (.int x19), mT x17.2.2.2)) rfl (m_M_coinOf (len := len) (xs := xs) (d + 4) x17.1 x17.2.2.2) (fun x19 => ?_)
            refine w_go K 0 (c' := (152, [some (.ref 116), some (.int a1), some (.int a2), some (.int a3), some (.int x17.1), some (.int x17.2.1), some (.int x17.2.2.1), q18], [.int x19], mT x17.2.2.2)) rfl ?_
            exact w_ret K rfl (hK _)
theorem m_M_choice {len : Nat} {xs : Nat → Int32}  (d : Nat) (a1 : Int32) (a2 : Int32) (a3 : Int32) (s : mS) : ok_M_choice a1 a2 a3 s → mm_call (mm_X len xs) mm_Y (d + 6) 247 [.ref 116, .int a1, .int a2, .int a3] (mT s) = some (some (.int (f_M_choice a1 a2 a3 s).1), mT (f_M_choice a1 a2 a3 s).2) := fun h => t_M_choice (len := len) (xs := xs) d a1 a2 a3 s (fun t => (some (some (.int t.1), mT t.2) : Option mm_R) = some (some (.int (f_M_choice a1 a2 a3 s).1), mT (f_M_choice a1 a2 a3 s).2)) (fun _ h => h) h rfl
def lp_Works_burning_4 (s : mS) : Nat → Int32 → Int32 → Int32 × Int32
  | 0, v1, v2 => (v1, v2)
  | n + 1, v1, v2 => (if (6 : Int32) ≤ v2 then (v1, v2) else (if (gI s 8 (ix v2)) ≤ 0 then (lp_Works_burning_4 s n v1 (v2 + 1)) else (lp_Works_burning_4 s n (v1 + 1) (v2 + 1))))
def okl_Works_burning_4 (s : mS) : Nat → Int32 → Int32 → Prop
  | 0, v1, v2 => False
  | n + 1, v1, v2 => (if (6 : Int32) ≤ v2 then True else (mm_inb v2 6 = true ∧ (if (gI s 8 (ix v2)) ≤ 0 then (okl_Works_burning_4 s n v1 (v2 + 1)) else (okl_Works_burning_4 s n (v1 + 1) (v2 + 1)))))
set_option maxRecDepth 4000 in
theorem tl_Works_burning_4 {len : Nat} {xs : Nat → Int32}  (d : Nat)  (s : mS) {T : Option mm_R} (K : Int32 × Int32 → Prop) (hX : ∀ r, K r → mm_fix (mm_X len xs) mm_Y (mm_call (mm_X len xs) mm_Y (d + 0)) (mm_look mc_Works_burning) (28, [some (.ref 3), some (.int r.1), some (.int r.2)], [], mT s) = T) : ∀ (n : Nat), ∀ (v1 : Int32) (v2 : Int32), okl_Works_burning_4 s n v1 v2 → K (lp_Works_burning_4 s n v1 v2) → mm_fix (mm_X len xs) mm_Y (mm_call (mm_X len xs) mm_Y (d + 0)) (mm_look mc_Works_burning) (4, [some (.ref 3), some (.int v1), some (.int v2)], [], mT s) = T := by
  intro n
  induction n with
  | zero => intro v1 v2; exact fun h => h.elim
  | succ n ih =>
    intro v1 v2
    rw [okl_Works_burning_4, lp_Works_burning_4]
    refine w_go K 2 (c' := (7, [some (.ref 3), some (.int v1), some (.int v2)], [.int 6, .int v2], mT s)) rfl ?_
    refine w_ige K rfl (fun _ => ?_) (fun _ => ?_)
    · refine w_go K 0 (c' := (28, [some (.ref 3), some (.int v1), some (.int v2)], [], mT s)) rfl ?_
      exact fun _ b => hX _ b
    · refine w_go K 3 (c' := (15, [some (.ref 3), some (.int v1), some (.int v2)], [.int v2, .ref 8], mT s)) rfl ?_
      refine w_ck K (st_iL rfl rfl) ?_
      refine w_go K 0 (c' := (16, [some (.ref 3), some (.int v1), some (.int v2)], [.int (gI s 8 (ix v2))], mT s)) rfl ?_
      refine w_zle K rfl (fun _ => ?_) (fun _ => ?_)
      · refine w_go K 2 (c' := (4, [some (.ref 3), some (.int v1), some (.int (v2 + 1))], [], mT s)) rfl ?_
        exact fun a b => ih v1 (v2 + 1) a b
      · refine w_go K 3 (c' := (4, [some (.ref 3), some (.int (v1 + 1)), some (.int (v2 + 1))], [], mT s)) rfl ?_
        exact fun a b => ih (v1 + 1) (v2 + 1) a b
def f_Works_burning  (s : mS) : Int32 := (mq_let (lp_Works_burning_4 s mm_N (0 : Int32) (0 : Int32)) (fun (x10 : Int32 × Int32) => x10.1))
def ok_Works_burning  (s : mS) : Prop := (okl_Works_burning_4 s mm_N (0 : Int32) (0 : Int32) ∧ mq_letP (lp_Works_burning_4 s mm_N (0 : Int32) (0 : Int32)) (fun (x10 : Int32 × Int32) => True))
set_option maxRecDepth 4000 in
theorem t_Works_burning {len : Nat} {xs : Nat → Int32}  (d : Nat)  (s : mS) {T : Option mm_R} (K : Int32 → Prop) (hK : ∀ t, K t → some (some (.int t), mT s) = T) : ok_Works_burning s → K (f_Works_burning s) → mm_fix (mm_X len xs) mm_Y (mm_call (mm_X len xs) mm_Y (d + 0)) (mm_look mc_Works_burning) (0, [some (.ref 3), none, none], [], mT s) = T := by
  unfold ok_Works_burning f_Works_burning
  refine w_go K 4 (c' := (4, [some (.ref 3), some (.int 0), some (.int 0)], [], mT s)) rfl ?_
  refine w_join K (fun (x10 : Int32 × Int32) => mm_fix (mm_X len xs) mm_Y (mm_call (mm_X len xs) mm_Y (d + 0)) (mm_look mc_Works_burning) (28, [some (.ref 3), some (.int x10.1), some (.int x10.2)], [], mT s) = T) (fun K hJ => tl_Works_burning_4 (len := len) (xs := xs) d s (T := T) K hJ mm_N (0 : Int32) (0 : Int32)) (fun x10 h1 h2 => ?_)
  revert h1 h2
  refine w_go K 1 (c' := (29, [some (.ref 3), some (.int x10.1), some (.int x10.2)], [.int x10.1], mT s)) rfl ?_
  exact w_ret K rfl (hK _)
theorem m_Works_burning {len : Nat} {xs : Nat → Int32}  (d : Nat)  (s : mS) : ok_Works_burning s → mm_call (mm_X len xs) mm_Y (d + 1) 156 [.ref 3] (mT s) = some (some (.int (f_Works_burning s)), mT s) := fun h => t_Works_burning (len := len) (xs := xs) d s (fun t => (some (some (.int t), mT s) : Option mm_R) = some (some (.int (f_Works_burning s)), mT s)) (fun _ h => h) h rfl
def f_G_look (a1 : Int32) (s : mS) : Int64 := (if a1 = 0 then (Int32.toInt64 (gI s 0 9)) else (if a1 = 1 then (Int32.toInt64 (gI s 3 12)) else (if a1 = 2 then (gL s 3 13) else (if a1 = 3 then (gL s 3 14) else (if a1 = 4 then (gL s 0 13) else (if a1 = 5 then (Int32.toInt64 (gI s 0 10)) else (if a1 = 6 then (Int32.toInt64 (gI s 0 11)) else (if a1 = 7 then (Int32.toInt64 (gI s 0 12)) else (if a1 = 8 then (Int32.toInt64 (gI s 3 15)) else (if a1 = 9 then (Int32.toInt64 (gI s 3 16)) else (if a1 = 10 then (gL s 82 13) else (if a1 = 11 then (gL s 82 14) else (if a1 = 12 then (gL s 82 15) else (if a1 = 13 then (Int32.toInt64 (gI s 12 12)) else (if a1 = 14 then (Int32.toInt64 (gI s 25 10)) else (if a1 = 15 then (mq_let (f_Works_burning s) (fun (x10 : Int32) => (Int32.toInt64 x10))) else (-1)))))))))))))))))
def ok_G_look (a1 : Int32) (s : mS) : Prop := (if a1 = 0 then True else (if a1 = 1 then True else (if a1 = 2 then True else (if a1 = 3 then True else (if a1 = 4 then True else (if a1 = 5 then True else (if a1 = 6 then True else (if a1 = 7 then True else (if a1 = 8 then True else (if a1 = 9 then True else (if a1 = 10 then True else (if a1 = 11 then True else (if a1 = 12 then True else (if a1 = 13 then True else (if a1 = 14 then True else (if a1 = 15 then (ok_Works_burning s ∧ mq_letP (f_Works_burning s) (fun (x10 : Int32) => True)) else True))))))))))))))))
set_option maxRecDepth 4000 in
theorem t_G_look {len : Nat} {xs : Nat → Int32}  (d : Nat) (a1 : Int32) (s : mS) {T : Option mm_R} (K : Int64 → Prop) (hK : ∀ t, K t → some (some (.long t), mT s) = T) : ok_G_look a1 s → K (f_G_look a1 s) → mm_fix (mm_X len xs) mm_Y (mm_call (mm_X len xs) mm_Y (d + 1)) (mm_look mc_G_look) (0, [some (.ref 0), some (.int a1)], [], mT s) = T := by
  unfold ok_G_look f_G_look
  refine w_go K 1 (c' := (1, [some (.ref 0), some (.int a1)], [.int a1], mT s)) rfl ?_
  refine w_go K 1 (c' := (mm_sw [(0, 80), (1, 86), (2, 95), (3, 103), (4, 111), (5, 116), (6, 122), (7, 128), (8, 134), (9, 143), (10, 152), (11, 160), (12, 168), (13, 176), (14, 185), (15, 194)] 203 a1, [some (.ref 0), some (.int a1)], [], mT s)) rfl ?_
  refine w_sw K (fun _ => ?_) (fun _ => ?_)
  · refine w_go K 3 (c' := (85, [some (.ref 0), some (.int a1)], [.long (Int32.toInt64 (gI s 0 9))], mT s)) rfl ?_
    exact w_ret K rfl (hK _)
  · refine w_sw K (fun _ => ?_) (fun _ => ?_)
    · refine w_go K 4 (c' := (94, [some (.ref 0), some (.int a1)], [.long (Int32.toInt64 (gI s 3 12))], mT s)) rfl ?_
      exact w_ret K rfl (hK _)
    · refine w_sw K (fun _ => ?_) (fun _ => ?_)
      · refine w_go K 3 (c' := (102, [some (.ref 0), some (.int a1)], [.long (gL s 3 13)], mT s)) rfl ?_
        exact w_ret K rfl (hK _)
      · refine w_sw K (fun _ => ?_) (fun _ => ?_)
        · refine w_go K 3 (c' := (110, [some (.ref 0), some (.int a1)], [.long (gL s 3 14)], mT s)) rfl ?_
          exact w_ret K rfl (hK _)
        · refine w_sw K (fun _ => ?_) (fun _ => ?_)
          · refine w_go K 2 (c' := (115, [some (.ref 0), some (.int a1)], [.long (gL s 0 13)], mT s)) rfl ?_
            exact w_ret K rfl (hK _)
          · refine w_sw K (fun _ => ?_) (fun _ => ?_)
            · refine w_go K 3 (c' := (121, [some (.ref 0), some (.int a1)], [.long (Int32.toInt64 (gI s 0 10))], mT s)) rfl ?_
              exact w_ret K rfl (hK _)
            · refine w_sw K (fun _ => ?_) (fun _ => ?_)
              · refine w_go K 3 (c' := (127, [some (.ref 0), some (.int a1)], [.long (Int32.toInt64 (gI s 0 11))], mT s)) rfl ?_
                exact w_ret K rfl (hK _)
              · refine w_sw K (fun _ => ?_) (fun _ => ?_)
                · refine w_go K 3 (c' := (133, [some (.ref 0), some (.int a1)], [.long (Int32.toInt64 (gI s 0 12))], mT s)) rfl ?_
                  exact w_ret K rfl (hK _)
                · refine w_sw K (fun _ => ?_) (fun _ => ?_)
                  · refine w_go K 4 (c' := (142, [some (.ref 0), some (.int a1)], [.long (Int32.toInt64 (gI s 3 15))], mT s)) rfl ?_
                    exact w_ret K rfl (hK _)
                  · refine w_sw K (fun _ => ?_) (fun _ => ?_)
                    · refine w_go K 4 (c' := (151, [some (.ref 0), some (.int a1)], [.long (Int32.toInt64 (gI s 3 16))], mT s)) rfl ?_
                      exact w_ret K rfl (hK _)
                    · refine w_sw K (fun _ => ?_) (fun _ => ?_)
                      · refine w_go K 3 (c' := (159, [some (.ref 0), some (.int a1)], [.long (gL s 82 13)], mT s)) rfl ?_
                        exact w_ret K rfl (hK _)
                      · refine w_sw K (fun _ => ?_) (fun _ => ?_)
                        · refine w_go K 3 (c' := (167, [some (.ref 0), some (.int a1)], [.long (gL s 82 14)], mT s)) rfl ?_
                          exact w_ret K rfl (hK _)
                        · refine w_sw K (fun _ => ?_) (fun _ => ?_)
                          · refine w_go K 3 (c' := (175, [some (.ref 0), some (.int a1)], [.long (gL s 82 15)], mT s)) rfl ?_
                            exact w_ret K rfl (hK _)
                          · refine w_sw K (fun _ => ?_) (fun _ => ?_)
                            · refine w_go K 4 (c' := (184, [some (.ref 0), some (.int a1)], [.long (Int32.toInt64 (gI s 12 12))], mT s)) rfl ?_
                              exact w_ret K rfl (hK _)
                            · refine w_sw K (fun _ => ?_) (fun _ => ?_)
                              · refine w_go K 4 (c' := (193, [some (.ref 0), some (.int a1)], [.long (Int32.toInt64 (gI s 25 10))], mT s)) rfl ?_
                                exact w_ret K rfl (hK _)
                              · refine w_sw K (fun _ => ?_) (fun _ => ?_)
                                · refine w_go K 2 (c' := (198, [some (.ref 0), some (.int a1)], [.ref 3], mT s)) rfl ?_
                                  refine w_callL K (E := f_Works_burning s) (g := fun (x10 : Int32) => (some (.int x10), mT s)) rfl (m_Works_burning (len := len) (xs := xs) (d + 0) s) (fun x10 => ?_)
                                  refine w_go K 1 (c' := (202, [some (.ref 0), some (.int a1)], [.long (Int32.toInt64 x10)], mT s)) rfl ?_
                                  exact w_ret K rfl (hK _)
                                · refine w_go K 0 (c' := (203, [some (.ref 0), some (.int a1)], [], mT s)) rfl ?_
                                  refine w_go K 1 (c' := (206, [some (.ref 0), some (.int a1)], [.long (-1)], mT s)) rfl ?_
                                  exact w_ret K rfl (hK _)
theorem m_G_look {len : Nat} {xs : Nat → Int32}  (d : Nat) (a1 : Int32) (s : mS) : ok_G_look a1 s → mm_call (mm_X len xs) mm_Y (d + 2) 155 [.ref 0, .int a1] (mT s) = some (some (.long (f_G_look a1 s)), mT s) := fun h => t_G_look (len := len) (xs := xs) d a1 s (fun t => (some (some (.long t), mT s) : Option mm_R) = some (some (.long (f_G_look a1 s)), mT s)) (fun _ h => h) h rfl
def lp_M_look_165 (s : mS) : Nat → Int64 → Int32 → Int64 × Int32
  | 0, v2, v4 => (v2, v4)
  | n + 1, v2, v4 => (if (gI s 116 4) ≤ v4 then (v2, v4) else (if (gI s 126 (ix v4)) = (-1) then (lp_M_look_165 s n (v2 + 0) (v4 + 1)) else (lp_M_look_165 s n (v2 + 1) (v4 + 1))))
def okl_M_look_165 (s : mS) : Nat → Int64 → Int32 → Prop
  | 0, v2, v4 => False
  | n + 1, v2, v4 => (if (gI s 116 4) ≤ v4 then True else (mm_inb v4 6 = true ∧ (if (gI s 126 (ix v4)) = (-1) then (okl_M_look_165 s n (v2 + 0) (v4 + 1)) else (okl_M_look_165 s n (v2 + 1) (v4 + 1)))))
set_option maxRecDepth 4000 in
theorem tl_M_look_165 {len : Nat} {xs : Nat → Int32}  (d : Nat)  (s : mS) {T : Option mm_R} (K : Int64 × Int32 → Prop) (hX : ∀ r, K r → ∀ (o1 : Option Value), mm_fix (mm_X len xs) mm_Y (mm_call (mm_X len xs) mm_Y (d + 0)) (mm_look mc_M_look) (199, [some (.ref 116), o1, some (.long r.1), none, some (.int r.2)], [], mT s) = T) : ∀ (n : Nat), ∀ (v2 : Int64) (v4 : Int32) (o1 : Option Value), okl_M_look_165 s n v2 v4 → K (lp_M_look_165 s n v2 v4) → mm_fix (mm_X len xs) mm_Y (mm_call (mm_X len xs) mm_Y (d + 0)) (mm_look mc_M_look) (165, [some (.ref 116), o1, some (.long v2), none, some (.int v4)], [], mT s) = T := by
  intro n
  induction n with
  | zero => intro v2 v4 o1; exact fun h => h.elim
  | succ n ih =>
    intro v2 v4 o1
    rw [okl_M_look_165, lp_M_look_165]
    refine w_go K 3 (c' := (171, [some (.ref 116), o1, some (.long v2), none, some (.int v4)], [.int (gI s 116 4), .int v4], mT s)) rfl ?_
    refine w_ige K rfl (fun _ => ?_) (fun _ => ?_)
    · refine w_go K 0 (c' := (199, [some (.ref 116), o1, some (.long v2), none, some (.int v4)], [], mT s)) rfl ?_
      exact fun _ b => hX _ b _
    · refine w_go K 4 (c' := (181, [some (.ref 116), o1, some (.long v2), none, some (.int v4)], [.int v4, .ref 126, .long v2], mT s)) rfl ?_
      refine w_ck K (st_iL rfl rfl) ?_
      refine w_go K 1 (c' := (183, [some (.ref 116), o1, some (.long v2), none, some (.int v4)], [.int (-1), .int (gI s 126 (ix v4)), .long v2], mT s)) rfl ?_
      refine w_ine K rfl (fun _ => ?_) (fun _ => ?_)
      · refine w_go K 6 (c' := (165, [some (.ref 116), (mm_cut o1 0), some (.long (v2 + 0)), none, some (.int (v4 + 1))], [], mT s)) rfl ?_
        exact fun a b => ih (v2 + 0) (v4 + 1) _ a b
      · refine w_go K 5 (c' := (165, [some (.ref 116), (mm_cut o1 0), some (.long (v2 + 1)), none, some (.int (v4 + 1))], [], mT s)) rfl ?_
        exact fun a b => ih (v2 + 1) (v4 + 1) _ a b
def f_M_look (a1 : Int32) (s : mS) : Int64 := (if a1 = 0 then (Int32.toInt64 (gI s 116 1)) else (if a1 = 1 then (Int32.toInt64 (gI s 116 6)) else (if a1 = 2 then (gL s 116 36) else (if a1 = 3 then (gL s 116 37) else (if a1 = 4 then (gL s 116 38) else (if a1 = 5 then (Int32.toInt64 (gI s 116 44)) else (if a1 = 6 then (Int32.toInt64 (gI s 116 45)) else (if a1 = 7 then (Int32.toInt64 (gI s 116 46)) else (if a1 = 8 then (gL s 116 42) else (if a1 = 9 then (gL s 116 43) else (if a1 = 10 then (gL s 116 39) else (if a1 = 11 then (gL s 116 40) else (if a1 = 12 then (gL s 116 41) else (if a1 = 13 then (Int32.toInt64 (gI s 116 8)) else (if a1 = 14 then (Int32.toInt64 (gI s 116 7)) else (if a1 = 15 then (mq_let (lp_M_look_165 s mm_N (0 : Int64) (0 : Int32)) (fun (x10 : Int64 × Int32) => x10.1)) else (-1)))))))))))))))))
def ok_M_look (a1 : Int32) (s : mS) : Prop := (if a1 = 0 then True else (if a1 = 1 then True else (if a1 = 2 then True else (if a1 = 3 then True else (if a1 = 4 then True else (if a1 = 5 then True else (if a1 = 6 then True else (if a1 = 7 then True else (if a1 = 8 then True else (if a1 = 9 then True else (if a1 = 10 then True else (if a1 = 11 then True else (if a1 = 12 then True else (if a1 = 13 then True else (if a1 = 14 then True else (if a1 = 15 then (okl_M_look_165 s mm_N (0 : Int64) (0 : Int32) ∧ mq_letP (lp_M_look_165 s mm_N (0 : Int64) (0 : Int32)) (fun (x10 : Int64 × Int32) => True)) else True))))))))))))))))
set_option maxRecDepth 4000 in
theorem t_M_look {len : Nat} {xs : Nat → Int32}  (d : Nat) (a1 : Int32) (s : mS) {T : Option mm_R} (K : Int64 → Prop) (hK : ∀ t, K t → some (some (.long t), mT s) = T) : ok_M_look a1 s → K (f_M_look a1 s) → mm_fix (mm_X len xs) mm_Y (mm_call (mm_X len xs) mm_Y (d + 0)) (mm_look mc_M_look) (0, [some (.ref 116), some (.int a1), none, none, none], [], mT s) = T := by
  unfold ok_M_look f_M_look
  refine w_go K 3 (c' := (3, [some (.ref 116), some (.int a1), some (.long 0), none, none], [.int a1], mT s)) rfl ?_
  refine w_go K 1 (c' := (mm_sw [(0, 80), (1, 86), (2, 92), (3, 97), (4, 102), (5, 107), (6, 113), (7, 119), (8, 125), (9, 130), (10, 135), (11, 140), (12, 145), (13, 150), (14, 156), (15, 162)] 201 a1, [some (.ref 116), some (.int a1), some (.long 0), none, none], [], mT s)) rfl ?_
  refine w_sw K (fun _ => ?_) (fun _ => ?_)
  · refine w_go K 3 (c' := (85, [some (.ref 116), some (.int a1), some (.long 0), none, none], [.long (Int32.toInt64 (gI s 116 1))], mT s)) rfl ?_
    exact w_ret K rfl (hK _)
  · refine w_sw K (fun _ => ?_) (fun _ => ?_)
    · refine w_go K 3 (c' := (91, [some (.ref 116), some (.int a1), some (.long 0), none, none], [.long (Int32.toInt64 (gI s 116 6))], mT s)) rfl ?_
      exact w_ret K rfl (hK _)
    · refine w_sw K (fun _ => ?_) (fun _ => ?_)
      · refine w_go K 2 (c' := (96, [some (.ref 116), some (.int a1), some (.long 0), none, none], [.long (gL s 116 36)], mT s)) rfl ?_
        exact w_ret K rfl (hK _)
      · refine w_sw K (fun _ => ?_) (fun _ => ?_)
        · refine w_go K 2 (c' := (101, [some (.ref 116), some (.int a1), some (.long 0), none, none], [.long (gL s 116 37)], mT s)) rfl ?_
          exact w_ret K rfl (hK _)
        · refine w_sw K (fun _ => ?_) (fun _ => ?_)
          · refine w_go K 2 (c' := (106, [some (.ref 116), some (.int a1), some (.long 0), none, none], [.long (gL s 116 38)], mT s)) rfl ?_
            exact w_ret K rfl (hK _)
          · refine w_sw K (fun _ => ?_) (fun _ => ?_)
            · refine w_go K 3 (c' := (112, [some (.ref 116), some (.int a1), some (.long 0), none, none], [.long (Int32.toInt64 (gI s 116 44))], mT s)) rfl ?_
              exact w_ret K rfl (hK _)
            · refine w_sw K (fun _ => ?_) (fun _ => ?_)
              · refine w_go K 3 (c' := (118, [some (.ref 116), some (.int a1), some (.long 0), none, none], [.long (Int32.toInt64 (gI s 116 45))], mT s)) rfl ?_
                exact w_ret K rfl (hK _)
              · refine w_sw K (fun _ => ?_) (fun _ => ?_)
                · refine w_go K 3 (c' := (124, [some (.ref 116), some (.int a1), some (.long 0), none, none], [.long (Int32.toInt64 (gI s 116 46))], mT s)) rfl ?_
                  exact w_ret K rfl (hK _)
                · refine w_sw K (fun _ => ?_) (fun _ => ?_)
                  · refine w_go K 2 (c' := (129, [some (.ref 116), some (.int a1), some (.long 0), none, none], [.long (gL s 116 42)], mT s)) rfl ?_
                    exact w_ret K rfl (hK _)
                  · refine w_sw K (fun _ => ?_) (fun _ => ?_)
                    · refine w_go K 2 (c' := (134, [some (.ref 116), some (.int a1), some (.long 0), none, none], [.long (gL s 116 43)], mT s)) rfl ?_
                      exact w_ret K rfl (hK _)
                    · refine w_sw K (fun _ => ?_) (fun _ => ?_)
                      · refine w_go K 2 (c' := (139, [some (.ref 116), some (.int a1), some (.long 0), none, none], [.long (gL s 116 39)], mT s)) rfl ?_
                        exact w_ret K rfl (hK _)
                      · refine w_sw K (fun _ => ?_) (fun _ => ?_)
                        · refine w_go K 2 (c' := (144, [some (.ref 116), some (.int a1), some (.long 0), none, none], [.long (gL s 116 40)], mT s)) rfl ?_
                          exact w_ret K rfl (hK _)
                        · refine w_sw K (fun _ => ?_) (fun _ => ?_)
                          · refine w_go K 2 (c' := (149, [some (.ref 116), some (.int a1), some (.long 0), none, none], [.long (gL s 116 41)], mT s)) rfl ?_
                            exact w_ret K rfl (hK _)
                          · refine w_sw K (fun _ => ?_) (fun _ => ?_)
                            · refine w_go K 3 (c' := (155, [some (.ref 116), some (.int a1), some (.long 0), none, none], [.long (Int32.toInt64 (gI s 116 8))], mT s)) rfl ?_
                              exact w_ret K rfl (hK _)
                            · refine w_sw K (fun _ => ?_) (fun _ => ?_)
                              · refine w_go K 3 (c' := (161, [some (.ref 116), some (.int a1), some (.long 0), none, none], [.long (Int32.toInt64 (gI s 116 7))], mT s)) rfl ?_
                                exact w_ret K rfl (hK _)
                              · refine w_sw K (fun _ => ?_) (fun _ => ?_)
                                · refine w_go K 2 (c' := (165, [some (.ref 116), some (.int a1), some (.long 0), none, some (.int 0)], [], mT s)) rfl ?_
                                  refine w_join K (fun (x10 : Int64 × Int32) => ∀ (q11 : Option Value), mm_fix (mm_X len xs) mm_Y (mm_call (mm_X len xs) mm_Y (d + 0)) (mm_look mc_M_look) (199, [some (.ref 116), q11, some (.long x10.1), none, some (.int x10.2)], [], mT s) = T) (fun K hJ => tl_M_look_165 (len := len) (xs := xs) d s (T := T) K hJ mm_N (0 : Int64) (0 : Int32) _) (fun x10 h1 h2 q11 => ?_)
                                  revert h1 h2
                                  refine w_go K 1 (c' := (200, [some (.ref 116), q11, some (.long x10.1), none, some (.int x10.2)], [.long x10.1], mT s)) rfl ?_
                                  exact w_ret K rfl (hK _)
                                · refine w_go K 0 (c' := (201, [some (.ref 116), some (.int a1), some (.long 0), none, none], [], mT s)) rfl ?_
                                  refine w_go K 1 (c' := (204, [some (.ref 116), some (.int a1), some (.long 0), none, none], [.long (-1)], mT s)) rfl ?_
                                  exact w_ret K rfl (hK _)
theorem m_M_look {len : Nat} {xs : Nat → Int32}  (d : Nat) (a1 : Int32) (s : mS) : ok_M_look a1 s → mm_call (mm_X len xs) mm_Y (d + 1) 250 [.ref 116, .int a1] (mT s) = some (some (.long (f_M_look a1 s)), mT s) := fun h => t_M_look (len := len) (xs := xs) d a1 s (fun t => (some (some (.long t), mT s) : Option mm_R) = some (some (.long (f_M_look a1 s)), mT s)) (fun _ h => h) h rfl
