/-! FUNCTIONS OF METHODS, by program: f_ what it does, ok_ that no row fails, m_ the small machine does so. -/
def lp_M_is_2000008_24 (s : mS) : Nat → Int32 → Int32 → Int32 × Int32
  | 0, v2, v3 => (v2, v3)
  | n + 1, v2, v3 => (if (5 : Int32) ≤ v3 then (v2, v3) else (if v2 = 0 then (v2, v3) else (if (gI s 167 (ix ((gI s 116 83) + v3))) = ((mm_Y 8).getD (ix v3) 0) then (lp_M_is_2000008_24 s n (1 : Int32) (v3 + 1)) else (lp_M_is_2000008_24 s n (0 : Int32) (v3 + 1)))))
def okl_M_is_2000008_24 (s : mS) : Nat → Int32 → Int32 → Prop
  | 0, v2, v3 => False
  | n + 1, v2, v3 => (if (5 : Int32) ≤ v3 then True else (if v2 = 0 then True else (mm_inb ((gI s 116 83) + v3) 600 = true ∧ (mm_inb v3 5 = true ∧ (if (gI s 167 (ix ((gI s 116 83) + v3))) = ((mm_Y 8).getD (ix v3) 0) then (okl_M_is_2000008_24 s n (1 : Int32) (v3 + 1)) else (okl_M_is_2000008_24 s n (0 : Int32) (v3 + 1)))))))
set_option maxRecDepth 4000 in
theorem tl_M_is_2000008_24 {len : Nat} {xs : Nat → Int32}  (d : Nat)  (s : mS) {T : Option mm_R} (K : Int32 × Int32 → Prop) (hX : ∀ r, K r → mm_fix (mm_X len xs) mm_Y (mm_call (mm_X len xs) mm_Y (d + 0)) (mm_look mc_M_is) (67, [some (.ref 116), some (.ref 2000008), some (.int r.1), some (.int r.2)], [], mT s) = T) : ∀ (n : Nat), ∀ (v2 : Int32) (v3 : Int32), okl_M_is_2000008_24 s n v2 v3 → K (lp_M_is_2000008_24 s n v2 v3) → mm_fix (mm_X len xs) mm_Y (mm_call (mm_X len xs) mm_Y (d + 0)) (mm_look mc_M_is) (24, [some (.ref 116), some (.ref 2000008), some (.int v2), some (.int v3)], [], mT s) = T := by
  intro n
  induction n with
  | zero => intro v2 v3; exact fun h => h.elim
  | succ n ih =>
    intro v2 v3
    rw [okl_M_is_2000008_24, lp_M_is_2000008_24]
    refine w_go K 3 (c' := (29, [some (.ref 116), some (.ref 2000008), some (.int v2), some (.int v3)], [.int 5, .int v3], mT s)) rfl ?_
    refine w_ige K rfl (fun _ => ?_) (fun _ => ?_)
    · refine w_go K 0 (c' := (67, [some (.ref 116), some (.ref 2000008), some (.int v2), some (.int v3)], [], mT s)) rfl ?_
      exact fun _ b => hX _ b
    · refine w_go K 1 (c' := (33, [some (.ref 116), some (.ref 2000008), some (.int v2), some (.int v3)], [.int v2], mT s)) rfl ?_
      refine w_zeq K rfl (fun _ => ?_) (fun _ => ?_)
      · refine w_go K 0 (c' := (67, [some (.ref 116), some (.ref 2000008), some (.int v2), some (.int v3)], [], mT s)) rfl ?_
        exact fun _ b => hX _ b
      · refine w_go K 6 (c' := (46, [some (.ref 116), some (.ref 2000008), some (.int v2), some (.int v3)], [.int ((gI s 116 83) + v3), .ref 167], mT s)) rfl ?_
        refine w_ck K (st_iL rfl rfl) ?_
        refine w_go K 2 (c' := (49, [some (.ref 116), some (.ref 2000008), some (.int v2), some (.int v3)], [.int v3, .ref 2000008, .int (gI s 167 (ix ((gI s 116 83) + v3)))], mT s)) rfl ?_
        refine w_ck K (mm_xc rfl rfl rfl rfl rfl rfl) ?_
        refine w_go K 0 (c' := (52, [some (.ref 116), some (.ref 2000008), some (.int v2), some (.int v3)], [.int ((mm_Y 8).getD (ix v3) 0), .int (gI s 167 (ix ((gI s 116 83) + v3)))], mT s)) rfl ?_
        refine w_ine K rfl (fun _ => ?_) (fun _ => ?_)
        · refine w_go K 5 (c' := (24, [some (.ref 116), some (.ref 2000008), some (.int 1), some (.int (v3 + 1))], [], mT s)) rfl ?_
          exact fun a b => ih (1 : Int32) (v3 + 1) a b
        · refine w_go K 4 (c' := (24, [some (.ref 116), some (.ref 2000008), some (.int 0), some (.int (v3 + 1))], [], mT s)) rfl ?_
          exact fun a b => ih (0 : Int32) (v3 + 1) a b
def f_M_is_2000008  (s : mS) : Int32 := (mq_let (if ((gI s 116 81) - (gI s 116 83)) = 5 then (1 : Int32) else (0 : Int32)) (fun (x10 : Int32) => (mq_let (lp_M_is_2000008_24 s mm_N x10 (0 : Int32)) (fun (x11 : Int32 × Int32) => x11.1))))
def ok_M_is_2000008  (s : mS) : Prop := (True ∧ mq_letP (if ((gI s 116 81) - (gI s 116 83)) = 5 then (1 : Int32) else (0 : Int32)) (fun (x10 : Int32) => (okl_M_is_2000008_24 s mm_N x10 (0 : Int32) ∧ mq_letP (lp_M_is_2000008_24 s mm_N x10 (0 : Int32)) (fun (x11 : Int32 × Int32) => mm_bit x11.1 = true))))
set_option maxRecDepth 4000 in
theorem t_M_is_2000008 {len : Nat} {xs : Nat → Int32}  (d : Nat)  (s : mS) {T : Option mm_R} (K : Int32 → Prop) (hK : ∀ t, K t → some (some (.int t), mT s) = T) : ok_M_is_2000008 s → K (f_M_is_2000008 s) → mm_fix (mm_X len xs) mm_Y (mm_call (mm_X len xs) mm_Y (d + 0)) (mm_look mc_M_is) (0, [some (.ref 116), some (.ref 2000008), none, none], [], mT s) = T := by
  unfold ok_M_is_2000008 f_M_is_2000008
  refine w_go K 7 (c' := (13, [some (.ref 116), some (.ref 2000008), none, none], [.int 5, .int ((gI s 116 81) - (gI s 116 83))], mT s)) rfl ?_
  refine w_join K (fun (x10 : Int32) => mm_fix (mm_X len xs) mm_Y (mm_call (mm_X len xs) mm_Y (d + 0)) (mm_look mc_M_is) (21, [some (.ref 116), some (.ref 2000008), none, none], [.int x10], mT s) = T) (fun K hJ => ?_) (fun x10 h1 h2 => ?_)
  · refine w_go K 0 (c' := (13, [some (.ref 116), some (.ref 2000008), none, none], [.int 5, .int ((gI s 116 81) - (gI s 116 83))], mT s)) rfl ?_
    refine w_ineT K rfl (fun _ => ?_) (fun _ => ?_)
    · refine w_go K 2 (c' := (21, [some (.ref 116), some (.ref 2000008), none, none], [.int 1], mT s)) rfl ?_
      exact fun _ h => hJ _ h
    · refine w_go K 1 (c' := (21, [some (.ref 116), some (.ref 2000008), none, none], [.int 0], mT s)) rfl ?_
      exact fun _ h => hJ _ h
  · revert h1 h2
    refine w_go K 3 (c' := (24, [some (.ref 116), some (.ref 2000008), some (.int x10), some (.int 0)], [], mT s)) rfl ?_
    refine w_join K (fun (x11 : Int32 × Int32) => mm_fix (mm_X len xs) mm_Y (mm_call (mm_X len xs) mm_Y (d + 0)) (mm_look mc_M_is) (67, [some (.ref 116), some (.ref 2000008), some (.int x11.1), some (.int x11.2)], [], mT s) = T) (fun K hJ => tl_M_is_2000008_24 (len := len) (xs := xs) d s (T := T) K hJ mm_N x10 (0 : Int32)) (fun x11 h1 h2 => ?_)
    revert h1 h2
    refine w_go K 1 (c' := (68, [some (.ref 116), some (.ref 2000008), some (.int x11.1), some (.int x11.2)], [.int x11.1], mT s)) rfl ?_
    exact w_retb K rfl (hK _)
theorem m_M_is_2000008 {len : Nat} {xs : Nat → Int32}  (d : Nat)  (s : mS) : ok_M_is_2000008 s → mm_call (mm_X len xs) mm_Y (d + 1) 211 [.ref 116, .ref 2000008] (mT s) = some (some (.int (f_M_is_2000008 s)), mT s) := fun h => t_M_is_2000008 (len := len) (xs := xs) d s (fun t => (some (some (.int t), mT s) : Option mm_R) = some (some (.int (f_M_is_2000008 s)), mT s)) (fun _ h => h) h rfl
def f_M_word  (s : mS) : Int32 := (mq_let (f_M_is_2000000 s) (fun (x10 : Int32) => (if x10 = 0 then (mq_let (f_M_is_2000001 s) (fun (x11 : Int32) => (if x11 = 0 then (mq_let (f_M_is_2000002 s) (fun (x12 : Int32) => (if x12 = 0 then (mq_let (f_M_is_2000003 s) (fun (x13 : Int32) => (if x13 = 0 then (mq_let (f_M_is_2000004 s) (fun (x14 : Int32) => (if x14 = 0 then (mq_let (f_M_is_2000009 s) (fun (x15 : Int32) => (if x15 = 0 then (mq_let (f_M_is_2000010 s) (fun (x16 : Int32) => (if x16 = 0 then (mq_let (f_M_is_2000011 s) (fun (x17 : Int32) => (if x17 = 0 then (mq_let (f_M_is_2000012 s) (fun (x18 : Int32) => (if x18 = 0 then (mq_let (f_M_is_2000005 s) (fun (x19 : Int32) => (if x19 = 0 then (mq_let (f_M_is_2000006 s) (fun (x20 : Int32) => (if x20 = 0 then (mq_let (f_M_is_2000007 s) (fun (x21 : Int32) => (if x21 = 0 then (mq_let (f_M_is_2000008 s) (fun (x22 : Int32) => (if x22 = 0 then 1 else 405))) else 403))) else 402))) else 401))) else 6))) else 5))) else 4))) else 3))) else 305))) else 304))) else 303))) else 302))) else 301)))
def ok_M_word  (s : mS) : Prop := (ok_M_is_2000000 s ∧ mq_letP (f_M_is_2000000 s) (fun (x10 : Int32) => (if x10 = 0 then (ok_M_is_2000001 s ∧ mq_letP (f_M_is_2000001 s) (fun (x11 : Int32) => (if x11 = 0 then (ok_M_is_2000002 s ∧ mq_letP (f_M_is_2000002 s) (fun (x12 : Int32) => (if x12 = 0 then (ok_M_is_2000003 s ∧ mq_letP (f_M_is_2000003 s) (fun (x13 : Int32) => (if x13 = 0 then (ok_M_is_2000004 s ∧ mq_letP (f_M_is_2000004 s) (fun (x14 : Int32) => (if x14 = 0 then (ok_M_is_2000009 s ∧ mq_letP (f_M_is_2000009 s) (fun (x15 : Int32) => (if x15 = 0 then (ok_M_is_2000010 s ∧ mq_letP (f_M_is_2000010 s) (fun (x16 : Int32) => (if x16 = 0 then (ok_M_is_2000011 s ∧ mq_letP (f_M_is_2000011 s) (fun (x17 : Int32) => (if x17 = 0 then (ok_M_is_2000012 s ∧ mq_letP (f_M_is_2000012 s) (fun (x18 : Int32) => (if x18 = 0 then (ok_M_is_2000005 s ∧ mq_letP (f_M_is_2000005 s) (fun (x19 : Int32) => (if x19 = 0 then (ok_M_is_2000006 s ∧ mq_letP (f_M_is_2000006 s) (fun (x20 : Int32) => (if x20 = 0 then (ok_M_is_2000007 s ∧ mq_letP (f_M_is_2000007 s) (fun (x21 : Int32) => (if x21 = 0 then (ok_M_is_2000008 s ∧ mq_letP (f_M_is_2000008 s) (fun (x22 : Int32) => True)) else True))) else True))) else True))) else True))) else True))) else True))) else True))) else True))) else True))) else True))) else True))) else True)))
set_option maxRecDepth 4000 in
theorem t_M_word {len : Nat} {xs : Nat → Int32}  (d : Nat)  (s : mS) {T : Option mm_R} (K : Int32 → Prop) (hK : ∀ t, K t → some (some (.int t), mT s) = T) : ok_M_word s → K (f_M_word s) → mm_fix (mm_X len xs) mm_Y (mm_call (mm_X len xs) mm_Y (d + 1)) (mm_look mc_M_word) (0, [some (.ref 116)], [], mT s) = T := by
  unfold ok_M_word f_M_word
  refine w_go K 2 (c' := (4, [some (.ref 116)], [.ref 2000000, .ref 116], mT s)) rfl ?_
  refine w_callL K (E := f_M_is_2000000 s) (g := fun (x10 : Int32) => (some (.int x10), mT s)) rfl (m_M_is_2000000 (len := len) (xs := xs) (d + 0) s) (fun x10 => ?_)
  refine w_go K 0 (c' := (7, [some (.ref 116)], [.int x10], mT s)) rfl ?_
  refine w_zeq K rfl (fun _ => ?_) (fun _ => ?_)
  · refine w_go K 2 (c' := (18, [some (.ref 116)], [.ref 2000001, .ref 116], mT s)) rfl ?_
    refine w_callL K (E := f_M_is_2000001 s) (g := fun (x11 : Int32) => (some (.int x11), mT s)) rfl (m_M_is_2000001 (len := len) (xs := xs) (d + 0) s) (fun x11 => ?_)
    refine w_go K 0 (c' := (21, [some (.ref 116)], [.int x11], mT s)) rfl ?_
    refine w_zeq K rfl (fun _ => ?_) (fun _ => ?_)
    · refine w_go K 2 (c' := (32, [some (.ref 116)], [.ref 2000002, .ref 116], mT s)) rfl ?_
      refine w_callL K (E := f_M_is_2000002 s) (g := fun (x12 : Int32) => (some (.int x12), mT s)) rfl (m_M_is_2000002 (len := len) (xs := xs) (d + 0) s) (fun x12 => ?_)
      refine w_go K 0 (c' := (35, [some (.ref 116)], [.int x12], mT s)) rfl ?_
      refine w_zeq K rfl (fun _ => ?_) (fun _ => ?_)
      · refine w_go K 2 (c' := (46, [some (.ref 116)], [.ref 2000003, .ref 116], mT s)) rfl ?_
        refine w_callL K (E := f_M_is_2000003 s) (g := fun (x13 : Int32) => (some (.int x13), mT s)) rfl (m_M_is_2000003 (len := len) (xs := xs) (d + 0) s) (fun x13 => ?_)
        refine w_go K 0 (c' := (49, [some (.ref 116)], [.int x13], mT s)) rfl ?_
        refine w_zeq K rfl (fun _ => ?_) (fun _ => ?_)
        · refine w_go K 2 (c' := (60, [some (.ref 116)], [.ref 2000004, .ref 116], mT s)) rfl ?_
          refine w_callL K (E := f_M_is_2000004 s) (g := fun (x14 : Int32) => (some (.int x14), mT s)) rfl (m_M_is_2000004 (len := len) (xs := xs) (d + 0) s) (fun x14 => ?_)
          refine w_go K 0 (c' := (63, [some (.ref 116)], [.int x14], mT s)) rfl ?_
          refine w_zeq K rfl (fun _ => ?_) (fun _ => ?_)
          · refine w_go K 2 (c' := (74, [some (.ref 116)], [.ref 2000009, .ref 116], mT s)) rfl ?_
            refine w_callL K (E := f_M_is_2000009 s) (g := fun (x15 : Int32) => (some (.int x15), mT s)) rfl (m_M_is_2000009 (len := len) (xs := xs) (d + 0) s) (fun x15 => ?_)
            refine w_go K 0 (c' := (77, [some (.ref 116)], [.int x15], mT s)) rfl ?_
            refine w_zeq K rfl (fun _ => ?_) (fun _ => ?_)
            · refine w_go K 2 (c' := (86, [some (.ref 116)], [.ref 2000010, .ref 116], mT s)) rfl ?_
              refine w_callL K (E := f_M_is_2000010 s) (g := fun (x16 : Int32) => (some (.int x16), mT s)) rfl (m_M_is_2000010 (len := len) (xs := xs) (d + 0) s) (fun x16 => ?_)
              refine w_go K 0 (c' := (89, [some (.ref 116)], [.int x16], mT s)) rfl ?_
              refine w_zeq K rfl (fun _ => ?_) (fun _ => ?_)
              · refine w_go K 2 (c' := (98, [some (.ref 116)], [.ref 2000011, .ref 116], mT s)) rfl ?_
                refine w_callL K (E := f_M_is_2000011 s) (g := fun (x17 : Int32) => (some (.int x17), mT s)) rfl (m_M_is_2000011 (len := len) (xs := xs) (d + 0) s) (fun x17 => ?_)
                refine w_go K 0 (c' := (101, [some (.ref 116)], [.int x17], mT s)) rfl ?_
                refine w_zeq K rfl (fun _ => ?_) (fun _ => ?_)
                · refine w_go K 2 (c' := (110, [some (.ref 116)], [.ref 2000012, .ref 116], mT s)) rfl ?_
                  refine w_callL K (E := f_M_is_2000012 s) (g := fun (x18 : Int32) => (some (.int x18), mT s)) rfl (m_M_is_2000012 (len := len) (xs := xs) (d + 0) s) (fun x18 => ?_)
                  refine w_go K 0 (c' := (113, [some (.ref 116)], [.int x18], mT s)) rfl ?_
                  refine w_zeq K rfl (fun _ => ?_) (fun _ => ?_)
                  · refine w_go K 2 (c' := (123, [some (.ref 116)], [.ref 2000005, .ref 116], mT s)) rfl ?_
                    refine w_callL K (E := f_M_is_2000005 s) (g := fun (x19 : Int32) => (some (.int x19), mT s)) rfl (m_M_is_2000005 (len := len) (xs := xs) (d + 0) s) (fun x19 => ?_)
                    refine w_go K 0 (c' := (126, [some (.ref 116)], [.int x19], mT s)) rfl ?_
                    refine w_zeq K rfl (fun _ => ?_) (fun _ => ?_)
                    · refine w_go K 2 (c' := (137, [some (.ref 116)], [.ref 2000006, .ref 116], mT s)) rfl ?_
                      refine w_callL K (E := f_M_is_2000006 s) (g := fun (x20 : Int32) => (some (.int x20), mT s)) rfl (m_M_is_2000006 (len := len) (xs := xs) (d + 0) s) (fun x20 => ?_)
                      refine w_go K 0 (c' := (140, [some (.ref 116)], [.int x20], mT s)) rfl ?_
                      refine w_zeq K rfl (fun _ => ?_) (fun _ => ?_)
                      · refine w_go K 2 (c' := (151, [some (.ref 116)], [.ref 2000007, .ref 116], mT s)) rfl ?_
                        refine w_callL K (E := f_M_is_2000007 s) (g := fun (x21 : Int32) => (some (.int x21), mT s)) rfl (m_M_is_2000007 (len := len) (xs := xs) (d + 0) s) (fun x21 => ?_)
                        refine w_go K 0 (c' := (154, [some (.ref 116)], [.int x21], mT s)) rfl ?_
                        refine w_zeq K rfl (fun _ => ?_) (fun _ => ?_)
                        · refine w_go K 2 (c' := (165, [some (.ref 116)], [.ref 2000008, .ref 116], mT s)) rfl ?_
                          refine w_callL K (E := f_M_is_2000008 s) (g := fun (x22 : Int32) => (some (.int x22), mT s)) rfl (m_M_is_2000008 (len := len) (xs := xs) (d + 0) s) (fun x22 => ?_)
                          refine w_go K 0 (c' := (168, [some (.ref 116)], [.int x22], mT s)) rfl ?_
                          refine w_zeqT K rfl (fun _ => ?_) (fun _ => ?_)
                          · refine w_go K 1 (c' := (178, [some (.ref 116)], [.int 1], mT s)) rfl ?_
                            exact w_ret K rfl (hK _)
                          · refine w_go K 2 (c' := (178, [some (.ref 116)], [.int 405], mT s)) rfl ?_
                            exact w_ret K rfl (hK _)
                        · refine w_go K 1 (c' := (160, [some (.ref 116)], [.int 403], mT s)) rfl ?_
                          exact w_ret K rfl (hK _)
                      · refine w_go K 1 (c' := (146, [some (.ref 116)], [.int 402], mT s)) rfl ?_
                        exact w_ret K rfl (hK _)
                    · refine w_go K 1 (c' := (132, [some (.ref 116)], [.int 401], mT s)) rfl ?_
                      exact w_ret K rfl (hK _)
                  · refine w_go K 1 (c' := (118, [some (.ref 116)], [.int 6], mT s)) rfl ?_
                    exact w_ret K rfl (hK _)
                · refine w_go K 1 (c' := (105, [some (.ref 116)], [.int 5], mT s)) rfl ?_
                  exact w_ret K rfl (hK _)
              · refine w_go K 1 (c' := (93, [some (.ref 116)], [.int 4], mT s)) rfl ?_
                exact w_ret K rfl (hK _)
            · refine w_go K 1 (c' := (81, [some (.ref 116)], [.int 3], mT s)) rfl ?_
              exact w_ret K rfl (hK _)
          · refine w_go K 1 (c' := (69, [some (.ref 116)], [.int 305], mT s)) rfl ?_
            exact w_ret K rfl (hK _)
        · refine w_go K 1 (c' := (55, [some (.ref 116)], [.int 304], mT s)) rfl ?_
          exact w_ret K rfl (hK _)
      · refine w_go K 1 (c' := (41, [some (.ref 116)], [.int 303], mT s)) rfl ?_
        exact w_ret K rfl (hK _)
    · refine w_go K 1 (c' := (27, [some (.ref 116)], [.int 302], mT s)) rfl ?_
      exact w_ret K rfl (hK _)
  · refine w_go K 1 (c' := (13, [some (.ref 116)], [.int 301], mT s)) rfl ?_
    exact w_ret K rfl (hK _)
theorem m_M_word {len : Nat} {xs : Nat → Int32}  (d : Nat)  (s : mS) : ok_M_word s → mm_call (mm_X len xs) mm_Y (d + 2) 210 [.ref 116] (mT s) = some (some (.int (f_M_word s)), mT s) := fun h => t_M_word (len := len) (xs := xs) d s (fun t => (some (some (.int t), mT s) : Option mm_R) = some (some (.int (f_M_word s)), mT s)) (fun _ h => h) h rfl
def lp_M_next0_0  : Nat → mS → mS
  | 0, s => s
  | n + 1, s => (mq_let (f_M_see (gI s 116 81) s) (fun (x10 : Int32) => (if x10 = 32 then (lp_M_next0_0 n (sI s 116 81 ((gI s 116 81) + 1))) else (mq_let (f_M_see (gI s 116 81) s) (fun (x11 : Int32) => (if x11 = 10 then (lp_M_next0_0 n (sI s 116 81 ((gI s 116 81) + 1))) else s))))))
def okl_M_next0_0  : Nat → mS → Prop
  | 0, s => False
  | n + 1, s => (ok_M_see (gI s 116 81) s ∧ mq_letP (f_M_see (gI s 116 81) s) (fun (x10 : Int32) => (if x10 = 32 then (okl_M_next0_0 n (sI s 116 81 ((gI s 116 81) + 1))) else (ok_M_see (gI s 116 81) s ∧ mq_letP (f_M_see (gI s 116 81) s) (fun (x11 : Int32) => (if x11 = 10 then (okl_M_next0_0 n (sI s 116 81 ((gI s 116 81) + 1))) else True))))))
set_option maxRecDepth 4000 in
theorem tl_M_next0_0 {len : Nat} {xs : Nat → Int32}  (d : Nat)   {T : Option mm_R} (K : mS → Prop) (hX : ∀ r, K r → ∀ (o1 : Option Value) (o2 : Option Value), mm_fix (mm_X len xs) mm_Y (mm_call (mm_X len xs) mm_Y (d + 2)) (mm_look mc_M_next0) (39, [some (.ref 116), o1, o2], [], mT r) = T) : ∀ (n : Nat), ∀ (o1 : Option Value) (o2 : Option Value) (s : mS), okl_M_next0_0 n s → K (lp_M_next0_0 n s) → mm_fix (mm_X len xs) mm_Y (mm_call (mm_X len xs) mm_Y (d + 2)) (mm_look mc_M_next0) (0, [some (.ref 116), o1, o2], [], mT s) = T := by
  intro n
  induction n with
  | zero => intro o1 o2 s; exact fun h => h.elim
  | succ n ih =>
    intro o1 o2 s
    rw [okl_M_next0_0, lp_M_next0_0]
    refine w_go K 3 (c' := (5, [some (.ref 116), o1, o2], [.int (gI s 116 81), .ref 116], mT s)) rfl ?_
    refine w_callL K (E := f_M_see (gI s 116 81) s) (g := fun (x10 : Int32) => (some (.int x10), mT s)) rfl (m_M_see (len := len) (xs := xs) (d + 1) (gI s 116 81) s) (fun x10 => ?_)
    refine w_go K 1 (c' := (10, [some (.ref 116), o1, o2], [.int 32, .int x10], mT s)) rfl ?_
    refine w_ieq K rfl (fun _ => ?_) (fun _ => ?_)
    · refine w_go K 7 (c' := (0, [some (.ref 116), o1, o2], [], mT (sI s 116 81 ((gI s 116 81) + 1)))) rfl ?_
      exact fun a b => ih _ _ (sI s 116 81 ((gI s 116 81) + 1)) a b
    · refine w_go K 3 (c' := (18, [some (.ref 116), o1, o2], [.int (gI s 116 81), .ref 116], mT s)) rfl ?_
      refine w_callL K (E := f_M_see (gI s 116 81) s) (g := fun (x11 : Int32) => (some (.int x11), mT s)) rfl (m_M_see (len := len) (xs := xs) (d + 1) (gI s 116 81) s) (fun x11 => ?_)
      refine w_go K 1 (c' := (23, [some (.ref 116), o1, o2], [.int 10, .int x11], mT s)) rfl ?_
      refine w_ine K rfl (fun _ => ?_) (fun _ => ?_)
      · refine w_go K 7 (c' := (0, [some (.ref 116), o1, o2], [], mT (sI s 116 81 ((gI s 116 81) + 1)))) rfl ?_
        exact fun a b => ih _ _ (sI s 116 81 ((gI s 116 81) + 1)) a b
      · refine w_go K 0 (c' := (39, [some (.ref 116), o1, o2], [], mT s)) rfl ?_
        exact fun _ b => hX _ b _ _
def lp_M_next0_126  : Nat → mS → mS
  | 0, s => s
  | n + 1, s => (mq_let (f_M_see (gI s 116 81) s) (fun (x20 : Int32) => (mq_let (f_M_isDigit x20 s) (fun (x21 : Int32) => (if x21 = 0 then s else (mq_let (if ((gI s 116 83) + 5) ≤ (gI s 116 81) then s else (mq_let (f_M_see (gI s 116 81) s) (fun (x24 : Int32) => sI s 116 84 (((10 * (gI s 116 84)) + x24) - 48)))) (fun (x23 : mS) => (lp_M_next0_126 n (sI x23 116 81 ((gI x23 116 81) + 1))))))))))
def okl_M_next0_126  : Nat → mS → Prop
  | 0, s => False
  | n + 1, s => (ok_M_see (gI s 116 81) s ∧ mq_letP (f_M_see (gI s 116 81) s) (fun (x20 : Int32) => (ok_M_isDigit x20 s ∧ mq_letP (f_M_isDigit x20 s) (fun (x21 : Int32) => (if x21 = 0 then True else ((if ((gI s 116 83) + 5) ≤ (gI s 116 81) then True else (ok_M_see (gI s 116 81) s ∧ mq_letP (f_M_see (gI s 116 81) s) (fun (x24 : Int32) => True))) ∧ mq_letP (if ((gI s 116 83) + 5) ≤ (gI s 116 81) then s else (mq_let (f_M_see (gI s 116 81) s) (fun (x24 : Int32) => sI s 116 84 (((10 * (gI s 116 84)) + x24) - 48)))) (fun (x23 : mS) => (okl_M_next0_126 n (sI x23 116 81 ((gI x23 116 81) + 1))))))))))
set_option maxRecDepth 4000 in
theorem tl_M_next0_126 {len : Nat} {xs : Nat → Int32}  (d : Nat)   {T : Option mm_R} (K : mS → Prop) (hX : ∀ r, K r → ∀ (o1 : Option Value) (o2 : Option Value), mm_fix (mm_X len xs) mm_Y (mm_call (mm_X len xs) mm_Y (d + 2)) (mm_look mc_M_next0) (189, [some (.ref 116), o1, o2], [], mT r) = T) : ∀ (n : Nat), ∀ (o1 : Option Value) (o2 : Option Value) (s : mS), okl_M_next0_126 n s → K (lp_M_next0_126 n s) → mm_fix (mm_X len xs) mm_Y (mm_call (mm_X len xs) mm_Y (d + 2)) (mm_look mc_M_next0) (126, [some (.ref 116), o1, o2], [], mT s) = T := by
  intro n
  induction n with
  | zero => intro o1 o2 s; exact fun h => h.elim
  | succ n ih =>
    intro o1 o2 s
    rw [okl_M_next0_126, lp_M_next0_126]
    refine w_go K 3 (c' := (131, [some (.ref 116), o1, o2], [.int (gI s 116 81), .ref 116], mT s)) rfl ?_
    refine w_callL K (E := f_M_see (gI s 116 81) s) (g := fun (x20 : Int32) => (some (.int x20), mT s)) rfl (m_M_see (len := len) (xs := xs) (d + 1) (gI s 116 81) s) (fun x20 => ?_)
    refine w_go K 0 (c' := (134, [some (.ref 116), o1, o2], [.int x20], mT s)) rfl ?_
    refine w_callL K (E := f_M_isDigit x20 s) (g := fun (x21 : Int32) => (some (.int x21), mT s)) rfl (m_M_isDigit (len := len) (xs := xs) (d + 0) x20 s) (fun x21 => ?_)
    refine w_go K 0 (c' := (137, [some (.ref 116), o1, o2], [.int x21], mT s)) rfl ?_
    refine w_zeq K rfl (fun _ => ?_) (fun _ => ?_)
    · refine w_go K 0 (c' := (189, [some (.ref 116), o1, o2], [], mT s)) rfl ?_
      exact fun _ b => hX _ b _ _
    · refine w_go K 6 (c' := (150, [some (.ref 116), o1, o2], [.int ((gI s 116 83) + 5), .int (gI s 116 81)], mT s)) rfl ?_
      refine w_join K (fun (x23 : mS) => mm_fix (mm_X len xs) mm_Y (mm_call (mm_X len xs) mm_Y (d + 2)) (mm_look mc_M_next0) (176, [some (.ref 116), o1, o2], [], mT x23) = T) (fun K hJ => ?_) (fun x23 h1 h2 => ?_)
      · refine w_go K 0 (c' := (150, [some (.ref 116), o1, o2], [.int ((gI s 116 83) + 5), .int (gI s 116 81)], mT s)) rfl ?_
        refine w_ige K rfl (fun _ => ?_) (fun _ => ?_)
        · refine w_go K 0 (c' := (176, [some (.ref 116), o1, o2], [], mT s)) rfl ?_
          exact fun _ h => hJ _ h
        · refine w_go K 8 (c' := (166, [some (.ref 116), o1, o2], [.int (gI s 116 81), .ref 116, .int (10 * (gI s 116 84)), .ref 116], mT s)) rfl ?_
          refine w_callL K (E := f_M_see (gI s 116 81) s) (g := fun (x24 : Int32) => (some (.int x24), mT s)) rfl (m_M_see (len := len) (xs := xs) (d + 1) (gI s 116 81) s) (fun x24 => ?_)
          refine w_go K 4 (c' := (176, [some (.ref 116), o1, o2], [], mT (sI s 116 84 (((10 * (gI s 116 84)) + x24) - 48)))) rfl ?_
          exact fun _ h => hJ _ h
      · revert h1 h2
        refine w_go K 7 (c' := (126, [some (.ref 116), o1, o2], [], mT (sI x23 116 81 ((gI x23 116 81) + 1)))) rfl ?_
        exact fun a b => ih _ _ (sI x23 116 81 ((gI x23 116 81) + 1)) a b
def lp_M_next0_76  : Nat → mS → mS
  | 0, s => s
  | n + 1, s => (mq_let (f_M_see (gI s 116 81) s) (fun (x29 : Int32) => (mq_let (f_M_isLetter x29 s) (fun (x30 : Int32) => (if x30 = 0 then s else (lp_M_next0_76 n (sI s 116 81 ((gI s 116 81) + 1))))))))
def okl_M_next0_76  : Nat → mS → Prop
  | 0, s => False
  | n + 1, s => (ok_M_see (gI s 116 81) s ∧ mq_letP (f_M_see (gI s 116 81) s) (fun (x29 : Int32) => (True ∧ mq_letP (f_M_isLetter x29 s) (fun (x30 : Int32) => (if x30 = 0 then True else (okl_M_next0_76 n (sI s 116 81 ((gI s 116 81) + 1))))))))
set_option maxRecDepth 4000 in
theorem tl_M_next0_76 {len : Nat} {xs : Nat → Int32}  (d : Nat)   {T : Option mm_R} (K : mS → Prop) (hX : ∀ r, K r → ∀ (o1 : Option Value) (o2 : Option Value), mm_fix (mm_X len xs) mm_Y (mm_call (mm_X len xs) mm_Y (d + 2)) (mm_look mc_M_next0) (103, [some (.ref 116), o1, o2], [], mT r) = T) : ∀ (n : Nat), ∀ (o1 : Option Value) (o2 : Option Value) (s : mS), okl_M_next0_76 n s → K (lp_M_next0_76 n s) → mm_fix (mm_X len xs) mm_Y (mm_call (mm_X len xs) mm_Y (d + 2)) (mm_look mc_M_next0) (76, [some (.ref 116), o1, o2], [], mT s) = T := by
  intro n
  induction n with
  | zero => intro o1 o2 s; exact fun h => h.elim
  | succ n ih =>
    intro o1 o2 s
    rw [okl_M_next0_76, lp_M_next0_76]
    refine w_go K 3 (c' := (81, [some (.ref 116), o1, o2], [.int (gI s 116 81), .ref 116], mT s)) rfl ?_
    refine w_callL K (E := f_M_see (gI s 116 81) s) (g := fun (x29 : Int32) => (some (.int x29), mT s)) rfl (m_M_see (len := len) (xs := xs) (d + 1) (gI s 116 81) s) (fun x29 => ?_)
    refine w_go K 0 (c' := (84, [some (.ref 116), o1, o2], [.int x29], mT s)) rfl ?_
    refine w_callL K (E := f_M_isLetter x29 s) (g := fun (x30 : Int32) => (some (.int x30), mT s)) rfl (m_M_isLetter (len := len) (xs := xs) (d + 0) x29 s) (fun x30 => ?_)
    refine w_go K 0 (c' := (87, [some (.ref 116), o1, o2], [.int x30], mT s)) rfl ?_
    refine w_zeq K rfl (fun _ => ?_) (fun _ => ?_)
    · refine w_go K 0 (c' := (103, [some (.ref 116), o1, o2], [], mT s)) rfl ?_
      exact fun _ b => hX _ b _ _
    · refine w_go K 7 (c' := (76, [some (.ref 116), o1, o2], [], mT (sI s 116 81 ((gI s 116 81) + 1)))) rfl ?_
      exact fun a b => ih _ _ (sI s 116 81 ((gI s 116 81) + 1)) a b
def f_M_next0  (s : mS) : mS := (mq_let (lp_M_next0_0 mm_N s) (fun (x12 : mS) => (mq_let (f_M_see (gI x12 116 81) (sI x12 116 83 (gI x12 116 81))) (fun (x15 : Int32) => (if x15 = (-1) then sI (sI x12 116 83 (gI x12 116 81)) 116 82 0 else (mq_let (f_M_isLetter x15 (sI x12 116 83 (gI x12 116 81))) (fun (x16 : Int32) => (if x16 = 0 then (mq_let (f_M_isDigit x15 (sI x12 116 83 (gI x12 116 81))) (fun (x17 : Int32) => (if x17 = 0 then (mq_let (if x15 = 59 then (1 : Int32) else (if x15 = 43 then (1 : Int32) else (if x15 = 45 then (1 : Int32) else (if x15 = 42 then (1 : Int32) else (if x15 = 47 then (1 : Int32) else (if x15 = 40 then (1 : Int32) else (if x15 = 41 then (1 : Int32) else (if x15 = 60 then (1 : Int32) else (if x15 = 61 then (1 : Int32) else (if x15 = 62 then (1 : Int32) else (0 : Int32))))))))))) (fun (x18 : Int32) => (mq_let (if x18 = 0 then (1 : Int32) else x15) (fun (x19 : Int32) => sI (sI (sI x12 116 83 (gI x12 116 81)) 116 81 ((gI x12 116 81) + 1)) 116 82 x19)))) else (mq_let (lp_M_next0_126 mm_N (sI (sI x12 116 83 (gI x12 116 81)) 116 84 0)) (fun (x25 : mS) => (mq_let (if (6 : Int32) ≤ ((gI x25 116 81) - (gI x25 116 83)) then (1 : Int32) else (2 : Int32)) (fun (x28 : Int32) => sI x25 116 82 x28))))))) else (mq_let (lp_M_next0_76 mm_N (sI x12 116 83 (gI x12 116 81))) (fun (x31 : mS) => (mq_let (f_M_word x31) (fun (x34 : Int32) => sI x31 116 82 x34))))))))))))
def ok_M_next0  (s : mS) : Prop := (okl_M_next0_0 mm_N s ∧ mq_letP (lp_M_next0_0 mm_N s) (fun (x12 : mS) => (ok_M_see (gI x12 116 81) (sI x12 116 83 (gI x12 116 81)) ∧ mq_letP (f_M_see (gI x12 116 81) (sI x12 116 83 (gI x12 116 81))) (fun (x15 : Int32) => (if x15 = (-1) then True else (True ∧ mq_letP (f_M_isLetter x15 (sI x12 116 83 (gI x12 116 81))) (fun (x16 : Int32) => (if x16 = 0 then (ok_M_isDigit x15 (sI x12 116 83 (gI x12 116 81)) ∧ mq_letP (f_M_isDigit x15 (sI x12 116 83 (gI x12 116 81))) (fun (x17 : Int32) => (if x17 = 0 then True else (okl_M_next0_126 mm_N (sI (sI x12 116 83 (gI x12 116 81)) 116 84 0) ∧ mq_letP (lp_M_next0_126 mm_N (sI (sI x12 116 83 (gI x12 116 81)) 116 84 0)) (fun (x25 : mS) => True))))) else (okl_M_next0_76 mm_N (sI x12 116 83 (gI x12 116 81)) ∧ mq_letP (lp_M_next0_76 mm_N (sI x12 116 83 (gI x12 116 81))) (fun (x31 : mS) => (ok_M_word x31 ∧ mq_letP (f_M_word x31) (fun (x34 : Int32) => True))))))))))))
set_option maxRecDepth 4000 in
theorem t_M_next0 {len : Nat} {xs : Nat → Int32}  (d : Nat)  (s : mS) {T : Option mm_R} (K : mS → Prop) (hK : ∀ t, K t → some (none, mT t) = T) : ok_M_next0 s → K (f_M_next0 s) → mm_fix (mm_X len xs) mm_Y (mm_call (mm_X len xs) mm_Y (d + 2)) (mm_look mc_M_next0) (0, [some (.ref 116), none, none], [], mT s) = T := by
  unfold ok_M_next0 f_M_next0
  refine w_go K 0 (c' := (0, [some (.ref 116), none, none], [], mT s)) rfl ?_
  refine w_join K (fun (x12 : mS) => ∀ (q13 : Option Value) (q14 : Option Value), mm_fix (mm_X len xs) mm_Y (mm_call (mm_X len xs) mm_Y (d + 2)) (mm_look mc_M_next0) (39, [some (.ref 116), q13, q14], [], mT x12) = T) (fun K hJ => tl_M_next0_0 (len := len) (xs := xs) d (T := T) K hJ mm_N _ _ s) (fun x12 h1 h2 q13 q14 => ?_)
  revert h1 h2
  refine w_go K 7 (c' := (52, [some (.ref 116), q13, q14], [.int (gI x12 116 81), .ref 116], mT (sI x12 116 83 (gI x12 116 81)))) rfl ?_
  refine w_callL K (E := f_M_see (gI x12 116 81) (sI x12 116 83 (gI x12 116 81))) (g := fun (x15 : Int32) => (some (.int x15), mT (sI x12 116 83 (gI x12 116 81)))) rfl (m_M_see (len := len) (xs := xs) (d + 1) (gI x12 116 81) (sI x12 116 83 (gI x12 116 81))) (fun x15 => ?_)
  refine w_go K 3 (c' := (58, [some (.ref 116), some (.int x15), q14], [.int (-1), .int x15], mT (sI x12 116 83 (gI x12 116 81)))) rfl ?_
  refine w_ine K rfl (fun _ => ?_) (fun _ => ?_)
  · refine w_go K 4 (c' := (304, [some (.ref 116), some (.int x15), q14], [], mT (sI (sI x12 116 83 (gI x12 116 81)) 116 82 0))) rfl ?_
    exact w_ret K rfl (hK _)
  · refine w_go K 1 (c' := (70, [some (.ref 116), some (.int x15), q14], [.int x15], mT (sI x12 116 83 (gI x12 116 81)))) rfl ?_
    refine w_callL K (E := f_M_isLetter x15 (sI x12 116 83 (gI x12 116 81))) (g := fun (x16 : Int32) => (some (.int x16), mT (sI x12 116 83 (gI x12 116 81)))) rfl (m_M_isLetter (len := len) (xs := xs) (d + 0) x15 (sI x12 116 83 (gI x12 116 81))) (fun x16 => ?_)
    refine w_go K 0 (c' := (73, [some (.ref 116), some (.int x15), q14], [.int x16], mT (sI x12 116 83 (gI x12 116 81)))) rfl ?_
    refine w_zeq K rfl (fun _ => ?_) (fun _ => ?_)
    · refine w_go K 1 (c' := (115, [some (.ref 116), some (.int x15), q14], [.int x15], mT (sI x12 116 83 (gI x12 116 81)))) rfl ?_
      refine w_callL K (E := f_M_isDigit x15 (sI x12 116 83 (gI x12 116 81))) (g := fun (x17 : Int32) => (some (.int x17), mT (sI x12 116 83 (gI x12 116 81)))) rfl (m_M_isDigit (len := len) (xs := xs) (d + 0) x15 (sI x12 116 83 (gI x12 116 81))) (fun x17 => ?_)
      refine w_go K 0 (c' := (118, [some (.ref 116), some (.int x15), q14], [.int x17], mT (sI x12 116 83 (gI x12 116 81)))) rfl ?_
      refine w_zeq K rfl (fun _ => ?_) (fun _ => ?_)
      · refine w_go K 8 (c' := (228, [some (.ref 116), some (.int x15), q14], [.int 59, .int x15], mT (sI (sI x12 116 83 (gI x12 116 81)) 116 81 ((gI x12 116 81) + 1)))) rfl ?_
        refine w_joinT K (fun (x18 : Int32) => mm_fix (mm_X len xs) mm_Y (mm_call (mm_X len xs) mm_Y (d + 2)) (mm_look mc_M_next0) (290, [some (.ref 116), some (.int x15), q14], [.int x18], mT (sI (sI x12 116 83 (gI x12 116 81)) 116 81 ((gI x12 116 81) + 1))) = T) (fun K hJ => ?_) (fun x18 h1 h2 => ?_)
        · refine w_go K 0 (c' := (228, [some (.ref 116), some (.int x15), q14], [.int 59, .int x15], mT (sI (sI x12 116 83 (gI x12 116 81)) 116 81 ((gI x12 116 81) + 1)))) rfl ?_
          refine w_ieqT K rfl (fun _ => ?_) (fun _ => ?_)
          · refine w_go K 2 (c' := (290, [some (.ref 116), some (.int x15), q14], [.int 1], mT (sI (sI x12 116 83 (gI x12 116 81)) 116 81 ((gI x12 116 81) + 1)))) rfl ?_
            exact fun _ h => hJ _ h
          · refine w_go K 2 (c' := (234, [some (.ref 116), some (.int x15), q14], [.int 43, .int x15], mT (sI (sI x12 116 83 (gI x12 116 81)) 116 81 ((gI x12 116 81) + 1)))) rfl ?_
            refine w_ieqT K rfl (fun _ => ?_) (fun _ => ?_)
            · refine w_go K 2 (c' := (290, [some (.ref 116), some (.int x15), q14], [.int 1], mT (sI (sI x12 116 83 (gI x12 116 81)) 116 81 ((gI x12 116 81) + 1)))) rfl ?_
              exact fun _ h => hJ _ h
            · refine w_go K 2 (c' := (240, [some (.ref 116), some (.int x15), q14], [.int 45, .int x15], mT (sI (sI x12 116 83 (gI x12 116 81)) 116 81 ((gI x12 116 81) + 1)))) rfl ?_
              refine w_ieqT K rfl (fun _ => ?_) (fun _ => ?_)
              · refine w_go K 2 (c' := (290, [some (.ref 116), some (.int x15), q14], [.int 1], mT (sI (sI x12 116 83 (gI x12 116 81)) 116 81 ((gI x12 116 81) + 1)))) rfl ?_
                exact fun _ h => hJ _ h
              · refine w_go K 2 (c' := (246, [some (.ref 116), some (.int x15), q14], [.int 42, .int x15], mT (sI (sI x12 116 83 (gI x12 116 81)) 116 81 ((gI x12 116 81) + 1)))) rfl ?_
                refine w_ieqT K rfl (fun _ => ?_) (fun _ => ?_)
                · refine w_go K 2 (c' := (290, [some (.ref 116), some (.int x15), q14], [.int 1], mT (sI (sI x12 116 83 (gI x12 116 81)) 116 81 ((gI x12 116 81) + 1)))) rfl ?_
                  exact fun _ h => hJ _ h
                · refine w_go K 2 (c' := (252, [some (.ref 116), some (.int x15), q14], [.int 47, .int x15], mT (sI (sI x12 116 83 (gI x12 116 81)) 116 81 ((gI x12 116 81) + 1)))) rfl ?_
                  refine w_ieqT K rfl (fun _ => ?_) (fun _ => ?_)
                  · refine w_go K 2 (c' := (290, [some (.ref 116), some (.int x15), q14], [.int 1], mT (sI (sI x12 116 83 (gI x12 116 81)) 116 81 ((gI x12 116 81) + 1)))) rfl ?_
                    exact fun _ h => hJ _ h
                  · refine w_go K 2 (c' := (258, [some (.ref 116), some (.int x15), q14], [.int 40, .int x15], mT (sI (sI x12 116 83 (gI x12 116 81)) 116 81 ((gI x12 116 81) + 1)))) rfl ?_
                    refine w_ieqT K rfl (fun _ => ?_) (fun _ => ?_)
                    · refine w_go K 2 (c' := (290, [some (.ref 116), some (.int x15), q14], [.int 1], mT (sI (sI x12 116 83 (gI x12 116 81)) 116 81 ((gI x12 116 81) + 1)))) rfl ?_
                      exact fun _ h => hJ _ h
                    · refine w_go K 2 (c' := (264, [some (.ref 116), some (.int x15), q14], [.int 41, .int x15], mT (sI (sI x12 116 83 (gI x12 116 81)) 116 81 ((gI x12 116 81) + 1)))) rfl ?_
                      refine w_ieqT K rfl (fun _ => ?_) (fun _ => ?_)
                      · refine w_go K 2 (c' := (290, [some (.ref 116), some (.int x15), q14], [.int 1], mT (sI (sI x12 116 83 (gI x12 116 81)) 116 81 ((gI x12 116 81) + 1)))) rfl ?_
                        exact fun _ h => hJ _ h
                      · refine w_go K 2 (c' := (270, [some (.ref 116), some (.int x15), q14], [.int 60, .int x15], mT (sI (sI x12 116 83 (gI x12 116 81)) 116 81 ((gI x12 116 81) + 1)))) rfl ?_
                        refine w_ieqT K rfl (fun _ => ?_) (fun _ => ?_)
                        · refine w_go K 2 (c' := (290, [some (.ref 116), some (.int x15), q14], [.int 1], mT (sI (sI x12 116 83 (gI x12 116 81)) 116 81 ((gI x12 116 81) + 1)))) rfl ?_
                          exact fun _ h => hJ _ h
                        · refine w_go K 2 (c' := (276, [some (.ref 116), some (.int x15), q14], [.int 61, .int x15], mT (sI (sI x12 116 83 (gI x12 116 81)) 116 81 ((gI x12 116 81) + 1)))) rfl ?_
                          refine w_ieqT K rfl (fun _ => ?_) (fun _ => ?_)
                          · refine w_go K 2 (c' := (290, [some (.ref 116), some (.int x15), q14], [.int 1], mT (sI (sI x12 116 83 (gI x12 116 81)) 116 81 ((gI x12 116 81) + 1)))) rfl ?_
                            exact fun _ h => hJ _ h
                          · refine w_go K 2 (c' := (282, [some (.ref 116), some (.int x15), q14], [.int 62, .int x15], mT (sI (sI x12 116 83 (gI x12 116 81)) 116 81 ((gI x12 116 81) + 1)))) rfl ?_
                            refine w_ineT K rfl (fun _ => ?_) (fun _ => ?_)
                            · refine w_go K 2 (c' := (290, [some (.ref 116), some (.int x15), q14], [.int 1], mT (sI (sI x12 116 83 (gI x12 116 81)) 116 81 ((gI x12 116 81) + 1)))) rfl ?_
                              exact fun _ h => hJ _ h
                            · refine w_go K 1 (c' := (290, [some (.ref 116), some (.int x15), q14], [.int 0], mT (sI (sI x12 116 83 (gI x12 116 81)) 116 81 ((gI x12 116 81) + 1)))) rfl ?_
                              exact fun _ h => hJ _ h
        · revert h1 h2
          refine w_go K 3 (c' := (293, [some (.ref 116), some (.int x15), some (.int x18)], [.int x18, .ref 116], mT (sI (sI x12 116 83 (gI x12 116 81)) 116 81 ((gI x12 116 81) + 1)))) rfl ?_
          refine w_joinT K (fun (x19 : Int32) => mm_fix (mm_X len xs) mm_Y (mm_call (mm_X len xs) mm_Y (d + 2)) (mm_look mc_M_next0) (301, [some (.ref 116), some (.int x15), some (.int x18)], [.int x19, .ref 116], mT (sI (sI x12 116 83 (gI x12 116 81)) 116 81 ((gI x12 116 81) + 1))) = T) (fun K hJ => ?_) (fun x19 h1 h2 => ?_)
          · refine w_go K 0 (c' := (293, [some (.ref 116), some (.int x15), some (.int x18)], [.int x18, .ref 116], mT (sI (sI x12 116 83 (gI x12 116 81)) 116 81 ((gI x12 116 81) + 1)))) rfl ?_
            refine w_zeqT K rfl (fun _ => ?_) (fun _ => ?_)
            · refine w_go K 1 (c' := (301, [some (.ref 116), some (.int x15), some (.int x18)], [.int 1, .ref 116], mT (sI (sI x12 116 83 (gI x12 116 81)) 116 81 ((gI x12 116 81) + 1)))) rfl ?_
              exact fun _ h => hJ _ h
            · refine w_go K 2 (c' := (301, [some (.ref 116), some (.int x15), some (.int x18)], [.int x15, .ref 116], mT (sI (sI x12 116 83 (gI x12 116 81)) 116 81 ((gI x12 116 81) + 1)))) rfl ?_
              exact fun _ h => hJ _ h
          · revert h1 h2
            refine w_go K 1 (c' := (304, [some (.ref 116), some (.int x15), some (.int x18)], [], mT (sI (sI (sI x12 116 83 (gI x12 116 81)) 116 81 ((gI x12 116 81) + 1)) 116 82 x19))) rfl ?_
            exact w_ret K rfl (hK _)
      · refine w_go K 3 (c' := (126, [some (.ref 116), some (.int x15), q14], [], mT (sI (sI x12 116 83 (gI x12 116 81)) 116 84 0))) rfl ?_
        refine w_join K (fun (x25 : mS) => ∀ (q26 : Option Value) (q27 : Option Value), mm_fix (mm_X len xs) mm_Y (mm_call (mm_X len xs) mm_Y (d + 2)) (mm_look mc_M_next0) (189, [some (.ref 116), q26, q27], [], mT x25) = T) (fun K hJ => tl_M_next0_126 (len := len) (xs := xs) d (T := T) K hJ mm_N _ _ (sI (sI x12 116 83 (gI x12 116 81)) 116 84 0)) (fun x25 h1 h2 q26 q27 => ?_)
        revert h1 h2
        refine w_go K 7 (c' := (201, [some (.ref 116), q26, q27], [.int 6, .int ((gI x25 116 81) - (gI x25 116 83)), .ref 116], mT x25)) rfl ?_
        refine w_joinT K (fun (x28 : Int32) => mm_fix (mm_X len xs) mm_Y (mm_call (mm_X len xs) mm_Y (d + 2)) (mm_look mc_M_next0) (209, [some (.ref 116), q26, q27], [.int x28, .ref 116], mT x25) = T) (fun K hJ => ?_) (fun x28 h1 h2 => ?_)
        · refine w_go K 0 (c' := (201, [some (.ref 116), q26, q27], [.int 6, .int ((gI x25 116 81) - (gI x25 116 83)), .ref 116], mT x25)) rfl ?_
          refine w_igeT K rfl (fun _ => ?_) (fun _ => ?_)
          · refine w_go K 1 (c' := (209, [some (.ref 116), q26, q27], [.int 1, .ref 116], mT x25)) rfl ?_
            exact fun _ h => hJ _ h
          · refine w_go K 2 (c' := (209, [some (.ref 116), q26, q27], [.int 2, .ref 116], mT x25)) rfl ?_
            exact fun _ h => hJ _ h
        · revert h1 h2
          refine w_go K 2 (c' := (304, [some (.ref 116), q26, q27], [], mT (sI x25 116 82 x28))) rfl ?_
          exact w_ret K rfl (hK _)
    · refine w_go K 0 (c' := (76, [some (.ref 116), some (.int x15), q14], [], mT (sI x12 116 83 (gI x12 116 81)))) rfl ?_
      refine w_join K (fun (x31 : mS) => ∀ (q32 : Option Value) (q33 : Option Value), mm_fix (mm_X len xs) mm_Y (mm_call (mm_X len xs) mm_Y (d + 2)) (mm_look mc_M_next0) (103, [some (.ref 116), q32, q33], [], mT x31) = T) (fun K hJ => tl_M_next0_76 (len := len) (xs := xs) d (T := T) K hJ mm_N _ _ (sI x12 116 83 (gI x12 116 81))) (fun x31 h1 h2 q32 q33 => ?_)
      revert h1 h2
      refine w_go K 2 (c' := (105, [some (.ref 116), q32, q33], [.ref 116, .ref 116], mT x31)) rfl ?_
      refine w_callL K (E := f_M_word x31) (g := fun (x34 : Int32) => (some (.int x34), mT x31)) rfl (m_M_word (len := len) (xs := xs) (d + 0) x31) (fun x34 => ?_)
      refine w_go K 2 (c' := (304, [some (.ref 116), q32, q33], [], mT (sI x31 116 82 x34))) rfl ?_
      exact w_ret K rfl (hK _)
theorem m_M_next0 {len : Nat} {xs : Nat → Int32}  (d : Nat)  (s : mS) : ok_M_next0 s → mm_call (mm_X len xs) mm_Y (d + 3) 207 [.ref 116] (mT s) = some (none, mT (f_M_next0 s)) := fun h => t_M_next0 (len := len) (xs := xs) d s (fun t => (some (none, mT t) : Option mm_R) = some (none, mT (f_M_next0 s))) (fun _ h => h) h rfl
def f_M_bad (a1 : Int32) (s : mS) : Int32 × mS := (0, sI (sI s 116 85 a1) 116 86 (gI s 116 83))
set_option maxRecDepth 4000 in
theorem t_M_bad {len : Nat} {xs : Nat → Int32}  (d : Nat) (a1 : Int32) (s : mS) {T : Option mm_R} (K : Int32 × mS → Prop) (hK : ∀ t, K t → some (some (.int t.1), mT t.2) = T) : True → K (f_M_bad a1 s) → mm_fix (mm_X len xs) mm_Y (mm_call (mm_X len xs) mm_Y (d + 0)) (mm_look mc_M_bad) (0, [some (.ref 116), some (.int a1)], [], mT s) = T := by
  unfold f_M_bad
  refine w_go K 8 (c' := (14, [some (.ref 116), some (.int a1)], [.int 0], mT (sI (sI s 116 85 a1) 116 86 (gI s 116 83)))) rfl ?_
  exact w_ret K rfl (hK _)
theorem m_M_bad {len : Nat} {xs : Nat → Int32}  (d : Nat) (a1 : Int32) (s : mS) : True → mm_call (mm_X len xs) mm_Y (d + 1) 214 [.ref 116, .int a1] (mT s) = some (some (.int (f_M_bad a1 s).1), mT (f_M_bad a1 s).2) := fun h => t_M_bad (len := len) (xs := xs) d a1 s (fun t => (some (some (.int t.1), mT t.2) : Option mm_R) = some (some (.int (f_M_bad a1 s).1), mT (f_M_bad a1 s).2)) (fun _ h => h) h rfl
def f_M_lay (a1 : Int32) (a2 : Int32) (s : mS) : mS := sI (sI (sI s 166 (ix (2 * (gI s 116 79))) a1) 166 (ix ((2 * (gI s 116 79)) + 1)) a2) 116 79 ((gI s 116 79) + 1)
def ok_M_lay (a1 : Int32) (a2 : Int32) (s : mS) : Prop := (mm_inb (2 * (gI s 116 79)) 1220 = true ∧ (mm_inb ((2 * (gI s 116 79)) + 1) 1220 = true ∧ True))
set_option maxRecDepth 4000 in
theorem t_M_lay {len : Nat} {xs : Nat → Int32}  (d : Nat) (a1 : Int32) (a2 : Int32) (s : mS) {T : Option mm_R} (K : mS → Prop) (hK : ∀ t, K t → some (none, mT t) = T) : ok_M_lay a1 a2 s → K (f_M_lay a1 a2 s) → mm_fix (mm_X len xs) mm_Y (mm_call (mm_X len xs) mm_Y (d + 0)) (mm_look mc_M_lay) (0, [some (.ref 116), some (.int a1), some (.int a2)], [], mT s) = T := by
  unfold ok_M_lay f_M_lay
  refine w_go K 7 (c' := (11, [some (.ref 116), some (.int a1), some (.int a2)], [.int a1, .int (2 * (gI s 116 79)), .ref 166], mT s)) rfl ?_
  refine w_ck K (st_iS rfl rfl) ?_
  refine w_go K 9 (c' := (25, [some (.ref 116), some (.int a1), some (.int a2)], [.int a2, .int ((2 * (gI s 116 79)) + 1), .ref 166], mT (sI s 166 (ix (2 * (gI s 116 79))) a1))) rfl ?_
  refine w_ck K (st_iS rfl rfl) ?_
  refine w_go K 6 (c' := (36, [some (.ref 116), some (.int a1), some (.int a2)], [], mT (sI (sI (sI s 166 (ix (2 * (gI s 116 79))) a1) 166 (ix ((2 * (gI s 116 79)) + 1)) a2) 116 79 ((gI s 116 79) + 1)))) rfl ?_
  exact w_ret K rfl (hK _)
theorem m_M_lay {len : Nat} {xs : Nat → Int32}  (d : Nat) (a1 : Int32) (a2 : Int32) (s : mS) : ok_M_lay a1 a2 s → mm_call (mm_X len xs) mm_Y (d + 1) 218 [.ref 116, .int a1, .int a2] (mT s) = some (none, mT (f_M_lay a1 a2 s)) := fun h => t_M_lay (len := len) (xs := xs) d a1 a2 s (fun t => (some (none, mT t) : Option mm_R) = some (none, mT (f_M_lay a1 a2 s))) (fun _ h => h) h rfl
def f_M_unit  (s : mS) : Int32 × mS := (mq_let (if (gI s 116 82) = 303 then (1 : Int32) else (if (gI s 116 82) < 401 then (0 : Int32) else (1 : Int32))) (fun (x10 : Int32) => (if (gI s 116 82) = 2 then (mq_let (if (gI s 116 82) = 2 then (0 : Int32) else (if (gI s 116 82) = 303 then (4 : Int32) else ((1 + (gI s 116 82)) - 401))) (fun (x11 : Int32) => (mq_let (f_M_lay x11 (gI s 116 84) s) (fun (x12 : mS) => (mq_let (f_M_next0 x12) (fun (x13 : mS) => (1, x13))))))) else (if x10 = 0 then (mq_let (f_M_bad (1 : Int32) s) (fun (x14 : Int32 × mS) => (x14.1, x14.2))) else (mq_let (if (gI s 116 82) = 2 then (0 : Int32) else (if (gI s 116 82) = 303 then (4 : Int32) else ((1 + (gI s 116 82)) - 401))) (fun (x15 : Int32) => (mq_let (f_M_lay x15 (gI s 116 84) s) (fun (x16 : mS) => (mq_let (f_M_next0 x16) (fun (x17 : mS) => (1, x17)))))))))))
def ok_M_unit  (s : mS) : Prop := (True ∧ mq_letP (if (gI s 116 82) = 303 then (1 : Int32) else (if (gI s 116 82) < 401 then (0 : Int32) else (1 : Int32))) (fun (x10 : Int32) => (if (gI s 116 82) = 2 then (True ∧ mq_letP (if (gI s 116 82) = 2 then (0 : Int32) else (if (gI s 116 82) = 303 then (4 : Int32) else ((1 + (gI s 116 82)) - 401))) (fun (x11 : Int32) => (ok_M_lay x11 (gI s 116 84) s ∧ mq_letP (f_M_lay x11 (gI s 116 84) s) (fun (x12 : mS) => (ok_M_next0 x12 ∧ mq_letP (f_M_next0 x12) (fun (x13 : mS) => True)))))) else (if x10 = 0 then (True ∧ mq_letP (f_M_bad (1 : Int32) s) (fun (x14 : Int32 × mS) => mm_bit x14.1 = true)) else (True ∧ mq_letP (if (gI s 116 82) = 2 then (0 : Int32) else (if (gI s 116 82) = 303 then (4 : Int32) else ((1 + (gI s 116 82)) - 401))) (fun (x15 : Int32) => (ok_M_lay x15 (gI s 116 84) s ∧ mq_letP (f_M_lay x15 (gI s 116 84) s) (fun (x16 : mS) => (ok_M_next0 x16 ∧ mq_letP (f_M_next0 x16) (fun (x17 : mS) => True))))))))))
set_option maxRecDepth 4000 in
theorem t_M_unit {len : Nat} {xs : Nat → Int32}  (d : Nat)  (s : mS) {T : Option mm_R} (K : Int32 × mS → Prop) (hK : ∀ t, K t → some (some (.int t.1), mT t.2) = T) : ok_M_unit s → K (f_M_unit s) → mm_fix (mm_X len xs) mm_Y (mm_call (mm_X len xs) mm_Y (d + 3)) (mm_look mc_M_unit) (0, [some (.ref 116), none], [], mT s) = T := by
  unfold ok_M_unit f_M_unit
  refine w_go K 3 (c' := (7, [some (.ref 116), none], [.int 303, .int (gI s 116 82)], mT s)) rfl ?_
  refine w_join K (fun (x10 : Int32) => mm_fix (mm_X len xs) mm_Y (mm_call (mm_X len xs) mm_Y (d + 3)) (mm_look mc_M_unit) (25, [some (.ref 116), none], [.int x10], mT s) = T) (fun K hJ => ?_) (fun x10 h1 h2 => ?_)
  · refine w_go K 0 (c' := (7, [some (.ref 116), none], [.int 303, .int (gI s 116 82)], mT s)) rfl ?_
    refine w_ieqT K rfl (fun _ => ?_) (fun _ => ?_)
    · refine w_go K 2 (c' := (25, [some (.ref 116), none], [.int 1], mT s)) rfl ?_
      exact fun _ h => hJ _ h
    · refine w_go K 3 (c' := (17, [some (.ref 116), none], [.int 401, .int (gI s 116 82)], mT s)) rfl ?_
      refine w_iltT K rfl (fun _ => ?_) (fun _ => ?_)
      · refine w_go K 1 (c' := (25, [some (.ref 116), none], [.int 0], mT s)) rfl ?_
        exact fun _ h => hJ _ h
      · refine w_go K 2 (c' := (25, [some (.ref 116), none], [.int 1], mT s)) rfl ?_
        exact fun _ h => hJ _ h
  · revert h1 h2
    refine w_go K 4 (c' := (31, [some (.ref 116), some (.int x10)], [.int 2, .int (gI s 116 82)], mT s)) rfl ?_
    refine w_ieq K rfl (fun _ => ?_) (fun _ => ?_)
    · refine w_go K 4 (c' := (50, [some (.ref 116), some (.int x10)], [.int 2, .int (gI s 116 82), .ref 116], mT s)) rfl ?_
      refine w_join K (fun (x11 : Int32) => mm_fix (mm_X len xs) mm_Y (mm_call (mm_X len xs) mm_Y (d + 3)) (mm_look mc_M_unit) (81, [some (.ref 116), some (.int x10)], [.int x11, .ref 116], mT s) = T) (fun K hJ => ?_) (fun x11 h1 h2 => ?_)
      · refine w_go K 0 (c' := (50, [some (.ref 116), some (.int x10)], [.int 2, .int (gI s 116 82), .ref 116], mT s)) rfl ?_
        refine w_ineT K rfl (fun _ => ?_) (fun _ => ?_)
        · refine w_go K 2 (c' := (81, [some (.ref 116), some (.int x10)], [.int 0, .ref 116], mT s)) rfl ?_
          exact fun _ h => hJ _ h
        · refine w_go K 3 (c' := (64, [some (.ref 116), some (.int x10)], [.int 303, .int (gI s 116 82), .ref 116], mT s)) rfl ?_
          refine w_ineT K rfl (fun _ => ?_) (fun _ => ?_)
          · refine w_go K 2 (c' := (81, [some (.ref 116), some (.int x10)], [.int 4, .ref 116], mT s)) rfl ?_
            exact fun _ h => hJ _ h
          · refine w_go K 6 (c' := (81, [some (.ref 116), some (.int x10)], [.int ((1 + (gI s 116 82)) - 401), .ref 116], mT s)) rfl ?_
            exact fun _ h => hJ _ h
      · revert h1 h2
        refine w_go K 2 (c' := (85, [some (.ref 116), some (.int x10)], [.int (gI s 116 84), .int x11, .ref 116], mT s)) rfl ?_
        refine w_callL K (E := f_M_lay x11 (gI s 116 84) s) (g := fun (x12 : mS) => (none, mT x12)) rfl (m_M_lay (len := len) (xs := xs) (d + 2) x11 (gI s 116 84) s) (fun x12 => ?_)
        refine w_go K 1 (c' := (89, [some (.ref 116), some (.int x10)], [.ref 116], mT x12)) rfl ?_
        refine w_callL K (E := f_M_next0 x12) (g := fun (x13 : mS) => (none, mT x13)) rfl (m_M_next0 (len := len) (xs := xs) (d + 0) x12) (fun x13 => ?_)
        refine w_go K 1 (c' := (93, [some (.ref 116), some (.int x10)], [.int 1], mT x13)) rfl ?_
        exact w_ret K rfl (hK _)
    · refine w_go K 1 (c' := (35, [some (.ref 116), some (.int x10)], [.int x10], mT s)) rfl ?_
      refine w_zne K rfl (fun _ => ?_) (fun _ => ?_)
      · refine w_go K 2 (c' := (40, [some (.ref 116), some (.int x10)], [.int 1, .ref 116], mT s)) rfl ?_
        refine w_callL K (E := f_M_bad (1 : Int32) s) (g := fun (x14 : Int32 × mS) => (some (.int x14.1), mT x14.2)) rfl (m_M_bad (len := len) (xs := xs) (d + 2) (1 : Int32) s) (fun x14 => ?_)
        refine w_go K 0 (c' := (43, [some (.ref 116), some (.int x10)], [.int x14.1], mT x14.2)) rfl ?_
        exact w_retb K rfl (hK _)
      · refine w_go K 4 (c' := (50, [some (.ref 116), some (.int x10)], [.int 2, .int (gI s 116 82), .ref 116], mT s)) rfl ?_
        refine w_join K (fun (x15 : Int32) => mm_fix (mm_X len xs) mm_Y (mm_call (mm_X len xs) mm_Y (d + 3)) (mm_look mc_M_unit) (81, [some (.ref 116), some (.int x10)], [.int x15, .ref 116], mT s) = T) (fun K hJ => ?_) (fun x15 h1 h2 => ?_)
        · refine w_go K 0 (c' := (50, [some (.ref 116), some (.int x10)], [.int 2, .int (gI s 116 82), .ref 116], mT s)) rfl ?_
          refine w_ineT K rfl (fun _ => ?_) (fun _ => ?_)
          · refine w_go K 2 (c' := (81, [some (.ref 116), some (.int x10)], [.int 0, .ref 116], mT s)) rfl ?_
            exact fun _ h => hJ _ h
          · refine w_go K 3 (c' := (64, [some (.ref 116), some (.int x10)], [.int 303, .int (gI s 116 82), .ref 116], mT s)) rfl ?_
            refine w_ineT K rfl (fun _ => ?_) (fun _ => ?_)
            · refine w_go K 2 (c' := (81, [some (.ref 116), some (.int x10)], [.int 4, .ref 116], mT s)) rfl ?_
              exact fun _ h => hJ _ h
            · refine w_go K 6 (c' := (81, [some (.ref 116), some (.int x10)], [.int ((1 + (gI s 116 82)) - 401), .ref 116], mT s)) rfl ?_
              exact fun _ h => hJ _ h
        · revert h1 h2
          refine w_go K 2 (c' := (85, [some (.ref 116), some (.int x10)], [.int (gI s 116 84), .int x15, .ref 116], mT s)) rfl ?_
          refine w_callL K (E := f_M_lay x15 (gI s 116 84) s) (g := fun (x16 : mS) => (none, mT x16)) rfl (m_M_lay (len := len) (xs := xs) (d + 2) x15 (gI s 116 84) s) (fun x16 => ?_)
          refine w_go K 1 (c' := (89, [some (.ref 116), some (.int x10)], [.ref 116], mT x16)) rfl ?_
          refine w_callL K (E := f_M_next0 x16) (g := fun (x17 : mS) => (none, mT x17)) rfl (m_M_next0 (len := len) (xs := xs) (d + 0) x16) (fun x17 => ?_)
          refine w_go K 1 (c' := (93, [some (.ref 116), some (.int x10)], [.int 1], mT x17)) rfl ?_
          exact w_ret K rfl (hK _)
theorem m_M_unit {len : Nat} {xs : Nat → Int32}  (d : Nat)  (s : mS) : ok_M_unit s → mm_call (mm_X len xs) mm_Y (d + 4) 217 [.ref 116] (mT s) = some (some (.int (f_M_unit s).1), mT (f_M_unit s).2) := fun h => t_M_unit (len := len) (xs := xs) d s (fun t => (some (some (.int t.1), mT t.2) : Option mm_R) = some (some (.int (f_M_unit s).1), mT (f_M_unit s).2)) (fun _ h => h) h rfl
def lp_M_product_9  : Nat → mS → Option Int32 × mS
  | 0, s => (none, s)
  | n + 1, s => (if (gI s 116 82) = 42 then (mq_let (if (gI s 116 82) = 47 then (1 : Int32) else (0 : Int32)) (fun (x11 : Int32) => (mq_let (f_M_next0 s) (fun (x12 : mS) => (if x11 = 0 then (mq_let (f_M_unit x12) (fun (x13 : Int32 × mS) => (if x13.1 = 0 then (some (0 : Int32), x13.2) else (mq_let (f_M_lay (8 : Int32) (0 : Int32) x13.2) (fun (x14 : mS) => (lp_M_product_9 n x14)))))) else (if (gI x12 116 82) = 2 then (if (gI x12 116 84) = 0 then (mq_let (f_M_bad (2 : Int32) x12) (fun (x15 : Int32 × mS) => (some x15.1, x15.2))) else (mq_let (f_M_lay (9 : Int32) (gI x12 116 84) x12) (fun (x16 : mS) => (mq_let (f_M_next0 x16) (fun (x17 : mS) => (lp_M_product_9 n x17)))))) else (mq_let (f_M_bad (1 : Int32) x12) (fun (x18 : Int32 × mS) => (some x18.1, x18.2))))))))) else (if (gI s 116 82) = 47 then (mq_let (if (gI s 116 82) = 47 then (1 : Int32) else (0 : Int32)) (fun (x19 : Int32) => (mq_let (f_M_next0 s) (fun (x20 : mS) => (if x19 = 0 then (mq_let (f_M_unit x20) (fun (x21 : Int32 × mS) => (if x21.1 = 0 then (some (0 : Int32), x21.2) else (mq_let (f_M_lay (8 : Int32) (0 : Int32) x21.2) (fun (x22 : mS) => (lp_M_product_9 n x22)))))) else (if (gI x20 116 82) = 2 then (if (gI x20 116 84) = 0 then (mq_let (f_M_bad (2 : Int32) x20) (fun (x23 : Int32 × mS) => (some x23.1, x23.2))) else (mq_let (f_M_lay (9 : Int32) (gI x20 116 84) x20) (fun (x24 : mS) => (mq_let (f_M_next0 x24) (fun (x25 : mS) => (lp_M_product_9 n x25)))))) else (mq_let (f_M_bad (1 : Int32) x20) (fun (x26 : Int32 × mS) => (some x26.1, x26.2))))))))) else (none, s)))
def okl_M_product_9  : Nat → mS → Prop
  | 0, s => False
  | n + 1, s => (if (gI s 116 82) = 42 then (True ∧ mq_letP (if (gI s 116 82) = 47 then (1 : Int32) else (0 : Int32)) (fun (x11 : Int32) => (ok_M_next0 s ∧ mq_letP (f_M_next0 s) (fun (x12 : mS) => (if x11 = 0 then (ok_M_unit x12 ∧ mq_letP (f_M_unit x12) (fun (x13 : Int32 × mS) => (if x13.1 = 0 then True else (ok_M_lay (8 : Int32) (0 : Int32) x13.2 ∧ mq_letP (f_M_lay (8 : Int32) (0 : Int32) x13.2) (fun (x14 : mS) => (okl_M_product_9 n x14)))))) else (if (gI x12 116 82) = 2 then (if (gI x12 116 84) = 0 then (True ∧ mq_letP (f_M_bad (2 : Int32) x12) (fun (x15 : Int32 × mS) => mm_bit x15.1 = true)) else (ok_M_lay (9 : Int32) (gI x12 116 84) x12 ∧ mq_letP (f_M_lay (9 : Int32) (gI x12 116 84) x12) (fun (x16 : mS) => (ok_M_next0 x16 ∧ mq_letP (f_M_next0 x16) (fun (x17 : mS) => (okl_M_product_9 n x17)))))) else (True ∧ mq_letP (f_M_bad (1 : Int32) x12) (fun (x18 : Int32 × mS) => mm_bit x18.1 = true)))))))) else (if (gI s 116 82) = 47 then (True ∧ mq_letP (if (gI s 116 82) = 47 then (1 : Int32) else (0 : Int32)) (fun (x19 : Int32) => (ok_M_next0 s ∧ mq_letP (f_M_next0 s) (fun (x20 : mS) => (if x19 = 0 then (ok_M_unit x20 ∧ mq_letP (f_M_unit x20) (fun (x21 : Int32 × mS) => (if x21.1 = 0 then True else (ok_M_lay (8 : Int32) (0 : Int32) x21.2 ∧ mq_letP (f_M_lay (8 : Int32) (0 : Int32) x21.2) (fun (x22 : mS) => (okl_M_product_9 n x22)))))) else (if (gI x20 116 82) = 2 then (if (gI x20 116 84) = 0 then (True ∧ mq_letP (f_M_bad (2 : Int32) x20) (fun (x23 : Int32 × mS) => mm_bit x23.1 = true)) else (ok_M_lay (9 : Int32) (gI x20 116 84) x20 ∧ mq_letP (f_M_lay (9 : Int32) (gI x20 116 84) x20) (fun (x24 : mS) => (ok_M_next0 x24 ∧ mq_letP (f_M_next0 x24) (fun (x25 : mS) => (okl_M_product_9 n x25)))))) else (True ∧ mq_letP (f_M_bad (1 : Int32) x20) (fun (x26 : Int32 × mS) => mm_bit x26.1 = true)))))))) else True))
set_option maxRecDepth 4000 in
theorem tl_M_product_9 {len : Nat} {xs : Nat → Int32}  (d : Nat)   {T : Option mm_R} (K : Option Int32 × mS → Prop) (hX : ∀ r, K r → r.1 = none → ∀ (o1 : Option Value), mm_fix (mm_X len xs) mm_Y (mm_call (mm_X len xs) mm_Y (d + 4)) (mm_look mc_M_product) (113, [some (.ref 116), o1], [], mT r.2) = T) (hR : ∀ r, K r → ∀ v, r.1 = some v → some (some (.int v), mT r.2) = T) : ∀ (n : Nat), ∀ (o1 : Option Value) (s : mS), okl_M_product_9 n s → K (lp_M_product_9 n s) → mm_fix (mm_X len xs) mm_Y (mm_call (mm_X len xs) mm_Y (d + 4)) (mm_look mc_M_product) (9, [some (.ref 116), o1], [], mT s) = T := by
  intro n
  induction n with
  | zero => intro o1 s; exact fun h => h.elim
  | succ n ih =>
    intro o1 s
    rw [okl_M_product_9, lp_M_product_9]
    refine w_go K 3 (c' := (15, [some (.ref 116), o1], [.int 42, .int (gI s 116 82)], mT s)) rfl ?_
    refine w_ieq K rfl (fun _ => ?_) (fun _ => ?_)
    · refine w_go K 3 (c' := (33, [some (.ref 116), o1], [.int 47, .int (gI s 116 82)], mT s)) rfl ?_
      refine w_join K (fun (x11 : Int32) => mm_fix (mm_X len xs) mm_Y (mm_call (mm_X len xs) mm_Y (d + 4)) (mm_look mc_M_product) (41, [some (.ref 116), o1], [.int x11], mT s) = T) (fun K hJ => ?_) (fun x11 h1 h2 => ?_)
      · refine w_go K 0 (c' := (33, [some (.ref 116), o1], [.int 47, .int (gI s 116 82)], mT s)) rfl ?_
        refine w_ineT K rfl (fun _ => ?_) (fun _ => ?_)
        · refine w_go K 2 (c' := (41, [some (.ref 116), o1], [.int 1], mT s)) rfl ?_
          exact fun _ h => hJ _ h
        · refine w_go K 1 (c' := (41, [some (.ref 116), o1], [.int 0], mT s)) rfl ?_
          exact fun _ h => hJ _ h
      · revert h1 h2
        refine w_go K 2 (c' := (43, [some (.ref 116), some (.int x11)], [.ref 116], mT s)) rfl ?_
        refine w_callL K (E := f_M_next0 s) (g := fun (x12 : mS) => (none, mT x12)) rfl (m_M_next0 (len := len) (xs := xs) (d + 1) s) (fun x12 => ?_)
        refine w_go K 1 (c' := (47, [some (.ref 116), some (.int x11)], [.int x11], mT x12)) rfl ?_
        refine w_zeq K rfl (fun _ => ?_) (fun _ => ?_)
        · refine w_go K 1 (c' := (95, [some (.ref 116), some (.int x11)], [.ref 116], mT x12)) rfl ?_
          refine w_callL K (E := f_M_unit x12) (g := fun (x13 : Int32 × mS) => (some (.int x13.1), mT x13.2)) rfl (m_M_unit (len := len) (xs := xs) (d + 0) x12) (fun x13 => ?_)
          refine w_go K 0 (c' := (98, [some (.ref 116), some (.int x11)], [.int x13.1], mT x13.2)) rfl ?_
          refine w_zne K rfl (fun _ => ?_) (fun _ => ?_)
          · refine w_go K 1 (c' := (102, [some (.ref 116), some (.int x11)], [.int 0], mT x13.2)) rfl ?_
            exact w_ret K rfl (fun h => hR _ h _ rfl)
          · refine w_go K 3 (c' := (107, [some (.ref 116), some (.int x11)], [.int 0, .int 8, .ref 116], mT x13.2)) rfl ?_
            refine w_callL K (E := f_M_lay (8 : Int32) (0 : Int32) x13.2) (g := fun (x14 : mS) => (none, mT x14)) rfl (m_M_lay (len := len) (xs := xs) (d + 3) (8 : Int32) (0 : Int32) x13.2) (fun x14 => ?_)
            refine w_go K 1 (c' := (9, [some (.ref 116), some (.int x11)], [], mT x14)) rfl ?_
            exact fun a b => ih _ x14 a b
        · refine w_go K 3 (c' := (55, [some (.ref 116), some (.int x11)], [.int 2, .int (gI x12 116 82)], mT x12)) rfl ?_
          refine w_ieq K rfl (fun _ => ?_) (fun _ => ?_)
          · refine w_go K 2 (c' := (68, [some (.ref 116), some (.int x11)], [.int (gI x12 116 84)], mT x12)) rfl ?_
            refine w_zne K rfl (fun _ => ?_) (fun _ => ?_)
            · refine w_go K 2 (c' := (73, [some (.ref 116), some (.int x11)], [.int 2, .ref 116], mT x12)) rfl ?_
              refine w_callL K (E := f_M_bad (2 : Int32) x12) (g := fun (x15 : Int32 × mS) => (some (.int x15.1), mT x15.2)) rfl (m_M_bad (len := len) (xs := xs) (d + 3) (2 : Int32) x12) (fun x15 => ?_)
              refine w_go K 0 (c' := (76, [some (.ref 116), some (.int x11)], [.int x15.1], mT x15.2)) rfl ?_
              exact w_retb K rfl (fun h => hR _ h _ rfl)
            · refine w_go K 4 (c' := (84, [some (.ref 116), some (.int x11)], [.int (gI x12 116 84), .int 9, .ref 116], mT x12)) rfl ?_
              refine w_callL K (E := f_M_lay (9 : Int32) (gI x12 116 84) x12) (g := fun (x16 : mS) => (none, mT x16)) rfl (m_M_lay (len := len) (xs := xs) (d + 3) (9 : Int32) (gI x12 116 84) x12) (fun x16 => ?_)
              refine w_go K 1 (c' := (88, [some (.ref 116), some (.int x11)], [.ref 116], mT x16)) rfl ?_
              refine w_callL K (E := f_M_next0 x16) (g := fun (x17 : mS) => (none, mT x17)) rfl (m_M_next0 (len := len) (xs := xs) (d + 1) x16) (fun x17 => ?_)
              refine w_go K 2 (c' := (9, [some (.ref 116), some (.int x11)], [], mT x17)) rfl ?_
              exact fun a b => ih _ x17 a b
          · refine w_go K 2 (c' := (60, [some (.ref 116), some (.int x11)], [.int 1, .ref 116], mT x12)) rfl ?_
            refine w_callL K (E := f_M_bad (1 : Int32) x12) (g := fun (x18 : Int32 × mS) => (some (.int x18.1), mT x18.2)) rfl (m_M_bad (len := len) (xs := xs) (d + 3) (1 : Int32) x12) (fun x18 => ?_)
            refine w_go K 0 (c' := (63, [some (.ref 116), some (.int x11)], [.int x18.1], mT x18.2)) rfl ?_
            exact w_retb K rfl (fun h => hR _ h _ rfl)
    · refine w_go K 3 (c' := (24, [some (.ref 116), o1], [.int 47, .int (gI s 116 82)], mT s)) rfl ?_
      refine w_ine K rfl (fun _ => ?_) (fun _ => ?_)
      · refine w_go K 3 (c' := (33, [some (.ref 116), o1], [.int 47, .int (gI s 116 82)], mT s)) rfl ?_
        refine w_join K (fun (x19 : Int32) => mm_fix (mm_X len xs) mm_Y (mm_call (mm_X len xs) mm_Y (d + 4)) (mm_look mc_M_product) (41, [some (.ref 116), o1], [.int x19], mT s) = T) (fun K hJ => ?_) (fun x19 h1 h2 => ?_)
        · refine w_go K 0 (c' := (33, [some (.ref 116), o1], [.int 47, .int (gI s 116 82)], mT s)) rfl ?_
          refine w_ineT K rfl (fun _ => ?_) (fun _ => ?_)
          · refine w_go K 2 (c' := (41, [some (.ref 116), o1], [.int 1], mT s)) rfl ?_
            exact fun _ h => hJ _ h
          · refine w_go K 1 (c' := (41, [some (.ref 116), o1], [.int 0], mT s)) rfl ?_
            exact fun _ h => hJ _ h
        · revert h1 h2
          refine w_go K 2 (c' := (43, [some (.ref 116), some (.int x19)], [.ref 116], mT s)) rfl ?_
          refine w_callL K (E := f_M_next0 s) (g := fun (x20 : mS) => (none, mT x20)) rfl (m_M_next0 (len := len) (xs := xs) (d + 1) s) (fun x20 => ?_)
          refine w_go K 1 (c' := (47, [some (.ref 116), some (.int x19)], [.int x19], mT x20)) rfl ?_
          refine w_zeq K rfl (fun _ => ?_) (fun _ => ?_)
          · refine w_go K 1 (c' := (95, [some (.ref 116), some (.int x19)], [.ref 116], mT x20)) rfl ?_
            refine w_callL K (E := f_M_unit x20) (g := fun (x21 : Int32 × mS) => (some (.int x21.1), mT x21.2)) rfl (m_M_unit (len := len) (xs := xs) (d + 0) x20) (fun x21 => ?_)
            refine w_go K 0 (c' := (98, [some (.ref 116), some (.int x19)], [.int x21.1], mT x21.2)) rfl ?_
            refine w_zne K rfl (fun _ => ?_) (fun _ => ?_)
            · refine w_go K 1 (c' := (102, [some (.ref 116), some (.int x19)], [.int 0], mT x21.2)) rfl ?_
              exact w_ret K rfl (fun h => hR _ h _ rfl)
            · refine w_go K 3 (c' := (107, [some (.ref 116), some (.int x19)], [.int 0, .int 8, .ref 116], mT x21.2)) rfl ?_
              refine w_callL K (E := f_M_lay (8 : Int32) (0 : Int32) x21.2) (g := fun (x22 : mS) => (none, mT x22)) rfl (m_M_lay (len := len) (xs := xs) (d + 3) (8 : Int32) (0 : Int32) x21.2) (fun x22 => ?_)
              refine w_go K 1 (c' := (9, [some (.ref 116), some (.int x19)], [], mT x22)) rfl ?_
              exact fun a b => ih _ x22 a b
          · refine w_go K 3 (c' := (55, [some (.ref 116), some (.int x19)], [.int 2, .int (gI x20 116 82)], mT x20)) rfl ?_
            refine w_ieq K rfl (fun _ => ?_) (fun _ => ?_)
            · refine w_go K 2 (c' := (68, [some (.ref 116), some (.int x19)], [.int (gI x20 116 84)], mT x20)) rfl ?_
              refine w_zne K rfl (fun _ => ?_) (fun _ => ?_)
              · refine w_go K 2 (c' := (73, [some (.ref 116), some (.int x19)], [.int 2, .ref 116], mT x20)) rfl ?_
                refine w_callL K (E := f_M_bad (2 : Int32) x20) (g := fun (x23 : Int32 × mS) => (some (.int x23.1), mT x23.2)) rfl (m_M_bad (len := len) (xs := xs) (d + 3) (2 : Int32) x20) (fun x23 => ?_)
                refine w_go K 0 (c' := (76, [some (.ref 116), some (.int x19)], [.int x23.1], mT x23.2)) rfl ?_
                exact w_retb K rfl (fun h => hR _ h _ rfl)
              · refine w_go K 4 (c' := (84, [some (.ref 116), some (.int x19)], [.int (gI x20 116 84), .int 9, .ref 116], mT x20)) rfl ?_
                refine w_callL K (E := f_M_lay (9 : Int32) (gI x20 116 84) x20) (g := fun (x24 : mS) => (none, mT x24)) rfl (m_M_lay (len := len) (xs := xs) (d + 3) (9 : Int32) (gI x20 116 84) x20) (fun x24 => ?_)
                refine w_go K 1 (c' := (88, [some (.ref 116), some (.int x19)], [.ref 116], mT x24)) rfl ?_
                refine w_callL K (E := f_M_next0 x24) (g := fun (x25 : mS) => (none, mT x25)) rfl (m_M_next0 (len := len) (xs := xs) (d + 1) x24) (fun x25 => ?_)
                refine w_go K 2 (c' := (9, [some (.ref 116), some (.int x19)], [], mT x25)) rfl ?_
                exact fun a b => ih _ x25 a b
            · refine w_go K 2 (c' := (60, [some (.ref 116), some (.int x19)], [.int 1, .ref 116], mT x20)) rfl ?_
              refine w_callL K (E := f_M_bad (1 : Int32) x20) (g := fun (x26 : Int32 × mS) => (some (.int x26.1), mT x26.2)) rfl (m_M_bad (len := len) (xs := xs) (d + 3) (1 : Int32) x20) (fun x26 => ?_)
              refine w_go K 0 (c' := (63, [some (.ref 116), some (.int x19)], [.int x26.1], mT x26.2)) rfl ?_
              exact w_retb K rfl (fun h => hR _ h _ rfl)
      · refine w_go K 0 (c' := (113, [some (.ref 116), o1], [], mT s)) rfl ?_
        exact fun _ b => hX _ b rfl _
def f_M_product  (s : mS) : Int32 × mS := (mq_let (f_M_unit s) (fun (x10 : Int32 × mS) => (if x10.1 = 0 then (0, x10.2) else (mq_let (lp_M_product_9 mm_N x10.2) (fun (x27 : Option Int32 × mS) => mq_el x27.1 (fun v => (v, x27.2)) (1, x27.2))))))
def ok_M_product  (s : mS) : Prop := (ok_M_unit s ∧ mq_letP (f_M_unit s) (fun (x10 : Int32 × mS) => (if x10.1 = 0 then True else (okl_M_product_9 mm_N x10.2 ∧ mq_letP (lp_M_product_9 mm_N x10.2) (fun (x27 : Option Int32 × mS) => mq_elP x27.1 True)))))
set_option maxRecDepth 4000 in
theorem t_M_product {len : Nat} {xs : Nat → Int32}  (d : Nat)  (s : mS) {T : Option mm_R} (K : Int32 × mS → Prop) (hK : ∀ t, K t → some (some (.int t.1), mT t.2) = T) : ok_M_product s → K (f_M_product s) → mm_fix (mm_X len xs) mm_Y (mm_call (mm_X len xs) mm_Y (d + 4)) (mm_look mc_M_product) (0, [some (.ref 116), none], [], mT s) = T := by
  unfold ok_M_product f_M_product
  refine w_go K 1 (c' := (1, [some (.ref 116), none], [.ref 116], mT s)) rfl ?_
  refine w_callL K (E := f_M_unit s) (g := fun (x10 : Int32 × mS) => (some (.int x10.1), mT x10.2)) rfl (m_M_unit (len := len) (xs := xs) (d + 0) s) (fun x10 => ?_)
  refine w_go K 0 (c' := (4, [some (.ref 116), none], [.int x10.1], mT x10.2)) rfl ?_
  refine w_zne K rfl (fun _ => ?_) (fun _ => ?_)
  · refine w_go K 1 (c' := (8, [some (.ref 116), none], [.int 0], mT x10.2)) rfl ?_
    exact w_ret K rfl (hK _)
  · refine w_go K 0 (c' := (9, [some (.ref 116), none], [], mT x10.2)) rfl ?_
    refine w_join K (fun (x27 : Option Int32 × mS) => (x27.1 = none → ∀ (q28 : Option Value), mm_fix (mm_X len xs) mm_Y (mm_call (mm_X len xs) mm_Y (d + 4)) (mm_look mc_M_product) (113, [some (.ref 116), q28], [], mT x27.2) = T) ∧ (∀ v, x27.1 = some v → some (some (.int v), mT x27.2) = T)) (fun K hJ => tl_M_product_9 (len := len) (xs := xs) d (T := T) K (fun r hr => (hJ r hr).1) (fun r hr => (hJ r hr).2) mm_N _ x10.2) (fun x27 h1 h2 => w_el K (fun v hv h => hK _ h) (fun h1 h2 q28 => ?_) h1 h2)
    revert h1 h2
    refine w_go K 1 (c' := (114, [some (.ref 116), q28], [.int 1], mT x27.2)) rfl ?_
    exact w_ret K rfl (hK _)
theorem m_M_product {len : Nat} {xs : Nat → Int32}  (d : Nat)  (s : mS) : ok_M_product s → mm_call (mm_X len xs) mm_Y (d + 5) 216 [.ref 116] (mT s) = some (some (.int (f_M_product s).1), mT (f_M_product s).2) := fun h => t_M_product (len := len) (xs := xs) d s (fun t => (some (some (.int t.1), mT t.2) : Option mm_R) = some (some (.int (f_M_product s).1), mT (f_M_product s).2)) (fun _ h => h) h rfl
def lp_M_sumUp_9  : Nat → mS → Option Int32 × mS
  | 0, s => (none, s)
  | n + 1, s => (if (gI s 116 82) = 43 then (mq_let (if (gI s 116 82) = 43 then (6 : Int32) else (7 : Int32)) (fun (x11 : Int32) => (mq_let (f_M_next0 s) (fun (x12 : mS) => (mq_let (f_M_product x12) (fun (x13 : Int32 × mS) => (if x13.1 = 0 then (some (0 : Int32), x13.2) else (mq_let (f_M_lay x11 (0 : Int32) x13.2) (fun (x14 : mS) => (lp_M_sumUp_9 n x14)))))))))) else (if (gI s 116 82) = 45 then (mq_let (if (gI s 116 82) = 43 then (6 : Int32) else (7 : Int32)) (fun (x15 : Int32) => (mq_let (f_M_next0 s) (fun (x16 : mS) => (mq_let (f_M_product x16) (fun (x17 : Int32 × mS) => (if x17.1 = 0 then (some (0 : Int32), x17.2) else (mq_let (f_M_lay x15 (0 : Int32) x17.2) (fun (x18 : mS) => (lp_M_sumUp_9 n x18)))))))))) else (none, s)))
def okl_M_sumUp_9  : Nat → mS → Prop
  | 0, s => False
  | n + 1, s => (if (gI s 116 82) = 43 then (True ∧ mq_letP (if (gI s 116 82) = 43 then (6 : Int32) else (7 : Int32)) (fun (x11 : Int32) => (ok_M_next0 s ∧ mq_letP (f_M_next0 s) (fun (x12 : mS) => (ok_M_product x12 ∧ mq_letP (f_M_product x12) (fun (x13 : Int32 × mS) => (if x13.1 = 0 then True else (ok_M_lay x11 (0 : Int32) x13.2 ∧ mq_letP (f_M_lay x11 (0 : Int32) x13.2) (fun (x14 : mS) => (okl_M_sumUp_9 n x14)))))))))) else (if (gI s 116 82) = 45 then (True ∧ mq_letP (if (gI s 116 82) = 43 then (6 : Int32) else (7 : Int32)) (fun (x15 : Int32) => (ok_M_next0 s ∧ mq_letP (f_M_next0 s) (fun (x16 : mS) => (ok_M_product x16 ∧ mq_letP (f_M_product x16) (fun (x17 : Int32 × mS) => (if x17.1 = 0 then True else (ok_M_lay x15 (0 : Int32) x17.2 ∧ mq_letP (f_M_lay x15 (0 : Int32) x17.2) (fun (x18 : mS) => (okl_M_sumUp_9 n x18)))))))))) else True))
set_option maxRecDepth 4000 in
theorem tl_M_sumUp_9 {len : Nat} {xs : Nat → Int32}  (d : Nat)   {T : Option mm_R} (K : Option Int32 × mS → Prop) (hX : ∀ r, K r → r.1 = none → ∀ (o1 : Option Value), mm_fix (mm_X len xs) mm_Y (mm_call (mm_X len xs) mm_Y (d + 5)) (mm_look mc_M_sumUp) (66, [some (.ref 116), o1], [], mT r.2) = T) (hR : ∀ r, K r → ∀ v, r.1 = some v → some (some (.int v), mT r.2) = T) : ∀ (n : Nat), ∀ (o1 : Option Value) (s : mS), okl_M_sumUp_9 n s → K (lp_M_sumUp_9 n s) → mm_fix (mm_X len xs) mm_Y (mm_call (mm_X len xs) mm_Y (d + 5)) (mm_look mc_M_sumUp) (9, [some (.ref 116), o1], [], mT s) = T := by
  intro n
  induction n with
  | zero => intro o1 s; exact fun h => h.elim
  | succ n ih =>
    intro o1 s
    rw [okl_M_sumUp_9, lp_M_sumUp_9]
    refine w_go K 3 (c' := (15, [some (.ref 116), o1], [.int 43, .int (gI s 116 82)], mT s)) rfl ?_
    refine w_ieq K rfl (fun _ => ?_) (fun _ => ?_)
    · refine w_go K 3 (c' := (33, [some (.ref 116), o1], [.int 43, .int (gI s 116 82)], mT s)) rfl ?_
      refine w_join K (fun (x11 : Int32) => mm_fix (mm_X len xs) mm_Y (mm_call (mm_X len xs) mm_Y (d + 5)) (mm_look mc_M_sumUp) (43, [some (.ref 116), o1], [.int x11], mT s) = T) (fun K hJ => ?_) (fun x11 h1 h2 => ?_)
      · refine w_go K 0 (c' := (33, [some (.ref 116), o1], [.int 43, .int (gI s 116 82)], mT s)) rfl ?_
        refine w_ineT K rfl (fun _ => ?_) (fun _ => ?_)
        · refine w_go K 2 (c' := (43, [some (.ref 116), o1], [.int 6], mT s)) rfl ?_
          exact fun _ h => hJ _ h
        · refine w_go K 1 (c' := (43, [some (.ref 116), o1], [.int 7], mT s)) rfl ?_
          exact fun _ h => hJ _ h
      · revert h1 h2
        refine w_go K 2 (c' := (45, [some (.ref 116), some (.int x11)], [.ref 116], mT s)) rfl ?_
        refine w_callL K (E := f_M_next0 s) (g := fun (x12 : mS) => (none, mT x12)) rfl (m_M_next0 (len := len) (xs := xs) (d + 2) s) (fun x12 => ?_)
        refine w_go K 1 (c' := (49, [some (.ref 116), some (.int x11)], [.ref 116], mT x12)) rfl ?_
        refine w_callL K (E := f_M_product x12) (g := fun (x13 : Int32 × mS) => (some (.int x13.1), mT x13.2)) rfl (m_M_product (len := len) (xs := xs) (d + 0) x12) (fun x13 => ?_)
        refine w_go K 0 (c' := (52, [some (.ref 116), some (.int x11)], [.int x13.1], mT x13.2)) rfl ?_
        refine w_zne K rfl (fun _ => ?_) (fun _ => ?_)
        · refine w_go K 1 (c' := (56, [some (.ref 116), some (.int x11)], [.int 0], mT x13.2)) rfl ?_
          exact w_ret K rfl (fun h => hR _ h _ rfl)
        · refine w_go K 3 (c' := (60, [some (.ref 116), some (.int x11)], [.int 0, .int x11, .ref 116], mT x13.2)) rfl ?_
          refine w_callL K (E := f_M_lay x11 (0 : Int32) x13.2) (g := fun (x14 : mS) => (none, mT x14)) rfl (m_M_lay (len := len) (xs := xs) (d + 4) x11 (0 : Int32) x13.2) (fun x14 => ?_)
          refine w_go K 1 (c' := (9, [some (.ref 116), some (.int x11)], [], mT x14)) rfl ?_
          exact fun a b => ih _ x14 a b
    · refine w_go K 3 (c' := (24, [some (.ref 116), o1], [.int 45, .int (gI s 116 82)], mT s)) rfl ?_
      refine w_ine K rfl (fun _ => ?_) (fun _ => ?_)
      · refine w_go K 3 (c' := (33, [some (.ref 116), o1], [.int 43, .int (gI s 116 82)], mT s)) rfl ?_
        refine w_join K (fun (x15 : Int32) => mm_fix (mm_X len xs) mm_Y (mm_call (mm_X len xs) mm_Y (d + 5)) (mm_look mc_M_sumUp) (43, [some (.ref 116), o1], [.int x15], mT s) = T) (fun K hJ => ?_) (fun x15 h1 h2 => ?_)
        · refine w_go K 0 (c' := (33, [some (.ref 116), o1], [.int 43, .int (gI s 116 82)], mT s)) rfl ?_
          refine w_ineT K rfl (fun _ => ?_) (fun _ => ?_)
          · refine w_go K 2 (c' := (43, [some (.ref 116), o1], [.int 6], mT s)) rfl ?_
            exact fun _ h => hJ _ h
          · refine w_go K 1 (c' := (43, [some (.ref 116), o1], [.int 7], mT s)) rfl ?_
            exact fun _ h => hJ _ h
        · revert h1 h2
          refine w_go K 2 (c' := (45, [some (.ref 116), some (.int x15)], [.ref 116], mT s)) rfl ?_
          refine w_callL K (E := f_M_next0 s) (g := fun (x16 : mS) => (none, mT x16)) rfl (m_M_next0 (len := len) (xs := xs) (d + 2) s) (fun x16 => ?_)
          refine w_go K 1 (c' := (49, [some (.ref 116), some (.int x15)], [.ref 116], mT x16)) rfl ?_
          refine w_callL K (E := f_M_product x16) (g := fun (x17 : Int32 × mS) => (some (.int x17.1), mT x17.2)) rfl (m_M_product (len := len) (xs := xs) (d + 0) x16) (fun x17 => ?_)
          refine w_go K 0 (c' := (52, [some (.ref 116), some (.int x15)], [.int x17.1], mT x17.2)) rfl ?_
          refine w_zne K rfl (fun _ => ?_) (fun _ => ?_)
          · refine w_go K 1 (c' := (56, [some (.ref 116), some (.int x15)], [.int 0], mT x17.2)) rfl ?_
            exact w_ret K rfl (fun h => hR _ h _ rfl)
          · refine w_go K 3 (c' := (60, [some (.ref 116), some (.int x15)], [.int 0, .int x15, .ref 116], mT x17.2)) rfl ?_
            refine w_callL K (E := f_M_lay x15 (0 : Int32) x17.2) (g := fun (x18 : mS) => (none, mT x18)) rfl (m_M_lay (len := len) (xs := xs) (d + 4) x15 (0 : Int32) x17.2) (fun x18 => ?_)
            refine w_go K 1 (c' := (9, [some (.ref 116), some (.int x15)], [], mT x18)) rfl ?_
            exact fun a b => ih _ x18 a b
      · refine w_go K 0 (c' := (66, [some (.ref 116), o1], [], mT s)) rfl ?_
        exact fun _ b => hX _ b rfl _
def f_M_sumUp  (s : mS) : Int32 × mS := (mq_let (f_M_product s) (fun (x10 : Int32 × mS) => (if x10.1 = 0 then (0, x10.2) else (mq_let (lp_M_sumUp_9 mm_N x10.2) (fun (x19 : Option Int32 × mS) => mq_el x19.1 (fun v => (v, x19.2)) (1, x19.2))))))
def ok_M_sumUp  (s : mS) : Prop := (ok_M_product s ∧ mq_letP (f_M_product s) (fun (x10 : Int32 × mS) => (if x10.1 = 0 then True else (okl_M_sumUp_9 mm_N x10.2 ∧ mq_letP (lp_M_sumUp_9 mm_N x10.2) (fun (x19 : Option Int32 × mS) => mq_elP x19.1 True)))))
set_option maxRecDepth 4000 in
theorem t_M_sumUp {len : Nat} {xs : Nat → Int32}  (d : Nat)  (s : mS) {T : Option mm_R} (K : Int32 × mS → Prop) (hK : ∀ t, K t → some (some (.int t.1), mT t.2) = T) : ok_M_sumUp s → K (f_M_sumUp s) → mm_fix (mm_X len xs) mm_Y (mm_call (mm_X len xs) mm_Y (d + 5)) (mm_look mc_M_sumUp) (0, [some (.ref 116), none], [], mT s) = T := by
  unfold ok_M_sumUp f_M_sumUp
  refine w_go K 1 (c' := (1, [some (.ref 116), none], [.ref 116], mT s)) rfl ?_
  refine w_callL K (E := f_M_product s) (g := fun (x10 : Int32 × mS) => (some (.int x10.1), mT x10.2)) rfl (m_M_product (len := len) (xs := xs) (d + 0) s) (fun x10 => ?_)
  refine w_go K 0 (c' := (4, [some (.ref 116), none], [.int x10.1], mT x10.2)) rfl ?_
  refine w_zne K rfl (fun _ => ?_) (fun _ => ?_)
  · refine w_go K 1 (c' := (8, [some (.ref 116), none], [.int 0], mT x10.2)) rfl ?_
    exact w_ret K rfl (hK _)
  · refine w_go K 0 (c' := (9, [some (.ref 116), none], [], mT x10.2)) rfl ?_
    refine w_join K (fun (x19 : Option Int32 × mS) => (x19.1 = none → ∀ (q20 : Option Value), mm_fix (mm_X len xs) mm_Y (mm_call (mm_X len xs) mm_Y (d + 5)) (mm_look mc_M_sumUp) (66, [some (.ref 116), q20], [], mT x19.2) = T) ∧ (∀ v, x19.1 = some v → some (some (.int v), mT x19.2) = T)) (fun K hJ => tl_M_sumUp_9 (len := len) (xs := xs) d (T := T) K (fun r hr => (hJ r hr).1) (fun r hr => (hJ r hr).2) mm_N _ x10.2) (fun x19 h1 h2 => w_el K (fun v hv h => hK _ h) (fun h1 h2 q20 => ?_) h1 h2)
    revert h1 h2
    refine w_go K 1 (c' := (67, [some (.ref 116), q20], [.int 1], mT x19.2)) rfl ?_
    exact w_ret K rfl (hK _)
theorem m_M_sumUp {len : Nat} {xs : Nat → Int32}  (d : Nat)  (s : mS) : ok_M_sumUp s → mm_call (mm_X len xs) mm_Y (d + 6) 215 [.ref 116] (mT s) = some (some (.int (f_M_sumUp s).1), mT (f_M_sumUp s).2) := fun h => t_M_sumUp (len := len) (xs := xs) d s (fun t => (some (some (.int t.1), mT t.2) : Option mm_R) = some (some (.int (f_M_sumUp s).1), mT (f_M_sumUp s).2)) (fun _ h => h) h rfl
def f_M_opens  (s : mS) : Int32 × mS := (if (gI s 116 88) = 8 then (mq_let (f_M_bad (3 : Int32) s) (fun (x10 : Int32 × mS) => (x10.1, x10.2))) else (mq_let (f_M_next0 (sI s 116 88 ((gI s 116 88) + 1))) (fun (x11 : mS) => (1, x11))))
def ok_M_opens  (s : mS) : Prop := (if (gI s 116 88) = 8 then (True ∧ mq_letP (f_M_bad (3 : Int32) s) (fun (x10 : Int32 × mS) => mm_bit x10.1 = true)) else (ok_M_next0 (sI s 116 88 ((gI s 116 88) + 1)) ∧ mq_letP (f_M_next0 (sI s 116 88 ((gI s 116 88) + 1))) (fun (x11 : mS) => True)))
set_option maxRecDepth 4000 in
theorem t_M_opens {len : Nat} {xs : Nat → Int32}  (d : Nat)  (s : mS) {T : Option mm_R} (K : Int32 × mS → Prop) (hK : ∀ t, K t → some (some (.int t.1), mT t.2) = T) : ok_M_opens s → K (f_M_opens s) → mm_fix (mm_X len xs) mm_Y (mm_call (mm_X len xs) mm_Y (d + 3)) (mm_look mc_M_opens) (0, [some (.ref 116)], [], mT s) = T := by
  unfold ok_M_opens f_M_opens
  refine w_go K 3 (c' := (6, [some (.ref 116)], [.int 8, .int (gI s 116 88)], mT s)) rfl ?_
  refine w_ine K rfl (fun _ => ?_) (fun _ => ?_)
  · refine w_go K 2 (c' := (11, [some (.ref 116)], [.int 3, .ref 116], mT s)) rfl ?_
    refine w_callL K (E := f_M_bad (3 : Int32) s) (g := fun (x10 : Int32 × mS) => (some (.int x10.1), mT x10.2)) rfl (m_M_bad (len := len) (xs := xs) (d + 2) (3 : Int32) s) (fun x10 => ?_)
    refine w_go K 0 (c' := (14, [some (.ref 116)], [.int x10.1], mT x10.2)) rfl ?_
    exact w_retb K rfl (hK _)
  · refine w_go K 7 (c' := (26, [some (.ref 116)], [.ref 116], mT (sI s 116 88 ((gI s 116 88) + 1)))) rfl ?_
    refine w_callL K (E := f_M_next0 (sI s 116 88 ((gI s 116 88) + 1))) (g := fun (x11 : mS) => (none, mT x11)) rfl (m_M_next0 (len := len) (xs := xs) (d + 0) (sI s 116 88 ((gI s 116 88) + 1))) (fun x11 => ?_)
    refine w_go K 1 (c' := (30, [some (.ref 116)], [.int 1], mT x11)) rfl ?_
    exact w_ret K rfl (hK _)
theorem m_M_opens {len : Nat} {xs : Nat → Int32}  (d : Nat)  (s : mS) : ok_M_opens s → mm_call (mm_X len xs) mm_Y (d + 4) 222 [.ref 116] (mT s) = some (some (.int (f_M_opens s).1), mT (f_M_opens s).2) := fun h => t_M_opens (len := len) (xs := xs) d s (fun t => (some (some (.int t.1), mT t.2) : Option mm_R) = some (some (.int (f_M_opens s).1), mT (f_M_opens s).2)) (fun _ h => h) h rfl
def lp_M_every_9 (rf : mS → Int32 × mS) : Nat → mS → Option Int32 × mS
  | 0, s => (none, s)
  | n + 1, s => (if (gI s 116 82) = 5 then (mq_let (f_M_next0 s) (fun (x11 : mS) => (mq_let (rf x11) (fun (x12 : Int32 × mS) => (if x12.1 = 0 then (some (0 : Int32), x12.2) else (mq_let (f_M_lay (14 : Int32) (0 : Int32) x12.2) (fun (x13 : mS) => (lp_M_every_9 rf n x13)))))))) else (none, s))
def okl_M_every_9 (rf : mS → Int32 × mS) (rok : mS → Prop) : Nat → mS → Prop
  | 0, s => False
  | n + 1, s => (if (gI s 116 82) = 5 then (ok_M_next0 s ∧ mq_letP (f_M_next0 s) (fun (x11 : mS) => (rok x11 ∧ mq_letP (rf x11) (fun (x12 : Int32 × mS) => (if x12.1 = 0 then True else (ok_M_lay (14 : Int32) (0 : Int32) x12.2 ∧ mq_letP (f_M_lay (14 : Int32) (0 : Int32) x12.2) (fun (x13 : mS) => (okl_M_every_9 rf rok n x13)))))))) else True)
set_option maxRecDepth 4000 in
theorem tl_M_every_9 {len : Nat} {xs : Nat → Int32} (rf : mS → Int32 × mS) (rok : mS → Prop) (D : Nat) (hrf : ∀ (e : Nat)  (s : mS), rok  s → mm_call (mm_X len xs) mm_Y (D + e) 221 [.ref 116] (mT s) = some (some (.int (rf  s).1), mT (rf  s).2)) (d : Nat)   {T : Option mm_R} (K : Option Int32 × mS → Prop) (hX : ∀ r, K r → r.1 = none → mm_fix (mm_X len xs) mm_Y (mm_call (mm_X len xs) mm_Y (D + d + 3)) (mm_look mc_M_every) (40, [some (.ref 116)], [], mT r.2) = T) (hR : ∀ r, K r → ∀ v, r.1 = some v → some (some (.int v), mT r.2) = T) : ∀ (n : Nat), ∀ (s : mS), okl_M_every_9 rf rok n s → K (lp_M_every_9 rf n s) → mm_fix (mm_X len xs) mm_Y (mm_call (mm_X len xs) mm_Y (D + d + 3)) (mm_look mc_M_every) (9, [some (.ref 116)], [], mT s) = T := by
  intro n
  induction n with
  | zero => intro s; exact fun h => h.elim
  | succ n ih =>
    intro s
    rw [okl_M_every_9, lp_M_every_9]
    refine w_go K 3 (c' := (14, [some (.ref 116)], [.int 5, .int (gI s 116 82)], mT s)) rfl ?_
    refine w_ine K rfl (fun _ => ?_) (fun _ => ?_)
    · refine w_go K 1 (c' := (18, [some (.ref 116)], [.ref 116], mT s)) rfl ?_
      refine w_callL K (E := f_M_next0 s) (g := fun (x11 : mS) => (none, mT x11)) rfl (m_M_next0 (len := len) (xs := xs) (D + d + 0) s) (fun x11 => ?_)
      refine w_go K 1 (c' := (22, [some (.ref 116)], [.ref 116], mT x11)) rfl ?_
      refine w_callL K (E := rf x11) (g := fun (x12 : Int32 × mS) => (some (.int x12.1), mT x12.2)) rfl (hrf (d + 3) x11) (fun x12 => ?_)
      refine w_go K 0 (c' := (25, [some (.ref 116)], [.int x12.1], mT x12.2)) rfl ?_
      refine w_zne K rfl (fun _ => ?_) (fun _ => ?_)
      · refine w_go K 1 (c' := (29, [some (.ref 116)], [.int 0], mT x12.2)) rfl ?_
        exact w_ret K rfl (fun h => hR _ h _ rfl)
      · refine w_go K 3 (c' := (34, [some (.ref 116)], [.int 0, .int 14, .ref 116], mT x12.2)) rfl ?_
        refine w_callL K (E := f_M_lay (14 : Int32) (0 : Int32) x12.2) (g := fun (x13 : mS) => (none, mT x13)) rfl (m_M_lay (len := len) (xs := xs) (D + d + 2) (14 : Int32) (0 : Int32) x12.2) (fun x13 => ?_)
        refine w_go K 1 (c' := (9, [some (.ref 116)], [], mT x13)) rfl ?_
        exact fun a b => ih x13 a b
    · refine w_go K 0 (c' := (40, [some (.ref 116)], [], mT s)) rfl ?_
      exact fun _ b => hX _ b rfl
def f_M_every (rf : mS → Int32 × mS) (s : mS) : Int32 × mS := (mq_let (rf s) (fun (x10 : Int32 × mS) => (if x10.1 = 0 then (0, x10.2) else (mq_let (lp_M_every_9 rf mm_N x10.2) (fun (x14 : Option Int32 × mS) => mq_el x14.1 (fun v => (v, x14.2)) (1, x14.2))))))
def ok_M_every (rf : mS → Int32 × mS) (rok : mS → Prop) (s : mS) : Prop := (rok s ∧ mq_letP (rf s) (fun (x10 : Int32 × mS) => (if x10.1 = 0 then True else (okl_M_every_9 rf rok mm_N x10.2 ∧ mq_letP (lp_M_every_9 rf mm_N x10.2) (fun (x14 : Option Int32 × mS) => mq_elP x14.1 True)))))
set_option maxRecDepth 4000 in
theorem t_M_every {len : Nat} {xs : Nat → Int32} (rf : mS → Int32 × mS) (rok : mS → Prop) (D : Nat) (hrf : ∀ (e : Nat)  (s : mS), rok  s → mm_call (mm_X len xs) mm_Y (D + e) 221 [.ref 116] (mT s) = some (some (.int (rf  s).1), mT (rf  s).2)) (d : Nat)  (s : mS) {T : Option mm_R} (K : Int32 × mS → Prop) (hK : ∀ t, K t → some (some (.int t.1), mT t.2) = T) : ok_M_every rf rok s → K (f_M_every rf s) → mm_fix (mm_X len xs) mm_Y (mm_call (mm_X len xs) mm_Y (D + d + 3)) (mm_look mc_M_every) (0, [some (.ref 116)], [], mT s) = T := by
  unfold ok_M_every f_M_every
  refine w_go K 1 (c' := (1, [some (.ref 116)], [.ref 116], mT s)) rfl ?_
  refine w_callL K (E := rf s) (g := fun (x10 : Int32 × mS) => (some (.int x10.1), mT x10.2)) rfl (hrf (d + 3) s) (fun x10 => ?_)
  refine w_go K 0 (c' := (4, [some (.ref 116)], [.int x10.1], mT x10.2)) rfl ?_
  refine w_zne K rfl (fun _ => ?_) (fun _ => ?_)
  · refine w_go K 1 (c' := (8, [some (.ref 116)], [.int 0], mT x10.2)) rfl ?_
    exact w_ret K rfl (hK _)
  · refine w_go K 0 (c' := (9, [some (.ref 116)], [], mT x10.2)) rfl ?_
    refine w_join K (fun (x14 : Option Int32 × mS) => (x14.1 = none → mm_fix (mm_X len xs) mm_Y (mm_call (mm_X len xs) mm_Y (D + d + 3)) (mm_look mc_M_every) (40, [some (.ref 116)], [], mT x14.2) = T) ∧ (∀ v, x14.1 = some v → some (some (.int v), mT x14.2) = T)) (fun K hJ => tl_M_every_9 (len := len) (xs := xs) rf rok D hrf d (T := T) K (fun r hr => (hJ r hr).1) (fun r hr => (hJ r hr).2) mm_N x10.2) (fun x14 h1 h2 => w_el K (fun v hv h => hK _ h) (fun h1 h2 => ?_) h1 h2)
    revert h1 h2
    refine w_go K 1 (c' := (41, [some (.ref 116)], [.int 1], mT x14.2)) rfl ?_
    exact w_ret K rfl (hK _)
theorem m_M_every {len : Nat} {xs : Nat → Int32} (rf : mS → Int32 × mS) (rok : mS → Prop) (D : Nat) (hrf : ∀ (e : Nat)  (s : mS), rok  s → mm_call (mm_X len xs) mm_Y (D + e) 221 [.ref 116] (mT s) = some (some (.int (rf  s).1), mT (rf  s).2)) (d : Nat)  (s : mS) : ok_M_every rf rok s → mm_call (mm_X len xs) mm_Y (D + d + 4) 220 [.ref 116] (mT s) = some (some (.int (f_M_every rf s).1), mT (f_M_every rf s).2) := fun h => t_M_every (len := len) (xs := xs) rf rok D hrf d s (fun t => (some (some (.int t.1), mT t.2) : Option mm_R) = some (some (.int (f_M_every rf s).1), mT (f_M_every rf s).2)) (fun _ h => h) h rfl
def lp_M_any_9 (rf : mS → Int32 × mS) : Nat → mS → Option Int32 × mS
  | 0, s => (none, s)
  | n + 1, s => (if (gI s 116 82) = 4 then (mq_let (f_M_next0 s) (fun (x11 : mS) => (mq_let (f_M_every rf x11) (fun (x12 : Int32 × mS) => (if x12.1 = 0 then (some (0 : Int32), x12.2) else (mq_let (f_M_lay (15 : Int32) (0 : Int32) x12.2) (fun (x13 : mS) => (lp_M_any_9 rf n x13)))))))) else (none, s))
def okl_M_any_9 (rf : mS → Int32 × mS) (rok : mS → Prop) : Nat → mS → Prop
  | 0, s => False
  | n + 1, s => (if (gI s 116 82) = 4 then (ok_M_next0 s ∧ mq_letP (f_M_next0 s) (fun (x11 : mS) => (ok_M_every rf rok x11 ∧ mq_letP (f_M_every rf x11) (fun (x12 : Int32 × mS) => (if x12.1 = 0 then True else (ok_M_lay (15 : Int32) (0 : Int32) x12.2 ∧ mq_letP (f_M_lay (15 : Int32) (0 : Int32) x12.2) (fun (x13 : mS) => (okl_M_any_9 rf rok n x13)))))))) else True)
set_option maxRecDepth 4000 in
theorem tl_M_any_9 {len : Nat} {xs : Nat → Int32} (rf : mS → Int32 × mS) (rok : mS → Prop) (D : Nat) (hrf : ∀ (e : Nat)  (s : mS), rok  s → mm_call (mm_X len xs) mm_Y (D + e) 221 [.ref 116] (mT s) = some (some (.int (rf  s).1), mT (rf  s).2)) (d : Nat)   {T : Option mm_R} (K : Option Int32 × mS → Prop) (hX : ∀ r, K r → r.1 = none → mm_fix (mm_X len xs) mm_Y (mm_call (mm_X len xs) mm_Y (D + d + 4)) (mm_look mc_M_any) (40, [some (.ref 116)], [], mT r.2) = T) (hR : ∀ r, K r → ∀ v, r.1 = some v → some (some (.int v), mT r.2) = T) : ∀ (n : Nat), ∀ (s : mS), okl_M_any_9 rf rok n s → K (lp_M_any_9 rf n s) → mm_fix (mm_X len xs) mm_Y (mm_call (mm_X len xs) mm_Y (D + d + 4)) (mm_look mc_M_any) (9, [some (.ref 116)], [], mT s) = T := by
  intro n
  induction n with
  | zero => intro s; exact fun h => h.elim
  | succ n ih =>
    intro s
    rw [okl_M_any_9, lp_M_any_9]
    refine w_go K 3 (c' := (14, [some (.ref 116)], [.int 4, .int (gI s 116 82)], mT s)) rfl ?_
    refine w_ine K rfl (fun _ => ?_) (fun _ => ?_)
    · refine w_go K 1 (c' := (18, [some (.ref 116)], [.ref 116], mT s)) rfl ?_
      refine w_callL K (E := f_M_next0 s) (g := fun (x11 : mS) => (none, mT x11)) rfl (m_M_next0 (len := len) (xs := xs) (D + d + 1) s) (fun x11 => ?_)
      refine w_go K 1 (c' := (22, [some (.ref 116)], [.ref 116], mT x11)) rfl ?_
      refine w_callL K (E := f_M_every rf x11) (g := fun (x12 : Int32 × mS) => (some (.int x12.1), mT x12.2)) rfl (m_M_every (len := len) (xs := xs) rf rok D hrf (d + 0) x11) (fun x12 => ?_)
      refine w_go K 0 (c' := (25, [some (.ref 116)], [.int x12.1], mT x12.2)) rfl ?_
      refine w_zne K rfl (fun _ => ?_) (fun _ => ?_)
      · refine w_go K 1 (c' := (29, [some (.ref 116)], [.int 0], mT x12.2)) rfl ?_
        exact w_ret K rfl (fun h => hR _ h _ rfl)
      · refine w_go K 3 (c' := (34, [some (.ref 116)], [.int 0, .int 15, .ref 116], mT x12.2)) rfl ?_
        refine w_callL K (E := f_M_lay (15 : Int32) (0 : Int32) x12.2) (g := fun (x13 : mS) => (none, mT x13)) rfl (m_M_lay (len := len) (xs := xs) (D + d + 3) (15 : Int32) (0 : Int32) x12.2) (fun x13 => ?_)
        refine w_go K 1 (c' := (9, [some (.ref 116)], [], mT x13)) rfl ?_
        exact fun a b => ih x13 a b
    · refine w_go K 0 (c' := (40, [some (.ref 116)], [], mT s)) rfl ?_
      exact fun _ b => hX _ b rfl
def f_M_any (rf : mS → Int32 × mS) (s : mS) : Int32 × mS := (mq_let (f_M_every rf s) (fun (x10 : Int32 × mS) => (if x10.1 = 0 then (0, x10.2) else (mq_let (lp_M_any_9 rf mm_N x10.2) (fun (x14 : Option Int32 × mS) => mq_el x14.1 (fun v => (v, x14.2)) (1, x14.2))))))
def ok_M_any (rf : mS → Int32 × mS) (rok : mS → Prop) (s : mS) : Prop := (ok_M_every rf rok s ∧ mq_letP (f_M_every rf s) (fun (x10 : Int32 × mS) => (if x10.1 = 0 then True else (okl_M_any_9 rf rok mm_N x10.2 ∧ mq_letP (lp_M_any_9 rf mm_N x10.2) (fun (x14 : Option Int32 × mS) => mq_elP x14.1 True)))))
set_option maxRecDepth 4000 in
theorem t_M_any {len : Nat} {xs : Nat → Int32} (rf : mS → Int32 × mS) (rok : mS → Prop) (D : Nat) (hrf : ∀ (e : Nat)  (s : mS), rok  s → mm_call (mm_X len xs) mm_Y (D + e) 221 [.ref 116] (mT s) = some (some (.int (rf  s).1), mT (rf  s).2)) (d : Nat)  (s : mS) {T : Option mm_R} (K : Int32 × mS → Prop) (hK : ∀ t, K t → some (some (.int t.1), mT t.2) = T) : ok_M_any rf rok s → K (f_M_any rf s) → mm_fix (mm_X len xs) mm_Y (mm_call (mm_X len xs) mm_Y (D + d + 4)) (mm_look mc_M_any) (0, [some (.ref 116)], [], mT s) = T := by
  unfold ok_M_any f_M_any
  refine w_go K 1 (c' := (1, [some (.ref 116)], [.ref 116], mT s)) rfl ?_
  refine w_callL K (E := f_M_every rf s) (g := fun (x10 : Int32 × mS) => (some (.int x10.1), mT x10.2)) rfl (m_M_every (len := len) (xs := xs) rf rok D hrf (d + 0) s) (fun x10 => ?_)
  refine w_go K 0 (c' := (4, [some (.ref 116)], [.int x10.1], mT x10.2)) rfl ?_
  refine w_zne K rfl (fun _ => ?_) (fun _ => ?_)
  · refine w_go K 1 (c' := (8, [some (.ref 116)], [.int 0], mT x10.2)) rfl ?_
    exact w_ret K rfl (hK _)
  · refine w_go K 0 (c' := (9, [some (.ref 116)], [], mT x10.2)) rfl ?_
    refine w_join K (fun (x14 : Option Int32 × mS) => (x14.1 = none → mm_fix (mm_X len xs) mm_Y (mm_call (mm_X len xs) mm_Y (D + d + 4)) (mm_look mc_M_any) (40, [some (.ref 116)], [], mT x14.2) = T) ∧ (∀ v, x14.1 = some v → some (some (.int v), mT x14.2) = T)) (fun K hJ => tl_M_any_9 (len := len) (xs := xs) rf rok D hrf d (T := T) K (fun r hr => (hJ r hr).1) (fun r hr => (hJ r hr).2) mm_N x10.2) (fun x14 h1 h2 => w_el K (fun v hv h => hK _ h) (fun h1 h2 => ?_) h1 h2)
    revert h1 h2
    refine w_go K 1 (c' := (41, [some (.ref 116)], [.int 1], mT x14.2)) rfl ?_
    exact w_ret K rfl (hK _)
theorem m_M_any {len : Nat} {xs : Nat → Int32} (rf : mS → Int32 × mS) (rok : mS → Prop) (D : Nat) (hrf : ∀ (e : Nat)  (s : mS), rok  s → mm_call (mm_X len xs) mm_Y (D + e) 221 [.ref 116] (mT s) = some (some (.int (rf  s).1), mT (rf  s).2)) (d : Nat)  (s : mS) : ok_M_any rf rok s → mm_call (mm_X len xs) mm_Y (D + d + 5) 219 [.ref 116] (mT s) = some (some (.int (f_M_any rf s).1), mT (f_M_any rf s).2) := fun h => t_M_any (len := len) (xs := xs) rf rok D hrf d s (fun t => (some (some (.int t.1), mT t.2) : Option mm_R) = some (some (.int (f_M_any rf s).1), mT (f_M_any rf s).2)) (fun _ h => h) h rfl
def f_M_need (a1 : Int32) (s : mS) : Int32 × mS := (if (gI s 116 82) = a1 then (mq_let (f_M_next0 s) (fun (x10 : mS) => (1, x10))) else (mq_let (f_M_bad (1 : Int32) s) (fun (x11 : Int32 × mS) => (x11.1, x11.2))))
def ok_M_need (a1 : Int32) (s : mS) : Prop := (if (gI s 116 82) = a1 then (ok_M_next0 s ∧ mq_letP (f_M_next0 s) (fun (x10 : mS) => True)) else (True ∧ mq_letP (f_M_bad (1 : Int32) s) (fun (x11 : Int32 × mS) => mm_bit x11.1 = true)))
set_option maxRecDepth 4000 in
theorem t_M_need {len : Nat} {xs : Nat → Int32}  (d : Nat) (a1 : Int32) (s : mS) {T : Option mm_R} (K : Int32 × mS → Prop) (hK : ∀ t, K t → some (some (.int t.1), mT t.2) = T) : ok_M_need a1 s → K (f_M_need a1 s) → mm_fix (mm_X len xs) mm_Y (mm_call (mm_X len xs) mm_Y (d + 3)) (mm_look mc_M_need) (0, [some (.ref 116), some (.int a1)], [], mT s) = T := by
  unfold ok_M_need f_M_need
  refine w_go K 3 (c' := (5, [some (.ref 116), some (.int a1)], [.int a1, .int (gI s 116 82)], mT s)) rfl ?_
  refine w_ieq K rfl (fun _ => ?_) (fun _ => ?_)
  · refine w_go K 1 (c' := (15, [some (.ref 116), some (.int a1)], [.ref 116], mT s)) rfl ?_
    refine w_callL K (E := f_M_next0 s) (g := fun (x10 : mS) => (none, mT x10)) rfl (m_M_next0 (len := len) (xs := xs) (d + 0) s) (fun x10 => ?_)
    refine w_go K 1 (c' := (19, [some (.ref 116), some (.int a1)], [.int 1], mT x10)) rfl ?_
    exact w_ret K rfl (hK _)
  · refine w_go K 2 (c' := (10, [some (.ref 116), some (.int a1)], [.int 1, .ref 116], mT s)) rfl ?_
    refine w_callL K (E := f_M_bad (1 : Int32) s) (g := fun (x11 : Int32 × mS) => (some (.int x11.1), mT x11.2)) rfl (m_M_bad (len := len) (xs := xs) (d + 2) (1 : Int32) s) (fun x11 => ?_)
    refine w_go K 0 (c' := (13, [some (.ref 116), some (.int a1)], [.int x11.1], mT x11.2)) rfl ?_
    exact w_retb K rfl (hK _)
theorem m_M_need {len : Nat} {xs : Nat → Int32}  (d : Nat) (a1 : Int32) (s : mS) : ok_M_need a1 s → mm_call (mm_X len xs) mm_Y (d + 4) 223 [.ref 116, .int a1] (mT s) = some (some (.int (f_M_need a1 s).1), mT (f_M_need a1 s).2) := fun h => t_M_need (len := len) (xs := xs) d a1 s (fun t => (some (some (.int t.1), mT t.2) : Option mm_R) = some (some (.int (f_M_need a1 s).1), mT (f_M_need a1 s).2)) (fun _ h => h) h rfl
def f_M_one (rf : mS → Int32 × mS) (s : mS) : Int32 × mS := (if (gI s 116 82) = 6 then (mq_let (f_M_opens s) (fun (x10 : Int32 × mS) => (if x10.1 = 0 then (0, x10.2) else (mq_let (rf x10.2) (fun (x11 : Int32 × mS) => (if x11.1 = 0 then (0, x11.2) else (mq_let (f_M_lay (13 : Int32) (0 : Int32) (sI x11.2 116 88 ((gI x11.2 116 88) - 1))) (fun (x12 : mS) => (1, x12))))))))) else (if (gI s 116 82) = 40 then (mq_let (f_M_opens s) (fun (x13 : Int32 × mS) => (if x13.1 = 0 then (0, x13.2) else (mq_let (f_M_any rf x13.2) (fun (x14 : Int32 × mS) => (if x14.1 = 0 then (0, x14.2) else (mq_let (f_M_need (41 : Int32) x14.2) (fun (x15 : Int32 × mS) => (if x15.1 = 0 then (0, x15.2) else (1, sI x15.2 116 88 ((gI x15.2 116 88) - 1))))))))))) else (mq_let (f_M_sumUp s) (fun (x16 : Int32 × mS) => (if x16.1 = 0 then (0, x16.2) else (mq_let (if (gI x16.2 116 82) = 60 then (10 : Int32) else (if (gI x16.2 116 82) = 61 then (11 : Int32) else (if (gI x16.2 116 82) = 62 then (12 : Int32) else ((-1) : Int32)))) (fun (x17 : Int32) => (if x17 = (-1) then (mq_let (f_M_bad (1 : Int32) x16.2) (fun (x18 : Int32 × mS) => (x18.1, x18.2))) else (mq_let (f_M_next0 x16.2) (fun (x19 : mS) => (mq_let (f_M_sumUp x19) (fun (x20 : Int32 × mS) => (if x20.1 = 0 then (0, x20.2) else (mq_let (f_M_lay x17 (0 : Int32) x20.2) (fun (x21 : mS) => (1, x21))))))))))))))))
def ok_M_one (rf : mS → Int32 × mS) (rok : mS → Prop) (s : mS) : Prop := (if (gI s 116 82) = 6 then (ok_M_opens s ∧ mq_letP (f_M_opens s) (fun (x10 : Int32 × mS) => (if x10.1 = 0 then True else (rok x10.2 ∧ mq_letP (rf x10.2) (fun (x11 : Int32 × mS) => (if x11.1 = 0 then True else (ok_M_lay (13 : Int32) (0 : Int32) (sI x11.2 116 88 ((gI x11.2 116 88) - 1)) ∧ mq_letP (f_M_lay (13 : Int32) (0 : Int32) (sI x11.2 116 88 ((gI x11.2 116 88) - 1))) (fun (x12 : mS) => True)))))))) else (if (gI s 116 82) = 40 then (ok_M_opens s ∧ mq_letP (f_M_opens s) (fun (x13 : Int32 × mS) => (if x13.1 = 0 then True else (ok_M_any rf rok x13.2 ∧ mq_letP (f_M_any rf x13.2) (fun (x14 : Int32 × mS) => (if x14.1 = 0 then True else (ok_M_need (41 : Int32) x14.2 ∧ mq_letP (f_M_need (41 : Int32) x14.2) (fun (x15 : Int32 × mS) => True)))))))) else (ok_M_sumUp s ∧ mq_letP (f_M_sumUp s) (fun (x16 : Int32 × mS) => (if x16.1 = 0 then True else (True ∧ mq_letP (if (gI x16.2 116 82) = 60 then (10 : Int32) else (if (gI x16.2 116 82) = 61 then (11 : Int32) else (if (gI x16.2 116 82) = 62 then (12 : Int32) else ((-1) : Int32)))) (fun (x17 : Int32) => (if x17 = (-1) then (True ∧ mq_letP (f_M_bad (1 : Int32) x16.2) (fun (x18 : Int32 × mS) => mm_bit x18.1 = true)) else (ok_M_next0 x16.2 ∧ mq_letP (f_M_next0 x16.2) (fun (x19 : mS) => (ok_M_sumUp x19 ∧ mq_letP (f_M_sumUp x19) (fun (x20 : Int32 × mS) => (if x20.1 = 0 then True else (ok_M_lay x17 (0 : Int32) x20.2 ∧ mq_letP (f_M_lay x17 (0 : Int32) x20.2) (fun (x21 : mS) => True)))))))))))))))
set_option maxRecDepth 4000 in
theorem t_M_one {len : Nat} {xs : Nat → Int32} (rf : mS → Int32 × mS) (rok : mS → Prop) (D : Nat) (hrf : ∀ (e : Nat)  (s : mS), rok  s → mm_call (mm_X len xs) mm_Y (D + e) 221 [.ref 116] (mT s) = some (some (.int (rf  s).1), mT (rf  s).2)) (d : Nat)  (s : mS) {T : Option mm_R} (K : Int32 × mS → Prop) (hK : ∀ t, K t → some (some (.int t.1), mT t.2) = T) : ok_M_one rf rok s → K (f_M_one rf s) → mm_fix (mm_X len xs) mm_Y (mm_call (mm_X len xs) mm_Y (D + d + 6)) (mm_look mc_M_one) (0, [some (.ref 116), none], [], mT s) = T := by
  unfold ok_M_one f_M_one
  refine w_go K 3 (c' := (6, [some (.ref 116), none], [.int 6, .int (gI s 116 82)], mT s)) rfl ?_
  refine w_ine K rfl (fun _ => ?_) (fun _ => ?_)
  · refine w_go K 1 (c' := (10, [some (.ref 116), none], [.ref 116], mT s)) rfl ?_
    refine w_callL K (E := f_M_opens s) (g := fun (x10 : Int32 × mS) => (some (.int x10.1), mT x10.2)) rfl (m_M_opens (len := len) (xs := xs) (D + d + 2) s) (fun x10 => ?_)
    refine w_go K 0 (c' := (13, [some (.ref 116), none], [.int x10.1], mT x10.2)) rfl ?_
    refine w_zeq K rfl (fun _ => ?_) (fun _ => ?_)
    · refine w_go K 1 (c' := (24, [some (.ref 116), none], [.int 0], mT x10.2)) rfl ?_
      exact w_ret K rfl (hK _)
    · refine w_go K 1 (c' := (17, [some (.ref 116), none], [.ref 116], mT x10.2)) rfl ?_
      refine w_callL K (E := rf x10.2) (g := fun (x11 : Int32 × mS) => (some (.int x11.1), mT x11.2)) rfl (hrf (d + 6) x10.2) (fun x11 => ?_)
      refine w_go K 0 (c' := (20, [some (.ref 116), none], [.int x11.1], mT x11.2)) rfl ?_
      refine w_zne K rfl (fun _ => ?_) (fun _ => ?_)
      · refine w_go K 1 (c' := (24, [some (.ref 116), none], [.int 0], mT x11.2)) rfl ?_
        exact w_ret K rfl (hK _)
      · refine w_go K 9 (c' := (39, [some (.ref 116), none], [.int 0, .int 13, .ref 116], mT (sI x11.2 116 88 ((gI x11.2 116 88) - 1)))) rfl ?_
        refine w_callL K (E := f_M_lay (13 : Int32) (0 : Int32) (sI x11.2 116 88 ((gI x11.2 116 88) - 1))) (g := fun (x12 : mS) => (none, mT x12)) rfl (m_M_lay (len := len) (xs := xs) (D + d + 5) (13 : Int32) (0 : Int32) (sI x11.2 116 88 ((gI x11.2 116 88) - 1))) (fun x12 => ?_)
        refine w_go K 1 (c' := (43, [some (.ref 116), none], [.int 1], mT x12)) rfl ?_
        exact w_ret K rfl (hK _)
  · refine w_go K 3 (c' := (50, [some (.ref 116), none], [.int 40, .int (gI s 116 82)], mT s)) rfl ?_
    refine w_ine K rfl (fun _ => ?_) (fun _ => ?_)
    · refine w_go K 1 (c' := (54, [some (.ref 116), none], [.ref 116], mT s)) rfl ?_
      refine w_callL K (E := f_M_opens s) (g := fun (x13 : Int32 × mS) => (some (.int x13.1), mT x13.2)) rfl (m_M_opens (len := len) (xs := xs) (D + d + 2) s) (fun x13 => ?_)
      refine w_go K 0 (c' := (57, [some (.ref 116), none], [.int x13.1], mT x13.2)) rfl ?_
      refine w_zeq K rfl (fun _ => ?_) (fun _ => ?_)
      · refine w_go K 1 (c' := (77, [some (.ref 116), none], [.int 0], mT x13.2)) rfl ?_
        exact w_ret K rfl (hK _)
      · refine w_go K 1 (c' := (61, [some (.ref 116), none], [.ref 116], mT x13.2)) rfl ?_
        refine w_callL K (E := f_M_any rf x13.2) (g := fun (x14 : Int32 × mS) => (some (.int x14.1), mT x14.2)) rfl (m_M_any (len := len) (xs := xs) rf rok D hrf (d + 1) x13.2) (fun x14 => ?_)
        refine w_go K 0 (c' := (64, [some (.ref 116), none], [.int x14.1], mT x14.2)) rfl ?_
        refine w_zeq K rfl (fun _ => ?_) (fun _ => ?_)
        · refine w_go K 1 (c' := (77, [some (.ref 116), none], [.int 0], mT x14.2)) rfl ?_
          exact w_ret K rfl (hK _)
        · refine w_go K 2 (c' := (70, [some (.ref 116), none], [.int 41, .ref 116], mT x14.2)) rfl ?_
          refine w_callL K (E := f_M_need (41 : Int32) x14.2) (g := fun (x15 : Int32 × mS) => (some (.int x15.1), mT x15.2)) rfl (m_M_need (len := len) (xs := xs) (D + d + 2) (41 : Int32) x14.2) (fun x15 => ?_)
          refine w_go K 0 (c' := (73, [some (.ref 116), none], [.int x15.1], mT x15.2)) rfl ?_
          refine w_zneT K rfl (fun _ => ?_) (fun _ => ?_)
          · refine w_go K 1 (c' := (77, [some (.ref 116), none], [.int 0], mT x15.2)) rfl ?_
            exact w_ret K rfl (hK _)
          · refine w_go K 7 (c' := (89, [some (.ref 116), none], [.int 1], mT (sI x15.2 116 88 ((gI x15.2 116 88) - 1)))) rfl ?_
            exact w_ret K rfl (hK _)
    · refine w_go K 1 (c' := (91, [some (.ref 116), none], [.ref 116], mT s)) rfl ?_
      refine w_callL K (E := f_M_sumUp s) (g := fun (x16 : Int32 × mS) => (some (.int x16.1), mT x16.2)) rfl (m_M_sumUp (len := len) (xs := xs) (D + d + 0) s) (fun x16 => ?_)
      refine w_go K 0 (c' := (94, [some (.ref 116), none], [.int x16.1], mT x16.2)) rfl ?_
      refine w_zne K rfl (fun _ => ?_) (fun _ => ?_)
      · refine w_go K 1 (c' := (98, [some (.ref 116), none], [.int 0], mT x16.2)) rfl ?_
        exact w_ret K rfl (hK _)
      · refine w_go K 3 (c' := (105, [some (.ref 116), none], [.int 60, .int (gI x16.2 116 82)], mT x16.2)) rfl ?_
        refine w_join K (fun (x17 : Int32) => mm_fix (mm_X len xs) mm_Y (mm_call (mm_X len xs) mm_Y (D + d + 6)) (mm_look mc_M_one) (142, [some (.ref 116), none], [.int x17], mT x16.2) = T) (fun K hJ => ?_) (fun x17 h1 h2 => ?_)
        · refine w_go K 0 (c' := (105, [some (.ref 116), none], [.int 60, .int (gI x16.2 116 82)], mT x16.2)) rfl ?_
          refine w_ineT K rfl (fun _ => ?_) (fun _ => ?_)
          · refine w_go K 2 (c' := (142, [some (.ref 116), none], [.int 10], mT x16.2)) rfl ?_
            exact fun _ h => hJ _ h
          · refine w_go K 3 (c' := (119, [some (.ref 116), none], [.int 61, .int (gI x16.2 116 82)], mT x16.2)) rfl ?_
            refine w_ineT K rfl (fun _ => ?_) (fun _ => ?_)
            · refine w_go K 2 (c' := (142, [some (.ref 116), none], [.int 11], mT x16.2)) rfl ?_
              exact fun _ h => hJ _ h
            · refine w_go K 3 (c' := (133, [some (.ref 116), none], [.int 62, .int (gI x16.2 116 82)], mT x16.2)) rfl ?_
              refine w_ineT K rfl (fun _ => ?_) (fun _ => ?_)
              · refine w_go K 2 (c' := (142, [some (.ref 116), none], [.int 12], mT x16.2)) rfl ?_
                exact fun _ h => hJ _ h
              · refine w_go K 1 (c' := (142, [some (.ref 116), none], [.int (-1)], mT x16.2)) rfl ?_
                exact fun _ h => hJ _ h
        · revert h1 h2
          refine w_go K 3 (c' := (145, [some (.ref 116), some (.int x17)], [.int (-1), .int x17], mT x16.2)) rfl ?_
          refine w_ine K rfl (fun _ => ?_) (fun _ => ?_)
          · refine w_go K 2 (c' := (150, [some (.ref 116), some (.int x17)], [.int 1, .ref 116], mT x16.2)) rfl ?_
            refine w_callL K (E := f_M_bad (1 : Int32) x16.2) (g := fun (x18 : Int32 × mS) => (some (.int x18.1), mT x18.2)) rfl (m_M_bad (len := len) (xs := xs) (D + d + 5) (1 : Int32) x16.2) (fun x18 => ?_)
            refine w_go K 0 (c' := (153, [some (.ref 116), some (.int x17)], [.int x18.1], mT x18.2)) rfl ?_
            exact w_retb K rfl (hK _)
          · refine w_go K 1 (c' := (155, [some (.ref 116), some (.int x17)], [.ref 116], mT x16.2)) rfl ?_
            refine w_callL K (E := f_M_next0 x16.2) (g := fun (x19 : mS) => (none, mT x19)) rfl (m_M_next0 (len := len) (xs := xs) (D + d + 3) x16.2) (fun x19 => ?_)
            refine w_go K 1 (c' := (159, [some (.ref 116), some (.int x17)], [.ref 116], mT x19)) rfl ?_
            refine w_callL K (E := f_M_sumUp x19) (g := fun (x20 : Int32 × mS) => (some (.int x20.1), mT x20.2)) rfl (m_M_sumUp (len := len) (xs := xs) (D + d + 0) x19) (fun x20 => ?_)
            refine w_go K 0 (c' := (162, [some (.ref 116), some (.int x17)], [.int x20.1], mT x20.2)) rfl ?_
            refine w_zne K rfl (fun _ => ?_) (fun _ => ?_)
            · refine w_go K 1 (c' := (166, [some (.ref 116), some (.int x17)], [.int 0], mT x20.2)) rfl ?_
              exact w_ret K rfl (hK _)
            · refine w_go K 3 (c' := (170, [some (.ref 116), some (.int x17)], [.int 0, .int x17, .ref 116], mT x20.2)) rfl ?_
              refine w_callL K (E := f_M_lay x17 (0 : Int32) x20.2) (g := fun (x21 : mS) => (none, mT x21)) rfl (m_M_lay (len := len) (xs := xs) (D + d + 5) x17 (0 : Int32) x20.2) (fun x21 => ?_)
              refine w_go K 1 (c' := (174, [some (.ref 116), some (.int x17)], [.int 1], mT x21)) rfl ?_
              exact w_ret K rfl (hK _)
theorem m_M_one {len : Nat} {xs : Nat → Int32} (rf : mS → Int32 × mS) (rok : mS → Prop) (D : Nat) (hrf : ∀ (e : Nat)  (s : mS), rok  s → mm_call (mm_X len xs) mm_Y (D + e) 221 [.ref 116] (mT s) = some (some (.int (rf  s).1), mT (rf  s).2)) (d : Nat)  (s : mS) : ok_M_one rf rok s → mm_call (mm_X len xs) mm_Y (D + d + 7) 221 [.ref 116] (mT s) = some (some (.int (f_M_one rf s).1), mT (f_M_one rf s).2) := fun h => t_M_one (len := len) (xs := xs) rf rok D hrf d s (fun t => (some (some (.int t.1), mT t.2) : Option mm_R) = some (some (.int (f_M_one rf s).1), mT (f_M_one rf s).2)) (fun _ h => h) h rfl
def F_M_one : Nat → mS → Int32 × mS
  | 0, s => (0, s)
  | n + 1, s => f_M_one (F_M_one n) s
def OK_M_one : Nat → mS → Prop
  | 0, s => False
  | n + 1, s => ok_M_one (F_M_one n) (OK_M_one n) s
theorem M_M_one {len : Nat} {xs : Nat → Int32} : ∀ (n d : Nat)  (s : mS), OK_M_one n s → mm_call (mm_X len xs) mm_Y (n * 7 + d) 221 [.ref 116] (mT s) = some (some (.int (F_M_one n s).1), mT (F_M_one n s).2)
  | 0, _, _, h => h.elim
  | n + 1, d, s, h => by
    have e : (n + 1) * 7 + d = n * 7 + d + 7 := by omega
    rw [e]
    exact m_M_one (len := len) (xs := xs) (F_M_one n) (OK_M_one n) (n * 7) (M_M_one n) d s h
def f_M_oneT  (s : mS) : Int32 × mS := F_M_one 9 s
def ok_M_oneT  (s : mS) : Prop := OK_M_one 9 s
theorem m_M_oneT {len : Nat} {xs : Nat → Int32} (d : Nat)  (s : mS) (h : ok_M_oneT s) : mm_call (mm_X len xs) mm_Y (d + 63) 221 [.ref 116] (mT s) = some (some (.int (f_M_oneT s).1), mT (f_M_oneT s).2) := by
  have e : d + 63 = 9 * 7 + d := by omega
  rw [e]
  exact M_M_one 9 d s h
def f_M_anyT (s : mS) : Int32 × mS := f_M_any (F_M_one 9) s
def ok_M_anyT (s : mS) : Prop := ok_M_any (F_M_one 9) (OK_M_one 9) s
theorem m_M_anyT {len : Nat} {xs : Nat → Int32} (d : Nat) (s : mS) (h : ok_M_anyT s) : mm_call (mm_X len xs) mm_Y (d + 68) 219 [.ref 116] (mT s) = some (some (.int (f_M_anyT s).1), mT (f_M_anyT s).2) := by
  have e : d + 68 = 9 * 7 + d + 5 := by omega
  rw [e]
  exact m_M_any (len := len) (xs := xs) (F_M_one 9) (OK_M_one 9) (9 * 7) (M_M_one 9) d s h
