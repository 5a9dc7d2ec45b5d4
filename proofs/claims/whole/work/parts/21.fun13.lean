/-! FUNCTIONS OF METHODS, by program: f_ what it does, ok_ that no row fails, m_ the small machine does so. -/
def f_M_aLine  (s : mS) : Int32 × mS := (mq_let (f_M_isIn (gI s 116 82) (301 : Int32) (305 : Int32) s) (fun (x10 : Int32) => (if x10 = 0 then (mq_let (f_M_bad (1 : Int32) s) (fun (x11 : Int32 × mS) => (x11.1, x11.2))) else (if (gI s 116 78) = 24 then (mq_let (f_M_bad (3 : Int32) s) (fun (x12 : Int32 × mS) => (x12.1, x12.2))) else (mq_let (f_M_next0 (sI (sI (sI s 163 (ix (gI s 116 78)) ((gI s 116 82) - 301)) 164 (ix (gI s 116 78)) (gI s 116 79)) 116 88 0)) (fun (x13 : mS) => (mq_let (f_M_sumUp x13) (fun (x14 : Int32 × mS) => (if x14.1 = 0 then (0, x14.2) else (if (gI x14.2 116 82) = 3 then (mq_let (f_M_next0 (sI x14.2 165 (ix (gI s 116 78)) (gI x14.2 116 79))) (fun (x15 : mS) => (mq_let (f_M_anyT x15) (fun (x16 : Int32 × mS) => (if x16.1 = 0 then (0, x16.2) else (mq_let (f_M_need (59 : Int32) (sI x16.2 116 78 ((gI x16.2 116 78) + 1))) (fun (x17 : Int32 × mS) => (x17.1, x17.2)))))))) else (mq_let (f_M_need (59 : Int32) (sI (sI x14.2 165 (ix (gI s 116 78)) (gI x14.2 116 79)) 116 78 ((gI x14.2 116 78) + 1))) (fun (x18 : Int32 × mS) => (x18.1, x18.2)))))))))))))
def ok_M_aLine  (s : mS) : Prop := (True ∧ mq_letP (f_M_isIn (gI s 116 82) (301 : Int32) (305 : Int32) s) (fun (x10 : Int32) => (if x10 = 0 then (True ∧ mq_letP (f_M_bad (1 : Int32) s) (fun (x11 : Int32 × mS) => mm_bit x11.1 = true)) else (if (gI s 116 78) = 24 then (True ∧ mq_letP (f_M_bad (3 : Int32) s) (fun (x12 : Int32 × mS) => mm_bit x12.1 = true)) else (mm_inb (gI s 116 78) 24 = true ∧ (mm_inb (gI s 116 78) 25 = true ∧ (ok_M_next0 (sI (sI (sI s 163 (ix (gI s 116 78)) ((gI s 116 82) - 301)) 164 (ix (gI s 116 78)) (gI s 116 79)) 116 88 0) ∧ mq_letP (f_M_next0 (sI (sI (sI s 163 (ix (gI s 116 78)) ((gI s 116 82) - 301)) 164 (ix (gI s 116 78)) (gI s 116 79)) 116 88 0)) (fun (x13 : mS) => (ok_M_sumUp x13 ∧ mq_letP (f_M_sumUp x13) (fun (x14 : Int32 × mS) => (if x14.1 = 0 then True else (mm_inb (gI s 116 78) 24 = true ∧ (if (gI x14.2 116 82) = 3 then (ok_M_next0 (sI x14.2 165 (ix (gI s 116 78)) (gI x14.2 116 79)) ∧ mq_letP (f_M_next0 (sI x14.2 165 (ix (gI s 116 78)) (gI x14.2 116 79))) (fun (x15 : mS) => (ok_M_anyT x15 ∧ mq_letP (f_M_anyT x15) (fun (x16 : Int32 × mS) => (if x16.1 = 0 then True else (ok_M_need (59 : Int32) (sI x16.2 116 78 ((gI x16.2 116 78) + 1)) ∧ mq_letP (f_M_need (59 : Int32) (sI x16.2 116 78 ((gI x16.2 116 78) + 1))) (fun (x17 : Int32 × mS) => mm_bit x17.1 = true))))))) else (ok_M_need (59 : Int32) (sI (sI x14.2 165 (ix (gI s 116 78)) (gI x14.2 116 79)) 116 78 ((gI x14.2 116 78) + 1)) ∧ mq_letP (f_M_need (59 : Int32) (sI (sI x14.2 165 (ix (gI s 116 78)) (gI x14.2 116 79)) 116 78 ((gI x14.2 116 78) + 1))) (fun (x18 : Int32 × mS) => mm_bit x18.1 = true)))))))))))))))
set_option maxRecDepth 4000 in
theorem t_M_aLine {len : Nat} {xs : Nat → Int32}  (d : Nat)  (s : mS) {T : Option mm_R} (K : Int32 × mS → Prop) (hK : ∀ t, K t → some (some (.int t.1), mT t.2) = T) : ok_M_aLine s → K (f_M_aLine s) → mm_fix (mm_X len xs) mm_Y (mm_call (mm_X len xs) mm_Y (d + 68)) (mm_look mc_M_aLine) (0, [some (.ref 116), none], [], mT s) = T := by
  unfold ok_M_aLine f_M_aLine
  refine w_go K 4 (c' := (10, [some (.ref 116), none], [.int 305, .int 301, .int (gI s 116 82)], mT s)) rfl ?_
  refine w_callL K (E := f_M_isIn (gI s 116 82) (301 : Int32) (305 : Int32) s) (g := fun (x10 : Int32) => (some (.int x10), mT s)) rfl (m_M_isIn (len := len) (xs := xs) (d + 67) (gI s 116 82) (301 : Int32) (305 : Int32) s) (fun x10 => ?_)
  refine w_go K 0 (c' := (13, [some (.ref 116), none], [.int x10], mT s)) rfl ?_
  refine w_zne K rfl (fun _ => ?_) (fun _ => ?_)
  · refine w_go K 2 (c' := (18, [some (.ref 116), none], [.int 1, .ref 116], mT s)) rfl ?_
    refine w_callL K (E := f_M_bad (1 : Int32) s) (g := fun (x11 : Int32 × mS) => (some (.int x11.1), mT x11.2)) rfl (m_M_bad (len := len) (xs := xs) (d + 67) (1 : Int32) s) (fun x11 => ?_)
    refine w_go K 0 (c' := (21, [some (.ref 116), none], [.int x11.1], mT x11.2)) rfl ?_
    exact w_retb K rfl (hK _)
  · refine w_go K 3 (c' := (28, [some (.ref 116), none], [.int 24, .int (gI s 116 78)], mT s)) rfl ?_
    refine w_ine K rfl (fun _ => ?_) (fun _ => ?_)
    · refine w_go K 2 (c' := (33, [some (.ref 116), none], [.int 3, .ref 116], mT s)) rfl ?_
      refine w_callL K (E := f_M_bad (3 : Int32) s) (g := fun (x12 : Int32 × mS) => (some (.int x12.1), mT x12.2)) rfl (m_M_bad (len := len) (xs := xs) (d + 67) (3 : Int32) s) (fun x12 => ?_)
      refine w_go K 0 (c' := (36, [some (.ref 116), none], [.int x12.1], mT x12.2)) rfl ?_
      exact w_retb K rfl (hK _)
    · refine w_go K 10 (c' := (55, [some (.ref 116), some (.int (gI s 116 78))], [.int ((gI s 116 82) - 301), .int (gI s 116 78), .ref 163], mT s)) rfl ?_
      refine w_ck K (st_iS rfl rfl) ?_
      refine w_go K 5 (c' := (65, [some (.ref 116), some (.int (gI s 116 78))], [.int (gI s 116 79), .int (gI s 116 78), .ref 164], mT (sI s 163 (ix (gI s 116 78)) ((gI s 116 82) - 301)))) rfl ?_
      refine w_ck K (st_iS rfl rfl) ?_
      refine w_go K 4 (c' := (72, [some (.ref 116), some (.int (gI s 116 78))], [.ref 116], mT (sI (sI (sI s 163 (ix (gI s 116 78)) ((gI s 116 82) - 301)) 164 (ix (gI s 116 78)) (gI s 116 79)) 116 88 0))) rfl ?_
      refine w_callL K (E := f_M_next0 (sI (sI (sI s 163 (ix (gI s 116 78)) ((gI s 116 82) - 301)) 164 (ix (gI s 116 78)) (gI s 116 79)) 116 88 0)) (g := fun (x13 : mS) => (none, mT x13)) rfl (m_M_next0 (len := len) (xs := xs) (d + 65) (sI (sI (sI s 163 (ix (gI s 116 78)) ((gI s 116 82) - 301)) 164 (ix (gI s 116 78)) (gI s 116 79)) 116 88 0)) (fun x13 => ?_)
      refine w_go K 1 (c' := (76, [some (.ref 116), some (.int (gI s 116 78))], [.ref 116], mT x13)) rfl ?_
      refine w_callL K (E := f_M_sumUp x13) (g := fun (x14 : Int32 × mS) => (some (.int x14.1), mT x14.2)) rfl (m_M_sumUp (len := len) (xs := xs) (d + 62) x13) (fun x14 => ?_)
      refine w_go K 0 (c' := (79, [some (.ref 116), some (.int (gI s 116 78))], [.int x14.1], mT x14.2)) rfl ?_
      refine w_zne K rfl (fun _ => ?_) (fun _ => ?_)
      · refine w_go K 1 (c' := (83, [some (.ref 116), some (.int (gI s 116 78))], [.int 0], mT x14.2)) rfl ?_
        exact w_ret K rfl (hK _)
      · refine w_go K 5 (c' := (93, [some (.ref 116), some (.int (gI s 116 78))], [.int (gI x14.2 116 79), .int (gI s 116 78), .ref 165], mT x14.2)) rfl ?_
        refine w_ck K (st_iS rfl rfl) ?_
        refine w_go K 3 (c' := (99, [some (.ref 116), some (.int (gI s 116 78))], [.int 3, .int (gI x14.2 116 82)], mT (sI x14.2 165 (ix (gI s 116 78)) (gI x14.2 116 79)))) rfl ?_
        refine w_ine K rfl (fun _ => ?_) (fun _ => ?_)
        · refine w_go K 1 (c' := (103, [some (.ref 116), some (.int (gI s 116 78))], [.ref 116], mT (sI x14.2 165 (ix (gI s 116 78)) (gI x14.2 116 79)))) rfl ?_
          refine w_callL K (E := f_M_next0 (sI x14.2 165 (ix (gI s 116 78)) (gI x14.2 116 79))) (g := fun (x15 : mS) => (none, mT x15)) rfl (m_M_next0 (len := len) (xs := xs) (d + 65) (sI x14.2 165 (ix (gI s 116 78)) (gI x14.2 116 79))) (fun x15 => ?_)
          refine w_go K 1 (c' := (107, [some (.ref 116), some (.int (gI s 116 78))], [.ref 116], mT x15)) rfl ?_
          refine w_callL K (E := f_M_anyT x15) (g := fun (x16 : Int32 × mS) => (some (.int x16.1), mT x16.2)) rfl (m_M_anyT (len := len) (xs := xs) (d + 0) x15) (fun x16 => ?_)
          refine w_go K 0 (c' := (110, [some (.ref 116), some (.int (gI s 116 78))], [.int x16.1], mT x16.2)) rfl ?_
          refine w_zne K rfl (fun _ => ?_) (fun _ => ?_)
          · refine w_go K 1 (c' := (114, [some (.ref 116), some (.int (gI s 116 78))], [.int 0], mT x16.2)) rfl ?_
            exact w_ret K rfl (hK _)
          · refine w_go K 8 (c' := (128, [some (.ref 116), some (.int (gI s 116 78))], [.int 59, .ref 116], mT (sI x16.2 116 78 ((gI x16.2 116 78) + 1)))) rfl ?_
            refine w_callL K (E := f_M_need (59 : Int32) (sI x16.2 116 78 ((gI x16.2 116 78) + 1))) (g := fun (x17 : Int32 × mS) => (some (.int x17.1), mT x17.2)) rfl (m_M_need (len := len) (xs := xs) (d + 64) (59 : Int32) (sI x16.2 116 78 ((gI x16.2 116 78) + 1))) (fun x17 => ?_)
            refine w_go K 0 (c' := (131, [some (.ref 116), some (.int (gI s 116 78))], [.int x17.1], mT x17.2)) rfl ?_
            exact w_retb K rfl (hK _)
        · refine w_go K 8 (c' := (128, [some (.ref 116), some (.int (gI s 116 78))], [.int 59, .ref 116], mT (sI (sI x14.2 165 (ix (gI s 116 78)) (gI x14.2 116 79)) 116 78 ((gI x14.2 116 78) + 1)))) rfl ?_
          refine w_callL K (E := f_M_need (59 : Int32) (sI (sI x14.2 165 (ix (gI s 116 78)) (gI x14.2 116 79)) 116 78 ((gI x14.2 116 78) + 1))) (g := fun (x18 : Int32 × mS) => (some (.int x18.1), mT x18.2)) rfl (m_M_need (len := len) (xs := xs) (d + 64) (59 : Int32) (sI (sI x14.2 165 (ix (gI s 116 78)) (gI x14.2 116 79)) 116 78 ((gI x14.2 116 78) + 1))) (fun x18 => ?_)
          refine w_go K 0 (c' := (131, [some (.ref 116), some (.int (gI s 116 78))], [.int x18.1], mT x18.2)) rfl ?_
          exact w_retb K rfl (hK _)
theorem m_M_aLine {len : Nat} {xs : Nat → Int32}  (d : Nat)  (s : mS) : ok_M_aLine s → mm_call (mm_X len xs) mm_Y (d + 69) 213 [.ref 116] (mT s) = some (some (.int (f_M_aLine s).1), mT (f_M_aLine s).2) := fun h => t_M_aLine (len := len) (xs := xs) d s (fun t => (some (some (.int t.1), mT t.2) : Option mm_R) = some (some (.int (f_M_aLine s).1), mT (f_M_aLine s).2)) (fun _ h => h) h rfl
def lp_M_act_62 (a1 : Int32) (a2 : Int32) : Nat → Int32 → mS → Int32 × mS
  | 0, v3, s => (v3, s)
  | n + 1, v3, s => (if v3 = 0 then (v3, s) else (if (gI s 116 82) = 0 then (v3, s) else (mq_let (f_M_aLine s) (fun (x13 : Int32 × mS) => (lp_M_act_62 a1 a2 n x13.1 x13.2)))))
def okl_M_act_62 (a1 : Int32) (a2 : Int32) : Nat → Int32 → mS → Prop
  | 0, v3, s => False
  | n + 1, v3, s => (if v3 = 0 then True else (if (gI s 116 82) = 0 then True else (ok_M_aLine s ∧ mq_letP (f_M_aLine s) (fun (x13 : Int32 × mS) => (okl_M_act_62 a1 a2 n x13.1 x13.2)))))
set_option maxRecDepth 4000 in
theorem tl_M_act_62 {len : Nat} {xs : Nat → Int32}  (d : Nat) (a1 : Int32) (a2 : Int32)  {T : Option mm_R} (K : Int32 × mS → Prop) (hX : ∀ r, K r → ∀ (o4 : Option Value), mm_fix (mm_X len xs) mm_Y (mm_call (mm_X len xs) mm_Y (d + 69)) (mm_look mc_M_act) (81, [some (.ref 116), some (.int a1), some (.int a2), some (.int r.1), o4], [], mT r.2) = T) : ∀ (n : Nat), ∀ (v3 : Int32) (o4 : Option Value) (s : mS), okl_M_act_62 a1 a2 n v3 s → K (lp_M_act_62 a1 a2 n v3 s) → mm_fix (mm_X len xs) mm_Y (mm_call (mm_X len xs) mm_Y (d + 69)) (mm_look mc_M_act) (62, [some (.ref 116), some (.int a1), some (.int a2), some (.int v3), o4], [], mT s) = T := by
  intro n
  induction n with
  | zero => intro v3 o4 s; exact fun h => h.elim
  | succ n ih =>
    intro v3 o4 s
    rw [okl_M_act_62, lp_M_act_62]
    refine w_go K 1 (c' := (63, [some (.ref 116), some (.int a1), some (.int a2), some (.int v3), o4], [.int v3], mT s)) rfl ?_
    refine w_zeq K rfl (fun _ => ?_) (fun _ => ?_)
    · refine w_go K 0 (c' := (81, [some (.ref 116), some (.int a1), some (.int a2), some (.int v3), o4], [], mT s)) rfl ?_
      exact fun _ b => hX _ b _
    · refine w_go K 2 (c' := (70, [some (.ref 116), some (.int a1), some (.int a2), some (.int v3), o4], [.int (gI s 116 82)], mT s)) rfl ?_
      refine w_zeq K rfl (fun _ => ?_) (fun _ => ?_)
      · refine w_go K 0 (c' := (81, [some (.ref 116), some (.int a1), some (.int a2), some (.int v3), o4], [], mT s)) rfl ?_
        exact fun _ b => hX _ b _
      · refine w_go K 1 (c' := (74, [some (.ref 116), some (.int a1), some (.int a2), some (.int v3), o4], [.ref 116], mT s)) rfl ?_
        refine w_callL K (E := f_M_aLine s) (g := fun (x13 : Int32 × mS) => (some (.int x13.1), mT x13.2)) rfl (m_M_aLine (len := len) (xs := xs) (d + 0) s) (fun x13 => ?_)
        refine w_go K 2 (c' := (62, [some (.ref 116), some (.int a1), some (.int a2), some (.int x13.1), o4], [], mT x13.2)) rfl ?_
        exact fun a b => ih x13.1 _ x13.2 a b
def lp_M_act_136 (a1 : Int32) : Nat → Int32 → mS → Int32 × mS
  | 0, v4, s => (v4, s)
  | n + 1, v4, s => (if (gI s 116 78) ≤ v4 then (v4, s) else (lp_M_act_136 a1 n (v4 + 1) (sI (sI (sI s 159 (ix ((24 * a1) + v4)) (gI s 163 (ix v4))) 160 (ix ((25 * a1) + v4)) (gI s 164 (ix v4))) 161 (ix ((24 * a1) + v4)) (gI s 165 (ix v4)))))
def okl_M_act_136 (a1 : Int32) : Nat → Int32 → mS → Prop
  | 0, v4, s => False
  | n + 1, v4, s => (if (gI s 116 78) ≤ v4 then True else (mm_inb v4 24 = true ∧ (mm_inb ((24 * a1) + v4) 96 = true ∧ (mm_inb v4 25 = true ∧ (mm_inb ((25 * a1) + v4) 100 = true ∧ (mm_inb v4 24 = true ∧ (mm_inb ((24 * a1) + v4) 96 = true ∧ (okl_M_act_136 a1 n (v4 + 1) (sI (sI (sI s 159 (ix ((24 * a1) + v4)) (gI s 163 (ix v4))) 160 (ix ((25 * a1) + v4)) (gI s 164 (ix v4))) 161 (ix ((24 * a1) + v4)) (gI s 165 (ix v4)))))))))))
set_option maxRecDepth 4000 in
theorem tl_M_act_136 {len : Nat} {xs : Nat → Int32}  (d : Nat) (a1 : Int32)  {T : Option mm_R} (K : Int32 × mS → Prop) (hX : ∀ r, K r → ∀ (o2 : Option Value) (o3 : Option Value), mm_fix (mm_X len xs) mm_Y (mm_call (mm_X len xs) mm_Y (d + 69)) (mm_look mc_M_act) (208, [some (.ref 116), some (.int a1), o2, o3, some (.int r.1)], [], mT r.2) = T) : ∀ (n : Nat), ∀ (v4 : Int32) (o2 : Option Value) (o3 : Option Value) (s : mS), okl_M_act_136 a1 n v4 s → K (lp_M_act_136 a1 n v4 s) → mm_fix (mm_X len xs) mm_Y (mm_call (mm_X len xs) mm_Y (d + 69)) (mm_look mc_M_act) (136, [some (.ref 116), some (.int a1), o2, o3, some (.int v4)], [], mT s) = T := by
  intro n
  induction n with
  | zero => intro v4 o2 o3 s; exact fun h => h.elim
  | succ n ih =>
    intro v4 o2 o3 s
    rw [okl_M_act_136, lp_M_act_136]
    refine w_go K 3 (c' := (142, [some (.ref 116), some (.int a1), o2, o3, some (.int v4)], [.int (gI s 116 78), .int v4], mT s)) rfl ?_
    refine w_ige K rfl (fun _ => ?_) (fun _ => ?_)
    · refine w_go K 0 (c' := (208, [some (.ref 116), some (.int a1), o2, o3, some (.int v4)], [], mT s)) rfl ?_
      exact fun _ b => hX _ b _ _
    · refine w_go K 10 (c' := (162, [some (.ref 116), some (.int a1), o2, o3, some (.int v4)], [.int v4, .ref 163, .int ((24 * a1) + v4), .ref 159], mT s)) rfl ?_
      refine w_ck K (st_iL rfl rfl) ?_
      refine w_go K 0 (c' := (163, [some (.ref 116), some (.int a1), o2, o3, some (.int v4)], [.int (gI s 163 (ix v4)), .int ((24 * a1) + v4), .ref 159], mT s)) rfl ?_
      refine w_ck K (st_iS rfl rfl) ?_
      refine w_go K 10 (c' := (181, [some (.ref 116), some (.int a1), o2, o3, some (.int v4)], [.int v4, .ref 164, .int ((25 * a1) + v4), .ref 160], mT (sI s 159 (ix ((24 * a1) + v4)) (gI s 163 (ix v4))))) rfl ?_
      refine w_ck K (st_iL rfl rfl) ?_
      refine w_go K 0 (c' := (182, [some (.ref 116), some (.int a1), o2, o3, some (.int v4)], [.int (gI s 164 (ix v4)), .int ((25 * a1) + v4), .ref 160], mT (sI s 159 (ix ((24 * a1) + v4)) (gI s 163 (ix v4))))) rfl ?_
      refine w_ck K (st_iS rfl rfl) ?_
      refine w_go K 10 (c' := (200, [some (.ref 116), some (.int a1), o2, o3, some (.int v4)], [.int v4, .ref 165, .int ((24 * a1) + v4), .ref 161], mT (sI (sI s 159 (ix ((24 * a1) + v4)) (gI s 163 (ix v4))) 160 (ix ((25 * a1) + v4)) (gI s 164 (ix v4))))) rfl ?_
      refine w_ck K (st_iL rfl rfl) ?_
      refine w_go K 0 (c' := (201, [some (.ref 116), some (.int a1), o2, o3, some (.int v4)], [.int (gI s 165 (ix v4)), .int ((24 * a1) + v4), .ref 161], mT (sI (sI s 159 (ix ((24 * a1) + v4)) (gI s 163 (ix v4))) 160 (ix ((25 * a1) + v4)) (gI s 164 (ix v4))))) rfl ?_
      refine w_ck K (st_iS rfl rfl) ?_
      refine w_go K 2 (c' := (136, [some (.ref 116), some (.int a1), o2, (mm_cut o3 0), some (.int (v4 + 1))], [], mT (sI (sI (sI s 159 (ix ((24 * a1) + v4)) (gI s 163 (ix v4))) 160 (ix ((25 * a1) + v4)) (gI s 164 (ix v4))) 161 (ix ((24 * a1) + v4)) (gI s 165 (ix v4))))) rfl ?_
      exact fun a b => ih (v4 + 1) _ _ (sI (sI (sI s 159 (ix ((24 * a1) + v4)) (gI s 163 (ix v4))) 160 (ix ((25 * a1) + v4)) (gI s 164 (ix v4))) 161 (ix ((24 * a1) + v4)) (gI s 165 (ix v4))) a b
def lp_M_act_229 (a1 : Int32) : Nat → Int32 → mS → Int32 × mS
  | 0, v4, s => (v4, s)
  | n + 1, v4, s => (if (2 * (gI s 116 79)) ≤ v4 then (v4, s) else (lp_M_act_229 a1 n (v4 + 1) (sI s 162 (ix ((1220 * a1) + v4)) (gI s 166 (ix v4)))))
def okl_M_act_229 (a1 : Int32) : Nat → Int32 → mS → Prop
  | 0, v4, s => False
  | n + 1, v4, s => (if (2 * (gI s 116 79)) ≤ v4 then True else (mm_inb v4 1220 = true ∧ (mm_inb ((1220 * a1) + v4) 4880 = true ∧ (okl_M_act_229 a1 n (v4 + 1) (sI s 162 (ix ((1220 * a1) + v4)) (gI s 166 (ix v4)))))))
set_option maxRecDepth 4000 in
theorem tl_M_act_229 {len : Nat} {xs : Nat → Int32}  (d : Nat) (a1 : Int32)  {T : Option mm_R} (K : Int32 × mS → Prop) (hX : ∀ r, K r → ∀ (o2 : Option Value) (o3 : Option Value), mm_fix (mm_X len xs) mm_Y (mm_call (mm_X len xs) mm_Y (d + 69)) (mm_look mc_M_act) (266, [some (.ref 116), some (.int a1), o2, o3, some (.int r.1)], [], mT r.2) = T) : ∀ (n : Nat), ∀ (v4 : Int32) (o2 : Option Value) (o3 : Option Value) (s : mS), okl_M_act_229 a1 n v4 s → K (lp_M_act_229 a1 n v4 s) → mm_fix (mm_X len xs) mm_Y (mm_call (mm_X len xs) mm_Y (d + 69)) (mm_look mc_M_act) (229, [some (.ref 116), some (.int a1), o2, o3, some (.int v4)], [], mT s) = T := by
  intro n
  induction n with
  | zero => intro v4 o2 o3 s; exact fun h => h.elim
  | succ n ih =>
    intro v4 o2 o3 s
    rw [okl_M_act_229, lp_M_act_229]
    refine w_go K 5 (c' := (237, [some (.ref 116), some (.int a1), o2, o3, some (.int v4)], [.int (2 * (gI s 116 79)), .int v4], mT s)) rfl ?_
    refine w_ige K rfl (fun _ => ?_) (fun _ => ?_)
    · refine w_go K 0 (c' := (266, [some (.ref 116), some (.int a1), o2, o3, some (.int v4)], [], mT s)) rfl ?_
      exact fun _ b => hX _ b _ _
    · refine w_go K 10 (c' := (258, [some (.ref 116), some (.int a1), o2, o3, some (.int v4)], [.int v4, .ref 166, .int ((1220 * a1) + v4), .ref 162], mT s)) rfl ?_
      refine w_ck K (st_iL rfl rfl) ?_
      refine w_go K 0 (c' := (259, [some (.ref 116), some (.int a1), o2, o3, some (.int v4)], [.int (gI s 166 (ix v4)), .int ((1220 * a1) + v4), .ref 162], mT s)) rfl ?_
      refine w_ck K (st_iS rfl rfl) ?_
      refine w_go K 2 (c' := (229, [some (.ref 116), some (.int a1), o2, (mm_cut o3 0), some (.int (v4 + 1))], [], mT (sI s 162 (ix ((1220 * a1) + v4)) (gI s 166 (ix v4))))) rfl ?_
      exact fun a b => ih (v4 + 1) _ _ (sI s 162 (ix ((1220 * a1) + v4)) (gI s 166 (ix v4))) a b
def f_M_act (a1 : Int32) (a2 : Int32) (s : mS) : Int32 × mS := (mq_let (f_M_isIn a1 (0 : Int32) (3 : Int32) (sI (sI s 116 87 0) 116 89 (-1))) (fun (x10 : Int32) => (if x10 = 0 then ((-1), sI (sI (sI s 116 87 0) 116 89 (-1)) 116 80 0) else (mq_let (f_M_isIn a2 (0 : Int32) (41 : Int32) (sI (sI s 116 87 0) 116 89 (-1))) (fun (x11 : Int32) => (if x11 = 0 then ((-1), sI (sI (sI s 116 87 0) 116 89 (-1)) 116 80 0) else (mq_let (f_M_next0 (sI (sI (sI (sI (sI (sI s 116 87 0) 116 89 (-1)) 116 85 0) 116 81 0) 116 78 0) 116 79 0)) (fun (x12 : mS) => (mq_let (lp_M_act_62 a1 a2 mm_N (1 : Int32) x12) (fun (x14 : Int32 × mS) => (mq_let (if x14.1 = 0 then (gI x14.2 116 86) else ((-1) : Int32)) (fun (x16 : Int32) => (if x14.1 = 0 then ((-1), sI (sI (sI x14.2 116 80 0) 116 87 (gI x14.2 116 85)) 116 89 x16) else (mq_let (lp_M_act_136 a1 mm_N (0 : Int32) (sI (sI (sI (sI (sI x14.2 116 80 0) 116 87 (gI x14.2 116 85)) 116 89 x16) 157 (ix a1) a2) 158 (ix a1) (gI x14.2 116 78))) (fun (x17 : Int32 × mS) => (mq_let (lp_M_act_229 a1 mm_N (0 : Int32) (sI x17.2 160 (ix ((25 * a1) + (gI x17.2 116 78))) (gI x17.2 116 79))) (fun (x20 : Int32 × mS) => ((gI x20.2 116 78), x20.2))))))))))))))))))
def ok_M_act (a1 : Int32) (a2 : Int32) (s : mS) : Prop := (True ∧ mq_letP (f_M_isIn a1 (0 : Int32) (3 : Int32) (sI (sI s 116 87 0) 116 89 (-1))) (fun (x10 : Int32) => (if x10 = 0 then True else (True ∧ mq_letP (f_M_isIn a2 (0 : Int32) (41 : Int32) (sI (sI s 116 87 0) 116 89 (-1))) (fun (x11 : Int32) => (if x11 = 0 then True else (ok_M_next0 (sI (sI (sI (sI (sI (sI s 116 87 0) 116 89 (-1)) 116 85 0) 116 81 0) 116 78 0) 116 79 0) ∧ mq_letP (f_M_next0 (sI (sI (sI (sI (sI (sI s 116 87 0) 116 89 (-1)) 116 85 0) 116 81 0) 116 78 0) 116 79 0)) (fun (x12 : mS) => (okl_M_act_62 a1 a2 mm_N (1 : Int32) x12 ∧ mq_letP (lp_M_act_62 a1 a2 mm_N (1 : Int32) x12) (fun (x14 : Int32 × mS) => (True ∧ mq_letP (if x14.1 = 0 then (gI x14.2 116 86) else ((-1) : Int32)) (fun (x16 : Int32) => (if x14.1 = 0 then True else (mm_inb a1 4 = true ∧ (mm_inb a1 4 = true ∧ (okl_M_act_136 a1 mm_N (0 : Int32) (sI (sI (sI (sI (sI x14.2 116 80 0) 116 87 (gI x14.2 116 85)) 116 89 x16) 157 (ix a1) a2) 158 (ix a1) (gI x14.2 116 78)) ∧ mq_letP (lp_M_act_136 a1 mm_N (0 : Int32) (sI (sI (sI (sI (sI x14.2 116 80 0) 116 87 (gI x14.2 116 85)) 116 89 x16) 157 (ix a1) a2) 158 (ix a1) (gI x14.2 116 78))) (fun (x17 : Int32 × mS) => (mm_inb ((25 * a1) + (gI x17.2 116 78)) 100 = true ∧ (okl_M_act_229 a1 mm_N (0 : Int32) (sI x17.2 160 (ix ((25 * a1) + (gI x17.2 116 78))) (gI x17.2 116 79)) ∧ mq_letP (lp_M_act_229 a1 mm_N (0 : Int32) (sI x17.2 160 (ix ((25 * a1) + (gI x17.2 116 78))) (gI x17.2 116 79))) (fun (x20 : Int32 × mS) => True))))))))))))))))))))
set_option maxRecDepth 4000 in
theorem t_M_act {len : Nat} {xs : Nat → Int32}  (d : Nat) (a1 : Int32) (a2 : Int32) (s : mS) {T : Option mm_R} (K : Int32 × mS → Prop) (hK : ∀ t, K t → some (some (.int t.1), mT t.2) = T) : ok_M_act a1 a2 s → K (f_M_act a1 a2 s) → mm_fix (mm_X len xs) mm_Y (mm_call (mm_X len xs) mm_Y (d + 69)) (mm_look mc_M_act) (0, [some (.ref 116), some (.int a1), some (.int a2), none, none], [], mT s) = T := by
  unfold ok_M_act f_M_act
  refine w_go K 9 (c' := (13, [some (.ref 116), some (.int a1), some (.int a2), none, none], [.int 3, .int 0, .int a1], mT (sI (sI s 116 87 0) 116 89 (-1)))) rfl ?_
  refine w_callL K (E := f_M_isIn a1 (0 : Int32) (3 : Int32) (sI (sI s 116 87 0) 116 89 (-1))) (g := fun (x10 : Int32) => (some (.int x10), mT (sI (sI s 116 87 0) 116 89 (-1)))) rfl (m_M_isIn (len := len) (xs := xs) (d + 68) a1 (0 : Int32) (3 : Int32) (sI (sI s 116 87 0) 116 89 (-1))) (fun x10 => ?_)
  refine w_go K 0 (c' := (16, [some (.ref 116), some (.int a1), some (.int a2), none, none], [.int x10], mT (sI (sI s 116 87 0) 116 89 (-1)))) rfl ?_
  refine w_zeq K rfl (fun _ => ?_) (fun _ => ?_)
  · refine w_go K 4 (c' := (35, [some (.ref 116), some (.int a1), some (.int a2), none, none], [.int (-1)], mT (sI (sI (sI s 116 87 0) 116 89 (-1)) 116 80 0))) rfl ?_
    exact w_ret K rfl (hK _)
  · refine w_go K 3 (c' := (23, [some (.ref 116), some (.int a1), some (.int a2), none, none], [.int 41, .int 0, .int a2], mT (sI (sI s 116 87 0) 116 89 (-1)))) rfl ?_
    refine w_callL K (E := f_M_isIn a2 (0 : Int32) (41 : Int32) (sI (sI s 116 87 0) 116 89 (-1))) (g := fun (x11 : Int32) => (some (.int x11), mT (sI (sI s 116 87 0) 116 89 (-1)))) rfl (m_M_isIn (len := len) (xs := xs) (d + 68) a2 (0 : Int32) (41 : Int32) (sI (sI s 116 87 0) 116 89 (-1))) (fun x11 => ?_)
    refine w_go K 0 (c' := (26, [some (.ref 116), some (.int a1), some (.int a2), none, none], [.int x11], mT (sI (sI s 116 87 0) 116 89 (-1)))) rfl ?_
    refine w_zne K rfl (fun _ => ?_) (fun _ => ?_)
    · refine w_go K 4 (c' := (35, [some (.ref 116), some (.int a1), some (.int a2), none, none], [.int (-1)], mT (sI (sI (sI s 116 87 0) 116 89 (-1)) 116 80 0))) rfl ?_
      exact w_ret K rfl (hK _)
    · refine w_go K 13 (c' := (57, [some (.ref 116), some (.int a1), some (.int a2), none, none], [.ref 116], mT (sI (sI (sI (sI (sI (sI s 116 87 0) 116 89 (-1)) 116 85 0) 116 81 0) 116 78 0) 116 79 0))) rfl ?_
      refine w_callL K (E := f_M_next0 (sI (sI (sI (sI (sI (sI s 116 87 0) 116 89 (-1)) 116 85 0) 116 81 0) 116 78 0) 116 79 0)) (g := fun (x12 : mS) => (none, mT x12)) rfl (m_M_next0 (len := len) (xs := xs) (d + 66) (sI (sI (sI (sI (sI (sI s 116 87 0) 116 89 (-1)) 116 85 0) 116 81 0) 116 78 0) 116 79 0)) (fun x12 => ?_)
      refine w_go K 2 (c' := (62, [some (.ref 116), some (.int a1), some (.int a2), some (.int 1), none], [], mT x12)) rfl ?_
      refine w_join K (fun (x14 : Int32 × mS) => ∀ (q15 : Option Value), mm_fix (mm_X len xs) mm_Y (mm_call (mm_X len xs) mm_Y (d + 69)) (mm_look mc_M_act) (81, [some (.ref 116), some (.int a1), some (.int a2), some (.int x14.1), q15], [], mT x14.2) = T) (fun K hJ => tl_M_act_62 (len := len) (xs := xs) d a1 a2 (T := T) K hJ mm_N (1 : Int32) _ x12) (fun x14 h1 h2 q15 => ?_)
      revert h1 h2
      refine w_go K 9 (c' := (96, [some (.ref 116), some (.int a1), some (.int a2), some (.int x14.1), q15], [.int x14.1, .ref 116], mT (sI (sI x14.2 116 80 0) 116 87 (gI x14.2 116 85)))) rfl ?_
      refine w_join K (fun (x16 : Int32) => mm_fix (mm_X len xs) mm_Y (mm_call (mm_X len xs) mm_Y (d + 69)) (mm_look mc_M_act) (107, [some (.ref 116), some (.int a1), some (.int a2), some (.int x14.1), q15], [.int x16, .ref 116], mT (sI (sI x14.2 116 80 0) 116 87 (gI x14.2 116 85))) = T) (fun K hJ => ?_) (fun x16 h1 h2 => ?_)
      · refine w_go K 0 (c' := (96, [some (.ref 116), some (.int a1), some (.int a2), some (.int x14.1), q15], [.int x14.1, .ref 116], mT (sI (sI x14.2 116 80 0) 116 87 (gI x14.2 116 85)))) rfl ?_
        refine w_zeqT K rfl (fun _ => ?_) (fun _ => ?_)
        · refine w_go K 2 (c' := (107, [some (.ref 116), some (.int a1), some (.int a2), some (.int x14.1), q15], [.int (gI x14.2 116 86), .ref 116], mT (sI (sI x14.2 116 80 0) 116 87 (gI x14.2 116 85)))) rfl ?_
          exact fun _ h => hJ _ h
        · refine w_go K 2 (c' := (107, [some (.ref 116), some (.int a1), some (.int a2), some (.int x14.1), q15], [.int (-1), .ref 116], mT (sI (sI x14.2 116 80 0) 116 87 (gI x14.2 116 85)))) rfl ?_
          exact fun _ h => hJ _ h
      · revert h1 h2
        refine w_go K 2 (c' := (111, [some (.ref 116), some (.int a1), some (.int a2), some (.int x14.1), q15], [.int x14.1], mT (sI (sI (sI x14.2 116 80 0) 116 87 (gI x14.2 116 85)) 116 89 x16))) rfl ?_
        refine w_zne K rfl (fun _ => ?_) (fun _ => ?_)
        · refine w_go K 1 (c' := (115, [some (.ref 116), some (.int a1), some (.int a2), some (.int x14.1), q15], [.int (-1)], mT (sI (sI (sI x14.2 116 80 0) 116 87 (gI x14.2 116 85)) 116 89 x16))) rfl ?_
          exact w_ret K rfl (hK _)
        · refine w_go K 4 (c' := (122, [some (.ref 116), some (.int a1), some (.int a2), some (.int x14.1), q15], [.int a2, .int a1, .ref 157], mT (sI (sI (sI x14.2 116 80 0) 116 87 (gI x14.2 116 85)) 116 89 x16))) rfl ?_
          refine w_ck K (st_iS rfl rfl) ?_
          refine w_go K 5 (c' := (132, [some (.ref 116), some (.int a1), some (.int a2), some (.int x14.1), q15], [.int (gI x14.2 116 78), .int a1, .ref 158], mT (sI (sI (sI (sI x14.2 116 80 0) 116 87 (gI x14.2 116 85)) 116 89 x16) 157 (ix a1) a2))) rfl ?_
          refine w_ck K (st_iS rfl rfl) ?_
          refine w_go K 2 (c' := (136, [some (.ref 116), some (.int a1), some (.int a2), some (.int x14.1), some (.int 0)], [], mT (sI (sI (sI (sI (sI x14.2 116 80 0) 116 87 (gI x14.2 116 85)) 116 89 x16) 157 (ix a1) a2) 158 (ix a1) (gI x14.2 116 78)))) rfl ?_
          refine w_join K (fun (x17 : Int32 × mS) => ∀ (q18 : Option Value) (q19 : Option Value), mm_fix (mm_X len xs) mm_Y (mm_call (mm_X len xs) mm_Y (d + 69)) (mm_look mc_M_act) (208, [some (.ref 116), some (.int a1), q18, q19, some (.int x17.1)], [], mT x17.2) = T) (fun K hJ => tl_M_act_136 (len := len) (xs := xs) d a1 (T := T) K hJ mm_N (0 : Int32) _ _ (sI (sI (sI (sI (sI x14.2 116 80 0) 116 87 (gI x14.2 116 85)) 116 89 x16) 157 (ix a1) a2) 158 (ix a1) (gI x14.2 116 78))) (fun x17 h1 h2 q18 q19 => ?_)
          revert h1 h2
          refine w_go K 10 (c' := (225, [some (.ref 116), some (.int a1), q18, q19, some (.int x17.1)], [.int (gI x17.2 116 79), .int ((25 * a1) + (gI x17.2 116 78)), .ref 160], mT x17.2)) rfl ?_
          refine w_ck K (st_iS rfl rfl) ?_
          refine w_go K 2 (c' := (229, [some (.ref 116), some (.int a1), q18, (mm_cut q19 0), some (.int 0)], [], mT (sI x17.2 160 (ix ((25 * a1) + (gI x17.2 116 78))) (gI x17.2 116 79)))) rfl ?_
          refine w_join K (fun (x20 : Int32 × mS) => ∀ (q21 : Option Value) (q22 : Option Value), mm_fix (mm_X len xs) mm_Y (mm_call (mm_X len xs) mm_Y (d + 69)) (mm_look mc_M_act) (266, [some (.ref 116), some (.int a1), q21, q22, some (.int x20.1)], [], mT x20.2) = T) (fun K hJ => tl_M_act_229 (len := len) (xs := xs) d a1 (T := T) K hJ mm_N (0 : Int32) _ _ (sI x17.2 160 (ix ((25 * a1) + (gI x17.2 116 78))) (gI x17.2 116 79))) (fun x20 h1 h2 q21 q22 => ?_)
          revert h1 h2
          refine w_go K 2 (c' := (270, [some (.ref 116), some (.int a1), q21, q22, some (.int x20.1)], [.int (gI x20.2 116 78)], mT x20.2)) rfl ?_
          exact w_ret K rfl (hK _)
theorem m_M_act {len : Nat} {xs : Nat → Int32}  (d : Nat) (a1 : Int32) (a2 : Int32) (s : mS) : ok_M_act a1 a2 s → mm_call (mm_X len xs) mm_Y (d + 70) 206 [.ref 116, .int a1, .int a2] (mT s) = some (some (.int (f_M_act a1 a2 s).1), mT (f_M_act a1 a2 s).2) := fun h => t_M_act (len := len) (xs := xs) d a1 a2 s (fun t => (some (some (.int t.1), mT t.2) : Option mm_R) = some (some (.int (f_M_act a1 a2 s).1), mT (f_M_act a1 a2 s).2)) (fun _ h => h) h rfl
def f_G_fault (a1 : Int32) (s : mS) : Int32 := (if a1 = 0 then (gI s 36 6) else (if a1 = 1 then (gI s 36 7) else (-1)))
set_option maxRecDepth 4000 in
theorem t_G_fault {len : Nat} {xs : Nat → Int32}  (d : Nat) (a1 : Int32) (s : mS) {T : Option mm_R} (K : Int32 → Prop) (hK : ∀ t, K t → some (some (.int t), mT s) = T) : True → K (f_G_fault a1 s) → mm_fix (mm_X len xs) mm_Y (mm_call (mm_X len xs) mm_Y (d + 0)) (mm_look mc_G_fault) (0, [some (.ref 0), some (.int a1)], [], mT s) = T := by
  unfold f_G_fault
  refine w_go K 1 (c' := (1, [some (.ref 0), some (.int a1)], [.int a1], mT s)) rfl ?_
  refine w_go K 1 (c' := (mm_sw [(0, 28), (1, 36)] 44 a1, [some (.ref 0), some (.int a1)], [], mT s)) rfl ?_
  refine w_swT K (fun _ => ?_) (fun _ => ?_)
  · refine w_go K 3 (c' := (35, [some (.ref 0), some (.int a1)], [.int (gI s 36 6)], mT s)) rfl ?_
    exact w_ret K rfl (hK _)
  · refine w_swT K (fun _ => ?_) (fun _ => ?_)
    · refine w_go K 3 (c' := (43, [some (.ref 0), some (.int a1)], [.int (gI s 36 7)], mT s)) rfl ?_
      exact w_ret K rfl (hK _)
    · refine w_go K 0 (c' := (44, [some (.ref 0), some (.int a1)], [], mT s)) rfl ?_
      refine w_go K 1 (c' := (45, [some (.ref 0), some (.int a1)], [.int (-1)], mT s)) rfl ?_
      exact w_ret K rfl (hK _)
theorem m_G_fault {len : Nat} {xs : Nat → Int32}  (d : Nat) (a1 : Int32) (s : mS) : True → mm_call (mm_X len xs) mm_Y (d + 1) 115 [.ref 0, .int a1] (mT s) = some (some (.int (f_G_fault a1 s)), mT s) := fun h => t_G_fault (len := len) (xs := xs) d a1 s (fun t => (some (some (.int t), mT s) : Option mm_R) = some (some (.int (f_G_fault a1 s)), mT s)) (fun _ h => h) h rfl
def f_M_fault (a1 : Int32) (s : mS) : Int32 := (if a1 = 0 then (gI s 116 87) else (if a1 = 1 then (gI s 116 89) else (-1)))
set_option maxRecDepth 4000 in
theorem t_M_fault {len : Nat} {xs : Nat → Int32}  (d : Nat) (a1 : Int32) (s : mS) {T : Option mm_R} (K : Int32 → Prop) (hK : ∀ t, K t → some (some (.int t), mT s) = T) : True → K (f_M_fault a1 s) → mm_fix (mm_X len xs) mm_Y (mm_call (mm_X len xs) mm_Y (d + 0)) (mm_look mc_M_fault) (0, [some (.ref 116), some (.int a1)], [], mT s) = T := by
  unfold f_M_fault
  refine w_go K 1 (c' := (1, [some (.ref 116), some (.int a1)], [.int a1], mT s)) rfl ?_
  refine w_zneT K rfl (fun _ => ?_) (fun _ => ?_)
  · refine w_go K 3 (c' := (24, [some (.ref 116), some (.int a1)], [.int (gI s 116 87)], mT s)) rfl ?_
    exact w_ret K rfl (hK _)
  · refine w_go K 2 (c' := (13, [some (.ref 116), some (.int a1)], [.int 1, .int a1], mT s)) rfl ?_
    refine w_ineT K rfl (fun _ => ?_) (fun _ => ?_)
    · refine w_go K 3 (c' := (24, [some (.ref 116), some (.int a1)], [.int (gI s 116 89)], mT s)) rfl ?_
      exact w_ret K rfl (hK _)
    · refine w_go K 1 (c' := (24, [some (.ref 116), some (.int a1)], [.int (-1)], mT s)) rfl ?_
      exact w_ret K rfl (hK _)
theorem m_M_fault {len : Nat} {xs : Nat → Int32}  (d : Nat) (a1 : Int32) (s : mS) : True → mm_call (mm_X len xs) mm_Y (d + 1) 224 [.ref 116, .int a1] (mT s) = some (some (.int (f_M_fault a1 s)), mT s) := fun h => t_M_fault (len := len) (xs := xs) d a1 s (fun t => (some (some (.int t), mT s) : Option mm_R) = some (some (.int (f_M_fault a1 s)), mT s)) (fun _ h => h) h rfl
def f_G_due (a1 : Int32) (a2 : Int32) (a3 : Int32) (a4 : Int32) (s : mS) : Int32 × mS := (mq_let (f_G_within a1 (0 : Int32) (4 : Int32) s) (fun (x10 : Int32) => (if x10 = 0 then ((-1), s) else (mq_let (f_G_within a2 (0 : Int32) (3999 : Int32) s) (fun (x11 : Int32) => (if x11 = 0 then ((-1), s) else (mq_let (f_Laws_judge a1 a2 a3 s) (fun (x12 : mS) => (if a4 = 0 then ((gI x12 36 8), x12) else (if a4 = 1 then ((gI x12 36 9), x12) else (if a4 = 2 then (if (gI x12 36 3) = 0 then (0, x12) else (1, x12)) else ((-1), x12))))))))))))
def ok_G_due (a1 : Int32) (a2 : Int32) (a3 : Int32) (a4 : Int32) (s : mS) : Prop := (True ∧ mq_letP (f_G_within a1 (0 : Int32) (4 : Int32) s) (fun (x10 : Int32) => (if x10 = 0 then True else (True ∧ mq_letP (f_G_within a2 (0 : Int32) (3999 : Int32) s) (fun (x11 : Int32) => (if x11 = 0 then True else (ok_Laws_judge a1 a2 a3 s ∧ mq_letP (f_Laws_judge a1 a2 a3 s) (fun (x12 : mS) => True))))))))
set_option maxRecDepth 4000 in
theorem t_G_due {len : Nat} {xs : Nat → Int32}  (d : Nat) (a1 : Int32) (a2 : Int32) (a3 : Int32) (a4 : Int32) (s : mS) {T : Option mm_R} (K : Int32 × mS → Prop) (hK : ∀ t, K t → some (some (.int t.1), mT t.2) = T) : ok_G_due a1 a2 a3 a4 s → K (f_G_due a1 a2 a3 a4 s) → mm_fix (mm_X len xs) mm_Y (mm_call (mm_X len xs) mm_Y (d + 5)) (mm_look mc_G_due) (0, [some (.ref 0), some (.int a1), some (.int a2), some (.int a3), some (.int a4)], [], mT s) = T := by
  unfold ok_G_due f_G_due
  refine w_go K 3 (c' := (3, [some (.ref 0), some (.int a1), some (.int a2), some (.int a3), some (.int a4)], [.int 4, .int 0, .int a1], mT s)) rfl ?_
  refine w_callL K (E := f_G_within a1 (0 : Int32) (4 : Int32) s) (g := fun (x10 : Int32) => (some (.int x10), mT s)) rfl (m_G_within (len := len) (xs := xs) (d + 4) a1 (0 : Int32) (4 : Int32) s) (fun x10 => ?_)
  refine w_go K 0 (c' := (6, [some (.ref 0), some (.int a1), some (.int a2), some (.int a3), some (.int a4)], [.int x10], mT s)) rfl ?_
  refine w_zeq K rfl (fun _ => ?_) (fun _ => ?_)
  · refine w_go K 1 (c' := (21, [some (.ref 0), some (.int a1), some (.int a2), some (.int a3), some (.int a4)], [.int (-1)], mT s)) rfl ?_
    exact w_ret K rfl (hK _)
  · refine w_go K 3 (c' := (14, [some (.ref 0), some (.int a1), some (.int a2), some (.int a3), some (.int a4)], [.int 3999, .int 0, .int a2], mT s)) rfl ?_
    refine w_callL K (E := f_G_within a2 (0 : Int32) (3999 : Int32) s) (g := fun (x11 : Int32) => (some (.int x11), mT s)) rfl (m_G_within (len := len) (xs := xs) (d + 4) a2 (0 : Int32) (3999 : Int32) s) (fun x11 => ?_)
    refine w_go K 0 (c' := (17, [some (.ref 0), some (.int a1), some (.int a2), some (.int a3), some (.int a4)], [.int x11], mT s)) rfl ?_
    refine w_zne K rfl (fun _ => ?_) (fun _ => ?_)
    · refine w_go K 1 (c' := (21, [some (.ref 0), some (.int a1), some (.int a2), some (.int a3), some (.int a4)], [.int (-1)], mT s)) rfl ?_
      exact w_ret K rfl (hK _)
    · refine w_go K 7 (c' := (33, [some (.ref 0), some (.int a1), some (.int a2), some (.int a3), some (.int a4)], [.ref 1, .int a3, .int a2, .int a1, .ref 36], mT s)) rfl ?_
      refine w_callL K (E := f_Laws_judge a1 a2 a3 s) (g := fun (x12 : mS) => (none, mT x12)) rfl (m_Laws_judge (len := len) (xs := xs) (d + 0) a1 a2 a3 s) (fun x12 => ?_)
      refine w_go K 1 (c' := (38, [some (.ref 0), some (.int a1), some (.int a2), some (.int a3), some (.int a4)], [.int a4], mT x12)) rfl ?_
      refine w_go K 1 (c' := (mm_sw [(0, 64), (1, 72), (2, 80)] 96 a4, [some (.ref 0), some (.int a1), some (.int a2), some (.int a3), some (.int a4)], [], mT x12)) rfl ?_
      refine w_swT K (fun _ => ?_) (fun _ => ?_)
      · refine w_go K 3 (c' := (71, [some (.ref 0), some (.int a1), some (.int a2), some (.int a3), some (.int a4)], [.int (gI x12 36 8)], mT x12)) rfl ?_
        exact w_ret K rfl (hK _)
      · refine w_swT K (fun _ => ?_) (fun _ => ?_)
        · refine w_go K 3 (c' := (79, [some (.ref 0), some (.int a1), some (.int a2), some (.int a3), some (.int a4)], [.int (gI x12 36 9)], mT x12)) rfl ?_
          exact w_ret K rfl (hK _)
        · refine w_swT K (fun _ => ?_) (fun _ => ?_)
          · refine w_go K 3 (c' := (87, [some (.ref 0), some (.int a1), some (.int a2), some (.int a3), some (.int a4)], [.int (gI x12 36 3)], mT x12)) rfl ?_
            refine w_zeqT K rfl (fun _ => ?_) (fun _ => ?_)
            · refine w_go K 1 (c' := (95, [some (.ref 0), some (.int a1), some (.int a2), some (.int a3), some (.int a4)], [.int 0], mT x12)) rfl ?_
              exact w_ret K rfl (hK _)
            · refine w_go K 2 (c' := (95, [some (.ref 0), some (.int a1), some (.int a2), some (.int a3), some (.int a4)], [.int 1], mT x12)) rfl ?_
              exact w_ret K rfl (hK _)
          · refine w_go K 0 (c' := (96, [some (.ref 0), some (.int a1), some (.int a2), some (.int a3), some (.int a4)], [], mT x12)) rfl ?_
            refine w_go K 1 (c' := (97, [some (.ref 0), some (.int a1), some (.int a2), some (.int a3), some (.int a4)], [.int (-1)], mT x12)) rfl ?_
            exact w_ret K rfl (hK _)
theorem m_G_due {len : Nat} {xs : Nat → Int32}  (d : Nat) (a1 : Int32) (a2 : Int32) (a3 : Int32) (a4 : Int32) (s : mS) : ok_G_due a1 a2 a3 a4 s → mm_call (mm_X len xs) mm_Y (d + 6) 116 [.ref 0, .int a1, .int a2, .int a3, .int a4] (mT s) = some (some (.int (f_G_due a1 a2 a3 a4 s).1), mT (f_G_due a1 a2 a3 a4 s).2) := fun h => t_G_due (len := len) (xs := xs) d a1 a2 a3 a4 s (fun t => (some (some (.int t.1), mT t.2) : Option mm_R) = some (some (.int (f_G_due a1 a2 a3 a4 s).1), mT (f_G_due a1 a2 a3 a4 s).2)) (fun _ h => h) h rfl
def f_M_due (a1 : Int32) (a2 : Int32) (a3 : Int32) (a4 : Int32) (s : mS) : Int32 × mS := (mq_let (f_M_isIn a1 (0 : Int32) (4 : Int32) s) (fun (x10 : Int32) => (if x10 = 0 then ((-1), s) else (mq_let (f_M_isIn a2 (0 : Int32) (3999 : Int32) s) (fun (x11 : Int32) => (if x11 = 0 then ((-1), s) else (mq_let (f_M_isIn a4 (0 : Int32) (2 : Int32) s) (fun (x12 : Int32) => (if x12 = 0 then ((-1), s) else (mq_let (f_M_dueOf a1 a2 a3 s) (fun (x13 : Int32 × mS) => (if a4 = 0 then (x13.1, x13.2) else (if a4 = 1 then ((gI x13.2 116 93), x13.2) else (if (gI x13.2 116 92) = 0 then (0, x13.2) else (1, x13.2)))))))))))))))
def ok_M_due (a1 : Int32) (a2 : Int32) (a3 : Int32) (a4 : Int32) (s : mS) : Prop := (True ∧ mq_letP (f_M_isIn a1 (0 : Int32) (4 : Int32) s) (fun (x10 : Int32) => (if x10 = 0 then True else (True ∧ mq_letP (f_M_isIn a2 (0 : Int32) (3999 : Int32) s) (fun (x11 : Int32) => (if x11 = 0 then True else (True ∧ mq_letP (f_M_isIn a4 (0 : Int32) (2 : Int32) s) (fun (x12 : Int32) => (if x12 = 0 then True else (ok_M_dueOf a1 a2 a3 s ∧ mq_letP (f_M_dueOf a1 a2 a3 s) (fun (x13 : Int32 × mS) => True)))))))))))
set_option maxRecDepth 4000 in
theorem t_M_due {len : Nat} {xs : Nat → Int32}  (d : Nat) (a1 : Int32) (a2 : Int32) (a3 : Int32) (a4 : Int32) (s : mS) {T : Option mm_R} (K : Int32 × mS → Prop) (hK : ∀ t, K t → some (some (.int t.1), mT t.2) = T) : ok_M_due a1 a2 a3 a4 s → K (f_M_due a1 a2 a3 a4 s) → mm_fix (mm_X len xs) mm_Y (mm_call (mm_X len xs) mm_Y (d + 5)) (mm_look mc_M_due) (0, [some (.ref 116), some (.int a1), some (.int a2), some (.int a3), some (.int a4), none], [], mT s) = T := by
  unfold ok_M_due f_M_due
  refine w_go K 3 (c' := (3, [some (.ref 116), some (.int a1), some (.int a2), some (.int a3), some (.int a4), none], [.int 4, .int 0, .int a1], mT s)) rfl ?_
  refine w_callL K (E := f_M_isIn a1 (0 : Int32) (4 : Int32) s) (g := fun (x10 : Int32) => (some (.int x10), mT s)) rfl (m_M_isIn (len := len) (xs := xs) (d + 4) a1 (0 : Int32) (4 : Int32) s) (fun x10 => ?_)
  refine w_go K 0 (c' := (6, [some (.ref 116), some (.int a1), some (.int a2), some (.int a3), some (.int a4), none], [.int x10], mT s)) rfl ?_
  refine w_zeq K rfl (fun _ => ?_) (fun _ => ?_)
  · refine w_go K 1 (c' := (31, [some (.ref 116), some (.int a1), some (.int a2), some (.int a3), some (.int a4), none], [.int (-1)], mT s)) rfl ?_
    exact w_ret K rfl (hK _)
  · refine w_go K 3 (c' := (14, [some (.ref 116), some (.int a1), some (.int a2), some (.int a3), some (.int a4), none], [.int 3999, .int 0, .int a2], mT s)) rfl ?_
    refine w_callL K (E := f_M_isIn a2 (0 : Int32) (3999 : Int32) s) (g := fun (x11 : Int32) => (some (.int x11), mT s)) rfl (m_M_isIn (len := len) (xs := xs) (d + 4) a2 (0 : Int32) (3999 : Int32) s) (fun x11 => ?_)
    refine w_go K 0 (c' := (17, [some (.ref 116), some (.int a1), some (.int a2), some (.int a3), some (.int a4), none], [.int x11], mT s)) rfl ?_
    refine w_zeq K rfl (fun _ => ?_) (fun _ => ?_)
    · refine w_go K 1 (c' := (31, [some (.ref 116), some (.int a1), some (.int a2), some (.int a3), some (.int a4), none], [.int (-1)], mT s)) rfl ?_
      exact w_ret K rfl (hK _)
    · refine w_go K 3 (c' := (24, [some (.ref 116), some (.int a1), some (.int a2), some (.int a3), some (.int a4), none], [.int 2, .int 0, .int a4], mT s)) rfl ?_
      refine w_callL K (E := f_M_isIn a4 (0 : Int32) (2 : Int32) s) (g := fun (x12 : Int32) => (some (.int x12), mT s)) rfl (m_M_isIn (len := len) (xs := xs) (d + 4) a4 (0 : Int32) (2 : Int32) s) (fun x12 => ?_)
      refine w_go K 0 (c' := (27, [some (.ref 116), some (.int a1), some (.int a2), some (.int a3), some (.int a4), none], [.int x12], mT s)) rfl ?_
      refine w_zne K rfl (fun _ => ?_) (fun _ => ?_)
      · refine w_go K 1 (c' := (31, [some (.ref 116), some (.int a1), some (.int a2), some (.int a3), some (.int a4), none], [.int (-1)], mT s)) rfl ?_
        exact w_ret K rfl (hK _)
      · refine w_go K 4 (c' := (36, [some (.ref 116), some (.int a1), some (.int a2), some (.int a3), some (.int a4), none], [.int a3, .int a2, .int a1, .ref 116], mT s)) rfl ?_
        refine w_callL K (E := f_M_dueOf a1 a2 a3 s) (g := fun (x13 : Int32 × mS) => (some (.int x13.1), mT x13.2)) rfl (m_M_dueOf (len := len) (xs := xs) (d + 0) a1 a2 a3 s) (fun x13 => ?_)
        refine w_go K 2 (c' := (43, [some (.ref 116), some (.int a1), some (.int a2), some (.int a3), some (.int a4), some (.int x13.1)], [.int a4], mT x13.2)) rfl ?_
        refine w_zneT K rfl (fun _ => ?_) (fun _ => ?_)
        · refine w_go K 2 (c' := (76, [some (.ref 116), some (.int a1), some (.int a2), some (.int a3), some (.int a4), some (.int x13.1)], [.int x13.1], mT x13.2)) rfl ?_
          exact w_ret K rfl (hK _)
        · refine w_go K 2 (c' := (54, [some (.ref 116), some (.int a1), some (.int a2), some (.int a3), some (.int a4), some (.int x13.1)], [.int 1, .int a4], mT x13.2)) rfl ?_
          refine w_ineT K rfl (fun _ => ?_) (fun _ => ?_)
          · refine w_go K 3 (c' := (76, [some (.ref 116), some (.int a1), some (.int a2), some (.int a3), some (.int a4), some (.int x13.1)], [.int (gI x13.2 116 93)], mT x13.2)) rfl ?_
            exact w_ret K rfl (hK _)
          · refine w_go K 2 (c' := (68, [some (.ref 116), some (.int a1), some (.int a2), some (.int a3), some (.int a4), some (.int x13.1)], [.int (gI x13.2 116 92)], mT x13.2)) rfl ?_
            refine w_zeqT K rfl (fun _ => ?_) (fun _ => ?_)
            · refine w_go K 1 (c' := (76, [some (.ref 116), some (.int a1), some (.int a2), some (.int a3), some (.int a4), some (.int x13.1)], [.int 0], mT x13.2)) rfl ?_
              exact w_ret K rfl (hK _)
            · refine w_go K 2 (c' := (76, [some (.ref 116), some (.int a1), some (.int a2), some (.int a3), some (.int a4), some (.int x13.1)], [.int 1], mT x13.2)) rfl ?_
              exact w_ret K rfl (hK _)
theorem m_M_due {len : Nat} {xs : Nat → Int32}  (d : Nat) (a1 : Int32) (a2 : Int32) (a3 : Int32) (a4 : Int32) (s : mS) : ok_M_due a1 a2 a3 a4 s → mm_call (mm_X len xs) mm_Y (d + 6) 225 [.ref 116, .int a1, .int a2, .int a3, .int a4] (mT s) = some (some (.int (f_M_due a1 a2 a3 a4 s).1), mT (f_M_due a1 a2 a3 a4 s).2) := fun h => t_M_due (len := len) (xs := xs) d a1 a2 a3 a4 s (fun t => (some (some (.int t.1), mT t.2) : Option mm_R) = some (some (.int (f_M_due a1 a2 a3 a4 s).1), mT (f_M_due a1 a2 a3 a4 s).2)) (fun _ h => h) h rfl
def f_G_tries (a1 : Int32) (s : mS) : Int32 × mS := (mq_let (f_G_within a1 (0 : Int32) (99 : Int32) s) (fun (x10 : Int32) => (if x10 = 0 then ((-1), s) else (mq_let (f_Laws_judge (1 : Int32) (gI s 0 9) (0 : Int32) s) (fun (x11 : mS) => (if a1 < (gI x11 36 8) then (mq_let (f_Laws_judge (3 : Int32) (gI x11 0 9) ((gI x11 36 8) - a1) x11) (fun (x12 : mS) => ((if (if (0 : Int32) < (gI x12 36 8) then (gI x12 36 8) else (0 : Int32)) < (99999 : Int32) then (if (0 : Int32) < (gI x12 36 8) then (gI x12 36 8) else (0 : Int32)) else (99999 : Int32)), sL x12 82 15 ((gL x12 82 15) + (Int32.toInt64 (if (if (0 : Int32) < (gI x12 36 8) then (gI x12 36 8) else (0 : Int32)) < (99999 : Int32) then (if (0 : Int32) < (gI x12 36 8) then (gI x12 36 8) else (0 : Int32)) else (99999 : Int32))))))) else (0, x11)))))))
def ok_G_tries (a1 : Int32) (s : mS) : Prop := (True ∧ mq_letP (f_G_within a1 (0 : Int32) (99 : Int32) s) (fun (x10 : Int32) => (if x10 = 0 then True else (ok_Laws_judge (1 : Int32) (gI s 0 9) (0 : Int32) s ∧ mq_letP (f_Laws_judge (1 : Int32) (gI s 0 9) (0 : Int32) s) (fun (x11 : mS) => (if a1 < (gI x11 36 8) then (ok_Laws_judge (3 : Int32) (gI x11 0 9) ((gI x11 36 8) - a1) x11 ∧ mq_letP (f_Laws_judge (3 : Int32) (gI x11 0 9) ((gI x11 36 8) - a1) x11) (fun (x12 : mS) => True)) else True))))))
set_option maxRecDepth 4000 in
theorem t_G_tries {len : Nat} {xs : Nat → Int32}  (d : Nat) (a1 : Int32) (s : mS) {T : Option mm_R} (K : Int32 × mS → Prop) (hK : ∀ t, K t → some (some (.int t.1), mT t.2) = T) : ok_G_tries a1 s → K (f_G_tries a1 s) → mm_fix (mm_X len xs) mm_Y (mm_call (mm_X len xs) mm_Y (d + 5)) (mm_look mc_G_tries) (0, [some (.ref 0), some (.int a1), none], [], mT s) = T := by
  unfold ok_G_tries f_G_tries
  refine w_go K 3 (c' := (4, [some (.ref 0), some (.int a1), none], [.int 99, .int 0, .int a1], mT s)) rfl ?_
  refine w_callL K (E := f_G_within a1 (0 : Int32) (99 : Int32) s) (g := fun (x10 : Int32) => (some (.int x10), mT s)) rfl (m_G_within (len := len) (xs := xs) (d + 4) a1 (0 : Int32) (99 : Int32) s) (fun x10 => ?_)
  refine w_go K 0 (c' := (7, [some (.ref 0), some (.int a1), none], [.int x10], mT s)) rfl ?_
  refine w_zne K rfl (fun _ => ?_) (fun _ => ?_)
  · refine w_go K 1 (c' := (11, [some (.ref 0), some (.int a1), none], [.int (-1)], mT s)) rfl ?_
    exact w_ret K rfl (hK _)
  · refine w_go K 8 (c' := (26, [some (.ref 0), some (.int a1), none], [.ref 1, .int 0, .int (gI s 0 9), .int 1, .ref 36], mT s)) rfl ?_
    refine w_callL K (E := f_Laws_judge (1 : Int32) (gI s 0 9) (0 : Int32) s) (g := fun (x11 : mS) => (none, mT x11)) rfl (m_Laws_judge (len := len) (xs := xs) (d + 0) (1 : Int32) (gI s 0 9) (0 : Int32) s) (fun x11 => ?_)
    refine w_go K 4 (c' := (37, [some (.ref 0), some (.int a1), none], [.int (gI x11 36 8), .int a1], mT x11)) rfl ?_
    refine w_ilt K rfl (fun _ => ?_) (fun _ => ?_)
    · refine w_go K 12 (c' := (64, [some (.ref 0), some (.int a1), none], [.ref 1, .int ((gI x11 36 8) - a1), .int (gI x11 0 9), .int 3, .ref 36], mT x11)) rfl ?_
      refine w_callL K (E := f_Laws_judge (3 : Int32) (gI x11 0 9) ((gI x11 36 8) - a1) x11) (g := fun (x12 : mS) => (none, mT x12)) rfl (m_Laws_judge (len := len) (xs := xs) (d + 0) (3 : Int32) (gI x11 0 9) ((gI x11 36 8) - a1) x11) (fun x12 => ?_)
      refine w_go K 17 (c' := (99, [some (.ref 0), some (.int a1), some (.int (if (if (0 : Int32) < (gI x12 36 8) then (gI x12 36 8) else (0 : Int32)) < (99999 : Int32) then (if (0 : Int32) < (gI x12 36 8) then (gI x12 36 8) else (0 : Int32)) else (99999 : Int32)))], [.int (if (if (0 : Int32) < (gI x12 36 8) then (gI x12 36 8) else (0 : Int32)) < (99999 : Int32) then (if (0 : Int32) < (gI x12 36 8) then (gI x12 36 8) else (0 : Int32)) else (99999 : Int32))], mT (sL x12 82 15 ((gL x12 82 15) + (Int32.toInt64 (if (if (0 : Int32) < (gI x12 36 8) then (gI x12 36 8) else (0 : Int32)) < (99999 : Int32) then (if (0 : Int32) < (gI x12 36 8) then (gI x12 36 8) else (0 : Int32)) else (99999 : Int32))))))) rfl ?_
      exact w_ret K rfl (hK _)
    · refine w_go K 1 (c' := (41, [some (.ref 0), some (.int a1), none], [.int 0], mT x11)) rfl ?_
      exact w_ret K rfl (hK _)
theorem m_G_tries {len : Nat} {xs : Nat → Int32}  (d : Nat) (a1 : Int32) (s : mS) : ok_G_tries a1 s → mm_call (mm_X len xs) mm_Y (d + 6) 117 [.ref 0, .int a1] (mT s) = some (some (.int (f_G_tries a1 s).1), mT (f_G_tries a1 s).2) := fun h => t_G_tries (len := len) (xs := xs) d a1 s (fun t => (some (some (.int t.1), mT t.2) : Option mm_R) = some (some (.int (f_G_tries a1 s).1), mT (f_G_tries a1 s).2)) (fun _ h => h) h rfl
def f_M_tries (a1 : Int32) (s : mS) : Int32 × mS := (mq_let (f_M_isIn a1 (0 : Int32) (99 : Int32) s) (fun (x10 : Int32) => (if x10 = 0 then ((-1), s) else (mq_let (f_M_dueOf (1 : Int32) (gI s 116 1) (0 : Int32) s) (fun (x11 : Int32 × mS) => (if (gI x11.2 116 91) = 0 then (0, x11.2) else (if a1 < x11.1 then (mq_let (f_M_dueOf (3 : Int32) (gI x11.2 116 1) (x11.1 - a1) x11.2) (fun (x12 : Int32 × mS) => (mq_let (if (0 : Int32) ≤ x12.1 then (if x12.1 ≤ 99999 then x12.1 else (99999 : Int32)) else (0 : Int32)) (fun (x13 : Int32) => (x13, sL x12.2 116 41 ((gL x12.2 116 41) + (Int32.toInt64 x13))))))) else (0, x11.2))))))))
def ok_M_tries (a1 : Int32) (s : mS) : Prop := (True ∧ mq_letP (f_M_isIn a1 (0 : Int32) (99 : Int32) s) (fun (x10 : Int32) => (if x10 = 0 then True else (ok_M_dueOf (1 : Int32) (gI s 116 1) (0 : Int32) s ∧ mq_letP (f_M_dueOf (1 : Int32) (gI s 116 1) (0 : Int32) s) (fun (x11 : Int32 × mS) => (if (gI x11.2 116 91) = 0 then True else (if a1 < x11.1 then (ok_M_dueOf (3 : Int32) (gI x11.2 116 1) (x11.1 - a1) x11.2 ∧ mq_letP (f_M_dueOf (3 : Int32) (gI x11.2 116 1) (x11.1 - a1) x11.2) (fun (x12 : Int32 × mS) => True)) else True)))))))
set_option maxRecDepth 4000 in
theorem t_M_tries {len : Nat} {xs : Nat → Int32}  (d : Nat) (a1 : Int32) (s : mS) {T : Option mm_R} (K : Int32 × mS → Prop) (hK : ∀ t, K t → some (some (.int t.1), mT t.2) = T) : ok_M_tries a1 s → K (f_M_tries a1 s) → mm_fix (mm_X len xs) mm_Y (mm_call (mm_X len xs) mm_Y (d + 5)) (mm_look mc_M_tries) (0, [some (.ref 116), some (.int a1), none, none], [], mT s) = T := by
  unfold ok_M_tries f_M_tries
  refine w_go K 3 (c' := (4, [some (.ref 116), some (.int a1), none, none], [.int 99, .int 0, .int a1], mT s)) rfl ?_
  refine w_callL K (E := f_M_isIn a1 (0 : Int32) (99 : Int32) s) (g := fun (x10 : Int32) => (some (.int x10), mT s)) rfl (m_M_isIn (len := len) (xs := xs) (d + 4) a1 (0 : Int32) (99 : Int32) s) (fun x10 => ?_)
  refine w_go K 0 (c' := (7, [some (.ref 116), some (.int a1), none, none], [.int x10], mT s)) rfl ?_
  refine w_zne K rfl (fun _ => ?_) (fun _ => ?_)
  · refine w_go K 1 (c' := (11, [some (.ref 116), some (.int a1), none, none], [.int (-1)], mT s)) rfl ?_
    exact w_ret K rfl (hK _)
  · refine w_go K 5 (c' := (19, [some (.ref 116), some (.int a1), none, none], [.int 0, .int (gI s 116 1), .int 1, .ref 116], mT s)) rfl ?_
    refine w_callL K (E := f_M_dueOf (1 : Int32) (gI s 116 1) (0 : Int32) s) (g := fun (x11 : Int32 × mS) => (some (.int x11.1), mT x11.2)) rfl (m_M_dueOf (len := len) (xs := xs) (d + 0) (1 : Int32) (gI s 116 1) (0 : Int32) s) (fun x11 => ?_)
    refine w_go K 3 (c' := (27, [some (.ref 116), some (.int a1), some (.int x11.1), none], [.int (gI x11.2 116 91)], mT x11.2)) rfl ?_
    refine w_zeq K rfl (fun _ => ?_) (fun _ => ?_)
    · refine w_go K 1 (c' := (36, [some (.ref 116), some (.int a1), some (.int x11.1), none], [.int 0], mT x11.2)) rfl ?_
      exact w_ret K rfl (hK _)
    · refine w_go K 2 (c' := (32, [some (.ref 116), some (.int a1), some (.int x11.1), none], [.int x11.1, .int a1], mT x11.2)) rfl ?_
      refine w_ilt K rfl (fun _ => ?_) (fun _ => ?_)
      · refine w_go K 7 (c' := (46, [some (.ref 116), some (.int a1), some (.int x11.1), none], [.int (x11.1 - a1), .int (gI x11.2 116 1), .int 3, .ref 116], mT x11.2)) rfl ?_
        refine w_callL K (E := f_M_dueOf (3 : Int32) (gI x11.2 116 1) (x11.1 - a1) x11.2) (g := fun (x12 : Int32 × mS) => (some (.int x12.1), mT x12.2)) rfl (m_M_dueOf (len := len) (xs := xs) (d + 0) (3 : Int32) (gI x11.2 116 1) (x11.1 - a1) x11.2) (fun x12 => ?_)
        refine w_go K 2 (c' := (51, [some (.ref 116), some (.int a1), some (.int x11.1), some (.int x12.1)], [.int x12.1], mT x12.2)) rfl ?_
        refine w_joinT K (fun (x13 : Int32) => mm_fix (mm_X len xs) mm_Y (mm_call (mm_X len xs) mm_Y (d + 5)) (mm_look mc_M_tries) (70, [some (.ref 116), some (.int a1), some (.int x11.1), some (.int x12.1)], [.int x13], mT x12.2) = T) (fun K hJ => ?_) (fun x13 h1 h2 => ?_)
        · refine w_go K 0 (c' := (51, [some (.ref 116), some (.int a1), some (.int x11.1), some (.int x12.1)], [.int x12.1], mT x12.2)) rfl ?_
          refine w_zgeT K rfl (fun _ => ?_) (fun _ => ?_)
          · refine w_go K 2 (c' := (61, [some (.ref 116), some (.int a1), some (.int x11.1), some (.int x12.1)], [.int 99999, .int x12.1], mT x12.2)) rfl ?_
            refine w_ileT K rfl (fun _ => ?_) (fun _ => ?_)
            · refine w_go K 1 (c' := (70, [some (.ref 116), some (.int a1), some (.int x11.1), some (.int x12.1)], [.int x12.1], mT x12.2)) rfl ?_
              exact fun _ h => hJ _ h
            · refine w_go K 2 (c' := (70, [some (.ref 116), some (.int a1), some (.int x11.1), some (.int x12.1)], [.int 99999], mT x12.2)) rfl ?_
              exact fun _ h => hJ _ h
          · refine w_go K 2 (c' := (70, [some (.ref 116), some (.int a1), some (.int x11.1), some (.int x12.1)], [.int 0], mT x12.2)) rfl ?_
            exact fun _ h => hJ _ h
        · revert h1 h2
          refine w_go K 9 (c' := (83, [some (.ref 116), some (.int a1), some (.int x11.1), some (.int x13)], [.int x13], mT (sL x12.2 116 41 ((gL x12.2 116 41) + (Int32.toInt64 x13))))) rfl ?_
          exact w_ret K rfl (hK _)
      · refine w_go K 1 (c' := (36, [some (.ref 116), some (.int a1), some (.int x11.1), none], [.int 0], mT x11.2)) rfl ?_
        exact w_ret K rfl (hK _)
theorem m_M_tries {len : Nat} {xs : Nat → Int32}  (d : Nat) (a1 : Int32) (s : mS) : ok_M_tries a1 s → mm_call (mm_X len xs) mm_Y (d + 6) 226 [.ref 116, .int a1] (mT s) = some (some (.int (f_M_tries a1 s).1), mT (f_M_tries a1 s).2) := fun h => t_M_tries (len := len) (xs := xs) d a1 s (fun t => (some (some (.int t.1), mT t.2) : Option mm_R) = some (some (.int (f_M_tries a1 s).1), mT (f_M_tries a1 s).2)) (fun _ h => h) h rfl
def lp_G_gain_37  : Nat → Int64 → Int32 → mS → Int64 × Int32 × mS
  | 0, v1, v3, s => (v1, v3, s)
  | n + 1, v1, v3, s => (if (gI s 82 8) ≤ v3 then (v1, v3, s) else (if (200 : Int32) ≤ v3 then (v1, v3, s) else (mq_let (f_G_billOf v3 s) (fun (x11 : Int64 × mS) => (lp_G_gain_37 n (v1 + x11.1) (v3 + 1) x11.2)))))
def okl_G_gain_37  : Nat → Int64 → Int32 → mS → Prop
  | 0, v1, v3, s => False
  | n + 1, v1, v3, s => (if (gI s 82 8) ≤ v3 then True else (if (200 : Int32) ≤ v3 then True else (ok_G_billOf v3 s ∧ mq_letP (f_G_billOf v3 s) (fun (x11 : Int64 × mS) => (okl_G_gain_37 n (v1 + x11.1) (v3 + 1) x11.2)))))
set_option maxRecDepth 4000 in
theorem tl_G_gain_37 {len : Nat} {xs : Nat → Int32}  (d : Nat)   {T : Option mm_R} (K : Int64 × Int32 × mS → Prop) (hX : ∀ r, K r → mm_fix (mm_X len xs) mm_Y (mm_call (mm_X len xs) mm_Y (d + 6)) (mm_look mc_G_gain) (69, [some (.ref 0), some (.long r.1), none, some (.int r.2.1)], [], mT r.2.2) = T) : ∀ (n : Nat), ∀ (v1 : Int64) (v3 : Int32) (s : mS), okl_G_gain_37 n v1 v3 s → K (lp_G_gain_37 n v1 v3 s) → mm_fix (mm_X len xs) mm_Y (mm_call (mm_X len xs) mm_Y (d + 6)) (mm_look mc_G_gain) (37, [some (.ref 0), some (.long v1), none, some (.int v3)], [], mT s) = T := by
  intro n
  induction n with
  | zero => intro v1 v3 s; exact fun h => h.elim
  | succ n ih =>
    intro v1 v3 s
    rw [okl_G_gain_37, lp_G_gain_37]
    refine w_go K 4 (c' := (45, [some (.ref 0), some (.long v1), none, some (.int v3)], [.int (gI s 82 8), .int v3], mT s)) rfl ?_
    refine w_ige K rfl (fun _ => ?_) (fun _ => ?_)
    · refine w_go K 0 (c' := (69, [some (.ref 0), some (.long v1), none, some (.int v3)], [], mT s)) rfl ?_
      exact fun _ b => hX _ b
    · refine w_go K 2 (c' := (52, [some (.ref 0), some (.long v1), none, some (.int v3)], [.int 200, .int v3], mT s)) rfl ?_
      refine w_ige K rfl (fun _ => ?_) (fun _ => ?_)
      · refine w_go K 0 (c' := (69, [some (.ref 0), some (.long v1), none, some (.int v3)], [], mT s)) rfl ?_
        exact fun _ b => hX _ b
      · refine w_go K 3 (c' := (58, [some (.ref 0), some (.long v1), none, some (.int v3)], [.int v3, .ref 0, .long v1], mT s)) rfl ?_
        refine w_callL K (E := f_G_billOf v3 s) (g := fun (x11 : Int64 × mS) => (some (.long x11.1), mT x11.2)) rfl (m_G_billOf (len := len) (xs := xs) (d + 0) v3 s) (fun x11 => ?_)
        refine w_go K 4 (c' := (37, [some (.ref 0), some (.long (v1 + x11.1)), none, some (.int (v3 + 1))], [], mT x11.2)) rfl ?_
        exact fun a b => ih (v1 + x11.1) (v3 + 1) x11.2 a b
def f_G_gain  (s : mS) : Int64 × mS := (mq_let (f_Books_know (gI s 0 9) s) (fun (x10 : mS) => (mq_let (lp_G_gain_37 mm_N (((gL x10 82 14) - (gL x10 82 13)) - (gL x10 82 15)) (0 : Int32) x10) (fun (x12 : Int64 × Int32 × mS) => (x12.1, x12.2.2)))))
def ok_G_gain  (s : mS) : Prop := (ok_Books_know (gI s 0 9) s ∧ mq_letP (f_Books_know (gI s 0 9) s) (fun (x10 : mS) => (okl_G_gain_37 mm_N (((gL x10 82 14) - (gL x10 82 13)) - (gL x10 82 15)) (0 : Int32) x10 ∧ mq_letP (lp_G_gain_37 mm_N (((gL x10 82 14) - (gL x10 82 13)) - (gL x10 82 15)) (0 : Int32) x10) (fun (x12 : Int64 × Int32 × mS) => True))))
set_option maxRecDepth 4000 in
theorem t_G_gain {len : Nat} {xs : Nat → Int32}  (d : Nat)  (s : mS) {T : Option mm_R} (K : Int64 × mS → Prop) (hK : ∀ t, K t → some (some (.long t.1), mT t.2) = T) : ok_G_gain s → K (f_G_gain s) → mm_fix (mm_X len xs) mm_Y (mm_call (mm_X len xs) mm_Y (d + 6)) (mm_look mc_G_gain) (0, [some (.ref 0), none, none, none], [], mT s) = T := by
  unfold ok_G_gain f_G_gain
  refine w_go K 4 (c' := (8, [some (.ref 0), none, none, none], [.int (gI s 0 9), .ref 82], mT s)) rfl ?_
  refine w_callL K (E := f_Books_know (gI s 0 9) s) (g := fun (x10 : mS) => (none, mT x10)) rfl (m_Books_know (len := len) (xs := xs) (d + 4) (gI s 0 9) s) (fun x10 => ?_)
  refine w_go K 14 (c' := (37, [some (.ref 0), some (.long (((gL x10 82 14) - (gL x10 82 13)) - (gL x10 82 15))), none, some (.int 0)], [], mT x10)) rfl ?_
  refine w_join K (fun (x12 : Int64 × Int32 × mS) => mm_fix (mm_X len xs) mm_Y (mm_call (mm_X len xs) mm_Y (d + 6)) (mm_look mc_G_gain) (69, [some (.ref 0), some (.long x12.1), none, some (.int x12.2.1)], [], mT x12.2.2) = T) (fun K hJ => tl_G_gain_37 (len := len) (xs := xs) d (T := T) K hJ mm_N (((gL x10 82 14) - (gL x10 82 13)) - (gL x10 82 15)) (0 : Int32) x10) (fun x12 h1 h2 => ?_)
  revert h1 h2
  refine w_go K 1 (c' := (70, [some (.ref 0), some (.long x12.1), none, some (.int x12.2.1)], [.long x12.1], mT x12.2.2)) rfl ?_
  exact w_ret K rfl (hK _)
theorem m_G_gain {len : Nat} {xs : Nat → Int32}  (d : Nat)  (s : mS) : ok_G_gain s → mm_call (mm_X len xs) mm_Y (d + 7) 119 [.ref 0] (mT s) = some (some (.long (f_G_gain s).1), mT (f_G_gain s).2) := fun h => t_G_gain (len := len) (xs := xs) d s (fun t => (some (some (.long t.1), mT t.2) : Option mm_R) = some (some (.long (f_G_gain s).1), mT (f_G_gain s).2)) (fun _ h => h) h rfl
def f_G_mayBePaid  (s : mS) : Int64 × mS := (mq_let (f_Laws_judge (4 : Int32) (gI s 0 9) (0 : Int32) s) (fun (x10 : mS) => ((Int32.toInt64 (if (0 : Int32) < (gI x10 36 8) then (gI x10 36 8) else (0 : Int32))), x10)))
def ok_G_mayBePaid  (s : mS) : Prop := (ok_Laws_judge (4 : Int32) (gI s 0 9) (0 : Int32) s ∧ mq_letP (f_Laws_judge (4 : Int32) (gI s 0 9) (0 : Int32) s) (fun (x10 : mS) => True))
set_option maxRecDepth 4000 in
theorem t_G_mayBePaid {len : Nat} {xs : Nat → Int32}  (d : Nat)  (s : mS) {T : Option mm_R} (K : Int64 × mS → Prop) (hK : ∀ t, K t → some (some (.long t.1), mT t.2) = T) : ok_G_mayBePaid s → K (f_G_mayBePaid s) → mm_fix (mm_X len xs) mm_Y (mm_call (mm_X len xs) mm_Y (d + 5)) (mm_look mc_G_mayBePaid) (0, [some (.ref 0)], [], mT s) = T := by
  unfold ok_G_mayBePaid f_G_mayBePaid
  refine w_go K 8 (c' := (14, [some (.ref 0)], [.ref 1, .int 0, .int (gI s 0 9), .int 4, .ref 36], mT s)) rfl ?_
  refine w_callL K (E := f_Laws_judge (4 : Int32) (gI s 0 9) (0 : Int32) s) (g := fun (x10 : mS) => (none, mT x10)) rfl (m_Laws_judge (len := len) (xs := xs) (d + 0) (4 : Int32) (gI s 0 9) (0 : Int32) s) (fun x10 => ?_)
  refine w_go K 6 (c' := (29, [some (.ref 0)], [.long (Int32.toInt64 (if (0 : Int32) < (gI x10 36 8) then (gI x10 36 8) else (0 : Int32)))], mT x10)) rfl ?_
  exact w_ret K rfl (hK _)
theorem m_G_mayBePaid {len : Nat} {xs : Nat → Int32}  (d : Nat)  (s : mS) : ok_G_mayBePaid s → mm_call (mm_X len xs) mm_Y (d + 6) 120 [.ref 0] (mT s) = some (some (.long (f_G_mayBePaid s).1), mT (f_G_mayBePaid s).2) := fun h => t_G_mayBePaid (len := len) (xs := xs) d s (fun t => (some (some (.long t.1), mT t.2) : Option mm_R) = some (some (.long (f_G_mayBePaid s).1), mT (f_G_mayBePaid s).2)) (fun _ h => h) h rfl
def f_G_share (a1 : Int32) (s : mS) : Int64 × mS := (if a1 = 0 then (mq_let (f_G_gain s) (fun (x10 : Int64 × mS) => (x10.1, x10.2))) else (if a1 = 1 then (mq_let (f_G_mayBePaid s) (fun (x11 : Int64 × mS) => (x11.1, x11.2))) else (if a1 = 2 then (mq_let (f_G_gain s) (fun (x12 : Int64 × mS) => (((if x12.1 < (0 : Int64) then (0 : Int64) else x12.1) / 100), x12.2))) else (if a1 = 3 then (mq_let (f_G_mayBePaid s) (fun (x13 : Int64 × mS) => (mq_let (f_G_gain x13.2) (fun (x14 : Int64 × mS) => ((if ((if x14.1 < (0 : Int64) then (0 : Int64) else x14.1) / 100) < x13.1 then ((if x14.1 < (0 : Int64) then (0 : Int64) else x14.1) / 100) else x13.1), x14.2))))) else ((-1), s)))))
def ok_G_share (a1 : Int32) (s : mS) : Prop := (if a1 = 0 then (ok_G_gain s ∧ mq_letP (f_G_gain s) (fun (x10 : Int64 × mS) => True)) else (if a1 = 1 then (ok_G_mayBePaid s ∧ mq_letP (f_G_mayBePaid s) (fun (x11 : Int64 × mS) => True)) else (if a1 = 2 then (ok_G_gain s ∧ mq_letP (f_G_gain s) (fun (x12 : Int64 × mS) => True)) else (if a1 = 3 then (ok_G_mayBePaid s ∧ mq_letP (f_G_mayBePaid s) (fun (x13 : Int64 × mS) => (ok_G_gain x13.2 ∧ mq_letP (f_G_gain x13.2) (fun (x14 : Int64 × mS) => True)))) else True))))
set_option maxRecDepth 4000 in
theorem t_G_share {len : Nat} {xs : Nat → Int32}  (d : Nat) (a1 : Int32) (s : mS) {T : Option mm_R} (K : Int64 × mS → Prop) (hK : ∀ t, K t → some (some (.long t.1), mT t.2) = T) : ok_G_share a1 s → K (f_G_share a1 s) → mm_fix (mm_X len xs) mm_Y (mm_call (mm_X len xs) mm_Y (d + 7)) (mm_look mc_G_share) (0, [some (.ref 0), some (.int a1)], [], mT s) = T := by
  unfold ok_G_share f_G_share
  refine w_go K 1 (c' := (1, [some (.ref 0), some (.int a1)], [.int a1], mT s)) rfl ?_
  refine w_go K 1 (c' := (mm_sw [(0, 32), (1, 37), (2, 42), (3, 55)] 75 a1, [some (.ref 0), some (.int a1)], [], mT s)) rfl ?_
  refine w_sw K (fun _ => ?_) (fun _ => ?_)
  · refine w_go K 1 (c' := (33, [some (.ref 0), some (.int a1)], [.ref 0], mT s)) rfl ?_
    refine w_callL K (E := f_G_gain s) (g := fun (x10 : Int64 × mS) => (some (.long x10.1), mT x10.2)) rfl (m_G_gain (len := len) (xs := xs) (d + 0) s) (fun x10 => ?_)
    refine w_go K 0 (c' := (36, [some (.ref 0), some (.int a1)], [.long x10.1], mT x10.2)) rfl ?_
    exact w_ret K rfl (hK _)
  · refine w_sw K (fun _ => ?_) (fun _ => ?_)
    · refine w_go K 1 (c' := (38, [some (.ref 0), some (.int a1)], [.ref 0], mT s)) rfl ?_
      refine w_callL K (E := f_G_mayBePaid s) (g := fun (x11 : Int64 × mS) => (some (.long x11.1), mT x11.2)) rfl (m_G_mayBePaid (len := len) (xs := xs) (d + 1) s) (fun x11 => ?_)
      refine w_go K 0 (c' := (41, [some (.ref 0), some (.int a1)], [.long x11.1], mT x11.2)) rfl ?_
      exact w_ret K rfl (hK _)
    · refine w_sw K (fun _ => ?_) (fun _ => ?_)
      · refine w_go K 2 (c' := (44, [some (.ref 0), some (.int a1)], [.ref 0, .long 0], mT s)) rfl ?_
        refine w_callL K (E := f_G_gain s) (g := fun (x12 : Int64 × mS) => (some (.long x12.1), mT x12.2)) rfl (m_G_gain (len := len) (xs := xs) (d + 0) s) (fun x12 => ?_)
        refine w_go K 3 (c' := (54, [some (.ref 0), some (.int a1)], [.long ((if x12.1 < (0 : Int64) then (0 : Int64) else x12.1) / 100)], mT x12.2)) rfl ?_
        exact w_ret K rfl (hK _)
      · refine w_sw K (fun _ => ?_) (fun _ => ?_)
        · refine w_go K 1 (c' := (56, [some (.ref 0), some (.int a1)], [.ref 0], mT s)) rfl ?_
          refine w_callL K (E := f_G_mayBePaid s) (g := fun (x13 : Int64 × mS) => (some (.long x13.1), mT x13.2)) rfl (m_G_mayBePaid (len := len) (xs := xs) (d + 1) s) (fun x13 => ?_)
          refine w_go K 2 (c' := (61, [some (.ref 0), some (.int a1)], [.ref 0, .long 0, .long x13.1], mT x13.2)) rfl ?_
          refine w_callL K (E := f_G_gain x13.2) (g := fun (x14 : Int64 × mS) => (some (.long x14.1), mT x14.2)) rfl (m_G_gain (len := len) (xs := xs) (d + 0) x13.2) (fun x14 => ?_)
          refine w_go K 4 (c' := (74, [some (.ref 0), some (.int a1)], [.long (if ((if x14.1 < (0 : Int64) then (0 : Int64) else x14.1) / 100) < x13.1 then ((if x14.1 < (0 : Int64) then (0 : Int64) else x14.1) / 100) else x13.1)], mT x14.2)) rfl ?_
          exact w_ret K rfl (hK _)
        · refine w_go K 0 (c' := (75, [some (.ref 0), some (.int a1)], [], mT s)) rfl ?_
          refine w_go K 1 (c' := (78, [some (.ref 0), some (.int a1)], [.long (-1)], mT s)) rfl ?_
          exact w_ret K rfl (hK _)
theorem m_G_share {len : Nat} {xs : Nat → Int32}  (d : Nat) (a1 : Int32) (s : mS) : ok_G_share a1 s → mm_call (mm_X len xs) mm_Y (d + 8) 118 [.ref 0, .int a1] (mT s) = some (some (.long (f_G_share a1 s).1), mT (f_G_share a1 s).2) := fun h => t_G_share (len := len) (xs := xs) d a1 s (fun t => (some (some (.long t.1), mT t.2) : Option mm_R) = some (some (.long (f_G_share a1 s).1), mT (f_G_share a1 s).2)) (fun _ h => h) h rfl
def lp_M_gain_40 (a3 : Int32) : Nat → Int64 → Int32 → mS → Int64 × Int32 × mS
  | 0, v1, v4, s => (v1, v4, s)
  | n + 1, v1, v4, s => (mq_let (f_M_readingOf a3 v4 s) (fun (x10 : Int32) => (if x10 = (-1) then (v1, v4, s) else (mq_let (f_M_billOf a3 v4 (gI s 116 1) s) (fun (x11 : Int64 × mS) => (lp_M_gain_40 a3 n (v1 + x11.1) (v4 + 1) x11.2))))))
def okl_M_gain_40 (a3 : Int32) : Nat → Int64 → Int32 → mS → Prop
  | 0, v1, v4, s => False
  | n + 1, v1, v4, s => (ok_M_readingOf a3 v4 s ∧ mq_letP (f_M_readingOf a3 v4 s) (fun (x10 : Int32) => (if x10 = (-1) then True else (ok_M_billOf a3 v4 (gI s 116 1) s ∧ mq_letP (f_M_billOf a3 v4 (gI s 116 1) s) (fun (x11 : Int64 × mS) => (okl_M_gain_40 a3 n (v1 + x11.1) (v4 + 1) x11.2))))))
set_option maxRecDepth 4000 in
theorem tl_M_gain_40 {len : Nat} {xs : Nat → Int32}  (d : Nat) (a3 : Int32)  {T : Option mm_R} (K : Int64 × Int32 × mS → Prop) (hX : ∀ r, K r → mm_fix (mm_X len xs) mm_Y (mm_call (mm_X len xs) mm_Y (d + 6)) (mm_look mc_M_gain) (71, [some (.ref 116), some (.long r.1), none, some (.int a3), some (.int r.2.1)], [], mT r.2.2) = T) : ∀ (n : Nat), ∀ (v1 : Int64) (v4 : Int32) (s : mS), okl_M_gain_40 a3 n v1 v4 s → K (lp_M_gain_40 a3 n v1 v4 s) → mm_fix (mm_X len xs) mm_Y (mm_call (mm_X len xs) mm_Y (d + 6)) (mm_look mc_M_gain) (40, [some (.ref 116), some (.long v1), none, some (.int a3), some (.int v4)], [], mT s) = T := by
  intro n
  induction n with
  | zero => intro v1 v4 s; exact fun h => h.elim
  | succ n ih =>
    intro v1 v4 s
    rw [okl_M_gain_40, lp_M_gain_40]
    refine w_go K 3 (c' := (44, [some (.ref 116), some (.long v1), none, some (.int a3), some (.int v4)], [.int v4, .int a3, .ref 116], mT s)) rfl ?_
    refine w_callL K (E := f_M_readingOf a3 v4 s) (g := fun (x10 : Int32) => (some (.int x10), mT s)) rfl (m_M_readingOf (len := len) (xs := xs) (d + 5) a3 v4 s) (fun x10 => ?_)
    refine w_go K 1 (c' := (48, [some (.ref 116), some (.long v1), none, some (.int a3), some (.int v4)], [.int (-1), .int x10], mT s)) rfl ?_
    refine w_ieq K rfl (fun _ => ?_) (fun _ => ?_)
    · refine w_go K 0 (c' := (71, [some (.ref 116), some (.long v1), none, some (.int a3), some (.int v4)], [], mT s)) rfl ?_
      exact fun _ b => hX _ b
    · refine w_go K 6 (c' := (60, [some (.ref 116), some (.long v1), none, some (.int a3), some (.int v4)], [.int (gI s 116 1), .int v4, .int a3, .ref 116, .long v1], mT s)) rfl ?_
      refine w_callL K (E := f_M_billOf a3 v4 (gI s 116 1) s) (g := fun (x11 : Int64 × mS) => (some (.long x11.1), mT x11.2)) rfl (m_M_billOf (len := len) (xs := xs) (d + 0) a3 v4 (gI s 116 1) s) (fun x11 => ?_)
      refine w_go K 4 (c' := (40, [some (.ref 116), some (.long (v1 + x11.1)), none, some (.int a3), some (.int (v4 + 1))], [], mT x11.2)) rfl ?_
      exact fun a b => ih (v1 + x11.1) (v4 + 1) x11.2 a b
def lp_M_gain_17  : Nat → Int64 → Int32 → mS → Int64 × Int32 × mS
  | 0, v1, v3, s => (v1, v3, s)
  | n + 1, v1, v3, s => (if (gI s 116 8) ≤ v3 then (v1, v3, s) else (if (gI s 133 (ix v3)) = 0 then (mq_let (lp_M_gain_40 v3 mm_N v1 (1 : Int32) s) (fun (x12 : Int64 × Int32 × mS) => (lp_M_gain_17 n x12.1 (v3 + 1) x12.2.2))) else (lp_M_gain_17 n v1 (v3 + 1) s)))
def okl_M_gain_17  : Nat → Int64 → Int32 → mS → Prop
  | 0, v1, v3, s => False
  | n + 1, v1, v3, s => (if (gI s 116 8) ≤ v3 then True else (mm_inb v3 40 = true ∧ (if (gI s 133 (ix v3)) = 0 then (okl_M_gain_40 v3 mm_N v1 (1 : Int32) s ∧ mq_letP (lp_M_gain_40 v3 mm_N v1 (1 : Int32) s) (fun (x12 : Int64 × Int32 × mS) => (okl_M_gain_17 n x12.1 (v3 + 1) x12.2.2))) else (okl_M_gain_17 n v1 (v3 + 1) s))))
set_option maxRecDepth 4000 in
theorem tl_M_gain_17 {len : Nat} {xs : Nat → Int32}  (d : Nat)   {T : Option mm_R} (K : Int64 × Int32 × mS → Prop) (hX : ∀ r, K r → ∀ (o4 : Option Value), mm_fix (mm_X len xs) mm_Y (mm_call (mm_X len xs) mm_Y (d + 6)) (mm_look mc_M_gain) (77, [some (.ref 116), some (.long r.1), none, some (.int r.2.1), o4], [], mT r.2.2) = T) : ∀ (n : Nat), ∀ (v1 : Int64) (v3 : Int32) (o4 : Option Value) (s : mS), okl_M_gain_17 n v1 v3 s → K (lp_M_gain_17 n v1 v3 s) → mm_fix (mm_X len xs) mm_Y (mm_call (mm_X len xs) mm_Y (d + 6)) (mm_look mc_M_gain) (17, [some (.ref 116), some (.long v1), none, some (.int v3), o4], [], mT s) = T := by
  intro n
  induction n with
  | zero => intro v1 v3 o4 s; exact fun h => h.elim
  | succ n ih =>
    intro v1 v3 o4 s
    rw [okl_M_gain_17, lp_M_gain_17]
    refine w_go K 3 (c' := (22, [some (.ref 116), some (.long v1), none, some (.int v3), o4], [.int (gI s 116 8), .int v3], mT s)) rfl ?_
    refine w_ige K rfl (fun _ => ?_) (fun _ => ?_)
    · refine w_go K 0 (c' := (77, [some (.ref 116), some (.long v1), none, some (.int v3), o4], [], mT s)) rfl ?_
      exact fun _ b => hX _ b _
    · refine w_go K 3 (c' := (30, [some (.ref 116), some (.long v1), none, some (.int v3), o4], [.int v3, .ref 133], mT s)) rfl ?_
      refine w_ck K (st_iL rfl rfl) ?_
      refine w_go K 0 (c' := (31, [some (.ref 116), some (.long v1), none, some (.int v3), o4], [.int (gI s 133 (ix v3))], mT s)) rfl ?_
      refine w_zeq K rfl (fun _ => ?_) (fun _ => ?_)
      · refine w_go K 2 (c' := (40, [some (.ref 116), some (.long v1), none, some (.int v3), some (.int 1)], [], mT s)) rfl ?_
        refine w_join K (fun (x12 : Int64 × Int32 × mS) => mm_fix (mm_X len xs) mm_Y (mm_call (mm_X len xs) mm_Y (d + 6)) (mm_look mc_M_gain) (71, [some (.ref 116), some (.long x12.1), none, some (.int v3), some (.int x12.2.1)], [], mT x12.2.2) = T) (fun K hJ => tl_M_gain_40 (len := len) (xs := xs) d v3 (T := T) K hJ mm_N v1 (1 : Int32) s) (fun x12 h1 h2 => ?_)
        revert h1 h2
        refine w_go K 2 (c' := (17, [some (.ref 116), some (.long x12.1), none, some (.int (v3 + 1)), some (.int x12.2.1)], [], mT x12.2.2)) rfl ?_
        exact fun a b => ih x12.1 (v3 + 1) _ x12.2.2 a b
      · refine w_go K 3 (c' := (17, [some (.ref 116), some (.long v1), none, some (.int (v3 + 1)), o4], [], mT s)) rfl ?_
        exact fun a b => ih v1 (v3 + 1) _ s a b
def f_M_gain  (s : mS) : Int64 × mS := (mq_let (lp_M_gain_17 mm_N (((gL s 116 40) - (gL s 116 39)) - (gL s 116 41)) (0 : Int32) s) (fun (x13 : Int64 × Int32 × mS) => (x13.1, x13.2.2)))
def ok_M_gain  (s : mS) : Prop := (okl_M_gain_17 mm_N (((gL s 116 40) - (gL s 116 39)) - (gL s 116 41)) (0 : Int32) s ∧ mq_letP (lp_M_gain_17 mm_N (((gL s 116 40) - (gL s 116 39)) - (gL s 116 41)) (0 : Int32) s) (fun (x13 : Int64 × Int32 × mS) => True))
set_option maxRecDepth 4000 in
theorem t_M_gain {len : Nat} {xs : Nat → Int32}  (d : Nat)  (s : mS) {T : Option mm_R} (K : Int64 × mS → Prop) (hK : ∀ t, K t → some (some (.long t.1), mT t.2) = T) : ok_M_gain s → K (f_M_gain s) → mm_fix (mm_X len xs) mm_Y (mm_call (mm_X len xs) mm_Y (d + 6)) (mm_look mc_M_gain) (0, [some (.ref 116), none, none, none, none], [], mT s) = T := by
  unfold ok_M_gain f_M_gain
  refine w_go K 11 (c' := (17, [some (.ref 116), some (.long (((gL s 116 40) - (gL s 116 39)) - (gL s 116 41))), none, some (.int 0), none], [], mT s)) rfl ?_
  refine w_join K (fun (x13 : Int64 × Int32 × mS) => ∀ (q14 : Option Value), mm_fix (mm_X len xs) mm_Y (mm_call (mm_X len xs) mm_Y (d + 6)) (mm_look mc_M_gain) (77, [some (.ref 116), some (.long x13.1), none, some (.int x13.2.1), q14], [], mT x13.2.2) = T) (fun K hJ => tl_M_gain_17 (len := len) (xs := xs) d (T := T) K hJ mm_N (((gL s 116 40) - (gL s 116 39)) - (gL s 116 41)) (0 : Int32) _ s) (fun x13 h1 h2 q14 => ?_)
  revert h1 h2
  refine w_go K 1 (c' := (78, [some (.ref 116), some (.long x13.1), none, some (.int x13.2.1), q14], [.long x13.1], mT x13.2.2)) rfl ?_
  exact w_ret K rfl (hK _)
theorem m_M_gain {len : Nat} {xs : Nat → Int32}  (d : Nat)  (s : mS) : ok_M_gain s → mm_call (mm_X len xs) mm_Y (d + 7) 228 [.ref 116] (mT s) = some (some (.long (f_M_gain s).1), mT (f_M_gain s).2) := fun h => t_M_gain (len := len) (xs := xs) d s (fun t => (some (some (.long t.1), mT t.2) : Option mm_R) = some (some (.long (f_M_gain s).1), mT (f_M_gain s).2)) (fun _ h => h) h rfl
def f_M_down (a0 : Int64) (a2 : Int64) (s : mS) : Int64 := (if (lg_cmp (a0 - a0 / a2 * a2) 0) = 0 then (a0 / a2) else (mq_let (if (0 : Int32) ≤ (lg_cmp a0 0) then (0 : Int32) else (1 : Int32)) (fun (x10 : Int32) => (mq_let (if (0 : Int32) ≤ (lg_cmp a2 0) then (0 : Int32) else (1 : Int32)) (fun (x11 : Int32) => (if x10 = x11 then (a0 / a2) else ((a0 / a2) - 1)))))))
def ok_M_down (a0 : Int64) (a2 : Int64) (s : mS) : Prop := ((!(decide (a2 = (0 : Int64)))) = true ∧ ((!(decide (a2 = (0 : Int64)))) = true ∧ True))
set_option maxRecDepth 4000 in
theorem t_M_down {len : Nat} {xs : Nat → Int32}  (d : Nat) (a0 : Int64) (a2 : Int64) (s : mS) {T : Option mm_R} (K : Int64 → Prop) (hK : ∀ t, K t → some (some (.long t), mT s) = T) : ok_M_down a0 a2 s → K (f_M_down a0 a2 s) → mm_fix (mm_X len xs) mm_Y (mm_call (mm_X len xs) mm_Y (d + 0)) (mm_look mc_M_down) (0, [some (.long a0), none, some (.long a2), none, none, none], [], mT s) = T := by
  unfold ok_M_down f_M_down
  refine w_go K 2 (c' := (2, [some (.long a0), none, some (.long a2), none, none, none], [.long a2, .long a0], mT s)) rfl ?_
  refine w_ck K rfl ?_
  refine w_go K 3 (c' := (7, [some (.long a0), none, some (.long a2), none, some (.long (a0 / a2)), none], [.long a2, .long a0], mT s)) rfl ?_
  refine w_ck K rfl ?_
  refine w_go K 2 (c' := (10, [some (.long a0), none, some (.long a2), none, some (.long (a0 / a2)), none], [.int (lg_cmp (a0 - a0 / a2 * a2) 0)], mT s)) rfl ?_
  refine w_zeqT K rfl (fun _ => ?_) (fun _ => ?_)
  · refine w_go K 1 (c' := (47, [some (.long a0), none, some (.long a2), none, some (.long (a0 / a2)), none], [.long (a0 / a2)], mT s)) rfl ?_
    exact w_ret K rfl (hK _)
  · refine w_go K 3 (c' := (16, [some (.long a0), none, some (.long a2), none, some (.long (a0 / a2)), none], [.int (lg_cmp a0 0)], mT s)) rfl ?_
    refine w_joinT K (fun (x10 : Int32) => mm_fix (mm_X len xs) mm_Y (mm_call (mm_X len xs) mm_Y (d + 0)) (mm_look mc_M_down) (24, [some (.long a0), none, some (.long a2), none, some (.long (a0 / a2)), none], [.int x10], mT s) = T) (fun K hJ => ?_) (fun x10 h1 h2 => ?_)
    · refine w_go K 0 (c' := (16, [some (.long a0), none, some (.long a2), none, some (.long (a0 / a2)), none], [.int (lg_cmp a0 0)], mT s)) rfl ?_
      refine w_zgeT K rfl (fun _ => ?_) (fun _ => ?_)
      · refine w_go K 1 (c' := (24, [some (.long a0), none, some (.long a2), none, some (.long (a0 / a2)), none], [.int 0], mT s)) rfl ?_
        exact fun _ h => hJ _ h
      · refine w_go K 2 (c' := (24, [some (.long a0), none, some (.long a2), none, some (.long (a0 / a2)), none], [.int 1], mT s)) rfl ?_
        exact fun _ h => hJ _ h
    · revert h1 h2
      refine w_go K 3 (c' := (27, [some (.long a0), none, some (.long a2), none, some (.long (a0 / a2)), none], [.int (lg_cmp a2 0), .int x10], mT s)) rfl ?_
      refine w_joinT K (fun (x11 : Int32) => mm_fix (mm_X len xs) mm_Y (mm_call (mm_X len xs) mm_Y (d + 0)) (mm_look mc_M_down) (35, [some (.long a0), none, some (.long a2), none, some (.long (a0 / a2)), none], [.int x11, .int x10], mT s) = T) (fun K hJ => ?_) (fun x11 h1 h2 => ?_)
      · refine w_go K 0 (c' := (27, [some (.long a0), none, some (.long a2), none, some (.long (a0 / a2)), none], [.int (lg_cmp a2 0), .int x10], mT s)) rfl ?_
        refine w_zgeT K rfl (fun _ => ?_) (fun _ => ?_)
        · refine w_go K 1 (c' := (35, [some (.long a0), none, some (.long a2), none, some (.long (a0 / a2)), none], [.int 0, .int x10], mT s)) rfl ?_
          exact fun _ h => hJ _ h
        · refine w_go K 2 (c' := (35, [some (.long a0), none, some (.long a2), none, some (.long (a0 / a2)), none], [.int 1, .int x10], mT s)) rfl ?_
          exact fun _ h => hJ _ h
      · revert h1 h2
        refine w_go K 0 (c' := (35, [some (.long a0), none, some (.long a2), none, some (.long (a0 / a2)), none], [.int x11, .int x10], mT s)) rfl ?_
        refine w_ieqT K rfl (fun _ => ?_) (fun _ => ?_)
        · refine w_go K 1 (c' := (47, [some (.long a0), none, some (.long a2), none, some (.long (a0 / a2)), none], [.long (a0 / a2)], mT s)) rfl ?_
          exact w_ret K rfl (hK _)
        · refine w_go K 4 (c' := (47, [some (.long a0), none, some (.long a2), none, some (.long (a0 / a2)), none], [.long ((a0 / a2) - 1)], mT s)) rfl ?_
          exact w_ret K rfl (hK _)
theorem m_M_down {len : Nat} {xs : Nat → Int32}  (d : Nat) (a0 : Int64) (a2 : Int64) (s : mS) : ok_M_down a0 a2 s → mm_call (mm_X len xs) mm_Y (d + 1) 229 [.long a0, .long a2] (mT s) = some (some (.long (f_M_down a0 a2 s)), mT s) := fun h => t_M_down (len := len) (xs := xs) d a0 a2 s (fun t => (some (some (.long t), mT s) : Option mm_R) = some (some (.long (f_M_down a0 a2 s)), mT s)) (fun _ h => h) h rfl
def f_M_share (a1 : Int32) (s : mS) : Int64 × mS := (mq_let (f_M_isIn a1 (0 : Int32) (3 : Int32) s) (fun (x10 : Int32) => (if x10 = 0 then ((-1), s) else (mq_let (f_M_gain s) (fun (x11 : Int64 × mS) => (if a1 = 0 then (x11.1, x11.2) else (mq_let (f_M_dueOf (4 : Int32) (gI x11.2 116 1) (0 : Int32) x11.2) (fun (x12 : Int32 × mS) => (mq_let (if (0 : Int32) ≤ x12.1 then (Int32.toInt64 x12.1) else (0 : Int64)) (fun (x13 : Int64) => (mq_let (f_M_down x11.1 (100 : Int64) x12.2) (fun (x14 : Int64) => (mq_let (if (0 : Int32) ≤ (lg_cmp x14 0) then x14 else (0 : Int64)) (fun (x15 : Int64) => (if a1 = 1 then (x13, x12.2) else (if a1 = 2 then (x15, x12.2) else (if (0 : Int32) ≤ (lg_cmp x13 x15) then (x15, x12.2) else (x13, x12.2))))))))))))))))))
def ok_M_share (a1 : Int32) (s : mS) : Prop := (True ∧ mq_letP (f_M_isIn a1 (0 : Int32) (3 : Int32) s) (fun (x10 : Int32) => (if x10 = 0 then True else (ok_M_gain s ∧ mq_letP (f_M_gain s) (fun (x11 : Int64 × mS) => (if a1 = 0 then True else (ok_M_dueOf (4 : Int32) (gI x11.2 116 1) (0 : Int32) x11.2 ∧ mq_letP (f_M_dueOf (4 : Int32) (gI x11.2 116 1) (0 : Int32) x11.2) (fun (x12 : Int32 × mS) => (True ∧ mq_letP (if (0 : Int32) ≤ x12.1 then (Int32.toInt64 x12.1) else (0 : Int64)) (fun (x13 : Int64) => (ok_M_down x11.1 (100 : Int64) x12.2 ∧ mq_letP (f_M_down x11.1 (100 : Int64) x12.2) (fun (x14 : Int64) => True))))))))))))
set_option maxRecDepth 4000 in
theorem t_M_share {len : Nat} {xs : Nat → Int32}  (d : Nat) (a1 : Int32) (s : mS) {T : Option mm_R} (K : Int64 × mS → Prop) (hK : ∀ t, K t → some (some (.long t.1), mT t.2) = T) : ok_M_share a1 s → K (f_M_share a1 s) → mm_fix (mm_X len xs) mm_Y (mm_call (mm_X len xs) mm_Y (d + 7)) (mm_look mc_M_share) (0, [some (.ref 116), some (.int a1), none, none, none, none, none, none, none], [], mT s) = T := by
  unfold ok_M_share f_M_share
  refine w_go K 3 (c' := (3, [some (.ref 116), some (.int a1), none, none, none, none, none, none, none], [.int 3, .int 0, .int a1], mT s)) rfl ?_
  refine w_callL K (E := f_M_isIn a1 (0 : Int32) (3 : Int32) s) (g := fun (x10 : Int32) => (some (.int x10), mT s)) rfl (m_M_isIn (len := len) (xs := xs) (d + 6) a1 (0 : Int32) (3 : Int32) s) (fun x10 => ?_)
  refine w_go K 0 (c' := (6, [some (.ref 116), some (.int a1), none, none, none, none, none, none, none], [.int x10], mT s)) rfl ?_
  refine w_zne K rfl (fun _ => ?_) (fun _ => ?_)
  · refine w_go K 1 (c' := (12, [some (.ref 116), some (.int a1), none, none, none, none, none, none, none], [.long (-1)], mT s)) rfl ?_
    exact w_ret K rfl (hK _)
  · refine w_go K 1 (c' := (14, [some (.ref 116), some (.int a1), none, none, none, none, none, none, none], [.ref 116], mT s)) rfl ?_
    refine w_callL K (E := f_M_gain s) (g := fun (x11 : Int64 × mS) => (some (.long x11.1), mT x11.2)) rfl (m_M_gain (len := len) (xs := xs) (d + 0) s) (fun x11 => ?_)
    refine w_go K 2 (c' := (19, [some (.ref 116), some (.int a1), some (.long x11.1), none, none, none, none, none, none], [.int a1], mT x11.2)) rfl ?_
    refine w_zne K rfl (fun _ => ?_) (fun _ => ?_)
    · refine w_go K 1 (c' := (23, [some (.ref 116), some (.int a1), some (.long x11.1), none, none, none, none, none, none], [.long x11.1], mT x11.2)) rfl ?_
      exact w_ret K rfl (hK _)
    · refine w_go K 5 (c' := (31, [some (.ref 116), some (.int a1), some (.long x11.1), none, none, none, none, none, none], [.int 0, .int (gI x11.2 116 1), .int 4, .ref 116], mT x11.2)) rfl ?_
      refine w_callL K (E := f_M_dueOf (4 : Int32) (gI x11.2 116 1) (0 : Int32) x11.2) (g := fun (x12 : Int32 × mS) => (some (.int x12.1), mT x12.2)) rfl (m_M_dueOf (len := len) (xs := xs) (d + 2) (4 : Int32) (gI x11.2 116 1) (0 : Int32) x11.2) (fun x12 => ?_)
      refine w_go K 2 (c' := (38, [some (.ref 116), some (.int a1), some (.long x11.1), none, some (.int x12.1), none, none, none, none], [.int x12.1], mT x12.2)) rfl ?_
      refine w_join K (fun (x13 : Int64) => mm_fix (mm_X len xs) mm_Y (mm_call (mm_X len xs) mm_Y (d + 7)) (mm_look mc_M_share) (48, [some (.ref 116), some (.int a1), some (.long x11.1), none, some (.int x12.1), none, none, none, none], [.long x13], mT x12.2) = T) (fun K hJ => ?_) (fun x13 h1 h2 => ?_)
      · refine w_go K 0 (c' := (38, [some (.ref 116), some (.int a1), some (.long x11.1), none, some (.int x12.1), none, none, none, none], [.int x12.1], mT x12.2)) rfl ?_
        refine w_zgeT K rfl (fun _ => ?_) (fun _ => ?_)
        · refine w_go K 2 (c' := (48, [some (.ref 116), some (.int a1), some (.long x11.1), none, some (.int x12.1), none, none, none, none], [.long (Int32.toInt64 x12.1)], mT x12.2)) rfl ?_
          exact fun _ h => hJ _ h
        · refine w_go K 2 (c' := (48, [some (.ref 116), some (.int a1), some (.long x11.1), none, some (.int x12.1), none, none, none, none], [.long 0], mT x12.2)) rfl ?_
          exact fun _ h => hJ _ h
      · revert h1 h2
        refine w_go K 3 (c' := (54, [some (.ref 116), some (.int a1), some (.long x11.1), none, some (.int x12.1), some (.long x13), none, none, none], [.long 100, .long x11.1], mT x12.2)) rfl ?_
        refine w_callL K (E := f_M_down x11.1 (100 : Int64) x12.2) (g := fun (x14 : Int64) => (some (.long x14), mT x12.2)) rfl (m_M_down (len := len) (xs := xs) (d + 6) x11.1 (100 : Int64) x12.2) (fun x14 => ?_)
        refine w_go K 4 (c' := (63, [some (.ref 116), some (.int a1), some (.long x11.1), none, some (.int x12.1), some (.long x13), none, some (.long x14), none], [.int (lg_cmp x14 0)], mT x12.2)) rfl ?_
        refine w_joinT K (fun (x15 : Int64) => mm_fix (mm_X len xs) mm_Y (mm_call (mm_X len xs) mm_Y (d + 7)) (mm_look mc_M_share) (72, [some (.ref 116), some (.int a1), some (.long x11.1), none, some (.int x12.1), some (.long x13), none, some (.long x14), none], [.long x15], mT x12.2) = T) (fun K hJ => ?_) (fun x15 h1 h2 => ?_)
        · refine w_go K 0 (c' := (63, [some (.ref 116), some (.int a1), some (.long x11.1), none, some (.int x12.1), some (.long x13), none, some (.long x14), none], [.int (lg_cmp x14 0)], mT x12.2)) rfl ?_
          refine w_zgeT K rfl (fun _ => ?_) (fun _ => ?_)
          · refine w_go K 1 (c' := (72, [some (.ref 116), some (.int a1), some (.long x11.1), none, some (.int x12.1), some (.long x13), none, some (.long x14), none], [.long x14], mT x12.2)) rfl ?_
            exact fun _ h => hJ _ h
          · refine w_go K 2 (c' := (72, [some (.ref 116), some (.int a1), some (.long x11.1), none, some (.int x12.1), some (.long x13), none, some (.long x14), none], [.long 0], mT x12.2)) rfl ?_
            exact fun _ h => hJ _ h
        · revert h1 h2
          refine w_go K 3 (c' := (76, [some (.ref 116), some (.int a1), some (.long x11.1), none, some (.int x12.1), some (.long x13), none, some (.long x15), none], [.int 1, .int a1], mT x12.2)) rfl ?_
          refine w_ineT K rfl (fun _ => ?_) (fun _ => ?_)
          · refine w_go K 2 (c' := (109, [some (.ref 116), some (.int a1), some (.long x11.1), none, some (.int x12.1), some (.long x13), none, some (.long x15), none], [.long x13], mT x12.2)) rfl ?_
            exact w_ret K rfl (hK _)
          · refine w_go K 2 (c' := (86, [some (.ref 116), some (.int a1), some (.long x11.1), none, some (.int x12.1), some (.long x13), none, some (.long x15), none], [.int 2, .int a1], mT x12.2)) rfl ?_
            refine w_ineT K rfl (fun _ => ?_) (fun _ => ?_)
            · refine w_go K 2 (c' := (109, [some (.ref 116), some (.int a1), some (.long x11.1), none, some (.int x12.1), some (.long x13), none, some (.long x15), none], [.long x15], mT x12.2)) rfl ?_
              exact w_ret K rfl (hK _)
            · refine w_go K 3 (c' := (99, [some (.ref 116), some (.int a1), some (.long x11.1), none, some (.int x12.1), some (.long x13), none, some (.long x15), none], [.int (lg_cmp x13 x15)], mT x12.2)) rfl ?_
              refine w_zgeT K rfl (fun _ => ?_) (fun _ => ?_)
              · refine w_go K 1 (c' := (109, [some (.ref 116), some (.int a1), some (.long x11.1), none, some (.int x12.1), some (.long x13), none, some (.long x15), none], [.long x15], mT x12.2)) rfl ?_
                exact w_ret K rfl (hK _)
              · refine w_go K 2 (c' := (109, [some (.ref 116), some (.int a1), some (.long x11.1), none, some (.int x12.1), some (.long x13), none, some (.long x15), none], [.long x13], mT x12.2)) rfl ?_
                exact w_ret K rfl (hK _)
theorem m_M_share {len : Nat} {xs : Nat → Int32}  (d : Nat) (a1 : Int32) (s : mS) : ok_M_share a1 s → mm_call (mm_X len xs) mm_Y (d + 8) 227 [.ref 116, .int a1] (mT s) = some (some (.long (f_M_share a1 s).1), mT (f_M_share a1 s).2) := fun h => t_M_share (len := len) (xs := xs) d a1 s (fun t => (some (some (.long t.1), mT t.2) : Option mm_R) = some (some (.long (f_M_share a1 s).1), mT (f_M_share a1 s).2)) (fun _ h => h) h rfl
def f_G_at (a1 : Int32) (a2 : Int32) (s : mS) : Int32 := (mq_let (f_Net_has a1 s) (fun (x10 : Int32) => (if x10 = 0 then (-1) else (if a2 = 0 then (gI s 32 (ix a1)) else (if a2 = 1 then (gI s 33 (ix a1)) else (if a2 = 2 then (if (gI s 29 (ix a1)) = 0 then 0 else 1) else (if a2 = 3 then (gI s 26 (ix a1)) else (-1))))))))
def ok_G_at (a1 : Int32) (a2 : Int32) (s : mS) : Prop := (True ∧ mq_letP (f_Net_has a1 s) (fun (x10 : Int32) => (if x10 = 0 then True else (if a2 = 0 then (mm_inb a1 16 = true ∧ True) else (if a2 = 1 then (mm_inb a1 16 = true ∧ True) else (if a2 = 2 then (mm_inb a1 16 = true ∧ True) else (if a2 = 3 then (mm_inb a1 16 = true ∧ True) else True)))))))
set_option maxRecDepth 4000 in
theorem t_G_at {len : Nat} {xs : Nat → Int32}  (d : Nat) (a1 : Int32) (a2 : Int32) (s : mS) {T : Option mm_R} (K : Int32 → Prop) (hK : ∀ t, K t → some (some (.int t), mT s) = T) : ok_G_at a1 a2 s → K (f_G_at a1 a2 s) → mm_fix (mm_X len xs) mm_Y (mm_call (mm_X len xs) mm_Y (d + 1)) (mm_look mc_G_at) (0, [some (.ref 0), some (.int a1), some (.int a2)], [], mT s) = T := by
  unfold ok_G_at f_G_at
  refine w_go K 3 (c' := (5, [some (.ref 0), some (.int a1), some (.int a2)], [.int a1, .ref 25], mT s)) rfl ?_
  refine w_callL K (E := f_Net_has a1 s) (g := fun (x10 : Int32) => (some (.int x10), mT s)) rfl (m_Net_has (len := len) (xs := xs) (d + 0) a1 s) (fun x10 => ?_)
  refine w_go K 0 (c' := (8, [some (.ref 0), some (.int a1), some (.int a2)], [.int x10], mT s)) rfl ?_
  refine w_zne K rfl (fun _ => ?_) (fun _ => ?_)
  · refine w_go K 1 (c' := (12, [some (.ref 0), some (.int a1), some (.int a2)], [.int (-1)], mT s)) rfl ?_
    exact w_ret K rfl (hK _)
  · refine w_go K 1 (c' := (14, [some (.ref 0), some (.int a1), some (.int a2)], [.int a2], mT s)) rfl ?_
    refine w_go K 1 (c' := (mm_sw [(0, 44), (1, 54), (2, 64), (3, 82)] 92 a2, [some (.ref 0), some (.int a1), some (.int a2)], [], mT s)) rfl ?_
    refine w_sw K (fun _ => ?_) (fun _ => ?_)
    · refine w_go K 4 (c' := (52, [some (.ref 0), some (.int a1), some (.int a2)], [.int a1, .ref 32], mT s)) rfl ?_
      refine w_ck K (st_iL rfl rfl) ?_
      refine w_go K 0 (c' := (53, [some (.ref 0), some (.int a1), some (.int a2)], [.int (gI s 32 (ix a1))], mT s)) rfl ?_
      exact w_ret K rfl (hK _)
    · refine w_sw K (fun _ => ?_) (fun _ => ?_)
      · refine w_go K 4 (c' := (62, [some (.ref 0), some (.int a1), some (.int a2)], [.int a1, .ref 33], mT s)) rfl ?_
        refine w_ck K (st_iL rfl rfl) ?_
        refine w_go K 0 (c' := (63, [some (.ref 0), some (.int a1), some (.int a2)], [.int (gI s 33 (ix a1))], mT s)) rfl ?_
        exact w_ret K rfl (hK _)
      · refine w_sw K (fun _ => ?_) (fun _ => ?_)
        · refine w_go K 4 (c' := (72, [some (.ref 0), some (.int a1), some (.int a2)], [.int a1, .ref 29], mT s)) rfl ?_
          refine w_ck K (st_bL rfl rfl) ?_
          refine w_go K 0 (c' := (73, [some (.ref 0), some (.int a1), some (.int a2)], [.int (gI s 29 (ix a1))], mT s)) rfl ?_
          refine w_zeqT K rfl (fun _ => ?_) (fun _ => ?_)
          · refine w_go K 1 (c' := (81, [some (.ref 0), some (.int a1), some (.int a2)], [.int 0], mT s)) rfl ?_
            exact w_ret K rfl (hK _)
          · refine w_go K 2 (c' := (81, [some (.ref 0), some (.int a1), some (.int a2)], [.int 1], mT s)) rfl ?_
            exact w_ret K rfl (hK _)
        · refine w_sw K (fun _ => ?_) (fun _ => ?_)
          · refine w_go K 4 (c' := (90, [some (.ref 0), some (.int a1), some (.int a2)], [.int a1, .ref 26], mT s)) rfl ?_
            refine w_ck K (st_iL rfl rfl) ?_
            refine w_go K 0 (c' := (91, [some (.ref 0), some (.int a1), some (.int a2)], [.int (gI s 26 (ix a1))], mT s)) rfl ?_
            exact w_ret K rfl (hK _)
          · refine w_go K 0 (c' := (92, [some (.ref 0), some (.int a1), some (.int a2)], [], mT s)) rfl ?_
            refine w_go K 1 (c' := (93, [some (.ref 0), some (.int a1), some (.int a2)], [.int (-1)], mT s)) rfl ?_
            exact w_ret K rfl (hK _)
theorem m_G_at {len : Nat} {xs : Nat → Int32}  (d : Nat) (a1 : Int32) (a2 : Int32) (s : mS) : ok_G_at a1 a2 s → mm_call (mm_X len xs) mm_Y (d + 2) 121 [.ref 0, .int a1, .int a2] (mT s) = some (some (.int (f_G_at a1 a2 s)), mT s) := fun h => t_G_at (len := len) (xs := xs) d a1 a2 s (fun t => (some (some (.int t), mT s) : Option mm_R) = some (some (.int (f_G_at a1 a2 s)), mT s)) (fun _ h => h) h rfl
def f_M_at (a1 : Int32) (a2 : Int32) (s : mS) : Int32 := (mq_let (f_M_isNode a1 s) (fun (x10 : Int32) => (if x10 = 0 then (-1) else (if a2 = 0 then (if (gI s 116 55) ≤ a1 then 0 else (gI s 149 (ix a1))) else (if a2 = 1 then (if (gI s 116 55) ≤ a1 then 0 else (gI s 148 (ix a1))) else (if a2 = 2 then (if (gI s 130 (ix a1)) = 0 then 0 else 1) else (if a2 = 3 then (gI s 127 (ix a1)) else (-1))))))))
def ok_M_at (a1 : Int32) (a2 : Int32) (s : mS) : Prop := (ok_M_isNode a1 s ∧ mq_letP (f_M_isNode a1 s) (fun (x10 : Int32) => (if x10 = 0 then True else (if a2 = 0 then (if (gI s 116 55) ≤ a1 then True else (mm_inb a1 16 = true ∧ True)) else (if a2 = 1 then (if (gI s 116 55) ≤ a1 then True else (mm_inb a1 16 = true ∧ True)) else (if a2 = 2 then (mm_inb a1 16 = true ∧ True) else (if a2 = 3 then (mm_inb a1 16 = true ∧ True) else True)))))))
set_option maxRecDepth 4000 in
theorem t_M_at {len : Nat} {xs : Nat → Int32}  (d : Nat) (a1 : Int32) (a2 : Int32) (s : mS) {T : Option mm_R} (K : Int32 → Prop) (hK : ∀ t, K t → some (some (.int t), mT s) = T) : ok_M_at a1 a2 s → K (f_M_at a1 a2 s) → mm_fix (mm_X len xs) mm_Y (mm_call (mm_X len xs) mm_Y (d + 2)) (mm_look mc_M_at) (0, [some (.ref 116), some (.int a1), some (.int a2)], [], mT s) = T := by
  unfold ok_M_at f_M_at
  refine w_go K 2 (c' := (2, [some (.ref 116), some (.int a1), some (.int a2)], [.int a1, .ref 116], mT s)) rfl ?_
  refine w_callL K (E := f_M_isNode a1 s) (g := fun (x10 : Int32) => (some (.int x10), mT s)) rfl (m_M_isNode (len := len) (xs := xs) (d + 0) a1 s) (fun x10 => ?_)
  refine w_go K 0 (c' := (5, [some (.ref 116), some (.int a1), some (.int a2)], [.int x10], mT s)) rfl ?_
  refine w_zne K rfl (fun _ => ?_) (fun _ => ?_)
  · refine w_go K 1 (c' := (9, [some (.ref 116), some (.int a1), some (.int a2)], [.int (-1)], mT s)) rfl ?_
    exact w_ret K rfl (hK _)
  · refine w_go K 1 (c' := (11, [some (.ref 116), some (.int a1), some (.int a2)], [.int a2], mT s)) rfl ?_
    refine w_go K 1 (c' := (mm_sw [(0, 40), (1, 59), (2, 78), (3, 93)] 100 a2, [some (.ref 116), some (.int a1), some (.int a2)], [], mT s)) rfl ?_
    refine w_sw K (fun _ => ?_) (fun _ => ?_)
    · refine w_go K 3 (c' := (45, [some (.ref 116), some (.int a1), some (.int a2)], [.int (gI s 116 55), .int a1], mT s)) rfl ?_
      refine w_ige K rfl (fun _ => ?_) (fun _ => ?_)
      · refine w_go K 1 (c' := (58, [some (.ref 116), some (.int a1), some (.int a2)], [.int 0], mT s)) rfl ?_
        exact w_ret K rfl (hK _)
      · refine w_go K 3 (c' := (53, [some (.ref 116), some (.int a1), some (.int a2)], [.int a1, .ref 149], mT s)) rfl ?_
        refine w_ck K (st_iL rfl rfl) ?_
        refine w_go K 1 (c' := (58, [some (.ref 116), some (.int a1), some (.int a2)], [.int (gI s 149 (ix a1))], mT s)) rfl ?_
        exact w_ret K rfl (hK _)
    · refine w_sw K (fun _ => ?_) (fun _ => ?_)
      · refine w_go K 3 (c' := (64, [some (.ref 116), some (.int a1), some (.int a2)], [.int (gI s 116 55), .int a1], mT s)) rfl ?_
        refine w_ige K rfl (fun _ => ?_) (fun _ => ?_)
        · refine w_go K 1 (c' := (77, [some (.ref 116), some (.int a1), some (.int a2)], [.int 0], mT s)) rfl ?_
          exact w_ret K rfl (hK _)
        · refine w_go K 3 (c' := (72, [some (.ref 116), some (.int a1), some (.int a2)], [.int a1, .ref 148], mT s)) rfl ?_
          refine w_ck K (st_iL rfl rfl) ?_
          refine w_go K 1 (c' := (77, [some (.ref 116), some (.int a1), some (.int a2)], [.int (gI s 148 (ix a1))], mT s)) rfl ?_
          exact w_ret K rfl (hK _)
      · refine w_sw K (fun _ => ?_) (fun _ => ?_)
        · refine w_go K 3 (c' := (83, [some (.ref 116), some (.int a1), some (.int a2)], [.int a1, .ref 130], mT s)) rfl ?_
          refine w_ck K (st_bL rfl rfl) ?_
          refine w_go K 0 (c' := (84, [some (.ref 116), some (.int a1), some (.int a2)], [.int (gI s 130 (ix a1))], mT s)) rfl ?_
          refine w_zeqT K rfl (fun _ => ?_) (fun _ => ?_)
          · refine w_go K 1 (c' := (92, [some (.ref 116), some (.int a1), some (.int a2)], [.int 0], mT s)) rfl ?_
            exact w_ret K rfl (hK _)
          · refine w_go K 2 (c' := (92, [some (.ref 116), some (.int a1), some (.int a2)], [.int 1], mT s)) rfl ?_
            exact w_ret K rfl (hK _)
        · refine w_sw K (fun _ => ?_) (fun _ => ?_)
          · refine w_go K 3 (c' := (98, [some (.ref 116), some (.int a1), some (.int a2)], [.int a1, .ref 127], mT s)) rfl ?_
            refine w_ck K (st_iL rfl rfl) ?_
            refine w_go K 0 (c' := (99, [some (.ref 116), some (.int a1), some (.int a2)], [.int (gI s 127 (ix a1))], mT s)) rfl ?_
            exact w_ret K rfl (hK _)
          · refine w_go K 0 (c' := (100, [some (.ref 116), some (.int a1), some (.int a2)], [], mT s)) rfl ?_
            refine w_go K 1 (c' := (101, [some (.ref 116), some (.int a1), some (.int a2)], [.int (-1)], mT s)) rfl ?_
            exact w_ret K rfl (hK _)
theorem m_M_at {len : Nat} {xs : Nat → Int32}  (d : Nat) (a1 : Int32) (a2 : Int32) (s : mS) : ok_M_at a1 a2 s → mm_call (mm_X len xs) mm_Y (d + 3) 230 [.ref 116, .int a1, .int a2] (mT s) = some (some (.int (f_M_at a1 a2 s)), mT s) := fun h => t_M_at (len := len) (xs := xs) d a1 a2 s (fun t => (some (some (.int t), mT s) : Option mm_R) = some (some (.int (f_M_at a1 a2 s)), mT s)) (fun _ h => h) h rfl
def f_G_of (a1 : Int32) (a2 : Int32) (s : mS) : Int32 := (mq_let (f_Things_has a1 s) (fun (x10 : Int32) => (if x10 = 0 then (-1) else (if a2 = 0 then (mq_let (f_Things_wantOf a1 (gI s 0 9) s) (fun (x11 : Int32) => x11)) else (if a2 = 1 then (gI s 21 (ix a1)) else (if a2 = 2 then (gI s 20 (ix a1)) else (if a2 = 3 then (gI s 19 (ix a1)) else (if a2 = 4 then (gI s 22 (ix a1)) else (-1)))))))))
def ok_G_of (a1 : Int32) (a2 : Int32) (s : mS) : Prop := (True ∧ mq_letP (f_Things_has a1 s) (fun (x10 : Int32) => (if x10 = 0 then True else (if a2 = 0 then (ok_Things_wantOf a1 (gI s 0 9) s ∧ mq_letP (f_Things_wantOf a1 (gI s 0 9) s) (fun (x11 : Int32) => True)) else (if a2 = 1 then (mm_inb a1 40 = true ∧ True) else (if a2 = 2 then (mm_inb a1 40 = true ∧ True) else (if a2 = 3 then (mm_inb a1 40 = true ∧ True) else (if a2 = 4 then (mm_inb a1 40 = true ∧ True) else True))))))))
set_option maxRecDepth 4000 in
theorem t_G_of {len : Nat} {xs : Nat → Int32}  (d : Nat) (a1 : Int32) (a2 : Int32) (s : mS) {T : Option mm_R} (K : Int32 → Prop) (hK : ∀ t, K t → some (some (.int t), mT s) = T) : ok_G_of a1 a2 s → K (f_G_of a1 a2 s) → mm_fix (mm_X len xs) mm_Y (mm_call (mm_X len xs) mm_Y (d + 4)) (mm_look mc_G_of) (0, [some (.ref 0), some (.int a1), some (.int a2)], [], mT s) = T := by
  unfold ok_G_of f_G_of
  refine w_go K 3 (c' := (5, [some (.ref 0), some (.int a1), some (.int a2)], [.int a1, .ref 12], mT s)) rfl ?_
  refine w_callL K (E := f_Things_has a1 s) (g := fun (x10 : Int32) => (some (.int x10), mT s)) rfl (m_Things_has (len := len) (xs := xs) (d + 3) a1 s) (fun x10 => ?_)
  refine w_go K 0 (c' := (8, [some (.ref 0), some (.int a1), some (.int a2)], [.int x10], mT s)) rfl ?_
  refine w_zne K rfl (fun _ => ?_) (fun _ => ?_)
  · refine w_go K 1 (c' := (12, [some (.ref 0), some (.int a1), some (.int a2)], [.int (-1)], mT s)) rfl ?_
    exact w_ret K rfl (hK _)
  · refine w_go K 1 (c' := (14, [some (.ref 0), some (.int a1), some (.int a2)], [.int a2], mT s)) rfl ?_
    refine w_go K 1 (c' := (mm_sw [(0, 48), (1, 65), (2, 75), (3, 85), (4, 95)] 105 a2, [some (.ref 0), some (.int a1), some (.int a2)], [], mT s)) rfl ?_
    refine w_sw K (fun _ => ?_) (fun _ => ?_)
    · refine w_go K 7 (c' := (61, [some (.ref 0), some (.int a1), some (.int a2)], [.ref 1, .int (gI s 0 9), .int a1, .ref 12], mT s)) rfl ?_
      refine w_callL K (E := f_Things_wantOf a1 (gI s 0 9) s) (g := fun (x11 : Int32) => (some (.int x11), mT s)) rfl (m_Things_wantOf (len := len) (xs := xs) (d + 0) a1 (gI s 0 9) s) (fun x11 => ?_)
      refine w_go K 0 (c' := (64, [some (.ref 0), some (.int a1), some (.int a2)], [.int x11], mT s)) rfl ?_
      exact w_ret K rfl (hK _)
    · refine w_sw K (fun _ => ?_) (fun _ => ?_)
      · refine w_go K 4 (c' := (73, [some (.ref 0), some (.int a1), some (.int a2)], [.int a1, .ref 21], mT s)) rfl ?_
        refine w_ck K (st_iL rfl rfl) ?_
        refine w_go K 0 (c' := (74, [some (.ref 0), some (.int a1), some (.int a2)], [.int (gI s 21 (ix a1))], mT s)) rfl ?_
        exact w_ret K rfl (hK _)
      · refine w_sw K (fun _ => ?_) (fun _ => ?_)
        · refine w_go K 4 (c' := (83, [some (.ref 0), some (.int a1), some (.int a2)], [.int a1, .ref 20], mT s)) rfl ?_
          refine w_ck K (st_iL rfl rfl) ?_
          refine w_go K 0 (c' := (84, [some (.ref 0), some (.int a1), some (.int a2)], [.int (gI s 20 (ix a1))], mT s)) rfl ?_
          exact w_ret K rfl (hK _)
        · refine w_sw K (fun _ => ?_) (fun _ => ?_)
          · refine w_go K 4 (c' := (93, [some (.ref 0), some (.int a1), some (.int a2)], [.int a1, .ref 19], mT s)) rfl ?_
            refine w_ck K (st_iL rfl rfl) ?_
            refine w_go K 0 (c' := (94, [some (.ref 0), some (.int a1), some (.int a2)], [.int (gI s 19 (ix a1))], mT s)) rfl ?_
            exact w_ret K rfl (hK _)
          · refine w_sw K (fun _ => ?_) (fun _ => ?_)
            · refine w_go K 4 (c' := (103, [some (.ref 0), some (.int a1), some (.int a2)], [.int a1, .ref 22], mT s)) rfl ?_
              refine w_ck K (st_iL rfl rfl) ?_
              refine w_go K 0 (c' := (104, [some (.ref 0), some (.int a1), some (.int a2)], [.int (gI s 22 (ix a1))], mT s)) rfl ?_
              exact w_ret K rfl (hK _)
            · refine w_go K 0 (c' := (105, [some (.ref 0), some (.int a1), some (.int a2)], [], mT s)) rfl ?_
              refine w_go K 1 (c' := (106, [some (.ref 0), some (.int a1), some (.int a2)], [.int (-1)], mT s)) rfl ?_
              exact w_ret K rfl (hK _)
theorem m_G_of {len : Nat} {xs : Nat → Int32}  (d : Nat) (a1 : Int32) (a2 : Int32) (s : mS) : ok_G_of a1 a2 s → mm_call (mm_X len xs) mm_Y (d + 5) 122 [.ref 0, .int a1, .int a2] (mT s) = some (some (.int (f_G_of a1 a2 s)), mT s) := fun h => t_G_of (len := len) (xs := xs) d a1 a2 s (fun t => (some (some (.int t), mT s) : Option mm_R) = some (some (.int (f_G_of a1 a2 s)), mT s)) (fun _ h => h) h rfl
def f_M_of (a1 : Int32) (a2 : Int32) (s : mS) : Int32 := (mq_let (f_M_isThing a1 s) (fun (x10 : Int32) => (if x10 = 0 then (-1) else (if a2 = 0 then (mq_let (f_M_wants a1 (gI s 116 1) s) (fun (x11 : Int32) => x11)) else (if a2 = 1 then (gI s 138 (ix a1)) else (if a2 = 2 then (gI s 137 (ix a1)) else (if a2 = 3 then (gI s 136 (ix a1)) else (if a2 = 4 then (Int64.toInt32 (gL s 139 (ix a1))) else (-1)))))))))
def ok_M_of (a1 : Int32) (a2 : Int32) (s : mS) : Prop := (ok_M_isThing a1 s ∧ mq_letP (f_M_isThing a1 s) (fun (x10 : Int32) => (if x10 = 0 then True else (if a2 = 0 then (ok_M_wants a1 (gI s 116 1) s ∧ mq_letP (f_M_wants a1 (gI s 116 1) s) (fun (x11 : Int32) => True)) else (if a2 = 1 then (mm_inb a1 40 = true ∧ True) else (if a2 = 2 then (mm_inb a1 40 = true ∧ True) else (if a2 = 3 then (mm_inb a1 40 = true ∧ True) else (if a2 = 4 then (mm_inb a1 40 = true ∧ True) else True))))))))
set_option maxRecDepth 4000 in
theorem t_M_of {len : Nat} {xs : Nat → Int32}  (d : Nat) (a1 : Int32) (a2 : Int32) (s : mS) {T : Option mm_R} (K : Int32 → Prop) (hK : ∀ t, K t → some (some (.int t), mT s) = T) : ok_M_of a1 a2 s → K (f_M_of a1 a2 s) → mm_fix (mm_X len xs) mm_Y (mm_call (mm_X len xs) mm_Y (d + 3)) (mm_look mc_M_of) (0, [some (.ref 116), some (.int a1), some (.int a2)], [], mT s) = T := by
  unfold ok_M_of f_M_of
  refine w_go K 2 (c' := (2, [some (.ref 116), some (.int a1), some (.int a2)], [.int a1, .ref 116], mT s)) rfl ?_
  refine w_callL K (E := f_M_isThing a1 s) (g := fun (x10 : Int32) => (some (.int x10), mT s)) rfl (m_M_isThing (len := len) (xs := xs) (d + 1) a1 s) (fun x10 => ?_)
  refine w_go K 0 (c' := (5, [some (.ref 116), some (.int a1), some (.int a2)], [.int x10], mT s)) rfl ?_
  refine w_zne K rfl (fun _ => ?_) (fun _ => ?_)
  · refine w_go K 1 (c' := (9, [some (.ref 116), some (.int a1), some (.int a2)], [.int (-1)], mT s)) rfl ?_
    exact w_ret K rfl (hK _)
  · refine w_go K 1 (c' := (11, [some (.ref 116), some (.int a1), some (.int a2)], [.int a2], mT s)) rfl ?_
    refine w_go K 1 (c' := (mm_sw [(0, 44), (1, 54), (2, 61), (3, 68), (4, 75)] 83 a2, [some (.ref 116), some (.int a1), some (.int a2)], [], mT s)) rfl ?_
    refine w_sw K (fun _ => ?_) (fun _ => ?_)
    · refine w_go K 4 (c' := (50, [some (.ref 116), some (.int a1), some (.int a2)], [.int (gI s 116 1), .int a1, .ref 116], mT s)) rfl ?_
      refine w_callL K (E := f_M_wants a1 (gI s 116 1) s) (g := fun (x11 : Int32) => (some (.int x11), mT s)) rfl (m_M_wants (len := len) (xs := xs) (d + 0) a1 (gI s 116 1) s) (fun x11 => ?_)
      refine w_go K 0 (c' := (53, [some (.ref 116), some (.int a1), some (.int a2)], [.int x11], mT s)) rfl ?_
      exact w_ret K rfl (hK _)
    · refine w_sw K (fun _ => ?_) (fun _ => ?_)
      · refine w_go K 3 (c' := (59, [some (.ref 116), some (.int a1), some (.int a2)], [.int a1, .ref 138], mT s)) rfl ?_
        refine w_ck K (st_iL rfl rfl) ?_
        refine w_go K 0 (c' := (60, [some (.ref 116), some (.int a1), some (.int a2)], [.int (gI s 138 (ix a1))], mT s)) rfl ?_
        exact w_ret K rfl (hK _)
      · refine w_sw K (fun _ => ?_) (fun _ => ?_)
        · refine w_go K 3 (c' := (66, [some (.ref 116), some (.int a1), some (.int a2)], [.int a1, .ref 137], mT s)) rfl ?_
          refine w_ck K (st_iL rfl rfl) ?_
          refine w_go K 0 (c' := (67, [some (.ref 116), some (.int a1), some (.int a2)], [.int (gI s 137 (ix a1))], mT s)) rfl ?_
          exact w_ret K rfl (hK _)
        · refine w_sw K (fun _ => ?_) (fun _ => ?_)
          · refine w_go K 3 (c' := (73, [some (.ref 116), some (.int a1), some (.int a2)], [.int a1, .ref 136], mT s)) rfl ?_
            refine w_ck K (st_iL rfl rfl) ?_
            refine w_go K 0 (c' := (74, [some (.ref 116), some (.int a1), some (.int a2)], [.int (gI s 136 (ix a1))], mT s)) rfl ?_
            exact w_ret K rfl (hK _)
          · refine w_sw K (fun _ => ?_) (fun _ => ?_)
            · refine w_go K 3 (c' := (80, [some (.ref 116), some (.int a1), some (.int a2)], [.int a1, .ref 139], mT s)) rfl ?_
              refine w_ck K (st_lL rfl rfl) ?_
              refine w_go K 1 (c' := (82, [some (.ref 116), some (.int a1), some (.int a2)], [.int (Int64.toInt32 (gL s 139 (ix a1)))], mT s)) rfl ?_
              exact w_ret K rfl (hK _)
            · refine w_go K 0 (c' := (83, [some (.ref 116), some (.int a1), some (.int a2)], [], mT s)) rfl ?_
              refine w_go K 1 (c' := (84, [some (.ref 116), some (.int a1), some (.int a2)], [.int (-1)], mT s)) rfl ?_
              exact w_ret K rfl (hK _)
theorem m_M_of {len : Nat} {xs : Nat → Int32}  (d : Nat) (a1 : Int32) (a2 : Int32) (s : mS) : ok_M_of a1 a2 s → mm_call (mm_X len xs) mm_Y (d + 4) 231 [.ref 116, .int a1, .int a2] (mT s) = some (some (.int (f_M_of a1 a2 s)), mT s) := fun h => t_M_of (len := len) (xs := xs) d a1 a2 s (fun t => (some (some (.int t), mT s) : Option mm_R) = some (some (.int (f_M_of a1 a2 s)), mT s)) (fun _ h => h) h rfl
