/-! FUNCTIONS OF METHODS, by program: f_ what it does, ok_ that no row fails, m_ the small machine does so. -/
def lp_M_keeps_14  : Nat → Int32 → mS → Int32 × mS
  | 0, v1, s => (v1, s)
  | n + 1, v1, s => (if (gI s 116 7) ≤ v1 then (v1, s) else (mq_let (if (gI s 116 56) = 0 then (gI s 145 (ix v1)) else (0 : Int32)) (fun (x11 : Int32) => (lp_M_keeps_14 n (v1 + 1) (sI (sI (sI s 148 (ix v1) (gI s 144 (ix v1))) 149 (ix v1) x11) 131 (ix v1) (gI s 130 (ix v1)))))))
def okl_M_keeps_14  : Nat → Int32 → mS → Prop
  | 0, v1, s => False
  | n + 1, v1, s => (if (gI s 116 7) ≤ v1 then True else (mm_inb v1 16 = true ∧ (mm_inb v1 16 = true ∧ ((if (gI s 116 56) = 0 then (mm_inb v1 16 = true ∧ True) else True) ∧ mq_letP (if (gI s 116 56) = 0 then (gI s 145 (ix v1)) else (0 : Int32)) (fun (x11 : Int32) => (mm_inb v1 16 = true ∧ (mm_inb v1 16 = true ∧ ((mm_inb v1 16 && mm_bit (gI s 130 (ix v1))) = true ∧ (okl_M_keeps_14 n (v1 + 1) (sI (sI (sI s 148 (ix v1) (gI s 144 (ix v1))) 149 (ix v1) x11) 131 (ix v1) (gI s 130 (ix v1))))))))))))
set_option maxRecDepth 4000 in
theorem tl_M_keeps_14 {len : Nat} {xs : Nat → Int32}  (d : Nat)   {T : Option mm_R} (K : Int32 × mS → Prop) (hX : ∀ r, K r → mm_fix (mm_X len xs) mm_Y (mm_call (mm_X len xs) mm_Y (d + 1)) (mm_look mc_M_keeps) (75, [some (.ref 116), some (.int r.1)], [], mT r.2) = T) : ∀ (n : Nat), ∀ (v1 : Int32) (s : mS), okl_M_keeps_14 n v1 s → K (lp_M_keeps_14 n v1 s) → mm_fix (mm_X len xs) mm_Y (mm_call (mm_X len xs) mm_Y (d + 1)) (mm_look mc_M_keeps) (14, [some (.ref 116), some (.int v1)], [], mT s) = T := by
  intro n
  induction n with
  | zero => intro v1 s; exact fun h => h.elim
  | succ n ih =>
    intro v1 s
    rw [okl_M_keeps_14, lp_M_keeps_14]
    refine w_go K 3 (c' := (19, [some (.ref 116), some (.int v1)], [.int (gI s 116 7), .int v1], mT s)) rfl ?_
    refine w_ige K rfl (fun _ => ?_) (fun _ => ?_)
    · refine w_go K 0 (c' := (75, [some (.ref 116), some (.int v1)], [], mT s)) rfl ?_
      exact fun _ b => hX _ b
    · refine w_go K 6 (c' := (32, [some (.ref 116), some (.int v1)], [.int v1, .ref 144, .int v1, .ref 148], mT s)) rfl ?_
      refine w_ck K (st_iL rfl rfl) ?_
      refine w_go K 0 (c' := (33, [some (.ref 116), some (.int v1)], [.int (gI s 144 (ix v1)), .int v1, .ref 148], mT s)) rfl ?_
      refine w_ck K (st_iS rfl rfl) ?_
      refine w_go K 5 (c' := (43, [some (.ref 116), some (.int v1)], [.int (gI s 116 56), .int v1, .ref 149], mT (sI s 148 (ix v1) (gI s 144 (ix v1))))) rfl ?_
      refine w_join K (fun (x11 : Int32) => mm_fix (mm_X len xs) mm_Y (mm_call (mm_X len xs) mm_Y (d + 1)) (mm_look mc_M_keeps) (56, [some (.ref 116), some (.int v1)], [.int x11, .int v1, .ref 149], mT (sI s 148 (ix v1) (gI s 144 (ix v1)))) = T) (fun K hJ => ?_) (fun x11 h1 h2 => ?_)
      · refine w_go K 0 (c' := (43, [some (.ref 116), some (.int v1)], [.int (gI s 116 56), .int v1, .ref 149], mT (sI s 148 (ix v1) (gI s 144 (ix v1))))) rfl ?_
        refine w_zeq K rfl (fun _ => ?_) (fun _ => ?_)
        · refine w_go K 3 (c' := (55, [some (.ref 116), some (.int v1)], [.int v1, .ref 145, .int v1, .ref 149], mT (sI s 148 (ix v1) (gI s 144 (ix v1))))) rfl ?_
          refine w_ck K (st_iL rfl rfl) ?_
          refine w_go K 0 (c' := (56, [some (.ref 116), some (.int v1)], [.int (gI s 145 (ix v1)), .int v1, .ref 149], mT (sI s 148 (ix v1) (gI s 144 (ix v1))))) rfl ?_
          exact fun _ h => hJ _ h
        · refine w_go K 2 (c' := (56, [some (.ref 116), some (.int v1)], [.int 0, .int v1, .ref 149], mT (sI s 148 (ix v1) (gI s 144 (ix v1))))) rfl ?_
          exact fun _ h => hJ _ h
      · revert h1 h2
        refine w_go K 0 (c' := (56, [some (.ref 116), some (.int v1)], [.int x11, .int v1, .ref 149], mT (sI s 148 (ix v1) (gI s 144 (ix v1))))) rfl ?_
        refine w_ck K (st_iS rfl rfl) ?_
        refine w_go K 6 (c' := (67, [some (.ref 116), some (.int v1)], [.int v1, .ref 130, .int v1, .ref 131], mT (sI (sI s 148 (ix v1) (gI s 144 (ix v1))) 149 (ix v1) x11))) rfl ?_
        refine w_ck K (st_bL rfl rfl) ?_
        refine w_go K 0 (c' := (68, [some (.ref 116), some (.int v1)], [.int (gI s 130 (ix v1)), .int v1, .ref 131], mT (sI (sI s 148 (ix v1) (gI s 144 (ix v1))) 149 (ix v1) x11))) rfl ?_
        refine w_ck K (st_bS rfl rfl) ?_
        refine w_go K 2 (c' := (14, [some (.ref 116), some (.int (v1 + 1))], [], mT (sI (sI (sI s 148 (ix v1) (gI s 144 (ix v1))) 149 (ix v1) x11) 131 (ix v1) (gI s 130 (ix v1))))) rfl ?_
        exact fun a b => ih (v1 + 1) (sI (sI (sI s 148 (ix v1) (gI s 144 (ix v1))) 149 (ix v1) x11) 131 (ix v1) (gI s 130 (ix v1))) a b
def f_M_keeps  (s : mS) : mS := (mq_let (f_M_flows s) (fun (x10 : mS) => (mq_let (lp_M_keeps_14 mm_N (0 : Int32) (sI x10 116 55 (gI x10 116 7))) (fun (x12 : Int32 × mS) => x12.2))))
def ok_M_keeps  (s : mS) : Prop := (ok_M_flows s ∧ mq_letP (f_M_flows s) (fun (x10 : mS) => (okl_M_keeps_14 mm_N (0 : Int32) (sI x10 116 55 (gI x10 116 7)) ∧ mq_letP (lp_M_keeps_14 mm_N (0 : Int32) (sI x10 116 55 (gI x10 116 7))) (fun (x12 : Int32 × mS) => True))))
set_option maxRecDepth 4000 in
theorem t_M_keeps {len : Nat} {xs : Nat → Int32}  (d : Nat)  (s : mS) {T : Option mm_R} (K : mS → Prop) (hK : ∀ t, K t → some (none, mT t) = T) : ok_M_keeps s → K (f_M_keeps s) → mm_fix (mm_X len xs) mm_Y (mm_call (mm_X len xs) mm_Y (d + 1)) (mm_look mc_M_keeps) (0, [some (.ref 116), none], [], mT s) = T := by
  unfold ok_M_keeps f_M_keeps
  refine w_go K 1 (c' := (1, [some (.ref 116), none], [.ref 116], mT s)) rfl ?_
  refine w_callL K (E := f_M_flows s) (g := fun (x10 : mS) => (none, mT x10)) rfl (m_M_flows (len := len) (xs := xs) (d + 0) s) (fun x10 => ?_)
  refine w_go K 6 (c' := (14, [some (.ref 116), some (.int 0)], [], mT (sI x10 116 55 (gI x10 116 7)))) rfl ?_
  refine w_join K (fun (x12 : Int32 × mS) => mm_fix (mm_X len xs) mm_Y (mm_call (mm_X len xs) mm_Y (d + 1)) (mm_look mc_M_keeps) (75, [some (.ref 116), some (.int x12.1)], [], mT x12.2) = T) (fun K hJ => tl_M_keeps_14 (len := len) (xs := xs) d (T := T) K hJ mm_N (0 : Int32) (sI x10 116 55 (gI x10 116 7))) (fun x12 h1 h2 => ?_)
  revert h1 h2
  refine w_go K 0 (c' := (75, [some (.ref 116), some (.int x12.1)], [], mT x12.2)) rfl ?_
  exact w_ret K rfl (hK _)
theorem m_M_keeps {len : Nat} {xs : Nat → Int32}  (d : Nat)  (s : mS) : ok_M_keeps s → mm_call (mm_X len xs) mm_Y (d + 2) 189 [.ref 116] (mT s) = some (none, mT (f_M_keeps s)) := fun h => t_M_keeps (len := len) (xs := xs) d s (fun t => (some (none, mT t) : Option mm_R) = some (none, mT (f_M_keeps s))) (fun _ h => h) h rfl
def f_M_asks (a1 : Int32) (a2 : Int32) (a3 : Int32) (s : mS) : mS := (mq_let (f_M_fogIn a1 (sI (sI s 169 1 ((a1 - a1 / 96 * 96) / 4)) 169 2 (a1 / 96))) (fun (x10 : Int32) => sI (sI (sI (sI (sI s 169 1 ((a1 - a1 / 96 * 96) / 4)) 169 2 (a1 / 96)) 169 3 x10) 169 4 a3) 169 5 a2))
def ok_M_asks (a1 : Int32) (a2 : Int32) (a3 : Int32) (s : mS) : Prop := (ok_M_fogIn a1 (sI (sI s 169 1 ((a1 - a1 / 96 * 96) / 4)) 169 2 (a1 / 96)) ∧ mq_letP (f_M_fogIn a1 (sI (sI s 169 1 ((a1 - a1 / 96 * 96) / 4)) 169 2 (a1 / 96))) (fun (x10 : Int32) => True))
set_option maxRecDepth 4000 in
theorem t_M_asks {len : Nat} {xs : Nat → Int32}  (d : Nat) (a1 : Int32) (a2 : Int32) (a3 : Int32) (s : mS) {T : Option mm_R} (K : mS → Prop) (hK : ∀ t, K t → some (none, mT t) = T) : ok_M_asks a1 a2 a3 s → K (f_M_asks a1 a2 a3 s) → mm_fix (mm_X len xs) mm_Y (mm_call (mm_X len xs) mm_Y (d + 1)) (mm_look mc_M_asks) (0, [some (.ref 116), some (.int a1), some (.int a2), some (.int a3)], [], mT s) = T := by
  unfold ok_M_asks f_M_asks
  refine w_go K 21 (c' := (29, [some (.ref 116), some (.int a1), some (.int a2), some (.int a3)], [.int a1, .ref 116, .int 3, .ref 169], mT (sI (sI s 169 1 ((a1 - a1 / 96 * 96) / 4)) 169 2 (a1 / 96)))) rfl ?_
  refine w_callL K (E := f_M_fogIn a1 (sI (sI s 169 1 ((a1 - a1 / 96 * 96) / 4)) 169 2 (a1 / 96))) (g := fun (x10 : Int32) => (some (.int x10), mT (sI (sI s 169 1 ((a1 - a1 / 96 * 96) / 4)) 169 2 (a1 / 96)))) rfl (m_M_fogIn (len := len) (xs := xs) (d + 0) a1 (sI (sI s 169 1 ((a1 - a1 / 96 * 96) / 4)) 169 2 (a1 / 96))) (fun x10 => ?_)
  refine w_go K 11 (c' := (47, [some (.ref 116), some (.int a1), some (.int a2), some (.int a3)], [], mT (sI (sI (sI (sI (sI s 169 1 ((a1 - a1 / 96 * 96) / 4)) 169 2 (a1 / 96)) 169 3 x10) 169 4 a3) 169 5 a2))) rfl ?_
  exact w_ret K rfl (hK _)
theorem m_M_asks {len : Nat} {xs : Nat → Int32}  (d : Nat) (a1 : Int32) (a2 : Int32) (a3 : Int32) (s : mS) : ok_M_asks a1 a2 a3 s → mm_call (mm_X len xs) mm_Y (d + 2) 191 [.ref 116, .int a1, .int a2, .int a3] (mT s) = some (none, mT (f_M_asks a1 a2 a3 s)) := fun h => t_M_asks (len := len) (xs := xs) d a1 a2 a3 s (fun t => (some (none, mT t) : Option mm_R) = some (none, mT (f_M_asks a1 a2 a3 s))) (fun _ h => h) h rfl
def f_M_both (a0 : Int32) (a1 : Int32) (a2 : Int32) (s : mS) : Int32 := (if a0 = 6 then (a1 + a2) else (if a0 = 7 then (a1 - a2) else (if a0 = 8 then (a1 * a2) else (if a0 = 9 then (a1 ||| a2) else (if a0 = 10 then (if a2 ≤ a1 then 0 else 1) else (if a0 = 11 then (if a1 = a2 then 1 else 0) else (if a0 = 12 then (if a1 ≤ a2 then 0 else 1) else (if a0 = 13 then (a1 ||| a2) else (if a0 = 14 then (a1 &&& a2) else (a1 ||| a2))))))))))
set_option maxRecDepth 4000 in
theorem t_M_both {len : Nat} {xs : Nat → Int32}  (d : Nat) (a0 : Int32) (a1 : Int32) (a2 : Int32) (s : mS) {T : Option mm_R} (K : Int32 → Prop) (hK : ∀ t, K t → some (some (.int t), mT s) = T) : True → K (f_M_both a0 a1 a2 s) → mm_fix (mm_X len xs) mm_Y (mm_call (mm_X len xs) mm_Y (d + 0)) (mm_look mc_M_both) (0, [some (.int a0), some (.int a1), some (.int a2)], [], mT s) = T := by
  unfold f_M_both
  refine w_go K 1 (c' := (1, [some (.int a0), some (.int a1), some (.int a2)], [.int a0], mT s)) rfl ?_
  refine w_go K 1 (c' := (mm_sw [(6, 52), (7, 56), (8, 60), (9, 101), (10, 64), (11, 75), (12, 86), (13, 101), (14, 97)] 101 a0, [some (.int a0), some (.int a1), some (.int a2)], [], mT s)) rfl ?_
  refine w_swT K (fun _ => ?_) (fun _ => ?_)
  · refine w_go K 3 (c' := (55, [some (.int a0), some (.int a1), some (.int a2)], [.int (a1 + a2)], mT s)) rfl ?_
    exact w_ret K rfl (hK _)
  · refine w_swT K (fun _ => ?_) (fun _ => ?_)
    · refine w_go K 3 (c' := (59, [some (.int a0), some (.int a1), some (.int a2)], [.int (a1 - a2)], mT s)) rfl ?_
      exact w_ret K rfl (hK _)
    · refine w_swT K (fun _ => ?_) (fun _ => ?_)
      · refine w_go K 3 (c' := (63, [some (.int a0), some (.int a1), some (.int a2)], [.int (a1 * a2)], mT s)) rfl ?_
        exact w_ret K rfl (hK _)
      · refine w_swT K (fun _ => ?_) (fun _ => ?_)
        · refine w_go K 3 (c' := (104, [some (.int a0), some (.int a1), some (.int a2)], [.int (a1 ||| a2)], mT s)) rfl ?_
          exact w_ret K rfl (hK _)
        · refine w_swT K (fun _ => ?_) (fun _ => ?_)
          · refine w_go K 2 (c' := (66, [some (.int a0), some (.int a1), some (.int a2)], [.int a2, .int a1], mT s)) rfl ?_
            refine w_igeT K rfl (fun _ => ?_) (fun _ => ?_)
            · refine w_go K 1 (c' := (74, [some (.int a0), some (.int a1), some (.int a2)], [.int 0], mT s)) rfl ?_
              exact w_ret K rfl (hK _)
            · refine w_go K 2 (c' := (74, [some (.int a0), some (.int a1), some (.int a2)], [.int 1], mT s)) rfl ?_
              exact w_ret K rfl (hK _)
          · refine w_swT K (fun _ => ?_) (fun _ => ?_)
            · refine w_go K 2 (c' := (77, [some (.int a0), some (.int a1), some (.int a2)], [.int a2, .int a1], mT s)) rfl ?_
              refine w_ineT K rfl (fun _ => ?_) (fun _ => ?_)
              · refine w_go K 2 (c' := (85, [some (.int a0), some (.int a1), some (.int a2)], [.int 1], mT s)) rfl ?_
                exact w_ret K rfl (hK _)
              · refine w_go K 1 (c' := (85, [some (.int a0), some (.int a1), some (.int a2)], [.int 0], mT s)) rfl ?_
                exact w_ret K rfl (hK _)
            · refine w_swT K (fun _ => ?_) (fun _ => ?_)
              · refine w_go K 2 (c' := (88, [some (.int a0), some (.int a1), some (.int a2)], [.int a2, .int a1], mT s)) rfl ?_
                refine w_ileT K rfl (fun _ => ?_) (fun _ => ?_)
                · refine w_go K 1 (c' := (96, [some (.int a0), some (.int a1), some (.int a2)], [.int 0], mT s)) rfl ?_
                  exact w_ret K rfl (hK _)
                · refine w_go K 2 (c' := (96, [some (.int a0), some (.int a1), some (.int a2)], [.int 1], mT s)) rfl ?_
                  exact w_ret K rfl (hK _)
              · refine w_swT K (fun _ => ?_) (fun _ => ?_)
                · refine w_go K 3 (c' := (104, [some (.int a0), some (.int a1), some (.int a2)], [.int (a1 ||| a2)], mT s)) rfl ?_
                  exact w_ret K rfl (hK _)
                · refine w_swT K (fun _ => ?_) (fun _ => ?_)
                  · refine w_go K 3 (c' := (100, [some (.int a0), some (.int a1), some (.int a2)], [.int (a1 &&& a2)], mT s)) rfl ?_
                    exact w_ret K rfl (hK _)
                  · refine w_go K 0 (c' := (101, [some (.int a0), some (.int a1), some (.int a2)], [], mT s)) rfl ?_
                    refine w_go K 3 (c' := (104, [some (.int a0), some (.int a1), some (.int a2)], [.int (a1 ||| a2)], mT s)) rfl ?_
                    exact w_ret K rfl (hK _)
theorem m_M_both {len : Nat} {xs : Nat → Int32}  (d : Nat) (a0 : Int32) (a1 : Int32) (a2 : Int32) (s : mS) : True → mm_call (mm_X len xs) mm_Y (d + 1) 194 [.int a0, .int a1, .int a2] (mT s) = some (some (.int (f_M_both a0 a1 a2 s)), mT s) := fun h => t_M_both (len := len) (xs := xs) d a0 a1 a2 s (fun t => (some (some (.int t), mT s) : Option mm_R) = some (some (.int (f_M_both a0 a1 a2 s)), mT s)) (fun _ h => h) h rfl
def lp_M_comesTo_6 (a1 : Int32) (a3 : Int32) : Nat → Int32 → Int32 → mS → Int32 × Int32 × mS
  | 0, v4, v5, s => (v4, v5, s)
  | n + 1, v4, v5, s => (if a3 ≤ v5 then (v4, v5, s) else (if (6 : Int32) ≤ (gI s 162 (ix ((1220 * a1) + (2 * v5)))) then (if (gI s 162 (ix ((1220 * a1) + (2 * v5)))) = 9 then (lp_M_comesTo_6 a1 a3 n v4 (v5 + 1) (sI s 168 (ix (v4 - 1)) ((gI s 168 (ix (v4 - 1))) / (gI s 162 (ix (((1220 * a1) + (2 * v5)) + 1)))))) else (if (gI s 162 (ix ((1220 * a1) + (2 * v5)))) = 13 then (lp_M_comesTo_6 a1 a3 n v4 (v5 + 1) (sI s 168 (ix (v4 - 1)) (1 - (gI s 168 (ix (v4 - 1)))))) else (mq_let (v4 + (-1)) (fun (x10 : Int32) => (mq_let (f_M_both (gI s 162 (ix ((1220 * a1) + (2 * v5)))) (gI s 168 (ix (x10 - 1))) (gI s 168 (ix x10)) s) (fun (x11 : Int32) => (lp_M_comesTo_6 a1 a3 n x10 (v5 + 1) (sI s 168 (ix (x10 - 1)) x11)))))))) else (mq_let (if (gI s 162 (ix ((1220 * a1) + (2 * v5)))) = 0 then (gI s 162 (ix (((1220 * a1) + (2 * v5)) + 1))) else (gI s 169 (ix (gI s 162 (ix ((1220 * a1) + (2 * v5))))))) (fun (x12 : Int32) => (lp_M_comesTo_6 a1 a3 n (v4 + 1) (v5 + 1) (sI s 168 (ix v4) x12))))))
def okl_M_comesTo_6 (a1 : Int32) (a3 : Int32) : Nat → Int32 → Int32 → mS → Prop
  | 0, v4, v5, s => False
  | n + 1, v4, v5, s => (if a3 ≤ v5 then True else (mm_inb ((1220 * a1) + (2 * v5)) 4880 = true ∧ (mm_inb (((1220 * a1) + (2 * v5)) + 1) 4880 = true ∧ (if (6 : Int32) ≤ (gI s 162 (ix ((1220 * a1) + (2 * v5)))) then (if (gI s 162 (ix ((1220 * a1) + (2 * v5)))) = 9 then (mm_inb (v4 - 1) 620 = true ∧ ((!(decide ((gI s 162 (ix (((1220 * a1) + (2 * v5)) + 1))) = (0 : Int32)))) = true ∧ (mm_inb (v4 - 1) 620 = true ∧ (okl_M_comesTo_6 a1 a3 n v4 (v5 + 1) (sI s 168 (ix (v4 - 1)) ((gI s 168 (ix (v4 - 1))) / (gI s 162 (ix (((1220 * a1) + (2 * v5)) + 1))))))))) else (if (gI s 162 (ix ((1220 * a1) + (2 * v5)))) = 13 then (mm_inb (v4 - 1) 620 = true ∧ (mm_inb (v4 - 1) 620 = true ∧ (okl_M_comesTo_6 a1 a3 n v4 (v5 + 1) (sI s 168 (ix (v4 - 1)) (1 - (gI s 168 (ix (v4 - 1)))))))) else (mq_letP (v4 + (-1)) (fun (x10 : Int32) => (mm_inb (x10 - 1) 620 = true ∧ (mm_inb x10 620 = true ∧ (True ∧ mq_letP (f_M_both (gI s 162 (ix ((1220 * a1) + (2 * v5)))) (gI s 168 (ix (x10 - 1))) (gI s 168 (ix x10)) s) (fun (x11 : Int32) => (mm_inb (x10 - 1) 620 = true ∧ (okl_M_comesTo_6 a1 a3 n x10 (v5 + 1) (sI s 168 (ix (x10 - 1)) x11))))))))))) else ((if (gI s 162 (ix ((1220 * a1) + (2 * v5)))) = 0 then True else (mm_inb (gI s 162 (ix ((1220 * a1) + (2 * v5)))) 6 = true ∧ True)) ∧ mq_letP (if (gI s 162 (ix ((1220 * a1) + (2 * v5)))) = 0 then (gI s 162 (ix (((1220 * a1) + (2 * v5)) + 1))) else (gI s 169 (ix (gI s 162 (ix ((1220 * a1) + (2 * v5))))))) (fun (x12 : Int32) => (mm_inb v4 620 = true ∧ (okl_M_comesTo_6 a1 a3 n (v4 + 1) (v5 + 1) (sI s 168 (ix v4) x12)))))))))
set_option maxRecDepth 4000 in
theorem tl_M_comesTo_6 {len : Nat} {xs : Nat → Int32}  (d : Nat) (a1 : Int32) (a3 : Int32)  {T : Option mm_R} (K : Int32 × Int32 × mS → Prop) (hX : ∀ r, K r → ∀ (o2 : Option Value) (o6 : Option Value) (o7 : Option Value), mm_fix (mm_X len xs) mm_Y (mm_call (mm_X len xs) mm_Y (d + 1)) (mm_look mc_M_comesTo) (178, [some (.ref 116), some (.int a1), o2, some (.int a3), some (.int r.1), some (.int r.2.1), o6, o7], [], mT r.2.2) = T) : ∀ (n : Nat), ∀ (v4 : Int32) (v5 : Int32) (o2 : Option Value) (o6 : Option Value) (o7 : Option Value) (s : mS), okl_M_comesTo_6 a1 a3 n v4 v5 s → K (lp_M_comesTo_6 a1 a3 n v4 v5 s) → mm_fix (mm_X len xs) mm_Y (mm_call (mm_X len xs) mm_Y (d + 1)) (mm_look mc_M_comesTo) (6, [some (.ref 116), some (.int a1), o2, some (.int a3), some (.int v4), some (.int v5), o6, o7], [], mT s) = T := by
  intro n
  induction n with
  | zero => intro v4 v5 o2 o6 o7 s; exact fun h => h.elim
  | succ n ih =>
    intro v4 v5 o2 o6 o7 s
    rw [okl_M_comesTo_6, lp_M_comesTo_6]
    refine w_go K 2 (c' := (9, [some (.ref 116), some (.int a1), o2, some (.int a3), some (.int v4), some (.int v5), o6, o7], [.int a3, .int v5], mT s)) rfl ?_
    refine w_ige K rfl (fun _ => ?_) (fun _ => ?_)
    · refine w_go K 0 (c' := (178, [some (.ref 116), some (.int a1), o2, some (.int a3), some (.int v4), some (.int v5), o6, o7], [], mT s)) rfl ?_
      exact fun _ b => hX _ b _ _ _
    · refine w_go K 9 (c' := (26, [some (.ref 116), some (.int a1), o2, some (.int a3), some (.int v4), some (.int v5), o6, o7], [.int ((1220 * a1) + (2 * v5)), .ref 162], mT s)) rfl ?_
      refine w_ck K (st_iL rfl rfl) ?_
      refine w_go K 12 (c' := (45, [some (.ref 116), some (.int a1), o2, some (.int a3), some (.int v4), some (.int v5), some (.int (gI s 162 (ix ((1220 * a1) + (2 * v5))))), o7], [.int (((1220 * a1) + (2 * v5)) + 1), .ref 162], mT s)) rfl ?_
      refine w_ck K (st_iL rfl rfl) ?_
      refine w_go K 3 (c' := (52, [some (.ref 116), some (.int a1), o2, some (.int a3), some (.int v4), some (.int v5), some (.int (gI s 162 (ix ((1220 * a1) + (2 * v5))))), some (.int (gI s 162 (ix (((1220 * a1) + (2 * v5)) + 1))))], [.int 6, .int (gI s 162 (ix ((1220 * a1) + (2 * v5))))], mT s)) rfl ?_
      refine w_ige K rfl (fun _ => ?_) (fun _ => ?_)
      · refine w_go K 2 (c' := (89, [some (.ref 116), some (.int a1), o2, some (.int a3), some (.int v4), some (.int v5), some (.int (gI s 162 (ix ((1220 * a1) + (2 * v5))))), some (.int (gI s 162 (ix (((1220 * a1) + (2 * v5)) + 1))))], [.int 9, .int (gI s 162 (ix ((1220 * a1) + (2 * v5))))], mT s)) rfl ?_
        refine w_ine K rfl (fun _ => ?_) (fun _ => ?_)
        · refine w_go K 6 (c' := (101, [some (.ref 116), some (.int a1), o2, some (.int a3), some (.int v4), some (.int v5), some (.int (gI s 162 (ix ((1220 * a1) + (2 * v5))))), some (.int (gI s 162 (ix (((1220 * a1) + (2 * v5)) + 1))))], [.int (v4 - 1), .ref 168, .int (v4 - 1), .ref 168], mT s)) rfl ?_
          refine w_ck K (st_iL rfl rfl) ?_
          refine w_go K 1 (c' := (104, [some (.ref 116), some (.int a1), o2, some (.int a3), some (.int v4), some (.int v5), some (.int (gI s 162 (ix ((1220 * a1) + (2 * v5))))), some (.int (gI s 162 (ix (((1220 * a1) + (2 * v5)) + 1))))], [.int (gI s 162 (ix (((1220 * a1) + (2 * v5)) + 1))), .int (gI s 168 (ix (v4 - 1))), .int (v4 - 1), .ref 168], mT s)) rfl ?_
          refine w_ck K rfl ?_
          refine w_go K 0 (c' := (105, [some (.ref 116), some (.int a1), o2, some (.int a3), some (.int v4), some (.int v5), some (.int (gI s 162 (ix ((1220 * a1) + (2 * v5))))), some (.int (gI s 162 (ix (((1220 * a1) + (2 * v5)) + 1))))], [.int ((gI s 168 (ix (v4 - 1))) / (gI s 162 (ix (((1220 * a1) + (2 * v5)) + 1)))), .int (v4 - 1), .ref 168], mT s)) rfl ?_
          refine w_ck K (st_iS rfl rfl) ?_
          refine w_go K 3 (c' := (6, [some (.ref 116), some (.int a1), o2, some (.int a3), some (.int v4), some (.int (v5 + 1)), some (.int (gI s 162 (ix ((1220 * a1) + (2 * v5))))), some (.int (gI s 162 (ix (((1220 * a1) + (2 * v5)) + 1))))], [], mT (sI s 168 (ix (v4 - 1)) ((gI s 168 (ix (v4 - 1))) / (gI s 162 (ix (((1220 * a1) + (2 * v5)) + 1))))))) rfl ?_
          exact fun a b => ih v4 (v5 + 1) _ _ _ (sI s 168 (ix (v4 - 1)) ((gI s 168 (ix (v4 - 1))) / (gI s 162 (ix (((1220 * a1) + (2 * v5)) + 1))))) a b
        · refine w_go K 2 (c' := (113, [some (.ref 116), some (.int a1), o2, some (.int a3), some (.int v4), some (.int v5), some (.int (gI s 162 (ix ((1220 * a1) + (2 * v5))))), some (.int (gI s 162 (ix (((1220 * a1) + (2 * v5)) + 1))))], [.int 13, .int (gI s 162 (ix ((1220 * a1) + (2 * v5))))], mT s)) rfl ?_
          refine w_ine K rfl (fun _ => ?_) (fun _ => ?_)
          · refine w_go K 11 (c' := (133, [some (.ref 116), some (.int a1), o2, some (.int a3), some (.int v4), some (.int v5), some (.int (gI s 162 (ix ((1220 * a1) + (2 * v5))))), some (.int (gI s 162 (ix (((1220 * a1) + (2 * v5)) + 1))))], [.int (v4 - 1), .ref 168, .int 1, .int (v4 - 1), .ref 168], mT s)) rfl ?_
            refine w_ck K (st_iL rfl rfl) ?_
            refine w_go K 1 (c' := (135, [some (.ref 116), some (.int a1), o2, some (.int a3), some (.int v4), some (.int v5), some (.int (gI s 162 (ix ((1220 * a1) + (2 * v5))))), some (.int (gI s 162 (ix (((1220 * a1) + (2 * v5)) + 1))))], [.int (1 - (gI s 168 (ix (v4 - 1)))), .int (v4 - 1), .ref 168], mT s)) rfl ?_
            refine w_ck K (st_iS rfl rfl) ?_
            refine w_go K 3 (c' := (6, [some (.ref 116), some (.int a1), o2, some (.int a3), some (.int v4), some (.int (v5 + 1)), some (.int (gI s 162 (ix ((1220 * a1) + (2 * v5))))), some (.int (gI s 162 (ix (((1220 * a1) + (2 * v5)) + 1))))], [], mT (sI s 168 (ix (v4 - 1)) (1 - (gI s 168 (ix (v4 - 1))))))) rfl ?_
            exact fun a b => ih v4 (v5 + 1) _ _ _ (sI s 168 (ix (v4 - 1)) (1 - (gI s 168 (ix (v4 - 1))))) a b
          · refine w_go K 1 (c' := (142, [some (.ref 116), some (.int a1), o2, some (.int a3), some (.int (v4 + (-1))), some (.int v5), some (.int (gI s 162 (ix ((1220 * a1) + (2 * v5))))), some (.int (gI s 162 (ix (((1220 * a1) + (2 * v5)) + 1))))], [], mT s)) rfl ?_
            refine w_bind K (c := fun (x10 : Int32) => (142, [some (.ref 116), some (.int a1), o2, some (.int a3), some (.int x10), some (.int v5), some (.int (gI s 162 (ix ((1220 * a1) + (2 * v5))))), some (.int (gI s 162 (ix (((1220 * a1) + (2 * v5)) + 1))))], [], mT s)) (fun x10 => ?_)
            refine w_go K 11 (c' := (160, [some (.ref 116), some (.int a1), o2, some (.int a3), some (.int x10), some (.int v5), some (.int (gI s 162 (ix ((1220 * a1) + (2 * v5))))), some (.int (gI s 162 (ix (((1220 * a1) + (2 * v5)) + 1))))], [.int (x10 - 1), .ref 168, .int (gI s 162 (ix ((1220 * a1) + (2 * v5)))), .int (x10 - 1), .ref 168], mT s)) rfl ?_
            refine w_ck K (st_iL rfl rfl) ?_
            refine w_go K 3 (c' := (167, [some (.ref 116), some (.int a1), o2, some (.int a3), some (.int x10), some (.int v5), some (.int (gI s 162 (ix ((1220 * a1) + (2 * v5))))), some (.int (gI s 162 (ix (((1220 * a1) + (2 * v5)) + 1))))], [.int x10, .ref 168, .int (gI s 168 (ix (x10 - 1))), .int (gI s 162 (ix ((1220 * a1) + (2 * v5)))), .int (x10 - 1), .ref 168], mT s)) rfl ?_
            refine w_ck K (st_iL rfl rfl) ?_
            refine w_go K 0 (c' := (168, [some (.ref 116), some (.int a1), o2, some (.int a3), some (.int x10), some (.int v5), some (.int (gI s 162 (ix ((1220 * a1) + (2 * v5))))), some (.int (gI s 162 (ix (((1220 * a1) + (2 * v5)) + 1))))], [.int (gI s 168 (ix x10)), .int (gI s 168 (ix (x10 - 1))), .int (gI s 162 (ix ((1220 * a1) + (2 * v5)))), .int (x10 - 1), .ref 168], mT s)) rfl ?_
            refine w_callL K (E := f_M_both (gI s 162 (ix ((1220 * a1) + (2 * v5)))) (gI s 168 (ix (x10 - 1))) (gI s 168 (ix x10)) s) (g := fun (x11 : Int32) => (some (.int x11), mT s)) rfl (m_M_both (len := len) (xs := xs) (d + 0) (gI s 162 (ix ((1220 * a1) + (2 * v5)))) (gI s 168 (ix (x10 - 1))) (gI s 168 (ix x10)) s) (fun x11 => ?_)
            refine w_go K 0 (c' := (171, [some (.ref 116), some (.int a1), o2, some (.int a3), some (.int x10), some (.int v5), some (.int (gI s 162 (ix ((1220 * a1) + (2 * v5))))), some (.int (gI s 162 (ix (((1220 * a1) + (2 * v5)) + 1))))], [.int x11, .int (x10 - 1), .ref 168], mT s)) rfl ?_
            refine w_ck K (st_iS rfl rfl) ?_
            refine w_go K 2 (c' := (6, [some (.ref 116), some (.int a1), o2, some (.int a3), some (.int x10), some (.int (v5 + 1)), some (.int (gI s 162 (ix ((1220 * a1) + (2 * v5))))), some (.int (gI s 162 (ix (((1220 * a1) + (2 * v5)) + 1))))], [], mT (sI s 168 (ix (x10 - 1)) x11))) rfl ?_
            exact fun a b => ih x10 (v5 + 1) _ _ _ (sI s 168 (ix (x10 - 1)) x11) a b
      · refine w_go K 4 (c' := (63, [some (.ref 116), some (.int a1), o2, some (.int a3), some (.int v4), some (.int v5), some (.int (gI s 162 (ix ((1220 * a1) + (2 * v5))))), some (.int (gI s 162 (ix (((1220 * a1) + (2 * v5)) + 1))))], [.int (gI s 162 (ix ((1220 * a1) + (2 * v5)))), .int v4, .ref 168], mT s)) rfl ?_
        refine w_join K (fun (x12 : Int32) => mm_fix (mm_X len xs) mm_Y (mm_call (mm_X len xs) mm_Y (d + 1)) (mm_look mc_M_comesTo) (78, [some (.ref 116), some (.int a1), o2, some (.int a3), some (.int v4), some (.int v5), some (.int (gI s 162 (ix ((1220 * a1) + (2 * v5))))), some (.int (gI s 162 (ix (((1220 * a1) + (2 * v5)) + 1))))], [.int x12, .int v4, .ref 168], mT s) = T) (fun K hJ => ?_) (fun x12 h1 h2 => ?_)
        · refine w_go K 0 (c' := (63, [some (.ref 116), some (.int a1), o2, some (.int a3), some (.int v4), some (.int v5), some (.int (gI s 162 (ix ((1220 * a1) + (2 * v5))))), some (.int (gI s 162 (ix (((1220 * a1) + (2 * v5)) + 1))))], [.int (gI s 162 (ix ((1220 * a1) + (2 * v5)))), .int v4, .ref 168], mT s)) rfl ?_
          refine w_zne K rfl (fun _ => ?_) (fun _ => ?_)
          · refine w_go K 2 (c' := (78, [some (.ref 116), some (.int a1), o2, some (.int a3), some (.int v4), some (.int v5), some (.int (gI s 162 (ix ((1220 * a1) + (2 * v5))))), some (.int (gI s 162 (ix (((1220 * a1) + (2 * v5)) + 1))))], [.int (gI s 162 (ix (((1220 * a1) + (2 * v5)) + 1))), .int v4, .ref 168], mT s)) rfl ?_
            exact fun _ h => hJ _ h
          · refine w_go K 3 (c' := (77, [some (.ref 116), some (.int a1), o2, some (.int a3), some (.int v4), some (.int v5), some (.int (gI s 162 (ix ((1220 * a1) + (2 * v5))))), some (.int (gI s 162 (ix (((1220 * a1) + (2 * v5)) + 1))))], [.int (gI s 162 (ix ((1220 * a1) + (2 * v5)))), .ref 169, .int v4, .ref 168], mT s)) rfl ?_
            refine w_ck K (st_iL rfl rfl) ?_
            refine w_go K 0 (c' := (78, [some (.ref 116), some (.int a1), o2, some (.int a3), some (.int v4), some (.int v5), some (.int (gI s 162 (ix ((1220 * a1) + (2 * v5))))), some (.int (gI s 162 (ix (((1220 * a1) + (2 * v5)) + 1))))], [.int (gI s 169 (ix (gI s 162 (ix ((1220 * a1) + (2 * v5)))))), .int v4, .ref 168], mT s)) rfl ?_
            exact fun _ h => hJ _ h
        · revert h1 h2
          refine w_go K 0 (c' := (78, [some (.ref 116), some (.int a1), o2, some (.int a3), some (.int v4), some (.int v5), some (.int (gI s 162 (ix ((1220 * a1) + (2 * v5))))), some (.int (gI s 162 (ix (((1220 * a1) + (2 * v5)) + 1))))], [.int x12, .int v4, .ref 168], mT s)) rfl ?_
          refine w_ck K (st_iS rfl rfl) ?_
          refine w_go K 4 (c' := (6, [some (.ref 116), some (.int a1), o2, some (.int a3), some (.int (v4 + 1)), some (.int (v5 + 1)), some (.int (gI s 162 (ix ((1220 * a1) + (2 * v5))))), some (.int (gI s 162 (ix (((1220 * a1) + (2 * v5)) + 1))))], [], mT (sI s 168 (ix v4) x12))) rfl ?_
          exact fun a b => ih (v4 + 1) (v5 + 1) _ _ _ (sI s 168 (ix v4) x12) a b
def f_M_comesTo (a1 : Int32) (a2 : Int32) (a3 : Int32) (s : mS) : Int32 × mS := (mq_let (lp_M_comesTo_6 a1 a3 mm_N (0 : Int32) a2 s) (fun (x13 : Int32 × Int32 × mS) => ((gI x13.2.2 168 0), x13.2.2)))
def ok_M_comesTo (a1 : Int32) (a2 : Int32) (a3 : Int32) (s : mS) : Prop := (okl_M_comesTo_6 a1 a3 mm_N (0 : Int32) a2 s ∧ mq_letP (lp_M_comesTo_6 a1 a3 mm_N (0 : Int32) a2 s) (fun (x13 : Int32 × Int32 × mS) => True))
set_option maxRecDepth 4000 in
theorem t_M_comesTo {len : Nat} {xs : Nat → Int32}  (d : Nat) (a1 : Int32) (a2 : Int32) (a3 : Int32) (s : mS) {T : Option mm_R} (K : Int32 × mS → Prop) (hK : ∀ t, K t → some (some (.int t.1), mT t.2) = T) : ok_M_comesTo a1 a2 a3 s → K (f_M_comesTo a1 a2 a3 s) → mm_fix (mm_X len xs) mm_Y (mm_call (mm_X len xs) mm_Y (d + 1)) (mm_look mc_M_comesTo) (0, [some (.ref 116), some (.int a1), some (.int a2), some (.int a3), none, none, none, none], [], mT s) = T := by
  unfold ok_M_comesTo f_M_comesTo
  refine w_go K 4 (c' := (6, [some (.ref 116), some (.int a1), some (.int a2), some (.int a3), some (.int 0), some (.int a2), none, none], [], mT s)) rfl ?_
  refine w_join K (fun (x13 : Int32 × Int32 × mS) => ∀ (q14 : Option Value) (q15 : Option Value) (q16 : Option Value), mm_fix (mm_X len xs) mm_Y (mm_call (mm_X len xs) mm_Y (d + 1)) (mm_look mc_M_comesTo) (178, [some (.ref 116), some (.int a1), q14, some (.int a3), some (.int x13.1), some (.int x13.2.1), q15, q16], [], mT x13.2.2) = T) (fun K hJ => tl_M_comesTo_6 (len := len) (xs := xs) d a1 a3 (T := T) K hJ mm_N (0 : Int32) a2 _ _ _ s) (fun x13 h1 h2 q14 q15 q16 => ?_)
  revert h1 h2
  refine w_go K 4 (c' := (184, [some (.ref 116), some (.int a1), q14, some (.int a3), some (.int x13.1), some (.int x13.2.1), q15, q16], [.int (gI x13.2.2 168 0)], mT x13.2.2)) rfl ?_
  exact w_ret K rfl (hK _)
theorem m_M_comesTo {len : Nat} {xs : Nat → Int32}  (d : Nat) (a1 : Int32) (a2 : Int32) (a3 : Int32) (s : mS) : ok_M_comesTo a1 a2 a3 s → mm_call (mm_X len xs) mm_Y (d + 2) 193 [.ref 116, .int a1, .int a2, .int a3] (mT s) = some (some (.int (f_M_comesTo a1 a2 a3 s).1), mT (f_M_comesTo a1 a2 a3 s).2) := fun h => t_M_comesTo (len := len) (xs := xs) d a1 a2 a3 s (fun t => (some (some (.int t.1), mT t.2) : Option mm_R) = some (some (.int (f_M_comesTo a1 a2 a3 s).1), mT (f_M_comesTo a1 a2 a3 s).2)) (fun _ h => h) h rfl
def f_M_tells (a1 : Int32) (a2 : Int32) (a3 : Int32) (s : mS) : Int32 × mS := (if (gI s 159 (ix ((24 * a1) + a2))) = a3 then (if (gI s 161 (ix ((24 * a1) + a2))) = (gI s 160 (ix (((25 * a1) + a2) + 1))) then (1, s) else (mq_let (f_M_comesTo a1 (gI s 161 (ix ((24 * a1) + a2))) (gI s 160 (ix (((25 * a1) + a2) + 1))) s) (fun (x10 : Int32 × mS) => (if x10.1 = 1 then (1, x10.2) else (0, x10.2))))) else (0, s))
def ok_M_tells (a1 : Int32) (a2 : Int32) (a3 : Int32) (s : mS) : Prop := (mm_inb ((24 * a1) + a2) 96 = true ∧ (if (gI s 159 (ix ((24 * a1) + a2))) = a3 then (mm_inb ((24 * a1) + a2) 96 = true ∧ (mm_inb (((25 * a1) + a2) + 1) 100 = true ∧ (if (gI s 161 (ix ((24 * a1) + a2))) = (gI s 160 (ix (((25 * a1) + a2) + 1))) then True else (ok_M_comesTo a1 (gI s 161 (ix ((24 * a1) + a2))) (gI s 160 (ix (((25 * a1) + a2) + 1))) s ∧ mq_letP (f_M_comesTo a1 (gI s 161 (ix ((24 * a1) + a2))) (gI s 160 (ix (((25 * a1) + a2) + 1))) s) (fun (x10 : Int32 × mS) => True))))) else True))
set_option maxRecDepth 4000 in
theorem t_M_tells {len : Nat} {xs : Nat → Int32}  (d : Nat) (a1 : Int32) (a2 : Int32) (a3 : Int32) (s : mS) {T : Option mm_R} (K : Int32 × mS → Prop) (hK : ∀ t, K t → some (some (.int t.1), mT t.2) = T) : ok_M_tells a1 a2 a3 s → K (f_M_tells a1 a2 a3 s) → mm_fix (mm_X len xs) mm_Y (mm_call (mm_X len xs) mm_Y (d + 2)) (mm_look mc_M_tells) (0, [some (.ref 116), some (.int a1), some (.int a2), some (.int a3), none, none], [], mT s) = T := by
  unfold ok_M_tells f_M_tells
  refine w_go K 7 (c' := (10, [some (.ref 116), some (.int a1), some (.int a2), some (.int a3), none, none], [.int ((24 * a1) + a2), .ref 159], mT s)) rfl ?_
  refine w_ck K (st_iL rfl rfl) ?_
  refine w_go K 1 (c' := (12, [some (.ref 116), some (.int a1), some (.int a2), some (.int a3), none, none], [.int a3, .int (gI s 159 (ix ((24 * a1) + a2)))], mT s)) rfl ?_
  refine w_ieq K rfl (fun _ => ?_) (fun _ => ?_)
  · refine w_go K 7 (c' := (27, [some (.ref 116), some (.int a1), some (.int a2), some (.int a3), none, none], [.int ((24 * a1) + a2), .ref 161], mT s)) rfl ?_
    refine w_ck K (st_iL rfl rfl) ?_
    refine w_go K 10 (c' := (42, [some (.ref 116), some (.int a1), some (.int a2), some (.int a3), some (.int (gI s 161 (ix ((24 * a1) + a2)))), none], [.int (((25 * a1) + a2) + 1), .ref 160], mT s)) rfl ?_
    refine w_ck K (st_iL rfl rfl) ?_
    refine w_go K 3 (c' := (49, [some (.ref 116), some (.int a1), some (.int a2), some (.int a3), some (.int (gI s 161 (ix ((24 * a1) + a2)))), some (.int (gI s 160 (ix (((25 * a1) + a2) + 1))))], [.int (gI s 160 (ix (((25 * a1) + a2) + 1))), .int (gI s 161 (ix ((24 * a1) + a2)))], mT s)) rfl ?_
    refine w_ieq K rfl (fun _ => ?_) (fun _ => ?_)
    · refine w_go K 2 (c' := (70, [some (.ref 116), some (.int a1), some (.int a2), some (.int a3), some (.int (gI s 161 (ix ((24 * a1) + a2)))), some (.int (gI s 160 (ix (((25 * a1) + a2) + 1))))], [.int 1], mT s)) rfl ?_
      exact w_ret K rfl (hK _)
    · refine w_go K 4 (c' := (58, [some (.ref 116), some (.int a1), some (.int a2), some (.int a3), some (.int (gI s 161 (ix ((24 * a1) + a2)))), some (.int (gI s 160 (ix (((25 * a1) + a2) + 1))))], [.int (gI s 160 (ix (((25 * a1) + a2) + 1))), .int (gI s 161 (ix ((24 * a1) + a2))), .int a1, .ref 116], mT s)) rfl ?_
      refine w_callL K (E := f_M_comesTo a1 (gI s 161 (ix ((24 * a1) + a2))) (gI s 160 (ix (((25 * a1) + a2) + 1))) s) (g := fun (x10 : Int32 × mS) => (some (.int x10.1), mT x10.2)) rfl (m_M_comesTo (len := len) (xs := xs) (d + 0) a1 (gI s 161 (ix ((24 * a1) + a2))) (gI s 160 (ix (((25 * a1) + a2) + 1))) s) (fun x10 => ?_)
      refine w_go K 1 (c' := (62, [some (.ref 116), some (.int a1), some (.int a2), some (.int a3), some (.int (gI s 161 (ix ((24 * a1) + a2)))), some (.int (gI s 160 (ix (((25 * a1) + a2) + 1))))], [.int 1, .int x10.1], mT x10.2)) rfl ?_
      refine w_ineT K rfl (fun _ => ?_) (fun _ => ?_)
      · refine w_go K 2 (c' := (70, [some (.ref 116), some (.int a1), some (.int a2), some (.int a3), some (.int (gI s 161 (ix ((24 * a1) + a2)))), some (.int (gI s 160 (ix (((25 * a1) + a2) + 1))))], [.int 1], mT x10.2)) rfl ?_
        exact w_ret K rfl (hK _)
      · refine w_go K 1 (c' := (70, [some (.ref 116), some (.int a1), some (.int a2), some (.int a3), some (.int (gI s 161 (ix ((24 * a1) + a2)))), some (.int (gI s 160 (ix (((25 * a1) + a2) + 1))))], [.int 0], mT x10.2)) rfl ?_
        exact w_ret K rfl (hK _)
  · refine w_go K 1 (c' := (16, [some (.ref 116), some (.int a1), some (.int a2), some (.int a3), none, none], [.int 0], mT s)) rfl ?_
    exact w_ret K rfl (hK _)
theorem m_M_tells {len : Nat} {xs : Nat → Int32}  (d : Nat) (a1 : Int32) (a2 : Int32) (a3 : Int32) (s : mS) : ok_M_tells a1 a2 a3 s → mm_call (mm_X len xs) mm_Y (d + 3) 192 [.ref 116, .int a1, .int a2, .int a3] (mT s) = some (some (.int (f_M_tells a1 a2 a3 s).1), mT (f_M_tells a1 a2 a3 s).2) := fun h => t_M_tells (len := len) (xs := xs) d a1 a2 a3 s (fun t => (some (some (.int t.1), mT t.2) : Option mm_R) = some (some (.int (f_M_tells a1 a2 a3 s).1), mT (f_M_tells a1 a2 a3 s).2)) (fun _ h => h) h rfl
def lp_M_dueOf_2_111 (a1 : Int32) (a2 : Int32) (a5 : Int32) (a6 : Int32) : Nat → Int32 → mS → Int32 × mS
  | 0, v7, s => (v7, s)
  | n + 1, v7, s => (if (gI s 158 (ix a6)) ≤ v7 then (v7, s) else (mq_let (f_M_tells a6 v7 a1 s) (fun (x11 : Int32 × mS) => (if x11.1 = 0 then (lp_M_dueOf_2_111 a1 a2 a5 a6 n (v7 + 1) x11.2) else (v7, x11.2)))))
def okl_M_dueOf_2_111 (a1 : Int32) (a2 : Int32) (a5 : Int32) (a6 : Int32) : Nat → Int32 → mS → Prop
  | 0, v7, s => False
  | n + 1, v7, s => (mm_inb a6 4 = true ∧ (if (gI s 158 (ix a6)) ≤ v7 then True else (ok_M_tells a6 v7 a1 s ∧ mq_letP (f_M_tells a6 v7 a1 s) (fun (x11 : Int32 × mS) => (if x11.1 = 0 then (okl_M_dueOf_2_111 a1 a2 a5 a6 n (v7 + 1) x11.2) else True)))))
set_option maxRecDepth 4000 in
theorem tl_M_dueOf_2_111 {len : Nat} {xs : Nat → Int32}  (d : Nat) (a1 : Int32) (a2 : Int32) (a5 : Int32) (a6 : Int32)  {T : Option mm_R} (K : Int32 × mS → Prop) (hX : ∀ r, K r → ∀ (o3 : Option Value) (o4 : Option Value) (o8 : Option Value), mm_fix (mm_X len xs) mm_Y (mm_call (mm_X len xs) mm_Y (d + 3)) (mm_look mc_M_dueOf) (141, [some (.ref 116), some (.int a1), some (.int a2), o3, o4, some (.int a5), some (.int a6), some (.int r.1), o8], [], mT r.2) = T) : ∀ (n : Nat), ∀ (v7 : Int32) (o3 : Option Value) (o4 : Option Value) (o8 : Option Value) (s : mS), okl_M_dueOf_2_111 a1 a2 a5 a6 n v7 s → K (lp_M_dueOf_2_111 a1 a2 a5 a6 n v7 s) → mm_fix (mm_X len xs) mm_Y (mm_call (mm_X len xs) mm_Y (d + 3)) (mm_look mc_M_dueOf) (111, [some (.ref 116), some (.int a1), some (.int a2), o3, o4, some (.int a5), some (.int a6), some (.int v7), o8], [], mT s) = T := by
  intro n
  induction n with
  | zero => intro v7 o3 o4 o8 s; exact fun h => h.elim
  | succ n ih =>
    intro v7 o3 o4 o8 s
    rw [okl_M_dueOf_2_111, lp_M_dueOf_2_111]
    refine w_go K 4 (c' := (119, [some (.ref 116), some (.int a1), some (.int a2), o3, o4, some (.int a5), some (.int a6), some (.int v7), o8], [.int a6, .ref 158, .int v7], mT s)) rfl ?_
    refine w_ck K (st_iL rfl rfl) ?_
    refine w_go K 0 (c' := (120, [some (.ref 116), some (.int a1), some (.int a2), o3, o4, some (.int a5), some (.int a6), some (.int v7), o8], [.int (gI s 158 (ix a6)), .int v7], mT s)) rfl ?_
    refine w_ige K rfl (fun _ => ?_) (fun _ => ?_)
    · refine w_go K 0 (c' := (141, [some (.ref 116), some (.int a1), some (.int a2), o3, o4, some (.int a5), some (.int a6), some (.int v7), o8], [], mT s)) rfl ?_
      exact fun _ b => hX _ b _ _ _
    · refine w_go K 4 (c' := (129, [some (.ref 116), some (.int a1), some (.int a2), o3, o4, some (.int a5), some (.int a6), some (.int v7), o8], [.int a1, .int v7, .int a6, .ref 116], mT s)) rfl ?_
      refine w_callL K (E := f_M_tells a6 v7 a1 s) (g := fun (x11 : Int32 × mS) => (some (.int x11.1), mT x11.2)) rfl (m_M_tells (len := len) (xs := xs) (d + 0) a6 v7 a1 s) (fun x11 => ?_)
      refine w_go K 0 (c' := (132, [some (.ref 116), some (.int a1), some (.int a2), o3, o4, some (.int a5), some (.int a6), some (.int v7), o8], [.int x11.1], mT x11.2)) rfl ?_
      refine w_zne K rfl (fun _ => ?_) (fun _ => ?_)
      · refine w_go K 2 (c' := (111, [some (.ref 116), some (.int a1), some (.int a2), o3, o4, some (.int a5), some (.int a6), some (.int (v7 + 1)), o8], [], mT x11.2)) rfl ?_
        exact fun a b => ih (v7 + 1) _ _ _ x11.2 a b
      · refine w_go K 0 (c' := (141, [some (.ref 116), some (.int a1), some (.int a2), o3, o4, some (.int a5), some (.int a6), some (.int v7), o8], [], mT x11.2)) rfl ?_
        exact fun _ b => hX _ b _ _ _
def lp_M_dueOf_2_212 (a1 : Int32) (a2 : Int32) (a5 : Int32) (a6 : Int32) : Nat → Int32 → mS → Int32 × mS
  | 0, v8, s => (v8, s)
  | n + 1, v8, s => (if (gI s 158 (ix a6)) ≤ v8 then (v8, s) else (mq_let (if (gI s 116 92) = 0 then (mq_let (f_M_tells a6 v8 a1 s) (fun (x20 : Int32 × mS) => (if x20.1 = 0 then ((0 : Int32), x20.2) else (mq_let (f_M_comesTo a6 (gI x20.2 160 (ix ((25 * a6) + v8))) (gI x20.2 161 (ix ((24 * a6) + v8))) x20.2) (fun (x21 : Int32 × mS) => (if x21.1 = a5 then ((0 : Int32), x21.2) else ((1 : Int32), x21.2))))))) else ((1 : Int32), s)) (fun (x19 : Int32 × mS) => (lp_M_dueOf_2_212 a1 a2 a5 a6 n (v8 + 1) (sI x19.2 116 92 x19.1)))))
def okl_M_dueOf_2_212 (a1 : Int32) (a2 : Int32) (a5 : Int32) (a6 : Int32) : Nat → Int32 → mS → Prop
  | 0, v8, s => False
  | n + 1, v8, s => (mm_inb a6 4 = true ∧ (if (gI s 158 (ix a6)) ≤ v8 then True else ((if (gI s 116 92) = 0 then (ok_M_tells a6 v8 a1 s ∧ mq_letP (f_M_tells a6 v8 a1 s) (fun (x20 : Int32 × mS) => (if x20.1 = 0 then True else (mm_inb ((25 * a6) + v8) 100 = true ∧ (mm_inb ((24 * a6) + v8) 96 = true ∧ (ok_M_comesTo a6 (gI x20.2 160 (ix ((25 * a6) + v8))) (gI x20.2 161 (ix ((24 * a6) + v8))) x20.2 ∧ mq_letP (f_M_comesTo a6 (gI x20.2 160 (ix ((25 * a6) + v8))) (gI x20.2 161 (ix ((24 * a6) + v8))) x20.2) (fun (x21 : Int32 × mS) => True))))))) else True) ∧ mq_letP (if (gI s 116 92) = 0 then (mq_let (f_M_tells a6 v8 a1 s) (fun (x20 : Int32 × mS) => (if x20.1 = 0 then ((0 : Int32), x20.2) else (mq_let (f_M_comesTo a6 (gI x20.2 160 (ix ((25 * a6) + v8))) (gI x20.2 161 (ix ((24 * a6) + v8))) x20.2) (fun (x21 : Int32 × mS) => (if x21.1 = a5 then ((0 : Int32), x21.2) else ((1 : Int32), x21.2))))))) else ((1 : Int32), s)) (fun (x19 : Int32 × mS) => (mm_bit x19.1 = true ∧ (okl_M_dueOf_2_212 a1 a2 a5 a6 n (v8 + 1) (sI x19.2 116 92 x19.1)))))))
set_option maxRecDepth 4000 in
theorem tl_M_dueOf_2_212 {len : Nat} {xs : Nat → Int32}  (d : Nat) (a1 : Int32) (a2 : Int32) (a5 : Int32) (a6 : Int32)  {T : Option mm_R} (K : Int32 × mS → Prop) (hX : ∀ r, K r → ∀ (o3 : Option Value) (o4 : Option Value) (o7 : Option Value), mm_fix (mm_X len xs) mm_Y (mm_call (mm_X len xs) mm_Y (d + 3)) (mm_look mc_M_dueOf) (295, [some (.ref 116), some (.int a1), some (.int a2), o3, o4, some (.int a5), some (.int a6), o7, some (.int r.1)], [], mT r.2) = T) : ∀ (n : Nat), ∀ (v8 : Int32) (o3 : Option Value) (o4 : Option Value) (o7 : Option Value) (s : mS), okl_M_dueOf_2_212 a1 a2 a5 a6 n v8 s → K (lp_M_dueOf_2_212 a1 a2 a5 a6 n v8 s) → mm_fix (mm_X len xs) mm_Y (mm_call (mm_X len xs) mm_Y (d + 3)) (mm_look mc_M_dueOf) (212, [some (.ref 116), some (.int a1), some (.int a2), o3, o4, some (.int a5), some (.int a6), o7, some (.int v8)], [], mT s) = T := by
  intro n
  induction n with
  | zero => intro v8 o3 o4 o7 s; exact fun h => h.elim
  | succ n ih =>
    intro v8 o3 o4 o7 s
    rw [okl_M_dueOf_2_212, lp_M_dueOf_2_212]
    refine w_go K 4 (c' := (220, [some (.ref 116), some (.int a1), some (.int a2), o3, o4, some (.int a5), some (.int a6), o7, some (.int v8)], [.int a6, .ref 158, .int v8], mT s)) rfl ?_
    refine w_ck K (st_iL rfl rfl) ?_
    refine w_go K 0 (c' := (221, [some (.ref 116), some (.int a1), some (.int a2), o3, o4, some (.int a5), some (.int a6), o7, some (.int v8)], [.int (gI s 158 (ix a6)), .int v8], mT s)) rfl ?_
    refine w_ige K rfl (fun _ => ?_) (fun _ => ?_)
    · refine w_go K 0 (c' := (295, [some (.ref 116), some (.int a1), some (.int a2), o3, o4, some (.int a5), some (.int a6), o7, some (.int v8)], [], mT s)) rfl ?_
      exact fun _ b => hX _ b _ _ _
    · refine w_go K 3 (c' := (229, [some (.ref 116), some (.int a1), some (.int a2), o3, o4, some (.int a5), some (.int a6), o7, some (.int v8)], [.int (gI s 116 92), .ref 116], mT s)) rfl ?_
      refine w_join K (fun (x19 : Int32 × mS) => mm_fix (mm_X len xs) mm_Y (mm_call (mm_X len xs) mm_Y (d + 3)) (mm_look mc_M_dueOf) (286, [some (.ref 116), some (.int a1), some (.int a2), o3, o4, some (.int a5), some (.int a6), o7, some (.int v8)], [.int x19.1, .ref 116], mT x19.2) = T) (fun K hJ => ?_) (fun x19 h1 h2 => ?_)
      · refine w_go K 0 (c' := (229, [some (.ref 116), some (.int a1), some (.int a2), o3, o4, some (.int a5), some (.int a6), o7, some (.int v8)], [.int (gI s 116 92), .ref 116], mT s)) rfl ?_
        refine w_zne K rfl (fun _ => ?_) (fun _ => ?_)
        · refine w_go K 4 (c' := (238, [some (.ref 116), some (.int a1), some (.int a2), o3, o4, some (.int a5), some (.int a6), o7, some (.int v8)], [.int a1, .int v8, .int a6, .ref 116, .ref 116], mT s)) rfl ?_
          refine w_callL K (E := f_M_tells a6 v8 a1 s) (g := fun (x20 : Int32 × mS) => (some (.int x20.1), mT x20.2)) rfl (m_M_tells (len := len) (xs := xs) (d + 0) a6 v8 a1 s) (fun x20 => ?_)
          refine w_go K 0 (c' := (241, [some (.ref 116), some (.int a1), some (.int a2), o3, o4, some (.int a5), some (.int a6), o7, some (.int v8)], [.int x20.1, .ref 116], mT x20.2)) rfl ?_
          refine w_zeq K rfl (fun _ => ?_) (fun _ => ?_)
          · refine w_go K 1 (c' := (286, [some (.ref 116), some (.int a1), some (.int a2), o3, o4, some (.int a5), some (.int a6), o7, some (.int v8)], [.int 0, .ref 116], mT x20.2)) rfl ?_
            exact fun _ h => hJ _ h
          · refine w_go K 9 (c' := (259, [some (.ref 116), some (.int a1), some (.int a2), o3, o4, some (.int a5), some (.int a6), o7, some (.int v8)], [.int ((25 * a6) + v8), .ref 160, .int a6, .ref 116, .ref 116], mT x20.2)) rfl ?_
            refine w_ck K (st_iL rfl rfl) ?_
            refine w_go K 7 (c' := (272, [some (.ref 116), some (.int a1), some (.int a2), o3, o4, some (.int a5), some (.int a6), o7, some (.int v8)], [.int ((24 * a6) + v8), .ref 161, .int (gI x20.2 160 (ix ((25 * a6) + v8))), .int a6, .ref 116, .ref 116], mT x20.2)) rfl ?_
            refine w_ck K (st_iL rfl rfl) ?_
            refine w_go K 0 (c' := (273, [some (.ref 116), some (.int a1), some (.int a2), o3, o4, some (.int a5), some (.int a6), o7, some (.int v8)], [.int (gI x20.2 161 (ix ((24 * a6) + v8))), .int (gI x20.2 160 (ix ((25 * a6) + v8))), .int a6, .ref 116, .ref 116], mT x20.2)) rfl ?_
            refine w_callL K (E := f_M_comesTo a6 (gI x20.2 160 (ix ((25 * a6) + v8))) (gI x20.2 161 (ix ((24 * a6) + v8))) x20.2) (g := fun (x21 : Int32 × mS) => (some (.int x21.1), mT x21.2)) rfl (m_M_comesTo (len := len) (xs := xs) (d + 1) a6 (gI x20.2 160 (ix ((25 * a6) + v8))) (gI x20.2 161 (ix ((24 * a6) + v8))) x20.2) (fun x21 => ?_)
            refine w_go K 1 (c' := (278, [some (.ref 116), some (.int a1), some (.int a2), o3, o4, some (.int a5), some (.int a6), o7, some (.int v8)], [.int a5, .int x21.1, .ref 116], mT x21.2)) rfl ?_
            refine w_ieqT K rfl (fun _ => ?_) (fun _ => ?_)
            · refine w_go K 1 (c' := (286, [some (.ref 116), some (.int a1), some (.int a2), o3, o4, some (.int a5), some (.int a6), o7, some (.int v8)], [.int 0, .ref 116], mT x21.2)) rfl ?_
              exact fun _ h => hJ _ h
            · refine w_go K 2 (c' := (286, [some (.ref 116), some (.int a1), some (.int a2), o3, o4, some (.int a5), some (.int a6), o7, some (.int v8)], [.int 1, .ref 116], mT x21.2)) rfl ?_
              exact fun _ h => hJ _ h
        · refine w_go K 2 (c' := (286, [some (.ref 116), some (.int a1), some (.int a2), o3, o4, some (.int a5), some (.int a6), o7, some (.int v8)], [.int 1, .ref 116], mT s)) rfl ?_
          exact fun _ h => hJ _ h
      · revert h1 h2
        refine w_go K 0 (c' := (286, [some (.ref 116), some (.int a1), some (.int a2), o3, o4, some (.int a5), some (.int a6), o7, some (.int v8)], [.int x19.1, .ref 116], mT x19.2)) rfl ?_
        refine w_ck K rfl ?_
        refine w_go K 2 (c' := (212, [some (.ref 116), some (.int a1), some (.int a2), o3, o4, some (.int a5), some (.int a6), (mm_cut o7 0), some (.int (v8 + 1))], [], mT (sI x19.2 116 92 x19.1))) rfl ?_
        exact fun a b => ih (v8 + 1) _ _ _ (sI x19.2 116 92 x19.1) a b
def lp_M_dueOf_2_47 (a1 : Int32) (a2 : Int32) : Nat → Int32 → Int32 → mS → Int32 × Int32 × mS
  | 0, v5, v6, s => (v5, v6, s)
  | n + 1, v5, v6, s => (if (4 : Int32) ≤ v6 then (v5, v6, s) else (if (gI s 157 (ix v6)) = (-1) then (lp_M_dueOf_2_47 a1 a2 n v5 (v6 + 1) s) else (if (a2 / 96) < (gI s 157 (ix v6)) then (lp_M_dueOf_2_47 a1 a2 n v5 (v6 + 1) s) else (if (gI s 116 93) = (-1) then (mq_let (lp_M_dueOf_2_111 a1 a2 v5 v6 mm_N (0 : Int32) s) (fun (x12 : Int32 × mS) => (if x12.1 = (gI x12.2 158 (ix v6)) then (lp_M_dueOf_2_47 a1 a2 n v5 (v6 + 1) x12.2) else (mq_let (f_M_comesTo v6 (gI x12.2 160 (ix ((25 * v6) + x12.1))) (gI x12.2 161 (ix ((24 * v6) + x12.1))) (sI (sI x12.2 116 93 v6) 116 91 1)) (fun (x16 : Int32 × mS) => (mq_let (lp_M_dueOf_2_212 a1 a2 x16.1 v6 mm_N (x12.1 + 1) (sI x16.2 116 92 0)) (fun (x22 : Int32 × mS) => (lp_M_dueOf_2_47 a1 a2 n x16.1 (v6 + 1) x22.2)))))))) else (if (gI s 157 (ix (gI s 116 93))) ≤ (gI s 157 (ix v6)) then (mq_let (lp_M_dueOf_2_111 a1 a2 v5 v6 mm_N (0 : Int32) s) (fun (x26 : Int32 × mS) => (if x26.1 = (gI x26.2 158 (ix v6)) then (lp_M_dueOf_2_47 a1 a2 n v5 (v6 + 1) x26.2) else (mq_let (f_M_comesTo v6 (gI x26.2 160 (ix ((25 * v6) + x26.1))) (gI x26.2 161 (ix ((24 * v6) + x26.1))) (sI (sI x26.2 116 93 v6) 116 91 1)) (fun (x30 : Int32 × mS) => (mq_let (lp_M_dueOf_2_212 a1 a2 x30.1 v6 mm_N (x26.1 + 1) (sI x30.2 116 92 0)) (fun (x31 : Int32 × mS) => (lp_M_dueOf_2_47 a1 a2 n x30.1 (v6 + 1) x31.2)))))))) else (lp_M_dueOf_2_47 a1 a2 n v5 (v6 + 1) s))))))
def okl_M_dueOf_2_47 (a1 : Int32) (a2 : Int32) : Nat → Int32 → Int32 → mS → Prop
  | 0, v5, v6, s => False
  | n + 1, v5, v6, s => (if (4 : Int32) ≤ v6 then True else (mm_inb v6 4 = true ∧ (if (gI s 157 (ix v6)) = (-1) then (okl_M_dueOf_2_47 a1 a2 n v5 (v6 + 1) s) else (mm_inb v6 4 = true ∧ (if (a2 / 96) < (gI s 157 (ix v6)) then (okl_M_dueOf_2_47 a1 a2 n v5 (v6 + 1) s) else (if (gI s 116 93) = (-1) then (okl_M_dueOf_2_111 a1 a2 v5 v6 mm_N (0 : Int32) s ∧ mq_letP (lp_M_dueOf_2_111 a1 a2 v5 v6 mm_N (0 : Int32) s) (fun (x12 : Int32 × mS) => (mm_inb v6 4 = true ∧ (if x12.1 = (gI x12.2 158 (ix v6)) then (okl_M_dueOf_2_47 a1 a2 n v5 (v6 + 1) x12.2) else (mm_inb ((25 * v6) + x12.1) 100 = true ∧ (mm_inb ((24 * v6) + x12.1) 96 = true ∧ (ok_M_comesTo v6 (gI x12.2 160 (ix ((25 * v6) + x12.1))) (gI x12.2 161 (ix ((24 * v6) + x12.1))) (sI (sI x12.2 116 93 v6) 116 91 1) ∧ mq_letP (f_M_comesTo v6 (gI x12.2 160 (ix ((25 * v6) + x12.1))) (gI x12.2 161 (ix ((24 * v6) + x12.1))) (sI (sI x12.2 116 93 v6) 116 91 1)) (fun (x16 : Int32 × mS) => (okl_M_dueOf_2_212 a1 a2 x16.1 v6 mm_N (x12.1 + 1) (sI x16.2 116 92 0) ∧ mq_letP (lp_M_dueOf_2_212 a1 a2 x16.1 v6 mm_N (x12.1 + 1) (sI x16.2 116 92 0)) (fun (x22 : Int32 × mS) => (okl_M_dueOf_2_47 a1 a2 n x16.1 (v6 + 1) x22.2))))))))))) else (mm_inb v6 4 = true ∧ (mm_inb (gI s 116 93) 4 = true ∧ (if (gI s 157 (ix (gI s 116 93))) ≤ (gI s 157 (ix v6)) then (okl_M_dueOf_2_111 a1 a2 v5 v6 mm_N (0 : Int32) s ∧ mq_letP (lp_M_dueOf_2_111 a1 a2 v5 v6 mm_N (0 : Int32) s) (fun (x26 : Int32 × mS) => (mm_inb v6 4 = true ∧ (if x26.1 = (gI x26.2 158 (ix v6)) then (okl_M_dueOf_2_47 a1 a2 n v5 (v6 + 1) x26.2) else (mm_inb ((25 * v6) + x26.1) 100 = true ∧ (mm_inb ((24 * v6) + x26.1) 96 = true ∧ (ok_M_comesTo v6 (gI x26.2 160 (ix ((25 * v6) + x26.1))) (gI x26.2 161 (ix ((24 * v6) + x26.1))) (sI (sI x26.2 116 93 v6) 116 91 1) ∧ mq_letP (f_M_comesTo v6 (gI x26.2 160 (ix ((25 * v6) + x26.1))) (gI x26.2 161 (ix ((24 * v6) + x26.1))) (sI (sI x26.2 116 93 v6) 116 91 1)) (fun (x30 : Int32 × mS) => (okl_M_dueOf_2_212 a1 a2 x30.1 v6 mm_N (x26.1 + 1) (sI x30.2 116 92 0) ∧ mq_letP (lp_M_dueOf_2_212 a1 a2 x30.1 v6 mm_N (x26.1 + 1) (sI x30.2 116 92 0)) (fun (x31 : Int32 × mS) => (okl_M_dueOf_2_47 a1 a2 n x30.1 (v6 + 1) x31.2))))))))))) else (okl_M_dueOf_2_47 a1 a2 n v5 (v6 + 1) s))))))))))
set_option maxRecDepth 4000 in
theorem tl_M_dueOf_2_47 {len : Nat} {xs : Nat → Int32}  (d : Nat) (a1 : Int32) (a2 : Int32)  {T : Option mm_R} (K : Int32 × Int32 × mS → Prop) (hX : ∀ r, K r → ∀ (o3 : Option Value) (o4 : Option Value) (o7 : Option Value) (o8 : Option Value), mm_fix (mm_X len xs) mm_Y (mm_call (mm_X len xs) mm_Y (d + 3)) (mm_look mc_M_dueOf) (301, [some (.ref 116), some (.int a1), some (.int a2), o3, o4, some (.int r.1), some (.int r.2.1), o7, o8], [], mT r.2.2) = T) : ∀ (n : Nat), ∀ (v5 : Int32) (v6 : Int32) (o3 : Option Value) (o4 : Option Value) (o7 : Option Value) (o8 : Option Value) (s : mS), okl_M_dueOf_2_47 a1 a2 n v5 v6 s → K (lp_M_dueOf_2_47 a1 a2 n v5 v6 s) → mm_fix (mm_X len xs) mm_Y (mm_call (mm_X len xs) mm_Y (d + 3)) (mm_look mc_M_dueOf) (47, [some (.ref 116), some (.int a1), some (.int a2), o3, o4, some (.int v5), some (.int v6), o7, o8], [], mT s) = T := by
  intro n
  induction n with
  | zero => intro v5 v6 o3 o4 o7 o8 s; exact fun h => h.elim
  | succ n ih =>
    intro v5 v6 o3 o4 o7 o8 s
    rw [okl_M_dueOf_2_47, lp_M_dueOf_2_47]
    refine w_go K 2 (c' := (50, [some (.ref 116), some (.int a1), some (.int a2), o3, o4, some (.int v5), some (.int v6), o7, o8], [.int 4, .int v6], mT s)) rfl ?_
    refine w_ige K rfl (fun _ => ?_) (fun _ => ?_)
    · refine w_go K 0 (c' := (301, [some (.ref 116), some (.int a1), some (.int a2), o3, o4, some (.int v5), some (.int v6), o7, o8], [], mT s)) rfl ?_
      exact fun _ b => hX _ b _ _ _ _
    · refine w_go K 3 (c' := (59, [some (.ref 116), some (.int a1), some (.int a2), o3, o4, some (.int v5), some (.int v6), o7, o8], [.int v6, .ref 157], mT s)) rfl ?_
      refine w_ck K (st_iL rfl rfl) ?_
      refine w_go K 1 (c' := (61, [some (.ref 116), some (.int a1), some (.int a2), o3, o4, some (.int v5), some (.int v6), o7, o8], [.int (-1), .int (gI s 157 (ix v6))], mT s)) rfl ?_
      refine w_ieq K rfl (fun _ => ?_) (fun _ => ?_)
      · refine w_go K 2 (c' := (47, [some (.ref 116), some (.int a1), some (.int a2), o3, o4, some (.int v5), some (.int (v6 + 1)), o7, o8], [], mT s)) rfl ?_
        exact fun a b => ih v5 (v6 + 1) _ _ _ _ s a b
      · refine w_go K 3 (c' := (70, [some (.ref 116), some (.int a1), some (.int a2), o3, o4, some (.int v5), some (.int v6), o7, o8], [.int v6, .ref 157], mT s)) rfl ?_
        refine w_ck K (st_iL rfl rfl) ?_
        refine w_go K 3 (c' := (75, [some (.ref 116), some (.int a1), some (.int a2), o3, o4, some (.int v5), some (.int v6), o7, o8], [.int (a2 / 96), .int (gI s 157 (ix v6))], mT s)) rfl ?_
        refine w_igt K rfl (fun _ => ?_) (fun _ => ?_)
        · refine w_go K 2 (c' := (47, [some (.ref 116), some (.int a1), some (.int a2), o3, o4, some (.int v5), some (.int (v6 + 1)), o7, o8], [], mT s)) rfl ?_
          exact fun a b => ih v5 (v6 + 1) _ _ _ _ s a b
        · refine w_go K 3 (c' := (83, [some (.ref 116), some (.int a1), some (.int a2), o3, o4, some (.int v5), some (.int v6), o7, o8], [.int (-1), .int (gI s 116 93)], mT s)) rfl ?_
          refine w_ieq K rfl (fun _ => ?_) (fun _ => ?_)
          · refine w_go K 2 (c' := (111, [some (.ref 116), some (.int a1), some (.int a2), o3, o4, some (.int v5), some (.int v6), some (.int 0), o8], [], mT s)) rfl ?_
            refine w_join K (fun (x12 : Int32 × mS) => ∀ (q13 : Option Value) (q14 : Option Value) (q15 : Option Value), mm_fix (mm_X len xs) mm_Y (mm_call (mm_X len xs) mm_Y (d + 3)) (mm_look mc_M_dueOf) (141, [some (.ref 116), some (.int a1), some (.int a2), q13, q14, some (.int v5), some (.int v6), some (.int x12.1), q15], [], mT x12.2) = T) (fun K hJ => tl_M_dueOf_2_111 (len := len) (xs := xs) d a1 a2 v5 v6 (T := T) K hJ mm_N (0 : Int32) _ _ _ s) (fun x12 h1 h2 q13 q14 q15 => ?_)
            revert h1 h2
            refine w_go K 4 (c' := (149, [some (.ref 116), some (.int a1), some (.int a2), q13, q14, some (.int v5), some (.int v6), some (.int x12.1), q15], [.int v6, .ref 158, .int x12.1], mT x12.2)) rfl ?_
            refine w_ck K (st_iL rfl rfl) ?_
            refine w_go K 0 (c' := (150, [some (.ref 116), some (.int a1), some (.int a2), q13, q14, some (.int v5), some (.int v6), some (.int x12.1), q15], [.int (gI x12.2 158 (ix v6)), .int x12.1], mT x12.2)) rfl ?_
            refine w_ine K rfl (fun _ => ?_) (fun _ => ?_)
            · refine w_go K 3 (c' := (47, [some (.ref 116), some (.int a1), some (.int a2), q13, q14, some (.int v5), some (.int (v6 + 1)), some (.int x12.1), q15], [], mT x12.2)) rfl ?_
              exact fun a b => ih v5 (v6 + 1) _ _ _ _ x12.2 a b
            · refine w_go K 15 (c' := (182, [some (.ref 116), some (.int a1), some (.int a2), q13, q14, some (.int v5), some (.int v6), some (.int x12.1), q15], [.int ((25 * v6) + x12.1), .ref 160, .int v6, .ref 116], mT (sI (sI x12.2 116 93 v6) 116 91 1))) rfl ?_
              refine w_ck K (st_iL rfl rfl) ?_
              refine w_go K 7 (c' := (195, [some (.ref 116), some (.int a1), some (.int a2), q13, q14, some (.int v5), some (.int v6), some (.int x12.1), q15], [.int ((24 * v6) + x12.1), .ref 161, .int (gI x12.2 160 (ix ((25 * v6) + x12.1))), .int v6, .ref 116], mT (sI (sI x12.2 116 93 v6) 116 91 1))) rfl ?_
              refine w_ck K (st_iL rfl rfl) ?_
              refine w_go K 0 (c' := (196, [some (.ref 116), some (.int a1), some (.int a2), q13, q14, some (.int v5), some (.int v6), some (.int x12.1), q15], [.int (gI x12.2 161 (ix ((24 * v6) + x12.1))), .int (gI x12.2 160 (ix ((25 * v6) + x12.1))), .int v6, .ref 116], mT (sI (sI x12.2 116 93 v6) 116 91 1))) rfl ?_
              refine w_callL K (E := f_M_comesTo v6 (gI x12.2 160 (ix ((25 * v6) + x12.1))) (gI x12.2 161 (ix ((24 * v6) + x12.1))) (sI (sI x12.2 116 93 v6) 116 91 1)) (g := fun (x16 : Int32 × mS) => (some (.int x16.1), mT x16.2)) rfl (m_M_comesTo (len := len) (xs := xs) (d + 1) v6 (gI x12.2 160 (ix ((25 * v6) + x12.1))) (gI x12.2 161 (ix ((24 * v6) + x12.1))) (sI (sI x12.2 116 93 v6) 116 91 1)) (fun x16 => ?_)
              refine w_go K 8 (c' := (212, [some (.ref 116), some (.int a1), some (.int a2), q13, (mm_cut q14 0), some (.int x16.1), some (.int v6), some (.int x12.1), some (.int (x12.1 + 1))], [], mT (sI x16.2 116 92 0))) rfl ?_
              refine w_join K (fun (x22 : Int32 × mS) => ∀ (q23 : Option Value) (q24 : Option Value) (q25 : Option Value), mm_fix (mm_X len xs) mm_Y (mm_call (mm_X len xs) mm_Y (d + 3)) (mm_look mc_M_dueOf) (295, [some (.ref 116), some (.int a1), some (.int a2), q23, q24, some (.int x16.1), some (.int v6), q25, some (.int x22.1)], [], mT x22.2) = T) (fun K hJ => tl_M_dueOf_2_212 (len := len) (xs := xs) d a1 a2 x16.1 v6 (T := T) K hJ mm_N (x12.1 + 1) _ _ _ (sI x16.2 116 92 0)) (fun x22 h1 h2 q23 q24 q25 => ?_)
              revert h1 h2
              refine w_go K 2 (c' := (47, [some (.ref 116), some (.int a1), some (.int a2), q23, q24, some (.int x16.1), some (.int (v6 + 1)), q25, some (.int x22.1)], [], mT x22.2)) rfl ?_
              exact fun a b => ih x16.1 (v6 + 1) _ _ _ _ x22.2 a b
          · refine w_go K 3 (c' := (92, [some (.ref 116), some (.int a1), some (.int a2), o3, o4, some (.int v5), some (.int v6), o7, o8], [.int v6, .ref 157], mT s)) rfl ?_
            refine w_ck K (st_iL rfl rfl) ?_
            refine w_go K 4 (c' := (101, [some (.ref 116), some (.int a1), some (.int a2), o3, o4, some (.int v5), some (.int v6), o7, o8], [.int (gI s 116 93), .ref 157, .int (gI s 157 (ix v6))], mT s)) rfl ?_
            refine w_ck K (st_iL rfl rfl) ?_
            refine w_go K 0 (c' := (102, [some (.ref 116), some (.int a1), some (.int a2), o3, o4, some (.int v5), some (.int v6), o7, o8], [.int (gI s 157 (ix (gI s 116 93))), .int (gI s 157 (ix v6))], mT s)) rfl ?_
            refine w_ige K rfl (fun _ => ?_) (fun _ => ?_)
            · refine w_go K 2 (c' := (111, [some (.ref 116), some (.int a1), some (.int a2), o3, o4, some (.int v5), some (.int v6), some (.int 0), o8], [], mT s)) rfl ?_
              refine w_join K (fun (x26 : Int32 × mS) => ∀ (q27 : Option Value) (q28 : Option Value) (q29 : Option Value), mm_fix (mm_X len xs) mm_Y (mm_call (mm_X len xs) mm_Y (d + 3)) (mm_look mc_M_dueOf) (141, [some (.ref 116), some (.int a1), some (.int a2), q27, q28, some (.int v5), some (.int v6), some (.int x26.1), q29], [], mT x26.2) = T) (fun K hJ => tl_M_dueOf_2_111 (len := len) (xs := xs) d a1 a2 v5 v6 (T := T) K hJ mm_N (0 : Int32) _ _ _ s) (fun x26 h1 h2 q27 q28 q29 => ?_)
              revert h1 h2
              refine w_go K 4 (c' := (149, [some (.ref 116), some (.int a1), some (.int a2), q27, q28, some (.int v5), some (.int v6), some (.int x26.1), q29], [.int v6, .ref 158, .int x26.1], mT x26.2)) rfl ?_
              refine w_ck K (st_iL rfl rfl) ?_
              refine w_go K 0 (c' := (150, [some (.ref 116), some (.int a1), some (.int a2), q27, q28, some (.int v5), some (.int v6), some (.int x26.1), q29], [.int (gI x26.2 158 (ix v6)), .int x26.1], mT x26.2)) rfl ?_
              refine w_ine K rfl (fun _ => ?_) (fun _ => ?_)
              · refine w_go K 3 (c' := (47, [some (.ref 116), some (.int a1), some (.int a2), q27, q28, some (.int v5), some (.int (v6 + 1)), some (.int x26.1), q29], [], mT x26.2)) rfl ?_
                exact fun a b => ih v5 (v6 + 1) _ _ _ _ x26.2 a b
              · refine w_go K 15 (c' := (182, [some (.ref 116), some (.int a1), some (.int a2), q27, q28, some (.int v5), some (.int v6), some (.int x26.1), q29], [.int ((25 * v6) + x26.1), .ref 160, .int v6, .ref 116], mT (sI (sI x26.2 116 93 v6) 116 91 1))) rfl ?_
                refine w_ck K (st_iL rfl rfl) ?_
                refine w_go K 7 (c' := (195, [some (.ref 116), some (.int a1), some (.int a2), q27, q28, some (.int v5), some (.int v6), some (.int x26.1), q29], [.int ((24 * v6) + x26.1), .ref 161, .int (gI x26.2 160 (ix ((25 * v6) + x26.1))), .int v6, .ref 116], mT (sI (sI x26.2 116 93 v6) 116 91 1))) rfl ?_
                refine w_ck K (st_iL rfl rfl) ?_
                refine w_go K 0 (c' := (196, [some (.ref 116), some (.int a1), some (.int a2), q27, q28, some (.int v5), some (.int v6), some (.int x26.1), q29], [.int (gI x26.2 161 (ix ((24 * v6) + x26.1))), .int (gI x26.2 160 (ix ((25 * v6) + x26.1))), .int v6, .ref 116], mT (sI (sI x26.2 116 93 v6) 116 91 1))) rfl ?_
                refine w_callL K (E := f_M_comesTo v6 (gI x26.2 160 (ix ((25 * v6) + x26.1))) (gI x26.2 161 (ix ((24 * v6) + x26.1))) (sI (sI x26.2 116 93 v6) 116 91 1)) (g := fun (x30 : Int32 × mS) => (some (.int x30.1), mT x30.2)) rfl (m_M_comesTo (len := len) (xs := xs) (d + 1) v6 (gI x26.2 160 (ix ((25 * v6) + x26.1))) (gI x26.2 161 (ix ((24 * v6) + x26.1))) (sI (sI x26.2 116 93 v6) 116 91 1)) (fun x30 => ?_)
                refine w_go K 8 (c' := (212, [some (.ref 116), some (.int a1), some (.int a2), q27, (mm_cut q28 0), some (.int x30.1), some (.int v6), some (.int x26.1), some (.int (x26.1 + 1))], [], mT (sI x30.2 116 92 0))) rfl ?_
                refine w_join K (fun (x31 : Int32 × mS) => ∀ (q32 : Option Value) (q33 : Option Value) (q34 : Option Value), mm_fix (mm_X len xs) mm_Y (mm_call (mm_X len xs) mm_Y (d + 3)) (mm_look mc_M_dueOf) (295, [some (.ref 116), some (.int a1), some (.int a2), q32, q33, some (.int x30.1), some (.int v6), q34, some (.int x31.1)], [], mT x31.2) = T) (fun K hJ => tl_M_dueOf_2_212 (len := len) (xs := xs) d a1 a2 x30.1 v6 (T := T) K hJ mm_N (x26.1 + 1) _ _ _ (sI x30.2 116 92 0)) (fun x31 h1 h2 q32 q33 q34 => ?_)
                revert h1 h2
                refine w_go K 2 (c' := (47, [some (.ref 116), some (.int a1), some (.int a2), q32, q33, some (.int x30.1), some (.int (v6 + 1)), q34, some (.int x31.1)], [], mT x31.2)) rfl ?_
                exact fun a b => ih x30.1 (v6 + 1) _ _ _ _ x31.2 a b
            · refine w_go K 3 (c' := (47, [some (.ref 116), some (.int a1), some (.int a2), o3, o4, some (.int v5), some (.int (v6 + 1)), o7, o8], [], mT s)) rfl ?_
              exact fun a b => ih v5 (v6 + 1) _ _ _ _ s a b
def f_M_dueOf_2 (a2 : Int32) (a3 : Int32) (s : mS) : Int32 × mS := (mq_let (f_M_asks a2 a3 (0 : Int32) s) (fun (x10 : mS) => (mq_let (lp_M_dueOf_2_47 (2 : Int32) a2 mm_N (0 : Int32) (0 : Int32) (sI (sI (sI x10 116 91 0) 116 92 0) 116 93 (-1))) (fun (x35 : Int32 × Int32 × mS) => (x35.1, x35.2.2)))))
def ok_M_dueOf_2 (a2 : Int32) (a3 : Int32) (s : mS) : Prop := (ok_M_asks a2 a3 (0 : Int32) s ∧ mq_letP (f_M_asks a2 a3 (0 : Int32) s) (fun (x10 : mS) => (okl_M_dueOf_2_47 (2 : Int32) a2 mm_N (0 : Int32) (0 : Int32) (sI (sI (sI x10 116 91 0) 116 92 0) 116 93 (-1)) ∧ mq_letP (lp_M_dueOf_2_47 (2 : Int32) a2 mm_N (0 : Int32) (0 : Int32) (sI (sI (sI x10 116 91 0) 116 92 0) 116 93 (-1))) (fun (x35 : Int32 × Int32 × mS) => True))))
set_option maxRecDepth 4000 in
theorem t_M_dueOf_2 {len : Nat} {xs : Nat → Int32}  (d : Nat) (a2 : Int32) (a3 : Int32) (s : mS) {T : Option mm_R} (K : Int32 × mS → Prop) (hK : ∀ t, K t → some (some (.int t.1), mT t.2) = T) : ok_M_dueOf_2 a2 a3 s → K (f_M_dueOf_2 a2 a3 s) → mm_fix (mm_X len xs) mm_Y (mm_call (mm_X len xs) mm_Y (d + 3)) (mm_look mc_M_dueOf) (0, [some (.ref 116), some (.int 2), some (.int a2), some (.int a3), none, none, none, none, none], [], mT s) = T := by
  unfold ok_M_dueOf_2 f_M_dueOf_2
  refine w_go K 10 (c' := (23, [some (.ref 116), some (.int 2), some (.int a2), some (.int a3), some (.int 0), none, none, none, none], [.int 0, .int a3, .int a2, .ref 116], mT s)) rfl ?_
  refine w_callL K (E := f_M_asks a2 a3 (0 : Int32) s) (g := fun (x10 : mS) => (none, mT x10)) rfl (m_M_asks (len := len) (xs := xs) (d + 1) a2 a3 (0 : Int32) s) (fun x10 => ?_)
  refine w_go K 13 (c' := (47, [some (.ref 116), some (.int 2), some (.int a2), some (.int a3), some (.int 0), some (.int 0), some (.int 0), none, none], [], mT (sI (sI (sI x10 116 91 0) 116 92 0) 116 93 (-1)))) rfl ?_
  refine w_join K (fun (x35 : Int32 × Int32 × mS) => ∀ (q36 : Option Value) (q37 : Option Value) (q38 : Option Value) (q39 : Option Value), mm_fix (mm_X len xs) mm_Y (mm_call (mm_X len xs) mm_Y (d + 3)) (mm_look mc_M_dueOf) (301, [some (.ref 116), some (.int 2), some (.int a2), q36, q37, some (.int x35.1), some (.int x35.2.1), q38, q39], [], mT x35.2.2) = T) (fun K hJ => tl_M_dueOf_2_47 (len := len) (xs := xs) d (2 : Int32) a2 (T := T) K hJ mm_N (0 : Int32) (0 : Int32) _ _ _ _ (sI (sI (sI x10 116 91 0) 116 92 0) 116 93 (-1))) (fun x35 h1 h2 q36 q37 q38 q39 => ?_)
  revert h1 h2
  refine w_go K 1 (c' := (303, [some (.ref 116), some (.int 2), some (.int a2), q36, q37, some (.int x35.1), some (.int x35.2.1), q38, q39], [.int x35.1], mT x35.2.2)) rfl ?_
  exact w_ret K rfl (hK _)
theorem m_M_dueOf_2 {len : Nat} {xs : Nat → Int32}  (d : Nat) (a2 : Int32) (a3 : Int32) (s : mS) : ok_M_dueOf_2 a2 a3 s → mm_call (mm_X len xs) mm_Y (d + 4) 190 [.ref 116, .int 2, .int a2, .int a3] (mT s) = some (some (.int (f_M_dueOf_2 a2 a3 s).1), mT (f_M_dueOf_2 a2 a3 s).2) := fun h => t_M_dueOf_2 (len := len) (xs := xs) d a2 a3 s (fun t => (some (some (.int t.1), mT t.2) : Option mm_R) = some (some (.int (f_M_dueOf_2 a2 a3 s).1), mT (f_M_dueOf_2 a2 a3 s).2)) (fun _ h => h) h rfl
def lp_M_dueOf_111 (a1 : Int32) (a2 : Int32) (a5 : Int32) (a6 : Int32) : Nat → Int32 → mS → Int32 × mS
  | 0, v7, s => (v7, s)
  | n + 1, v7, s => (if (gI s 158 (ix a6)) ≤ v7 then (v7, s) else (mq_let (f_M_tells a6 v7 a1 s) (fun (x14 : Int32 × mS) => (if x14.1 = 0 then (lp_M_dueOf_111 a1 a2 a5 a6 n (v7 + 1) x14.2) else (v7, x14.2)))))
def okl_M_dueOf_111 (a1 : Int32) (a2 : Int32) (a5 : Int32) (a6 : Int32) : Nat → Int32 → mS → Prop
  | 0, v7, s => False
  | n + 1, v7, s => (mm_inb a6 4 = true ∧ (if (gI s 158 (ix a6)) ≤ v7 then True else (ok_M_tells a6 v7 a1 s ∧ mq_letP (f_M_tells a6 v7 a1 s) (fun (x14 : Int32 × mS) => (if x14.1 = 0 then (okl_M_dueOf_111 a1 a2 a5 a6 n (v7 + 1) x14.2) else True)))))
set_option maxRecDepth 4000 in
theorem tl_M_dueOf_111 {len : Nat} {xs : Nat → Int32}  (d : Nat) (a1 : Int32) (a2 : Int32) (a5 : Int32) (a6 : Int32)  {T : Option mm_R} (K : Int32 × mS → Prop) (hX : ∀ r, K r → ∀ (o3 : Option Value) (o4 : Option Value) (o8 : Option Value), mm_fix (mm_X len xs) mm_Y (mm_call (mm_X len xs) mm_Y (d + 4)) (mm_look mc_M_dueOf) (141, [some (.ref 116), some (.int a1), some (.int a2), o3, o4, some (.int a5), some (.int a6), some (.int r.1), o8], [], mT r.2) = T) : ∀ (n : Nat), ∀ (v7 : Int32) (o3 : Option Value) (o4 : Option Value) (o8 : Option Value) (s : mS), okl_M_dueOf_111 a1 a2 a5 a6 n v7 s → K (lp_M_dueOf_111 a1 a2 a5 a6 n v7 s) → mm_fix (mm_X len xs) mm_Y (mm_call (mm_X len xs) mm_Y (d + 4)) (mm_look mc_M_dueOf) (111, [some (.ref 116), some (.int a1), some (.int a2), o3, o4, some (.int a5), some (.int a6), some (.int v7), o8], [], mT s) = T := by
  intro n
  induction n with
  | zero => intro v7 o3 o4 o8 s; exact fun h => h.elim
  | succ n ih =>
    intro v7 o3 o4 o8 s
    rw [okl_M_dueOf_111, lp_M_dueOf_111]
    refine w_go K 4 (c' := (119, [some (.ref 116), some (.int a1), some (.int a2), o3, o4, some (.int a5), some (.int a6), some (.int v7), o8], [.int a6, .ref 158, .int v7], mT s)) rfl ?_
    refine w_ck K (st_iL rfl rfl) ?_
    refine w_go K 0 (c' := (120, [some (.ref 116), some (.int a1), some (.int a2), o3, o4, some (.int a5), some (.int a6), some (.int v7), o8], [.int (gI s 158 (ix a6)), .int v7], mT s)) rfl ?_
    refine w_ige K rfl (fun _ => ?_) (fun _ => ?_)
    · refine w_go K 0 (c' := (141, [some (.ref 116), some (.int a1), some (.int a2), o3, o4, some (.int a5), some (.int a6), some (.int v7), o8], [], mT s)) rfl ?_
      exact fun _ b => hX _ b _ _ _
    · refine w_go K 4 (c' := (129, [some (.ref 116), some (.int a1), some (.int a2), o3, o4, some (.int a5), some (.int a6), some (.int v7), o8], [.int a1, .int v7, .int a6, .ref 116], mT s)) rfl ?_
      refine w_callL K (E := f_M_tells a6 v7 a1 s) (g := fun (x14 : Int32 × mS) => (some (.int x14.1), mT x14.2)) rfl (m_M_tells (len := len) (xs := xs) (d + 1) a6 v7 a1 s) (fun x14 => ?_)
      refine w_go K 0 (c' := (132, [some (.ref 116), some (.int a1), some (.int a2), o3, o4, some (.int a5), some (.int a6), some (.int v7), o8], [.int x14.1], mT x14.2)) rfl ?_
      refine w_zne K rfl (fun _ => ?_) (fun _ => ?_)
      · refine w_go K 2 (c' := (111, [some (.ref 116), some (.int a1), some (.int a2), o3, o4, some (.int a5), some (.int a6), some (.int (v7 + 1)), o8], [], mT x14.2)) rfl ?_
        exact fun a b => ih (v7 + 1) _ _ _ x14.2 a b
      · refine w_go K 0 (c' := (141, [some (.ref 116), some (.int a1), some (.int a2), o3, o4, some (.int a5), some (.int a6), some (.int v7), o8], [], mT x14.2)) rfl ?_
        exact fun _ b => hX _ b _ _ _
def lp_M_dueOf_212 (a1 : Int32) (a2 : Int32) (a5 : Int32) (a6 : Int32) : Nat → Int32 → mS → Int32 × mS
  | 0, v8, s => (v8, s)
  | n + 1, v8, s => (if (gI s 158 (ix a6)) ≤ v8 then (v8, s) else (mq_let (if (gI s 116 92) = 0 then (mq_let (f_M_tells a6 v8 a1 s) (fun (x23 : Int32 × mS) => (if x23.1 = 0 then ((0 : Int32), x23.2) else (mq_let (f_M_comesTo a6 (gI x23.2 160 (ix ((25 * a6) + v8))) (gI x23.2 161 (ix ((24 * a6) + v8))) x23.2) (fun (x24 : Int32 × mS) => (if x24.1 = a5 then ((0 : Int32), x24.2) else ((1 : Int32), x24.2))))))) else ((1 : Int32), s)) (fun (x22 : Int32 × mS) => (lp_M_dueOf_212 a1 a2 a5 a6 n (v8 + 1) (sI x22.2 116 92 x22.1)))))
def okl_M_dueOf_212 (a1 : Int32) (a2 : Int32) (a5 : Int32) (a6 : Int32) : Nat → Int32 → mS → Prop
  | 0, v8, s => False
  | n + 1, v8, s => (mm_inb a6 4 = true ∧ (if (gI s 158 (ix a6)) ≤ v8 then True else ((if (gI s 116 92) = 0 then (ok_M_tells a6 v8 a1 s ∧ mq_letP (f_M_tells a6 v8 a1 s) (fun (x23 : Int32 × mS) => (if x23.1 = 0 then True else (mm_inb ((25 * a6) + v8) 100 = true ∧ (mm_inb ((24 * a6) + v8) 96 = true ∧ (ok_M_comesTo a6 (gI x23.2 160 (ix ((25 * a6) + v8))) (gI x23.2 161 (ix ((24 * a6) + v8))) x23.2 ∧ mq_letP (f_M_comesTo a6 (gI x23.2 160 (ix ((25 * a6) + v8))) (gI x23.2 161 (ix ((24 * a6) + v8))) x23.2) (fun (x24 : Int32 × mS) => True))))))) else True) ∧ mq_letP (if (gI s 116 92) = 0 then (mq_let (f_M_tells a6 v8 a1 s) (fun (x23 : Int32 × mS) => (if x23.1 = 0 then ((0 : Int32), x23.2) else (mq_let (f_M_comesTo a6 (gI x23.2 160 (ix ((25 * a6) + v8))) (gI x23.2 161 (ix ((24 * a6) + v8))) x23.2) (fun (x24 : Int32 × mS) => (if x24.1 = a5 then ((0 : Int32), x24.2) else ((1 : Int32), x24.2))))))) else ((1 : Int32), s)) (fun (x22 : Int32 × mS) => (mm_bit x22.1 = true ∧ (okl_M_dueOf_212 a1 a2 a5 a6 n (v8 + 1) (sI x22.2 116 92 x22.1)))))))
set_option maxRecDepth 4000 in
theorem tl_M_dueOf_212 {len : Nat} {xs : Nat → Int32}  (d : Nat) (a1 : Int32) (a2 : Int32) (a5 : Int32) (a6 : Int32)  {T : Option mm_R} (K : Int32 × mS → Prop) (hX : ∀ r, K r → ∀ (o3 : Option Value) (o4 : Option Value) (o7 : Option Value), mm_fix (mm_X len xs) mm_Y (mm_call (mm_X len xs) mm_Y (d + 4)) (mm_look mc_M_dueOf) (295, [some (.ref 116), some (.int a1), some (.int a2), o3, o4, some (.int a5), some (.int a6), o7, some (.int r.1)], [], mT r.2) = T) : ∀ (n : Nat), ∀ (v8 : Int32) (o3 : Option Value) (o4 : Option Value) (o7 : Option Value) (s : mS), okl_M_dueOf_212 a1 a2 a5 a6 n v8 s → K (lp_M_dueOf_212 a1 a2 a5 a6 n v8 s) → mm_fix (mm_X len xs) mm_Y (mm_call (mm_X len xs) mm_Y (d + 4)) (mm_look mc_M_dueOf) (212, [some (.ref 116), some (.int a1), some (.int a2), o3, o4, some (.int a5), some (.int a6), o7, some (.int v8)], [], mT s) = T := by
  intro n
  induction n with
  | zero => intro v8 o3 o4 o7 s; exact fun h => h.elim
  | succ n ih =>
    intro v8 o3 o4 o7 s
    rw [okl_M_dueOf_212, lp_M_dueOf_212]
    refine w_go K 4 (c' := (220, [some (.ref 116), some (.int a1), some (.int a2), o3, o4, some (.int a5), some (.int a6), o7, some (.int v8)], [.int a6, .ref 158, .int v8], mT s)) rfl ?_
    refine w_ck K (st_iL rfl rfl) ?_
    refine w_go K 0 (c' := (221, [some (.ref 116), some (.int a1), some (.int a2), o3, o4, some (.int a5), some (.int a6), o7, some (.int v8)], [.int (gI s 158 (ix a6)), .int v8], mT s)) rfl ?_
    refine w_ige K rfl (fun _ => ?_) (fun _ => ?_)
    · refine w_go K 0 (c' := (295, [some (.ref 116), some (.int a1), some (.int a2), o3, o4, some (.int a5), some (.int a6), o7, some (.int v8)], [], mT s)) rfl ?_
      exact fun _ b => hX _ b _ _ _
    · refine w_go K 3 (c' := (229, [some (.ref 116), some (.int a1), some (.int a2), o3, o4, some (.int a5), some (.int a6), o7, some (.int v8)], [.int (gI s 116 92), .ref 116], mT s)) rfl ?_
      refine w_join K (fun (x22 : Int32 × mS) => mm_fix (mm_X len xs) mm_Y (mm_call (mm_X len xs) mm_Y (d + 4)) (mm_look mc_M_dueOf) (286, [some (.ref 116), some (.int a1), some (.int a2), o3, o4, some (.int a5), some (.int a6), o7, some (.int v8)], [.int x22.1, .ref 116], mT x22.2) = T) (fun K hJ => ?_) (fun x22 h1 h2 => ?_)
      · refine w_go K 0 (c' := (229, [some (.ref 116), some (.int a1), some (.int a2), o3, o4, some (.int a5), some (.int a6), o7, some (.int v8)], [.int (gI s 116 92), .ref 116], mT s)) rfl ?_
        refine w_zne K rfl (fun _ => ?_) (fun _ => ?_)
        · refine w_go K 4 (c' := (238, [some (.ref 116), some (.int a1), some (.int a2), o3, o4, some (.int a5), some (.int a6), o7, some (.int v8)], [.int a1, .int v8, .int a6, .ref 116, .ref 116], mT s)) rfl ?_
          refine w_callL K (E := f_M_tells a6 v8 a1 s) (g := fun (x23 : Int32 × mS) => (some (.int x23.1), mT x23.2)) rfl (m_M_tells (len := len) (xs := xs) (d + 1) a6 v8 a1 s) (fun x23 => ?_)
          refine w_go K 0 (c' := (241, [some (.ref 116), some (.int a1), some (.int a2), o3, o4, some (.int a5), some (.int a6), o7, some (.int v8)], [.int x23.1, .ref 116], mT x23.2)) rfl ?_
          refine w_zeq K rfl (fun _ => ?_) (fun _ => ?_)
          · refine w_go K 1 (c' := (286, [some (.ref 116), some (.int a1), some (.int a2), o3, o4, some (.int a5), some (.int a6), o7, some (.int v8)], [.int 0, .ref 116], mT x23.2)) rfl ?_
            exact fun _ h => hJ _ h
          · refine w_go K 9 (c' := (259, [some (.ref 116), some (.int a1), some (.int a2), o3, o4, some (.int a5), some (.int a6), o7, some (.int v8)], [.int ((25 * a6) + v8), .ref 160, .int a6, .ref 116, .ref 116], mT x23.2)) rfl ?_
            refine w_ck K (st_iL rfl rfl) ?_
            refine w_go K 7 (c' := (272, [some (.ref 116), some (.int a1), some (.int a2), o3, o4, some (.int a5), some (.int a6), o7, some (.int v8)], [.int ((24 * a6) + v8), .ref 161, .int (gI x23.2 160 (ix ((25 * a6) + v8))), .int a6, .ref 116, .ref 116], mT x23.2)) rfl ?_
            refine w_ck K (st_iL rfl rfl) ?_
            refine w_go K 0 (c' := (273, [some (.ref 116), some (.int a1), some (.int a2), o3, o4, some (.int a5), some (.int a6), o7, some (.int v8)], [.int (gI x23.2 161 (ix ((24 * a6) + v8))), .int (gI x23.2 160 (ix ((25 * a6) + v8))), .int a6, .ref 116, .ref 116], mT x23.2)) rfl ?_
            refine w_callL K (E := f_M_comesTo a6 (gI x23.2 160 (ix ((25 * a6) + v8))) (gI x23.2 161 (ix ((24 * a6) + v8))) x23.2) (g := fun (x24 : Int32 × mS) => (some (.int x24.1), mT x24.2)) rfl (m_M_comesTo (len := len) (xs := xs) (d + 2) a6 (gI x23.2 160 (ix ((25 * a6) + v8))) (gI x23.2 161 (ix ((24 * a6) + v8))) x23.2) (fun x24 => ?_)
            refine w_go K 1 (c' := (278, [some (.ref 116), some (.int a1), some (.int a2), o3, o4, some (.int a5), some (.int a6), o7, some (.int v8)], [.int a5, .int x24.1, .ref 116], mT x24.2)) rfl ?_
            refine w_ieqT K rfl (fun _ => ?_) (fun _ => ?_)
            · refine w_go K 1 (c' := (286, [some (.ref 116), some (.int a1), some (.int a2), o3, o4, some (.int a5), some (.int a6), o7, some (.int v8)], [.int 0, .ref 116], mT x24.2)) rfl ?_
              exact fun _ h => hJ _ h
            · refine w_go K 2 (c' := (286, [some (.ref 116), some (.int a1), some (.int a2), o3, o4, some (.int a5), some (.int a6), o7, some (.int v8)], [.int 1, .ref 116], mT x24.2)) rfl ?_
              exact fun _ h => hJ _ h
        · refine w_go K 2 (c' := (286, [some (.ref 116), some (.int a1), some (.int a2), o3, o4, some (.int a5), some (.int a6), o7, some (.int v8)], [.int 1, .ref 116], mT s)) rfl ?_
          exact fun _ h => hJ _ h
      · revert h1 h2
        refine w_go K 0 (c' := (286, [some (.ref 116), some (.int a1), some (.int a2), o3, o4, some (.int a5), some (.int a6), o7, some (.int v8)], [.int x22.1, .ref 116], mT x22.2)) rfl ?_
        refine w_ck K rfl ?_
        refine w_go K 2 (c' := (212, [some (.ref 116), some (.int a1), some (.int a2), o3, o4, some (.int a5), some (.int a6), (mm_cut o7 0), some (.int (v8 + 1))], [], mT (sI x22.2 116 92 x22.1))) rfl ?_
        exact fun a b => ih (v8 + 1) _ _ _ (sI x22.2 116 92 x22.1) a b
def lp_M_dueOf_47 (a1 : Int32) (a2 : Int32) : Nat → Int32 → Int32 → mS → Int32 × Int32 × mS
  | 0, v5, v6, s => (v5, v6, s)
  | n + 1, v5, v6, s => (if (4 : Int32) ≤ v6 then (v5, v6, s) else (if (gI s 157 (ix v6)) = (-1) then (lp_M_dueOf_47 a1 a2 n v5 (v6 + 1) s) else (if (a2 / 96) < (gI s 157 (ix v6)) then (lp_M_dueOf_47 a1 a2 n v5 (v6 + 1) s) else (if (gI s 116 93) = (-1) then (mq_let (lp_M_dueOf_111 a1 a2 v5 v6 mm_N (0 : Int32) s) (fun (x15 : Int32 × mS) => (if x15.1 = (gI x15.2 158 (ix v6)) then (lp_M_dueOf_47 a1 a2 n v5 (v6 + 1) x15.2) else (mq_let (f_M_comesTo v6 (gI x15.2 160 (ix ((25 * v6) + x15.1))) (gI x15.2 161 (ix ((24 * v6) + x15.1))) (sI (sI x15.2 116 93 v6) 116 91 1)) (fun (x19 : Int32 × mS) => (mq_let (lp_M_dueOf_212 a1 a2 x19.1 v6 mm_N (x15.1 + 1) (sI x19.2 116 92 0)) (fun (x25 : Int32 × mS) => (lp_M_dueOf_47 a1 a2 n x19.1 (v6 + 1) x25.2)))))))) else (if (gI s 157 (ix (gI s 116 93))) ≤ (gI s 157 (ix v6)) then (mq_let (lp_M_dueOf_111 a1 a2 v5 v6 mm_N (0 : Int32) s) (fun (x29 : Int32 × mS) => (if x29.1 = (gI x29.2 158 (ix v6)) then (lp_M_dueOf_47 a1 a2 n v5 (v6 + 1) x29.2) else (mq_let (f_M_comesTo v6 (gI x29.2 160 (ix ((25 * v6) + x29.1))) (gI x29.2 161 (ix ((24 * v6) + x29.1))) (sI (sI x29.2 116 93 v6) 116 91 1)) (fun (x33 : Int32 × mS) => (mq_let (lp_M_dueOf_212 a1 a2 x33.1 v6 mm_N (x29.1 + 1) (sI x33.2 116 92 0)) (fun (x34 : Int32 × mS) => (lp_M_dueOf_47 a1 a2 n x33.1 (v6 + 1) x34.2)))))))) else (lp_M_dueOf_47 a1 a2 n v5 (v6 + 1) s))))))
def okl_M_dueOf_47 (a1 : Int32) (a2 : Int32) : Nat → Int32 → Int32 → mS → Prop
  | 0, v5, v6, s => False
  | n + 1, v5, v6, s => (if (4 : Int32) ≤ v6 then True else (mm_inb v6 4 = true ∧ (if (gI s 157 (ix v6)) = (-1) then (okl_M_dueOf_47 a1 a2 n v5 (v6 + 1) s) else (mm_inb v6 4 = true ∧ (if (a2 / 96) < (gI s 157 (ix v6)) then (okl_M_dueOf_47 a1 a2 n v5 (v6 + 1) s) else (if (gI s 116 93) = (-1) then (okl_M_dueOf_111 a1 a2 v5 v6 mm_N (0 : Int32) s ∧ mq_letP (lp_M_dueOf_111 a1 a2 v5 v6 mm_N (0 : Int32) s) (fun (x15 : Int32 × mS) => (mm_inb v6 4 = true ∧ (if x15.1 = (gI x15.2 158 (ix v6)) then (okl_M_dueOf_47 a1 a2 n v5 (v6 + 1) x15.2) else (mm_inb ((25 * v6) + x15.1) 100 = true ∧ (mm_inb ((24 * v6) + x15.1) 96 = true ∧ (ok_M_comesTo v6 (gI x15.2 160 (ix ((25 * v6) + x15.1))) (gI x15.2 161 (ix ((24 * v6) + x15.1))) (sI (sI x15.2 116 93 v6) 116 91 1) ∧ mq_letP (f_M_comesTo v6 (gI x15.2 160 (ix ((25 * v6) + x15.1))) (gI x15.2 161 (ix ((24 * v6) + x15.1))) (sI (sI x15.2 116 93 v6) 116 91 1)) (fun (x19 : Int32 × mS) => (okl_M_dueOf_212 a1 a2 x19.1 v6 mm_N (x15.1 + 1) (sI x19.2 116 92 0) ∧ mq_letP (lp_M_dueOf_212 a1 a2 x19.1 v6 mm_N (x15.1 + 1) (sI x19.2 116 92 0)) (fun (x25 : Int32 × mS) => (okl_M_dueOf_47 a1 a2 n x19.1 (v6 + 1) x25.2))))))))))) else (mm_inb v6 4 = true ∧ (mm_inb (gI s 116 93) 4 = true ∧ (if (gI s 157 (ix (gI s 116 93))) ≤ (gI s 157 (ix v6)) then (okl_M_dueOf_111 a1 a2 v5 v6 mm_N (0 : Int32) s ∧ mq_letP (lp_M_dueOf_111 a1 a2 v5 v6 mm_N (0 : Int32) s) (fun (x29 : Int32 × mS) => (mm_inb v6 4 = true ∧ (if x29.1 = (gI x29.2 158 (ix v6)) then (okl_M_dueOf_47 a1 a2 n v5 (v6 + 1) x29.2) else (mm_inb ((25 * v6) + x29.1) 100 = true ∧ (mm_inb ((24 * v6) + x29.1) 96 = true ∧ (ok_M_comesTo v6 (gI x29.2 160 (ix ((25 * v6) + x29.1))) (gI x29.2 161 (ix ((24 * v6) + x29.1))) (sI (sI x29.2 116 93 v6) 116 91 1) ∧ mq_letP (f_M_comesTo v6 (gI x29.2 160 (ix ((25 * v6) + x29.1))) (gI x29.2 161 (ix ((24 * v6) + x29.1))) (sI (sI x29.2 116 93 v6) 116 91 1)) (fun (x33 : Int32 × mS) => (okl_M_dueOf_212 a1 a2 x33.1 v6 mm_N (x29.1 + 1) (sI x33.2 116 92 0) ∧ mq_letP (lp_M_dueOf_212 a1 a2 x33.1 v6 mm_N (x29.1 + 1) (sI x33.2 116 92 0)) (fun (x34 : Int32 × mS) => (okl_M_dueOf_47 a1 a2 n x33.1 (v6 + 1) x34.2))))))))))) else (okl_M_dueOf_47 a1 a2 n v5 (v6 + 1) s))))))))))
set_option maxRecDepth 4000 in
theorem tl_M_dueOf_47 {len : Nat} {xs : Nat → Int32}  (d : Nat) (a1 : Int32) (a2 : Int32)  {T : Option mm_R} (K : Int32 × Int32 × mS → Prop) (hX : ∀ r, K r → ∀ (o3 : Option Value) (o4 : Option Value) (o7 : Option Value) (o8 : Option Value), mm_fix (mm_X len xs) mm_Y (mm_call (mm_X len xs) mm_Y (d + 4)) (mm_look mc_M_dueOf) (301, [some (.ref 116), some (.int a1), some (.int a2), o3, o4, some (.int r.1), some (.int r.2.1), o7, o8], [], mT r.2.2) = T) : ∀ (n : Nat), ∀ (v5 : Int32) (v6 : Int32) (o3 : Option Value) (o4 : Option Value) (o7 : Option Value) (o8 : Option Value) (s : mS), okl_M_dueOf_47 a1 a2 n v5 v6 s → K (lp_M_dueOf_47 a1 a2 n v5 v6 s) → mm_fix (mm_X len xs) mm_Y (mm_call (mm_X len xs) mm_Y (d + 4)) (mm_look mc_M_dueOf) (47, [some (.ref 116), some (.int a1), some (.int a2), o3, o4, some (.int v5), some (.int v6), o7, o8], [], mT s) = T := by
  intro n
  induction n with
  | zero => intro v5 v6 o3 o4 o7 o8 s; exact fun h => h.elim
  | succ n ih =>
    intro v5 v6 o3 o4 o7 o8 s
    rw [okl_M_dueOf_47, lp_M_dueOf_47]
    refine w_go K 2 (c' := (50, [some (.ref 116), some (.int a1), some (.int a2), o3, o4, some (.int v5), some (.int v6), o7, o8], [.int 4, .int v6], mT s)) rfl ?_
    refine w_ige K rfl (fun _ => ?_) (fun _ => ?_)
    · refine w_go K 0 (c' := (301, [some (.ref 116), some (.int a1), some (.int a2), o3, o4, some (.int v5), some (.int v6), o7, o8], [], mT s)) rfl ?_
      exact fun _ b => hX _ b _ _ _ _
    · refine w_go K 3 (c' := (59, [some (.ref 116), some (.int a1), some (.int a2), o3, o4, some (.int v5), some (.int v6), o7, o8], [.int v6, .ref 157], mT s)) rfl ?_
      refine w_ck K (st_iL rfl rfl) ?_
      refine w_go K 1 (c' := (61, [some (.ref 116), some (.int a1), some (.int a2), o3, o4, some (.int v5), some (.int v6), o7, o8], [.int (-1), .int (gI s 157 (ix v6))], mT s)) rfl ?_
      refine w_ieq K rfl (fun _ => ?_) (fun _ => ?_)
      · refine w_go K 2 (c' := (47, [some (.ref 116), some (.int a1), some (.int a2), o3, o4, some (.int v5), some (.int (v6 + 1)), o7, o8], [], mT s)) rfl ?_
        exact fun a b => ih v5 (v6 + 1) _ _ _ _ s a b
      · refine w_go K 3 (c' := (70, [some (.ref 116), some (.int a1), some (.int a2), o3, o4, some (.int v5), some (.int v6), o7, o8], [.int v6, .ref 157], mT s)) rfl ?_
        refine w_ck K (st_iL rfl rfl) ?_
        refine w_go K 3 (c' := (75, [some (.ref 116), some (.int a1), some (.int a2), o3, o4, some (.int v5), some (.int v6), o7, o8], [.int (a2 / 96), .int (gI s 157 (ix v6))], mT s)) rfl ?_
        refine w_igt K rfl (fun _ => ?_) (fun _ => ?_)
        · refine w_go K 2 (c' := (47, [some (.ref 116), some (.int a1), some (.int a2), o3, o4, some (.int v5), some (.int (v6 + 1)), o7, o8], [], mT s)) rfl ?_
          exact fun a b => ih v5 (v6 + 1) _ _ _ _ s a b
        · refine w_go K 3 (c' := (83, [some (.ref 116), some (.int a1), some (.int a2), o3, o4, some (.int v5), some (.int v6), o7, o8], [.int (-1), .int (gI s 116 93)], mT s)) rfl ?_
          refine w_ieq K rfl (fun _ => ?_) (fun _ => ?_)
          · refine w_go K 2 (c' := (111, [some (.ref 116), some (.int a1), some (.int a2), o3, o4, some (.int v5), some (.int v6), some (.int 0), o8], [], mT s)) rfl ?_
            refine w_join K (fun (x15 : Int32 × mS) => ∀ (q16 : Option Value) (q17 : Option Value) (q18 : Option Value), mm_fix (mm_X len xs) mm_Y (mm_call (mm_X len xs) mm_Y (d + 4)) (mm_look mc_M_dueOf) (141, [some (.ref 116), some (.int a1), some (.int a2), q16, q17, some (.int v5), some (.int v6), some (.int x15.1), q18], [], mT x15.2) = T) (fun K hJ => tl_M_dueOf_111 (len := len) (xs := xs) d a1 a2 v5 v6 (T := T) K hJ mm_N (0 : Int32) _ _ _ s) (fun x15 h1 h2 q16 q17 q18 => ?_)
            revert h1 h2
            refine w_go K 4 (c' := (149, [some (.ref 116), some (.int a1), some (.int a2), q16, q17, some (.int v5), some (.int v6), some (.int x15.1), q18], [.int v6, .ref 158, .int x15.1], mT x15.2)) rfl ?_
            refine w_ck K (st_iL rfl rfl) ?_
            refine w_go K 0 (c' := (150, [some (.ref 116), some (.int a1), some (.int a2), q16, q17, some (.int v5), some (.int v6), some (.int x15.1), q18], [.int (gI x15.2 158 (ix v6)), .int x15.1], mT x15.2)) rfl ?_
            refine w_ine K rfl (fun _ => ?_) (fun _ => ?_)
            · refine w_go K 3 (c' := (47, [some (.ref 116), some (.int a1), some (.int a2), q16, q17, some (.int v5), some (.int (v6 + 1)), some (.int x15.1), q18], [], mT x15.2)) rfl ?_
              exact fun a b => ih v5 (v6 + 1) _ _ _ _ x15.2 a b
            · refine w_go K 15 (c' := (182, [some (.ref 116), some (.int a1), some (.int a2), q16, q17, some (.int v5), some (.int v6), some (.int x15.1), q18], [.int ((25 * v6) + x15.1), .ref 160, .int v6, .ref 116], mT (sI (sI x15.2 116 93 v6) 116 91 1))) rfl ?_
              refine w_ck K (st_iL rfl rfl) ?_
              refine w_go K 7 (c' := (195, [some (.ref 116), some (.int a1), some (.int a2), q16, q17, some (.int v5), some (.int v6), some (.int x15.1), q18], [.int ((24 * v6) + x15.1), .ref 161, .int (gI x15.2 160 (ix ((25 * v6) + x15.1))), .int v6, .ref 116], mT (sI (sI x15.2 116 93 v6) 116 91 1))) rfl ?_
              refine w_ck K (st_iL rfl rfl) ?_
              refine w_go K 0 (c' := (196, [some (.ref 116), some (.int a1), some (.int a2), q16, q17, some (.int v5), some (.int v6), some (.int x15.1), q18], [.int (gI x15.2 161 (ix ((24 * v6) + x15.1))), .int (gI x15.2 160 (ix ((25 * v6) + x15.1))), .int v6, .ref 116], mT (sI (sI x15.2 116 93 v6) 116 91 1))) rfl ?_
              refine w_callL K (E := f_M_comesTo v6 (gI x15.2 160 (ix ((25 * v6) + x15.1))) (gI x15.2 161 (ix ((24 * v6) + x15.1))) (sI (sI x15.2 116 93 v6) 116 91 1)) (g := fun (x19 : Int32 × mS) => (some (.int x19.1), mT x19.2)) rfl (m_M_comesTo (len := len) (xs := xs) (d + 2) v6 (gI x15.2 160 (ix ((25 * v6) + x15.1))) (gI x15.2 161 (ix ((24 * v6) + x15.1))) (sI (sI x15.2 116 93 v6) 116 91 1)) (fun x19 => ?_)
              refine w_go K 8 (c' := (212, [some (.ref 116), some (.int a1), some (.int a2), q16, (mm_cut q17 0), some (.int x19.1), some (.int v6), some (.int x15.1), some (.int (x15.1 + 1))], [], mT (sI x19.2 116 92 0))) rfl ?_
              refine w_join K (fun (x25 : Int32 × mS) => ∀ (q26 : Option Value) (q27 : Option Value) (q28 : Option Value), mm_fix (mm_X len xs) mm_Y (mm_call (mm_X len xs) mm_Y (d + 4)) (mm_look mc_M_dueOf) (295, [some (.ref 116), some (.int a1), some (.int a2), q26, q27, some (.int x19.1), some (.int v6), q28, some (.int x25.1)], [], mT x25.2) = T) (fun K hJ => tl_M_dueOf_212 (len := len) (xs := xs) d a1 a2 x19.1 v6 (T := T) K hJ mm_N (x15.1 + 1) _ _ _ (sI x19.2 116 92 0)) (fun x25 h1 h2 q26 q27 q28 => ?_)
              revert h1 h2
              refine w_go K 2 (c' := (47, [some (.ref 116), some (.int a1), some (.int a2), q26, q27, some (.int x19.1), some (.int (v6 + 1)), q28, some (.int x25.1)], [], mT x25.2)) rfl ?_
              exact fun a b => ih x19.1 (v6 + 1) _ _ _ _ x25.2 a b
          · refine w_go K 3 (c' := (92, [some (.ref 116), some (.int a1), some (.int a2), o3, o4, some (.int v5), some (.int v6), o7, o8], [.int v6, .ref 157], mT s)) rfl ?_
            refine w_ck K (st_iL rfl rfl) ?_
            refine w_go K 4 (c' := (101, [some (.ref 116), some (.int a1), some (.int a2), o3, o4, some (.int v5), some (.int v6), o7, o8], [.int (gI s 116 93), .ref 157, .int (gI s 157 (ix v6))], mT s)) rfl ?_
            refine w_ck K (st_iL rfl rfl) ?_
            refine w_go K 0 (c' := (102, [some (.ref 116), some (.int a1), some (.int a2), o3, o4, some (.int v5), some (.int v6), o7, o8], [.int (gI s 157 (ix (gI s 116 93))), .int (gI s 157 (ix v6))], mT s)) rfl ?_
            refine w_ige K rfl (fun _ => ?_) (fun _ => ?_)
            · refine w_go K 2 (c' := (111, [some (.ref 116), some (.int a1), some (.int a2), o3, o4, some (.int v5), some (.int v6), some (.int 0), o8], [], mT s)) rfl ?_
              refine w_join K (fun (x29 : Int32 × mS) => ∀ (q30 : Option Value) (q31 : Option Value) (q32 : Option Value), mm_fix (mm_X len xs) mm_Y (mm_call (mm_X len xs) mm_Y (d + 4)) (mm_look mc_M_dueOf) (141, [some (.ref 116), some (.int a1), some (.int a2), q30, q31, some (.int v5), some (.int v6), some (.int x29.1), q32], [], mT x29.2) = T) (fun K hJ => tl_M_dueOf_111 (len := len) (xs := xs) d a1 a2 v5 v6 (T := T) K hJ mm_N (0 : Int32) _ _ _ s) (fun x29 h1 h2 q30 q31 q32 => ?_)
              revert h1 h2
              refine w_go K 4 (c' := (149, [some (.ref 116), some (.int a1), some (.int a2), q30, q31, some (.int v5), some (.int v6), some (.int x29.1), q32], [.int v6, .ref 158, .int x29.1], mT x29.2)) rfl ?_
              refine w_ck K (st_iL rfl rfl) ?_
              refine w_go K 0 (c' := (150, [some (.ref 116), some (.int a1), some (.int a2), q30, q31, some (.int v5), some (.int v6), some (.int x29.1), q32], [.int (gI x29.2 158 (ix v6)), .int x29.1], mT x29.2)) rfl ?_
              refine w_ine K rfl (fun _ => ?_) (fun _ => ?_)
              · refine w_go K 3 (c' := (47, [some (.ref 116), some (.int a1), some (.int a2), q30, q31, some (.int v5), some (.int (v6 + 1)), some (.int x29.1), q32], [], mT x29.2)) rfl ?_
                exact fun a b => ih v5 (v6 + 1) _ _ _ _ x29.2 a b
              · refine w_go K 15 (c' := (182, [some (.ref 116), some (.int a1), some (.int a2), q30, q31, some (.int v5), some (.int v6), some (.int x29.1), q32], [.int ((25 * v6) + x29.1), .ref 160, .int v6, .ref 116], mT (sI (sI x29.2 116 93 v6) 116 91 1))) rfl ?_
                refine w_ck K (st_iL rfl rfl) ?_
                refine w_go K 7 (c' := (195, [some (.ref 116), some (.int a1), some (.int a2), q30, q31, some (.int v5), some (.int v6), some (.int x29.1), q32], [.int ((24 * v6) + x29.1), .ref 161, .int (gI x29.2 160 (ix ((25 * v6) + x29.1))), .int v6, .ref 116], mT (sI (sI x29.2 116 93 v6) 116 91 1))) rfl ?_
                refine w_ck K (st_iL rfl rfl) ?_
                refine w_go K 0 (c' := (196, [some (.ref 116), some (.int a1), some (.int a2), q30, q31, some (.int v5), some (.int v6), some (.int x29.1), q32], [.int (gI x29.2 161 (ix ((24 * v6) + x29.1))), .int (gI x29.2 160 (ix ((25 * v6) + x29.1))), .int v6, .ref 116], mT (sI (sI x29.2 116 93 v6) 116 91 1))) rfl ?_
                refine w_callL K (E := f_M_comesTo v6 (gI x29.2 160 (ix ((25 * v6) + x29.1))) (gI x29.2 161 (ix ((24 * v6) + x29.1))) (sI (sI x29.2 116 93 v6) 116 91 1)) (g := fun (x33 : Int32 × mS) => (some (.int x33.1), mT x33.2)) rfl (m_M_comesTo (len := len) (xs := xs) (d + 2) v6 (gI x29.2 160 (ix ((25 * v6) + x29.1))) (gI x29.2 161 (ix ((24 * v6) + x29.1))) (sI (sI x29.2 116 93 v6) 116 91 1)) (fun x33 => ?_)
                refine w_go K 8 (c' := (212, [some (.ref 116), some (.int a1), some (.int a2), q30, (mm_cut q31 0), some (.int x33.1), some (.int v6), some (.int x29.1), some (.int (x29.1 + 1))], [], mT (sI x33.2 116 92 0))) rfl ?_
                refine w_join K (fun (x34 : Int32 × mS) => ∀ (q35 : Option Value) (q36 : Option Value) (q37 : Option Value), mm_fix (mm_X len xs) mm_Y (mm_call (mm_X len xs) mm_Y (d + 4)) (mm_look mc_M_dueOf) (295, [some (.ref 116), some (.int a1), some (.int a2), q35, q36, some (.int x33.1), some (.int v6), q37, some (.int x34.1)], [], mT x34.2) = T) (fun K hJ => tl_M_dueOf_212 (len := len) (xs := xs) d a1 a2 x33.1 v6 (T := T) K hJ mm_N (x29.1 + 1) _ _ _ (sI x33.2 116 92 0)) (fun x34 h1 h2 q35 q36 q37 => ?_)
                revert h1 h2
                refine w_go K 2 (c' := (47, [some (.ref 116), some (.int a1), some (.int a2), q35, q36, some (.int x33.1), some (.int (v6 + 1)), q37, some (.int x34.1)], [], mT x34.2)) rfl ?_
                exact fun a b => ih x33.1 (v6 + 1) _ _ _ _ x34.2 a b
            · refine w_go K 3 (c' := (47, [some (.ref 116), some (.int a1), some (.int a2), o3, o4, some (.int v5), some (.int (v6 + 1)), o7, o8], [], mT s)) rfl ?_
              exact fun a b => ih v5 (v6 + 1) _ _ _ _ s a b
def f_M_dueOf (a1 : Int32) (a2 : Int32) (a3 : Int32) (s : mS) : Int32 × mS := (mq_let (if a1 = 2 then ((0 : Int32), s) else (mq_let (f_M_dueOf_2 a2 (0 : Int32) s) (fun (x12 : Int32 × mS) => (x12.1, x12.2)))) (fun (x11 : Int32 × mS) => (mq_let (f_M_asks a2 a3 x11.1 x11.2) (fun (x13 : mS) => (mq_let (lp_M_dueOf_47 a1 a2 mm_N (0 : Int32) (0 : Int32) (sI (sI (sI x13 116 91 0) 116 92 0) 116 93 (-1))) (fun (x38 : Int32 × Int32 × mS) => (x38.1, x38.2.2)))))))
def ok_M_dueOf (a1 : Int32) (a2 : Int32) (a3 : Int32) (s : mS) : Prop := ((if a1 = 2 then True else (ok_M_dueOf_2 a2 (0 : Int32) s ∧ mq_letP (f_M_dueOf_2 a2 (0 : Int32) s) (fun (x12 : Int32 × mS) => True))) ∧ mq_letP (if a1 = 2 then ((0 : Int32), s) else (mq_let (f_M_dueOf_2 a2 (0 : Int32) s) (fun (x12 : Int32 × mS) => (x12.1, x12.2)))) (fun (x11 : Int32 × mS) => (ok_M_asks a2 a3 x11.1 x11.2 ∧ mq_letP (f_M_asks a2 a3 x11.1 x11.2) (fun (x13 : mS) => (okl_M_dueOf_47 a1 a2 mm_N (0 : Int32) (0 : Int32) (sI (sI (sI x13 116 91 0) 116 92 0) 116 93 (-1)) ∧ mq_letP (lp_M_dueOf_47 a1 a2 mm_N (0 : Int32) (0 : Int32) (sI (sI (sI x13 116 91 0) 116 92 0) 116 93 (-1))) (fun (x38 : Int32 × Int32 × mS) => True))))))
set_option maxRecDepth 4000 in
theorem t_M_dueOf {len : Nat} {xs : Nat → Int32}  (d : Nat) (a1 : Int32) (a2 : Int32) (a3 : Int32) (s : mS) {T : Option mm_R} (K : Int32 × mS → Prop) (hK : ∀ t, K t → some (some (.int t.1), mT t.2) = T) : ok_M_dueOf a1 a2 a3 s → K (f_M_dueOf a1 a2 a3 s) → mm_fix (mm_X len xs) mm_Y (mm_call (mm_X len xs) mm_Y (d + 4)) (mm_look mc_M_dueOf) (0, [some (.ref 116), some (.int a1), some (.int a2), some (.int a3), none, none, none, none, none], [], mT s) = T := by
  unfold ok_M_dueOf f_M_dueOf
  refine w_go K 2 (c' := (2, [some (.ref 116), some (.int a1), some (.int a2), some (.int a3), none, none, none, none, none], [.int 2, .int a1], mT s)) rfl ?_
  refine w_join K (fun (x11 : Int32 × mS) => mm_fix (mm_X len xs) mm_Y (mm_call (mm_X len xs) mm_Y (d + 4)) (mm_look mc_M_dueOf) (16, [some (.ref 116), some (.int a1), some (.int a2), some (.int a3), none, none, none, none, none], [.int x11.1], mT x11.2) = T) (fun K hJ => ?_) (fun x11 h1 h2 => ?_)
  · refine w_go K 0 (c' := (2, [some (.ref 116), some (.int a1), some (.int a2), some (.int a3), none, none, none, none, none], [.int 2, .int a1], mT s)) rfl ?_
    refine w_ine K rfl (fun _ => ?_) (fun _ => ?_)
    · refine w_go K 2 (c' := (16, [some (.ref 116), some (.int a1), some (.int a2), some (.int a3), none, none, none, none, none], [.int 0], mT s)) rfl ?_
      exact fun _ h => hJ _ h
    · refine w_go K 4 (c' := (13, [some (.ref 116), some (.int a1), some (.int a2), some (.int a3), none, none, none, none, none], [.int 0, .int a2, .int 2, .ref 116], mT s)) rfl ?_
      refine w_callL K (E := f_M_dueOf_2 a2 (0 : Int32) s) (g := fun (x12 : Int32 × mS) => (some (.int x12.1), mT x12.2)) rfl (m_M_dueOf_2 (len := len) (xs := xs) (d + 0) a2 (0 : Int32) s) (fun x12 => ?_)
      refine w_go K 0 (c' := (16, [some (.ref 116), some (.int a1), some (.int a2), some (.int a3), none, none, none, none, none], [.int x12.1], mT x12.2)) rfl ?_
      exact fun _ h => hJ _ h
  · revert h1 h2
    refine w_go K 5 (c' := (23, [some (.ref 116), some (.int a1), some (.int a2), some (.int a3), some (.int x11.1), none, none, none, none], [.int x11.1, .int a3, .int a2, .ref 116], mT x11.2)) rfl ?_
    refine w_callL K (E := f_M_asks a2 a3 x11.1 x11.2) (g := fun (x13 : mS) => (none, mT x13)) rfl (m_M_asks (len := len) (xs := xs) (d + 2) a2 a3 x11.1 x11.2) (fun x13 => ?_)
    refine w_go K 13 (c' := (47, [some (.ref 116), some (.int a1), some (.int a2), some (.int a3), some (.int x11.1), some (.int 0), some (.int 0), none, none], [], mT (sI (sI (sI x13 116 91 0) 116 92 0) 116 93 (-1)))) rfl ?_
    refine w_join K (fun (x38 : Int32 × Int32 × mS) => ∀ (q39 : Option Value) (q40 : Option Value) (q41 : Option Value) (q42 : Option Value), mm_fix (mm_X len xs) mm_Y (mm_call (mm_X len xs) mm_Y (d + 4)) (mm_look mc_M_dueOf) (301, [some (.ref 116), some (.int a1), some (.int a2), q39, q40, some (.int x38.1), some (.int x38.2.1), q41, q42], [], mT x38.2.2) = T) (fun K hJ => tl_M_dueOf_47 (len := len) (xs := xs) d a1 a2 (T := T) K hJ mm_N (0 : Int32) (0 : Int32) _ _ _ _ (sI (sI (sI x13 116 91 0) 116 92 0) 116 93 (-1))) (fun x38 h1 h2 q39 q40 q41 q42 => ?_)
    revert h1 h2
    refine w_go K 1 (c' := (303, [some (.ref 116), some (.int a1), some (.int a2), q39, q40, some (.int x38.1), some (.int x38.2.1), q41, q42], [.int x38.1], mT x38.2.2)) rfl ?_
    exact w_ret K rfl (hK _)
theorem m_M_dueOf {len : Nat} {xs : Nat → Int32}  (d : Nat) (a1 : Int32) (a2 : Int32) (a3 : Int32) (s : mS) : ok_M_dueOf a1 a2 a3 s → mm_call (mm_X len xs) mm_Y (d + 5) 190 [.ref 116, .int a1, .int a2, .int a3] (mT s) = some (some (.int (f_M_dueOf a1 a2 a3 s).1), mT (f_M_dueOf a1 a2 a3 s).2) := fun h => t_M_dueOf (len := len) (xs := xs) d a1 a2 a3 s (fun t => (some (some (.int t.1), mT t.2) : Option mm_R) = some (some (.int (f_M_dueOf a1 a2 a3 s).1), mT (f_M_dueOf a1 a2 a3 s).2)) (fun _ h => h) h rfl
def lp_M_ends_2  : Nat → Int32 → mS → Int32 × mS
  | 0, v1, s => (v1, s)
  | n + 1, v1, s => (if (gI s 116 4) ≤ v1 then (v1, s) else (if (gI s 126 (ix v1)) = (-1) then (lp_M_ends_2 n (v1 + 1) s) else (if (16 : Int32) ≤ (gI (sI s 126 (ix v1) ((gI s 126 (ix v1)) + 1)) 126 (ix v1)) then (lp_M_ends_2 n (v1 + 1) (sL (sL (sI (sI s 126 (ix v1) ((gI s 126 (ix v1)) + 1)) 126 (ix v1) (-1)) 116 42 ((gL s 116 42) + (Int32.toInt64 (gI s 124 (ix v1))))) 116 43 ((gL s 116 43) + (Int32.toInt64 (gI s 125 (ix v1)))))) else (lp_M_ends_2 n (v1 + 1) (sI s 126 (ix v1) ((gI s 126 (ix v1)) + 1))))))
def okl_M_ends_2  : Nat → Int32 → mS → Prop
  | 0, v1, s => False
  | n + 1, v1, s => (if (gI s 116 4) ≤ v1 then True else (mm_inb v1 6 = true ∧ (if (gI s 126 (ix v1)) = (-1) then (okl_M_ends_2 n (v1 + 1) s) else (mm_inb v1 6 = true ∧ (mm_inb v1 6 = true ∧ (mm_inb v1 6 = true ∧ (if (16 : Int32) ≤ (gI (sI s 126 (ix v1) ((gI s 126 (ix v1)) + 1)) 126 (ix v1)) then (mm_inb v1 6 = true ∧ (mm_inb v1 6 = true ∧ (mm_inb v1 6 = true ∧ (okl_M_ends_2 n (v1 + 1) (sL (sL (sI (sI s 126 (ix v1) ((gI s 126 (ix v1)) + 1)) 126 (ix v1) (-1)) 116 42 ((gL s 116 42) + (Int32.toInt64 (gI s 124 (ix v1))))) 116 43 ((gL s 116 43) + (Int32.toInt64 (gI s 125 (ix v1))))))))) else (okl_M_ends_2 n (v1 + 1) (sI s 126 (ix v1) ((gI s 126 (ix v1)) + 1))))))))))
set_option maxRecDepth 4000 in
theorem tl_M_ends_2 {len : Nat} {xs : Nat → Int32}  (d : Nat)   {T : Option mm_R} (K : Int32 × mS → Prop) (hX : ∀ r, K r → mm_fix (mm_X len xs) mm_Y (mm_call (mm_X len xs) mm_Y (d + 0)) (mm_look mc_M_ends) (92, [some (.ref 116), some (.int r.1)], [], mT r.2) = T) : ∀ (n : Nat), ∀ (v1 : Int32) (s : mS), okl_M_ends_2 n v1 s → K (lp_M_ends_2 n v1 s) → mm_fix (mm_X len xs) mm_Y (mm_call (mm_X len xs) mm_Y (d + 0)) (mm_look mc_M_ends) (2, [some (.ref 116), some (.int v1)], [], mT s) = T := by
  intro n
  induction n with
  | zero => intro v1 s; exact fun h => h.elim
  | succ n ih =>
    intro v1 s
    rw [okl_M_ends_2, lp_M_ends_2]
    refine w_go K 3 (c' := (7, [some (.ref 116), some (.int v1)], [.int (gI s 116 4), .int v1], mT s)) rfl ?_
    refine w_ige K rfl (fun _ => ?_) (fun _ => ?_)
    · refine w_go K 0 (c' := (92, [some (.ref 116), some (.int v1)], [], mT s)) rfl ?_
      exact fun _ b => hX _ b
    · refine w_go K 3 (c' := (15, [some (.ref 116), some (.int v1)], [.int v1, .ref 126], mT s)) rfl ?_
      refine w_ck K (st_iL rfl rfl) ?_
      refine w_go K 1 (c' := (17, [some (.ref 116), some (.int v1)], [.int (-1), .int (gI s 126 (ix v1))], mT s)) rfl ?_
      refine w_ine K rfl (fun _ => ?_) (fun _ => ?_)
      · refine w_go K 3 (c' := (2, [some (.ref 116), some (.int (v1 + 1))], [], mT s)) rfl ?_
        exact fun a b => ih (v1 + 1) s a b
      · refine w_go K 4 (c' := (29, [some (.ref 116), some (.int v1)], [.int v1, .ref 126, .int v1, .ref 126], mT s)) rfl ?_
        refine w_ck K (st_iL rfl rfl) ?_
        refine w_go K 2 (c' := (32, [some (.ref 116), some (.int v1)], [.int ((gI s 126 (ix v1)) + 1), .int v1, .ref 126], mT s)) rfl ?_
        refine w_ck K (st_iS rfl rfl) ?_
        refine w_go K 3 (c' := (38, [some (.ref 116), some (.int v1)], [.int v1, .ref 126], mT (sI s 126 (ix v1) ((gI s 126 (ix v1)) + 1)))) rfl ?_
        refine w_ck K (st_iL rfl rfl) ?_
        refine w_go K 1 (c' := (41, [some (.ref 116), some (.int v1)], [.int 16, .int (gI (sI s 126 (ix v1) ((gI s 126 (ix v1)) + 1)) 126 (ix v1))], mT (sI s 126 (ix v1) ((gI s 126 (ix v1)) + 1)))) rfl ?_
        refine w_ige K rfl (fun _ => ?_) (fun _ => ?_)
        · refine w_go K 4 (c' := (53, [some (.ref 116), some (.int v1)], [.int (-1), .int v1, .ref 126], mT (sI s 126 (ix v1) ((gI s 126 (ix v1)) + 1)))) rfl ?_
          refine w_ck K (st_iS rfl rfl) ?_
          refine w_go K 6 (c' := (64, [some (.ref 116), some (.int v1)], [.int v1, .ref 124, .long (gL s 116 42), .ref 116], mT (sI (sI s 126 (ix v1) ((gI s 126 (ix v1)) + 1)) 126 (ix v1) (-1)))) rfl ?_
          refine w_ck K (st_iL rfl rfl) ?_
          refine w_go K 9 (c' := (80, [some (.ref 116), some (.int v1)], [.int v1, .ref 125, .long (gL s 116 43), .ref 116], mT (sL (sI (sI s 126 (ix v1) ((gI s 126 (ix v1)) + 1)) 126 (ix v1) (-1)) 116 42 ((gL s 116 42) + (Int32.toInt64 (gI s 124 (ix v1))))))) rfl ?_
          refine w_ck K (st_iL rfl rfl) ?_
          refine w_go K 5 (c' := (2, [some (.ref 116), some (.int (v1 + 1))], [], mT (sL (sL (sI (sI s 126 (ix v1) ((gI s 126 (ix v1)) + 1)) 126 (ix v1) (-1)) 116 42 ((gL s 116 42) + (Int32.toInt64 (gI s 124 (ix v1))))) 116 43 ((gL s 116 43) + (Int32.toInt64 (gI s 125 (ix v1))))))) rfl ?_
          exact fun a b => ih (v1 + 1) (sL (sL (sI (sI s 126 (ix v1) ((gI s 126 (ix v1)) + 1)) 126 (ix v1) (-1)) 116 42 ((gL s 116 42) + (Int32.toInt64 (gI s 124 (ix v1))))) 116 43 ((gL s 116 43) + (Int32.toInt64 (gI s 125 (ix v1))))) a b
        · refine w_go K 3 (c' := (2, [some (.ref 116), some (.int (v1 + 1))], [], mT (sI s 126 (ix v1) ((gI s 126 (ix v1)) + 1)))) rfl ?_
          exact fun a b => ih (v1 + 1) (sI s 126 (ix v1) ((gI s 126 (ix v1)) + 1)) a b
def f_M_ends  (s : mS) : mS := (mq_let (lp_M_ends_2 mm_N (0 : Int32) s) (fun (x10 : Int32 × mS) => x10.2))
def ok_M_ends  (s : mS) : Prop := (okl_M_ends_2 mm_N (0 : Int32) s ∧ mq_letP (lp_M_ends_2 mm_N (0 : Int32) s) (fun (x10 : Int32 × mS) => True))
set_option maxRecDepth 4000 in
theorem t_M_ends {len : Nat} {xs : Nat → Int32}  (d : Nat)  (s : mS) {T : Option mm_R} (K : mS → Prop) (hK : ∀ t, K t → some (none, mT t) = T) : ok_M_ends s → K (f_M_ends s) → mm_fix (mm_X len xs) mm_Y (mm_call (mm_X len xs) mm_Y (d + 0)) (mm_look mc_M_ends) (0, [some (.ref 116), none], [], mT s) = T := by
  unfold ok_M_ends f_M_ends
  refine w_go K 2 (c' := (2, [some (.ref 116), some (.int 0)], [], mT s)) rfl ?_
  refine w_join K (fun (x10 : Int32 × mS) => mm_fix (mm_X len xs) mm_Y (mm_call (mm_X len xs) mm_Y (d + 0)) (mm_look mc_M_ends) (92, [some (.ref 116), some (.int x10.1)], [], mT x10.2) = T) (fun K hJ => tl_M_ends_2 (len := len) (xs := xs) d (T := T) K hJ mm_N (0 : Int32) s) (fun x10 h1 h2 => ?_)
  revert h1 h2
  refine w_go K 0 (c' := (92, [some (.ref 116), some (.int x10.1)], [], mT x10.2)) rfl ?_
  exact w_ret K rfl (hK _)
theorem m_M_ends {len : Nat} {xs : Nat → Int32}  (d : Nat)  (s : mS) : ok_M_ends s → mm_call (mm_X len xs) mm_Y (d + 1) 195 [.ref 116] (mT s) = some (none, mT (f_M_ends s)) := fun h => t_M_ends (len := len) (xs := xs) d s (fun t => (some (none, mT t) : Option mm_R) = some (none, mT (f_M_ends s))) (fun _ h => h) h rfl
