/-! FUNCTIONS OF METHODS, by program: f_ what it does, ok_ that no row fails, m_ the small machine does so. -/
def f_Works_build (s : mS) : Int32 × mS := (if (6 : Int32) ≤ (gI s 3 8) then ((-1), s) else ((gI s 3 8), sI s 3 8 ((gI s 3 8) + 1)))
theorem t_Works_build {len : Nat} {xs : Nat → Int32} (d : Nat) (s : mS) {T : Option mm_R} (K : Int32 × mS → Prop) (hK : ∀ t, K t → some (some (.int t.1), mT t.2) = T) : True → K (f_Works_build s) → mm_fix (mm_X len xs) mm_Y (mm_call (mm_X len xs) mm_Y (d + 0)) (mm_look mc_Works_build) (0, [some (.ref 3)], [], mT s) = T := by
  unfold f_Works_build
  refine w_go K 3 (c' := (6, [some (.ref 3)], [.int 6, .int (gI s 3 8)], mT s)) rfl ?_
  refine w_brT K rfl (fun _ => ?_) (fun _ => ?_)
  · refine w_go K 1 (c' := (24, [some (.ref 3)], [.int (-1)], mT s)) rfl ?_
    exact w_ret K rfl (hK _)
  · refine w_go K 8 (c' := (24, [some (.ref 3)], [.int (gI s 3 8)], mT (sI s 3 8 ((gI s 3 8) + 1)))) rfl ?_
    exact w_ret K rfl (hK _)
theorem m_Works_build {len : Nat} {xs : Nat → Int32} (d : Nat) (s : mS) : True → mm_call (mm_X len xs) mm_Y (d + 1) 17 [.ref 3] (mT s) = some (some (.int (f_Works_build s).1), mT (f_Works_build s).2) := fun h => t_Works_build (len := len) (xs := xs) d s (fun t => (some (some (.int t.1), mT t.2) : Option mm_R) = some (some (.int (f_Works_build s).1), mT (f_Works_build s).2)) (fun _ h => h) h rfl
def f_G_bench (s : mS) : Int32 × mS := ((f_Works_build s).1, (f_Works_build s).2)
theorem t_G_bench {len : Nat} {xs : Nat → Int32} (d : Nat) (s : mS) {T : Option mm_R} (K : Int32 × mS → Prop) (hK : ∀ t, K t → some (some (.int t.1), mT t.2) = T) : True → K (f_G_bench s) → mm_fix (mm_X len xs) mm_Y (mm_call (mm_X len xs) mm_Y (d + 1)) (mm_look mc_G_bench) (0, [some (.ref 0)], [], mT s) = T := by
  unfold f_G_bench
  refine w_go K 2 (c' := (4, [some (.ref 0)], [.ref 3], mT s)) rfl ?_
  refine w_callT K rfl (m_Works_build (len := len) (xs := xs) (d + 0) s) ?_
  refine w_go K 0 (c' := (7, [some (.ref 0)], [.int ((f_Works_build s).1)], mT ((f_Works_build s).2))) rfl ?_
  exact w_ret K rfl (hK _)
theorem m_G_bench {len : Nat} {xs : Nat → Int32} (d : Nat) (s : mS) : True → mm_call (mm_X len xs) mm_Y (d + 2) 16 [.ref 0] (mT s) = some (some (.int (f_G_bench s).1), mT (f_G_bench s).2) := fun h => t_G_bench (len := len) (xs := xs) d s (fun t => (some (some (.int t.1), mT t.2) : Option mm_R) = some (some (.int (f_G_bench s).1), mT (f_G_bench s).2)) (fun _ h => h) h rfl
def f_Works_isCoal (a1 : Int32) (s : mS) : Int32 := (if a1 < 0 then 0 else (if (3 : Int32) ≤ a1 then 0 else 1))
theorem t_Works_isCoal {len : Nat} {xs : Nat → Int32} (d : Nat) (a1 : Int32) (s : mS) {T : Option mm_R} (K : Int32 → Prop) (hK : ∀ t, K t → some (some (.int t), mT s) = T) : True → K (f_Works_isCoal a1 s) → mm_fix (mm_X len xs) mm_Y (mm_call (mm_X len xs) mm_Y (d + 0)) (mm_look mc_Works_isCoal) (0, [some (.ref 3), some (.int a1)], [], mT s) = T := by
  unfold f_Works_isCoal
  refine w_go K 1 (c' := (1, [some (.ref 3), some (.int a1)], [.int a1], mT s)) rfl ?_
  refine w_brT K rfl (fun _ => ?_) (fun _ => ?_)
  · refine w_go K 1 (c' := (18, [some (.ref 3), some (.int a1)], [.int 0], mT s)) rfl ?_
    exact w_ret K rfl (hK _)
  · refine w_go K 4 (c' := (10, [some (.ref 3), some (.int a1)], [.int 3, .int a1], mT s)) rfl ?_
    refine w_brT K rfl (fun _ => ?_) (fun _ => ?_)
    · refine w_go K 1 (c' := (18, [some (.ref 3), some (.int a1)], [.int 0], mT s)) rfl ?_
      exact w_ret K rfl (hK _)
    · refine w_go K 2 (c' := (18, [some (.ref 3), some (.int a1)], [.int 1], mT s)) rfl ?_
      exact w_ret K rfl (hK _)
theorem m_Works_isCoal {len : Nat} {xs : Nat → Int32} (d : Nat) (a1 : Int32) (s : mS) : True → mm_call (mm_X len xs) mm_Y (d + 1) 13 [.ref 3, .int a1] (mT s) = some (some (.int (f_Works_isCoal a1 s)), mT s) := fun h => t_Works_isCoal (len := len) (xs := xs) d a1 s (fun t => (some (some (.int t), mT s) : Option mm_R) = some (some (.int (f_Works_isCoal a1 s)), mT s)) (fun _ h => h) h rfl
def f_G_within (a0 : Int32) (a1 : Int32) (a2 : Int32) (s : mS) : Int32 := (if a0 < a1 then 0 else (if a2 < a0 then 0 else 1))
theorem t_G_within {len : Nat} {xs : Nat → Int32} (d : Nat) (a0 : Int32) (a1 : Int32) (a2 : Int32) (s : mS) {T : Option mm_R} (K : Int32 → Prop) (hK : ∀ t, K t → some (some (.int t), mT s) = T) : True → K (f_G_within a0 a1 a2 s) → mm_fix (mm_X len xs) mm_Y (mm_call (mm_X len xs) mm_Y (d + 0)) (mm_look mc_G_within) (0, [some (.int a0), some (.int a1), some (.int a2)], [], mT s) = T := by
  unfold f_G_within
  refine w_go K 2 (c' := (2, [some (.int a0), some (.int a1), some (.int a2)], [.int a1, .int a0], mT s)) rfl ?_
  refine w_brT K rfl (fun _ => ?_) (fun _ => ?_)
  · refine w_go K 1 (c' := (15, [some (.int a0), some (.int a1), some (.int a2)], [.int 0], mT s)) rfl ?_
    exact w_ret K rfl (hK _)
  · refine w_go K 2 (c' := (7, [some (.int a0), some (.int a1), some (.int a2)], [.int a2, .int a0], mT s)) rfl ?_
    refine w_brT K rfl (fun _ => ?_) (fun _ => ?_)
    · refine w_go K 1 (c' := (15, [some (.int a0), some (.int a1), some (.int a2)], [.int 0], mT s)) rfl ?_
      exact w_ret K rfl (hK _)
    · refine w_go K 2 (c' := (15, [some (.int a0), some (.int a1), some (.int a2)], [.int 1], mT s)) rfl ?_
      exact w_ret K rfl (hK _)
theorem m_G_within {len : Nat} {xs : Nat → Int32} (d : Nat) (a0 : Int32) (a1 : Int32) (a2 : Int32) (s : mS) : True → mm_call (mm_X len xs) mm_Y (d + 1) 14 [.int a0, .int a1, .int a2] (mT s) = some (some (.int (f_G_within a0 a1 a2 s)), mT s) := fun h => t_G_within (len := len) (xs := xs) d a0 a1 a2 s (fun t => (some (some (.int t), mT s) : Option mm_R) = some (some (.int (f_G_within a0 a1 a2 s)), mT s)) (fun _ h => h) h rfl
def f_Works_light (a1 : Int32) (a2 : Int32) (a3 : Int32) (s : mS) : Int32 × mS := (if a1 < 0 then ((-1), s) else (if (gI s 3 8) ≤ a1 then ((-1), s) else (if (6 : Int32) ≤ a1 then ((-1), s) else (if (f_Works_isCoal a2 s) = 0 then ((-1), s) else (if (f_G_within a3 (1 : Int32) (9 : Int32) s) = 0 then ((-1), s) else (if (0 : Int32) < (gI s 8 (ix a1)) then ((-1), s) else (if (gI s 7 (ix a2)) < a3 then ((-1), s) else (if (((gI s 3 10) + 1) * 3) ≤ (gI s 3 9) then ((gI (sI (sI (sI (sI s 7 (ix a2) ((gI s 7 (ix a2)) - a3)) 3 10 ((gI s 3 10) + 1)) 8 (ix a1) 16) 9 (ix a1) (a3 * (gI s 4 (ix a2)))) 9 (ix a1)), sI (sI (sI (sI (sI (sI s 7 (ix a2) ((gI s 7 (ix a2)) - a3)) 3 10 ((gI s 3 10) + 1)) 8 (ix a1) 16) 9 (ix a1) (a3 * (gI s 4 (ix a2)))) 10 (ix a1) (a3 * (gI s 5 (ix a2)))) 11 (ix a1) (a3 * (gI s 6 (ix a2)))) else ((-1), s)))))))))
def ok_Works_light (a1 : Int32) (a2 : Int32) (a3 : Int32) (s : mS) : Prop := (if a1 < 0 then True else (if (gI s 3 8) ≤ a1 then True else (if (6 : Int32) ≤ a1 then True else (if (f_Works_isCoal a2 s) = 0 then True else (if (f_G_within a3 (1 : Int32) (9 : Int32) s) = 0 then True else (mm_inb a1 6 = true ∧ (if (0 : Int32) < (gI s 8 (ix a1)) then True else (mm_inb a2 3 = true ∧ (if (gI s 7 (ix a2)) < a3 then True else (if (((gI s 3 10) + 1) * 3) ≤ (gI s 3 9) then (mm_inb a2 3 = true ∧ (mm_inb a2 3 = true ∧ (mm_inb a1 6 = true ∧ (mm_inb a2 3 = true ∧ (mm_inb a1 6 = true ∧ (mm_inb a2 3 = true ∧ (mm_inb a1 6 = true ∧ (mm_inb a2 3 = true ∧ (mm_inb a1 6 = true ∧ (mm_inb a1 6 = true ∧ True)))))))))) else True))))))))))
theorem t_Works_light {len : Nat} {xs : Nat → Int32} (d : Nat) (a1 : Int32) (a2 : Int32) (a3 : Int32) (s : mS) {T : Option mm_R} (K : Int32 × mS → Prop) (hK : ∀ t, K t → some (some (.int t.1), mT t.2) = T) : ok_Works_light a1 a2 a3 s → K (f_Works_light a1 a2 a3 s) → mm_fix (mm_X len xs) mm_Y (mm_call (mm_X len xs) mm_Y (d + 1)) (mm_look mc_Works_light) (0, [some (.ref 3), some (.int a1), some (.int a2), some (.int a3)], [], mT s) = T := by
  unfold ok_Works_light f_Works_light
  refine w_go K 1 (c' := (1, [some (.ref 3), some (.int a1), some (.int a2), some (.int a3)], [.int a1], mT s)) rfl ?_
  refine w_br K rfl (fun _ => ?_) (fun _ => ?_)
  · refine w_go K 1 (c' := (37, [some (.ref 3), some (.int a1), some (.int a2), some (.int a3)], [.int (-1)], mT s)) rfl ?_
    exact w_ret K rfl (hK _)
  · refine w_go K 3 (c' := (9, [some (.ref 3), some (.int a1), some (.int a2), some (.int a3)], [.int (gI s 3 8), .int a1], mT s)) rfl ?_
    refine w_br K rfl (fun _ => ?_) (fun _ => ?_)
    · refine w_go K 1 (c' := (37, [some (.ref 3), some (.int a1), some (.int a2), some (.int a3)], [.int (-1)], mT s)) rfl ?_
      exact w_ret K rfl (hK _)
    · refine w_go K 2 (c' := (15, [some (.ref 3), some (.int a1), some (.int a2), some (.int a3)], [.int 6, .int a1], mT s)) rfl ?_
      refine w_br K rfl (fun _ => ?_) (fun _ => ?_)
      · refine w_go K 1 (c' := (37, [some (.ref 3), some (.int a1), some (.int a2), some (.int a3)], [.int (-1)], mT s)) rfl ?_
        exact w_ret K rfl (hK _)
      · refine w_go K 2 (c' := (20, [some (.ref 3), some (.int a1), some (.int a2), some (.int a3)], [.int a2, .ref 3], mT s)) rfl ?_
        refine w_callT K rfl (m_Works_isCoal (len := len) (xs := xs) (d + 0) a2 s) ?_
        refine w_go K 0 (c' := (23, [some (.ref 3), some (.int a1), some (.int a2), some (.int a3)], [.int (f_Works_isCoal a2 s)], mT s)) rfl ?_
        refine w_br K rfl (fun _ => ?_) (fun _ => ?_)
        · refine w_go K 1 (c' := (37, [some (.ref 3), some (.int a1), some (.int a2), some (.int a3)], [.int (-1)], mT s)) rfl ?_
          exact w_ret K rfl (hK _)
        · refine w_go K 3 (c' := (30, [some (.ref 3), some (.int a1), some (.int a2), some (.int a3)], [.int 9, .int 1, .int a3], mT s)) rfl ?_
          refine w_callT K rfl (m_G_within (len := len) (xs := xs) (d + 0) a3 (1 : Int32) (9 : Int32) s) ?_
          refine w_go K 0 (c' := (33, [some (.ref 3), some (.int a1), some (.int a2), some (.int a3)], [.int (f_G_within a3 (1 : Int32) (9 : Int32) s)], mT s)) rfl ?_
          refine w_br K rfl (fun _ => ?_) (fun _ => ?_)
          · refine w_go K 1 (c' := (37, [some (.ref 3), some (.int a1), some (.int a2), some (.int a3)], [.int (-1)], mT s)) rfl ?_
            exact w_ret K rfl (hK _)
          · refine w_go K 3 (c' := (43, [some (.ref 3), some (.int a1), some (.int a2), some (.int a3)], [.int a1, .ref 8], mT s)) rfl ?_
            refine w_ck K rfl ?_
            refine w_go K 0 (c' := (44, [some (.ref 3), some (.int a1), some (.int a2), some (.int a3)], [.int (gI s 8 (ix a1))], mT s)) rfl ?_
            refine w_br K rfl (fun _ => ?_) (fun _ => ?_)
            · refine w_go K 1 (c' := (73, [some (.ref 3), some (.int a1), some (.int a2), some (.int a3)], [.int (-1)], mT s)) rfl ?_
              exact w_ret K rfl (hK _)
            · refine w_go K 3 (c' := (52, [some (.ref 3), some (.int a1), some (.int a2), some (.int a3)], [.int a2, .ref 7], mT s)) rfl ?_
              refine w_ck K rfl ?_
              refine w_go K 1 (c' := (54, [some (.ref 3), some (.int a1), some (.int a2), some (.int a3)], [.int a3, .int (gI s 7 (ix a2))], mT s)) rfl ?_
              refine w_br K rfl (fun _ => ?_) (fun _ => ?_)
              · refine w_go K 1 (c' := (73, [some (.ref 3), some (.int a1), some (.int a2), some (.int a3)], [.int (-1)], mT s)) rfl ?_
                exact w_ret K rfl (hK _)
              · refine w_go K 8 (c' := (69, [some (.ref 3), some (.int a1), some (.int a2), some (.int a3)], [.int (gI s 3 9), .int (((gI s 3 10) + 1) * 3)], mT s)) rfl ?_
                refine w_br K rfl (fun _ => ?_) (fun _ => ?_)
                · refine w_go K 4 (c' := (80, [some (.ref 3), some (.int a1), some (.int a2), some (.int a3)], [.int a2, .ref 7, .int a2, .ref 7], mT s)) rfl ?_
                  refine w_ck K rfl ?_
                  refine w_go K 2 (c' := (83, [some (.ref 3), some (.int a1), some (.int a2), some (.int a3)], [.int ((gI s 7 (ix a2)) - a3), .int a2, .ref 7], mT s)) rfl ?_
                  refine w_ck K rfl ?_
                  refine w_go K 10 (c' := (101, [some (.ref 3), some (.int a1), some (.int a2), some (.int a3)], [.int 16, .int a1, .ref 8], mT (sI (sI s 7 (ix a2) ((gI s 7 (ix a2)) - a3)) 3 10 ((gI s 3 10) + 1)))) rfl ?_
                  refine w_ck K rfl ?_
                  refine w_go K 7 (c' := (113, [some (.ref 3), some (.int a1), some (.int a2), some (.int a3)], [.int a2, .ref 4, .int a3, .int a1, .ref 9], mT (sI (sI (sI s 7 (ix a2) ((gI s 7 (ix a2)) - a3)) 3 10 ((gI s 3 10) + 1)) 8 (ix a1) 16))) rfl ?_
                  refine w_ck K rfl ?_
                  refine w_go K 1 (c' := (115, [some (.ref 3), some (.int a1), some (.int a2), some (.int a3)], [.int (a3 * (gI s 4 (ix a2))), .int a1, .ref 9], mT (sI (sI (sI s 7 (ix a2) ((gI s 7 (ix a2)) - a3)) 3 10 ((gI s 3 10) + 1)) 8 (ix a1) 16))) rfl ?_
                  refine w_ck K rfl ?_
                  refine w_go K 7 (c' := (127, [some (.ref 3), some (.int a1), some (.int a2), some (.int a3)], [.int a2, .ref 5, .int a3, .int a1, .ref 10], mT (sI (sI (sI (sI s 7 (ix a2) ((gI s 7 (ix a2)) - a3)) 3 10 ((gI s 3 10) + 1)) 8 (ix a1) 16) 9 (ix a1) (a3 * (gI s 4 (ix a2)))))) rfl ?_
                  refine w_ck K rfl ?_
                  refine w_go K 1 (c' := (129, [some (.ref 3), some (.int a1), some (.int a2), some (.int a3)], [.int (a3 * (gI s 5 (ix a2))), .int a1, .ref 10], mT (sI (sI (sI (sI s 7 (ix a2) ((gI s 7 (ix a2)) - a3)) 3 10 ((gI s 3 10) + 1)) 8 (ix a1) 16) 9 (ix a1) (a3 * (gI s 4 (ix a2)))))) rfl ?_
                  refine w_ck K rfl ?_
                  refine w_go K 7 (c' := (141, [some (.ref 3), some (.int a1), some (.int a2), some (.int a3)], [.int a2, .ref 6, .int a3, .int a1, .ref 11], mT (sI (sI (sI (sI (sI s 7 (ix a2) ((gI s 7 (ix a2)) - a3)) 3 10 ((gI s 3 10) + 1)) 8 (ix a1) 16) 9 (ix a1) (a3 * (gI s 4 (ix a2)))) 10 (ix a1) (a3 * (gI s 5 (ix a2)))))) rfl ?_
                  refine w_ck K rfl ?_
                  refine w_go K 1 (c' := (143, [some (.ref 3), some (.int a1), some (.int a2), some (.int a3)], [.int (a3 * (gI s 6 (ix a2))), .int a1, .ref 11], mT (sI (sI (sI (sI (sI s 7 (ix a2) ((gI s 7 (ix a2)) - a3)) 3 10 ((gI s 3 10) + 1)) 8 (ix a1) 16) 9 (ix a1) (a3 * (gI s 4 (ix a2)))) 10 (ix a1) (a3 * (gI s 5 (ix a2)))))) rfl ?_
                  refine w_ck K rfl ?_
                  refine w_go K 3 (c' := (149, [some (.ref 3), some (.int a1), some (.int a2), some (.int a3)], [.int a1, .ref 9], mT (sI (sI (sI (sI (sI (sI s 7 (ix a2) ((gI s 7 (ix a2)) - a3)) 3 10 ((gI s 3 10) + 1)) 8 (ix a1) 16) 9 (ix a1) (a3 * (gI s 4 (ix a2)))) 10 (ix a1) (a3 * (gI s 5 (ix a2)))) 11 (ix a1) (a3 * (gI s 6 (ix a2)))))) rfl ?_
                  refine w_ck K rfl ?_
                  refine w_go K 0 (c' := (150, [some (.ref 3), some (.int a1), some (.int a2), some (.int a3)], [.int (gI (sI (sI (sI (sI s 7 (ix a2) ((gI s 7 (ix a2)) - a3)) 3 10 ((gI s 3 10) + 1)) 8 (ix a1) 16) 9 (ix a1) (a3 * (gI s 4 (ix a2)))) 9 (ix a1))], mT (sI (sI (sI (sI (sI (sI s 7 (ix a2) ((gI s 7 (ix a2)) - a3)) 3 10 ((gI s 3 10) + 1)) 8 (ix a1) 16) 9 (ix a1) (a3 * (gI s 4 (ix a2)))) 10 (ix a1) (a3 * (gI s 5 (ix a2)))) 11 (ix a1) (a3 * (gI s 6 (ix a2)))))) rfl ?_
                  exact w_ret K rfl (hK _)
                · refine w_go K 1 (c' := (73, [some (.ref 3), some (.int a1), some (.int a2), some (.int a3)], [.int (-1)], mT s)) rfl ?_
                  exact w_ret K rfl (hK _)
theorem m_Works_light {len : Nat} {xs : Nat → Int32} (d : Nat) (a1 : Int32) (a2 : Int32) (a3 : Int32) (s : mS) : ok_Works_light a1 a2 a3 s → mm_call (mm_X len xs) mm_Y (d + 2) 19 [.ref 3, .int a1, .int a2, .int a3] (mT s) = some (some (.int (f_Works_light a1 a2 a3 s).1), mT (f_Works_light a1 a2 a3 s).2) := fun h => t_Works_light (len := len) (xs := xs) d a1 a2 a3 s (fun t => (some (some (.int t.1), mT t.2) : Option mm_R) = some (some (.int (f_Works_light a1 a2 a3 s).1), mT (f_Works_light a1 a2 a3 s).2)) (fun _ h => h) h rfl
def f_G_charge (a1 : Int32) (a2 : Int32) (a3 : Int32) (s : mS) : Int32 × mS := ((f_Works_light a1 a2 a3 s).1, (f_Works_light a1 a2 a3 s).2)
def ok_G_charge (a1 : Int32) (a2 : Int32) (a3 : Int32) (s : mS) : Prop := (ok_Works_light a1 a2 a3 s ∧ True)
theorem t_G_charge {len : Nat} {xs : Nat → Int32} (d : Nat) (a1 : Int32) (a2 : Int32) (a3 : Int32) (s : mS) {T : Option mm_R} (K : Int32 × mS → Prop) (hK : ∀ t, K t → some (some (.int t.1), mT t.2) = T) : ok_G_charge a1 a2 a3 s → K (f_G_charge a1 a2 a3 s) → mm_fix (mm_X len xs) mm_Y (mm_call (mm_X len xs) mm_Y (d + 2)) (mm_look mc_G_charge) (0, [some (.ref 0), some (.int a1), some (.int a2), some (.int a3)], [], mT s) = T := by
  unfold ok_G_charge f_G_charge
  refine w_go K 5 (c' := (7, [some (.ref 0), some (.int a1), some (.int a2), some (.int a3)], [.int a3, .int a2, .int a1, .ref 3], mT s)) rfl ?_
  refine w_call K rfl (m_Works_light (len := len) (xs := xs) (d + 0) a1 a2 a3 s) ?_
  refine w_go K 0 (c' := (10, [some (.ref 0), some (.int a1), some (.int a2), some (.int a3)], [.int ((f_Works_light a1 a2 a3 s).1)], mT ((f_Works_light a1 a2 a3 s).2))) rfl ?_
  exact w_ret K rfl (hK _)
theorem m_G_charge {len : Nat} {xs : Nat → Int32} (d : Nat) (a1 : Int32) (a2 : Int32) (a3 : Int32) (s : mS) : ok_G_charge a1 a2 a3 s → mm_call (mm_X len xs) mm_Y (d + 3) 18 [.ref 0, .int a1, .int a2, .int a3] (mT s) = some (some (.int (f_G_charge a1 a2 a3 s).1), mT (f_G_charge a1 a2 a3 s).2) := fun h => t_G_charge (len := len) (xs := xs) d a1 a2 a3 s (fun t => (some (some (.int t.1), mT t.2) : Option mm_R) = some (some (.int (f_G_charge a1 a2 a3 s).1), mT (f_G_charge a1 a2 a3 s).2)) (fun _ h => h) h rfl
def f_G_hands (a1 : Int32) (s : mS) : Int32 × mS := (if (f_G_within a1 (0 : Int32) (30 : Int32) s) = 0 then (0, s) else (1, sI s 3 9 a1))
theorem t_G_hands {len : Nat} {xs : Nat → Int32} (d : Nat) (a1 : Int32) (s : mS) {T : Option mm_R} (K : Int32 × mS → Prop) (hK : ∀ t, K t → some (some (.int t.1), mT t.2) = T) : True → K (f_G_hands a1 s) → mm_fix (mm_X len xs) mm_Y (mm_call (mm_X len xs) mm_Y (d + 1)) (mm_look mc_G_hands) (0, [some (.ref 0), some (.int a1)], [], mT s) = T := by
  unfold f_G_hands
  refine w_go K 3 (c' := (4, [some (.ref 0), some (.int a1)], [.int 30, .int 0, .int a1], mT s)) rfl ?_
  refine w_callT K rfl (m_G_within (len := len) (xs := xs) (d + 0) a1 (0 : Int32) (30 : Int32) s) ?_
  refine w_go K 0 (c' := (7, [some (.ref 0), some (.int a1)], [.int (f_G_within a1 (0 : Int32) (30 : Int32) s)], mT s)) rfl ?_
  refine w_brT K rfl (fun _ => ?_) (fun _ => ?_)
  · refine w_go K 1 (c' := (11, [some (.ref 0), some (.int a1)], [.int 0], mT s)) rfl ?_
    exact w_ret K rfl (hK _)
  · refine w_go K 5 (c' := (21, [some (.ref 0), some (.int a1)], [.int 1], mT (sI s 3 9 a1))) rfl ?_
    exact w_ret K rfl (hK _)
theorem m_G_hands {len : Nat} {xs : Nat → Int32} (d : Nat) (a1 : Int32) (s : mS) : True → mm_call (mm_X len xs) mm_Y (d + 2) 20 [.ref 0, .int a1] (mT s) = some (some (.int (f_G_hands a1 s).1), mT (f_G_hands a1 s).2) := fun h => t_G_hands (len := len) (xs := xs) d a1 s (fun t => (some (some (.int t.1), mT t.2) : Option mm_R) = some (some (.int (f_G_hands a1 s).1), mT (f_G_hands a1 s).2)) (fun _ h => h) h rfl
def f_G_round (a1 : Int32) (a2 : Int32) (s : mS) : Int32 × mS := (if (f_G_within a1 (40 : Int32) (80 : Int32) s) = 0 then (0, s) else (if (f_G_within a2 (10 : Int32) (40 : Int32) s) = 0 then (0, s) else (1, sI (sI s 1 1 a1) 1 2 a2)))
theorem t_G_round {len : Nat} {xs : Nat → Int32} (d : Nat) (a1 : Int32) (a2 : Int32) (s : mS) {T : Option mm_R} (K : Int32 × mS → Prop) (hK : ∀ t, K t → some (some (.int t.1), mT t.2) = T) : True → K (f_G_round a1 a2 s) → mm_fix (mm_X len xs) mm_Y (mm_call (mm_X len xs) mm_Y (d + 1)) (mm_look mc_G_round) (0, [some (.ref 0), some (.int a1), some (.int a2)], [], mT s) = T := by
  unfold f_G_round
  refine w_go K 3 (c' := (5, [some (.ref 0), some (.int a1), some (.int a2)], [.int 80, .int 40, .int a1], mT s)) rfl ?_
  refine w_callT K rfl (m_G_within (len := len) (xs := xs) (d + 0) a1 (40 : Int32) (80 : Int32) s) ?_
  refine w_go K 0 (c' := (8, [some (.ref 0), some (.int a1), some (.int a2)], [.int (f_G_within a1 (40 : Int32) (80 : Int32) s)], mT s)) rfl ?_
  refine w_brT K rfl (fun _ => ?_) (fun _ => ?_)
  · refine w_go K 1 (c' := (23, [some (.ref 0), some (.int a1), some (.int a2)], [.int 0], mT s)) rfl ?_
    exact w_ret K rfl (hK _)
  · refine w_go K 3 (c' := (16, [some (.ref 0), some (.int a1), some (.int a2)], [.int 40, .int 10, .int a2], mT s)) rfl ?_
    refine w_callT K rfl (m_G_within (len := len) (xs := xs) (d + 0) a2 (10 : Int32) (40 : Int32) s) ?_
    refine w_go K 0 (c' := (19, [some (.ref 0), some (.int a1), some (.int a2)], [.int (f_G_within a2 (10 : Int32) (40 : Int32) s)], mT s)) rfl ?_
    refine w_brT K rfl (fun _ => ?_) (fun _ => ?_)
    · refine w_go K 1 (c' := (23, [some (.ref 0), some (.int a1), some (.int a2)], [.int 0], mT s)) rfl ?_
      exact w_ret K rfl (hK _)
    · refine w_go K 9 (c' := (41, [some (.ref 0), some (.int a1), some (.int a2)], [.int 1], mT (sI (sI s 1 1 a1) 1 2 a2))) rfl ?_
      exact w_ret K rfl (hK _)
theorem m_G_round {len : Nat} {xs : Nat → Int32} (d : Nat) (a1 : Int32) (a2 : Int32) (s : mS) : True → mm_call (mm_X len xs) mm_Y (d + 2) 23 [.ref 0, .int a1, .int a2] (mT s) = some (some (.int (f_G_round a1 a2 s).1), mT (f_G_round a1 a2 s).2) := fun h => t_G_round (len := len) (xs := xs) d a1 a2 s (fun t => (some (some (.int t.1), mT t.2) : Option mm_R) = some (some (.int (f_G_round a1 a2 s).1), mT (f_G_round a1 a2 s).2)) (fun _ h => h) h rfl
def f_G_fog (a1 : Int32) (a2 : Int32) (s : mS) : Int32 × mS := (if (f_G_within a1 (0 : Int32) (41 : Int32) s) = 0 then (0, s) else (if (f_G_within a2 (0 : Int32) (3 : Int32) s) = 0 then (0, s) else (1, sI s 2 (ix a1) a2)))
def ok_G_fog (a1 : Int32) (a2 : Int32) (s : mS) : Prop := (if (f_G_within a1 (0 : Int32) (41 : Int32) s) = 0 then True else (if (f_G_within a2 (0 : Int32) (3 : Int32) s) = 0 then True else (mm_inb a1 42 = true ∧ True)))
theorem t_G_fog {len : Nat} {xs : Nat → Int32} (d : Nat) (a1 : Int32) (a2 : Int32) (s : mS) {T : Option mm_R} (K : Int32 × mS → Prop) (hK : ∀ t, K t → some (some (.int t.1), mT t.2) = T) : ok_G_fog a1 a2 s → K (f_G_fog a1 a2 s) → mm_fix (mm_X len xs) mm_Y (mm_call (mm_X len xs) mm_Y (d + 1)) (mm_look mc_G_fog) (0, [some (.ref 0), some (.int a1), some (.int a2)], [], mT s) = T := by
  unfold ok_G_fog f_G_fog
  refine w_go K 3 (c' := (4, [some (.ref 0), some (.int a1), some (.int a2)], [.int 41, .int 0, .int a1], mT s)) rfl ?_
  refine w_callT K rfl (m_G_within (len := len) (xs := xs) (d + 0) a1 (0 : Int32) (41 : Int32) s) ?_
  refine w_go K 0 (c' := (7, [some (.ref 0), some (.int a1), some (.int a2)], [.int (f_G_within a1 (0 : Int32) (41 : Int32) s)], mT s)) rfl ?_
  refine w_br K rfl (fun _ => ?_) (fun _ => ?_)
  · refine w_go K 1 (c' := (20, [some (.ref 0), some (.int a1), some (.int a2)], [.int 0], mT s)) rfl ?_
    exact w_ret K rfl (hK _)
  · refine w_go K 3 (c' := (13, [some (.ref 0), some (.int a1), some (.int a2)], [.int 3, .int 0, .int a2], mT s)) rfl ?_
    refine w_callT K rfl (m_G_within (len := len) (xs := xs) (d + 0) a2 (0 : Int32) (3 : Int32) s) ?_
    refine w_go K 0 (c' := (16, [some (.ref 0), some (.int a1), some (.int a2)], [.int (f_G_within a2 (0 : Int32) (3 : Int32) s)], mT s)) rfl ?_
    refine w_br K rfl (fun _ => ?_) (fun _ => ?_)
    · refine w_go K 1 (c' := (20, [some (.ref 0), some (.int a1), some (.int a2)], [.int 0], mT s)) rfl ?_
      exact w_ret K rfl (hK _)
    · refine w_go K 5 (c' := (30, [some (.ref 0), some (.int a1), some (.int a2)], [.int a2, .int a1, .ref 2], mT s)) rfl ?_
      refine w_ck K rfl ?_
      refine w_go K 1 (c' := (32, [some (.ref 0), some (.int a1), some (.int a2)], [.int 1], mT (sI s 2 (ix a1) a2))) rfl ?_
      exact w_ret K rfl (hK _)
theorem m_G_fog {len : Nat} {xs : Nat → Int32} (d : Nat) (a1 : Int32) (a2 : Int32) (s : mS) : ok_G_fog a1 a2 s → mm_call (mm_X len xs) mm_Y (d + 2) 24 [.ref 0, .int a1, .int a2] (mT s) = some (some (.int (f_G_fog a1 a2 s).1), mT (f_G_fog a1 a2 s).2) := fun h => t_G_fog (len := len) (xs := xs) d a1 a2 s (fun t => (some (some (.int t.1), mT t.2) : Option mm_R) = some (some (.int (f_G_fog a1 a2 s).1), mT (f_G_fog a1 a2 s).2)) (fun _ h => h) h rfl
def f_G_gate (a1 : Int32) (s : mS) : Int32 × mS := (if (f_G_within a1 (0 : Int32) (99 : Int32) s) = 0 then (0, s) else (1, sI s 25 11 a1))
theorem t_G_gate {len : Nat} {xs : Nat → Int32} (d : Nat) (a1 : Int32) (s : mS) {T : Option mm_R} (K : Int32 × mS → Prop) (hK : ∀ t, K t → some (some (.int t.1), mT t.2) = T) : True → K (f_G_gate a1 s) → mm_fix (mm_X len xs) mm_Y (mm_call (mm_X len xs) mm_Y (d + 1)) (mm_look mc_G_gate) (0, [some (.ref 0), some (.int a1)], [], mT s) = T := by
  unfold f_G_gate
  refine w_go K 3 (c' := (4, [some (.ref 0), some (.int a1)], [.int 99, .int 0, .int a1], mT s)) rfl ?_
  refine w_callT K rfl (m_G_within (len := len) (xs := xs) (d + 0) a1 (0 : Int32) (99 : Int32) s) ?_
  refine w_go K 0 (c' := (7, [some (.ref 0), some (.int a1)], [.int (f_G_within a1 (0 : Int32) (99 : Int32) s)], mT s)) rfl ?_
  refine w_brT K rfl (fun _ => ?_) (fun _ => ?_)
  · refine w_go K 1 (c' := (11, [some (.ref 0), some (.int a1)], [.int 0], mT s)) rfl ?_
    exact w_ret K rfl (hK _)
  · refine w_go K 5 (c' := (21, [some (.ref 0), some (.int a1)], [.int 1], mT (sI s 25 11 a1))) rfl ?_
    exact w_ret K rfl (hK _)
theorem m_G_gate {len : Nat} {xs : Nat → Int32} (d : Nat) (a1 : Int32) (s : mS) : True → mm_call (mm_X len xs) mm_Y (d + 2) 25 [.ref 0, .int a1] (mT s) = some (some (.int (f_G_gate a1 s).1), mT (f_G_gate a1 s).2) := fun h => t_G_gate (len := len) (xs := xs) d a1 s (fun t => (some (some (.int t.1), mT t.2) : Option mm_R) = some (some (.int (f_G_gate a1 s).1), mT (f_G_gate a1 s).2)) (fun _ h => h) h rfl
def f_Net_has (a1 : Int32) (s : mS) : Int32 := (if a1 < 0 then 0 else (if (gI s 25 10) ≤ a1 then 0 else (if (16 : Int32) ≤ a1 then 0 else 1)))
theorem t_Net_has {len : Nat} {xs : Nat → Int32} (d : Nat) (a1 : Int32) (s : mS) {T : Option mm_R} (K : Int32 → Prop) (hK : ∀ t, K t → some (some (.int t), mT s) = T) : True → K (f_Net_has a1 s) → mm_fix (mm_X len xs) mm_Y (mm_call (mm_X len xs) mm_Y (d + 0)) (mm_look mc_Net_has) (0, [some (.ref 25), some (.int a1)], [], mT s) = T := by
  unfold f_Net_has
  refine w_go K 1 (c' := (1, [some (.ref 25), some (.int a1)], [.int a1], mT s)) rfl ?_
  refine w_brT K rfl (fun _ => ?_) (fun _ => ?_)
  · refine w_go K 1 (c' := (23, [some (.ref 25), some (.int a1)], [.int 0], mT s)) rfl ?_
    exact w_ret K rfl (hK _)
  · refine w_go K 3 (c' := (9, [some (.ref 25), some (.int a1)], [.int (gI s 25 10), .int a1], mT s)) rfl ?_
    refine w_brT K rfl (fun _ => ?_) (fun _ => ?_)
    · refine w_go K 1 (c' := (23, [some (.ref 25), some (.int a1)], [.int 0], mT s)) rfl ?_
      exact w_ret K rfl (hK _)
    · refine w_go K 2 (c' := (15, [some (.ref 25), some (.int a1)], [.int 16, .int a1], mT s)) rfl ?_
      refine w_brT K rfl (fun _ => ?_) (fun _ => ?_)
      · refine w_go K 1 (c' := (23, [some (.ref 25), some (.int a1)], [.int 0], mT s)) rfl ?_
        exact w_ret K rfl (hK _)
      · refine w_go K 2 (c' := (23, [some (.ref 25), some (.int a1)], [.int 1], mT s)) rfl ?_
        exact w_ret K rfl (hK _)
theorem m_Net_has {len : Nat} {xs : Nat → Int32} (d : Nat) (a1 : Int32) (s : mS) : True → mm_call (mm_X len xs) mm_Y (d + 1) 27 [.ref 25, .int a1] (mT s) = some (some (.int (f_Net_has a1 s)), mT s) := fun h => t_Net_has (len := len) (xs := xs) d a1 s (fun t => (some (some (.int t), mT s) : Option mm_R) = some (some (.int (f_Net_has a1 s)), mT s)) (fun _ h => h) h rfl
def f_Net_lay (a1 : Int32) (a2 : Int32) (a3 : Int32) (s : mS) : Int32 × mS := (if (gI s 25 10) < 16 then ((gI s 25 10), sI (sI (sI (sI s 26 (ix (gI s 25 10)) a1) 27 (ix (gI s 25 10)) a2) 28 (ix (gI s 25 10)) a3) 25 10 ((gI s 25 10) + 1)) else ((-1), s))
def ok_Net_lay (a1 : Int32) (a2 : Int32) (a3 : Int32) (s : mS) : Prop := (if (gI s 25 10) < 16 then (mm_inb (gI s 25 10) 16 = true ∧ (mm_inb (gI s 25 10) 16 = true ∧ (mm_inb (gI s 25 10) 16 = true ∧ True))) else True)
theorem t_Net_lay {len : Nat} {xs : Nat → Int32} (d : Nat) (a1 : Int32) (a2 : Int32) (a3 : Int32) (s : mS) {T : Option mm_R} (K : Int32 × mS → Prop) (hK : ∀ t, K t → some (some (.int t.1), mT t.2) = T) : ok_Net_lay a1 a2 a3 s → K (f_Net_lay a1 a2 a3 s) → mm_fix (mm_X len xs) mm_Y (mm_call (mm_X len xs) mm_Y (d + 0)) (mm_look mc_Net_lay) (0, [some (.ref 25), some (.int a1), some (.int a2), some (.int a3)], [], mT s) = T := by
  unfold ok_Net_lay f_Net_lay
  refine w_go K 3 (c' := (6, [some (.ref 25), some (.int a1), some (.int a2), some (.int a3)], [.int 16, .int (gI s 25 10)], mT s)) rfl ?_
  refine w_br K rfl (fun _ => ?_) (fun _ => ?_)
  · refine w_go K 5 (c' := (20, [some (.ref 25), some (.int a1), some (.int a2), some (.int a3)], [.int a1, .int (gI s 25 10), .ref 26], mT s)) rfl ?_
    refine w_ck K rfl ?_
    refine w_go K 5 (c' := (30, [some (.ref 25), some (.int a1), some (.int a2), some (.int a3)], [.int a2, .int (gI s 25 10), .ref 27], mT (sI s 26 (ix (gI s 25 10)) a1))) rfl ?_
    refine w_ck K rfl ?_
    refine w_go K 5 (c' := (40, [some (.ref 25), some (.int a1), some (.int a2), some (.int a3)], [.int a3, .int (gI s 25 10), .ref 28], mT (sI (sI s 26 (ix (gI s 25 10)) a1) 27 (ix (gI s 25 10)) a2))) rfl ?_
    refine w_ck K rfl ?_
    refine w_go K 7 (c' := (52, [some (.ref 25), some (.int a1), some (.int a2), some (.int a3)], [.int (gI s 25 10)], mT (sI (sI (sI (sI s 26 (ix (gI s 25 10)) a1) 27 (ix (gI s 25 10)) a2) 28 (ix (gI s 25 10)) a3) 25 10 ((gI s 25 10) + 1)))) rfl ?_
    exact w_ret K rfl (hK _)
  · refine w_go K 1 (c' := (10, [some (.ref 25), some (.int a1), some (.int a2), some (.int a3)], [.int (-1)], mT s)) rfl ?_
    exact w_ret K rfl (hK _)
theorem m_Net_lay {len : Nat} {xs : Nat → Int32} (d : Nat) (a1 : Int32) (a2 : Int32) (a3 : Int32) (s : mS) : ok_Net_lay a1 a2 a3 s → mm_call (mm_X len xs) mm_Y (d + 1) 28 [.ref 25, .int a1, .int a2, .int a3] (mT s) = some (some (.int (f_Net_lay a1 a2 a3 s).1), mT (f_Net_lay a1 a2 a3 s).2) := fun h => t_Net_lay (len := len) (xs := xs) d a1 a2 a3 s (fun t => (some (some (.int t.1), mT t.2) : Option mm_R) = some (some (.int (f_Net_lay a1 a2 a3 s).1), mT (f_Net_lay a1 a2 a3 s).2)) (fun _ h => h) h rfl
def f_G_node (a1 : Int32) (a2 : Int32) (a3 : Int32) (s : mS) : Int32 × mS := (if (f_Net_has a1 s) = 0 then ((-1), s) else (if (f_G_within a2 (1 : Int32) (9 : Int32) s) = 0 then ((-1), s) else (if (f_G_within a3 ((-9) : Int32) (9 : Int32) s) = 0 then ((-1), s) else ((f_Net_lay a1 a2 a3 s).1, (f_Net_lay a1 a2 a3 s).2))))
def ok_G_node (a1 : Int32) (a2 : Int32) (a3 : Int32) (s : mS) : Prop := (if (f_Net_has a1 s) = 0 then True else (if (f_G_within a2 (1 : Int32) (9 : Int32) s) = 0 then True else (if (f_G_within a3 ((-9) : Int32) (9 : Int32) s) = 0 then True else (ok_Net_lay a1 a2 a3 s ∧ True))))
theorem t_G_node {len : Nat} {xs : Nat → Int32} (d : Nat) (a1 : Int32) (a2 : Int32) (a3 : Int32) (s : mS) {T : Option mm_R} (K : Int32 × mS → Prop) (hK : ∀ t, K t → some (some (.int t.1), mT t.2) = T) : ok_G_node a1 a2 a3 s → K (f_G_node a1 a2 a3 s) → mm_fix (mm_X len xs) mm_Y (mm_call (mm_X len xs) mm_Y (d + 1)) (mm_look mc_G_node) (0, [some (.ref 0), some (.int a1), some (.int a2), some (.int a3)], [], mT s) = T := by
  unfold ok_G_node f_G_node
  refine w_go K 3 (c' := (5, [some (.ref 0), some (.int a1), some (.int a2), some (.int a3)], [.int a1, .ref 25], mT s)) rfl ?_
  refine w_callT K rfl (m_Net_has (len := len) (xs := xs) (d + 0) a1 s) ?_
  refine w_go K 0 (c' := (8, [some (.ref 0), some (.int a1), some (.int a2), some (.int a3)], [.int (f_Net_has a1 s)], mT s)) rfl ?_
  refine w_br K rfl (fun _ => ?_) (fun _ => ?_)
  · refine w_go K 1 (c' := (33, [some (.ref 0), some (.int a1), some (.int a2), some (.int a3)], [.int (-1)], mT s)) rfl ?_
    exact w_ret K rfl (hK _)
  · refine w_go K 3 (c' := (15, [some (.ref 0), some (.int a1), some (.int a2), some (.int a3)], [.int 9, .int 1, .int a2], mT s)) rfl ?_
    refine w_callT K rfl (m_G_within (len := len) (xs := xs) (d + 0) a2 (1 : Int32) (9 : Int32) s) ?_
    refine w_go K 0 (c' := (18, [some (.ref 0), some (.int a1), some (.int a2), some (.int a3)], [.int (f_G_within a2 (1 : Int32) (9 : Int32) s)], mT s)) rfl ?_
    refine w_br K rfl (fun _ => ?_) (fun _ => ?_)
    · refine w_go K 1 (c' := (33, [some (.ref 0), some (.int a1), some (.int a2), some (.int a3)], [.int (-1)], mT s)) rfl ?_
      exact w_ret K rfl (hK _)
    · refine w_go K 3 (c' := (26, [some (.ref 0), some (.int a1), some (.int a2), some (.int a3)], [.int 9, .int (-9), .int a3], mT s)) rfl ?_
      refine w_callT K rfl (m_G_within (len := len) (xs := xs) (d + 0) a3 ((-9) : Int32) (9 : Int32) s) ?_
      refine w_go K 0 (c' := (29, [some (.ref 0), some (.int a1), some (.int a2), some (.int a3)], [.int (f_G_within a3 ((-9) : Int32) (9 : Int32) s)], mT s)) rfl ?_
      refine w_br K rfl (fun _ => ?_) (fun _ => ?_)
      · refine w_go K 1 (c' := (33, [some (.ref 0), some (.int a1), some (.int a2), some (.int a3)], [.int (-1)], mT s)) rfl ?_
        exact w_ret K rfl (hK _)
      · refine w_go K 5 (c' := (41, [some (.ref 0), some (.int a1), some (.int a2), some (.int a3)], [.int a3, .int a2, .int a1, .ref 25], mT s)) rfl ?_
        refine w_call K rfl (m_Net_lay (len := len) (xs := xs) (d + 0) a1 a2 a3 s) ?_
        refine w_go K 0 (c' := (44, [some (.ref 0), some (.int a1), some (.int a2), some (.int a3)], [.int ((f_Net_lay a1 a2 a3 s).1)], mT ((f_Net_lay a1 a2 a3 s).2))) rfl ?_
        exact w_ret K rfl (hK _)
theorem m_G_node {len : Nat} {xs : Nat → Int32} (d : Nat) (a1 : Int32) (a2 : Int32) (a3 : Int32) (s : mS) : ok_G_node a1 a2 a3 s → mm_call (mm_X len xs) mm_Y (d + 2) 26 [.ref 0, .int a1, .int a2, .int a3] (mT s) = some (some (.int (f_G_node a1 a2 a3 s).1), mT (f_G_node a1 a2 a3 s).2) := fun h => t_G_node (len := len) (xs := xs) d a1 a2 a3 s (fun t => (some (some (.int t.1), mT t.2) : Option mm_R) = some (some (.int (f_G_node a1 a2 a3 s).1), mT (f_G_node a1 a2 a3 s).2)) (fun _ h => h) h rfl
def f_Net_hasPipe (a1 : Int32) (s : mS) : Int32 := (if a1 ≤ 0 then 0 else (if (f_Net_has a1 s) = 0 then 0 else 1))
theorem t_Net_hasPipe {len : Nat} {xs : Nat → Int32} (d : Nat) (a1 : Int32) (s : mS) {T : Option mm_R} (K : Int32 → Prop) (hK : ∀ t, K t → some (some (.int t), mT s) = T) : True → K (f_Net_hasPipe a1 s) → mm_fix (mm_X len xs) mm_Y (mm_call (mm_X len xs) mm_Y (d + 1)) (mm_look mc_Net_hasPipe) (0, [some (.ref 25), some (.int a1)], [], mT s) = T := by
  unfold f_Net_hasPipe
  refine w_go K 1 (c' := (1, [some (.ref 25), some (.int a1)], [.int a1], mT s)) rfl ?_
  refine w_brT K rfl (fun _ => ?_) (fun _ => ?_)
  · refine w_go K 1 (c' := (17, [some (.ref 25), some (.int a1)], [.int 0], mT s)) rfl ?_
    exact w_ret K rfl (hK _)
  · refine w_go K 2 (c' := (6, [some (.ref 25), some (.int a1)], [.int a1, .ref 25], mT s)) rfl ?_
    refine w_callT K rfl (m_Net_has (len := len) (xs := xs) (d + 0) a1 s) ?_
    refine w_go K 0 (c' := (9, [some (.ref 25), some (.int a1)], [.int (f_Net_has a1 s)], mT s)) rfl ?_
    refine w_brT K rfl (fun _ => ?_) (fun _ => ?_)
    · refine w_go K 1 (c' := (17, [some (.ref 25), some (.int a1)], [.int 0], mT s)) rfl ?_
      exact w_ret K rfl (hK _)
    · refine w_go K 2 (c' := (17, [some (.ref 25), some (.int a1)], [.int 1], mT s)) rfl ?_
      exact w_ret K rfl (hK _)
theorem m_Net_hasPipe {len : Nat} {xs : Nat → Int32} (d : Nat) (a1 : Int32) (s : mS) : True → mm_call (mm_X len xs) mm_Y (d + 2) 30 [.ref 25, .int a1] (mT s) = some (some (.int (f_Net_hasPipe a1 s)), mT s) := fun h => t_Net_hasPipe (len := len) (xs := xs) d a1 s (fun t => (some (some (.int t), mT s) : Option mm_R) = some (some (.int (f_Net_hasPipe a1 s)), mT s)) (fun _ h => h) h rfl
def f_G_water (a1 : Int32) (a2 : Int32) (s : mS) : Int32 × mS := (if (f_Net_hasPipe a1 s) = 0 then (0, s) else (if (gI s 29 (ix a1)) = a2 then (0, s) else (1, sI s 29 (ix a1) a2)))
def ok_G_water (a1 : Int32) (a2 : Int32) (s : mS) : Prop := (if (f_Net_hasPipe a1 s) = 0 then True else (mm_inb a1 16 = true ∧ (if (gI s 29 (ix a1)) = a2 then True else ((mm_inb a1 16 && mm_bit a2) = true ∧ True))))
theorem t_G_water {len : Nat} {xs : Nat → Int32} (d : Nat) (a1 : Int32) (a2 : Int32) (s : mS) {T : Option mm_R} (K : Int32 × mS → Prop) (hK : ∀ t, K t → some (some (.int t.1), mT t.2) = T) : ok_G_water a1 a2 s → K (f_G_water a1 a2 s) → mm_fix (mm_X len xs) mm_Y (mm_call (mm_X len xs) mm_Y (d + 2)) (mm_look mc_G_water) (0, [some (.ref 0), some (.int a1), some (.int a2)], [], mT s) = T := by
  unfold ok_G_water f_G_water
  refine w_go K 3 (c' := (5, [some (.ref 0), some (.int a1), some (.int a2)], [.int a1, .ref 25], mT s)) rfl ?_
  refine w_callT K rfl (m_Net_hasPipe (len := len) (xs := xs) (d + 0) a1 s) ?_
  refine w_go K 0 (c' := (8, [some (.ref 0), some (.int a1), some (.int a2)], [.int (f_Net_hasPipe a1 s)], mT s)) rfl ?_
  refine w_br K rfl (fun _ => ?_) (fun _ => ?_)
  · refine w_go K 1 (c' := (25, [some (.ref 0), some (.int a1), some (.int a2)], [.int 0], mT s)) rfl ?_
    exact w_ret K rfl (hK _)
  · refine w_go K 4 (c' := (19, [some (.ref 0), some (.int a1), some (.int a2)], [.int a1, .ref 29], mT s)) rfl ?_
    refine w_ck K rfl ?_
    refine w_go K 1 (c' := (21, [some (.ref 0), some (.int a1), some (.int a2)], [.int a2, .int (gI s 29 (ix a1))], mT s)) rfl ?_
    refine w_br K rfl (fun _ => ?_) (fun _ => ?_)
    · refine w_go K 1 (c' := (25, [some (.ref 0), some (.int a1), some (.int a2)], [.int 0], mT s)) rfl ?_
      exact w_ret K rfl (hK _)
    · refine w_go K 5 (c' := (35, [some (.ref 0), some (.int a1), some (.int a2)], [.int a2, .int a1, .ref 29], mT s)) rfl ?_
      refine w_ck K rfl ?_
      refine w_go K 1 (c' := (37, [some (.ref 0), some (.int a1), some (.int a2)], [.int 1], mT (sI s 29 (ix a1) a2))) rfl ?_
      exact w_ret K rfl (hK _)
theorem m_G_water {len : Nat} {xs : Nat → Int32} (d : Nat) (a1 : Int32) (a2 : Int32) (s : mS) : ok_G_water a1 a2 s → mm_call (mm_X len xs) mm_Y (d + 3) 29 [.ref 0, .int a1, .int a2] (mT s) = some (some (.int (f_G_water a1 a2 s).1), mT (f_G_water a1 a2 s).2) := fun h => t_G_water (len := len) (xs := xs) d a1 a2 s (fun t => (some (some (.int t.1), mT t.2) : Option mm_R) = some (some (.int (f_G_water a1 a2 s).1), mT (f_G_water a1 a2 s).2)) (fun _ h => h) h rfl
def f_Things_put (a1 : Int32) (a2 : Int32) (a3 : Int32) (a4 : Int32) (s : mS) : Int32 × mS := (if (gI s 12 12) < 40 then ((gI s 12 12), sI (sI (sI (sI (sI s 13 (ix (gI s 12 12)) a1) 14 (ix (gI s 12 12)) a2) 15 (ix (gI s 12 12)) a3) 16 (ix (gI s 12 12)) a4) 12 12 ((gI s 12 12) + 1)) else ((-1), s))
def ok_Things_put (a1 : Int32) (a2 : Int32) (a3 : Int32) (a4 : Int32) (s : mS) : Prop := (if (gI s 12 12) < 40 then (mm_inb (gI s 12 12) 40 = true ∧ (mm_inb (gI s 12 12) 40 = true ∧ (mm_inb (gI s 12 12) 40 = true ∧ (mm_inb (gI s 12 12) 40 = true ∧ True)))) else True)
theorem t_Things_put {len : Nat} {xs : Nat → Int32} (d : Nat) (a1 : Int32) (a2 : Int32) (a3 : Int32) (a4 : Int32) (s : mS) {T : Option mm_R} (K : Int32 × mS → Prop) (hK : ∀ t, K t → some (some (.int t.1), mT t.2) = T) : ok_Things_put a1 a2 a3 a4 s → K (f_Things_put a1 a2 a3 a4 s) → mm_fix (mm_X len xs) mm_Y (mm_call (mm_X len xs) mm_Y (d + 0)) (mm_look mc_Things_put) (0, [some (.ref 12), some (.int a1), some (.int a2), some (.int a3), some (.int a4)], [], mT s) = T := by
  unfold ok_Things_put f_Things_put
  refine w_go K 3 (c' := (6, [some (.ref 12), some (.int a1), some (.int a2), some (.int a3), some (.int a4)], [.int 40, .int (gI s 12 12)], mT s)) rfl ?_
  refine w_br K rfl (fun _ => ?_) (fun _ => ?_)
  · refine w_go K 5 (c' := (20, [some (.ref 12), some (.int a1), some (.int a2), some (.int a3), some (.int a4)], [.int a1, .int (gI s 12 12), .ref 13], mT s)) rfl ?_
    refine w_ck K rfl ?_
    refine w_go K 5 (c' := (30, [some (.ref 12), some (.int a1), some (.int a2), some (.int a3), some (.int a4)], [.int a2, .int (gI s 12 12), .ref 14], mT (sI s 13 (ix (gI s 12 12)) a1))) rfl ?_
    refine w_ck K rfl ?_
    refine w_go K 5 (c' := (40, [some (.ref 12), some (.int a1), some (.int a2), some (.int a3), some (.int a4)], [.int a3, .int (gI s 12 12), .ref 15], mT (sI (sI s 13 (ix (gI s 12 12)) a1) 14 (ix (gI s 12 12)) a2))) rfl ?_
    refine w_ck K rfl ?_
    refine w_go K 5 (c' := (51, [some (.ref 12), some (.int a1), some (.int a2), some (.int a3), some (.int a4)], [.int a4, .int (gI s 12 12), .ref 16], mT (sI (sI (sI s 13 (ix (gI s 12 12)) a1) 14 (ix (gI s 12 12)) a2) 15 (ix (gI s 12 12)) a3))) rfl ?_
    refine w_ck K rfl ?_
    refine w_go K 7 (c' := (63, [some (.ref 12), some (.int a1), some (.int a2), some (.int a3), some (.int a4)], [.int (gI s 12 12)], mT (sI (sI (sI (sI (sI s 13 (ix (gI s 12 12)) a1) 14 (ix (gI s 12 12)) a2) 15 (ix (gI s 12 12)) a3) 16 (ix (gI s 12 12)) a4) 12 12 ((gI s 12 12) + 1)))) rfl ?_
    exact w_ret K rfl (hK _)
  · refine w_go K 1 (c' := (10, [some (.ref 12), some (.int a1), some (.int a2), some (.int a3), some (.int a4)], [.int (-1)], mT s)) rfl ?_
    exact w_ret K rfl (hK _)
theorem m_Things_put {len : Nat} {xs : Nat → Int32} (d : Nat) (a1 : Int32) (a2 : Int32) (a3 : Int32) (a4 : Int32) (s : mS) : ok_Things_put a1 a2 a3 a4 s → mm_call (mm_X len xs) mm_Y (d + 1) 32 [.ref 12, .int a1, .int a2, .int a3, .int a4] (mT s) = some (some (.int (f_Things_put a1 a2 a3 a4 s).1), mT (f_Things_put a1 a2 a3 a4 s).2) := fun h => t_Things_put (len := len) (xs := xs) d a1 a2 a3 a4 s (fun t => (some (some (.int t.1), mT t.2) : Option mm_R) = some (some (.int (f_Things_put a1 a2 a3 a4 s).1), mT (f_Things_put a1 a2 a3 a4 s).2)) (fun _ h => h) h rfl
def f_G_thing (a1 : Int32) (a2 : Int32) (a3 : Int32) (a4 : Int32) (s : mS) : Int32 × mS := (if (f_Net_has a1 s) = 0 then ((-1), s) else (if (f_G_within a2 (0 : Int32) (3 : Int32) s) = 0 then ((-1), s) else (if (f_G_within a3 (0 : Int32) (99 : Int32) s) = 0 then ((-1), s) else (if a2 = 1 then (if (f_G_within a4 (0 : Int32) (15 : Int32) s) = 0 then ((-1), s) else ((f_Things_put a1 a2 a3 a4 s).1, (f_Things_put a1 a2 a3 a4 s).2)) else (if (f_G_within a4 (0 : Int32) (0 : Int32) s) = 0 then ((-1), s) else ((f_Things_put a1 a2 a3 a4 s).1, (f_Things_put a1 a2 a3 a4 s).2))))))
def ok_G_thing (a1 : Int32) (a2 : Int32) (a3 : Int32) (a4 : Int32) (s : mS) : Prop := (if (f_Net_has a1 s) = 0 then True else (if (f_G_within a2 (0 : Int32) (3 : Int32) s) = 0 then True else (if (f_G_within a3 (0 : Int32) (99 : Int32) s) = 0 then True else (if a2 = 1 then (if (f_G_within a4 (0 : Int32) (15 : Int32) s) = 0 then True else (ok_Things_put a1 a2 a3 a4 s ∧ True)) else (if (f_G_within a4 (0 : Int32) (0 : Int32) s) = 0 then True else (ok_Things_put a1 a2 a3 a4 s ∧ True))))))
theorem t_G_thing {len : Nat} {xs : Nat → Int32} (d : Nat) (a1 : Int32) (a2 : Int32) (a3 : Int32) (a4 : Int32) (s : mS) {T : Option mm_R} (K : Int32 × mS → Prop) (hK : ∀ t, K t → some (some (.int t.1), mT t.2) = T) : ok_G_thing a1 a2 a3 a4 s → K (f_G_thing a1 a2 a3 a4 s) → mm_fix (mm_X len xs) mm_Y (mm_call (mm_X len xs) mm_Y (d + 1)) (mm_look mc_G_thing) (0, [some (.ref 0), some (.int a1), some (.int a2), some (.int a3), some (.int a4)], [], mT s) = T := by
  unfold ok_G_thing f_G_thing
  refine w_go K 3 (c' := (5, [some (.ref 0), some (.int a1), some (.int a2), some (.int a3), some (.int a4)], [.int a1, .ref 25], mT s)) rfl ?_
  refine w_callT K rfl (m_Net_has (len := len) (xs := xs) (d + 0) a1 s) ?_
  refine w_go K 0 (c' := (8, [some (.ref 0), some (.int a1), some (.int a2), some (.int a3), some (.int a4)], [.int (f_Net_has a1 s)], mT s)) rfl ?_
  refine w_br K rfl (fun _ => ?_) (fun _ => ?_)
  · refine w_go K 1 (c' := (51, [some (.ref 0), some (.int a1), some (.int a2), some (.int a3), some (.int a4)], [.int (-1)], mT s)) rfl ?_
    exact w_ret K rfl (hK _)
  · refine w_go K 3 (c' := (14, [some (.ref 0), some (.int a1), some (.int a2), some (.int a3), some (.int a4)], [.int 3, .int 0, .int a2], mT s)) rfl ?_
    refine w_callT K rfl (m_G_within (len := len) (xs := xs) (d + 0) a2 (0 : Int32) (3 : Int32) s) ?_
    refine w_go K 0 (c' := (17, [some (.ref 0), some (.int a1), some (.int a2), some (.int a3), some (.int a4)], [.int (f_G_within a2 (0 : Int32) (3 : Int32) s)], mT s)) rfl ?_
    refine w_br K rfl (fun _ => ?_) (fun _ => ?_)
    · refine w_go K 1 (c' := (51, [some (.ref 0), some (.int a1), some (.int a2), some (.int a3), some (.int a4)], [.int (-1)], mT s)) rfl ?_
      exact w_ret K rfl (hK _)
    · refine w_go K 3 (c' := (24, [some (.ref 0), some (.int a1), some (.int a2), some (.int a3), some (.int a4)], [.int 99, .int 0, .int a3], mT s)) rfl ?_
      refine w_callT K rfl (m_G_within (len := len) (xs := xs) (d + 0) a3 (0 : Int32) (99 : Int32) s) ?_
      refine w_go K 0 (c' := (27, [some (.ref 0), some (.int a1), some (.int a2), some (.int a3), some (.int a4)], [.int (f_G_within a3 (0 : Int32) (99 : Int32) s)], mT s)) rfl ?_
      refine w_br K rfl (fun _ => ?_) (fun _ => ?_)
      · refine w_go K 1 (c' := (51, [some (.ref 0), some (.int a1), some (.int a2), some (.int a3), some (.int a4)], [.int (-1)], mT s)) rfl ?_
        exact w_ret K rfl (hK _)
      · refine w_go K 4 (c' := (35, [some (.ref 0), some (.int a1), some (.int a2), some (.int a3), some (.int a4)], [.int 1, .int a2, .int 0, .int a4], mT s)) rfl ?_
        refine w_br K rfl (fun _ => ?_) (fun _ => ?_)
        · refine w_go K 2 (c' := (44, [some (.ref 0), some (.int a1), some (.int a2), some (.int a3), some (.int a4)], [.int 15, .int 0, .int a4], mT s)) rfl ?_
          refine w_callT K rfl (m_G_within (len := len) (xs := xs) (d + 0) a4 (0 : Int32) (15 : Int32) s) ?_
          refine w_go K 0 (c' := (47, [some (.ref 0), some (.int a1), some (.int a2), some (.int a3), some (.int a4)], [.int (f_G_within a4 (0 : Int32) (15 : Int32) s)], mT s)) rfl ?_
          refine w_br K rfl (fun _ => ?_) (fun _ => ?_)
          · refine w_go K 1 (c' := (51, [some (.ref 0), some (.int a1), some (.int a2), some (.int a3), some (.int a4)], [.int (-1)], mT s)) rfl ?_
            exact w_ret K rfl (hK _)
          · refine w_go K 6 (c' := (61, [some (.ref 0), some (.int a1), some (.int a2), some (.int a3), some (.int a4)], [.int a4, .int a3, .int a2, .int a1, .ref 12], mT s)) rfl ?_
            refine w_call K rfl (m_Things_put (len := len) (xs := xs) (d + 0) a1 a2 a3 a4 s) ?_
            refine w_go K 0 (c' := (64, [some (.ref 0), some (.int a1), some (.int a2), some (.int a3), some (.int a4)], [.int ((f_Things_put a1 a2 a3 a4 s).1)], mT ((f_Things_put a1 a2 a3 a4 s).2))) rfl ?_
            exact w_ret K rfl (hK _)
        · refine w_go K 1 (c' := (44, [some (.ref 0), some (.int a1), some (.int a2), some (.int a3), some (.int a4)], [.int 0, .int 0, .int a4], mT s)) rfl ?_
          refine w_callT K rfl (m_G_within (len := len) (xs := xs) (d + 0) a4 (0 : Int32) (0 : Int32) s) ?_
          refine w_go K 0 (c' := (47, [some (.ref 0), some (.int a1), some (.int a2), some (.int a3), some (.int a4)], [.int (f_G_within a4 (0 : Int32) (0 : Int32) s)], mT s)) rfl ?_
          refine w_br K rfl (fun _ => ?_) (fun _ => ?_)
          · refine w_go K 1 (c' := (51, [some (.ref 0), some (.int a1), some (.int a2), some (.int a3), some (.int a4)], [.int (-1)], mT s)) rfl ?_
            exact w_ret K rfl (hK _)
          · refine w_go K 6 (c' := (61, [some (.ref 0), some (.int a1), some (.int a2), some (.int a3), some (.int a4)], [.int a4, .int a3, .int a2, .int a1, .ref 12], mT s)) rfl ?_
            refine w_call K rfl (m_Things_put (len := len) (xs := xs) (d + 0) a1 a2 a3 a4 s) ?_
            refine w_go K 0 (c' := (64, [some (.ref 0), some (.int a1), some (.int a2), some (.int a3), some (.int a4)], [.int ((f_Things_put a1 a2 a3 a4 s).1)], mT ((f_Things_put a1 a2 a3 a4 s).2))) rfl ?_
            exact w_ret K rfl (hK _)
theorem m_G_thing {len : Nat} {xs : Nat → Int32} (d : Nat) (a1 : Int32) (a2 : Int32) (a3 : Int32) (a4 : Int32) (s : mS) : ok_G_thing a1 a2 a3 a4 s → mm_call (mm_X len xs) mm_Y (d + 2) 31 [.ref 0, .int a1, .int a2, .int a3, .int a4] (mT s) = some (some (.int (f_G_thing a1 a2 a3 a4 s).1), mT (f_G_thing a1 a2 a3 a4 s).2) := fun h => t_G_thing (len := len) (xs := xs) d a1 a2 a3 a4 s (fun t => (some (some (.int t.1), mT t.2) : Option mm_R) = some (some (.int (f_G_thing a1 a2 a3 a4 s).1), mT (f_G_thing a1 a2 a3 a4 s).2)) (fun _ h => h) h rfl
def f_Things_has (a1 : Int32) (s : mS) : Int32 := (if a1 < 0 then 0 else (if (gI s 12 12) ≤ a1 then 0 else (if (40 : Int32) ≤ a1 then 0 else 1)))
theorem t_Things_has {len : Nat} {xs : Nat → Int32} (d : Nat) (a1 : Int32) (s : mS) {T : Option mm_R} (K : Int32 → Prop) (hK : ∀ t, K t → some (some (.int t), mT s) = T) : True → K (f_Things_has a1 s) → mm_fix (mm_X len xs) mm_Y (mm_call (mm_X len xs) mm_Y (d + 0)) (mm_look mc_Things_has) (0, [some (.ref 12), some (.int a1)], [], mT s) = T := by
  unfold f_Things_has
  refine w_go K 1 (c' := (1, [some (.ref 12), some (.int a1)], [.int a1], mT s)) rfl ?_
  refine w_brT K rfl (fun _ => ?_) (fun _ => ?_)
  · refine w_go K 1 (c' := (23, [some (.ref 12), some (.int a1)], [.int 0], mT s)) rfl ?_
    exact w_ret K rfl (hK _)
  · refine w_go K 3 (c' := (9, [some (.ref 12), some (.int a1)], [.int (gI s 12 12), .int a1], mT s)) rfl ?_
    refine w_brT K rfl (fun _ => ?_) (fun _ => ?_)
    · refine w_go K 1 (c' := (23, [some (.ref 12), some (.int a1)], [.int 0], mT s)) rfl ?_
      exact w_ret K rfl (hK _)
    · refine w_go K 2 (c' := (15, [some (.ref 12), some (.int a1)], [.int 40, .int a1], mT s)) rfl ?_
      refine w_brT K rfl (fun _ => ?_) (fun _ => ?_)
      · refine w_go K 1 (c' := (23, [some (.ref 12), some (.int a1)], [.int 0], mT s)) rfl ?_
        exact w_ret K rfl (hK _)
      · refine w_go K 2 (c' := (23, [some (.ref 12), some (.int a1)], [.int 1], mT s)) rfl ?_
        exact w_ret K rfl (hK _)
theorem m_Things_has {len : Nat} {xs : Nat → Int32} (d : Nat) (a1 : Int32) (s : mS) : True → mm_call (mm_X len xs) mm_Y (d + 1) 34 [.ref 12, .int a1] (mT s) = some (some (.int (f_Things_has a1 s)), mT s) := fun h => t_Things_has (len := len) (xs := xs) d a1 s (fun t => (some (some (.int t), mT s) : Option mm_R) = some (some (.int (f_Things_has a1 s)), mT s)) (fun _ h => h) h rfl
def f_G_cut (a1 : Int32) (a2 : Int32) (s : mS) : Int32 × mS := (if (f_Things_has a1 s) = 0 then (0, s) else (if (gI s 17 (ix a1)) = a2 then (0, s) else (1, sI s 17 (ix a1) a2)))
def ok_G_cut (a1 : Int32) (a2 : Int32) (s : mS) : Prop := (if (f_Things_has a1 s) = 0 then True else (mm_inb a1 40 = true ∧ (if (gI s 17 (ix a1)) = a2 then True else ((mm_inb a1 40 && mm_bit a2) = true ∧ True))))
theorem t_G_cut {len : Nat} {xs : Nat → Int32} (d : Nat) (a1 : Int32) (a2 : Int32) (s : mS) {T : Option mm_R} (K : Int32 × mS → Prop) (hK : ∀ t, K t → some (some (.int t.1), mT t.2) = T) : ok_G_cut a1 a2 s → K (f_G_cut a1 a2 s) → mm_fix (mm_X len xs) mm_Y (mm_call (mm_X len xs) mm_Y (d + 1)) (mm_look mc_G_cut) (0, [some (.ref 0), some (.int a1), some (.int a2)], [], mT s) = T := by
  unfold ok_G_cut f_G_cut
  refine w_go K 3 (c' := (5, [some (.ref 0), some (.int a1), some (.int a2)], [.int a1, .ref 12], mT s)) rfl ?_
  refine w_callT K rfl (m_Things_has (len := len) (xs := xs) (d + 0) a1 s) ?_
  refine w_go K 0 (c' := (8, [some (.ref 0), some (.int a1), some (.int a2)], [.int (f_Things_has a1 s)], mT s)) rfl ?_
  refine w_br K rfl (fun _ => ?_) (fun _ => ?_)
  · refine w_go K 1 (c' := (25, [some (.ref 0), some (.int a1), some (.int a2)], [.int 0], mT s)) rfl ?_
    exact w_ret K rfl (hK _)
  · refine w_go K 4 (c' := (19, [some (.ref 0), some (.int a1), some (.int a2)], [.int a1, .ref 17], mT s)) rfl ?_
    refine w_ck K rfl ?_
    refine w_go K 1 (c' := (21, [some (.ref 0), some (.int a1), some (.int a2)], [.int a2, .int (gI s 17 (ix a1))], mT s)) rfl ?_
    refine w_br K rfl (fun _ => ?_) (fun _ => ?_)
    · refine w_go K 1 (c' := (25, [some (.ref 0), some (.int a1), some (.int a2)], [.int 0], mT s)) rfl ?_
      exact w_ret K rfl (hK _)
    · refine w_go K 5 (c' := (35, [some (.ref 0), some (.int a1), some (.int a2)], [.int a2, .int a1, .ref 17], mT s)) rfl ?_
      refine w_ck K rfl ?_
      refine w_go K 1 (c' := (37, [some (.ref 0), some (.int a1), some (.int a2)], [.int 1], mT (sI s 17 (ix a1) a2))) rfl ?_
      exact w_ret K rfl (hK _)
theorem m_G_cut {len : Nat} {xs : Nat → Int32} (d : Nat) (a1 : Int32) (a2 : Int32) (s : mS) : ok_G_cut a1 a2 s → mm_call (mm_X len xs) mm_Y (d + 2) 33 [.ref 0, .int a1, .int a2] (mT s) = some (some (.int (f_G_cut a1 a2 s).1), mT (f_G_cut a1 a2 s).2) := fun h => t_G_cut (len := len) (xs := xs) d a1 a2 s (fun t => (some (some (.int t.1), mT t.2) : Option mm_R) = some (some (.int (f_G_cut a1 a2 s).1), mT (f_G_cut a1 a2 s).2)) (fun _ h => h) h rfl
def f_Things_isA (a1 : Int32) (a2 : Int32) (s : mS) : Int32 := (if (f_Things_has a1 s) = 0 then 0 else (if (gI s 14 (ix a1)) = a2 then 1 else 0))
def ok_Things_isA (a1 : Int32) (a2 : Int32) (s : mS) : Prop := (if (f_Things_has a1 s) = 0 then True else (mm_inb a1 40 = true ∧ True))
theorem t_Things_isA {len : Nat} {xs : Nat → Int32} (d : Nat) (a1 : Int32) (a2 : Int32) (s : mS) {T : Option mm_R} (K : Int32 → Prop) (hK : ∀ t, K t → some (some (.int t), mT s) = T) : ok_Things_isA a1 a2 s → K (f_Things_isA a1 a2 s) → mm_fix (mm_X len xs) mm_Y (mm_call (mm_X len xs) mm_Y (d + 1)) (mm_look mc_Things_isA) (0, [some (.ref 12), some (.int a1), some (.int a2)], [], mT s) = T := by
  unfold ok_Things_isA f_Things_isA
  refine w_go K 2 (c' := (2, [some (.ref 12), some (.int a1), some (.int a2)], [.int a1, .ref 12], mT s)) rfl ?_
  refine w_callT K rfl (m_Things_has (len := len) (xs := xs) (d + 0) a1 s) ?_
  refine w_go K 0 (c' := (5, [some (.ref 12), some (.int a1), some (.int a2)], [.int (f_Things_has a1 s)], mT s)) rfl ?_
  refine w_br K rfl (fun _ => ?_) (fun _ => ?_)
  · refine w_go K 1 (c' := (23, [some (.ref 12), some (.int a1), some (.int a2)], [.int 0], mT s)) rfl ?_
    exact w_ret K rfl (hK _)
  · refine w_go K 3 (c' := (13, [some (.ref 12), some (.int a1), some (.int a2)], [.int a1, .ref 14], mT s)) rfl ?_
    refine w_ck K rfl ?_
    refine w_go K 1 (c' := (15, [some (.ref 12), some (.int a1), some (.int a2)], [.int a2, .int (gI s 14 (ix a1))], mT s)) rfl ?_
    refine w_brT K rfl (fun _ => ?_) (fun _ => ?_)
    · refine w_go K 2 (c' := (23, [some (.ref 12), some (.int a1), some (.int a2)], [.int 1], mT s)) rfl ?_
      exact w_ret K rfl (hK _)
    · refine w_go K 1 (c' := (23, [some (.ref 12), some (.int a1), some (.int a2)], [.int 0], mT s)) rfl ?_
      exact w_ret K rfl (hK _)
theorem m_Things_isA {len : Nat} {xs : Nat → Int32} (d : Nat) (a1 : Int32) (a2 : Int32) (s : mS) : ok_Things_isA a1 a2 s → mm_call (mm_X len xs) mm_Y (d + 2) 36 [.ref 12, .int a1, .int a2] (mT s) = some (some (.int (f_Things_isA a1 a2 s)), mT s) := fun h => t_Things_isA (len := len) (xs := xs) d a1 a2 s (fun t => (some (some (.int t), mT s) : Option mm_R) = some (some (.int (f_Things_isA a1 a2 s)), mT s)) (fun _ h => h) h rfl
def f_G_coin (a1 : Int32) (a2 : Int32) (s : mS) : Int32 × mS := (if (f_Things_isA a1 (2 : Int32) s) = 0 then ((-1), s) else (if (f_G_within a2 (1 : Int32) (99 : Int32) s) = 0 then ((-1), s) else ((gI (sI s 19 (ix a1) ((gI s 19 (ix a1)) + (50 * a2))) 19 (ix a1)), sI s 19 (ix a1) ((gI s 19 (ix a1)) + (50 * a2)))))
def ok_G_coin (a1 : Int32) (a2 : Int32) (s : mS) : Prop := (ok_Things_isA a1 (2 : Int32) s ∧ (if (f_Things_isA a1 (2 : Int32) s) = 0 then True else (if (f_G_within a2 (1 : Int32) (99 : Int32) s) = 0 then True else (mm_inb a1 40 = true ∧ (mm_inb a1 40 = true ∧ (mm_inb a1 40 = true ∧ True))))))
theorem t_G_coin {len : Nat} {xs : Nat → Int32} (d : Nat) (a1 : Int32) (a2 : Int32) (s : mS) {T : Option mm_R} (K : Int32 × mS → Prop) (hK : ∀ t, K t → some (some (.int t.1), mT t.2) = T) : ok_G_coin a1 a2 s → K (f_G_coin a1 a2 s) → mm_fix (mm_X len xs) mm_Y (mm_call (mm_X len xs) mm_Y (d + 2)) (mm_look mc_G_coin) (0, [some (.ref 0), some (.int a1), some (.int a2)], [], mT s) = T := by
  unfold ok_G_coin f_G_coin
  refine w_go K 4 (c' := (6, [some (.ref 0), some (.int a1), some (.int a2)], [.int 2, .int a1, .ref 12], mT s)) rfl ?_
  refine w_call K rfl (m_Things_isA (len := len) (xs := xs) (d + 0) a1 (2 : Int32) s) ?_
  refine w_go K 0 (c' := (9, [some (.ref 0), some (.int a1), some (.int a2)], [.int (f_Things_isA a1 (2 : Int32) s)], mT s)) rfl ?_
  refine w_br K rfl (fun _ => ?_) (fun _ => ?_)
  · refine w_go K 1 (c' := (23, [some (.ref 0), some (.int a1), some (.int a2)], [.int (-1)], mT s)) rfl ?_
    exact w_ret K rfl (hK _)
  · refine w_go K 3 (c' := (16, [some (.ref 0), some (.int a1), some (.int a2)], [.int 99, .int 1, .int a2], mT s)) rfl ?_
    refine w_callT K rfl (m_G_within (len := len) (xs := xs) (d + 1) a2 (1 : Int32) (99 : Int32) s) ?_
    refine w_go K 0 (c' := (19, [some (.ref 0), some (.int a1), some (.int a2)], [.int (f_G_within a2 (1 : Int32) (99 : Int32) s)], mT s)) rfl ?_
    refine w_br K rfl (fun _ => ?_) (fun _ => ?_)
    · refine w_go K 1 (c' := (23, [some (.ref 0), some (.int a1), some (.int a2)], [.int (-1)], mT s)) rfl ?_
      exact w_ret K rfl (hK _)
    · refine w_go K 5 (c' := (33, [some (.ref 0), some (.int a1), some (.int a2)], [.int a1, .ref 19, .int a1, .ref 19], mT s)) rfl ?_
      refine w_ck K rfl ?_
      refine w_go K 4 (c' := (39, [some (.ref 0), some (.int a1), some (.int a2)], [.int ((gI s 19 (ix a1)) + (50 * a2)), .int a1, .ref 19], mT s)) rfl ?_
      refine w_ck K rfl ?_
      refine w_go K 4 (c' := (48, [some (.ref 0), some (.int a1), some (.int a2)], [.int a1, .ref 19], mT (sI s 19 (ix a1) ((gI s 19 (ix a1)) + (50 * a2))))) rfl ?_
      refine w_ck K rfl ?_
      refine w_go K 0 (c' := (49, [some (.ref 0), some (.int a1), some (.int a2)], [.int (gI (sI s 19 (ix a1) ((gI s 19 (ix a1)) + (50 * a2))) 19 (ix a1))], mT (sI s 19 (ix a1) ((gI s 19 (ix a1)) + (50 * a2))))) rfl ?_
      exact w_ret K rfl (hK _)
theorem m_G_coin {len : Nat} {xs : Nat → Int32} (d : Nat) (a1 : Int32) (a2 : Int32) (s : mS) : ok_G_coin a1 a2 s → mm_call (mm_X len xs) mm_Y (d + 3) 35 [.ref 0, .int a1, .int a2] (mT s) = some (some (.int (f_G_coin a1 a2 s).1), mT (f_G_coin a1 a2 s).2) := fun h => t_G_coin (len := len) (xs := xs) d a1 a2 s (fun t => (some (some (.int t.1), mT t.2) : Option mm_R) = some (some (.int (f_G_coin a1 a2 s).1), mT (f_G_coin a1 a2 s).2)) (fun _ h => h) h rfl
def f_G_frost (a1 : Int32) (a2 : Int32) (s : mS) : Int32 × mS := (if (f_Things_isA a1 (0 : Int32) s) = 0 then (0, s) else (if (gI s 18 (ix a1)) = a2 then (0, s) else (1, sI s 18 (ix a1) a2)))
def ok_G_frost (a1 : Int32) (a2 : Int32) (s : mS) : Prop := (ok_Things_isA a1 (0 : Int32) s ∧ (if (f_Things_isA a1 (0 : Int32) s) = 0 then True else (mm_inb a1 40 = true ∧ (if (gI s 18 (ix a1)) = a2 then True else ((mm_inb a1 40 && mm_bit a2) = true ∧ True)))))
theorem t_G_frost {len : Nat} {xs : Nat → Int32} (d : Nat) (a1 : Int32) (a2 : Int32) (s : mS) {T : Option mm_R} (K : Int32 × mS → Prop) (hK : ∀ t, K t → some (some (.int t.1), mT t.2) = T) : ok_G_frost a1 a2 s → K (f_G_frost a1 a2 s) → mm_fix (mm_X len xs) mm_Y (mm_call (mm_X len xs) mm_Y (d + 2)) (mm_look mc_G_frost) (0, [some (.ref 0), some (.int a1), some (.int a2)], [], mT s) = T := by
  unfold ok_G_frost f_G_frost
  refine w_go K 4 (c' := (6, [some (.ref 0), some (.int a1), some (.int a2)], [.int 0, .int a1, .ref 12], mT s)) rfl ?_
  refine w_call K rfl (m_Things_isA (len := len) (xs := xs) (d + 0) a1 (0 : Int32) s) ?_
  refine w_go K 0 (c' := (9, [some (.ref 0), some (.int a1), some (.int a2)], [.int (f_Things_isA a1 (0 : Int32) s)], mT s)) rfl ?_
  refine w_br K rfl (fun _ => ?_) (fun _ => ?_)
  · refine w_go K 1 (c' := (26, [some (.ref 0), some (.int a1), some (.int a2)], [.int 0], mT s)) rfl ?_
    exact w_ret K rfl (hK _)
  · refine w_go K 4 (c' := (20, [some (.ref 0), some (.int a1), some (.int a2)], [.int a1, .ref 18], mT s)) rfl ?_
    refine w_ck K rfl ?_
    refine w_go K 1 (c' := (22, [some (.ref 0), some (.int a1), some (.int a2)], [.int a2, .int (gI s 18 (ix a1))], mT s)) rfl ?_
    refine w_br K rfl (fun _ => ?_) (fun _ => ?_)
    · refine w_go K 1 (c' := (26, [some (.ref 0), some (.int a1), some (.int a2)], [.int 0], mT s)) rfl ?_
      exact w_ret K rfl (hK _)
    · refine w_go K 5 (c' := (36, [some (.ref 0), some (.int a1), some (.int a2)], [.int a2, .int a1, .ref 18], mT s)) rfl ?_
      refine w_ck K rfl ?_
      refine w_go K 1 (c' := (38, [some (.ref 0), some (.int a1), some (.int a2)], [.int 1], mT (sI s 18 (ix a1) a2))) rfl ?_
      exact w_ret K rfl (hK _)
theorem m_G_frost {len : Nat} {xs : Nat → Int32} (d : Nat) (a1 : Int32) (a2 : Int32) (s : mS) : ok_G_frost a1 a2 s → mm_call (mm_X len xs) mm_Y (d + 3) 37 [.ref 0, .int a1, .int a2] (mT s) = some (some (.int (f_G_frost a1 a2 s).1), mT (f_G_frost a1 a2 s).2) := fun h => t_G_frost (len := len) (xs := xs) d a1 a2 s (fun t => (some (some (.int t.1), mT t.2) : Option mm_R) = some (some (.int (f_G_frost a1 a2 s).1), mT (f_G_frost a1 a2 s).2)) (fun _ h => h) h rfl
def lp_Books_note_18 (a1 : Int32) (a2 : Int32) (a3 : Int32) (a4 : Int32) (s : mS) : Nat → Int32 → Int32 → Int32 × Int32
  | 0, v5, v6 => (v5, v6)
  | n + 1, v5, v6 => (if (gI s 82 8) ≤ v6 then (v5, v6) else (if (gI s 83 (ix v6)) = a1 then (lp_Books_note_18 a1 a2 a3 a4 s n v6 (v6 + 1)) else (lp_Books_note_18 a1 a2 a3 a4 s n v5 (v6 + 1))))
def okl_Books_note_18 (a1 : Int32) (a2 : Int32) (a3 : Int32) (a4 : Int32) (s : mS) : Nat → Int32 → Int32 → Prop
  | 0, v5, v6 => False
  | n + 1, v5, v6 => (if (gI s 82 8) ≤ v6 then True else (mm_inb v6 200 = true ∧ (if (gI s 83 (ix v6)) = a1 then (okl_Books_note_18 a1 a2 a3 a4 s n v6 (v6 + 1)) else (okl_Books_note_18 a1 a2 a3 a4 s n v5 (v6 + 1)))))
theorem tl_Books_note_18 {len : Nat} {xs : Nat → Int32} (d : Nat) (a1 : Int32) (a2 : Int32) (a3 : Int32) (a4 : Int32) (s : mS) {T : Option mm_R} (K : Int32 × Int32 → Prop) (hX : ∀ r, K r → mm_fix (mm_X len xs) mm_Y (mm_call (mm_X len xs) mm_Y (d + 0)) (mm_look mc_Books_note) (48, [some (.ref 82), some (.int a1), some (.int a2), some (.int a3), some (.int a4), some (.int r.1), some (.int r.2)], [], mT s) = T) : ∀ (n : Nat), ∀ (v5 : Int32) (v6 : Int32), okl_Books_note_18 a1 a2 a3 a4 s n v5 v6 → K (lp_Books_note_18 a1 a2 a3 a4 s n v5 v6) → mm_fix (mm_X len xs) mm_Y (mm_call (mm_X len xs) mm_Y (d + 0)) (mm_look mc_Books_note) (18, [some (.ref 82), some (.int a1), some (.int a2), some (.int a3), some (.int a4), some (.int v5), some (.int v6)], [], mT s) = T := by
  intro n
  induction n with
  | zero => intro v5 v6; exact fun h => h.elim
  | succ n ih =>
    intro v5 v6
    rw [okl_Books_note_18, lp_Books_note_18]
    refine w_go K 3 (c' := (24, [some (.ref 82), some (.int a1), some (.int a2), some (.int a3), some (.int a4), some (.int v5), some (.int v6)], [.int (gI s 82 8), .int v6], mT s)) rfl ?_
    refine w_br K rfl (fun _ => ?_) (fun _ => ?_)
    · refine w_go K 0 (c' := (48, [some (.ref 82), some (.int a1), some (.int a2), some (.int a3), some (.int a4), some (.int v5), some (.int v6)], [], mT s)) rfl ?_
      exact fun _ b => hX _ b
    · refine w_go K 3 (c' := (33, [some (.ref 82), some (.int a1), some (.int a2), some (.int a3), some (.int a4), some (.int v5), some (.int v6)], [.int v6, .ref 83], mT s)) rfl ?_
      refine w_ck K rfl ?_
      refine w_go K 1 (c' := (35, [some (.ref 82), some (.int a1), some (.int a2), some (.int a3), some (.int a4), some (.int v5), some (.int v6)], [.int a1, .int (gI s 83 (ix v6))], mT s)) rfl ?_
      refine w_br K rfl (fun _ => ?_) (fun _ => ?_)
      · refine w_go K 4 (c' := (18, [some (.ref 82), some (.int a1), some (.int a2), some (.int a3), some (.int a4), some (.int v6), some (.int (v6 + 1))], [], mT s)) rfl ?_
        exact fun a b => ih v6 (v6 + 1) a b
      · refine w_go K 2 (c' := (18, [some (.ref 82), some (.int a1), some (.int a2), some (.int a3), some (.int a4), some (.int v5), some (.int (v6 + 1))], [], mT s)) rfl ?_
        exact fun a b => ih v5 (v6 + 1) a b
def f_Books_note (a1 : Int32) (a2 : Int32) (a3 : Int32) (a4 : Int32) (s : mS) : Int32 × mS := (if (gI s 82 8) < 200 then (if (lp_Books_note_18 a1 a2 a3 a4 s mm_N ((-1) : Int32) (0 : Int32)).1 = (-1) then ((gI (sI (sI (sI s 83 (ix (gI s 82 8)) a1) 85 (ix (gI s 82 8)) ((lp_Books_note_18 a1 a2 a3 a4 s mm_N ((-1) : Int32) (0 : Int32)).1)) 84 (ix (gI s 82 8)) 0) 84 (ix (gI s 82 8))), sI (sI (sI (sI (sI (sI (sI s 83 (ix (gI s 82 8)) a1) 85 (ix (gI s 82 8)) ((lp_Books_note_18 a1 a2 a3 a4 s mm_N ((-1) : Int32) (0 : Int32)).1)) 84 (ix (gI s 82 8)) 0) 86 (ix (gI s 82 8)) a2) 87 (ix (gI s 82 8)) a3) 88 (ix (gI s 82 8)) a4) 82 8 ((gI s 82 8) + 1)) else ((gI (sI (sI (sI s 83 (ix (gI s 82 8)) a1) 85 (ix (gI s 82 8)) ((lp_Books_note_18 a1 a2 a3 a4 s mm_N ((-1) : Int32) (0 : Int32)).1)) 84 (ix (gI s 82 8)) ((gI s 84 (ix ((lp_Books_note_18 a1 a2 a3 a4 s mm_N ((-1) : Int32) (0 : Int32)).1))) + 1)) 84 (ix (gI s 82 8))), sI (sI (sI (sI (sI (sI (sI s 83 (ix (gI s 82 8)) a1) 85 (ix (gI s 82 8)) ((lp_Books_note_18 a1 a2 a3 a4 s mm_N ((-1) : Int32) (0 : Int32)).1)) 84 (ix (gI s 82 8)) ((gI s 84 (ix ((lp_Books_note_18 a1 a2 a3 a4 s mm_N ((-1) : Int32) (0 : Int32)).1))) + 1)) 86 (ix (gI s 82 8)) a2) 87 (ix (gI s 82 8)) a3) 88 (ix (gI s 82 8)) a4) 82 8 ((gI s 82 8) + 1))) else ((-1), s))
def ok_Books_note (a1 : Int32) (a2 : Int32) (a3 : Int32) (a4 : Int32) (s : mS) : Prop := (if (gI s 82 8) < 200 then (okl_Books_note_18 a1 a2 a3 a4 s mm_N ((-1) : Int32) (0 : Int32) ∧ (mm_inb (gI s 82 8) 200 = true ∧ (mm_inb (gI s 82 8) 200 = true ∧ (if (lp_Books_note_18 a1 a2 a3 a4 s mm_N ((-1) : Int32) (0 : Int32)).1 = (-1) then (mm_inb (gI s 82 8) 200 = true ∧ (mm_inb (gI s 82 8) 200 = true ∧ (mm_inb (gI s 82 8) 200 = true ∧ ((mm_inb (gI s 82 8) 200 && mm_bit a4) = true ∧ (mm_inb (gI s 82 8) 200 = true ∧ True))))) else (mm_inb ((lp_Books_note_18 a1 a2 a3 a4 s mm_N ((-1) : Int32) (0 : Int32)).1) 200 = true ∧ (mm_inb (gI s 82 8) 200 = true ∧ (mm_inb (gI s 82 8) 200 = true ∧ (mm_inb (gI s 82 8) 200 = true ∧ ((mm_inb (gI s 82 8) 200 && mm_bit a4) = true ∧ (mm_inb (gI s 82 8) 200 = true ∧ True)))))))))) else True)
theorem t_Books_note {len : Nat} {xs : Nat → Int32} (d : Nat) (a1 : Int32) (a2 : Int32) (a3 : Int32) (a4 : Int32) (s : mS) {T : Option mm_R} (K : Int32 × mS → Prop) (hK : ∀ t, K t → some (some (.int t.1), mT t.2) = T) : ok_Books_note a1 a2 a3 a4 s → K (f_Books_note a1 a2 a3 a4 s) → mm_fix (mm_X len xs) mm_Y (mm_call (mm_X len xs) mm_Y (d + 0)) (mm_look mc_Books_note) (0, [some (.ref 82), some (.int a1), some (.int a2), some (.int a3), some (.int a4), none, none], [], mT s) = T := by
  unfold ok_Books_note f_Books_note
  refine w_go K 3 (c' := (7, [some (.ref 82), some (.int a1), some (.int a2), some (.int a3), some (.int a4), none, none], [.int 200, .int (gI s 82 8)], mT s)) rfl ?_
  refine w_br K rfl (fun _ => ?_) (fun _ => ?_)
  · refine w_go K 4 (c' := (18, [some (.ref 82), some (.int a1), some (.int a2), some (.int a3), some (.int a4), some (.int (-1)), some (.int 0)], [], mT s)) rfl ?_
    refine w_loop K (D := mm_fix (mm_X len xs) mm_Y (mm_call (mm_X len xs) mm_Y (d + 0)) (mm_look mc_Books_note) (48, [some (.ref 82), some (.int a1), some (.int a2), some (.int a3), some (.int a4), some (.int ((lp_Books_note_18 a1 a2 a3 a4 s mm_N ((-1) : Int32) (0 : Int32)).1)), some (.int ((lp_Books_note_18 a1 a2 a3 a4 s mm_N ((-1) : Int32) (0 : Int32)).2))], [], mT s) = T) (fun h1 h2 => tl_Books_note_18 (len := len) (xs := xs) d a1 a2 a3 a4 s (T := T) (K := fun r => r = lp_Books_note_18 a1 a2 a3 a4 s mm_N ((-1) : Int32) (0 : Int32)) (fun r hr => by subst hr; exact h2) mm_N ((-1) : Int32) (0 : Int32) h1 rfl) (fun h1 h2 => ?_)
    revert h1 h2
    refine w_go K 5 (c' := (57, [some (.ref 82), some (.int a1), some (.int a2), some (.int a3), some (.int a4), some (.int ((lp_Books_note_18 a1 a2 a3 a4 s mm_N ((-1) : Int32) (0 : Int32)).1)), some (.int ((lp_Books_note_18 a1 a2 a3 a4 s mm_N ((-1) : Int32) (0 : Int32)).2))], [.int a1, .int (gI s 82 8), .ref 83], mT s)) rfl ?_
    refine w_ck K rfl ?_
    refine w_go K 5 (c' := (68, [some (.ref 82), some (.int a1), some (.int a2), some (.int a3), some (.int a4), some (.int ((lp_Books_note_18 a1 a2 a3 a4 s mm_N ((-1) : Int32) (0 : Int32)).1)), some (.int ((lp_Books_note_18 a1 a2 a3 a4 s mm_N ((-1) : Int32) (0 : Int32)).2))], [.int ((lp_Books_note_18 a1 a2 a3 a4 s mm_N ((-1) : Int32) (0 : Int32)).1), .int (gI s 82 8), .ref 85], mT (sI s 83 (ix (gI s 82 8)) a1))) rfl ?_
    refine w_ck K rfl ?_
    refine w_go K 6 (c' := (80, [some (.ref 82), some (.int a1), some (.int a2), some (.int a3), some (.int a4), some (.int ((lp_Books_note_18 a1 a2 a3 a4 s mm_N ((-1) : Int32) (0 : Int32)).1)), some (.int ((lp_Books_note_18 a1 a2 a3 a4 s mm_N ((-1) : Int32) (0 : Int32)).2))], [.int (-1), .int ((lp_Books_note_18 a1 a2 a3 a4 s mm_N ((-1) : Int32) (0 : Int32)).1), .int (gI s 82 8), .ref 84], mT (sI (sI s 83 (ix (gI s 82 8)) a1) 85 (ix (gI s 82 8)) ((lp_Books_note_18 a1 a2 a3 a4 s mm_N ((-1) : Int32) (0 : Int32)).1)))) rfl ?_
    refine w_br K rfl (fun _ => ?_) (fun _ => ?_)
    · refine w_go K 2 (c' := (96, [some (.ref 82), some (.int a1), some (.int a2), some (.int a3), some (.int a4), some (.int ((lp_Books_note_18 a1 a2 a3 a4 s mm_N ((-1) : Int32) (0 : Int32)).1)), some (.int ((lp_Books_note_18 a1 a2 a3 a4 s mm_N ((-1) : Int32) (0 : Int32)).2))], [.int 0, .int (gI s 82 8), .ref 84], mT (sI (sI s 83 (ix (gI s 82 8)) a1) 85 (ix (gI s 82 8)) ((lp_Books_note_18 a1 a2 a3 a4 s mm_N ((-1) : Int32) (0 : Int32)).1)))) rfl ?_
      refine w_ck K rfl ?_
      refine w_go K 5 (c' := (106, [some (.ref 82), some (.int a1), some (.int a2), some (.int a3), some (.int a4), some (.int ((lp_Books_note_18 a1 a2 a3 a4 s mm_N ((-1) : Int32) (0 : Int32)).1)), some (.int ((lp_Books_note_18 a1 a2 a3 a4 s mm_N ((-1) : Int32) (0 : Int32)).2))], [.int a2, .int (gI s 82 8), .ref 86], mT (sI (sI (sI s 83 (ix (gI s 82 8)) a1) 85 (ix (gI s 82 8)) ((lp_Books_note_18 a1 a2 a3 a4 s mm_N ((-1) : Int32) (0 : Int32)).1)) 84 (ix (gI s 82 8)) 0))) rfl ?_
      refine w_ck K rfl ?_
      refine w_go K 5 (c' := (116, [some (.ref 82), some (.int a1), some (.int a2), some (.int a3), some (.int a4), some (.int ((lp_Books_note_18 a1 a2 a3 a4 s mm_N ((-1) : Int32) (0 : Int32)).1)), some (.int ((lp_Books_note_18 a1 a2 a3 a4 s mm_N ((-1) : Int32) (0 : Int32)).2))], [.int a3, .int (gI s 82 8), .ref 87], mT (sI (sI (sI (sI s 83 (ix (gI s 82 8)) a1) 85 (ix (gI s 82 8)) ((lp_Books_note_18 a1 a2 a3 a4 s mm_N ((-1) : Int32) (0 : Int32)).1)) 84 (ix (gI s 82 8)) 0) 86 (ix (gI s 82 8)) a2))) rfl ?_
      refine w_ck K rfl ?_
      refine w_go K 5 (c' := (127, [some (.ref 82), some (.int a1), some (.int a2), some (.int a3), some (.int a4), some (.int ((lp_Books_note_18 a1 a2 a3 a4 s mm_N ((-1) : Int32) (0 : Int32)).1)), some (.int ((lp_Books_note_18 a1 a2 a3 a4 s mm_N ((-1) : Int32) (0 : Int32)).2))], [.int a4, .int (gI s 82 8), .ref 88], mT (sI (sI (sI (sI (sI s 83 (ix (gI s 82 8)) a1) 85 (ix (gI s 82 8)) ((lp_Books_note_18 a1 a2 a3 a4 s mm_N ((-1) : Int32) (0 : Int32)).1)) 84 (ix (gI s 82 8)) 0) 86 (ix (gI s 82 8)) a2) 87 (ix (gI s 82 8)) a3))) rfl ?_
      refine w_ck K rfl ?_
      refine w_go K 9 (c' := (143, [some (.ref 82), some (.int a1), some (.int a2), some (.int a3), some (.int a4), some (.int ((lp_Books_note_18 a1 a2 a3 a4 s mm_N ((-1) : Int32) (0 : Int32)).1)), some (.int ((lp_Books_note_18 a1 a2 a3 a4 s mm_N ((-1) : Int32) (0 : Int32)).2))], [.int (gI s 82 8), .ref 84], mT (sI (sI (sI (sI (sI (sI (sI s 83 (ix (gI s 82 8)) a1) 85 (ix (gI s 82 8)) ((lp_Books_note_18 a1 a2 a3 a4 s mm_N ((-1) : Int32) (0 : Int32)).1)) 84 (ix (gI s 82 8)) 0) 86 (ix (gI s 82 8)) a2) 87 (ix (gI s 82 8)) a3) 88 (ix (gI s 82 8)) a4) 82 8 ((gI s 82 8) + 1)))) rfl ?_
      refine w_ck K rfl ?_
      refine w_go K 0 (c' := (144, [some (.ref 82), some (.int a1), some (.int a2), some (.int a3), some (.int a4), some (.int ((lp_Books_note_18 a1 a2 a3 a4 s mm_N ((-1) : Int32) (0 : Int32)).1)), some (.int ((lp_Books_note_18 a1 a2 a3 a4 s mm_N ((-1) : Int32) (0 : Int32)).2))], [.int (gI (sI (sI (sI s 83 (ix (gI s 82 8)) a1) 85 (ix (gI s 82 8)) ((lp_Books_note_18 a1 a2 a3 a4 s mm_N ((-1) : Int32) (0 : Int32)).1)) 84 (ix (gI s 82 8)) 0) 84 (ix (gI s 82 8)))], mT (sI (sI (sI (sI (sI (sI (sI s 83 (ix (gI s 82 8)) a1) 85 (ix (gI s 82 8)) ((lp_Books_note_18 a1 a2 a3 a4 s mm_N ((-1) : Int32) (0 : Int32)).1)) 84 (ix (gI s 82 8)) 0) 86 (ix (gI s 82 8)) a2) 87 (ix (gI s 82 8)) a3) 88 (ix (gI s 82 8)) a4) 82 8 ((gI s 82 8) + 1)))) rfl ?_
      exact w_ret K rfl (hK _)
    · refine w_go K 3 (c' := (93, [some (.ref 82), some (.int a1), some (.int a2), some (.int a3), some (.int a4), some (.int ((lp_Books_note_18 a1 a2 a3 a4 s mm_N ((-1) : Int32) (0 : Int32)).1)), some (.int ((lp_Books_note_18 a1 a2 a3 a4 s mm_N ((-1) : Int32) (0 : Int32)).2))], [.int ((lp_Books_note_18 a1 a2 a3 a4 s mm_N ((-1) : Int32) (0 : Int32)).1), .ref 84, .int (gI s 82 8), .ref 84], mT (sI (sI s 83 (ix (gI s 82 8)) a1) 85 (ix (gI s 82 8)) ((lp_Books_note_18 a1 a2 a3 a4 s mm_N ((-1) : Int32) (0 : Int32)).1)))) rfl ?_
      refine w_ck K rfl ?_
      refine w_go K 2 (c' := (96, [some (.ref 82), some (.int a1), some (.int a2), some (.int a3), some (.int a4), some (.int ((lp_Books_note_18 a1 a2 a3 a4 s mm_N ((-1) : Int32) (0 : Int32)).1)), some (.int ((lp_Books_note_18 a1 a2 a3 a4 s mm_N ((-1) : Int32) (0 : Int32)).2))], [.int ((gI s 84 (ix ((lp_Books_note_18 a1 a2 a3 a4 s mm_N ((-1) : Int32) (0 : Int32)).1))) + 1), .int (gI s 82 8), .ref 84], mT (sI (sI s 83 (ix (gI s 82 8)) a1) 85 (ix (gI s 82 8)) ((lp_Books_note_18 a1 a2 a3 a4 s mm_N ((-1) : Int32) (0 : Int32)).1)))) rfl ?_
      refine w_ck K rfl ?_
      refine w_go K 5 (c' := (106, [some (.ref 82), some (.int a1), some (.int a2), some (.int a3), some (.int a4), some (.int ((lp_Books_note_18 a1 a2 a3 a4 s mm_N ((-1) : Int32) (0 : Int32)).1)), some (.int ((lp_Books_note_18 a1 a2 a3 a4 s mm_N ((-1) : Int32) (0 : Int32)).2))], [.int a2, .int (gI s 82 8), .ref 86], mT (sI (sI (sI s 83 (ix (gI s 82 8)) a1) 85 (ix (gI s 82 8)) ((lp_Books_note_18 a1 a2 a3 a4 s mm_N ((-1) : Int32) (0 : Int32)).1)) 84 (ix (gI s 82 8)) ((gI s 84 (ix ((lp_Books_note_18 a1 a2 a3 a4 s mm_N ((-1) : Int32) (0 : Int32)).1))) + 1)))) rfl ?_
      refine w_ck K rfl ?_
      refine w_go K 5 (c' := (116, [some (.ref 82), some (.int a1), some (.int a2), some (.int a3), some (.int a4), some (.int ((lp_Books_note_18 a1 a2 a3 a4 s mm_N ((-1) : Int32) (0 : Int32)).1)), some (.int ((lp_Books_note_18 a1 a2 a3 a4 s mm_N ((-1) : Int32) (0 : Int32)).2))], [.int a3, .int (gI s 82 8), .ref 87], mT (sI (sI (sI (sI s 83 (ix (gI s 82 8)) a1) 85 (ix (gI s 82 8)) ((lp_Books_note_18 a1 a2 a3 a4 s mm_N ((-1) : Int32) (0 : Int32)).1)) 84 (ix (gI s 82 8)) ((gI s 84 (ix ((lp_Books_note_18 a1 a2 a3 a4 s mm_N ((-1) : Int32) (0 : Int32)).1))) + 1)) 86 (ix (gI s 82 8)) a2))) rfl ?_
      refine w_ck K rfl ?_
      refine w_go K 5 (c' := (127, [some (.ref 82), some (.int a1), some (.int a2), some (.int a3), some (.int a4), some (.int ((lp_Books_note_18 a1 a2 a3 a4 s mm_N ((-1) : Int32) (0 : Int32)).1)), some (.int ((lp_Books_note_18 a1 a2 a3 a4 s mm_N ((-1) : Int32) (0 : Int32)).2))], [.int a4, .int (gI s 82 8), .ref 88], mT (sI (sI (sI (sI (sI s 83 (ix (gI s 82 8)) a1) 85 (ix (gI s 82 8)) ((lp_Books_note_18 a1 a2 a3 a4 s mm_N ((-1) : Int32) (0 : Int32)).1)) 84 (ix (gI s 82 8)) ((gI s 84 (ix ((lp_Books_note_18 a1 a2 a3 a4 s mm_N ((-1) : Int32) (0 : Int32)).1))) + 1)) 86 (ix (gI s 82 8)) a2) 87 (ix (gI s 82 8)) a3))) rfl ?_
      refine w_ck K rfl ?_
      refine w_go K 9 (c' := (143, [some (.ref 82), some (.int a1), some (.int a2), some (.int a3), some (.int a4), some (.int ((lp_Books_note_18 a1 a2 a3 a4 s mm_N ((-1) : Int32) (0 : Int32)).1)), some (.int ((lp_Books_note_18 a1 a2 a3 a4 s mm_N ((-1) : Int32) (0 : Int32)).2))], [.int (gI s 82 8), .ref 84], mT (sI (sI (sI (sI (sI (sI (sI s 83 (ix (gI s 82 8)) a1) 85 (ix (gI s 82 8)) ((lp_Books_note_18 a1 a2 a3 a4 s mm_N ((-1) : Int32) (0 : Int32)).1)) 84 (ix (gI s 82 8)) ((gI s 84 (ix ((lp_Books_note_18 a1 a2 a3 a4 s mm_N ((-1) : Int32) (0 : Int32)).1))) + 1)) 86 (ix (gI s 82 8)) a2) 87 (ix (gI s 82 8)) a3) 88 (ix (gI s 82 8)) a4) 82 8 ((gI s 82 8) + 1)))) rfl ?_
      refine w_ck K rfl ?_
      refine w_go K 0 (c' := (144, [some (.ref 82), some (.int a1), some (.int a2), some (.int a3), some (.int a4), some (.int ((lp_Books_note_18 a1 a2 a3 a4 s mm_N ((-1) : Int32) (0 : Int32)).1)), some (.int ((lp_Books_note_18 a1 a2 a3 a4 s mm_N ((-1) : Int32) (0 : Int32)).2))], [.int (gI (sI (sI (sI s 83 (ix (gI s 82 8)) a1) 85 (ix (gI s 82 8)) ((lp_Books_note_18 a1 a2 a3 a4 s mm_N ((-1) : Int32) (0 : Int32)).1)) 84 (ix (gI s 82 8)) ((gI s 84 (ix ((lp_Books_note_18 a1 a2 a3 a4 s mm_N ((-1) : Int32) (0 : Int32)).1))) + 1)) 84 (ix (gI s 82 8)))], mT (sI (sI (sI (sI (sI (sI (sI s 83 (ix (gI s 82 8)) a1) 85 (ix (gI s 82 8)) ((lp_Books_note_18 a1 a2 a3 a4 s mm_N ((-1) : Int32) (0 : Int32)).1)) 84 (ix (gI s 82 8)) ((gI s 84 (ix ((lp_Books_note_18 a1 a2 a3 a4 s mm_N ((-1) : Int32) (0 : Int32)).1))) + 1)) 86 (ix (gI s 82 8)) a2) 87 (ix (gI s 82 8)) a3) 88 (ix (gI s 82 8)) a4) 82 8 ((gI s 82 8) + 1)))) rfl ?_
      exact w_ret K rfl (hK _)
  · refine w_go K 1 (c' := (11, [some (.ref 82), some (.int a1), some (.int a2), some (.int a3), some (.int a4), none, none], [.int (-1)], mT s)) rfl ?_
    exact w_ret K rfl (hK _)
theorem m_Books_note {len : Nat} {xs : Nat → Int32} (d : Nat) (a1 : Int32) (a2 : Int32) (a3 : Int32) (a4 : Int32) (s : mS) : ok_Books_note a1 a2 a3 a4 s → mm_call (mm_X len xs) mm_Y (d + 1) 71 [.ref 82, .int a1, .int a2, .int a3, .int a4] (mT s) = some (some (.int (f_Books_note a1 a2 a3 a4 s).1), mT (f_Books_note a1 a2 a3 a4 s).2) := fun h => t_Books_note (len := len) (xs := xs) d a1 a2 a3 a4 s (fun t => (some (some (.int t.1), mT t.2) : Option mm_R) = some (some (.int (f_Books_note a1 a2 a3 a4 s).1), mT (f_Books_note a1 a2 a3 a4 s).2)) (fun _ h => h) h rfl
def f_G_read (a1 : Int32) (s : mS) : Int32 × mS := (if (f_Things_isA a1 (0 : Int32) s) = 0 then ((-1), s) else ((f_Books_note a1 (gI s 0 9) (gI s 20 (ix a1)) (gI s 18 (ix a1)) s).1, (f_Books_note a1 (gI s 0 9) (gI s 20 (ix a1)) (gI s 18 (ix a1)) s).2))
def ok_G_read (a1 : Int32) (s : mS) : Prop := (ok_Things_isA a1 (0 : Int32) s ∧ (if (f_Things_isA a1 (0 : Int32) s) = 0 then True else (mm_inb a1 40 = true ∧ (mm_inb a1 40 = true ∧ (ok_Books_note a1 (gI s 0 9) (gI s 20 (ix a1)) (gI s 18 (ix a1)) s ∧ True)))))
theorem t_G_read {len : Nat} {xs : Nat → Int32} (d : Nat) (a1 : Int32) (s : mS) {T : Option mm_R} (K : Int32 × mS → Prop) (hK : ∀ t, K t → some (some (.int t.1), mT t.2) = T) : ok_G_read a1 s → K (f_G_read a1 s) → mm_fix (mm_X len xs) mm_Y (mm_call (mm_X len xs) mm_Y (d + 2)) (mm_look mc_G_read) (0, [some (.ref 0), some (.int a1)], [], mT s) = T := by
  unfold ok_G_read f_G_read
  refine w_go K 4 (c' := (6, [some (.ref 0), some (.int a1)], [.int 0, .int a1, .ref 12], mT s)) rfl ?_
  refine w_call K rfl (m_Things_isA (len := len) (xs := xs) (d + 0) a1 (0 : Int32) s) ?_
  refine w_go K 0 (c' := (9, [some (.ref 0), some (.int a1)], [.int (f_Things_isA a1 (0 : Int32) s)], mT s)) rfl ?_
  refine w_br K rfl (fun _ => ?_) (fun _ => ?_)
  · refine w_go K 1 (c' := (13, [some (.ref 0), some (.int a1)], [.int (-1)], mT s)) rfl ?_
    exact w_ret K rfl (hK _)
  · refine w_go K 9 (c' := (31, [some (.ref 0), some (.int a1)], [.int a1, .ref 20, .int (gI s 0 9), .int a1, .ref 82], mT s)) rfl ?_
    refine w_ck K rfl ?_
    refine w_go K 4 (c' := (40, [some (.ref 0), some (.int a1)], [.int a1, .ref 18, .int (gI s 20 (ix a1)), .int (gI s 0 9), .int a1, .ref 82], mT s)) rfl ?_
    refine w_ck K rfl ?_
    refine w_go K 0 (c' := (41, [some (.ref 0), some (.int a1)], [.int (gI s 18 (ix a1)), .int (gI s 20 (ix a1)), .int (gI s 0 9), .int a1, .ref 82], mT s)) rfl ?_
    refine w_call K rfl (m_Books_note (len := len) (xs := xs) (d + 1) a1 (gI s 0 9) (gI s 20 (ix a1)) (gI s 18 (ix a1)) s) ?_
    refine w_go K 0 (c' := (44, [some (.ref 0), some (.int a1)], [.int ((f_Books_note a1 (gI s 0 9) (gI s 20 (ix a1)) (gI s 18 (ix a1)) s).1)], mT ((f_Books_note a1 (gI s 0 9) (gI s 20 (ix a1)) (gI s 18 (ix a1)) s).2))) rfl ?_
    exact w_ret K rfl (hK _)
theorem m_G_read {len : Nat} {xs : Nat → Int32} (d : Nat) (a1 : Int32) (s : mS) : ok_G_read a1 s → mm_call (mm_X len xs) mm_Y (d + 3) 70 [.ref 0, .int a1] (mT s) = some (some (.int (f_G_read a1 s).1), mT (f_G_read a1 s).2) := fun h => t_G_read (len := len) (xs := xs) d a1 s (fun t => (some (some (.int t.1), mT t.2) : Option mm_R) = some (some (.int (f_G_read a1 s).1), mT (f_G_read a1 s).2)) (fun _ h => h) h rfl
def lp_Books_readingOf_2 (a1 : Int32) (a2 : Int32) (s : mS) : Nat → Int32 → Option Int32 × Int32
  | 0, v3 => (none, v3)
  | n + 1, v3 => (if (gI s 82 8) ≤ v3 then (none, v3) else (if (200 : Int32) ≤ v3 then (none, v3) else (if (gI s 83 (ix v3)) = a1 then (if (gI s 84 (ix v3)) = a2 then (some v3, v3) else (lp_Books_readingOf_2 a1 a2 s n (v3 + 1))) else (lp_Books_readingOf_2 a1 a2 s n (v3 + 1)))))
def okl_Books_readingOf_2 (a1 : Int32) (a2 : Int32) (s : mS) : Nat → Int32 → Prop
  | 0, v3 => False
  | n + 1, v3 => (if (gI s 82 8) ≤ v3 then True else (if (200 : Int32) ≤ v3 then True else (mm_inb v3 200 = true ∧ (if (gI s 83 (ix v3)) = a1 then (mm_inb v3 200 = true ∧ (if (gI s 84 (ix v3)) = a2 then True else (okl_Books_readingOf_2 a1 a2 s n (v3 + 1)))) else (okl_Books_readingOf_2 a1 a2 s n (v3 + 1))))))
theorem tl_Books_readingOf_2 {len : Nat} {xs : Nat → Int32} (d : Nat) (a1 : Int32) (a2 : Int32) (s : mS) {T : Option mm_R} (K : Option Int32 × Int32 → Prop) (hX : ∀ r, K r → r.1 = none → mm_fix (mm_X len xs) mm_Y (mm_call (mm_X len xs) mm_Y (d + 0)) (mm_look mc_Books_readingOf) (45, [some (.ref 82), some (.int a1), some (.int a2), some (.int r.2)], [], mT s) = T) (hR : ∀ r, K r → ∀ v, r.1 = some v → some (some (.int v), mT s) = T) : ∀ (n : Nat), ∀ (v3 : Int32), okl_Books_readingOf_2 a1 a2 s n v3 → K (lp_Books_readingOf_2 a1 a2 s n v3) → mm_fix (mm_X len xs) mm_Y (mm_call (mm_X len xs) mm_Y (d + 0)) (mm_look mc_Books_readingOf) (2, [some (.ref 82), some (.int a1), some (.int a2), some (.int v3)], [], mT s) = T := by
  intro n
  induction n with
  | zero => intro v3; exact fun h => h.elim
  | succ n ih =>
    intro v3
    rw [okl_Books_readingOf_2, lp_Books_readingOf_2]
    refine w_go K 3 (c' := (7, [some (.ref 82), some (.int a1), some (.int a2), some (.int v3)], [.int (gI s 82 8), .int v3], mT s)) rfl ?_
    refine w_br K rfl (fun _ => ?_) (fun _ => ?_)
    · refine w_go K 0 (c' := (45, [some (.ref 82), some (.int a1), some (.int a2), some (.int v3)], [], mT s)) rfl ?_
      exact fun _ b => hX _ b rfl
    · refine w_go K 2 (c' := (14, [some (.ref 82), some (.int a1), some (.int a2), some (.int v3)], [.int 200, .int v3], mT s)) rfl ?_
      refine w_br K rfl (fun _ => ?_) (fun _ => ?_)
      · refine w_go K 0 (c' := (45, [some (.ref 82), some (.int a1), some (.int a2), some (.int v3)], [], mT s)) rfl ?_
        exact fun _ b => hX _ b rfl
      · refine w_go K 3 (c' := (22, [some (.ref 82), some (.int a1), some (.int a2), some (.int v3)], [.int v3, .ref 83], mT s)) rfl ?_
        refine w_ck K rfl ?_
        refine w_go K 1 (c' := (24, [some (.ref 82), some (.int a1), some (.int a2), some (.int v3)], [.int a1, .int (gI s 83 (ix v3))], mT s)) rfl ?_
        refine w_br K rfl (fun _ => ?_) (fun _ => ?_)
        · refine w_go K 3 (c' := (32, [some (.ref 82), some (.int a1), some (.int a2), some (.int v3)], [.int v3, .ref 84], mT s)) rfl ?_
          refine w_ck K rfl ?_
          refine w_go K 1 (c' := (34, [some (.ref 82), some (.int a1), some (.int a2), some (.int v3)], [.int a2, .int (gI s 84 (ix v3))], mT s)) rfl ?_
          refine w_br K rfl (fun _ => ?_) (fun _ => ?_)
          · refine w_go K 1 (c' := (38, [some (.ref 82), some (.int a1), some (.int a2), some (.int v3)], [.int v3], mT s)) rfl ?_
            exact w_ret K rfl (fun h => hR _ h _ rfl)
          · refine w_go K 2 (c' := (2, [some (.ref 82), some (.int a1), some (.int a2), some (.int (v3 + 1))], [], mT s)) rfl ?_
            exact fun a b => ih (v3 + 1) a b
        · refine w_go K 2 (c' := (2, [some (.ref 82), some (.int a1), some (.int a2), some (.int (v3 + 1))], [], mT s)) rfl ?_
          exact fun a b => ih (v3 + 1) a b
def f_Books_readingOf (a1 : Int32) (a2 : Int32) (s : mS) : Int32 := (mq_el ((lp_Books_readingOf_2 a1 a2 s mm_N (0 : Int32)).1) (fun v => v) (-1))
def ok_Books_readingOf (a1 : Int32) (a2 : Int32) (s : mS) : Prop := (okl_Books_readingOf_2 a1 a2 s mm_N (0 : Int32) ∧ mq_elP ((lp_Books_readingOf_2 a1 a2 s mm_N (0 : Int32)).1) True)
theorem t_Books_readingOf {len : Nat} {xs : Nat → Int32} (d : Nat) (a1 : Int32) (a2 : Int32) (s : mS) {T : Option mm_R} (K : Int32 → Prop) (hK : ∀ t, K t → some (some (.int t), mT s) = T) : ok_Books_readingOf a1 a2 s → K (f_Books_readingOf a1 a2 s) → mm_fix (mm_X len xs) mm_Y (mm_call (mm_X len xs) mm_Y (d + 0)) (mm_look mc_Books_readingOf) (0, [some (.ref 82), some (.int a1), some (.int a2), none], [], mT s) = T := by
  unfold ok_Books_readingOf f_Books_readingOf
  refine w_go K 2 (c' := (2, [some (.ref 82), some (.int a1), some (.int a2), some (.int 0)], [], mT s)) rfl ?_
  refine w_loopR K (D1 := some (some (.int (mq_get ((lp_Books_readingOf_2 a1 a2 s mm_N (0 : Int32)).1) 0)), mT s) = T) (D2 := mm_fix (mm_X len xs) mm_Y (mm_call (mm_X len xs) mm_Y (d + 0)) (mm_look mc_Books_readingOf) (45, [some (.ref 82), some (.int a1), some (.int a2), some (.int ((lp_Books_readingOf_2 a1 a2 s mm_N (0 : Int32)).2))], [], mT s) = T) (fun h1 h2 => tl_Books_readingOf_2 (len := len) (xs := xs) d a1 a2 s (T := T) (K := fun r => r = lp_Books_readingOf_2 a1 a2 s mm_N (0 : Int32)) (fun r hr hn => by subst hr; exact h2.2 hn) (fun r hr v hv => by subst hr; have h3 := h2.1 v hv; rw [hv] at h3; exact h3) mm_N (0 : Int32) h1 rfl) (fun v hv h => by rw [hv]; exact hK _ h) (fun h1 h2 => ?_)
  revert h1 h2
  refine w_go K 1 (c' := (46, [some (.ref 82), some (.int a1), some (.int a2), some (.int ((lp_Books_readingOf_2 a1 a2 s mm_N (0 : Int32)).2))], [.int (-1)], mT s)) rfl ?_
  exact w_ret K rfl (hK _)
theorem m_Books_readingOf {len : Nat} {xs : Nat → Int32} (d : Nat) (a1 : Int32) (a2 : Int32) (s : mS) : ok_Books_readingOf a1 a2 s → mm_call (mm_X len xs) mm_Y (d + 1) 73 [.ref 82, .int a1, .int a2] (mT s) = some (some (.int (f_Books_readingOf a1 a2 s)), mT s) := fun h => t_Books_readingOf (len := len) (xs := xs) d a1 a2 s (fun t => (some (some (.int t), mT s) : Option mm_R) = some (some (.int (f_Books_readingOf a1 a2 s)), mT s)) (fun _ h => h) h rfl
def f_Books_correct (a1 : Int32) (a2 : Int32) (a3 : Int32) (s : mS) : Int32 × mS := (if (gI s 82 12) < 100 then (1, sI (sI (sI (sI s 91 (ix (gI s 82 12)) a1) 92 (ix (gI s 82 12)) a2) 93 (ix (gI s 82 12)) a3) 82 12 ((gI s 82 12) + 1)) else (0, s))
def ok_Books_correct (a1 : Int32) (a2 : Int32) (a3 : Int32) (s : mS) : Prop := (if (gI s 82 12) < 100 then (mm_inb (gI s 82 12) 100 = true ∧ (mm_inb (gI s 82 12) 100 = true ∧ (mm_inb (gI s 82 12) 100 = true ∧ True))) else True)
theorem t_Books_correct {len : Nat} {xs : Nat → Int32} (d : Nat) (a1 : Int32) (a2 : Int32) (a3 : Int32) (s : mS) {T : Option mm_R} (K : Int32 × mS → Prop) (hK : ∀ t, K t → some (some (.int t.1), mT t.2) = T) : ok_Books_correct a1 a2 a3 s → K (f_Books_correct a1 a2 a3 s) → mm_fix (mm_X len xs) mm_Y (mm_call (mm_X len xs) mm_Y (d + 0)) (mm_look mc_Books_correct) (0, [some (.ref 82), some (.int a1), some (.int a2), some (.int a3)], [], mT s) = T := by
  unfold ok_Books_correct f_Books_correct
  refine w_go K 3 (c' := (6, [some (.ref 82), some (.int a1), some (.int a2), some (.int a3)], [.int 100, .int (gI s 82 12)], mT s)) rfl ?_
  refine w_br K rfl (fun _ => ?_) (fun _ => ?_)
  · refine w_go K 5 (c' := (20, [some (.ref 82), some (.int a1), some (.int a2), some (.int a3)], [.int a1, .int (gI s 82 12), .ref 91], mT s)) rfl ?_
    refine w_ck K rfl ?_
    refine w_go K 5 (c' := (30, [some (.ref 82), some (.int a1), some (.int a2), some (.int a3)], [.int a2, .int (gI s 82 12), .ref 92], mT (sI s 91 (ix (gI s 82 12)) a1))) rfl ?_
    refine w_ck K rfl ?_
    refine w_go K 5 (c' := (40, [some (.ref 82), some (.int a1), some (.int a2), some (.int a3)], [.int a3, .int (gI s 82 12), .ref 93], mT (sI (sI s 91 (ix (gI s 82 12)) a1) 92 (ix (gI s 82 12)) a2))) rfl ?_
    refine w_ck K rfl ?_
    refine w_go K 7 (c' := (52, [some (.ref 82), some (.int a1), some (.int a2), some (.int a3)], [.int 1], mT (sI (sI (sI (sI s 91 (ix (gI s 82 12)) a1) 92 (ix (gI s 82 12)) a2) 93 (ix (gI s 82 12)) a3) 82 12 ((gI s 82 12) + 1)))) rfl ?_
    exact w_ret K rfl (hK _)
  · refine w_go K 1 (c' := (10, [some (.ref 82), some (.int a1), some (.int a2), some (.int a3)], [.int 0], mT s)) rfl ?_
    exact w_ret K rfl (hK _)
theorem m_Books_correct {len : Nat} {xs : Nat → Int32} (d : Nat) (a1 : Int32) (a2 : Int32) (a3 : Int32) (s : mS) : ok_Books_correct a1 a2 a3 s → mm_call (mm_X len xs) mm_Y (d + 1) 74 [.ref 82, .int a1, .int a2, .int a3] (mT s) = some (some (.int (f_Books_correct a1 a2 a3 s).1), mT (f_Books_correct a1 a2 a3 s).2) := fun h => t_Books_correct (len := len) (xs := xs) d a1 a2 a3 s (fun t => (some (some (.int t.1), mT t.2) : Option mm_R) = some (some (.int (f_Books_correct a1 a2 a3 s).1), mT (f_Books_correct a1 a2 a3 s).2)) (fun _ h => h) h rfl
def f_G_right (a1 : Int32) (a2 : Int32) (a3 : Int32) (s : mS) : Int32 × mS := (if (f_Books_readingOf a1 a2 s) = (-1) then (0, s) else (if (f_G_within a3 (0 : Int32) (999999 : Int32) s) = 0 then (0, s) else ((f_Books_correct (f_Books_readingOf a1 a2 s) a3 (gI s 0 9) s).1, (f_Books_correct (f_Books_readingOf a1 a2 s) a3 (gI s 0 9) s).2)))
def ok_G_right (a1 : Int32) (a2 : Int32) (a3 : Int32) (s : mS) : Prop := (ok_Books_readingOf a1 a2 s ∧ (if (f_Books_readingOf a1 a2 s) = (-1) then True else (if (f_G_within a3 (0 : Int32) (999999 : Int32) s) = 0 then True else (ok_Books_correct (f_Books_readingOf a1 a2 s) a3 (gI s 0 9) s ∧ mm_bit ((f_Books_correct (f_Books_readingOf a1 a2 s) a3 (gI s 0 9) s).1) = true))))
theorem t_G_right {len : Nat} {xs : Nat → Int32} (d : Nat) (a1 : Int32) (a2 : Int32) (a3 : Int32) (s : mS) {T : Option mm_R} (K : Int32 × mS → Prop) (hK : ∀ t, K t → some (some (.int t.1), mT t.2) = T) : ok_G_right a1 a2 a3 s → K (f_G_right a1 a2 a3 s) → mm_fix (mm_X len xs) mm_Y (mm_call (mm_X len xs) mm_Y (d + 1)) (mm_look mc_G_right) (0, [some (.ref 0), some (.int a1), some (.int a2), some (.int a3), none], [], mT s) = T := by
  unfold ok_G_right f_G_right
  refine w_go K 4 (c' := (6, [some (.ref 0), some (.int a1), some (.int a2), some (.int a3), none], [.int a2, .int a1, .ref 82], mT s)) rfl ?_
  refine w_call K rfl (m_Books_readingOf (len := len) (xs := xs) (d + 0) a1 a2 s) ?_
  refine w_go K 3 (c' := (14, [some (.ref 0), some (.int a1), some (.int a2), some (.int a3), some (.int (f_Books_readingOf a1 a2 s))], [.int (-1), .int (f_Books_readingOf a1 a2 s)], mT s)) rfl ?_
  refine w_br K rfl (fun _ => ?_) (fun _ => ?_)
  · refine w_go K 1 (c' := (28, [some (.ref 0), some (.int a1), some (.int a2), some (.int a3), some (.int (f_Books_readingOf a1 a2 s))], [.int 0], mT s)) rfl ?_
    exact w_ret K rfl (hK _)
  · refine w_go K 3 (c' := (21, [some (.ref 0), some (.int a1), some (.int a2), some (.int a3), some (.int (f_Books_readingOf a1 a2 s))], [.int 999999, .int 0, .int a3], mT s)) rfl ?_
    refine w_callT K rfl (m_G_within (len := len) (xs := xs) (d + 0) a3 (0 : Int32) (999999 : Int32) s) ?_
    refine w_go K 0 (c' := (24, [some (.ref 0), some (.int a1), some (.int a2), some (.int a3), some (.int (f_Books_readingOf a1 a2 s))], [.int (f_G_within a3 (0 : Int32) (999999 : Int32) s)], mT s)) rfl ?_
    refine w_br K rfl (fun _ => ?_) (fun _ => ?_)
    · refine w_go K 1 (c' := (28, [some (.ref 0), some (.int a1), some (.int a2), some (.int a3), some (.int (f_Books_readingOf a1 a2 s))], [.int 0], mT s)) rfl ?_
      exact w_ret K rfl (hK _)
    · refine w_go K 6 (c' := (40, [some (.ref 0), some (.int a1), some (.int a2), some (.int a3), some (.int (f_Books_readingOf a1 a2 s))], [.int (gI s 0 9), .int a3, .int (f_Books_readingOf a1 a2 s), .ref 82], mT s)) rfl ?_
      refine w_call K rfl (m_Books_correct (len := len) (xs := xs) (d + 0) (f_Books_readingOf a1 a2 s) a3 (gI s 0 9) s) ?_
      refine w_go K 0 (c' := (43, [some (.ref 0), some (.int a1), some (.int a2), some (.int a3), some (.int (f_Books_readingOf a1 a2 s))], [.int ((f_Books_correct (f_Books_readingOf a1 a2 s) a3 (gI s 0 9) s).1)], mT ((f_Books_correct (f_Books_readingOf a1 a2 s) a3 (gI s 0 9) s).2))) rfl ?_
      exact w_retb K rfl (hK _)
theorem m_G_right {len : Nat} {xs : Nat → Int32} (d : Nat) (a1 : Int32) (a2 : Int32) (a3 : Int32) (s : mS) : ok_G_right a1 a2 a3 s → mm_call (mm_X len xs) mm_Y (d + 2) 72 [.ref 0, .int a1, .int a2, .int a3] (mT s) = some (some (.int (f_G_right a1 a2 a3 s).1), mT (f_G_right a1 a2 a3 s).2) := fun h => t_G_right (len := len) (xs := xs) d a1 a2 a3 s (fun t => (some (some (.int t.1), mT t.2) : Option mm_R) = some (some (.int (f_G_right a1 a2 a3 s).1), mT (f_G_right a1 a2 a3 s).2)) (fun _ h => h) h rfl
def f_G_sell (a1 : Int32) (a2 : Int32) (s : mS) : Int32 × mS := (if a1 < 1 then ((-1), s) else (if (f_G_within a2 (0 : Int32) (99 : Int32) s) = 0 then ((-1), s) else (if a1 ≤ (gI s 3 15) then (((gI s 3 15) - a1), sL (sI s 3 15 ((gI s 3 15) - a1)) 82 14 ((gL s 82 14) + ((Int32.toInt64 a1) * (Int32.toInt64 a2)))) else ((-1), s))))
theorem t_G_sell {len : Nat} {xs : Nat → Int32} (d : Nat) (a1 : Int32) (a2 : Int32) (s : mS) {T : Option mm_R} (K : Int32 × mS → Prop) (hK : ∀ t, K t → some (some (.int t.1), mT t.2) = T) : True → K (f_G_sell a1 a2 s) → mm_fix (mm_X len xs) mm_Y (mm_call (mm_X len xs) mm_Y (d + 1)) (mm_look mc_G_sell) (0, [some (.ref 0), some (.int a1), some (.int a2)], [], mT s) = T := by
  unfold f_G_sell
  refine w_go K 2 (c' := (2, [some (.ref 0), some (.int a1), some (.int a2)], [.int 1, .int a1], mT s)) rfl ?_
  refine w_brT K rfl (fun _ => ?_) (fun _ => ?_)
  · refine w_go K 1 (c' := (27, [some (.ref 0), some (.int a1), some (.int a2)], [.int (-1)], mT s)) rfl ?_
    exact w_ret K rfl (hK _)
  · refine w_go K 3 (c' := (9, [some (.ref 0), some (.int a1), some (.int a2)], [.int 99, .int 0, .int a2], mT s)) rfl ?_
    refine w_callT K rfl (m_G_within (len := len) (xs := xs) (d + 0) a2 (0 : Int32) (99 : Int32) s) ?_
    refine w_go K 0 (c' := (12, [some (.ref 0), some (.int a1), some (.int a2)], [.int (f_G_within a2 (0 : Int32) (99 : Int32) s)], mT s)) rfl ?_
    refine w_brT K rfl (fun _ => ?_) (fun _ => ?_)
    · refine w_go K 1 (c' := (27, [some (.ref 0), some (.int a1), some (.int a2)], [.int (-1)], mT s)) rfl ?_
      exact w_ret K rfl (hK _)
    · refine w_go K 4 (c' := (23, [some (.ref 0), some (.int a1), some (.int a2)], [.int (gI s 3 15), .int a1], mT s)) rfl ?_
      refine w_brT K rfl (fun _ => ?_) (fun _ => ?_)
      · refine w_go K 21 (c' := (65, [some (.ref 0), some (.int a1), some (.int a2)], [.int ((gI s 3 15) - a1)], mT (sL (sI s 3 15 ((gI s 3 15) - a1)) 82 14 ((gL s 82 14) + ((Int32.toInt64 a1) * (Int32.toInt64 a2)))))) rfl ?_
        exact w_ret K rfl (hK _)
      · refine w_go K 1 (c' := (27, [some (.ref 0), some (.int a1), some (.int a2)], [.int (-1)], mT s)) rfl ?_
        exact w_ret K rfl (hK _)
theorem m_G_sell {len : Nat} {xs : Nat → Int32} (d : Nat) (a1 : Int32) (a2 : Int32) (s : mS) : True → mm_call (mm_X len xs) mm_Y (d + 2) 79 [.ref 0, .int a1, .int a2] (mT s) = some (some (.int (f_G_sell a1 a2 s).1), mT (f_G_sell a1 a2 s).2) := fun h => t_G_sell (len := len) (xs := xs) d a1 a2 s (fun t => (some (some (.int t.1), mT t.2) : Option mm_R) = some (some (.int (f_G_sell a1 a2 s).1), mT (f_G_sell a1 a2 s).2)) (fun _ h => h) h rfl
def lp_Laws_store_3 (a1 : Int32)  : Nat → Int32 → mS → Int32 × mS
  | 0, v2, s => (v2, s)
  | n + 1, v2, s => (if v2 < 0 then (v2, s) else (if (600 : Int32) ≤ (gI s 36 5) then (lp_Laws_store_3 a1 n (v2 + (-8)) s) else (lp_Laws_store_3 a1 n (v2 + (-8)) (sI (sI s 36 5 ((gI s 36 5) + 1)) 37 (ix (gI s 36 5)) ((Int32.toUInt32 a1 >>> (Int32.toUInt32 v2 &&& Int32.toUInt32 31)).toInt32 &&& 255)))))
def okl_Laws_store_3 (a1 : Int32)  : Nat → Int32 → mS → Prop
  | 0, v2, s => False
  | n + 1, v2, s => (if v2 < 0 then True else (if (600 : Int32) ≤ (gI s 36 5) then (okl_Laws_store_3 a1 n (v2 + (-8)) s) else (mm_inb (gI s 36 5) 600 = true ∧ (okl_Laws_store_3 a1 n (v2 + (-8)) (sI (sI s 36 5 ((gI s 36 5) + 1)) 37 (ix (gI s 36 5)) ((Int32.toUInt32 a1 >>> (Int32.toUInt32 v2 &&& Int32.toUInt32 31)).toInt32 &&& 255))))))
theorem tl_Laws_store_3 {len : Nat} {xs : Nat → Int32} (d : Nat) (a1 : Int32)  {T : Option mm_R} (K : Int32 × mS → Prop) (hX : ∀ r, K r → mm_fix (mm_X len xs) mm_Y (mm_call (mm_X len xs) mm_Y (d + 0)) (mm_look mc_Laws_store) (46, [some (.ref 36), some (.int a1), some (.int r.1)], [], mT r.2) = T) : ∀ (n : Nat), ∀ (v2 : Int32) (s : mS), okl_Laws_store_3 a1 n v2 s → K (lp_Laws_store_3 a1 n v2 s) → mm_fix (mm_X len xs) mm_Y (mm_call (mm_X len xs) mm_Y (d + 0)) (mm_look mc_Laws_store) (3, [some (.ref 36), some (.int a1), some (.int v2)], [], mT s) = T := by
  intro n
  induction n with
  | zero => intro v2 s; exact fun h => h.elim
  | succ n ih =>
    intro v2 s
    rw [okl_Laws_store_3, lp_Laws_store_3]
    refine w_go K 1 (c' := (4, [some (.ref 36), some (.int a1), some (.int v2)], [.int v2], mT s)) rfl ?_
    refine w_br K rfl (fun _ => ?_) (fun _ => ?_)
    · refine w_go K 0 (c' := (46, [some (.ref 36), some (.int a1), some (.int v2)], [], mT s)) rfl ?_
      exact fun _ b => hX _ b
    · refine w_go K 3 (c' := (14, [some (.ref 36), some (.int a1), some (.int v2)], [.int 600, .int (gI s 36 5)], mT s)) rfl ?_
      refine w_br K rfl (fun _ => ?_) (fun _ => ?_)
      · refine w_go K 2 (c' := (3, [some (.ref 36), some (.int a1), some (.int (v2 + (-8)))], [], mT s)) rfl ?_
        exact fun a b => ih (v2 + (-8)) s a b
      · refine w_go K 14 (c' := (39, [some (.ref 36), some (.int a1), some (.int v2)], [.int ((Int32.toUInt32 a1 >>> (Int32.toUInt32 v2 &&& Int32.toUInt32 31)).toInt32 &&& 255), .int (gI s 36 5), .ref 37], mT (sI s 36 5 ((gI s 36 5) + 1)))) rfl ?_
        refine w_ck K rfl ?_
        refine w_go K 2 (c' := (3, [some (.ref 36), some (.int a1), some (.int (v2 + (-8)))], [], mT (sI (sI s 36 5 ((gI s 36 5) + 1)) 37 (ix (gI s 36 5)) ((Int32.toUInt32 a1 >>> (Int32.toUInt32 v2 &&& Int32.toUInt32 31)).toInt32 &&& 255)))) rfl ?_
        exact fun a b => ih (v2 + (-8)) (sI (sI s 36 5 ((gI s 36 5) + 1)) 37 (ix (gI s 36 5)) ((Int32.toUInt32 a1 >>> (Int32.toUInt32 v2 &&& Int32.toUInt32 31)).toInt32 &&& 255)) a b
def f_Laws_store (a1 : Int32) (s : mS) : mS := (lp_Laws_store_3 a1 mm_N (24 : Int32) s).2
def ok_Laws_store (a1 : Int32) (s : mS) : Prop := (okl_Laws_store_3 a1 mm_N (24 : Int32) s ∧ True)
theorem t_Laws_store {len : Nat} {xs : Nat → Int32} (d : Nat) (a1 : Int32) (s : mS) {T : Option mm_R} (K : mS → Prop) (hK : ∀ t, K t → some (none, mT t) = T) : ok_Laws_store a1 s → K (f_Laws_store a1 s) → mm_fix (mm_X len xs) mm_Y (mm_call (mm_X len xs) mm_Y (d + 0)) (mm_look mc_Laws_store) (0, [some (.ref 36), some (.int a1), none], [], mT s) = T := by
  unfold ok_Laws_store f_Laws_store
  refine w_go K 2 (c' := (3, [some (.ref 36), some (.int a1), some (.int 24)], [], mT s)) rfl ?_
  refine w_loop K (D := mm_fix (mm_X len xs) mm_Y (mm_call (mm_X len xs) mm_Y (d + 0)) (mm_look mc_Laws_store) (46, [some (.ref 36), some (.int a1), some (.int ((lp_Laws_store_3 a1 mm_N (24 : Int32) s).1))], [], mT ((lp_Laws_store_3 a1 mm_N (24 : Int32) s).2)) = T) (fun h1 h2 => tl_Laws_store_3 (len := len) (xs := xs) d a1 (T := T) (K := fun r => r = lp_Laws_store_3 a1 mm_N (24 : Int32) s) (fun r hr => by subst hr; exact h2) mm_N (24 : Int32) s h1 rfl) (fun h1 h2 => ?_)
  revert h1 h2
  refine w_go K 0 (c' := (46, [some (.ref 36), some (.int a1), some (.int ((lp_Laws_store_3 a1 mm_N (24 : Int32) s).1))], [], mT ((lp_Laws_store_3 a1 mm_N (24 : Int32) s).2))) rfl ?_
  exact w_ret K rfl (hK _)
theorem m_Laws_store {len : Nat} {xs : Nat → Int32} (d : Nat) (a1 : Int32) (s : mS) : ok_Laws_store a1 s → mm_call (mm_X len xs) mm_Y (d + 1) 81 [.ref 36, .int a1] (mT s) = some (none, mT (f_Laws_store a1 s)) := fun h => t_Laws_store (len := len) (xs := xs) d a1 s (fun t => (some (none, mT t) : Option mm_R) = some (none, mT (f_Laws_store a1 s))) (fun _ h => h) h rfl
def f_G_feed (a1 : Int32) (a2 : Int32) (a3 : Int32) (a4 : Int32) (a5 : Int32) (s : mS) : Int32 × mS := (if ((gI s 36 5) + 20) ≤ 600 then ((gI (f_Laws_store a5 (f_Laws_store a4 (f_Laws_store a3 (f_Laws_store a2 (f_Laws_store a1 s))))) 36 5), f_Laws_store a5 (f_Laws_store a4 (f_Laws_store a3 (f_Laws_store a2 (f_Laws_store a1 s))))) else ((-1), s))
def ok_G_feed (a1 : Int32) (a2 : Int32) (a3 : Int32) (a4 : Int32) (a5 : Int32) (s : mS) : Prop := (if ((gI s 36 5) + 20) ≤ 600 then (ok_Laws_store a1 s ∧ (ok_Laws_store a2 (f_Laws_store a1 s) ∧ (ok_Laws_store a3 (f_Laws_store a2 (f_Laws_store a1 s)) ∧ (ok_Laws_store a4 (f_Laws_store a3 (f_Laws_store a2 (f_Laws_store a1 s))) ∧ (ok_Laws_store a5 (f_Laws_store a4 (f_Laws_store a3 (f_Laws_store a2 (f_Laws_store a1 s)))) ∧ True))))) else True)
theorem t_G_feed {len : Nat} {xs : Nat → Int32} (d : Nat) (a1 : Int32) (a2 : Int32) (a3 : Int32) (a4 : Int32) (a5 : Int32) (s : mS) {T : Option mm_R} (K : Int32 × mS → Prop) (hK : ∀ t, K t → some (some (.int t.1), mT t.2) = T) : ok_G_feed a1 a2 a3 a4 a5 s → K (f_G_feed a1 a2 a3 a4 a5 s) → mm_fix (mm_X len xs) mm_Y (mm_call (mm_X len xs) mm_Y (d + 1)) (mm_look mc_G_feed) (0, [some (.ref 0), some (.int a1), some (.int a2), some (.int a3), some (.int a4), some (.int a5)], [], mT s) = T := by
  unfold ok_G_feed f_G_feed
  refine w_go K 6 (c' := (13, [some (.ref 0), some (.int a1), some (.int a2), some (.int a3), some (.int a4), some (.int a5)], [.int 600, .int ((gI s 36 5) + 20)], mT s)) rfl ?_
  refine w_br K rfl (fun _ => ?_) (fun _ => ?_)
  · refine w_go K 3 (c' := (23, [some (.ref 0), some (.int a1), some (.int a2), some (.int a3), some (.int a4), some (.int a5)], [.int a1, .ref 36], mT s)) rfl ?_
    refine w_call K rfl (m_Laws_store (len := len) (xs := xs) (d + 0) a1 s) ?_
    refine w_go K 3 (c' := (31, [some (.ref 0), some (.int a1), some (.int a2), some (.int a3), some (.int a4), some (.int a5)], [.int a2, .ref 36], mT (f_Laws_store a1 s))) rfl ?_
    refine w_call K rfl (m_Laws_store (len := len) (xs := xs) (d + 0) a2 (f_Laws_store a1 s)) ?_
    refine w_go K 3 (c' := (39, [some (.ref 0), some (.int a1), some (.int a2), some (.int a3), some (.int a4), some (.int a5)], [.int a3, .ref 36], mT (f_Laws_store a2 (f_Laws_store a1 s)))) rfl ?_
    refine w_call K rfl (m_Laws_store (len := len) (xs := xs) (d + 0) a3 (f_Laws_store a2 (f_Laws_store a1 s))) ?_
    refine w_go K 3 (c' := (48, [some (.ref 0), some (.int a1), some (.int a2), some (.int a3), some (.int a4), some (.int a5)], [.int a4, .ref 36], mT (f_Laws_store a3 (f_Laws_store a2 (f_Laws_store a1 s))))) rfl ?_
    refine w_call K rfl (m_Laws_store (len := len) (xs := xs) (d + 0) a4 (f_Laws_store a3 (f_Laws_store a2 (f_Laws_store a1 s)))) ?_
    refine w_go K 3 (c' := (57, [some (.ref 0), some (.int a1), some (.int a2), some (.int a3), some (.int a4), some (.int a5)], [.int a5, .ref 36], mT (f_Laws_store a4 (f_Laws_store a3 (f_Laws_store a2 (f_Laws_store a1 s)))))) rfl ?_
    refine w_call K rfl (m_Laws_store (len := len) (xs := xs) (d + 0) a5 (f_Laws_store a4 (f_Laws_store a3 (f_Laws_store a2 (f_Laws_store a1 s))))) ?_
    refine w_go K 3 (c' := (67, [some (.ref 0), some (.int a1), some (.int a2), some (.int a3), some (.int a4), some (.int a5)], [.int (gI (f_Laws_store a5 (f_Laws_store a4 (f_Laws_store a3 (f_Laws_store a2 (f_Laws_store a1 s))))) 36 5)], mT (f_Laws_store a5 (f_Laws_store a4 (f_Laws_store a3 (f_Laws_store a2 (f_Laws_store a1 s))))))) rfl ?_
    exact w_ret K rfl (hK _)
  · refine w_go K 1 (c' := (17, [some (.ref 0), some (.int a1), some (.int a2), some (.int a3), some (.int a4), some (.int a5)], [.int (-1)], mT s)) rfl ?_
    exact w_ret K rfl (hK _)
theorem m_G_feed {len : Nat} {xs : Nat → Int32} (d : Nat) (a1 : Int32) (a2 : Int32) (a3 : Int32) (a4 : Int32) (a5 : Int32) (s : mS) : ok_G_feed a1 a2 a3 a4 a5 s → mm_call (mm_X len xs) mm_Y (d + 2) 80 [.ref 0, .int a1, .int a2, .int a3, .int a4, .int a5] (mT s) = some (some (.int (f_G_feed a1 a2 a3 a4 a5 s).1), mT (f_G_feed a1 a2 a3 a4 a5 s).2) := fun h => t_G_feed (len := len) (xs := xs) d a1 a2 a3 a4 a5 s (fun t => (some (some (.int t.1), mT t.2) : Option mm_R) = some (some (.int (f_G_feed a1 a2 a3 a4 a5 s).1), mT (f_G_feed a1 a2 a3 a4 a5 s).2)) (fun _ h => h) h rfl
def f_G_end (a1 : Int32) (s : mS) : Int32 × mS := (if (f_G_within a1 (0 : Int32) (gI s 36 5) s) = 0 then (0, s) else (1, sI s 36 5 a1))
theorem t_G_end {len : Nat} {xs : Nat → Int32} (d : Nat) (a1 : Int32) (s : mS) {T : Option mm_R} (K : Int32 × mS → Prop) (hK : ∀ t, K t → some (some (.int t.1), mT t.2) = T) : True → K (f_G_end a1 s) → mm_fix (mm_X len xs) mm_Y (mm_call (mm_X len xs) mm_Y (d + 1)) (mm_look mc_G_end) (0, [some (.ref 0), some (.int a1)], [], mT s) = T := by
  unfold f_G_end
  refine w_go K 5 (c' := (9, [some (.ref 0), some (.int a1)], [.int (gI s 36 5), .int 0, .int a1], mT s)) rfl ?_
  refine w_callT K rfl (m_G_within (len := len) (xs := xs) (d + 0) a1 (0 : Int32) (gI s 36 5) s) ?_
  refine w_go K 0 (c' := (12, [some (.ref 0), some (.int a1)], [.int (f_G_within a1 (0 : Int32) (gI s 36 5) s)], mT s)) rfl ?_
  refine w_brT K rfl (fun _ => ?_) (fun _ => ?_)
  · refine w_go K 1 (c' := (16, [some (.ref 0), some (.int a1)], [.int 0], mT s)) rfl ?_
    exact w_ret K rfl (hK _)
  · refine w_go K 5 (c' := (26, [some (.ref 0), some (.int a1)], [.int 1], mT (sI s 36 5 a1))) rfl ?_
    exact w_ret K rfl (hK _)
theorem m_G_end {len : Nat} {xs : Nat → Int32} (d : Nat) (a1 : Int32) (s : mS) : True → mm_call (mm_X len xs) mm_Y (d + 2) 82 [.ref 0, .int a1] (mT s) = some (some (.int (f_G_end a1 s).1), mT (f_G_end a1 s).2) := fun h => t_G_end (len := len) (xs := xs) d a1 s (fun t => (some (some (.int t.1), mT t.2) : Option mm_R) = some (some (.int (f_G_end a1 s).1), mT (f_G_end a1 s).2)) (fun _ h => h) h rfl
def f_Sky_dayOf (a0 : Int32) (s : mS) : Int32 := (a0 / 96)
theorem t_Sky_dayOf {len : Nat} {xs : Nat → Int32} (d : Nat) (a0 : Int32) (s : mS) {T : Option mm_R} (K : Int32 → Prop) (hK : ∀ t, K t → some (some (.int t), mT s) = T) : True → K (f_Sky_dayOf a0 s) → mm_fix (mm_X len xs) mm_Y (mm_call (mm_X len xs) mm_Y (d + 0)) (mm_look mc_Sky_dayOf) (0, [some (.int a0)], [], mT s) = T := by
  unfold f_Sky_dayOf
  refine w_go K 3 (c' := (4, [some (.int a0)], [.int (a0 / 96)], mT s)) rfl ?_
  exact w_ret K rfl (hK _)
theorem m_Sky_dayOf {len : Nat} {xs : Nat → Int32} (d : Nat) (a0 : Int32) (s : mS) : True → mm_call (mm_X len xs) mm_Y (d + 1) 47 [.int a0] (mT s) = some (some (.int (f_Sky_dayOf a0 s)), mT s) := fun h => t_Sky_dayOf (len := len) (xs := xs) d a0 s (fun t => (some (some (.int t), mT s) : Option mm_R) = some (some (.int (f_Sky_dayOf a0 s)), mT s)) (fun _ h => h) h rfl
def f_Sky_hourOf (a0 : Int32) (s : mS) : Int32 := ((a0 / 4) - (24 * (f_Sky_dayOf a0 s)))
theorem t_Sky_hourOf {len : Nat} {xs : Nat → Int32} (d : Nat) (a0 : Int32) (s : mS) {T : Option mm_R} (K : Int32 → Prop) (hK : ∀ t, K t → some (some (.int t), mT s) = T) : True → K (f_Sky_hourOf a0 s) → mm_fix (mm_X len xs) mm_Y (mm_call (mm_X len xs) mm_Y (d + 1)) (mm_look mc_Sky_hourOf) (0, [some (.int a0)], [], mT s) = T := by
  unfold f_Sky_hourOf
  refine w_go K 5 (c' := (6, [some (.int a0)], [.int a0, .int 24, .int (a0 / 4)], mT s)) rfl ?_
  refine w_callT K rfl (m_Sky_dayOf (len := len) (xs := xs) (d + 0) a0 s) ?_
  refine w_go K 2 (c' := (11, [some (.int a0)], [.int ((a0 / 4) - (24 * (f_Sky_dayOf a0 s)))], mT s)) rfl ?_
  exact w_ret K rfl (hK _)
theorem m_Sky_hourOf {len : Nat} {xs : Nat → Int32} (d : Nat) (a0 : Int32) (s : mS) : True → mm_call (mm_X len xs) mm_Y (d + 2) 46 [.int a0] (mT s) = some (some (.int (f_Sky_hourOf a0 s)), mT s) := fun h => t_Sky_hourOf (len := len) (xs := xs) d a0 s (fun t => (some (some (.int t), mT s) : Option mm_R) = some (some (.int (f_Sky_hourOf a0 s)), mT s)) (fun _ h => h) h rfl
def f_Sky_hourlyWant (a0 : Int32) (a1 : Int32) (s : mS) : Int32 := (if (6 : Int32) ≤ a0 then (if (10 : Int32) ≤ a0 then (if a0 < 16 then (a1 / 2) else (if a0 = 23 then (a1 / 2) else (a1 * 2))) else a1) else (a1 / 4))
theorem t_Sky_hourlyWant {len : Nat} {xs : Nat → Int32} (d : Nat) (a0 : Int32) (a1 : Int32) (s : mS) {T : Option mm_R} (K : Int32 → Prop) (hK : ∀ t, K t → some (some (.int t), mT s) = T) : True → K (f_Sky_hourlyWant a0 a1 s) → mm_fix (mm_X len xs) mm_Y (mm_call (mm_X len xs) mm_Y (d + 0)) (mm_look mc_Sky_hourlyWant) (0, [some (.int a0), some (.int a1)], [], mT s) = T := by
  unfold f_Sky_hourlyWant
  refine w_go K 2 (c' := (3, [some (.int a0), some (.int a1)], [.int 6, .int a0], mT s)) rfl ?_
  refine w_brT K rfl (fun _ => ?_) (fun _ => ?_)
  · refine w_go K 2 (c' := (13, [some (.int a0), some (.int a1)], [.int 10, .int a0], mT s)) rfl ?_
    refine w_brT K rfl (fun _ => ?_) (fun _ => ?_)
    · refine w_go K 2 (c' := (21, [some (.int a0), some (.int a1)], [.int 16, .int a0], mT s)) rfl ?_
      refine w_brT K rfl (fun _ => ?_) (fun _ => ?_)
      · refine w_go K 4 (c' := (39, [some (.int a0), some (.int a1)], [.int (a1 / 2)], mT s)) rfl ?_
        exact w_ret K rfl (hK _)
      · refine w_go K 2 (c' := (27, [some (.int a0), some (.int a1)], [.int 23, .int a0], mT s)) rfl ?_
        refine w_brT K rfl (fun _ => ?_) (fun _ => ?_)
        · refine w_go K 4 (c' := (39, [some (.int a0), some (.int a1)], [.int (a1 / 2)], mT s)) rfl ?_
          exact w_ret K rfl (hK _)
        · refine w_go K 3 (c' := (39, [some (.int a0), some (.int a1)], [.int (a1 * 2)], mT s)) rfl ?_
          exact w_ret K rfl (hK _)
    · refine w_go K 1 (c' := (17, [some (.int a0), some (.int a1)], [.int a1], mT s)) rfl ?_
      exact w_ret K rfl (hK _)
  · refine w_go K 3 (c' := (9, [some (.int a0), some (.int a1)], [.int (a1 / 4)], mT s)) rfl ?_
    exact w_ret K rfl (hK _)
theorem m_Sky_hourlyWant {len : Nat} {xs : Nat → Int32} (d : Nat) (a0 : Int32) (a1 : Int32) (s : mS) : True → mm_call (mm_X len xs) mm_Y (d + 1) 48 [.int a0, .int a1] (mT s) = some (some (.int (f_Sky_hourlyWant a0 a1 s)), mT s) := fun h => t_Sky_hourlyWant (len := len) (xs := xs) d a0 a1 s (fun t => (some (some (.int t), mT s) : Option mm_R) = some (some (.int (f_Sky_hourlyWant a0 a1 s)), mT s)) (fun _ h => h) h rfl
def f_Sky_fogIn (a1 : Int32) (s : mS) : Int32 := (if (f_Sky_dayOf a1 s) < 0 then 0 else (if (42 : Int32) ≤ (f_Sky_dayOf a1 s) then 0 else (gI s 2 (ix (f_Sky_dayOf a1 s)))))
def ok_Sky_fogIn (a1 : Int32) (s : mS) : Prop := (if (f_Sky_dayOf a1 s) < 0 then True else (if (42 : Int32) ≤ (f_Sky_dayOf a1 s) then True else (mm_inb (f_Sky_dayOf a1 s) 42 = true ∧ True)))
theorem t_Sky_fogIn {len : Nat} {xs : Nat → Int32} (d : Nat) (a1 : Int32) (s : mS) {T : Option mm_R} (K : Int32 → Prop) (hK : ∀ t, K t → some (some (.int t), mT s) = T) : ok_Sky_fogIn a1 s → K (f_Sky_fogIn a1 s) → mm_fix (mm_X len xs) mm_Y (mm_call (mm_X len xs) mm_Y (d + 1)) (mm_look mc_Sky_fogIn) (0, [some (.ref 1), some (.int a1), none], [], mT s) = T := by
  unfold ok_Sky_fogIn f_Sky_fogIn
  refine w_go K 1 (c' := (1, [some (.ref 1), some (.int a1), none], [.int a1], mT s)) rfl ?_
  refine w_callT K rfl (m_Sky_dayOf (len := len) (xs := xs) (d + 0) a1 s) ?_
  refine w_go K 2 (c' := (6, [some (.ref 1), some (.int a1), some (.int (f_Sky_dayOf a1 s))], [.int (f_Sky_dayOf a1 s)], mT s)) rfl ?_
  refine w_br K rfl (fun _ => ?_) (fun _ => ?_)
  · refine w_go K 1 (c' := (28, [some (.ref 1), some (.int a1), some (.int (f_Sky_dayOf a1 s))], [.int 0], mT s)) rfl ?_
    exact w_ret K rfl (hK _)
  · refine w_go K 4 (c' := (15, [some (.ref 1), some (.int a1), some (.int (f_Sky_dayOf a1 s))], [.int 42, .int (f_Sky_dayOf a1 s)], mT s)) rfl ?_
    refine w_br K rfl (fun _ => ?_) (fun _ => ?_)
    · refine w_go K 1 (c' := (28, [some (.ref 1), some (.int a1), some (.int (f_Sky_dayOf a1 s))], [.int 0], mT s)) rfl ?_
      exact w_ret K rfl (hK _)
    · refine w_go K 3 (c' := (23, [some (.ref 1), some (.int a1), some (.int (f_Sky_dayOf a1 s))], [.int (f_Sky_dayOf a1 s), .ref 2], mT s)) rfl ?_
      refine w_ck K rfl ?_
      refine w_go K 1 (c' := (28, [some (.ref 1), some (.int a1), some (.int (f_Sky_dayOf a1 s))], [.int (gI s 2 (ix (f_Sky_dayOf a1 s)))], mT s)) rfl ?_
      exact w_ret K rfl (hK _)
theorem m_Sky_fogIn {len : Nat} {xs : Nat → Int32} (d : Nat) (a1 : Int32) (s : mS) : ok_Sky_fogIn a1 s → mm_call (mm_X len xs) mm_Y (d + 2) 49 [.ref 1, .int a1] (mT s) = some (some (.int (f_Sky_fogIn a1 s)), mT s) := fun h => t_Sky_fogIn (len := len) (xs := xs) d a1 s (fun t => (some (some (.int t), mT s) : Option mm_R) = some (some (.int (f_Sky_fogIn a1 s)), mT s)) (fun _ h => h) h rfl
def f_Sky_houseWant (a1 : Int32) (a2 : Int32) (s : mS) : Int32 := (((f_Sky_hourlyWant (f_Sky_hourOf a1 s) a2 s) * (2 + (f_Sky_fogIn a1 s))) / 2)
def ok_Sky_houseWant (a1 : Int32) (a2 : Int32) (s : mS) : Prop := (ok_Sky_fogIn a1 s ∧ True)
theorem t_Sky_houseWant {len : Nat} {xs : Nat → Int32} (d : Nat) (a1 : Int32) (a2 : Int32) (s : mS) {T : Option mm_R} (K : Int32 → Prop) (hK : ∀ t, K t → some (some (.int t), mT s) = T) : ok_Sky_houseWant a1 a2 s → K (f_Sky_houseWant a1 a2 s) → mm_fix (mm_X len xs) mm_Y (mm_call (mm_X len xs) mm_Y (d + 2)) (mm_look mc_Sky_houseWant) (0, [some (.ref 1), some (.int a1), some (.int a2)], [], mT s) = T := by
  unfold ok_Sky_houseWant f_Sky_houseWant
  refine w_go K 1 (c' := (1, [some (.ref 1), some (.int a1), some (.int a2)], [.int a1], mT s)) rfl ?_
  refine w_callT K rfl (m_Sky_hourOf (len := len) (xs := xs) (d + 0) a1 s) ?_
  refine w_go K 1 (c' := (5, [some (.ref 1), some (.int a1), some (.int a2)], [.int a2, .int (f_Sky_hourOf a1 s)], mT s)) rfl ?_
  refine w_callT K rfl (m_Sky_hourlyWant (len := len) (xs := xs) (d + 1) (f_Sky_hourOf a1 s) a2 s) ?_
  refine w_go K 3 (c' := (11, [some (.ref 1), some (.int a1), some (.int a2)], [.int a1, .ref 1, .int 2, .int (f_Sky_hourlyWant (f_Sky_hourOf a1 s) a2 s)], mT s)) rfl ?_
  refine w_call K rfl (m_Sky_fogIn (len := len) (xs := xs) (d + 0) a1 s) ?_
  refine w_go K 4 (c' := (18, [some (.ref 1), some (.int a1), some (.int a2)], [.int (((f_Sky_hourlyWant (f_Sky_hourOf a1 s) a2 s) * (2 + (f_Sky_fogIn a1 s))) / 2)], mT s)) rfl ?_
  exact w_ret K rfl (hK _)
theorem m_Sky_houseWant {len : Nat} {xs : Nat → Int32} (d : Nat) (a1 : Int32) (a2 : Int32) (s : mS) : ok_Sky_houseWant a1 a2 s → mm_call (mm_X len xs) mm_Y (d + 3) 45 [.ref 1, .int a1, .int a2] (mT s) = some (some (.int (f_Sky_houseWant a1 a2 s)), mT s) := fun h => t_Sky_houseWant (len := len) (xs := xs) d a1 a2 s (fun t => (some (some (.int t), mT s) : Option mm_R) = some (some (.int (f_Sky_houseWant a1 a2 s)), mT s)) (fun _ h => h) h rfl
def f_Sky_lampBurns (a1 : Int32) (a2 : Int32) (s : mS) : Int32 := (if ((gI s 1 1) + a2) ≤ (a1 - (96 * (f_Sky_dayOf a1 s))) then 1 else (if (a1 - (96 * (f_Sky_dayOf a1 s))) < ((gI s 1 2) + a2) then 1 else (if (f_Sky_fogIn a1 s) < 2 then 0 else 1)))
def ok_Sky_lampBurns (a1 : Int32) (a2 : Int32) (s : mS) : Prop := (if ((gI s 1 1) + a2) ≤ (a1 - (96 * (f_Sky_dayOf a1 s))) then True else (if (a1 - (96 * (f_Sky_dayOf a1 s))) < ((gI s 1 2) + a2) then True else (ok_Sky_fogIn a1 s ∧ True)))
theorem t_Sky_lampBurns {len : Nat} {xs : Nat → Int32} (d : Nat) (a1 : Int32) (a2 : Int32) (s : mS) {T : Option mm_R} (K : Int32 → Prop) (hK : ∀ t, K t → some (some (.int t), mT s) = T) : ok_Sky_lampBurns a1 a2 s → K (f_Sky_lampBurns a1 a2 s) → mm_fix (mm_X len xs) mm_Y (mm_call (mm_X len xs) mm_Y (d + 2)) (mm_look mc_Sky_lampBurns) (0, [some (.ref 1), some (.int a1), some (.int a2), none], [], mT s) = T := by
  unfold ok_Sky_lampBurns f_Sky_lampBurns
  refine w_go K 3 (c' := (4, [some (.ref 1), some (.int a1), some (.int a2), none], [.int a1, .int 96, .int a1], mT s)) rfl ?_
  refine w_callT K rfl (m_Sky_dayOf (len := len) (xs := xs) (d + 1) a1 s) ?_
  refine w_go K 8 (c' := (17, [some (.ref 1), some (.int a1), some (.int a2), some (.int (a1 - (96 * (f_Sky_dayOf a1 s))))], [.int ((gI s 1 1) + a2), .int (a1 - (96 * (f_Sky_dayOf a1 s)))], mT s)) rfl ?_
  refine w_br K rfl (fun _ => ?_) (fun _ => ?_)
  · refine w_go K 2 (c' := (44, [some (.ref 1), some (.int a1), some (.int a2), some (.int (a1 - (96 * (f_Sky_dayOf a1 s))))], [.int 1], mT s)) rfl ?_
    exact w_ret K rfl (hK _)
  · refine w_go K 5 (c' := (27, [some (.ref 1), some (.int a1), some (.int a2), some (.int (a1 - (96 * (f_Sky_dayOf a1 s))))], [.int ((gI s 1 2) + a2), .int (a1 - (96 * (f_Sky_dayOf a1 s)))], mT s)) rfl ?_
    refine w_br K rfl (fun _ => ?_) (fun _ => ?_)
    · refine w_go K 2 (c' := (44, [some (.ref 1), some (.int a1), some (.int a2), some (.int (a1 - (96 * (f_Sky_dayOf a1 s))))], [.int 1], mT s)) rfl ?_
      exact w_ret K rfl (hK _)
    · refine w_go K 2 (c' := (32, [some (.ref 1), some (.int a1), some (.int a2), some (.int (a1 - (96 * (f_Sky_dayOf a1 s))))], [.int a1, .ref 1], mT s)) rfl ?_
      refine w_call K rfl (m_Sky_fogIn (len := len) (xs := xs) (d + 0) a1 s) ?_
      refine w_go K 1 (c' := (36, [some (.ref 1), some (.int a1), some (.int a2), some (.int (a1 - (96 * (f_Sky_dayOf a1 s))))], [.int 2, .int (f_Sky_fogIn a1 s)], mT s)) rfl ?_
      refine w_brT K rfl (fun _ => ?_) (fun _ => ?_)
      · refine w_go K 1 (c' := (44, [some (.ref 1), some (.int a1), some (.int a2), some (.int (a1 - (96 * (f_Sky_dayOf a1 s))))], [.int 0], mT s)) rfl ?_
        exact w_ret K rfl (hK _)
      · refine w_go K 2 (c' := (44, [some (.ref 1), some (.int a1), some (.int a2), some (.int (a1 - (96 * (f_Sky_dayOf a1 s))))], [.int 1], mT s)) rfl ?_
        exact w_ret K rfl (hK _)
theorem m_Sky_lampBurns {len : Nat} {xs : Nat → Int32} (d : Nat) (a1 : Int32) (a2 : Int32) (s : mS) : ok_Sky_lampBurns a1 a2 s → mm_call (mm_X len xs) mm_Y (d + 3) 50 [.ref 1, .int a1, .int a2] (mT s) = some (some (.int (f_Sky_lampBurns a1 a2 s)), mT s) := fun h => t_Sky_lampBurns (len := len) (xs := xs) d a1 a2 s (fun t => (some (some (.int t), mT s) : Option mm_R) = some (some (.int (f_Sky_lampBurns a1 a2 s)), mT s)) (fun _ h => h) h rfl
def f_Things_wantOf (a1 : Int32) (a2 : Int32) (s : mS) : Int32 := (if (f_Things_has a1 s) = 0 then 0 else (if (gI s 17 (ix a1)) = 0 then (if (gI s 14 (ix a1)) = 0 then (f_Sky_houseWant a2 (gI s 15 (ix a1)) s) else (if (gI s 14 (ix a1)) = 1 then (if (f_Sky_lampBurns a2 (gI s 16 (ix a1)) s) = 0 then 0 else (gI s 15 (ix a1))) else (if (gI s 14 (ix a1)) = 2 then (if (gI s 19 (ix a1)) < (f_Sky_houseWant a2 (gI s 15 (ix a1)) s) then (gI s 19 (ix a1)) else (f_Sky_houseWant a2 (gI s 15 (ix a1)) s)) else (gI s 15 (ix a1))))) else 0))
def ok_Things_wantOf (a1 : Int32) (a2 : Int32) (s : mS) : Prop := (if (f_Things_has a1 s) = 0 then True else (mm_inb a1 40 = true ∧ (if (gI s 17 (ix a1)) = 0 then (mm_inb a1 40 = true ∧ (if (gI s 14 (ix a1)) = 0 then (mm_inb a1 40 = true ∧ (ok_Sky_houseWant a2 (gI s 15 (ix a1)) s ∧ True)) else (if (gI s 14 (ix a1)) = 1 then (mm_inb a1 40 = true ∧ (ok_Sky_lampBurns a2 (gI s 16 (ix a1)) s ∧ (if (f_Sky_lampBurns a2 (gI s 16 (ix a1)) s) = 0 then True else (mm_inb a1 40 = true ∧ True)))) else (if (gI s 14 (ix a1)) = 2 then (mm_inb a1 40 = true ∧ (ok_Sky_houseWant a2 (gI s 15 (ix a1)) s ∧ (mm_inb a1 40 = true ∧ True))) else (mm_inb a1 40 = true ∧ True))))) else True)))
theorem t_Things_wantOf {len : Nat} {xs : Nat → Int32} (d : Nat) (a1 : Int32) (a2 : Int32) (s : mS) {T : Option mm_R} (K : Int32 → Prop) (hK : ∀ t, K t → some (some (.int t), mT s) = T) : ok_Things_wantOf a1 a2 s → K (f_Things_wantOf a1 a2 s) → mm_fix (mm_X len xs) mm_Y (mm_call (mm_X len xs) mm_Y (d + 3)) (mm_look mc_Things_wantOf) (0, [some (.ref 12), some (.int a1), some (.int a2), some (.ref 1)], [], mT s) = T := by
  unfold ok_Things_wantOf f_Things_wantOf
  refine w_go K 2 (c' := (2, [some (.ref 12), some (.int a1), some (.int a2), some (.ref 1)], [.int a1, .ref 12], mT s)) rfl ?_
  refine w_callT K rfl (m_Things_has (len := len) (xs := xs) (d + 2) a1 s) ?_
  refine w_go K 0 (c' := (5, [some (.ref 12), some (.int a1), some (.int a2), some (.ref 1)], [.int (f_Things_has a1 s)], mT s)) rfl ?_
  refine w_br K rfl (fun _ => ?_) (fun _ => ?_)
  · refine w_go K 1 (c' := (18, [some (.ref 12), some (.int a1), some (.int a2), some (.ref 1)], [.int 0], mT s)) rfl ?_
    exact w_ret K rfl (hK _)
  · refine w_go K 3 (c' := (13, [some (.ref 12), some (.int a1), some (.int a2), some (.ref 1)], [.int a1, .ref 17], mT s)) rfl ?_
    refine w_ck K rfl ?_
    refine w_go K 0 (c' := (14, [some (.ref 12), some (.int a1), some (.int a2), some (.ref 1)], [.int (gI s 17 (ix a1))], mT s)) rfl ?_
    refine w_br K rfl (fun _ => ?_) (fun _ => ?_)
    · refine w_go K 3 (c' := (24, [some (.ref 12), some (.int a1), some (.int a2), some (.ref 1)], [.int a1, .ref 14], mT s)) rfl ?_
      refine w_ck K rfl ?_
      refine w_go K 0 (c' := (25, [some (.ref 12), some (.int a1), some (.int a2), some (.ref 1)], [.int (gI s 14 (ix a1))], mT s)) rfl ?_
      refine w_go K 1 (c' := (mm_sw [(0, 52), (1, 64), (2, 89)] 110 (gI s 14 (ix a1)), [some (.ref 12), some (.int a1), some (.int a2), some (.ref 1)], [], mT s)) rfl ?_
      refine w_sw K (fun _ => ?_) (fun _ => ?_)
      · refine w_go K 5 (c' := (59, [some (.ref 12), some (.int a1), some (.int a2), some (.ref 1)], [.int a1, .ref 15, .int a2, .ref 1], mT s)) rfl ?_
        refine w_ck K rfl ?_
        refine w_go K 0 (c' := (60, [some (.ref 12), some (.int a1), some (.int a2), some (.ref 1)], [.int (gI s 15 (ix a1)), .int a2, .ref 1], mT s)) rfl ?_
        refine w_call K rfl (m_Sky_houseWant (len := len) (xs := xs) (d + 0) a2 (gI s 15 (ix a1)) s) ?_
        refine w_go K 0 (c' := (63, [some (.ref 12), some (.int a1), some (.int a2), some (.ref 1)], [.int (f_Sky_houseWant a2 (gI s 15 (ix a1)) s)], mT s)) rfl ?_
        exact w_ret K rfl (hK _)
      · refine w_sw K (fun _ => ?_) (fun _ => ?_)
        · refine w_go K 5 (c' := (71, [some (.ref 12), some (.int a1), some (.int a2), some (.ref 1)], [.int a1, .ref 16, .int a2, .ref 1], mT s)) rfl ?_
          refine w_ck K rfl ?_
          refine w_go K 0 (c' := (72, [some (.ref 12), some (.int a1), some (.int a2), some (.ref 1)], [.int (gI s 16 (ix a1)), .int a2, .ref 1], mT s)) rfl ?_
          refine w_call K rfl (m_Sky_lampBurns (len := len) (xs := xs) (d + 0) a2 (gI s 16 (ix a1)) s) ?_
          refine w_go K 0 (c' := (75, [some (.ref 12), some (.int a1), some (.int a2), some (.ref 1)], [.int (f_Sky_lampBurns a2 (gI s 16 (ix a1)) s)], mT s)) rfl ?_
          refine w_br K rfl (fun _ => ?_) (fun _ => ?_)
          · refine w_go K 1 (c' := (88, [some (.ref 12), some (.int a1), some (.int a2), some (.ref 1)], [.int 0], mT s)) rfl ?_
            exact w_ret K rfl (hK _)
          · refine w_go K 3 (c' := (83, [some (.ref 12), some (.int a1), some (.int a2), some (.ref 1)], [.int a1, .ref 15], mT s)) rfl ?_
            refine w_ck K rfl ?_
            refine w_go K 1 (c' := (88, [some (.ref 12), some (.int a1), some (.int a2), some (.ref 1)], [.int (gI s 15 (ix a1))], mT s)) rfl ?_
            exact w_ret K rfl (hK _)
        · refine w_sw K (fun _ => ?_) (fun _ => ?_)
          · refine w_go K 5 (c' := (96, [some (.ref 12), some (.int a1), some (.int a2), some (.ref 1)], [.int a1, .ref 15, .int a2, .ref 1], mT s)) rfl ?_
            refine w_ck K rfl ?_
            refine w_go K 0 (c' := (97, [some (.ref 12), some (.int a1), some (.int a2), some (.ref 1)], [.int (gI s 15 (ix a1)), .int a2, .ref 1], mT s)) rfl ?_
            refine w_call K rfl (m_Sky_houseWant (len := len) (xs := xs) (d + 0) a2 (gI s 15 (ix a1)) s) ?_
            refine w_go K 3 (c' := (105, [some (.ref 12), some (.int a1), some (.int a2), some (.ref 1)], [.int a1, .ref 19, .int (f_Sky_houseWant a2 (gI s 15 (ix a1)) s)], mT s)) rfl ?_
            refine w_ck K rfl ?_
            refine w_go K 1 (c' := (109, [some (.ref 12), some (.int a1), some (.int a2), some (.ref 1)], [.int (if (gI s 19 (ix a1)) < (f_Sky_houseWant a2 (gI s 15 (ix a1)) s) then (gI s 19 (ix a1)) else (f_Sky_houseWant a2 (gI s 15 (ix a1)) s))], mT s)) rfl ?_
            exact w_ret K rfl (hK _)
          · refine w_go K 0 (c' := (110, [some (.ref 12), some (.int a1), some (.int a2), some (.ref 1)], [], mT s)) rfl ?_
            refine w_go K 3 (c' := (115, [some (.ref 12), some (.int a1), some (.int a2), some (.ref 1)], [.int a1, .ref 15], mT s)) rfl ?_
            refine w_ck K rfl ?_
            refine w_go K 0 (c' := (116, [some (.ref 12), some (.int a1), some (.int a2), some (.ref 1)], [.int (gI s 15 (ix a1))], mT s)) rfl ?_
            exact w_ret K rfl (hK _)
    · refine w_go K 1 (c' := (18, [some (.ref 12), some (.int a1), some (.int a2), some (.ref 1)], [.int 0], mT s)) rfl ?_
      exact w_ret K rfl (hK _)
theorem m_Things_wantOf {len : Nat} {xs : Nat → Int32} (d : Nat) (a1 : Int32) (a2 : Int32) (s : mS) : ok_Things_wantOf a1 a2 s → mm_call (mm_X len xs) mm_Y (d + 4) 44 [.ref 12, .int a1, .int a2, .ref 1] (mT s) = some (some (.int (f_Things_wantOf a1 a2 s)), mT s) := fun h => t_Things_wantOf (len := len) (xs := xs) d a1 a2 s (fun t => (some (some (.int t), mT s) : Option mm_R) = some (some (.int (f_Things_wantOf a1 a2 s)), mT s)) (fun _ h => h) h rfl
def f_G_of (a1 : Int32) (a2 : Int32) (s : mS) : Int32 := (if (f_Things_has a1 s) = 0 then (-1) else (if a2 = 0 then (f_Things_wantOf a1 (gI s 0 9) s) else (if a2 = 1 then (gI s 21 (ix a1)) else (if a2 = 2 then (gI s 20 (ix a1)) else (if a2 = 3 then (gI s 19 (ix a1)) else (if a2 = 4 then (gI s 22 (ix a1)) else (-1)))))))
def ok_G_of (a1 : Int32) (a2 : Int32) (s : mS) : Prop := (if (f_Things_has a1 s) = 0 then True else (if a2 = 0 then (ok_Things_wantOf a1 (gI s 0 9) s ∧ True) else (if a2 = 1 then (mm_inb a1 40 = true ∧ True) else (if a2 = 2 then (mm_inb a1 40 = true ∧ True) else (if a2 = 3 then (mm_inb a1 40 = true ∧ True) else (if a2 = 4 then (mm_inb a1 40 = true ∧ True) else True))))))
theorem t_G_of {len : Nat} {xs : Nat → Int32} (d : Nat) (a1 : Int32) (a2 : Int32) (s : mS) {T : Option mm_R} (K : Int32 → Prop) (hK : ∀ t, K t → some (some (.int t), mT s) = T) : ok_G_of a1 a2 s → K (f_G_of a1 a2 s) → mm_fix (mm_X len xs) mm_Y (mm_call (mm_X len xs) mm_Y (d + 4)) (mm_look mc_G_of) (0, [some (.ref 0), some (.int a1), some (.int a2)], [], mT s) = T := by
  unfold ok_G_of f_G_of
  refine w_go K 3 (c' := (5, [some (.ref 0), some (.int a1), some (.int a2)], [.int a1, .ref 12], mT s)) rfl ?_
  refine w_callT K rfl (m_Things_has (len := len) (xs := xs) (d + 3) a1 s) ?_
  refine w_go K 0 (c' := (8, [some (.ref 0), some (.int a1), some (.int a2)], [.int (f_Things_has a1 s)], mT s)) rfl ?_
  refine w_br K rfl (fun _ => ?_) (fun _ => ?_)
  · refine w_go K 1 (c' := (12, [some (.ref 0), some (.int a1), some (.int a2)], [.int (-1)], mT s)) rfl ?_
    exact w_ret K rfl (hK _)
  · refine w_go K 1 (c' := (14, [some (.ref 0), some (.int a1), some (.int a2)], [.int a2], mT s)) rfl ?_
    refine w_go K 1 (c' := (mm_sw [(0, 48), (1, 65), (2, 75), (3, 85), (4, 95)] 105 a2, [some (.ref 0), some (.int a1), some (.int a2)], [], mT s)) rfl ?_
    refine w_sw K (fun _ => ?_) (fun _ => ?_)
    · refine w_go K 7 (c' := (61, [some (.ref 0), some (.int a1), some (.int a2)], [.ref 1, .int (gI s 0 9), .int a1, .ref 12], mT s)) rfl ?_
      refine w_call K rfl (m_Things_wantOf (len := len) (xs := xs) (d + 0) a1 (gI s 0 9) s) ?_
      refine w_go K 0 (c' := (64, [some (.ref 0), some (.int a1), some (.int a2)], [.int (f_Things_wantOf a1 (gI s 0 9) s)], mT s)) rfl ?_
      exact w_ret K rfl (hK _)
    · refine w_sw K (fun _ => ?_) (fun _ => ?_)
      · refine w_go K 4 (c' := (73, [some (.ref 0), some (.int a1), some (.int a2)], [.int a1, .ref 21], mT s)) rfl ?_
        refine w_ck K rfl ?_
        refine w_go K 0 (c' := (74, [some (.ref 0), some (.int a1), some (.int a2)], [.int (gI s 21 (ix a1))], mT s)) rfl ?_
        exact w_ret K rfl (hK _)
      · refine w_sw K (fun _ => ?_) (fun _ => ?_)
        · refine w_go K 4 (c' := (83, [some (.ref 0), some (.int a1), some (.int a2)], [.int a1, .ref 20], mT s)) rfl ?_
          refine w_ck K rfl ?_
          refine w_go K 0 (c' := (84, [some (.ref 0), some (.int a1), some (.int a2)], [.int (gI s 20 (ix a1))], mT s)) rfl ?_
          exact w_ret K rfl (hK _)
        · refine w_sw K (fun _ => ?_) (fun _ => ?_)
          · refine w_go K 4 (c' := (93, [some (.ref 0), some (.int a1), some (.int a2)], [.int a1, .ref 19], mT s)) rfl ?_
            refine w_ck K rfl ?_
            refine w_go K 0 (c' := (94, [some (.ref 0), some (.int a1), some (.int a2)], [.int (gI s 19 (ix a1))], mT s)) rfl ?_
            exact w_ret K rfl (hK _)
          · refine w_sw K (fun _ => ?_) (fun _ => ?_)
            · refine w_go K 4 (c' := (103, [some (.ref 0), some (.int a1), some (.int a2)], [.int a1, .ref 22], mT s)) rfl ?_
              refine w_ck K rfl ?_
              refine w_go K 0 (c' := (104, [some (.ref 0), some (.int a1), some (.int a2)], [.int (gI s 22 (ix a1))], mT s)) rfl ?_
              exact w_ret K rfl (hK _)
            · refine w_go K 0 (c' := (105, [some (.ref 0), some (.int a1), some (.int a2)], [], mT s)) rfl ?_
              refine w_go K 1 (c' := (106, [some (.ref 0), some (.int a1), some (.int a2)], [.int (-1)], mT s)) rfl ?_
              exact w_ret K rfl (hK _)
theorem m_G_of {len : Nat} {xs : Nat → Int32} (d : Nat) (a1 : Int32) (a2 : Int32) (s : mS) : ok_G_of a1 a2 s → mm_call (mm_X len xs) mm_Y (d + 5) 121 [.ref 0, .int a1, .int a2] (mT s) = some (some (.int (f_G_of a1 a2 s)), mT s) := fun h => t_G_of (len := len) (xs := xs) d a1 a2 s (fun t => (some (some (.int t), mT s) : Option mm_R) = some (some (.int (f_G_of a1 a2 s)), mT s)) (fun _ h => h) h rfl
def f_G_at (a1 : Int32) (a2 : Int32) (s : mS) : Int32 := (if (f_Net_has a1 s) = 0 then (-1) else (if a2 = 0 then (gI s 32 (ix a1)) else (if a2 = 1 then (gI s 33 (ix a1)) else (if a2 = 2 then (if (gI s 29 (ix a1)) = 0 then 0 else 1) else (if a2 = 3 then (gI s 26 (ix a1)) else (-1))))))
def ok_G_at (a1 : Int32) (a2 : Int32) (s : mS) : Prop := (if (f_Net_has a1 s) = 0 then True else (if a2 = 0 then (mm_inb a1 16 = true ∧ True) else (if a2 = 1 then (mm_inb a1 16 = true ∧ True) else (if a2 = 2 then (mm_inb a1 16 = true ∧ True) else (if a2 = 3 then (mm_inb a1 16 = true ∧ True) else True)))))
theorem t_G_at {len : Nat} {xs : Nat → Int32} (d : Nat) (a1 : Int32) (a2 : Int32) (s : mS) {T : Option mm_R} (K : Int32 → Prop) (hK : ∀ t, K t → some (some (.int t), mT s) = T) : ok_G_at a1 a2 s → K (f_G_at a1 a2 s) → mm_fix (mm_X len xs) mm_Y (mm_call (mm_X len xs) mm_Y (d + 1)) (mm_look mc_G_at) (0, [some (.ref 0), some (.int a1), some (.int a2)], [], mT s) = T := by
  unfold ok_G_at f_G_at
  refine w_go K 3 (c' := (5, [some (.ref 0), some (.int a1), some (.int a2)], [.int a1, .ref 25], mT s)) rfl ?_
  refine w_callT K rfl (m_Net_has (len := len) (xs := xs) (d + 0) a1 s) ?_
  refine w_go K 0 (c' := (8, [some (.ref 0), some (.int a1), some (.int a2)], [.int (f_Net_has a1 s)], mT s)) rfl ?_
  refine w_br K rfl (fun _ => ?_) (fun _ => ?_)
  · refine w_go K 1 (c' := (12, [some (.ref 0), some (.int a1), some (.int a2)], [.int (-1)], mT s)) rfl ?_
    exact w_ret K rfl (hK _)
  · refine w_go K 1 (c' := (14, [some (.ref 0), some (.int a1), some (.int a2)], [.int a2], mT s)) rfl ?_
    refine w_go K 1 (c' := (mm_sw [(0, 44), (1, 54), (2, 64), (3, 82)] 92 a2, [some (.ref 0), some (.int a1), some (.int a2)], [], mT s)) rfl ?_
    refine w_sw K (fun _ => ?_) (fun _ => ?_)
    · refine w_go K 4 (c' := (52, [some (.ref 0), some (.int a1), some (.int a2)], [.int a1, .ref 32], mT s)) rfl ?_
      refine w_ck K rfl ?_
      refine w_go K 0 (c' := (53, [some (.ref 0), some (.int a1), some (.int a2)], [.int (gI s 32 (ix a1))], mT s)) rfl ?_
      exact w_ret K rfl (hK _)
    · refine w_sw K (fun _ => ?_) (fun _ => ?_)
      · refine w_go K 4 (c' := (62, [some (.ref 0), some (.int a1), some (.int a2)], [.int a1, .ref 33], mT s)) rfl ?_
        refine w_ck K rfl ?_
        refine w_go K 0 (c' := (63, [some (.ref 0), some (.int a1), some (.int a2)], [.int (gI s 33 (ix a1))], mT s)) rfl ?_
        exact w_ret K rfl (hK _)
      · refine w_sw K (fun _ => ?_) (fun _ => ?_)
        · refine w_go K 4 (c' := (72, [some (.ref 0), some (.int a1), some (.int a2)], [.int a1, .ref 29], mT s)) rfl ?_
          refine w_ck K rfl ?_
          refine w_go K 0 (c' := (73, [some (.ref 0), some (.int a1), some (.int a2)], [.int (gI s 29 (ix a1))], mT s)) rfl ?_
          refine w_brT K rfl (fun _ => ?_) (fun _ => ?_)
          · refine w_go K 1 (c' := (81, [some (.ref 0), some (.int a1), some (.int a2)], [.int 0], mT s)) rfl ?_
            exact w_ret K rfl (hK _)
          · refine w_go K 2 (c' := (81, [some (.ref 0), some (.int a1), some (.int a2)], [.int 1], mT s)) rfl ?_
            exact w_ret K rfl (hK _)
        · refine w_sw K (fun _ => ?_) (fun _ => ?_)
          · refine w_go K 4 (c' := (90, [some (.ref 0), some (.int a1), some (.int a2)], [.int a1, .ref 26], mT s)) rfl ?_
            refine w_ck K rfl ?_
            refine w_go K 0 (c' := (91, [some (.ref 0), some (.int a1), some (.int a2)], [.int (gI s 26 (ix a1))], mT s)) rfl ?_
            exact w_ret K rfl (hK _)
          · refine w_go K 0 (c' := (92, [some (.ref 0), some (.int a1), some (.int a2)], [], mT s)) rfl ?_
            refine w_go K 1 (c' := (93, [some (.ref 0), some (.int a1), some (.int a2)], [.int (-1)], mT s)) rfl ?_
            exact w_ret K rfl (hK _)
theorem m_G_at {len : Nat} {xs : Nat → Int32} (d : Nat) (a1 : Int32) (a2 : Int32) (s : mS) : ok_G_at a1 a2 s → mm_call (mm_X len xs) mm_Y (d + 2) 120 [.ref 0, .int a1, .int a2] (mT s) = some (some (.int (f_G_at a1 a2 s)), mT s) := fun h => t_G_at (len := len) (xs := xs) d a1 a2 s (fun t => (some (some (.int t), mT s) : Option mm_R) = some (some (.int (f_G_at a1 a2 s)), mT s)) (fun _ h => h) h rfl
def lp_Net_walkTo_7 (a1 : Int32) (s : mS) : Nat → Int32 → Int32 → Int32 → Int32 × Int32 × Int32
  | 0, v2, v3, v4 => (v2, v3, v4)
  | n + 1, v2, v3, v4 => (if (16 : Int32) ≤ v4 then (v2, v3, v4) else (if (f_Net_hasPipe v3 s) = 0 then (v2, v3, v4) else (lp_Net_walkTo_7 a1 s n (v2 + 1) (gI s 26 (ix v3)) (v4 + 1))))
def okl_Net_walkTo_7 (a1 : Int32) (s : mS) : Nat → Int32 → Int32 → Int32 → Prop
  | 0, v2, v3, v4 => False
  | n + 1, v2, v3, v4 => (if (16 : Int32) ≤ v4 then True else (if (f_Net_hasPipe v3 s) = 0 then True else (mm_inb v3 16 = true ∧ (okl_Net_walkTo_7 a1 s n (v2 + 1) (gI s 26 (ix v3)) (v4 + 1)))))
theorem tl_Net_walkTo_7 {len : Nat} {xs : Nat → Int32} (d : Nat) (a1 : Int32) (s : mS) {T : Option mm_R} (K : Int32 × Int32 × Int32 → Prop) (hX : ∀ r, K r → mm_fix (mm_X len xs) mm_Y (mm_call (mm_X len xs) mm_Y (d + 2)) (mm_look mc_Net_walkTo) (38, [some (.ref 25), some (.int a1), some (.int r.1), some (.int r.2.1), some (.int r.2.2)], [], mT s) = T) : ∀ (n : Nat), ∀ (v2 : Int32) (v3 : Int32) (v4 : Int32), okl_Net_walkTo_7 a1 s n v2 v3 v4 → K (lp_Net_walkTo_7 a1 s n v2 v3 v4) → mm_fix (mm_X len xs) mm_Y (mm_call (mm_X len xs) mm_Y (d + 2)) (mm_look mc_Net_walkTo) (7, [some (.ref 25), some (.int a1), some (.int v2), some (.int v3), some (.int v4)], [], mT s) = T := by
  intro n
  induction n with
  | zero => intro v2 v3 v4; exact fun h => h.elim
  | succ n ih =>
    intro v2 v3 v4
    rw [okl_Net_walkTo_7, lp_Net_walkTo_7]
    refine w_go K 2 (c' := (11, [some (.ref 25), some (.int a1), some (.int v2), some (.int v3), some (.int v4)], [.int 16, .int v4], mT s)) rfl ?_
    refine w_br K rfl (fun _ => ?_) (fun _ => ?_)
    · refine w_go K 0 (c' := (38, [some (.ref 25), some (.int a1), some (.int v2), some (.int v3), some (.int v4)], [], mT s)) rfl ?_
      exact fun _ b => hX _ b
    · refine w_go K 2 (c' := (16, [some (.ref 25), some (.int a1), some (.int v2), some (.int v3), some (.int v4)], [.int v3, .ref 25], mT s)) rfl ?_
      refine w_callT K rfl (m_Net_hasPipe (len := len) (xs := xs) (d + 0) v3 s) ?_
      refine w_go K 0 (c' := (19, [some (.ref 25), some (.int a1), some (.int v2), some (.int v3), some (.int v4)], [.int (f_Net_hasPipe v3 s)], mT s)) rfl ?_
      refine w_br K rfl (fun _ => ?_) (fun _ => ?_)
      · refine w_go K 0 (c' := (38, [some (.ref 25), some (.int a1), some (.int v2), some (.int v3), some (.int v4)], [], mT s)) rfl ?_
        exact fun _ b => hX _ b
      · refine w_go K 4 (c' := (30, [some (.ref 25), some (.int a1), some (.int (v2 + 1)), some (.int v3), some (.int v4)], [.int v3, .ref 26], mT s)) rfl ?_
        refine w_ck K rfl ?_
        refine w_go K 3 (c' := (7, [some (.ref 25), some (.int a1), some (.int (v2 + 1)), some (.int (gI s 26 (ix v3))), some (.int (v4 + 1))], [], mT s)) rfl ?_
        exact fun a b => ih (v2 + 1) (gI s 26 (ix v3)) (v4 + 1) a b
def lp_Net_walkTo_45 (a2 : Int32)  : Nat → Int32 → Int32 → mS → Int32 × Int32 × mS
  | 0, v3, v4, s => (v3, v4, s)
  | n + 1, v3, v4, s => (if v4 < 0 then (v3, v4, s) else (if (f_Net_hasPipe v3 s) = 0 then (v3, v4, s) else (lp_Net_walkTo_45 a2 n (gI s 26 (ix v3)) (v4 + (-1)) (sI s 35 (ix v4) v3))))
def okl_Net_walkTo_45 (a2 : Int32)  : Nat → Int32 → Int32 → mS → Prop
  | 0, v3, v4, s => False
  | n + 1, v3, v4, s => (if v4 < 0 then True else (if (f_Net_hasPipe v3 s) = 0 then True else (mm_inb v4 16 = true ∧ (mm_inb v3 16 = true ∧ (okl_Net_walkTo_45 a2 n (gI s 26 (ix v3)) (v4 + (-1)) (sI s 35 (ix v4) v3))))))
theorem tl_Net_walkTo_45 {len : Nat} {xs : Nat → Int32} (d : Nat) (a2 : Int32)  {T : Option mm_R} (K : Int32 × Int32 × mS → Prop) (hX : ∀ r, K r → ∀ (o1 : Option Value), mm_fix (mm_X len xs) mm_Y (mm_call (mm_X len xs) mm_Y (d + 2)) (mm_look mc_Net_walkTo) (79, [some (.ref 25), o1, some (.int a2), some (.int r.1), some (.int r.2.1)], [], mT r.2.2) = T) : ∀ (n : Nat), ∀ (v3 : Int32) (v4 : Int32) (o1 : Option Value) (s : mS), okl_Net_walkTo_45 a2 n v3 v4 s → K (lp_Net_walkTo_45 a2 n v3 v4 s) → mm_fix (mm_X len xs) mm_Y (mm_call (mm_X len xs) mm_Y (d + 2)) (mm_look mc_Net_walkTo) (45, [some (.ref 25), o1, some (.int a2), some (.int v3), some (.int v4)], [], mT s) = T := by
  intro n
  induction n with
  | zero => intro v3 v4 o1 s; exact fun h => h.elim
  | succ n ih =>
    intro v3 v4 o1 s
    rw [okl_Net_walkTo_45, lp_Net_walkTo_45]
    refine w_go K 1 (c' := (47, [some (.ref 25), o1, some (.int a2), some (.int v3), some (.int v4)], [.int v4], mT s)) rfl ?_
    refine w_br K rfl (fun _ => ?_) (fun _ => ?_)
    · refine w_go K 0 (c' := (79, [some (.ref 25), o1, some (.int a2), some (.int v3), some (.int v4)], [], mT s)) rfl ?_
      exact fun _ b => hX _ b _
    · refine w_go K 2 (c' := (52, [some (.ref 25), o1, some (.int a2), some (.int v3), some (.int v4)], [.int v3, .ref 25], mT s)) rfl ?_
      refine w_callT K rfl (m_Net_hasPipe (len := len) (xs := xs) (d + 0) v3 s) ?_
      refine w_go K 0 (c' := (55, [some (.ref 25), o1, some (.int a2), some (.int v3), some (.int v4)], [.int (f_Net_hasPipe v3 s)], mT s)) rfl ?_
      refine w_br K rfl (fun _ => ?_) (fun _ => ?_)
      · refine w_go K 0 (c' := (79, [some (.ref 25), o1, some (.int a2), some (.int v3), some (.int v4)], [], mT s)) rfl ?_
        exact fun _ b => hX _ b _
      · refine w_go K 4 (c' := (65, [some (.ref 25), o1, some (.int a2), some (.int v3), some (.int v4)], [.int v3, .int v4, .ref 35], mT s)) rfl ?_
        refine w_ck K rfl ?_
        refine w_go K 3 (c' := (71, [some (.ref 25), o1, some (.int a2), some (.int v3), some (.int v4)], [.int v3, .ref 26], mT (sI s 35 (ix v4) v3))) rfl ?_
        refine w_ck K rfl ?_
        refine w_go K 3 (c' := (45, [some (.ref 25), o1, some (.int a2), some (.int (gI s 26 (ix v3))), some (.int (v4 + (-1)))], [], mT (sI s 35 (ix v4) v3))) rfl ?_
        exact fun a b => ih (gI s 26 (ix v3)) (v4 + (-1)) _ (sI s 35 (ix v4) v3) a b
def f_Net_walkTo (a1 : Int32) (s : mS) : Int32 × mS := ((lp_Net_walkTo_7 a1 s mm_N (0 : Int32) a1 (0 : Int32)).1, (lp_Net_walkTo_45 ((lp_Net_walkTo_7 a1 s mm_N (0 : Int32) a1 (0 : Int32)).1) mm_N a1 ((lp_Net_walkTo_7 a1 s mm_N (0 : Int32) a1 (0 : Int32)).1 - 1) s).2.2)
def ok_Net_walkTo (a1 : Int32) (s : mS) : Prop := (okl_Net_walkTo_7 a1 s mm_N (0 : Int32) a1 (0 : Int32) ∧ (okl_Net_walkTo_45 ((lp_Net_walkTo_7 a1 s mm_N (0 : Int32) a1 (0 : Int32)).1) mm_N a1 ((lp_Net_walkTo_7 a1 s mm_N (0 : Int32) a1 (0 : Int32)).1 - 1) s ∧ True))
theorem t_Net_walkTo {len : Nat} {xs : Nat → Int32} (d : Nat) (a1 : Int32) (s : mS) {T : Option mm_R} (K : Int32 × mS → Prop) (hK : ∀ t, K t → some (some (.int t.1), mT t.2) = T) : ok_Net_walkTo a1 s → K (f_Net_walkTo a1 s) → mm_fix (mm_X len xs) mm_Y (mm_call (mm_X len xs) mm_Y (d + 2)) (mm_look mc_Net_walkTo) (0, [some (.ref 25), some (.int a1), none, none, none], [], mT s) = T := by
  unfold ok_Net_walkTo f_Net_walkTo
  refine w_go K 6 (c' := (7, [some (.ref 25), some (.int a1), some (.int 0), some (.int a1), some (.int 0)], [], mT s)) rfl ?_
  refine w_loop K (D := mm_fix (mm_X len xs) mm_Y (mm_call (mm_X len xs) mm_Y (d + 2)) (mm_look mc_Net_walkTo) (38, [some (.ref 25), some (.int a1), some (.int ((lp_Net_walkTo_7 a1 s mm_N (0 : Int32) a1 (0 : Int32)).1)), some (.int ((lp_Net_walkTo_7 a1 s mm_N (0 : Int32) a1 (0 : Int32)).2.1)), some (.int ((lp_Net_walkTo_7 a1 s mm_N (0 : Int32) a1 (0 : Int32)).2.2))], [], mT s) = T) (fun h1 h2 => tl_Net_walkTo_7 (len := len) (xs := xs) d a1 s (T := T) (K := fun r => r = lp_Net_walkTo_7 a1 s mm_N (0 : Int32) a1 (0 : Int32)) (fun r hr => by subst hr; exact h2) mm_N (0 : Int32) a1 (0 : Int32) h1 rfl) (fun h1 h2 => ?_)
  revert h1 h2
  refine w_go K 6 (c' := (45, [some (.ref 25), some (.int a1), some (.int ((lp_Net_walkTo_7 a1 s mm_N (0 : Int32) a1 (0 : Int32)).1)), some (.int a1), some (.int ((lp_Net_walkTo_7 a1 s mm_N (0 : Int32) a1 (0 : Int32)).1 - 1))], [], mT s)) rfl ?_
  refine w_loop K (D := ∀ (q1 : Option Value), mm_fix (mm_X len xs) mm_Y (mm_call (mm_X len xs) mm_Y (d + 2)) (mm_look mc_Net_walkTo) (79, [some (.ref 25), q1, some (.int ((lp_Net_walkTo_7 a1 s mm_N (0 : Int32) a1 (0 : Int32)).1)), some (.int ((lp_Net_walkTo_45 ((lp_Net_walkTo_7 a1 s mm_N (0 : Int32) a1 (0 : Int32)).1) mm_N a1 ((lp_Net_walkTo_7 a1 s mm_N (0 : Int32) a1 (0 : Int32)).1 - 1) s).1)), some (.int ((lp_Net_walkTo_45 ((lp_Net_walkTo_7 a1 s mm_N (0 : Int32) a1 (0 : Int32)).1) mm_N a1 ((lp_Net_walkTo_7 a1 s mm_N (0 : Int32) a1 (0 : Int32)).1 - 1) s).2.1))], [], mT ((lp_Net_walkTo_45 ((lp_Net_walkTo_7 a1 s mm_N (0 : Int32) a1 (0 : Int32)).1) mm_N a1 ((lp_Net_walkTo_7 a1 s mm_N (0 : Int32) a1 (0 : Int32)).1 - 1) s).2.2)) = T) (fun h1 h2 => tl_Net_walkTo_45 (len := len) (xs := xs) d ((lp_Net_walkTo_7 a1 s mm_N (0 : Int32) a1 (0 : Int32)).1) (T := T) (K := fun r => r = lp_Net_walkTo_45 ((lp_Net_walkTo_7 a1 s mm_N (0 : Int32) a1 (0 : Int32)).1) mm_N a1 ((lp_Net_walkTo_7 a1 s mm_N (0 : Int32) a1 (0 : Int32)).1 - 1) s) (fun r hr => by subst hr; exact h2) mm_N a1 ((lp_Net_walkTo_7 a1 s mm_N (0 : Int32) a1 (0 : Int32)).1 - 1) _ s h1 rfl) (fun h1 h2 q1 => ?_)
  revert h1 h2
  refine w_go K 1 (c' := (80, [some (.ref 25), q1, some (.int ((lp_Net_walkTo_7 a1 s mm_N (0 : Int32) a1 (0 : Int32)).1)), some (.int ((lp_Net_walkTo_45 ((lp_Net_walkTo_7 a1 s mm_N (0 : Int32) a1 (0 : Int32)).1) mm_N a1 ((lp_Net_walkTo_7 a1 s mm_N (0 : Int32) a1 (0 : Int32)).1 - 1) s).1)), some (.int ((lp_Net_walkTo_45 ((lp_Net_walkTo_7 a1 s mm_N (0 : Int32) a1 (0 : Int32)).1) mm_N a1 ((lp_Net_walkTo_7 a1 s mm_N (0 : Int32) a1 (0 : Int32)).1 - 1) s).2.1))], [.int ((lp_Net_walkTo_7 a1 s mm_N (0 : Int32) a1 (0 : Int32)).1)], mT ((lp_Net_walkTo_45 ((lp_Net_walkTo_7 a1 s mm_N (0 : Int32) a1 (0 : Int32)).1) mm_N a1 ((lp_Net_walkTo_7 a1 s mm_N (0 : Int32) a1 (0 : Int32)).1 - 1) s).2.2))) rfl ?_
  exact w_ret K rfl (hK _)
theorem m_Net_walkTo {len : Nat} {xs : Nat → Int32} (d : Nat) (a1 : Int32) (s : mS) : ok_Net_walkTo a1 s → mm_call (mm_X len xs) mm_Y (d + 3) 124 [.ref 25, .int a1] (mT s) = some (some (.int (f_Net_walkTo a1 s).1), mT (f_Net_walkTo a1 s).2) := fun h => t_Net_walkTo (len := len) (xs := xs) d a1 s (fun t => (some (some (.int t.1), mT t.2) : Option mm_R) = some (some (.int (f_Net_walkTo a1 s).1), mT (f_Net_walkTo a1 s).2)) (fun _ h => h) h rfl
def lp_Net_firstWetOnWay_8 (a2 : Int32) (s : mS) : Nat → Int32 → Option Int32 × Int32
  | 0, v3 => (none, v3)
  | n + 1, v3 => (if a2 ≤ v3 then (none, v3) else (if (16 : Int32) ≤ v3 then (none, v3) else (if (f_Net_has (gI s 35 (ix v3)) s) = 0 then (lp_Net_firstWetOnWay_8 a2 s n (v3 + 1)) else (if (gI s 34 (ix (gI s 35 (ix v3)))) = 0 then (lp_Net_firstWetOnWay_8 a2 s n (v3 + 1)) else (some (gI s 35 (ix v3)), v3)))))
def okl_Net_firstWetOnWay_8 (a2 : Int32) (s : mS) : Nat → Int32 → Prop
  | 0, v3 => False
  | n + 1, v3 => (if a2 ≤ v3 then True else (if (16 : Int32) ≤ v3 then True else (mm_inb v3 16 = true ∧ (if (f_Net_has (gI s 35 (ix v3)) s) = 0 then (okl_Net_firstWetOnWay_8 a2 s n (v3 + 1)) else (mm_inb (gI s 35 (ix v3)) 16 = true ∧ (if (gI s 34 (ix (gI s 35 (ix v3)))) = 0 then (okl_Net_firstWetOnWay_8 a2 s n (v3 + 1)) else True))))))
theorem tl_Net_firstWetOnWay_8 {len : Nat} {xs : Nat → Int32} (d : Nat) (a2 : Int32) (s : mS) {T : Option mm_R} (K : Option Int32 × Int32 → Prop) (hX : ∀ r, K r → r.1 = none → ∀ (o1 : Option Value) (o4 : Option Value), mm_fix (mm_X len xs) mm_Y (mm_call (mm_X len xs) mm_Y (d + 3)) (mm_look mc_Net_firstWetOnWay) (55, [some (.ref 25), o1, some (.int a2), some (.int r.2), o4], [], mT s) = T) (hR : ∀ r, K r → ∀ v, r.1 = some v → some (some (.int v), mT s) = T) : ∀ (n : Nat), ∀ (v3 : Int32) (o1 : Option Value) (o4 : Option Value), okl_Net_firstWetOnWay_8 a2 s n v3 → K (lp_Net_firstWetOnWay_8 a2 s n v3) → mm_fix (mm_X len xs) mm_Y (mm_call (mm_X len xs) mm_Y (d + 3)) (mm_look mc_Net_firstWetOnWay) (8, [some (.ref 25), o1, some (.int a2), some (.int v3), o4], [], mT s) = T := by
  intro n
  induction n with
  | zero => intro v3 o1 o4; exact fun h => h.elim
  | succ n ih =>
    intro v3 o1 o4
    rw [okl_Net_firstWetOnWay_8, lp_Net_firstWetOnWay_8]
    refine w_go K 2 (c' := (10, [some (.ref 25), o1, some (.int a2), some (.int v3), o4], [.int a2, .int v3], mT s)) rfl ?_
    refine w_br K rfl (fun _ => ?_) (fun _ => ?_)
    · refine w_go K 0 (c' := (55, [some (.ref 25), o1, some (.int a2), some (.int v3), o4], [], mT s)) rfl ?_
      exact fun _ b => hX _ b rfl _ _
    · refine w_go K 2 (c' := (16, [some (.ref 25), o1, some (.int a2), some (.int v3), o4], [.int 16, .int v3], mT s)) rfl ?_
      refine w_br K rfl (fun _ => ?_) (fun _ => ?_)
      · refine w_go K 0 (c' := (55, [some (.ref 25), o1, some (.int a2), some (.int v3), o4], [], mT s)) rfl ?_
        exact fun _ b => hX _ b rfl _ _
      · refine w_go K 3 (c' := (24, [some (.ref 25), o1, some (.int a2), some (.int v3), o4], [.int v3, .ref 35], mT s)) rfl ?_
        refine w_ck K rfl ?_
        refine w_go K 3 (c' := (30, [some (.ref 25), o1, some (.int a2), some (.int v3), some (.int (gI s 35 (ix v3)))], [.int (gI s 35 (ix v3)), .ref 25], mT s)) rfl ?_
        refine w_callT K rfl (m_Net_has (len := len) (xs := xs) (d + 2) (gI s 35 (ix v3)) s) ?_
        refine w_go K 0 (c' := (33, [some (.ref 25), o1, some (.int a2), some (.int v3), some (.int (gI s 35 (ix v3)))], [.int (f_Net_has (gI s 35 (ix v3)) s)], mT s)) rfl ?_
        refine w_br K rfl (fun _ => ?_) (fun _ => ?_)
        · refine w_go K 2 (c' := (8, [some (.ref 25), o1, some (.int a2), some (.int (v3 + 1)), some (.int (gI s 35 (ix v3)))], [], mT s)) rfl ?_
          exact fun a b => ih (v3 + 1) _ _ a b
        · refine w_go K 3 (c' := (42, [some (.ref 25), o1, some (.int a2), some (.int v3), some (.int (gI s 35 (ix v3)))], [.int (gI s 35 (ix v3)), .ref 34], mT s)) rfl ?_
          refine w_ck K rfl ?_
          refine w_go K 0 (c' := (43, [some (.ref 25), o1, some (.int a2), some (.int v3), some (.int (gI s 35 (ix v3)))], [.int (gI s 34 (ix (gI s 35 (ix v3))))], mT s)) rfl ?_
          refine w_br K rfl (fun _ => ?_) (fun _ => ?_)
          · refine w_go K 2 (c' := (8, [some (.ref 25), o1, some (.int a2), some (.int (v3 + 1)), some (.int (gI s 35 (ix v3)))], [], mT s)) rfl ?_
            exact fun a b => ih (v3 + 1) _ _ a b
          · refine w_go K 1 (c' := (48, [some (.ref 25), o1, some (.int a2), some (.int v3), some (.int (gI s 35 (ix v3)))], [.int (gI s 35 (ix v3))], mT s)) rfl ?_
            exact w_ret K rfl (fun h => hR _ h _ rfl)
def f_Net_firstWetOnWay (a1 : Int32) (s : mS) : Int32 × mS := (mq_el ((lp_Net_firstWetOnWay_8 ((f_Net_walkTo a1 s).1) ((f_Net_walkTo a1 s).2) mm_N (0 : Int32)).1) (fun v => (v, (f_Net_walkTo a1 s).2)) ((-1), (f_Net_walkTo a1 s).2))
def ok_Net_firstWetOnWay (a1 : Int32) (s : mS) : Prop := (ok_Net_walkTo a1 s ∧ (okl_Net_firstWetOnWay_8 ((f_Net_walkTo a1 s).1) ((f_Net_walkTo a1 s).2) mm_N (0 : Int32) ∧ mq_elP ((lp_Net_firstWetOnWay_8 ((f_Net_walkTo a1 s).1) ((f_Net_walkTo a1 s).2) mm_N (0 : Int32)).1) True))
theorem t_Net_firstWetOnWay {len : Nat} {xs : Nat → Int32} (d : Nat) (a1 : Int32) (s : mS) {T : Option mm_R} (K : Int32 × mS → Prop) (hK : ∀ t, K t → some (some (.int t.1), mT t.2) = T) : ok_Net_firstWetOnWay a1 s → K (f_Net_firstWetOnWay a1 s) → mm_fix (mm_X len xs) mm_Y (mm_call (mm_X len xs) mm_Y (d + 3)) (mm_look mc_Net_firstWetOnWay) (0, [some (.ref 25), some (.int a1), none, none, none], [], mT s) = T := by
  unfold ok_Net_firstWetOnWay f_Net_firstWetOnWay
  refine w_go K 2 (c' := (2, [some (.ref 25), some (.int a1), none, none, none], [.int a1, .ref 25], mT s)) rfl ?_
  refine w_call K rfl (m_Net_walkTo (len := len) (xs := xs) (d + 0) a1 s) ?_
  refine w_go K 3 (c' := (8, [some (.ref 25), some (.int a1), some (.int ((f_Net_walkTo a1 s).1)), some (.int 0), none], [], mT ((f_Net_walkTo a1 s).2))) rfl ?_
  refine w_loopR K (D1 := some (some (.int (mq_get ((lp_Net_firstWetOnWay_8 ((f_Net_walkTo a1 s).1) ((f_Net_walkTo a1 s).2) mm_N (0 : Int32)).1) 0)), mT ((f_Net_walkTo a1 s).2)) = T) (D2 := ∀ (q1 : Option Value) (q2 : Option Value), mm_fix (mm_X len xs) mm_Y (mm_call (mm_X len xs) mm_Y (d + 3)) (mm_look mc_Net_firstWetOnWay) (55, [some (.ref 25), q1, some (.int ((f_Net_walkTo a1 s).1)), some (.int ((lp_Net_firstWetOnWay_8 ((f_Net_walkTo a1 s).1) ((f_Net_walkTo a1 s).2) mm_N (0 : Int32)).2)), q2], [], mT ((f_Net_walkTo a1 s).2)) = T) (fun h1 h2 => tl_Net_firstWetOnWay_8 (len := len) (xs := xs) d ((f_Net_walkTo a1 s).1) ((f_Net_walkTo a1 s).2) (T := T) (K := fun r => r = lp_Net_firstWetOnWay_8 ((f_Net_walkTo a1 s).1) ((f_Net_walkTo a1 s).2) mm_N (0 : Int32)) (fun r hr hn => by subst hr; exact h2.2 hn) (fun r hr v hv => by subst hr; have h3 := h2.1 v hv; rw [hv] at h3; exact h3) mm_N (0 : Int32) _ _ h1 rfl) (fun v hv h => by rw [hv]; exact hK _ h) (fun h1 h2 q1 q2 => ?_)
  revert h1 h2
  refine w_go K 1 (c' := (56, [some (.ref 25), q1, some (.int ((f_Net_walkTo a1 s).1)), some (.int ((lp_Net_firstWetOnWay_8 ((f_Net_walkTo a1 s).1) ((f_Net_walkTo a1 s).2) mm_N (0 : Int32)).2)), q2], [.int (-1)], mT ((f_Net_walkTo a1 s).2))) rfl ?_
  exact w_ret K rfl (hK _)
theorem m_Net_firstWetOnWay {len : Nat} {xs : Nat → Int32} (d : Nat) (a1 : Int32) (s : mS) : ok_Net_firstWetOnWay a1 s → mm_call (mm_X len xs) mm_Y (d + 4) 123 [.ref 25, .int a1] (mT s) = some (some (.int (f_Net_firstWetOnWay a1 s).1), mT (f_Net_firstWetOnWay a1 s).2) := fun h => t_Net_firstWetOnWay (len := len) (xs := xs) d a1 s (fun t => (some (some (.int t.1), mT t.2) : Option mm_R) = some (some (.int (f_Net_firstWetOnWay a1 s).1), mT (f_Net_firstWetOnWay a1 s).2)) (fun _ h => h) h rfl
def lp_Net_greatestLossOnWay_14 (a2 : Int32) (s : mS) : Nat → Int32 → Int32 → Int32 → Int32 × Int32 × Int32
  | 0, v3, v4, v5 => (v3, v4, v5)
  | n + 1, v3, v4, v5 => (if a2 ≤ v5 then (v3, v4, v5) else (if (16 : Int32) ≤ v5 then (v3, v4, v5) else (if (f_Net_has (gI s 35 (ix v5)) s) = 0 then (if (0 : Int32) ≤ v3 then (lp_Net_greatestLossOnWay_14 a2 s n v3 v4 (v5 + 1)) else (lp_Net_greatestLossOnWay_14 a2 s n (0 : Int32) (gI s 35 (ix v5)) (v5 + 1))) else (if (((gI s 27 (ix (gI s 35 (ix v5)))) * (gI s 33 (ix (gI s 35 (ix v5))))) / 100) ≤ v3 then (lp_Net_greatestLossOnWay_14 a2 s n v3 v4 (v5 + 1)) else (lp_Net_greatestLossOnWay_14 a2 s n (((gI s 27 (ix (gI s 35 (ix v5)))) * (gI s 33 (ix (gI s 35 (ix v5))))) / 100) (gI s 35 (ix v5)) (v5 + 1))))))
def okl_Net_greatestLossOnWay_14 (a2 : Int32) (s : mS) : Nat → Int32 → Int32 → Int32 → Prop
  | 0, v3, v4, v5 => False
  | n + 1, v3, v4, v5 => (if a2 ≤ v5 then True else (if (16 : Int32) ≤ v5 then True else (mm_inb v5 16 = true ∧ (if (f_Net_has (gI s 35 (ix v5)) s) = 0 then (if (0 : Int32) ≤ v3 then (okl_Net_greatestLossOnWay_14 a2 s n v3 v4 (v5 + 1)) else (okl_Net_greatestLossOnWay_14 a2 s n (0 : Int32) (gI s 35 (ix v5)) (v5 + 1))) else (mm_inb (gI s 35 (ix v5)) 16 = true ∧ (mm_inb (gI s 35 (ix v5)) 16 = true ∧ (if (((gI s 27 (ix (gI s 35 (ix v5)))) * (gI s 33 (ix (gI s 35 (ix v5))))) / 100) ≤ v3 then (okl_Net_greatestLossOnWay_14 a2 s n v3 v4 (v5 + 1)) else (okl_Net_greatestLossOnWay_14 a2 s n (((gI s 27 (ix (gI s 35 (ix v5)))) * (gI s 33 (ix (gI s 35 (ix v5))))) / 100) (gI s 35 (ix v5)) (v5 + 1)))))))))
theorem tl_Net_greatestLossOnWay_14 {len : Nat} {xs : Nat → Int32} (d : Nat) (a2 : Int32) (s : mS) {T : Option mm_R} (K : Int32 × Int32 × Int32 → Prop) (hX : ∀ r, K r → ∀ (o1 : Option Value) (o6 : Option Value) (o7 : Option Value), mm_fix (mm_X len xs) mm_Y (mm_call (mm_X len xs) mm_Y (d + 3)) (mm_look mc_Net_greatestLossOnWay) (88, [some (.ref 25), o1, some (.int a2), some (.int r.1), some (.int r.2.1), some (.int r.2.2), o6, o7], [], mT s) = T) : ∀ (n : Nat), ∀ (v3 : Int32) (v4 : Int32) (v5 : Int32) (o1 : Option Value) (o6 : Option Value) (o7 : Option Value), okl_Net_greatestLossOnWay_14 a2 s n v3 v4 v5 → K (lp_Net_greatestLossOnWay_14 a2 s n v3 v4 v5) → mm_fix (mm_X len xs) mm_Y (mm_call (mm_X len xs) mm_Y (d + 3)) (mm_look mc_Net_greatestLossOnWay) (14, [some (.ref 25), o1, some (.int a2), some (.int v3), some (.int v4), some (.int v5), o6, o7], [], mT s) = T := by
  intro n
  induction n with
  | zero => intro v3 v4 v5 o1 o6 o7; exact fun h => h.elim
  | succ n ih =>
    intro v3 v4 v5 o1 o6 o7
    rw [okl_Net_greatestLossOnWay_14, lp_Net_greatestLossOnWay_14]
    refine w_go K 2 (c' := (17, [some (.ref 25), o1, some (.int a2), some (.int v3), some (.int v4), some (.int v5), o6, o7], [.int a2, .int v5], mT s)) rfl ?_
    refine w_br K rfl (fun _ => ?_) (fun _ => ?_)
    · refine w_go K 0 (c' := (88, [some (.ref 25), o1, some (.int a2), some (.int v3), some (.int v4), some (.int v5), o6, o7], [], mT s)) rfl ?_
      exact fun _ b => hX _ b _ _ _
    · refine w_go K 2 (c' := (24, [some (.ref 25), o1, some (.int a2), some (.int v3), some (.int v4), some (.int v5), o6, o7], [.int 16, .int v5], mT s)) rfl ?_
      refine w_br K rfl (fun _ => ?_) (fun _ => ?_)
      · refine w_go K 0 (c' := (88, [some (.ref 25), o1, some (.int a2), some (.int v3), some (.int v4), some (.int v5), o6, o7], [], mT s)) rfl ?_
        exact fun _ b => hX _ b _ _ _
      · refine w_go K 3 (c' := (33, [some (.ref 25), o1, some (.int a2), some (.int v3), some (.int v4), some (.int v5), o6, o7], [.int v5, .ref 35], mT s)) rfl ?_
        refine w_ck K rfl ?_
        refine w_go K 3 (c' := (39, [some (.ref 25), o1, some (.int a2), some (.int v3), some (.int v4), some (.int v5), some (.int (gI s 35 (ix v5))), o7], [.int (gI s 35 (ix v5)), .ref 25], mT s)) rfl ?_
        refine w_callT K rfl (m_Net_has (len := len) (xs := xs) (d + 2) (gI s 35 (ix v5)) s) ?_
        refine w_go K 0 (c' := (42, [some (.ref 25), o1, some (.int a2), some (.int v3), some (.int v4), some (.int v5), some (.int (gI s 35 (ix v5))), o7], [.int (f_Net_has (gI s 35 (ix v5)) s)], mT s)) rfl ?_
        refine w_br K rfl (fun _ => ?_) (fun _ => ?_)
        · refine w_go K 4 (c' := (72, [some (.ref 25), o1, some (.int a2), some (.int v3), some (.int v4), some (.int v5), some (.int (gI s 35 (ix v5))), some (.int 0)], [.int v3, .int 0], mT s)) rfl ?_
          refine w_br K rfl (fun _ => ?_) (fun _ => ?_)
          · refine w_go K 2 (c' := (14, [some (.ref 25), o1, some (.int a2), some (.int v3), some (.int v4), some (.int (v5 + 1)), some (.int (gI s 35 (ix v5))), some (.int 0)], [], mT s)) rfl ?_
            exact fun a b => ih v3 v4 (v5 + 1) _ _ _ a b
          · refine w_go K 6 (c' := (14, [some (.ref 25), o1, some (.int a2), some (.int 0), some (.int (gI s 35 (ix v5))), some (.int (v5 + 1)), some (.int (gI s 35 (ix v5))), some (.int 0)], [], mT s)) rfl ?_
            exact fun a b => ih (0 : Int32) (gI s 35 (ix v5)) (v5 + 1) _ _ _ a b
        · refine w_go K 3 (c' := (51, [some (.ref 25), o1, some (.int a2), some (.int v3), some (.int v4), some (.int v5), some (.int (gI s 35 (ix v5))), o7], [.int (gI s 35 (ix v5)), .ref 27], mT s)) rfl ?_
          refine w_ck K rfl ?_
          refine w_go K 3 (c' := (58, [some (.ref 25), o1, some (.int a2), some (.int v3), some (.int v4), some (.int v5), some (.int (gI s 35 (ix v5))), o7], [.int (gI s 35 (ix v5)), .ref 33, .int (gI s 27 (ix (gI s 35 (ix v5))))], mT s)) rfl ?_
          refine w_ck K rfl ?_
          refine w_go K 7 (c' := (72, [some (.ref 25), o1, some (.int a2), some (.int v3), some (.int v4), some (.int v5), some (.int (gI s 35 (ix v5))), some (.int (((gI s 27 (ix (gI s 35 (ix v5)))) * (gI s 33 (ix (gI s 35 (ix v5))))) / 100))], [.int v3, .int (((gI s 27 (ix (gI s 35 (ix v5)))) * (gI s 33 (ix (gI s 35 (ix v5))))) / 100)], mT s)) rfl ?_
          refine w_br K rfl (fun _ => ?_) (fun _ => ?_)
          · refine w_go K 2 (c' := (14, [some (.ref 25), o1, some (.int a2), some (.int v3), some (.int v4), some (.int (v5 + 1)), some (.int (gI s 35 (ix v5))), some (.int (((gI s 27 (ix (gI s 35 (ix v5)))) * (gI s 33 (ix (gI s 35 (ix v5))))) / 100))], [], mT s)) rfl ?_
            exact fun a b => ih v3 v4 (v5 + 1) _ _ _ a b
          · refine w_go K 6 (c' := (14, [some (.ref 25), o1, some (.int a2), some (.int (((gI s 27 (ix (gI s 35 (ix v5)))) * (gI s 33 (ix (gI s 35 (ix v5))))) / 100)), some (.int (gI s 35 (ix v5))), some (.int (v5 + 1)), some (.int (gI s 35 (ix v5))), some (.int (((gI s 27 (ix (gI s 35 (ix v5)))) * (gI s 33 (ix (gI s 35 (ix v5))))) / 100))], [], mT s)) rfl ?_
            exact fun a b => ih (((gI s 27 (ix (gI s 35 (ix v5)))) * (gI s 33 (ix (gI s 35 (ix v5))))) / 100) (gI s 35 (ix v5)) (v5 + 1) _ _ _ a b
def f_Net_greatestLossOnWay (a1 : Int32) (s : mS) : Int32 × mS := ((lp_Net_greatestLossOnWay_14 ((f_Net_walkTo a1 s).1) ((f_Net_walkTo a1 s).2) mm_N ((-1) : Int32) ((-1) : Int32) (0 : Int32)).2.1, (f_Net_walkTo a1 s).2)
def ok_Net_greatestLossOnWay (a1 : Int32) (s : mS) : Prop := (ok_Net_walkTo a1 s ∧ (okl_Net_greatestLossOnWay_14 ((f_Net_walkTo a1 s).1) ((f_Net_walkTo a1 s).2) mm_N ((-1) : Int32) ((-1) : Int32) (0 : Int32) ∧ True))
theorem t_Net_greatestLossOnWay {len : Nat} {xs : Nat → Int32} (d : Nat) (a1 : Int32) (s : mS) {T : Option mm_R} (K : Int32 × mS → Prop) (hK : ∀ t, K t → some (some (.int t.1), mT t.2) = T) : ok_Net_greatestLossOnWay a1 s → K (f_Net_greatestLossOnWay a1 s) → mm_fix (mm_X len xs) mm_Y (mm_call (mm_X len xs) mm_Y (d + 3)) (mm_look mc_Net_greatestLossOnWay) (0, [some (.ref 25), some (.int a1), none, none, none, none, none, none], [], mT s) = T := by
  unfold ok_Net_greatestLossOnWay f_Net_greatestLossOnWay
  refine w_go K 2 (c' := (2, [some (.ref 25), some (.int a1), none, none, none, none, none, none], [.int a1, .ref 25], mT s)) rfl ?_
  refine w_call K rfl (m_Net_walkTo (len := len) (xs := xs) (d + 0) a1 s) ?_
  refine w_go K 7 (c' := (14, [some (.ref 25), some (.int a1), some (.int ((f_Net_walkTo a1 s).1)), some (.int (-1)), some (.int (-1)), some (.int 0), none, none], [], mT ((f_Net_walkTo a1 s).2))) rfl ?_
  refine w_loop K (D := ∀ (q1 : Option Value) (q2 : Option Value) (q3 : Option Value), mm_fix (mm_X len xs) mm_Y (mm_call (mm_X len xs) mm_Y (d + 3)) (mm_look mc_Net_greatestLossOnWay) (88, [some (.ref 25), q1, some (.int ((f_Net_walkTo a1 s).1)), some (.int ((lp_Net_greatestLossOnWay_14 ((f_Net_walkTo a1 s).1) ((f_Net_walkTo a1 s).2) mm_N ((-1) : Int32) ((-1) : Int32) (0 : Int32)).1)), some (.int ((lp_Net_greatestLossOnWay_14 ((f_Net_walkTo a1 s).1) ((f_Net_walkTo a1 s).2) mm_N ((-1) : Int32) ((-1) : Int32) (0 : Int32)).2.1)), some (.int ((lp_Net_greatestLossOnWay_14 ((f_Net_walkTo a1 s).1) ((f_Net_walkTo a1 s).2) mm_N ((-1) : Int32) ((-1) : Int32) (0 : Int32)).2.2)), q2, q3], [], mT ((f_Net_walkTo a1 s).2)) = T) (fun h1 h2 => tl_Net_greatestLossOnWay_14 (len := len) (xs := xs) d ((f_Net_walkTo a1 s).1) ((f_Net_walkTo a1 s).2) (T := T) (K := fun r => r = lp_Net_greatestLossOnWay_14 ((f_Net_walkTo a1 s).1) ((f_Net_walkTo a1 s).2) mm_N ((-1) : Int32) ((-1) : Int32) (0 : Int32)) (fun r hr => by subst hr; exact h2) mm_N ((-1) : Int32) ((-1) : Int32) (0 : Int32) _ _ _ h1 rfl) (fun h1 h2 q1 q2 q3 => ?_)
  revert h1 h2
  refine w_go K 1 (c' := (90, [some (.ref 25), q1, some (.int ((f_Net_walkTo a1 s).1)), some (.int ((lp_Net_greatestLossOnWay_14 ((f_Net_walkTo a1 s).1) ((f_Net_walkTo a1 s).2) mm_N ((-1) : Int32) ((-1) : Int32) (0 : Int32)).1)), some (.int ((lp_Net_greatestLossOnWay_14 ((f_Net_walkTo a1 s).1) ((f_Net_walkTo a1 s).2) mm_N ((-1) : Int32) ((-1) : Int32) (0 : Int32)).2.1)), some (.int ((lp_Net_greatestLossOnWay_14 ((f_Net_walkTo a1 s).1) ((f_Net_walkTo a1 s).2) mm_N ((-1) : Int32) ((-1) : Int32) (0 : Int32)).2.2)), q2, q3], [.int ((lp_Net_greatestLossOnWay_14 ((f_Net_walkTo a1 s).1) ((f_Net_walkTo a1 s).2) mm_N ((-1) : Int32) ((-1) : Int32) (0 : Int32)).2.1)], mT ((f_Net_walkTo a1 s).2))) rfl ?_
  exact w_ret K rfl (hK _)
theorem m_Net_greatestLossOnWay {len : Nat} {xs : Nat → Int32} (d : Nat) (a1 : Int32) (s : mS) : ok_Net_greatestLossOnWay a1 s → mm_call (mm_X len xs) mm_Y (d + 4) 125 [.ref 25, .int a1] (mT s) = some (some (.int (f_Net_greatestLossOnWay a1 s).1), mT (f_Net_greatestLossOnWay a1 s).2) := fun h => t_Net_greatestLossOnWay (len := len) (xs := xs) d a1 s (fun t => (some (some (.int t.1), mT t.2) : Option mm_R) = some (some (.int (f_Net_greatestLossOnWay a1 s).1), mT (f_Net_greatestLossOnWay a1 s).2)) (fun _ h => h) h rfl
def f_G_why (a1 : Int32) (a2 : Int32) (s : mS) : Int32 × mS := (if (gI s 0 9) = 0 then ((-1), s) else (if (f_Net_has a1 s) = 0 then ((-1), s) else (if (f_G_within a2 (0 : Int32) (1 : Int32) s) = 0 then ((-1), s) else (if (gI s 32 (ix a1)) < 20 then (if (gI s 0 14) = 0 then (if (f_Net_firstWetOnWay a1 s).1 = (-1) then (if a2 = 0 then (3, (f_Net_firstWetOnWay a1 s).2) else ((f_Net_greatestLossOnWay a1 ((f_Net_firstWetOnWay a1 s).2)).1, (f_Net_greatestLossOnWay a1 ((f_Net_firstWetOnWay a1 s).2)).2)) else (if a2 = 0 then (2, (f_Net_firstWetOnWay a1 s).2) else ((f_Net_firstWetOnWay a1 s).1, (f_Net_firstWetOnWay a1 s).2))) else (if a2 = 0 then (1, s) else ((-1), s))) else (if a2 = 0 then (0, s) else ((-1), s))))))
def ok_G_why (a1 : Int32) (a2 : Int32) (s : mS) : Prop := (if (gI s 0 9) = 0 then True else (if (f_Net_has a1 s) = 0 then True else (if (f_G_within a2 (0 : Int32) (1 : Int32) s) = 0 then True else (mm_inb a1 16 = true ∧ (if (gI s 32 (ix a1)) < 20 then (if (gI s 0 14) = 0 then (ok_Net_firstWetOnWay a1 s ∧ (if (f_Net_firstWetOnWay a1 s).1 = (-1) then (if a2 = 0 then True else (ok_Net_greatestLossOnWay a1 ((f_Net_firstWetOnWay a1 s).2) ∧ True)) else True)) else True) else True)))))
theorem t_G_why {len : Nat} {xs : Nat → Int32} (d : Nat) (a1 : Int32) (a2 : Int32) (s : mS) {T : Option mm_R} (K : Int32 × mS → Prop) (hK : ∀ t, K t → some (some (.int t.1), mT t.2) = T) : ok_G_why a1 a2 s → K (f_G_why a1 a2 s) → mm_fix (mm_X len xs) mm_Y (mm_call (mm_X len xs) mm_Y (d + 4)) (mm_look mc_G_why) (0, [some (.ref 0), some (.int a1), some (.int a2), none], [], mT s) = T := by
  unfold ok_G_why f_G_why
  refine w_go K 2 (c' := (4, [some (.ref 0), some (.int a1), some (.int a2), none], [.int (gI s 0 9)], mT s)) rfl ?_
  refine w_br K rfl (fun _ => ?_) (fun _ => ?_)
  · refine w_go K 1 (c' := (28, [some (.ref 0), some (.int a1), some (.int a2), none], [.int (-1)], mT s)) rfl ?_
    exact w_ret K rfl (hK _)
  · refine w_go K 3 (c' := (12, [some (.ref 0), some (.int a1), some (.int a2), none], [.int a1, .ref 25], mT s)) rfl ?_
    refine w_callT K rfl (m_Net_has (len := len) (xs := xs) (d + 3) a1 s) ?_
    refine w_go K 0 (c' := (15, [some (.ref 0), some (.int a1), some (.int a2), none], [.int (f_Net_has a1 s)], mT s)) rfl ?_
    refine w_br K rfl (fun _ => ?_) (fun _ => ?_)
    · refine w_go K 1 (c' := (28, [some (.ref 0), some (.int a1), some (.int a2), none], [.int (-1)], mT s)) rfl ?_
      exact w_ret K rfl (hK _)
    · refine w_go K 3 (c' := (21, [some (.ref 0), some (.int a1), some (.int a2), none], [.int 1, .int 0, .int a2], mT s)) rfl ?_
      refine w_callT K rfl (m_G_within (len := len) (xs := xs) (d + 3) a2 (0 : Int32) (1 : Int32) s) ?_
      refine w_go K 0 (c' := (24, [some (.ref 0), some (.int a1), some (.int a2), none], [.int (f_G_within a2 (0 : Int32) (1 : Int32) s)], mT s)) rfl ?_
      refine w_br K rfl (fun _ => ?_) (fun _ => ?_)
      · refine w_go K 1 (c' := (28, [some (.ref 0), some (.int a1), some (.int a2), none], [.int (-1)], mT s)) rfl ?_
        exact w_ret K rfl (hK _)
      · refine w_go K 4 (c' := (37, [some (.ref 0), some (.int a1), some (.int a2), none], [.int a1, .ref 32], mT s)) rfl ?_
        refine w_ck K rfl ?_
        refine w_go K 1 (c' := (40, [some (.ref 0), some (.int a1), some (.int a2), none], [.int 20, .int (gI s 32 (ix a1))], mT s)) rfl ?_
        refine w_br K rfl (fun _ => ?_) (fun _ => ?_)
        · refine w_go K 2 (c' := (57, [some (.ref 0), some (.int a1), some (.int a2), none], [.int (gI s 0 14)], mT s)) rfl ?_
          refine w_br K rfl (fun _ => ?_) (fun _ => ?_)
          · refine w_go K 3 (c' := (75, [some (.ref 0), some (.int a1), some (.int a2), none], [.int a1, .ref 25], mT s)) rfl ?_
            refine w_call K rfl (m_Net_firstWetOnWay (len := len) (xs := xs) (d + 0) a1 s) ?_
            refine w_go K 3 (c' := (81, [some (.ref 0), some (.int a1), some (.int a2), some (.int ((f_Net_firstWetOnWay a1 s).1))], [.int (-1), .int ((f_Net_firstWetOnWay a1 s).1)], mT ((f_Net_firstWetOnWay a1 s).2))) rfl ?_
            refine w_br K rfl (fun _ => ?_) (fun _ => ?_)
            · refine w_go K 1 (c' := (95, [some (.ref 0), some (.int a1), some (.int a2), some (.int ((f_Net_firstWetOnWay a1 s).1))], [.int a2], mT ((f_Net_firstWetOnWay a1 s).2))) rfl ?_
              refine w_br K rfl (fun _ => ?_) (fun _ => ?_)
              · refine w_go K 2 (c' := (110, [some (.ref 0), some (.int a1), some (.int a2), some (.int ((f_Net_firstWetOnWay a1 s).1))], [.int 3], mT ((f_Net_firstWetOnWay a1 s).2))) rfl ?_
                exact w_ret K rfl (hK _)
              · refine w_go K 3 (c' := (107, [some (.ref 0), some (.int a1), some (.int a2), some (.int ((f_Net_firstWetOnWay a1 s).1))], [.int a1, .ref 25], mT ((f_Net_firstWetOnWay a1 s).2))) rfl ?_
                refine w_call K rfl (m_Net_greatestLossOnWay (len := len) (xs := xs) (d + 0) a1 ((f_Net_firstWetOnWay a1 s).2)) ?_
                refine w_go K 0 (c' := (110, [some (.ref 0), some (.int a1), some (.int a2), some (.int ((f_Net_firstWetOnWay a1 s).1))], [.int ((f_Net_greatestLossOnWay a1 ((f_Net_firstWetOnWay a1 s).2)).1)], mT ((f_Net_greatestLossOnWay a1 ((f_Net_firstWetOnWay a1 s).2)).2))) rfl ?_
                exact w_ret K rfl (hK _)
            · refine w_go K 1 (c' := (85, [some (.ref 0), some (.int a1), some (.int a2), some (.int ((f_Net_firstWetOnWay a1 s).1))], [.int a2], mT ((f_Net_firstWetOnWay a1 s).2))) rfl ?_
              refine w_brT K rfl (fun _ => ?_) (fun _ => ?_)
              · refine w_go K 2 (c' := (93, [some (.ref 0), some (.int a1), some (.int a2), some (.int ((f_Net_firstWetOnWay a1 s).1))], [.int 2], mT ((f_Net_firstWetOnWay a1 s).2))) rfl ?_
                exact w_ret K rfl (hK _)
              · refine w_go K 1 (c' := (93, [some (.ref 0), some (.int a1), some (.int a2), some (.int ((f_Net_firstWetOnWay a1 s).1))], [.int ((f_Net_firstWetOnWay a1 s).1)], mT ((f_Net_firstWetOnWay a1 s).2))) rfl ?_
                exact w_ret K rfl (hK _)
          · refine w_go K 1 (c' := (61, [some (.ref 0), some (.int a1), some (.int a2), none], [.int a2], mT s)) rfl ?_
            refine w_brT K rfl (fun _ => ?_) (fun _ => ?_)
            · refine w_go K 2 (c' := (69, [some (.ref 0), some (.int a1), some (.int a2), none], [.int 1], mT s)) rfl ?_
              exact w_ret K rfl (hK _)
            · refine w_go K 1 (c' := (69, [some (.ref 0), some (.int a1), some (.int a2), none], [.int (-1)], mT s)) rfl ?_
              exact w_ret K rfl (hK _)
        · refine w_go K 1 (c' := (44, [some (.ref 0), some (.int a1), some (.int a2), none], [.int a2], mT s)) rfl ?_
          refine w_brT K rfl (fun _ => ?_) (fun _ => ?_)
          · refine w_go K 2 (c' := (52, [some (.ref 0), some (.int a1), some (.int a2), none], [.int 0], mT s)) rfl ?_
            exact w_ret K rfl (hK _)
          · refine w_go K 1 (c' := (52, [some (.ref 0), some (.int a1), some (.int a2), none], [.int (-1)], mT s)) rfl ?_
            exact w_ret K rfl (hK _)
theorem m_G_why {len : Nat} {xs : Nat → Int32} (d : Nat) (a1 : Int32) (a2 : Int32) (s : mS) : ok_G_why a1 a2 s → mm_call (mm_X len xs) mm_Y (d + 5) 122 [.ref 0, .int a1, .int a2] (mT s) = some (some (.int (f_G_why a1 a2 s).1), mT (f_G_why a1 a2 s).2) := fun h => t_G_why (len := len) (xs := xs) d a1 a2 s (fun t => (some (some (.int t.1), mT t.2) : Option mm_R) = some (some (.int (f_G_why a1 a2 s).1), mT (f_G_why a1 a2 s).2)) (fun _ h => h) h rfl
def f_Works_gasOf (a0 : Int32) (a1 : Int32) (s : mS) : Int32 := (if a1 < 1 then 0 else (if a1 ≤ 16 then (((a0 * (mm_parts.getD (ix a1) 0)) / 72) - ((a0 * (mm_parts.getD (ix (a1 - 1)) 0)) / 72)) else 0))
def ok_Works_gasOf (a0 : Int32) (a1 : Int32) (s : mS) : Prop := (if a1 < 1 then True else (if a1 ≤ 16 then (mm_inb a1 17 = true ∧ (mm_inb (a1 - 1) 17 = true ∧ True)) else True))
theorem t_Works_gasOf {len : Nat} {xs : Nat → Int32} (d : Nat) (a0 : Int32) (a1 : Int32) (s : mS) {T : Option mm_R} (K : Int32 → Prop) (hK : ∀ t, K t → some (some (.int t), mT s) = T) : ok_Works_gasOf a0 a1 s → K (f_Works_gasOf a0 a1 s) → mm_fix (mm_X len xs) mm_Y (mm_call (mm_X len xs) mm_Y (d + 0)) (mm_look mc_Works_gasOf) (0, [some (.int a0), some (.int a1)], [], mT s) = T := by
  unfold ok_Works_gasOf f_Works_gasOf
  refine w_go K 2 (c' := (2, [some (.int a0), some (.int a1)], [.int 1, .int a1], mT s)) rfl ?_
  refine w_br K rfl (fun _ => ?_) (fun _ => ?_)
  · refine w_go K 2 (c' := (38, [some (.int a0), some (.int a1)], [.int 0], mT s)) rfl ?_
    exact w_ret K rfl (hK _)
  · refine w_go K 2 (c' := (8, [some (.int a0), some (.int a1)], [.int 16, .int a1], mT s)) rfl ?_
    refine w_br K rfl (fun _ => ?_) (fun _ => ?_)
    · refine w_go K 3 (c' := (20, [some (.int a0), some (.int a1)], [.int a1, .ref 1000000, .int a0], mT s)) rfl ?_
      refine w_ck K (mm_x0 rfl) ?_
      refine w_go K 8 (c' := (32, [some (.int a0), some (.int a1)], [.int (a1 - 1), .ref 1000000, .int a0, .int ((a0 * (mm_parts.getD (ix a1) 0)) / 72)], mT s)) rfl ?_
      refine w_ck K (mm_x0 rfl) ?_
      refine w_go K 4 (c' := (38, [some (.int a0), some (.int a1)], [.int (((a0 * (mm_parts.getD (ix a1) 0)) / 72) - ((a0 * (mm_parts.getD (ix (a1 - 1)) 0)) / 72))], mT s)) rfl ?_
      exact w_ret K rfl (hK _)
    · refine w_go K 2 (c' := (38, [some (.int a0), some (.int a1)], [.int 0], mT s)) rfl ?_
      exact w_ret K rfl (hK _)
theorem m_Works_gasOf {len : Nat} {xs : Nat → Int32} (d : Nat) (a0 : Int32) (a1 : Int32) (s : mS) : ok_Works_gasOf a0 a1 s → mm_call (mm_X len xs) mm_Y (d + 1) 42 [.int a0, .int a1] (mT s) = some (some (.int (f_Works_gasOf a0 a1 s)), mT s) := fun h => t_Works_gasOf (len := len) (xs := xs) d a0 a1 s (fun t => (some (some (.int t), mT s) : Option mm_R) = some (some (.int (f_Works_gasOf a0 a1 s)), mT s)) (fun _ h => h) h rfl
def lp_Works_gasLater_4 (a1 : Int32) (s : mS) : Nat → Int32 → Int32 → Int32 × Int32
  | 0, v2, v3 => (v2, v3)
  | n + 1, v2, v3 => (if (6 : Int32) ≤ v3 then (v2, v3) else (if (gI s 8 (ix v3)) ≤ a1 then (lp_Works_gasLater_4 a1 s n v2 (v3 + 1)) else (lp_Works_gasLater_4 a1 s n (v2 + (f_Works_gasOf (gI s 9 (ix v3)) ((17 - (gI s 8 (ix v3))) + a1) s)) (v3 + 1))))
def okl_Works_gasLater_4 (a1 : Int32) (s : mS) : Nat → Int32 → Int32 → Prop
  | 0, v2, v3 => False
  | n + 1, v2, v3 => (if (6 : Int32) ≤ v3 then True else (mm_inb v3 6 = true ∧ (if (gI s 8 (ix v3)) ≤ a1 then (okl_Works_gasLater_4 a1 s n v2 (v3 + 1)) else (mm_inb v3 6 = true ∧ (mm_inb v3 6 = true ∧ (ok_Works_gasOf (gI s 9 (ix v3)) ((17 - (gI s 8 (ix v3))) + a1) s ∧ (okl_Works_gasLater_4 a1 s n (v2 + (f_Works_gasOf (gI s 9 (ix v3)) ((17 - (gI s 8 (ix v3))) + a1) s)) (v3 + 1))))))))
theorem tl_Works_gasLater_4 {len : Nat} {xs : Nat → Int32} (d : Nat) (a1 : Int32) (s : mS) {T : Option mm_R} (K : Int32 × Int32 → Prop) (hX : ∀ r, K r → mm_fix (mm_X len xs) mm_Y (mm_call (mm_X len xs) mm_Y (d + 1)) (mm_look mc_Works_gasLater) (49, [some (.ref 3), some (.int a1), some (.int r.1), some (.int r.2)], [], mT s) = T) : ∀ (n : Nat), ∀ (v2 : Int32) (v3 : Int32), okl_Works_gasLater_4 a1 s n v2 v3 → K (lp_Works_gasLater_4 a1 s n v2 v3) → mm_fix (mm_X len xs) mm_Y (mm_call (mm_X len xs) mm_Y (d + 1)) (mm_look mc_Works_gasLater) (4, [some (.ref 3), some (.int a1), some (.int v2), some (.int v3)], [], mT s) = T := by
  intro n
  induction n with
  | zero => intro v2 v3; exact fun h => h.elim
  | succ n ih =>
    intro v2 v3
    rw [okl_Works_gasLater_4, lp_Works_gasLater_4]
    refine w_go K 2 (c' := (7, [some (.ref 3), some (.int a1), some (.int v2), some (.int v3)], [.int 6, .int v3], mT s)) rfl ?_
    refine w_br K rfl (fun _ => ?_) (fun _ => ?_)
    · refine w_go K 0 (c' := (49, [some (.ref 3), some (.int a1), some (.int v2), some (.int v3)], [], mT s)) rfl ?_
      exact fun _ b => hX _ b
    · refine w_go K 3 (c' := (15, [some (.ref 3), some (.int a1), some (.int v2), some (.int v3)], [.int v3, .ref 8], mT s)) rfl ?_
      refine w_ck K rfl ?_
      refine w_go K 1 (c' := (17, [some (.ref 3), some (.int a1), some (.int v2), some (.int v3)], [.int a1, .int (gI s 8 (ix v3))], mT s)) rfl ?_
      refine w_br K rfl (fun _ => ?_) (fun _ => ?_)
      · refine w_go K 2 (c' := (4, [some (.ref 3), some (.int a1), some (.int v2), some (.int (v3 + 1))], [], mT s)) rfl ?_
        exact fun a b => ih v2 (v3 + 1) a b
      · refine w_go K 4 (c' := (26, [some (.ref 3), some (.int a1), some (.int v2), some (.int v3)], [.int v3, .ref 9, .int v2], mT s)) rfl ?_
        refine w_ck K rfl ?_
        refine w_go K 4 (c' := (34, [some (.ref 3), some (.int a1), some (.int v2), some (.int v3)], [.int v3, .ref 8, .int 17, .int (gI s 9 (ix v3)), .int v2], mT s)) rfl ?_
        refine w_ck K rfl ?_
        refine w_go K 3 (c' := (38, [some (.ref 3), some (.int a1), some (.int v2), some (.int v3)], [.int ((17 - (gI s 8 (ix v3))) + a1), .int (gI s 9 (ix v3)), .int v2], mT s)) rfl ?_
        refine w_call K rfl (m_Works_gasOf (len := len) (xs := xs) (d + 0) (gI s 9 (ix v3)) ((17 - (gI s 8 (ix v3))) + a1) s) ?_
        refine w_go K 4 (c' := (4, [some (.ref 3), some (.int a1), some (.int (v2 + (f_Works_gasOf (gI s 9 (ix v3)) ((17 - (gI s 8 (ix v3))) + a1) s))), some (.int (v3 + 1))], [], mT s)) rfl ?_
        exact fun a b => ih (v2 + (f_Works_gasOf (gI s 9 (ix v3)) ((17 - (gI s 8 (ix v3))) + a1) s)) (v3 + 1) a b
def f_Works_gasLater (a1 : Int32) (s : mS) : Int32 := (lp_Works_gasLater_4 a1 s mm_N (0 : Int32) (0 : Int32)).1
def ok_Works_gasLater (a1 : Int32) (s : mS) : Prop := (okl_Works_gasLater_4 a1 s mm_N (0 : Int32) (0 : Int32) ∧ True)
theorem t_Works_gasLater {len : Nat} {xs : Nat → Int32} (d : Nat) (a1 : Int32) (s : mS) {T : Option mm_R} (K : Int32 → Prop) (hK : ∀ t, K t → some (some (.int t), mT s) = T) : ok_Works_gasLater a1 s → K (f_Works_gasLater a1 s) → mm_fix (mm_X len xs) mm_Y (mm_call (mm_X len xs) mm_Y (d + 1)) (mm_look mc_Works_gasLater) (0, [some (.ref 3), some (.int a1), none, none], [], mT s) = T := by
  unfold ok_Works_gasLater f_Works_gasLater
  refine w_go K 4 (c' := (4, [some (.ref 3), some (.int a1), some (.int 0), some (.int 0)], [], mT s)) rfl ?_
  refine w_loop K (D := mm_fix (mm_X len xs) mm_Y (mm_call (mm_X len xs) mm_Y (d + 1)) (mm_look mc_Works_gasLater) (49, [some (.ref 3), some (.int a1), some (.int ((lp_Works_gasLater_4 a1 s mm_N (0 : Int32) (0 : Int32)).1)), some (.int ((lp_Works_gasLater_4 a1 s mm_N (0 : Int32) (0 : Int32)).2))], [], mT s) = T) (fun h1 h2 => tl_Works_gasLater_4 (len := len) (xs := xs) d a1 s (T := T) (K := fun r => r = lp_Works_gasLater_4 a1 s mm_N (0 : Int32) (0 : Int32)) (fun r hr => by subst hr; exact h2) mm_N (0 : Int32) (0 : Int32) h1 rfl) (fun h1 h2 => ?_)
  revert h1 h2
  refine w_go K 1 (c' := (50, [some (.ref 3), some (.int a1), some (.int ((lp_Works_gasLater_4 a1 s mm_N (0 : Int32) (0 : Int32)).1)), some (.int ((lp_Works_gasLater_4 a1 s mm_N (0 : Int32) (0 : Int32)).2))], [.int ((lp_Works_gasLater_4 a1 s mm_N (0 : Int32) (0 : Int32)).1)], mT s)) rfl ?_
  exact w_ret K rfl (hK _)
theorem m_Works_gasLater {len : Nat} {xs : Nat → Int32} (d : Nat) (a1 : Int32) (s : mS) : ok_Works_gasLater a1 s → mm_call (mm_X len xs) mm_Y (d + 2) 41 [.ref 3, .int a1] (mT s) = some (some (.int (f_Works_gasLater a1 s)), mT s) := fun h => t_Works_gasLater (len := len) (xs := xs) d a1 s (fun t => (some (some (.int t), mT s) : Option mm_R) = some (some (.int (f_Works_gasLater a1 s)), mT s)) (fun _ h => h) h rfl
def lp_Things_allWants_5 (a1 : Int32) (s : mS) : Nat → Int32 → Int32 → Int32 × Int32
  | 0, v3, v4 => (v3, v4)
  | n + 1, v3, v4 => (if (gI s 12 12) ≤ v4 then (v3, v4) else (lp_Things_allWants_5 a1 s n (v3 + (f_Things_wantOf v4 a1 s)) (v4 + 1)))
def okl_Things_allWants_5 (a1 : Int32) (s : mS) : Nat → Int32 → Int32 → Prop
  | 0, v3, v4 => False
  | n + 1, v3, v4 => (if (gI s 12 12) ≤ v4 then True else (ok_Things_wantOf v4 a1 s ∧ (okl_Things_allWants_5 a1 s n (v3 + (f_Things_wantOf v4 a1 s)) (v4 + 1))))
theorem tl_Things_allWants_5 {len : Nat} {xs : Nat → Int32} (d : Nat) (a1 : Int32) (s : mS) {T : Option mm_R} (K : Int32 × Int32 → Prop) (hX : ∀ r, K r → mm_fix (mm_X len xs) mm_Y (mm_call (mm_X len xs) mm_Y (d + 4)) (mm_look mc_Things_allWants) (31, [some (.ref 12), some (.int a1), some (.ref 1), some (.int r.1), some (.int r.2)], [], mT s) = T) : ∀ (n : Nat), ∀ (v3 : Int32) (v4 : Int32), okl_Things_allWants_5 a1 s n v3 v4 → K (lp_Things_allWants_5 a1 s n v3 v4) → mm_fix (mm_X len xs) mm_Y (mm_call (mm_X len xs) mm_Y (d + 4)) (mm_look mc_Things_allWants) (5, [some (.ref 12), some (.int a1), some (.ref 1), some (.int v3), some (.int v4)], [], mT s) = T := by
  intro n
  induction n with
  | zero => intro v3 v4; exact fun h => h.elim
  | succ n ih =>
    intro v3 v4
    rw [okl_Things_allWants_5, lp_Things_allWants_5]
    refine w_go K 3 (c' := (11, [some (.ref 12), some (.int a1), some (.ref 1), some (.int v3), some (.int v4)], [.int (gI s 12 12), .int v4], mT s)) rfl ?_
    refine w_br K rfl (fun _ => ?_) (fun _ => ?_)
    · refine w_go K 0 (c' := (31, [some (.ref 12), some (.int a1), some (.ref 1), some (.int v3), some (.int v4)], [], mT s)) rfl ?_
      exact fun _ b => hX _ b
    · refine w_go K 5 (c' := (20, [some (.ref 12), some (.int a1), some (.ref 1), some (.int v3), some (.int v4)], [.ref 1, .int a1, .int v4, .ref 12, .int v3], mT s)) rfl ?_
      refine w_call K rfl (m_Things_wantOf (len := len) (xs := xs) (d + 0) v4 a1 s) ?_
      refine w_go K 4 (c' := (5, [some (.ref 12), some (.int a1), some (.ref 1), some (.int (v3 + (f_Things_wantOf v4 a1 s))), some (.int (v4 + 1))], [], mT s)) rfl ?_
      exact fun a b => ih (v3 + (f_Things_wantOf v4 a1 s)) (v4 + 1) a b
def f_Things_allWants (a1 : Int32) (s : mS) : Int32 := (lp_Things_allWants_5 a1 s mm_N (0 : Int32) (0 : Int32)).1
def ok_Things_allWants (a1 : Int32) (s : mS) : Prop := (okl_Things_allWants_5 a1 s mm_N (0 : Int32) (0 : Int32) ∧ True)
theorem t_Things_allWants {len : Nat} {xs : Nat → Int32} (d : Nat) (a1 : Int32) (s : mS) {T : Option mm_R} (K : Int32 → Prop) (hK : ∀ t, K t → some (some (.int t), mT s) = T) : ok_Things_allWants a1 s → K (f_Things_allWants a1 s) → mm_fix (mm_X len xs) mm_Y (mm_call (mm_X len xs) mm_Y (d + 4)) (mm_look mc_Things_allWants) (0, [some (.ref 12), some (.int a1), some (.ref 1), none, none], [], mT s) = T := by
  unfold ok_Things_allWants f_Things_allWants
  refine w_go K 4 (c' := (5, [some (.ref 12), some (.int a1), some (.ref 1), some (.int 0), some (.int 0)], [], mT s)) rfl ?_
  refine w_loop K (D := mm_fix (mm_X len xs) mm_Y (mm_call (mm_X len xs) mm_Y (d + 4)) (mm_look mc_Things_allWants) (31, [some (.ref 12), some (.int a1), some (.ref 1), some (.int ((lp_Things_allWants_5 a1 s mm_N (0 : Int32) (0 : Int32)).1)), some (.int ((lp_Things_allWants_5 a1 s mm_N (0 : Int32) (0 : Int32)).2))], [], mT s) = T) (fun h1 h2 => tl_Things_allWants_5 (len := len) (xs := xs) d a1 s (T := T) (K := fun r => r = lp_Things_allWants_5 a1 s mm_N (0 : Int32) (0 : Int32)) (fun r hr => by subst hr; exact h2) mm_N (0 : Int32) (0 : Int32) h1 rfl) (fun h1 h2 => ?_)
  revert h1 h2
  refine w_go K 1 (c' := (32, [some (.ref 12), some (.int a1), some (.ref 1), some (.int ((lp_Things_allWants_5 a1 s mm_N (0 : Int32) (0 : Int32)).1)), some (.int ((lp_Things_allWants_5 a1 s mm_N (0 : Int32) (0 : Int32)).2))], [.int ((lp_Things_allWants_5 a1 s mm_N (0 : Int32) (0 : Int32)).1)], mT s)) rfl ?_
  exact w_ret K rfl (hK _)
theorem m_Things_allWants {len : Nat} {xs : Nat → Int32} (d : Nat) (a1 : Int32) (s : mS) : ok_Things_allWants a1 s → mm_call (mm_X len xs) mm_Y (d + 5) 128 [.ref 12, .int a1, .ref 1] (mT s) = some (some (.int (f_Things_allWants a1 s)), mT s) := fun h => t_Things_allWants (len := len) (xs := xs) d a1 s (fun t => (some (some (.int t), mT s) : Option mm_R) = some (some (.int (f_Things_allWants a1 s)), mT s)) (fun _ h => h) h rfl
def lp_Night_firstShort_9 (a1 : Int32) (s : mS) : Nat → Int32 → Int32 → Option Int32 × Int32 × Int32
  | 0, v5, v6 => (none, v5, v6)
  | n + 1, v5, v6 => (if (192 : Int32) ≤ v6 then (none, v5, v6) else (if (0 : Int32) ≤ ((if (v5 + (f_Works_gasLater v6 s)) < (gI s 3 11) then (v5 + (f_Works_gasLater v6 s)) else (gI s 3 11)) - (f_Things_allWants (a1 + v6) s)) then (lp_Night_firstShort_9 a1 s n ((if (v5 + (f_Works_gasLater v6 s)) < (gI s 3 11) then (v5 + (f_Works_gasLater v6 s)) else (gI s 3 11)) - (f_Things_allWants (a1 + v6) s)) (v6 + 1)) else (some (a1 + v6), v5, v6)))
def okl_Night_firstShort_9 (a1 : Int32) (s : mS) : Nat → Int32 → Int32 → Prop
  | 0, v5, v6 => False
  | n + 1, v5, v6 => (if (192 : Int32) ≤ v6 then True else (ok_Works_gasLater v6 s ∧ (ok_Things_allWants (a1 + v6) s ∧ (if (0 : Int32) ≤ ((if (v5 + (f_Works_gasLater v6 s)) < (gI s 3 11) then (v5 + (f_Works_gasLater v6 s)) else (gI s 3 11)) - (f_Things_allWants (a1 + v6) s)) then (okl_Night_firstShort_9 a1 s n ((if (v5 + (f_Works_gasLater v6 s)) < (gI s 3 11) then (v5 + (f_Works_gasLater v6 s)) else (gI s 3 11)) - (f_Things_allWants (a1 + v6) s)) (v6 + 1)) else True))))
theorem tl_Night_firstShort_9 {len : Nat} {xs : Nat → Int32} (d : Nat) (a1 : Int32) (s : mS) {T : Option mm_R} (K : Option Int32 × Int32 × Int32 → Prop) (hX : ∀ r, K r → r.1 = none → ∀ (o0 : Option Value), mm_fix (mm_X len xs) mm_Y (mm_call (mm_X len xs) mm_Y (d + 5)) (mm_look mc_Night_firstShort) (62, [o0, some (.int a1), some (.ref 3), some (.ref 12), some (.ref 1), some (.int r.2.1), some (.int r.2.2)], [], mT s) = T) (hR : ∀ r, K r → ∀ v, r.1 = some v → some (some (.int v), mT s) = T) : ∀ (n : Nat), ∀ (v5 : Int32) (v6 : Int32) (o0 : Option Value), okl_Night_firstShort_9 a1 s n v5 v6 → K (lp_Night_firstShort_9 a1 s n v5 v6) → mm_fix (mm_X len xs) mm_Y (mm_call (mm_X len xs) mm_Y (d + 5)) (mm_look mc_Night_firstShort) (9, [o0, some (.int a1), some (.ref 3), some (.ref 12), some (.ref 1), some (.int v5), some (.int v6)], [], mT s) = T := by
  intro n
  induction n with
  | zero => intro v5 v6 o0; exact fun h => h.elim
  | succ n ih =>
    intro v5 v6 o0
    rw [okl_Night_firstShort_9, lp_Night_firstShort_9]
    refine w_go K 2 (c' := (14, [o0, some (.int a1), some (.ref 3), some (.ref 12), some (.ref 1), some (.int v5), some (.int v6)], [.int 192, .int v6], mT s)) rfl ?_
    refine w_br K rfl (fun _ => ?_) (fun _ => ?_)
    · refine w_go K 0 (c' := (62, [o0, some (.int a1), some (.ref 3), some (.ref 12), some (.ref 1), some (.int v5), some (.int v6)], [], mT s)) rfl ?_
      exact fun _ b => hX _ b rfl _
    · refine w_go K 5 (c' := (26, [o0, some (.int a1), some (.ref 3), some (.ref 12), some (.ref 1), some (.int v5), some (.int v6)], [.int v6, .ref 3, .int v5, .int (gI s 3 11)], mT s)) rfl ?_
      refine w_call K rfl (m_Works_gasLater (len := len) (xs := xs) (d + 3) v6 s) ?_
      refine w_go K 7 (c' := (40, [o0, some (.int a1), some (.ref 3), some (.ref 12), some (.ref 1), some (.int v5), some (.int v6)], [.ref 1, .int (a1 + v6), .ref 12, .int (if (v5 + (f_Works_gasLater v6 s)) < (gI s 3 11) then (v5 + (f_Works_gasLater v6 s)) else (gI s 3 11))], mT s)) rfl ?_
      refine w_call K rfl (m_Things_allWants (len := len) (xs := xs) (d + 0) (a1 + v6) s) ?_
      refine w_go K 3 (c' := (48, [o0, some (.int a1), some (.ref 3), some (.ref 12), some (.ref 1), some (.int ((if (v5 + (f_Works_gasLater v6 s)) < (gI s 3 11) then (v5 + (f_Works_gasLater v6 s)) else (gI s 3 11)) - (f_Things_allWants (a1 + v6) s))), some (.int v6)], [.int ((if (v5 + (f_Works_gasLater v6 s)) < (gI s 3 11) then (v5 + (f_Works_gasLater v6 s)) else (gI s 3 11)) - (f_Things_allWants (a1 + v6) s))], mT s)) rfl ?_
      refine w_br K rfl (fun _ => ?_) (fun _ => ?_)
      · refine w_go K 2 (c' := (9, [o0, some (.int a1), some (.ref 3), some (.ref 12), some (.ref 1), some (.int ((if (v5 + (f_Works_gasLater v6 s)) < (gI s 3 11) then (v5 + (f_Works_gasLater v6 s)) else (gI s 3 11)) - (f_Things_allWants (a1 + v6) s))), some (.int (v6 + 1))], [], mT s)) rfl ?_
        exact fun a b => ih ((if (v5 + (f_Works_gasLater v6 s)) < (gI s 3 11) then (v5 + (f_Works_gasLater v6 s)) else (gI s 3 11)) - (f_Things_allWants (a1 + v6) s)) (v6 + 1) _ a b
      · refine w_go K 3 (c' := (55, [o0, some (.int a1), some (.ref 3), some (.ref 12), some (.ref 1), some (.int ((if (v5 + (f_Works_gasLater v6 s)) < (gI s 3 11) then (v5 + (f_Works_gasLater v6 s)) else (gI s 3 11)) - (f_Things_allWants (a1 + v6) s))), some (.int v6)], [.int (a1 + v6)], mT s)) rfl ?_
        exact w_ret K rfl (fun h => hR _ h _ rfl)
def f_Night_firstShort (a1 : Int32) (s : mS) : Int32 := (mq_el ((lp_Night_firstShort_9 a1 s mm_N (gI s 3 12) (0 : Int32)).1) (fun v => v) (-1))
def ok_Night_firstShort (a1 : Int32) (s : mS) : Prop := (okl_Night_firstShort_9 a1 s mm_N (gI s 3 12) (0 : Int32) ∧ mq_elP ((lp_Night_firstShort_9 a1 s mm_N (gI s 3 12) (0 : Int32)).1) True)
theorem t_Night_firstShort {len : Nat} {xs : Nat → Int32} (d : Nat) (a1 : Int32) (s : mS) {T : Option mm_R} (K : Int32 → Prop) (hK : ∀ t, K t → some (some (.int t), mT s) = T) : ok_Night_firstShort a1 s → K (f_Night_firstShort a1 s) → mm_fix (mm_X len xs) mm_Y (mm_call (mm_X len xs) mm_Y (d + 5)) (mm_look mc_Night_firstShort) (0, [some (.ref 94), some (.int a1), some (.ref 3), some (.ref 12), some (.ref 1), none, none], [], mT s) = T := by
  unfold ok_Night_firstShort f_Night_firstShort
  refine w_go K 5 (c' := (9, [some (.ref 94), some (.int a1), some (.ref 3), some (.ref 12), some (.ref 1), some (.int (gI s 3 12)), some (.int 0)], [], mT s)) rfl ?_
  refine w_loopR K (D1 := some (some (.int (mq_get ((lp_Night_firstShort_9 a1 s mm_N (gI s 3 12) (0 : Int32)).1) 0)), mT s) = T) (D2 := ∀ (q1 : Option Value), mm_fix (mm_X len xs) mm_Y (mm_call (mm_X len xs) mm_Y (d + 5)) (mm_look mc_Night_firstShort) (62, [q1, some (.int a1), some (.ref 3), some (.ref 12), some (.ref 1), some (.int ((lp_Night_firstShort_9 a1 s mm_N (gI s 3 12) (0 : Int32)).2.1)), some (.int ((lp_Night_firstShort_9 a1 s mm_N (gI s 3 12) (0 : Int32)).2.2))], [], mT s) = T) (fun h1 h2 => tl_Night_firstShort_9 (len := len) (xs := xs) d a1 s (T := T) (K := fun r => r = lp_Night_firstShort_9 a1 s mm_N (gI s 3 12) (0 : Int32)) (fun r hr hn => by subst hr; exact h2.2 hn) (fun r hr v hv => by subst hr; have h3 := h2.1 v hv; rw [hv] at h3; exact h3) mm_N (gI s 3 12) (0 : Int32) _ h1 rfl) (fun v hv h => by rw [hv]; exact hK _ h) (fun h1 h2 q1 => ?_)
  revert h1 h2
  refine w_go K 1 (c' := (63, [q1, some (.int a1), some (.ref 3), some (.ref 12), some (.ref 1), some (.int ((lp_Night_firstShort_9 a1 s mm_N (gI s 3 12) (0 : Int32)).2.1)), some (.int ((lp_Night_firstShort_9 a1 s mm_N (gI s 3 12) (0 : Int32)).2.2))], [.int (-1)], mT s)) rfl ?_
  exact w_ret K rfl (hK _)
theorem m_Night_firstShort {len : Nat} {xs : Nat → Int32} (d : Nat) (a1 : Int32) (s : mS) : ok_Night_firstShort a1 s → mm_call (mm_X len xs) mm_Y (d + 6) 136 [.ref 94, .int a1, .ref 3, .ref 12, .ref 1] (mT s) = some (some (.int (f_Night_firstShort a1 s)), mT s) := fun h => t_Night_firstShort (len := len) (xs := xs) d a1 s (fun t => (some (some (.int t), mT s) : Option mm_R) = some (some (.int (f_Night_firstShort a1 s)), mT s)) (fun _ h => h) h rfl
def f_G_last (s : mS) : Int32 := (f_Night_firstShort (gI s 0 9) s)
def ok_G_last (s : mS) : Prop := (ok_Night_firstShort (gI s 0 9) s ∧ True)
theorem t_G_last {len : Nat} {xs : Nat → Int32} (d : Nat) (s : mS) {T : Option mm_R} (K : Int32 → Prop) (hK : ∀ t, K t → some (some (.int t), mT s) = T) : ok_G_last s → K (f_G_last s) → mm_fix (mm_X len xs) mm_Y (mm_call (mm_X len xs) mm_Y (d + 6)) (mm_look mc_G_last) (0, [some (.ref 0)], [], mT s) = T := by
  unfold ok_G_last f_G_last
  refine w_go K 10 (c' := (20, [some (.ref 0)], [.ref 1, .ref 12, .ref 3, .int (gI s 0 9), .ref 94], mT s)) rfl ?_
  refine w_call K rfl (m_Night_firstShort (len := len) (xs := xs) (d + 0) (gI s 0 9) s) ?_
  refine w_go K 0 (c' := (23, [some (.ref 0)], [.int (f_Night_firstShort (gI s 0 9) s)], mT s)) rfl ?_
  exact w_ret K rfl (hK _)
theorem m_G_last {len : Nat} {xs : Nat → Int32} (d : Nat) (s : mS) : ok_G_last s → mm_call (mm_X len xs) mm_Y (d + 7) 135 [.ref 0] (mT s) = some (some (.int (f_G_last s)), mT s) := fun h => t_G_last (len := len) (xs := xs) d s (fun t => (some (some (.int t), mT s) : Option mm_R) = some (some (.int (f_G_last s)), mT s)) (fun _ h => h) h rfl
def f_G_sees (a1 : Int32) (a2 : Int32) (s : mS) : Int32 × mS := (if (f_Net_hasPipe a1 s) = 0 then (0, s) else (if (f_G_within a2 ((-1) : Int32) (1 : Int32) s) = 0 then (0, s) else (1, sI s 103 (ix a1) a2)))
def ok_G_sees (a1 : Int32) (a2 : Int32) (s : mS) : Prop := (if (f_Net_hasPipe a1 s) = 0 then True else (if (f_G_within a2 ((-1) : Int32) (1 : Int32) s) = 0 then True else (mm_inb a1 16 = true ∧ True)))
theorem t_G_sees {len : Nat} {xs : Nat → Int32} (d : Nat) (a1 : Int32) (a2 : Int32) (s : mS) {T : Option mm_R} (K : Int32 × mS → Prop) (hK : ∀ t, K t → some (some (.int t.1), mT t.2) = T) : ok_G_sees a1 a2 s → K (f_G_sees a1 a2 s) → mm_fix (mm_X len xs) mm_Y (mm_call (mm_X len xs) mm_Y (d + 2)) (mm_look mc_G_sees) (0, [some (.ref 0), some (.int a1), some (.int a2)], [], mT s) = T := by
  unfold ok_G_sees f_G_sees
  refine w_go K 3 (c' := (5, [some (.ref 0), some (.int a1), some (.int a2)], [.int a1, .ref 25], mT s)) rfl ?_
  refine w_callT K rfl (m_Net_hasPipe (len := len) (xs := xs) (d + 0) a1 s) ?_
  refine w_go K 0 (c' := (8, [some (.ref 0), some (.int a1), some (.int a2)], [.int (f_Net_hasPipe a1 s)], mT s)) rfl ?_
  refine w_br K rfl (fun _ => ?_) (fun _ => ?_)
  · refine w_go K 1 (c' := (21, [some (.ref 0), some (.int a1), some (.int a2)], [.int 0], mT s)) rfl ?_
    exact w_ret K rfl (hK _)
  · refine w_go K 3 (c' := (14, [some (.ref 0), some (.int a1), some (.int a2)], [.int 1, .int (-1), .int a2], mT s)) rfl ?_
    refine w_callT K rfl (m_G_within (len := len) (xs := xs) (d + 1) a2 ((-1) : Int32) (1 : Int32) s) ?_
    refine w_go K 0 (c' := (17, [some (.ref 0), some (.int a1), some (.int a2)], [.int (f_G_within a2 ((-1) : Int32) (1 : Int32) s)], mT s)) rfl ?_
    refine w_br K rfl (fun _ => ?_) (fun _ => ?_)
    · refine w_go K 1 (c' := (21, [some (.ref 0), some (.int a1), some (.int a2)], [.int 0], mT s)) rfl ?_
      exact w_ret K rfl (hK _)
    · refine w_go K 5 (c' := (31, [some (.ref 0), some (.int a1), some (.int a2)], [.int a2, .int a1, .ref 103], mT s)) rfl ?_
      refine w_ck K rfl ?_
      refine w_go K 1 (c' := (33, [some (.ref 0), some (.int a1), some (.int a2)], [.int 1], mT (sI s 103 (ix a1) a2))) rfl ?_
      exact w_ret K rfl (hK _)
theorem m_G_sees {len : Nat} {xs : Nat → Int32} (d : Nat) (a1 : Int32) (a2 : Int32) (s : mS) : ok_G_sees a1 a2 s → mm_call (mm_X len xs) mm_Y (d + 3) 137 [.ref 0, .int a1, .int a2] (mT s) = some (some (.int (f_G_sees a1 a2 s).1), mT (f_G_sees a1 a2 s).2) := fun h => t_G_sees (len := len) (xs := xs) d a1 a2 s (fun t => (some (some (.int t.1), mT t.2) : Option mm_R) = some (some (.int (f_G_sees a1 a2 s).1), mT (f_G_sees a1 a2 s).2)) (fun _ h => h) h rfl
def f_Eyes_weigh (a1 : Int32) (s : mS) : mS := (if (gI s 104 (ix a1)) = 0 then (if (gI s 103 (ix a1)) = 0 then (if (1000 : Int32) ≤ (gI (sI s 108 (ix a1) (if (1000 : Int32) < (1000 : Int32) then (1000 : Int32) else (1000 : Int32))) 108 (ix a1)) then sI (sI s 108 (ix a1) (if (1000 : Int32) < (1000 : Int32) then (1000 : Int32) else (1000 : Int32))) 109 (ix a1) 0 else (if (1000 : Int32) = (gI (sI s 108 (ix a1) (if (1000 : Int32) < (1000 : Int32) then (1000 : Int32) else (1000 : Int32))) 108 (ix a1)) then (if (1000 : Int32) = (gI (sI s 108 (ix a1) (if (1000 : Int32) < (1000 : Int32) then (1000 : Int32) else (1000 : Int32))) 108 (ix a1)) then sI (sI (sI s 108 (ix a1) (if (1000 : Int32) < (1000 : Int32) then (1000 : Int32) else (1000 : Int32))) 109 (ix a1) 0) 109 (ix a1) (1 + (gI s 107 (ix a1))) else sI (sI (sI s 108 (ix a1) (if (1000 : Int32) < (1000 : Int32) then (1000 : Int32) else (1000 : Int32))) 109 (ix a1) 0) 109 (ix a1) ((1 : Int32) + 0)) else (if (1000 : Int32) = (gI (sI s 108 (ix a1) (if (1000 : Int32) < (1000 : Int32) then (1000 : Int32) else (1000 : Int32))) 108 (ix a1)) then sI (sI (sI s 108 (ix a1) (if (1000 : Int32) < (1000 : Int32) then (1000 : Int32) else (1000 : Int32))) 109 (ix a1) 0) 109 (ix a1) (0 + (gI s 107 (ix a1))) else sI (sI (sI s 108 (ix a1) (if (1000 : Int32) < (1000 : Int32) then (1000 : Int32) else (1000 : Int32))) 109 (ix a1) 0) 109 (ix a1) ((0 : Int32) + 0)))) else (if (1000 : Int32) ≤ (gI (sI s 108 (ix a1) (if (gI s 106 (ix a1)) < (1000 : Int32) then (gI s 106 (ix a1)) else (1000 : Int32))) 108 (ix a1)) then sI (sI s 108 (ix a1) (if (gI s 106 (ix a1)) < (1000 : Int32) then (gI s 106 (ix a1)) else (1000 : Int32))) 109 (ix a1) 0 else (if (1000 : Int32) = (gI (sI s 108 (ix a1) (if (gI s 106 (ix a1)) < (1000 : Int32) then (gI s 106 (ix a1)) else (1000 : Int32))) 108 (ix a1)) then (if (gI s 106 (ix a1)) = (gI (sI s 108 (ix a1) (if (gI s 106 (ix a1)) < (1000 : Int32) then (gI s 106 (ix a1)) else (1000 : Int32))) 108 (ix a1)) then sI (sI (sI s 108 (ix a1) (if (gI s 106 (ix a1)) < (1000 : Int32) then (gI s 106 (ix a1)) else (1000 : Int32))) 109 (ix a1) 0) 109 (ix a1) (1 + (gI s 107 (ix a1))) else sI (sI (sI s 108 (ix a1) (if (gI s 106 (ix a1)) < (1000 : Int32) then (gI s 106 (ix a1)) else (1000 : Int32))) 109 (ix a1) 0) 109 (ix a1) ((1 : Int32) + 0)) else (if (gI s 106 (ix a1)) = (gI (sI s 108 (ix a1) (if (gI s 106 (ix a1)) < (1000 : Int32) then (gI s 106 (ix a1)) else (1000 : Int32))) 108 (ix a1)) then sI (sI (sI s 108 (ix a1) (if (gI s 106 (ix a1)) < (1000 : Int32) then (gI s 106 (ix a1)) else (1000 : Int32))) 109 (ix a1) 0) 109 (ix a1) (0 + (gI s 107 (ix a1))) else sI (sI (sI s 108 (ix a1) (if (gI s 106 (ix a1)) < (1000 : Int32) then (gI s 106 (ix a1)) else (1000 : Int32))) 109 (ix a1) 0) 109 (ix a1) ((0 : Int32) + 0))))) else (if (gI s 105 (ix a1)) = 0 then (if (gI s 103 (ix a1)) = 0 then (if (1000 : Int32) ≤ (gI (sI s 108 (ix a1) (if (1000 : Int32) < (1 : Int32) then (1000 : Int32) else (1 : Int32))) 108 (ix a1)) then sI (sI s 108 (ix a1) (if (1000 : Int32) < (1 : Int32) then (1000 : Int32) else (1 : Int32))) 109 (ix a1) 0 else (if (1 : Int32) = (gI (sI s 108 (ix a1) (if (1000 : Int32) < (1 : Int32) then (1000 : Int32) else (1 : Int32))) 108 (ix a1)) then (if (1000 : Int32) = (gI (sI s 108 (ix a1) (if (1000 : Int32) < (1 : Int32) then (1000 : Int32) else (1 : Int32))) 108 (ix a1)) then sI (sI (sI s 108 (ix a1) (if (1000 : Int32) < (1 : Int32) then (1000 : Int32) else (1 : Int32))) 109 (ix a1) 0) 109 (ix a1) (1 + (gI s 107 (ix a1))) else sI (sI (sI s 108 (ix a1) (if (1000 : Int32) < (1 : Int32) then (1000 : Int32) else (1 : Int32))) 109 (ix a1) 0) 109 (ix a1) ((1 : Int32) + 0)) else (if (1000 : Int32) = (gI (sI s 108 (ix a1) (if (1000 : Int32) < (1 : Int32) then (1000 : Int32) else (1 : Int32))) 108 (ix a1)) then sI (sI (sI s 108 (ix a1) (if (1000 : Int32) < (1 : Int32) then (1000 : Int32) else (1 : Int32))) 109 (ix a1) 0) 109 (ix a1) (0 + (gI s 107 (ix a1))) else sI (sI (sI s 108 (ix a1) (if (1000 : Int32) < (1 : Int32) then (1000 : Int32) else (1 : Int32))) 109 (ix a1) 0) 109 (ix a1) ((0 : Int32) + 0)))) else (if (1000 : Int32) ≤ (gI (sI s 108 (ix a1) (if (gI s 106 (ix a1)) < (1 : Int32) then (gI s 106 (ix a1)) else (1 : Int32))) 108 (ix a1)) then sI (sI s 108 (ix a1) (if (gI s 106 (ix a1)) < (1 : Int32) then (gI s 106 (ix a1)) else (1 : Int32))) 109 (ix a1) 0 else (if (1 : Int32) = (gI (sI s 108 (ix a1) (if (gI s 106 (ix a1)) < (1 : Int32) then (gI s 106 (ix a1)) else (1 : Int32))) 108 (ix a1)) then (if (gI s 106 (ix a1)) = (gI (sI s 108 (ix a1) (if (gI s 106 (ix a1)) < (1 : Int32) then (gI s 106 (ix a1)) else (1 : Int32))) 108 (ix a1)) then sI (sI (sI s 108 (ix a1) (if (gI s 106 (ix a1)) < (1 : Int32) then (gI s 106 (ix a1)) else (1 : Int32))) 109 (ix a1) 0) 109 (ix a1) (1 + (gI s 107 (ix a1))) else sI (sI (sI s 108 (ix a1) (if (gI s 106 (ix a1)) < (1 : Int32) then (gI s 106 (ix a1)) else (1 : Int32))) 109 (ix a1) 0) 109 (ix a1) ((1 : Int32) + 0)) else (if (gI s 106 (ix a1)) = (gI (sI s 108 (ix a1) (if (gI s 106 (ix a1)) < (1 : Int32) then (gI s 106 (ix a1)) else (1 : Int32))) 108 (ix a1)) then sI (sI (sI s 108 (ix a1) (if (gI s 106 (ix a1)) < (1 : Int32) then (gI s 106 (ix a1)) else (1 : Int32))) 109 (ix a1) 0) 109 (ix a1) (0 + (gI s 107 (ix a1))) else sI (sI (sI s 108 (ix a1) (if (gI s 106 (ix a1)) < (1 : Int32) then (gI s 106 (ix a1)) else (1 : Int32))) 109 (ix a1) 0) 109 (ix a1) ((0 : Int32) + 0))))) else (if (gI s 103 (ix a1)) = 0 then (if (1000 : Int32) ≤ (gI (sI s 108 (ix a1) (if (1000 : Int32) < (1000 : Int32) then (1000 : Int32) else (1000 : Int32))) 108 (ix a1)) then sI (sI s 108 (ix a1) (if (1000 : Int32) < (1000 : Int32) then (1000 : Int32) else (1000 : Int32))) 109 (ix a1) 0 else (if (1000 : Int32) = (gI (sI s 108 (ix a1) (if (1000 : Int32) < (1000 : Int32) then (1000 : Int32) else (1000 : Int32))) 108 (ix a1)) then (if (1000 : Int32) = (gI (sI s 108 (ix a1) (if (1000 : Int32) < (1000 : Int32) then (1000 : Int32) else (1000 : Int32))) 108 (ix a1)) then sI (sI (sI s 108 (ix a1) (if (1000 : Int32) < (1000 : Int32) then (1000 : Int32) else (1000 : Int32))) 109 (ix a1) 0) 109 (ix a1) (1 + (gI s 107 (ix a1))) else sI (sI (sI s 108 (ix a1) (if (1000 : Int32) < (1000 : Int32) then (1000 : Int32) else (1000 : Int32))) 109 (ix a1) 0) 109 (ix a1) ((1 : Int32) + 0)) else (if (1000 : Int32) = (gI (sI s 108 (ix a1) (if (1000 : Int32) < (1000 : Int32) then (1000 : Int32) else (1000 : Int32))) 108 (ix a1)) then sI (sI (sI s 108 (ix a1) (if (1000 : Int32) < (1000 : Int32) then (1000 : Int32) else (1000 : Int32))) 109 (ix a1) 0) 109 (ix a1) (0 + (gI s 107 (ix a1))) else sI (sI (sI s 108 (ix a1) (if (1000 : Int32) < (1000 : Int32) then (1000 : Int32) else (1000 : Int32))) 109 (ix a1) 0) 109 (ix a1) ((0 : Int32) + 0)))) else (if (1000 : Int32) ≤ (gI (sI s 108 (ix a1) (if (gI s 106 (ix a1)) < (1000 : Int32) then (gI s 106 (ix a1)) else (1000 : Int32))) 108 (ix a1)) then sI (sI s 108 (ix a1) (if (gI s 106 (ix a1)) < (1000 : Int32) then (gI s 106 (ix a1)) else (1000 : Int32))) 109 (ix a1) 0 else (if (1000 : Int32) = (gI (sI s 108 (ix a1) (if (gI s 106 (ix a1)) < (1000 : Int32) then (gI s 106 (ix a1)) else (1000 : Int32))) 108 (ix a1)) then (if (gI s 106 (ix a1)) = (gI (sI s 108 (ix a1) (if (gI s 106 (ix a1)) < (1000 : Int32) then (gI s 106 (ix a1)) else (1000 : Int32))) 108 (ix a1)) then sI (sI (sI s 108 (ix a1) (if (gI s 106 (ix a1)) < (1000 : Int32) then (gI s 106 (ix a1)) else (1000 : Int32))) 109 (ix a1) 0) 109 (ix a1) (1 + (gI s 107 (ix a1))) else sI (sI (sI s 108 (ix a1) (if (gI s 106 (ix a1)) < (1000 : Int32) then (gI s 106 (ix a1)) else (1000 : Int32))) 109 (ix a1) 0) 109 (ix a1) ((1 : Int32) + 0)) else (if (gI s 106 (ix a1)) = (gI (sI s 108 (ix a1) (if (gI s 106 (ix a1)) < (1000 : Int32) then (gI s 106 (ix a1)) else (1000 : Int32))) 108 (ix a1)) then sI (sI (sI s 108 (ix a1) (if (gI s 106 (ix a1)) < (1000 : Int32) then (gI s 106 (ix a1)) else (1000 : Int32))) 109 (ix a1) 0) 109 (ix a1) (0 + (gI s 107 (ix a1))) else sI (sI (sI s 108 (ix a1) (if (gI s 106 (ix a1)) < (1000 : Int32) then (gI s 106 (ix a1)) else (1000 : Int32))) 109 (ix a1) 0) 109 (ix a1) ((0 : Int32) + 0)))))))
def ok_Eyes_weigh (a1 : Int32) (s : mS) : Prop := (mm_inb a1 16 = true ∧ (if (gI s 104 (ix a1)) = 0 then (mm_inb a1 16 = true ∧ (if (gI s 103 (ix a1)) = 0 then (mm_inb a1 16 = true ∧ (mm_inb a1 16 = true ∧ (mm_inb a1 16 = true ∧ (if (1000 : Int32) ≤ (gI (sI s 108 (ix a1) (if (1000 : Int32) < (1000 : Int32) then (1000 : Int32) else (1000 : Int32))) 108 (ix a1)) then True else (mm_inb a1 16 = true ∧ (if (1000 : Int32) = (gI (sI s 108 (ix a1) (if (1000 : Int32) < (1000 : Int32) then (1000 : Int32) else (1000 : Int32))) 108 (ix a1)) then (mm_inb a1 16 = true ∧ (if (1000 : Int32) = (gI (sI s 108 (ix a1) (if (1000 : Int32) < (1000 : Int32) then (1000 : Int32) else (1000 : Int32))) 108 (ix a1)) then (mm_inb a1 16 = true ∧ (mm_inb a1 16 = true ∧ True)) else (mm_inb a1 16 = true ∧ True))) else (mm_inb a1 16 = true ∧ (if (1000 : Int32) = (gI (sI s 108 (ix a1) (if (1000 : Int32) < (1000 : Int32) then (1000 : Int32) else (1000 : Int32))) 108 (ix a1)) then (mm_inb a1 16 = true ∧ (mm_inb a1 16 = true ∧ True)) else (mm_inb a1 16 = true ∧ True))))))))) else (mm_inb a1 16 = true ∧ (mm_inb a1 16 = true ∧ (mm_inb a1 16 = true ∧ (mm_inb a1 16 = true ∧ (if (1000 : Int32) ≤ (gI (sI s 108 (ix a1) (if (gI s 106 (ix a1)) < (1000 : Int32) then (gI s 106 (ix a1)) else (1000 : Int32))) 108 (ix a1)) then True else (mm_inb a1 16 = true ∧ (if (1000 : Int32) = (gI (sI s 108 (ix a1) (if (gI s 106 (ix a1)) < (1000 : Int32) then (gI s 106 (ix a1)) else (1000 : Int32))) 108 (ix a1)) then (mm_inb a1 16 = true ∧ (if (gI s 106 (ix a1)) = (gI (sI s 108 (ix a1) (if (gI s 106 (ix a1)) < (1000 : Int32) then (gI s 106 (ix a1)) else (1000 : Int32))) 108 (ix a1)) then (mm_inb a1 16 = true ∧ (mm_inb a1 16 = true ∧ True)) else (mm_inb a1 16 = true ∧ True))) else (mm_inb a1 16 = true ∧ (if (gI s 106 (ix a1)) = (gI (sI s 108 (ix a1) (if (gI s 106 (ix a1)) < (1000 : Int32) then (gI s 106 (ix a1)) else (1000 : Int32))) 108 (ix a1)) then (mm_inb a1 16 = true ∧ (mm_inb a1 16 = true ∧ True)) else (mm_inb a1 16 = true ∧ True)))))))))))) else (mm_inb a1 16 = true ∧ (if (gI s 105 (ix a1)) = 0 then (mm_inb a1 16 = true ∧ (if (gI s 103 (ix a1)) = 0 then (mm_inb a1 16 = true ∧ (mm_inb a1 16 = true ∧ (mm_inb a1 16 = true ∧ (if (1000 : Int32) ≤ (gI (sI s 108 (ix a1) (if (1000 : Int32) < (1 : Int32) then (1000 : Int32) else (1 : Int32))) 108 (ix a1)) then True else (mm_inb a1 16 = true ∧ (if (1 : Int32) = (gI (sI s 108 (ix a1) (if (1000 : Int32) < (1 : Int32) then (1000 : Int32) else (1 : Int32))) 108 (ix a1)) then (mm_inb a1 16 = true ∧ (if (1000 : Int32) = (gI (sI s 108 (ix a1) (if (1000 : Int32) < (1 : Int32) then (1000 : Int32) else (1 : Int32))) 108 (ix a1)) then (mm_inb a1 16 = true ∧ (mm_inb a1 16 = true ∧ True)) else (mm_inb a1 16 = true ∧ True))) else (mm_inb a1 16 = true ∧ (if (1000 : Int32) = (gI (sI s 108 (ix a1) (if (1000 : Int32) < (1 : Int32) then (1000 : Int32) else (1 : Int32))) 108 (ix a1)) then (mm_inb a1 16 = true ∧ (mm_inb a1 16 = true ∧ True)) else (mm_inb a1 16 = true ∧ True))))))))) else (mm_inb a1 16 = true ∧ (mm_inb a1 16 = true ∧ (mm_inb a1 16 = true ∧ (mm_inb a1 16 = true ∧ (if (1000 : Int32) ≤ (gI (sI s 108 (ix a1) (if (gI s 106 (ix a1)) < (1 : Int32) then (gI s 106 (ix a1)) else (1 : Int32))) 108 (ix a1)) then True else (mm_inb a1 16 = true ∧ (if (1 : Int32) = (gI (sI s 108 (ix a1) (if (gI s 106 (ix a1)) < (1 : Int32) then (gI s 106 (ix a1)) else (1 : Int32))) 108 (ix a1)) then (mm_inb a1 16 = true ∧ (if (gI s 106 (ix a1)) = (gI (sI s 108 (ix a1) (if (gI s 106 (ix a1)) < (1 : Int32) then (gI s 106 (ix a1)) else (1 : Int32))) 108 (ix a1)) then (mm_inb a1 16 = true ∧ (mm_inb a1 16 = true ∧ True)) else (mm_inb a1 16 = true ∧ True))) else (mm_inb a1 16 = true ∧ (if (gI s 106 (ix a1)) = (gI (sI s 108 (ix a1) (if (gI s 106 (ix a1)) < (1 : Int32) then (gI s 106 (ix a1)) else (1 : Int32))) 108 (ix a1)) then (mm_inb a1 16 = true ∧ (mm_inb a1 16 = true ∧ True)) else (mm_inb a1 16 = true ∧ True)))))))))))) else (mm_inb a1 16 = true ∧ (if (gI s 103 (ix a1)) = 0 then (mm_inb a1 16 = true ∧ (mm_inb a1 16 = true ∧ (mm_inb a1 16 = true ∧ (if (1000 : Int32) ≤ (gI (sI s 108 (ix a1) (if (1000 : Int32) < (1000 : Int32) then (1000 : Int32) else (1000 : Int32))) 108 (ix a1)) then True else (mm_inb a1 16 = true ∧ (if (1000 : Int32) = (gI (sI s 108 (ix a1) (if (1000 : Int32) < (1000 : Int32) then (1000 : Int32) else (1000 : Int32))) 108 (ix a1)) then (mm_inb a1 16 = true ∧ (if (1000 : Int32) = (gI (sI s 108 (ix a1) (if (1000 : Int32) < (1000 : Int32) then (1000 : Int32) else (1000 : Int32))) 108 (ix a1)) then (mm_inb a1 16 = true ∧ (mm_inb a1 16 = true ∧ True)) else (mm_inb a1 16 = true ∧ True))) else (mm_inb a1 16 = true ∧ (if (1000 : Int32) = (gI (sI s 108 (ix a1) (if (1000 : Int32) < (1000 : Int32) then (1000 : Int32) else (1000 : Int32))) 108 (ix a1)) then (mm_inb a1 16 = true ∧ (mm_inb a1 16 = true ∧ True)) else (mm_inb a1 16 = true ∧ True))))))))) else (mm_inb a1 16 = true ∧ (mm_inb a1 16 = true ∧ (mm_inb a1 16 = true ∧ (mm_inb a1 16 = true ∧ (if (1000 : Int32) ≤ (gI (sI s 108 (ix a1) (if (gI s 106 (ix a1)) < (1000 : Int32) then (gI s 106 (ix a1)) else (1000 : Int32))) 108 (ix a1)) then True else (mm_inb a1 16 = true ∧ (if (1000 : Int32) = (gI (sI s 108 (ix a1) (if (gI s 106 (ix a1)) < (1000 : Int32) then (gI s 106 (ix a1)) else (1000 : Int32))) 108 (ix a1)) then (mm_inb a1 16 = true ∧ (if (gI s 106 (ix a1)) = (gI (sI s 108 (ix a1) (if (gI s 106 (ix a1)) < (1000 : Int32) then (gI s 106 (ix a1)) else (1000 : Int32))) 108 (ix a1)) then (mm_inb a1 16 = true ∧ (mm_inb a1 16 = true ∧ True)) else (mm_inb a1 16 = true ∧ True))) else (mm_inb a1 16 = true ∧ (if (gI s 106 (ix a1)) = (gI (sI s 108 (ix a1) (if (gI s 106 (ix a1)) < (1000 : Int32) then (gI s 106 (ix a1)) else (1000 : Int32))) 108 (ix a1)) then (mm_inb a1 16 = true ∧ (mm_inb a1 16 = true ∧ True)) else (mm_inb a1 16 = true ∧ True))))))))))))))))
theorem t_Eyes_weigh {len : Nat} {xs : Nat → Int32} (d : Nat) (a1 : Int32) (s : mS) {T : Option mm_R} (K : mS → Prop) (hK : ∀ t, K t → some (none, mT t) = T) : ok_Eyes_weigh a1 s → K (f_Eyes_weigh a1 s) → mm_fix (mm_X len xs) mm_Y (mm_call (mm_X len xs) mm_Y (d + 0)) (mm_look mc_Eyes_weigh) (0, [some (.ref 102), some (.int a1), none, none], [], mT s) = T := by
  unfold ok_Eyes_weigh f_Eyes_weigh
  refine w_go K 3 (c' := (5, [some (.ref 102), some (.int a1), none, none], [.int a1, .ref 104], mT s)) rfl ?_
  refine w_ck K rfl ?_
  refine w_go K 0 (c' := (6, [some (.ref 102), some (.int a1), none, none], [.int (gI s 104 (ix a1))], mT s)) rfl ?_
  refine w_br K rfl (fun _ => ?_) (fun _ => ?_)
  · refine w_go K 5 (c' := (31, [some (.ref 102), some (.int a1), some (.int 1000), none], [.int a1, .ref 103], mT s)) rfl ?_
    refine w_ck K rfl ?_
    refine w_go K 0 (c' := (32, [some (.ref 102), some (.int a1), some (.int 1000), none], [.int (gI s 103 (ix a1))], mT s)) rfl ?_
    refine w_br K rfl (fun _ => ?_) (fun _ => ?_)
    · refine w_go K 9 (c' := (58, [some (.ref 102), some (.int a1), some (.int 1000), some (.int 1000)], [.int (if (1000 : Int32) < (1000 : Int32) then (1000 : Int32) else (1000 : Int32)), .int a1, .ref 108], mT s)) rfl ?_
      refine w_ck K rfl ?_
      refine w_go K 4 (c' := (65, [some (.ref 102), some (.int a1), some (.int 1000), some (.int 1000)], [.int 0, .int a1, .ref 109], mT (sI s 108 (ix a1) (if (1000 : Int32) < (1000 : Int32) then (1000 : Int32) else (1000 : Int32))))) rfl ?_
      refine w_ck K rfl ?_
      refine w_go K 3 (c' := (71, [some (.ref 102), some (.int a1), some (.int 1000), some (.int 1000)], [.int a1, .ref 108], mT (sI (sI s 108 (ix a1) (if (1000 : Int32) < (1000 : Int32) then (1000 : Int32) else (1000 : Int32))) 109 (ix a1) 0))) rfl ?_
      refine w_ck K rfl ?_
      refine w_go K 1 (c' := (75, [some (.ref 102), some (.int a1), some (.int 1000), some (.int 1000)], [.int 1000, .int (gI (sI s 108 (ix a1) (if (1000 : Int32) < (1000 : Int32) then (1000 : Int32) else (1000 : Int32))) 108 (ix a1))], mT (sI (sI s 108 (ix a1) (if (1000 : Int32) < (1000 : Int32) then (1000 : Int32) else (1000 : Int32))) 109 (ix a1) 0))) rfl ?_
      refine w_br K rfl (fun _ => ?_) (fun _ => ?_)
      · refine w_go K 0 (c' := (120, [some (.ref 102), some (.int a1), some (.int 1000), some (.int 1000)], [], mT (sI (sI s 108 (ix a1) (if (1000 : Int32) < (1000 : Int32) then (1000 : Int32) else (1000 : Int32))) 109 (ix a1) 0))) rfl ?_
        exact w_ret K rfl (hK _)
      · refine w_go K 7 (c' := (89, [some (.ref 102), some (.int a1), some (.int 1000), some (.int 1000)], [.int a1, .ref 108, .int 1000, .int a1, .ref 109], mT (sI (sI s 108 (ix a1) (if (1000 : Int32) < (1000 : Int32) then (1000 : Int32) else (1000 : Int32))) 109 (ix a1) 0))) rfl ?_
        refine w_ck K rfl ?_
        refine w_go K 0 (c' := (90, [some (.ref 102), some (.int a1), some (.int 1000), some (.int 1000)], [.int (gI (sI s 108 (ix a1) (if (1000 : Int32) < (1000 : Int32) then (1000 : Int32) else (1000 : Int32))) 108 (ix a1)), .int 1000, .int a1, .ref 109], mT (sI (sI s 108 (ix a1) (if (1000 : Int32) < (1000 : Int32) then (1000 : Int32) else (1000 : Int32))) 109 (ix a1) 0))) rfl ?_
        refine w_br K rfl (fun _ => ?_) (fun _ => ?_)
        · refine w_go K 6 (c' := (104, [some (.ref 102), some (.int a1), some (.int 1000), some (.int 1000)], [.int a1, .ref 108, .int 1000, .int 1, .int a1, .ref 109], mT (sI (sI s 108 (ix a1) (if (1000 : Int32) < (1000 : Int32) then (1000 : Int32) else (1000 : Int32))) 109 (ix a1) 0))) rfl ?_
          refine w_ck K rfl ?_
          refine w_go K 0 (c' := (105, [some (.ref 102), some (.int a1), some (.int 1000), some (.int 1000)], [.int (gI (sI s 108 (ix a1) (if (1000 : Int32) < (1000 : Int32) then (1000 : Int32) else (1000 : Int32))) 108 (ix a1)), .int 1000, .int 1, .int a1, .ref 109], mT (sI (sI s 108 (ix a1) (if (1000 : Int32) < (1000 : Int32) then (1000 : Int32) else (1000 : Int32))) 109 (ix a1) 0))) rfl ?_
          refine w_br K rfl (fun _ => ?_) (fun _ => ?_)
          · refine w_go K 3 (c' := (113, [some (.ref 102), some (.int a1), some (.int 1000), some (.int 1000)], [.int a1, .ref 107, .int 1, .int a1, .ref 109], mT (sI (sI s 108 (ix a1) (if (1000 : Int32) < (1000 : Int32) then (1000 : Int32) else (1000 : Int32))) 109 (ix a1) 0))) rfl ?_
            refine w_ck K rfl ?_
            refine w_go K 2 (c' := (119, [some (.ref 102), some (.int a1), some (.int 1000), some (.int 1000)], [.int (1 + (gI s 107 (ix a1))), .int a1, .ref 109], mT (sI (sI s 108 (ix a1) (if (1000 : Int32) < (1000 : Int32) then (1000 : Int32) else (1000 : Int32))) 109 (ix a1) 0))) rfl ?_
            refine w_ck K rfl ?_
            refine w_go K 0 (c' := (120, [some (.ref 102), some (.int a1), some (.int 1000), some (.int 1000)], [], mT (sI (sI (sI s 108 (ix a1) (if (1000 : Int32) < (1000 : Int32) then (1000 : Int32) else (1000 : Int32))) 109 (ix a1) 0) 109 (ix a1) (1 + (gI s 107 (ix a1)))))) rfl ?_
            exact w_ret K rfl (hK _)
          · refine w_go K 2 (c' := (119, [some (.ref 102), some (.int a1), some (.int 1000), some (.int 1000)], [.int ((1 : Int32) + 0), .int a1, .ref 109], mT (sI (sI s 108 (ix a1) (if (1000 : Int32) < (1000 : Int32) then (1000 : Int32) else (1000 : Int32))) 109 (ix a1) 0))) rfl ?_
            refine w_ck K rfl ?_
            refine w_go K 0 (c' := (120, [some (.ref 102), some (.int a1), some (.int 1000), some (.int 1000)], [], mT (sI (sI (sI s 108 (ix a1) (if (1000 : Int32) < (1000 : Int32) then (1000 : Int32) else (1000 : Int32))) 109 (ix a1) 0) 109 (ix a1) ((1 : Int32) + 0)))) rfl ?_
            exact w_ret K rfl (hK _)
        · refine w_go K 5 (c' := (104, [some (.ref 102), some (.int a1), some (.int 1000), some (.int 1000)], [.int a1, .ref 108, .int 1000, .int 0, .int a1, .ref 109], mT (sI (sI s 108 (ix a1) (if (1000 : Int32) < (1000 : Int32) then (1000 : Int32) else (1000 : Int32))) 109 (ix a1) 0))) rfl ?_
          refine w_ck K rfl ?_
          refine w_go K 0 (c' := (105, [some (.ref 102), some (.int a1), some (.int 1000), some (.int 1000)], [.int (gI (sI s 108 (ix a1) (if (1000 : Int32) < (1000 : Int32) then (1000 : Int32) else (1000 : Int32))) 108 (ix a1)), .int 1000, .int 0, .int a1, .ref 109], mT (sI (sI s 108 (ix a1) (if (1000 : Int32) < (1000 : Int32) then (1000 : Int32) else (1000 : Int32))) 109 (ix a1) 0))) rfl ?_
          refine w_br K rfl (fun _ => ?_) (fun _ => ?_)
          · refine w_go K 3 (c' := (113, [some (.ref 102), some (.int a1), some (.int 1000), some (.int 1000)], [.int a1, .ref 107, .int 0, .int a1, .ref 109], mT (sI (sI s 108 (ix a1) (if (1000 : Int32) < (1000 : Int32) then (1000 : Int32) else (1000 : Int32))) 109 (ix a1) 0))) rfl ?_
            refine w_ck K rfl ?_
            refine w_go K 2 (c' := (119, [some (.ref 102), some (.int a1), some (.int 1000), some (.int 1000)], [.int (0 + (gI s 107 (ix a1))), .int a1, .ref 109], mT (sI (sI s 108 (ix a1) (if (1000 : Int32) < (1000 : Int32) then (1000 : Int32) else (1000 : Int32))) 109 (ix a1) 0))) rfl ?_
            refine w_ck K rfl ?_
            refine w_go K 0 (c' := (120, [some (.ref 102), some (.int a1), some (.int 1000), some (.int 1000)], [], mT (sI (sI (sI s 108 (ix a1) (if (1000 : Int32) < (1000 : Int32) then (1000 : Int32) else (1000 : Int32))) 109 (ix a1) 0) 109 (ix a1) (0 + (gI s 107 (ix a1)))))) rfl ?_
            exact w_ret K rfl (hK _)
          · refine w_go K 2 (c' := (119, [some (.ref 102), some (.int a1), some (.int 1000), some (.int 1000)], [.int ((0 : Int32) + 0), .int a1, .ref 109], mT (sI (sI s 108 (ix a1) (if (1000 : Int32) < (1000 : Int32) then (1000 : Int32) else (1000 : Int32))) 109 (ix a1) 0))) rfl ?_
            refine w_ck K rfl ?_
            refine w_go K 0 (c' := (120, [some (.ref 102), some (.int a1), some (.int 1000), some (.int 1000)], [], mT (sI (sI (sI s 108 (ix a1) (if (1000 : Int32) < (1000 : Int32) then (1000 : Int32) else (1000 : Int32))) 109 (ix a1) 0) 109 (ix a1) ((0 : Int32) + 0)))) rfl ?_
            exact w_ret K rfl (hK _)
    · refine w_go K 3 (c' := (46, [some (.ref 102), some (.int a1), some (.int 1000), none], [.int a1, .ref 106], mT s)) rfl ?_
      refine w_ck K rfl ?_
      refine w_go K 7 (c' := (58, [some (.ref 102), some (.int a1), some (.int 1000), some (.int (gI s 106 (ix a1)))], [.int (if (gI s 106 (ix a1)) < (1000 : Int32) then (gI s 106 (ix a1)) else (1000 : Int32)), .int a1, .ref 108], mT s)) rfl ?_
      refine w_ck K rfl ?_
      refine w_go K 4 (c' := (65, [some (.ref 102), some (.int a1), some (.int 1000), some (.int (gI s 106 (ix a1)))], [.int 0, .int a1, .ref 109], mT (sI s 108 (ix a1) (if (gI s 106 (ix a1)) < (1000 : Int32) then (gI s 106 (ix a1)) else (1000 : Int32))))) rfl ?_
      refine w_ck K rfl ?_
      refine w_go K 3 (c' := (71, [some (.ref 102), some (.int a1), some (.int 1000), some (.int (gI s 106 (ix a1)))], [.int a1, .ref 108], mT (sI (sI s 108 (ix a1) (if (gI s 106 (ix a1)) < (1000 : Int32) then (gI s 106 (ix a1)) else (1000 : Int32))) 109 (ix a1) 0))) rfl ?_
      refine w_ck K rfl ?_
      refine w_go K 1 (c' := (75, [some (.ref 102), some (.int a1), some (.int 1000), some (.int (gI s 106 (ix a1)))], [.int 1000, .int (gI (sI s 108 (ix a1) (if (gI s 106 (ix a1)) < (1000 : Int32) then (gI s 106 (ix a1)) else (1000 : Int32))) 108 (ix a1))], mT (sI (sI s 108 (ix a1) (if (gI s 106 (ix a1)) < (1000 : Int32) then (gI s 106 (ix a1)) else (1000 : Int32))) 109 (ix a1) 0))) rfl ?_
      refine w_br K rfl (fun _ => ?_) (fun _ => ?_)
      · refine w_go K 0 (c' := (120, [some (.ref 102), some (.int a1), some (.int 1000), some (.int (gI s 106 (ix a1)))], [], mT (sI (sI s 108 (ix a1) (if (gI s 106 (ix a1)) < (1000 : Int32) then (gI s 106 (ix a1)) else (1000 : Int32))) 109 (ix a1) 0))) rfl ?_
        exact w_ret K rfl (hK _)
      · refine w_go K 7 (c' := (89, [some (.ref 102), some (.int a1), some (.int 1000), some (.int (gI s 106 (ix a1)))], [.int a1, .ref 108, .int 1000, .int a1, .ref 109], mT (sI (sI s 108 (ix a1) (if (gI s 106 (ix a1)) < (1000 : Int32) then (gI s 106 (ix a1)) else (1000 : Int32))) 109 (ix a1) 0))) rfl ?_
        refine w_ck K rfl ?_
        refine w_go K 0 (c' := (90, [some (.ref 102), some (.int a1), some (.int 1000), some (.int (gI s 106 (ix a1)))], [.int (gI (sI s 108 (ix a1) (if (gI s 106 (ix a1)) < (1000 : Int32) then (gI s 106 (ix a1)) else (1000 : Int32))) 108 (ix a1)), .int 1000, .int a1, .ref 109], mT (sI (sI s 108 (ix a1) (if (gI s 106 (ix a1)) < (1000 : Int32) then (gI s 106 (ix a1)) else (1000 : Int32))) 109 (ix a1) 0))) rfl ?_
        refine w_br K rfl (fun _ => ?_) (fun _ => ?_)
        · refine w_go K 6 (c' := (104, [some (.ref 102), some (.int a1), some (.int 1000), some (.int (gI s 106 (ix a1)))], [.int a1, .ref 108, .int (gI s 106 (ix a1)), .int 1, .int a1, .ref 109], mT (sI (sI s 108 (ix a1) (if (gI s 106 (ix a1)) < (1000 : Int32) then (gI s 106 (ix a1)) else (1000 : Int32))) 109 (ix a1) 0))) rfl ?_
          refine w_ck K rfl ?_
          refine w_go K 0 (c' := (105, [some (.ref 102), some (.int a1), some (.int 1000), some (.int (gI s 106 (ix a1)))], [.int (gI (sI s 108 (ix a1) (if (gI s 106 (ix a1)) < (1000 : Int32) then (gI s 106 (ix a1)) else (1000 : Int32))) 108 (ix a1)), .int (gI s 106 (ix a1)), .int 1, .int a1, .ref 109], mT (sI (sI s 108 (ix a1) (if (gI s 106 (ix a1)) < (1000 : Int32) then (gI s 106 (ix a1)) else (1000 : Int32))) 109 (ix a1) 0))) rfl ?_
          refine w_br K rfl (fun _ => ?_) (fun _ => ?_)
          · refine w_go K 3 (c' := (113, [some (.ref 102), some (.int a1), some (.int 1000), some (.int (gI s 106 (ix a1)))], [.int a1, .ref 107, .int 1, .int a1, .ref 109], mT (sI (sI s 108 (ix a1) (if (gI s 106 (ix a1)) < (1000 : Int32) then (gI s 106 (ix a1)) else (1000 : Int32))) 109 (ix a1) 0))) rfl ?_
            refine w_ck K rfl ?_
            refine w_go K 2 (c' := (119, [some (.ref 102), some (.int a1), some (.int 1000), some (.int (gI s 106 (ix a1)))], [.int (1 + (gI s 107 (ix a1))), .int a1, .ref 109], mT (sI (sI s 108 (ix a1) (if (gI s 106 (ix a1)) < (1000 : Int32) then (gI s 106 (ix a1)) else (1000 : Int32))) 109 (ix a1) 0))) rfl ?_
            refine w_ck K rfl ?_
            refine w_go K 0 (c' := (120, [some (.ref 102), some (.int a1), some (.int 1000), some (.int (gI s 106 (ix a1)))], [], mT (sI (sI (sI s 108 (ix a1) (if (gI s 106 (ix a1)) < (1000 : Int32) then (gI s 106 (ix a1)) else (1000 : Int32))) 109 (ix a1) 0) 109 (ix a1) (1 + (gI s 107 (ix a1)))))) rfl ?_
            exact w_ret K rfl (hK _)
          · refine w_go K 2 (c' := (119, [some (.ref 102), some (.int a1), some (.int 1000), some (.int (gI s 106 (ix a1)))], [.int ((1 : Int32) + 0), .int a1, .ref 109], mT (sI (sI s 108 (ix a1) (if (gI s 106 (ix a1)) < (1000 : Int32) then (gI s 106 (ix a1)) else (1000 : Int32))) 109 (ix a1) 0))) rfl ?_
            refine w_ck K rfl ?_
            refine w_go K 0 (c' := (120, [some (.ref 102), some (.int a1), some (.int 1000), some (.int (gI s 106 (ix a1)))], [], mT (sI (sI (sI s 108 (ix a1) (if (gI s 106 (ix a1)) < (1000 : Int32) then (gI s 106 (ix a1)) else (1000 : Int32))) 109 (ix a1) 0) 109 (ix a1) ((1 : Int32) + 0)))) rfl ?_
            exact w_ret K rfl (hK _)
        · refine w_go K 5 (c' := (104, [some (.ref 102), some (.int a1), some (.int 1000), some (.int (gI s 106 (ix a1)))], [.int a1, .ref 108, .int (gI s 106 (ix a1)), .int 0, .int a1, .ref 109], mT (sI (sI s 108 (ix a1) (if (gI s 106 (ix a1)) < (1000 : Int32) then (gI s 106 (ix a1)) else (1000 : Int32))) 109 (ix a1) 0))) rfl ?_
          refine w_ck K rfl ?_
          refine w_go K 0 (c' := (105, [some (.ref 102), some (.int a1), some (.int 1000), some (.int (gI s 106 (ix a1)))], [.int (gI (sI s 108 (ix a1) (if (gI s 106 (ix a1)) < (1000 : Int32) then (gI s 106 (ix a1)) else (1000 : Int32))) 108 (ix a1)), .int (gI s 106 (ix a1)), .int 0, .int a1, .ref 109], mT (sI (sI s 108 (ix a1) (if (gI s 106 (ix a1)) < (1000 : Int32) then (gI s 106 (ix a1)) else (1000 : Int32))) 109 (ix a1) 0))) rfl ?_
          refine w_br K rfl (fun _ => ?_) (fun _ => ?_)
          · refine w_go K 3 (c' := (113, [some (.ref 102), some (.int a1), some (.int 1000), some (.int (gI s 106 (ix a1)))], [.int a1, .ref 107, .int 0, .int a1, .ref 109], mT (sI (sI s 108 (ix a1) (if (gI s 106 (ix a1)) < (1000 : Int32) then (gI s 106 (ix a1)) else (1000 : Int32))) 109 (ix a1) 0))) rfl ?_
            refine w_ck K rfl ?_
            refine w_go K 2 (c' := (119, [some (.ref 102), some (.int a1), some (.int 1000), some (.int (gI s 106 (ix a1)))], [.int (0 + (gI s 107 (ix a1))), .int a1, .ref 109], mT (sI (sI s 108 (ix a1) (if (gI s 106 (ix a1)) < (1000 : Int32) then (gI s 106 (ix a1)) else (1000 : Int32))) 109 (ix a1) 0))) rfl ?_
            refine w_ck K rfl ?_
            refine w_go K 0 (c' := (120, [some (.ref 102), some (.int a1), some (.int 1000), some (.int (gI s 106 (ix a1)))], [], mT (sI (sI (sI s 108 (ix a1) (if (gI s 106 (ix a1)) < (1000 : Int32) then (gI s 106 (ix a1)) else (1000 : Int32))) 109 (ix a1) 0) 109 (ix a1) (0 + (gI s 107 (ix a1)))))) rfl ?_
            exact w_ret K rfl (hK _)
          · refine w_go K 2 (c' := (119, [some (.ref 102), some (.int a1), some (.int 1000), some (.int (gI s 106 (ix a1)))], [.int ((0 : Int32) + 0), .int a1, .ref 109], mT (sI (sI s 108 (ix a1) (if (gI s 106 (ix a1)) < (1000 : Int32) then (gI s 106 (ix a1)) else (1000 : Int32))) 109 (ix a1) 0))) rfl ?_
            refine w_ck K rfl ?_
            refine w_go K 0 (c' := (120, [some (.ref 102), some (.int a1), some (.int 1000), some (.int (gI s 106 (ix a1)))], [], mT (sI (sI (sI s 108 (ix a1) (if (gI s 106 (ix a1)) < (1000 : Int32) then (gI s 106 (ix a1)) else (1000 : Int32))) 109 (ix a1) 0) 109 (ix a1) ((0 : Int32) + 0)))) rfl ?_
            exact w_ret K rfl (hK _)
  · refine w_go K 3 (c' := (14, [some (.ref 102), some (.int a1), none, none], [.int a1, .ref 105], mT s)) rfl ?_
    refine w_ck K rfl ?_
    refine w_go K 0 (c' := (15, [some (.ref 102), some (.int a1), none, none], [.int (gI s 105 (ix a1))], mT s)) rfl ?_
    refine w_br K rfl (fun _ => ?_) (fun _ => ?_)
    · refine w_go K 6 (c' := (31, [some (.ref 102), some (.int a1), some (.int 1), none], [.int a1, .ref 103], mT s)) rfl ?_
      refine w_ck K rfl ?_
      refine w_go K 0 (c' := (32, [some (.ref 102), some (.int a1), some (.int 1), none], [.int (gI s 103 (ix a1))], mT s)) rfl ?_
      refine w_br K rfl (fun _ => ?_) (fun _ => ?_)
      · refine w_go K 9 (c' := (58, [some (.ref 102), some (.int a1), some (.int 1), some (.int 1000)], [.int (if (1000 : Int32) < (1 : Int32) then (1000 : Int32) else (1 : Int32)), .int a1, .ref 108], mT s)) rfl ?_
        refine w_ck K rfl ?_
        refine w_go K 4 (c' := (65, [some (.ref 102), some (.int a1), some (.int 1), some (.int 1000)], [.int 0, .int a1, .ref 109], mT (sI s 108 (ix a1) (if (1000 : Int32) < (1 : Int32) then (1000 : Int32) else (1 : Int32))))) rfl ?_
        refine w_ck K rfl ?_
        refine w_go K 3 (c' := (71, [some (.ref 102), some (.int a1), some (.int 1), some (.int 1000)], [.int a1, .ref 108], mT (sI (sI s 108 (ix a1) (if (1000 : Int32) < (1 : Int32) then (1000 : Int32) else (1 : Int32))) 109 (ix a1) 0))) rfl ?_
        refine w_ck K rfl ?_
        refine w_go K 1 (c' := (75, [some (.ref 102), some (.int a1), some (.int 1), some (.int 1000)], [.int 1000, .int (gI (sI s 108 (ix a1) (if (1000 : Int32) < (1 : Int32) then (1000 : Int32) else (1 : Int32))) 108 (ix a1))], mT (sI (sI s 108 (ix a1) (if (1000 : Int32) < (1 : Int32) then (1000 : Int32) else (1 : Int32))) 109 (ix a1) 0))) rfl ?_
        refine w_br K rfl (fun _ => ?_) (fun _ => ?_)
        · refine w_go K 0 (c' := (120, [some (.ref 102), some (.int a1), some (.int 1), some (.int 1000)], [], mT (sI (sI s 108 (ix a1) (if (1000 : Int32) < (1 : Int32) then (1000 : Int32) else (1 : Int32))) 109 (ix a1) 0))) rfl ?_
          exact w_ret K rfl (hK _)
        · refine w_go K 7 (c' := (89, [some (.ref 102), some (.int a1), some (.int 1), some (.int 1000)], [.int a1, .ref 108, .int 1, .int a1, .ref 109], mT (sI (sI s 108 (ix a1) (if (1000 : Int32) < (1 : Int32) then (1000 : Int32) else (1 : Int32))) 109 (ix a1) 0))) rfl ?_
          refine w_ck K rfl ?_
          refine w_go K 0 (c' := (90, [some (.ref 102), some (.int a1), some (.int 1), some (.int 1000)], [.int (gI (sI s 108 (ix a1) (if (1000 : Int32) < (1 : Int32) then (1000 : Int32) else (1 : Int32))) 108 (ix a1)), .int 1, .int a1, .ref 109], mT (sI (sI s 108 (ix a1) (if (1000 : Int32) < (1 : Int32) then (1000 : Int32) else (1 : Int32))) 109 (ix a1) 0))) rfl ?_
          refine w_br K rfl (fun _ => ?_) (fun _ => ?_)
          · refine w_go K 6 (c' := (104, [some (.ref 102), some (.int a1), some (.int 1), some (.int 1000)], [.int a1, .ref 108, .int 1000, .int 1, .int a1, .ref 109], mT (sI (sI s 108 (ix a1) (if (1000 : Int32) < (1 : Int32) then (1000 : Int32) else (1 : Int32))) 109 (ix a1) 0))) rfl ?_
            refine w_ck K rfl ?_
            refine w_go K 0 (c' := (105, [some (.ref 102), some (.int a1), some (.int 1), some (.int 1000)], [.int (gI (sI s 108 (ix a1) (if (1000 : Int32) < (1 : Int32) then (1000 : Int32) else (1 : Int32))) 108 (ix a1)), .int 1000, .int 1, .int a1, .ref 109], mT (sI (sI s 108 (ix a1) (if (1000 : Int32) < (1 : Int32) then (1000 : Int32) else (1 : Int32))) 109 (ix a1) 0))) rfl ?_
            refine w_br K rfl (fun _ => ?_) (fun _ => ?_)
            · refine w_go K 3 (c' := (113, [some (.ref 102), some (.int a1), some (.int 1), some (.int 1000)], [.int a1, .ref 107, .int 1, .int a1, .ref 109], mT (sI (sI s 108 (ix a1) (if (1000 : Int32) < (1 : Int32) then (1000 : Int32) else (1 : Int32))) 109 (ix a1) 0))) rfl ?_
              refine w_ck K rfl ?_
              refine w_go K 2 (c' := (119, [some (.ref 102), some (.int a1), some (.int 1), some (.int 1000)], [.int (1 + (gI s 107 (ix a1))), .int a1, .ref 109], mT (sI (sI s 108 (ix a1) (if (1000 : Int32) < (1 : Int32) then (1000 : Int32) else (1 : Int32))) 109 (ix a1) 0))) rfl ?_
              refine w_ck K rfl ?_
              refine w_go K 0 (c' := (120, [some (.ref 102), some (.int a1), some (.int 1), some (.int 1000)], [], mT (sI (sI (sI s 108 (ix a1) (if (1000 : Int32) < (1 : Int32) then (1000 : Int32) else (1 : Int32))) 109 (ix a1) 0) 109 (ix a1) (1 + (gI s 107 (ix a1)))))) rfl ?_
              exact w_ret K rfl (hK _)
            · refine w_go K 2 (c' := (119, [some (.ref 102), some (.int a1), some (.int 1), some (.int 1000)], [.int ((1 : Int32) + 0), .int a1, .ref 109], mT (sI (sI s 108 (ix a1) (if (1000 : Int32) < (1 : Int32) then (1000 : Int32) else (1 : Int32))) 109 (ix a1) 0))) rfl ?_
              refine w_ck K rfl ?_
              refine w_go K 0 (c' := (120, [some (.ref 102), some (.int a1), some (.int 1), some (.int 1000)], [], mT (sI (sI (sI s 108 (ix a1) (if (1000 : Int32) < (1 : Int32) then (1000 : Int32) else (1 : Int32))) 109 (ix a1) 0) 109 (ix a1) ((1 : Int32) + 0)))) rfl ?_
              exact w_ret K rfl (hK _)
          · refine w_go K 5 (c' := (104, [some (.ref 102), some (.int a1), some (.int 1), some (.int 1000)], [.int a1, .ref 108, .int 1000, .int 0, .int a1, .ref 109], mT (sI (sI s 108 (ix a1) (if (1000 : Int32) < (1 : Int32) then (1000 : Int32) else (1 : Int32))) 109 (ix a1) 0))) rfl ?_
            refine w_ck K rfl ?_
            refine w_go K 0 (c' := (105, [some (.ref 102), some (.int a1), some (.int 1), some (.int 1000)], [.int (gI (sI s 108 (ix a1) (if (1000 : Int32) < (1 : Int32) then (1000 : Int32) else (1 : Int32))) 108 (ix a1)), .int 1000, .int 0, .int a1, .ref 109], mT (sI (sI s 108 (ix a1) (if (1000 : Int32) < (1 : Int32) then (1000 : Int32) else (1 : Int32))) 109 (ix a1) 0))) rfl ?_
            refine w_br K rfl (fun _ => ?_) (fun _ => ?_)
            · refine w_go K 3 (c' := (113, [some (.ref 102), some (.int a1), some (.int 1), some (.int 1000)], [.int a1, .ref 107, .int 0, .int a1, .ref 109], mT (sI (sI s 108 (ix a1) (if (1000 : Int32) < (1 : Int32) then (1000 : Int32) else (1 : Int32))) 109 (ix a1) 0))) rfl ?_
              refine w_ck K rfl ?_
              refine w_go K 2 (c' := (119, [some (.ref 102), some (.int a1), some (.int 1), some (.int 1000)], [.int (0 + (gI s 107 (ix a1))), .int a1, .ref 109], mT (sI (sI s 108 (ix a1) (if (1000 : Int32) < (1 : Int32) then (1000 : Int32) else (1 : Int32))) 109 (ix a1) 0))) rfl ?_
              refine w_ck K rfl ?_
              refine w_go K 0 (c' := (120, [some (.ref 102), some (.int a1), some (.int 1), some (.int 1000)], [], mT (sI (sI (sI s 108 (ix a1) (if (1000 : Int32) < (1 : Int32) then (1000 : Int32) else (1 : Int32))) 109 (ix a1) 0) 109 (ix a1) (0 + (gI s 107 (ix a1)))))) rfl ?_
              exact w_ret K rfl (hK _)
            · refine w_go K 2 (c' := (119, [some (.ref 102), some (.int a1), some (.int 1), some (.int 1000)], [.int ((0 : Int32) + 0), .int a1, .ref 109], mT (sI (sI s 108 (ix a1) (if (1000 : Int32) < (1 : Int32) then (1000 : Int32) else (1 : Int32))) 109 (ix a1) 0))) rfl ?_
              refine w_ck K rfl ?_
              refine w_go K 0 (c' := (120, [some (.ref 102), some (.int a1), some (.int 1), some (.int 1000)], [], mT (sI (sI (sI s 108 (ix a1) (if (1000 : Int32) < (1 : Int32) then (1000 : Int32) else (1 : Int32))) 109 (ix a1) 0) 109 (ix a1) ((0 : Int32) + 0)))) rfl ?_
              exact w_ret K rfl (hK _)
      · refine w_go K 3 (c' := (46, [some (.ref 102), some (.int a1), some (.int 1), none], [.int a1, .ref 106], mT s)) rfl ?_
        refine w_ck K rfl ?_
        refine w_go K 7 (c' := (58, [some (.ref 102), some (.int a1), some (.int 1), some (.int (gI s 106 (ix a1)))], [.int (if (gI s 106 (ix a1)) < (1 : Int32) then (gI s 106 (ix a1)) else (1 : Int32)), .int a1, .ref 108], mT s)) rfl ?_
        refine w_ck K rfl ?_
        refine w_go K 4 (c' := (65, [some (.ref 102), some (.int a1), some (.int 1), some (.int (gI s 106 (ix a1)))], [.int 0, .int a1, .ref 109], mT (sI s 108 (ix a1) (if (gI s 106 (ix a1)) < (1 : Int32) then (gI s 106 (ix a1)) else (1 : Int32))))) rfl ?_
        refine w_ck K rfl ?_
        refine w_go K 3 (c' := (71, [some (.ref 102), some (.int a1), some (.int 1), some (.int (gI s 106 (ix a1)))], [.int a1, .ref 108], mT (sI (sI s 108 (ix a1) (if (gI s 106 (ix a1)) < (1 : Int32) then (gI s 106 (ix a1)) else (1 : Int32))) 109 (ix a1) 0))) rfl ?_
        refine w_ck K rfl ?_
        refine w_go K 1 (c' := (75, [some (.ref 102), some (.int a1), some (.int 1), some (.int (gI s 106 (ix a1)))], [.int 1000, .int (gI (sI s 108 (ix a1) (if (gI s 106 (ix a1)) < (1 : Int32) then (gI s 106 (ix a1)) else (1 : Int32))) 108 (ix a1))], mT (sI (sI s 108 (ix a1) (if (gI s 106 (ix a1)) < (1 : Int32) then (gI s 106 (ix a1)) else (1 : Int32))) 109 (ix a1) 0))) rfl ?_
        refine w_br K rfl (fun _ => ?_) (fun _ => ?_)
        · refine w_go K 0 (c' := (120, [some (.ref 102), some (.int a1), some (.int 1), some (.int (gI s 106 (ix a1)))], [], mT (sI (sI s 108 (ix a1) (if (gI s 106 (ix a1)) < (1 : Int32) then (gI s 106 (ix a1)) else (1 : Int32))) 109 (ix a1) 0))) rfl ?_
          exact w_ret K rfl (hK _)
        · refine w_go K 7 (c' := (89, [some (.ref 102), some (.int a1), some (.int 1), some (.int (gI s 106 (ix a1)))], [.int a1, .ref 108, .int 1, .int a1, .ref 109], mT (sI (sI s 108 (ix a1) (if (gI s 106 (ix a1)) < (1 : Int32) then (gI s 106 (ix a1)) else (1 : Int32))) 109 (ix a1) 0))) rfl ?_
          refine w_ck K rfl ?_
          refine w_go K 0 (c' := (90, [some (.ref 102), some (.int a1), some (.int 1), some (.int (gI s 106 (ix a1)))], [.int (gI (sI s 108 (ix a1) (if (gI s 106 (ix a1)) < (1 : Int32) then (gI s 106 (ix a1)) else (1 : Int32))) 108 (ix a1)), .int 1, .int a1, .ref 109], mT (sI (sI s 108 (ix a1) (if (gI s 106 (ix a1)) < (1 : Int32) then (gI s 106 (ix a1)) else (1 : Int32))) 109 (ix a1) 0))) rfl ?_
          refine w_br K rfl (fun _ => ?_) (fun _ => ?_)
          · refine w_go K 6 (c' := (104, [some (.ref 102), some (.int a1), some (.int 1), some (.int (gI s 106 (ix a1)))], [.int a1, .ref 108, .int (gI s 106 (ix a1)), .int 1, .int a1, .ref 109], mT (sI (sI s 108 (ix a1) (if (gI s 106 (ix a1)) < (1 : Int32) then (gI s 106 (ix a1)) else (1 : Int32))) 109 (ix a1) 0))) rfl ?_
            refine w_ck K rfl ?_
            refine w_go K 0 (c' := (105, [some (.ref 102), some (.int a1), some (.int 1), some (.int (gI s 106 (ix a1)))], [.int (gI (sI s 108 (ix a1) (if (gI s 106 (ix a1)) < (1 : Int32) then (gI s 106 (ix a1)) else (1 : Int32))) 108 (ix a1)), .int (gI s 106 (ix a1)), .int 1, .int a1, .ref 109], mT (sI (sI s 108 (ix a1) (if (gI s 106 (ix a1)) < (1 : Int32) then (gI s 106 (ix a1)) else (1 : Int32))) 109 (ix a1) 0))) rfl ?_
            refine w_br K rfl (fun _ => ?_) (fun _ => ?_)
            · refine w_go K 3 (c' := (113, [some (.ref 102), some (.int a1), some (.int 1), some (.int (gI s 106 (ix a1)))], [.int a1, .ref 107, .int 1, .int a1, .ref 109], mT (sI (sI s 108 (ix a1) (if (gI s 106 (ix a1)) < (1 : Int32) then (gI s 106 (ix a1)) else (1 : Int32))) 109 (ix a1) 0))) rfl ?_
              refine w_ck K rfl ?_
              refine w_go K 2 (c' := (119, [some (.ref 102), some (.int a1), some (.int 1), some (.int (gI s 106 (ix a1)))], [.int (1 + (gI s 107 (ix a1))), .int a1, .ref 109], mT (sI (sI s 108 (ix a1) (if (gI s 106 (ix a1)) < (1 : Int32) then (gI s 106 (ix a1)) else (1 : Int32))) 109 (ix a1) 0))) rfl ?_
              refine w_ck K rfl ?_
              refine w_go K 0 (c' := (120, [some (.ref 102), some (.int a1), some (.int 1), some (.int (gI s 106 (ix a1)))], [], mT (sI (sI (sI s 108 (ix a1) (if (gI s 106 (ix a1)) < (1 : Int32) then (gI s 106 (ix a1)) else (1 : Int32))) 109 (ix a1) 0) 109 (ix a1) (1 + (gI s 107 (ix a1)))))) rfl ?_
              exact w_ret K rfl (hK _)
            · refine w_go K 2 (c' := (119, [some (.ref 102), some (.int a1), some (.int 1), some (.int (gI s 106 (ix a1)))], [.int ((1 : Int32) + 0), .int a1, .ref 109], mT (sI (sI s 108 (ix a1) (if (gI s 106 (ix a1)) < (1 : Int32) then (gI s 106 (ix a1)) else (1 : Int32))) 109 (ix a1) 0))) rfl ?_
              refine w_ck K rfl ?_
              refine w_go K 0 (c' := (120, [some (.ref 102), some (.int a1), some (.int 1), some (.int (gI s 106 (ix a1)))], [], mT (sI (sI (sI s 108 (ix a1) (if (gI s 106 (ix a1)) < (1 : Int32) then (gI s 106 (ix a1)) else (1 : Int32))) 109 (ix a1) 0) 109 (ix a1) ((1 : Int32) + 0)))) rfl ?_
              exact w_ret K rfl (hK _)
          · refine w_go K 5 (c' := (104, [some (.ref 102), some (.int a1), some (.int 1), some (.int (gI s 106 (ix a1)))], [.int a1, .ref 108, .int (gI s 106 (ix a1)), .int 0, .int a1, .ref 109], mT (sI (sI s 108 (ix a1) (if (gI s 106 (ix a1)) < (1 : Int32) then (gI s 106 (ix a1)) else (1 : Int32))) 109 (ix a1) 0))) rfl ?_
            refine w_ck K rfl ?_
            refine w_go K 0 (c' := (105, [some (.ref 102), some (.int a1), some (.int 1), some (.int (gI s 106 (ix a1)))], [.int (gI (sI s 108 (ix a1) (if (gI s 106 (ix a1)) < (1 : Int32) then (gI s 106 (ix a1)) else (1 : Int32))) 108 (ix a1)), .int (gI s 106 (ix a1)), .int 0, .int a1, .ref 109], mT (sI (sI s 108 (ix a1) (if (gI s 106 (ix a1)) < (1 : Int32) then (gI s 106 (ix a1)) else (1 : Int32))) 109 (ix a1) 0))) rfl ?_
            refine w_br K rfl (fun _ => ?_) (fun _ => ?_)
            · refine w_go K 3 (c' := (113, [some (.ref 102), some (.int a1), some (.int 1), some (.int (gI s 106 (ix a1)))], [.int a1, .ref 107, .int 0, .int a1, .ref 109], mT (sI (sI s 108 (ix a1) (if (gI s 106 (ix a1)) < (1 : Int32) then (gI s 106 (ix a1)) else (1 : Int32))) 109 (ix a1) 0))) rfl ?_
              refine w_ck K rfl ?_
              refine w_go K 2 (c' := (119, [some (.ref 102), some (.int a1), some (.int 1), some (.int (gI s 106 (ix a1)))], [.int (0 + (gI s 107 (ix a1))), .int a1, .ref 109], mT (sI (sI s 108 (ix a1) (if (gI s 106 (ix a1)) < (1 : Int32) then (gI s 106 (ix a1)) else (1 : Int32))) 109 (ix a1) 0))) rfl ?_
              refine w_ck K rfl ?_
              refine w_go K 0 (c' := (120, [some (.ref 102), some (.int a1), some (.int 1), some (.int (gI s 106 (ix a1)))], [], mT (sI (sI (sI s 108 (ix a1) (if (gI s 106 (ix a1)) < (1 : Int32) then (gI s 106 (ix a1)) else (1 : Int32))) 109 (ix a1) 0) 109 (ix a1) (0 + (gI s 107 (ix a1)))))) rfl ?_
              exact w_ret K rfl (hK _)
            · refine w_go K 2 (c' := (119, [some (.ref 102), some (.int a1), some (.int 1), some (.int (gI s 106 (ix a1)))], [.int ((0 : Int32) + 0), .int a1, .ref 109], mT (sI (sI s 108 (ix a1) (if (gI s 106 (ix a1)) < (1 : Int32) then (gI s 106 (ix a1)) else (1 : Int32))) 109 (ix a1) 0))) rfl ?_
              refine w_ck K rfl ?_
              refine w_go K 0 (c' := (120, [some (.ref 102), some (.int a1), some (.int 1), some (.int (gI s 106 (ix a1)))], [], mT (sI (sI (sI s 108 (ix a1) (if (gI s 106 (ix a1)) < (1 : Int32) then (gI s 106 (ix a1)) else (1 : Int32))) 109 (ix a1) 0) 109 (ix a1) ((0 : Int32) + 0)))) rfl ?_
              exact w_ret K rfl (hK _)
    · refine w_go K 5 (c' := (31, [some (.ref 102), some (.int a1), some (.int 1000), none], [.int a1, .ref 103], mT s)) rfl ?_
      refine w_ck K rfl ?_
      refine w_go K 0 (c' := (32, [some (.ref 102), some (.int a1), some (.int 1000), none], [.int (gI s 103 (ix a1))], mT s)) rfl ?_
      refine w_br K rfl (fun _ => ?_) (fun _ => ?_)
      · refine w_go K 9 (c' := (58, [some (.ref 102), some (.int a1), some (.int 1000), some (.int 1000)], [.int (if (1000 : Int32) < (1000 : Int32) then (1000 : Int32) else (1000 : Int32)), .int a1, .ref 108], mT s)) rfl ?_
        refine w_ck K rfl ?_
        refine w_go K 4 (c' := (65, [some (.ref 102), some (.int a1), some (.int 1000), some (.int 1000)], [.int 0, .int a1, .ref 109], mT (sI s 108 (ix a1) (if (1000 : Int32) < (1000 : Int32) then (1000 : Int32) else (1000 : Int32))))) rfl ?_
        refine w_ck K rfl ?_
        refine w_go K 3 (c' := (71, [some (.ref 102), some (.int a1), some (.int 1000), some (.int 1000)], [.int a1, .ref 108], mT (sI (sI s 108 (ix a1) (if (1000 : Int32) < (1000 : Int32) then (1000 : Int32) else (1000 : Int32))) 109 (ix a1) 0))) rfl ?_
        refine w_ck K rfl ?_
        refine w_go K 1 (c' := (75, [some (.ref 102), some (.int a1), some (.int 1000), some (.int 1000)], [.int 1000, .int (gI (sI s 108 (ix a1) (if (1000 : Int32) < (1000 : Int32) then (1000 : Int32) else (1000 : Int32))) 108 (ix a1))], mT (sI (sI s 108 (ix a1) (if (1000 : Int32) < (1000 : Int32) then (1000 : Int32) else (1000 : Int32))) 109 (ix a1) 0))) rfl ?_
        refine w_br K rfl (fun _ => ?_) (fun _ => ?_)
        · refine w_go K 0 (c' := (120, [some (.ref 102), some (.int a1), some (.int 1000), some (.int 1000)], [], mT (sI (sI s 108 (ix a1) (if (1000 : Int32) < (1000 : Int32) then (1000 : Int32) else (1000 : Int32))) 109 (ix a1) 0))) rfl ?_
          exact w_ret K rfl (hK _)
        · refine w_go K 7 (c' := (89, [some (.ref 102), some (.int a1), some (.int 1000), some (.int 1000)], [.int a1, .ref 108, .int 1000, .int a1, .ref 109], mT (sI (sI s 108 (ix a1) (if (1000 : Int32) < (1000 : Int32) then (1000 : Int32) else (1000 : Int32))) 109 (ix a1) 0))) rfl ?_
          refine w_ck K rfl ?_
          refine w_go K 0 (c' := (90, [some (.ref 102), some (.int a1), some (.int 1000), some (.int 1000)], [.int (gI (sI s 108 (ix a1) (if (1000 : Int32) < (1000 : Int32) then (1000 : Int32) else (1000 : Int32))) 108 (ix a1)), .int 1000, .int a1, .ref 109], mT (sI (sI s 108 (ix a1) (if (1000 : Int32) < (1000 : Int32) then (1000 : Int32) else (1000 : Int32))) 109 (ix a1) 0))) rfl ?_
          refine w_br K rfl (fun _ => ?_) (fun _ => ?_)
          · refine w_go K 6 (c' := (104, [some (.ref 102), some (.int a1), some (.int 1000), some (.int 1000)], [.int a1, .ref 108, .int 1000, .int 1, .int a1, .ref 109], mT (sI (sI s 108 (ix a1) (if (1000 : Int32) < (1000 : Int32) then (1000 : Int32) else (1000 : Int32))) 109 (ix a1) 0))) rfl ?_
            refine w_ck K rfl ?_
            refine w_go K 0 (c' := (105, [some (.ref 102), some (.int a1), some (.int 1000), some (.int 1000)], [.int (gI (sI s 108 (ix a1) (if (1000 : Int32) < (1000 : Int32) then (1000 : Int32) else (1000 : Int32))) 108 (ix a1)), .int 1000, .int 1, .int a1, .ref 109], mT (sI (sI s 108 (ix a1) (if (1000 : Int32) < (1000 : Int32) then (1000 : Int32) else (1000 : Int32))) 109 (ix a1) 0))) rfl ?_
            refine w_br K rfl (fun _ => ?_) (fun _ => ?_)
            · refine w_go K 3 (c' := (113, [some (.ref 102), some (.int a1), some (.int 1000), some (.int 1000)], [.int a1, .ref 107, .int 1, .int a1, .ref 109], mT (sI (sI s 108 (ix a1) (if (1000 : Int32) < (1000 : Int32) then (1000 : Int32) else (1000 : Int32))) 109 (ix a1) 0))) rfl ?_
              refine w_ck K rfl ?_
              refine w_go K 2 (c' := (119, [some (.ref 102), some (.int a1), some (.int 1000), some (.int 1000)], [.int (1 + (gI s 107 (ix a1))), .int a1, .ref 109], mT (sI (sI s 108 (ix a1) (if (1000 : Int32) < (1000 : Int32) then (1000 : Int32) else (1000 : Int32))) 109 (ix a1) 0))) rfl ?_
              refine w_ck K rfl ?_
              refine w_go K 0 (c' := (120, [some (.ref 102), some (.int a1), some (.int 1000), some (.int 1000)], [], mT (sI (sI (sI s 108 (ix a1) (if (1000 : Int32) < (1000 : Int32) then (1000 : Int32) else (1000 : Int32))) 109 (ix a1) 0) 109 (ix a1) (1 + (gI s 107 (ix a1)))))) rfl ?_
              exact w_ret K rfl (hK _)
            · refine w_go K 2 (c' := (119, [some (.ref 102), some (.int a1), some (.int 1000), some (.int 1000)], [.int ((1 : Int32) + 0), .int a1, .ref 109], mT (sI (sI s 108 (ix a1) (if (1000 : Int32) < (1000 : Int32) then (1000 : Int32) else (1000 : Int32))) 109 (ix a1) 0))) rfl ?_
              refine w_ck K rfl ?_
              refine w_go K 0 (c' := (120, [some (.ref 102), some (.int a1), some (.int 1000), some (.int 1000)], [], mT (sI (sI (sI s 108 (ix a1) (if (1000 : Int32) < (1000 : Int32) then (1000 : Int32) else (1000 : Int32))) 109 (ix a1) 0) 109 (ix a1) ((1 : Int32) + 0)))) rfl ?_
              exact w_ret K rfl (hK _)
          · refine w_go K 5 (c' := (104, [some (.ref 102), some (.int a1), some (.int 1000), some (.int 1000)], [.int a1, .ref 108, .int 1000, .int 0, .int a1, .ref 109], mT (sI (sI s 108 (ix a1) (if (1000 : Int32) < (1000 : Int32) then (1000 : Int32) else (1000 : Int32))) 109 (ix a1) 0))) rfl ?_
            refine w_ck K rfl ?_
            refine w_go K 0 (c' := (105, [some (.ref 102), some (.int a1), some (.int 1000), some (.int 1000)], [.int (gI (sI s 108 (ix a1) (if (1000 : Int32) < (1000 : Int32) then (1000 : Int32) else (1000 : Int32))) 108 (ix a1)), .int 1000, .int 0, .int a1, .ref 109], mT (sI (sI s 108 (ix a1) (if (1000 : Int32) < (1000 : Int32) then (1000 : Int32) else (1000 : Int32))) 109 (ix a1) 0))) rfl ?_
            refine w_br K rfl (fun _ => ?_) (fun _ => ?_)
            · refine w_go K 3 (c' := (113, [some (.ref 102), some (.int a1), some (.int 1000), some (.int 1000)], [.int a1, .ref 107, .int 0, .int a1, .ref 109], mT (sI (sI s 108 (ix a1) (if (1000 : Int32) < (1000 : Int32) then (1000 : Int32) else (1000 : Int32))) 109 (ix a1) 0))) rfl ?_
              refine w_ck K rfl ?_
              refine w_go K 2 (c' := (119, [some (.ref 102), some (.int a1), some (.int 1000), some (.int 1000)], [.int (0 + (gI s 107 (ix a1))), .int a1, .ref 109], mT (sI (sI s 108 (ix a1) (if (1000 : Int32) < (1000 : Int32) then (1000 : Int32) else (1000 : Int32))) 109 (ix a1) 0))) rfl ?_
              refine w_ck K rfl ?_
              refine w_go K 0 (c' := (120, [some (.ref 102), some (.int a1), some (.int 1000), some (.int 1000)], [], mT (sI (sI (sI s 108 (ix a1) (if (1000 : Int32) < (1000 : Int32) then (1000 : Int32) else (1000 : Int32))) 109 (ix a1) 0) 109 (ix a1) (0 + (gI s 107 (ix a1)))))) rfl ?_
              exact w_ret K rfl (hK _)
            · refine w_go K 2 (c' := (119, [some (.ref 102), some (.int a1), some (.int 1000), some (.int 1000)], [.int ((0 : Int32) + 0), .int a1, .ref 109], mT (sI (sI s 108 (ix a1) (if (1000 : Int32) < (1000 : Int32) then (1000 : Int32) else (1000 : Int32))) 109 (ix a1) 0))) rfl ?_
              refine w_ck K rfl ?_
              refine w_go K 0 (c' := (120, [some (.ref 102), some (.int a1), some (.int 1000), some (.int 1000)], [], mT (sI (sI (sI s 108 (ix a1) (if (1000 : Int32) < (1000 : Int32) then (1000 : Int32) else (1000 : Int32))) 109 (ix a1) 0) 109 (ix a1) ((0 : Int32) + 0)))) rfl ?_
              exact w_ret K rfl (hK _)
      · refine w_go K 3 (c' := (46, [some (.ref 102), some (.int a1), some (.int 1000), none], [.int a1, .ref 106], mT s)) rfl ?_
        refine w_ck K rfl ?_
        refine w_go K 7 (c' := (58, [some (.ref 102), some (.int a1), some (.int 1000), some (.int (gI s 106 (ix a1)))], [.int (if (gI s 106 (ix a1)) < (1000 : Int32) then (gI s 106 (ix a1)) else (1000 : Int32)), .int a1, .ref 108], mT s)) rfl ?_
        refine w_ck K rfl ?_
        refine w_go K 4 (c' := (65, [some (.ref 102), some (.int a1), some (.int 1000), some (.int (gI s 106 (ix a1)))], [.int 0, .int a1, .ref 109], mT (sI s 108 (ix a1) (if (gI s 106 (ix a1)) < (1000 : Int32) then (gI s 106 (ix a1)) else (1000 : Int32))))) rfl ?_
        refine w_ck K rfl ?_
        refine w_go K 3 (c' := (71, [some (.ref 102), some (.int a1), some (.int 1000), some (.int (gI s 106 (ix a1)))], [.int a1, .ref 108], mT (sI (sI s 108 (ix a1) (if (gI s 106 (ix a1)) < (1000 : Int32) then (gI s 106 (ix a1)) else (1000 : Int32))) 109 (ix a1) 0))) rfl ?_
        refine w_ck K rfl ?_
        refine w_go K 1 (c' := (75, [some (.ref 102), some (.int a1), some (.int 1000), some (.int (gI s 106 (ix a1)))], [.int 1000, .int (gI (sI s 108 (ix a1) (if (gI s 106 (ix a1)) < (1000 : Int32) then (gI s 106 (ix a1)) else (1000 : Int32))) 108 (ix a1))], mT (sI (sI s 108 (ix a1) (if (gI s 106 (ix a1)) < (1000 : Int32) then (gI s 106 (ix a1)) else (1000 : Int32))) 109 (ix a1) 0))) rfl ?_
        refine w_br K rfl (fun _ => ?_) (fun _ => ?_)
        · refine w_go K 0 (c' := (120, [some (.ref 102), some (.int a1), some (.int 1000), some (.int (gI s 106 (ix a1)))], [], mT (sI (sI s 108 (ix a1) (if (gI s 106 (ix a1)) < (1000 : Int32) then (gI s 106 (ix a1)) else (1000 : Int32))) 109 (ix a1) 0))) rfl ?_
          exact w_ret K rfl (hK _)
        · refine w_go K 7 (c' := (89, [some (.ref 102), some (.int a1), some (.int 1000), some (.int (gI s 106 (ix a1)))], [.int a1, .ref 108, .int 1000, .int a1, .ref 109], mT (sI (sI s 108 (ix a1) (if (gI s 106 (ix a1)) < (1000 : Int32) then (gI s 106 (ix a1)) else (1000 : Int32))) 109 (ix a1) 0))) rfl ?_
          refine w_ck K rfl ?_
          refine w_go K 0 (c' := (90, [some (.ref 102), some (.int a1), some (.int 1000), some (.int (gI s 106 (ix a1)))], [.int (gI (sI s 108 (ix a1) (if (gI s 106 (ix a1)) < (1000 : Int32) then (gI s 106 (ix a1)) else (1000 : Int32))) 108 (ix a1)), .int 1000, .int a1, .ref 109], mT (sI (sI s 108 (ix a1) (if (gI s 106 (ix a1)) < (1000 : Int32) then (gI s 106 (ix a1)) else (1000 : Int32))) 109 (ix a1) 0))) rfl ?_
          refine w_br K rfl (fun _ => ?_) (fun _ => ?_)
          · refine w_go K 6 (c' := (104, [some (.ref 102), some (.int a1), some (.int 1000), some (.int (gI s 106 (ix a1)))], [.int a1, .ref 108, .int (gI s 106 (ix a1)), .int 1, .int a1, .ref 109], mT (sI (sI s 108 (ix a1) (if (gI s 106 (ix a1)) < (1000 : Int32) then (gI s 106 (ix a1)) else (1000 : Int32))) 109 (ix a1) 0))) rfl ?_
            refine w_ck K rfl ?_
            refine w_go K 0 (c' := (105, [some (.ref 102), some (.int a1), some (.int 1000), some (.int (gI s 106 (ix a1)))], [.int (gI (sI s 108 (ix a1) (if (gI s 106 (ix a1)) < (1000 : Int32) then (gI s 106 (ix a1)) else (1000 : Int32))) 108 (ix a1)), .int (gI s 106 (ix a1)), .int 1, .int a1, .ref 109], mT (sI (sI s 108 (ix a1) (if (gI s 106 (ix a1)) < (1000 : Int32) then (gI s 106 (ix a1)) else (1000 : Int32))) 109 (ix a1) 0))) rfl ?_
            refine w_br K rfl (fun _ => ?_) (fun _ => ?_)
            · refine w_go K 3 (c' := (113, [some (.ref 102), some (.int a1), some (.int 1000), some (.int (gI s 106 (ix a1)))], [.int a1, .ref 107, .int 1, .int a1, .ref 109], mT (sI (sI s 108 (ix a1) (if (gI s 106 (ix a1)) < (1000 : Int32) then (gI s 106 (ix a1)) else (1000 : Int32))) 109 (ix a1) 0))) rfl ?_
              refine w_ck K rfl ?_
              refine w_go K 2 (c' := (119, [some (.ref 102), some (.int a1), some (.int 1000), some (.int (gI s 106 (ix a1)))], [.int (1 + (gI s 107 (ix a1))), .int a1, .ref 109], mT (sI (sI s 108 (ix a1) (if (gI s 106 (ix a1)) < (1000 : Int32) then (gI s 106 (ix a1)) else (1000 : Int32))) 109 (ix a1) 0))) rfl ?_
              refine w_ck K rfl ?_
              refine w_go K 0 (c' := (120, [some (.ref 102), some (.int a1), some (.int 1000), some (.int (gI s 106 (ix a1)))], [], mT (sI (sI (sI s 108 (ix a1) (if (gI s 106 (ix a1)) < (1000 : Int32) then (gI s 106 (ix a1)) else (1000 : Int32))) 109 (ix a1) 0) 109 (ix a1) (1 + (gI s 107 (ix a1)))))) rfl ?_
              exact w_ret K rfl (hK _)
            · refine w_go K 2 (c' := (119, [some (.ref 102), some (.int a1), some (.int 1000), some (.int (gI s 106 (ix a1)))], [.int ((1 : Int32) + 0), .int a1, .ref 109], mT (sI (sI s 108 (ix a1) (if (gI s 106 (ix a1)) < (1000 : Int32) then (gI s 106 (ix a1)) else (1000 : Int32))) 109 (ix a1) 0))) rfl ?_
              refine w_ck K rfl ?_
              refine w_go K 0 (c' := (120, [some (.ref 102), some (.int a1), some (.int 1000), some (.int (gI s 106 (ix a1)))], [], mT (sI (sI (sI s 108 (ix a1) (if (gI s 106 (ix a1)) < (1000 : Int32) then (gI s 106 (ix a1)) else (1000 : Int32))) 109 (ix a1) 0) 109 (ix a1) ((1 : Int32) + 0)))) rfl ?_
              exact w_ret K rfl (hK _)
          · refine w_go K 5 (c' := (104, [some (.ref 102), some (.int a1), some (.int 1000), some (.int (gI s 106 (ix a1)))], [.int a1, .ref 108, .int (gI s 106 (ix a1)), .int 0, .int a1, .ref 109], mT (sI (sI s 108 (ix a1) (if (gI s 106 (ix a1)) < (1000 : Int32) then (gI s 106 (ix a1)) else (1000 : Int32))) 109 (ix a1) 0))) rfl ?_
            refine w_ck K rfl ?_
            refine w_go K 0 (c' := (105, [some (.ref 102), some (.int a1), some (.int 1000), some (.int (gI s 106 (ix a1)))], [.int (gI (sI s 108 (ix a1) (if (gI s 106 (ix a1)) < (1000 : Int32) then (gI s 106 (ix a1)) else (1000 : Int32))) 108 (ix a1)), .int (gI s 106 (ix a1)), .int 0, .int a1, .ref 109], mT (sI (sI s 108 (ix a1) (if (gI s 106 (ix a1)) < (1000 : Int32) then (gI s 106 (ix a1)) else (1000 : Int32))) 109 (ix a1) 0))) rfl ?_
            refine w_br K rfl (fun _ => ?_) (fun _ => ?_)
            · refine w_go K 3 (c' := (113, [some (.ref 102), some (.int a1), some (.int 1000), some (.int (gI s 106 (ix a1)))], [.int a1, .ref 107, .int 0, .int a1, .ref 109], mT (sI (sI s 108 (ix a1) (if (gI s 106 (ix a1)) < (1000 : Int32) then (gI s 106 (ix a1)) else (1000 : Int32))) 109 (ix a1) 0))) rfl ?_
              refine w_ck K rfl ?_
              refine w_go K 2 (c' := (119, [some (.ref 102), some (.int a1), some (.int 1000), some (.int (gI s 106 (ix a1)))], [.int (0 + (gI s 107 (ix a1))), .int a1, .ref 109], mT (sI (sI s 108 (ix a1) (if (gI s 106 (ix a1)) < (1000 : Int32) then (gI s 106 (ix a1)) else (1000 : Int32))) 109 (ix a1) 0))) rfl ?_
              refine w_ck K rfl ?_
              refine w_go K 0 (c' := (120, [some (.ref 102), some (.int a1), some (.int 1000), some (.int (gI s 106 (ix a1)))], [], mT (sI (sI (sI s 108 (ix a1) (if (gI s 106 (ix a1)) < (1000 : Int32) then (gI s 106 (ix a1)) else (1000 : Int32))) 109 (ix a1) 0) 109 (ix a1) (0 + (gI s 107 (ix a1)))))) rfl ?_
              exact w_ret K rfl (hK _)
            · refine w_go K 2 (c' := (119, [some (.ref 102), some (.int a1), some (.int 1000), some (.int (gI s 106 (ix a1)))], [.int ((0 : Int32) + 0), .int a1, .ref 109], mT (sI (sI s 108 (ix a1) (if (gI s 106 (ix a1)) < (1000 : Int32) then (gI s 106 (ix a1)) else (1000 : Int32))) 109 (ix a1) 0))) rfl ?_
              refine w_ck K rfl ?_
              refine w_go K 0 (c' := (120, [some (.ref 102), some (.int a1), some (.int 1000), some (.int (gI s 106 (ix a1)))], [], mT (sI (sI (sI s 108 (ix a1) (if (gI s 106 (ix a1)) < (1000 : Int32) then (gI s 106 (ix a1)) else (1000 : Int32))) 109 (ix a1) 0) 109 (ix a1) ((0 : Int32) + 0)))) rfl ?_
              exact w_ret K rfl (hK _)
theorem m_Eyes_weigh {len : Nat} {xs : Nat → Int32} (d : Nat) (a1 : Int32) (s : mS) : ok_Eyes_weigh a1 s → mm_call (mm_X len xs) mm_Y (d + 1) 140 [.ref 102, .int a1] (mT s) = some (none, mT (f_Eyes_weigh a1 s)) := fun h => t_Eyes_weigh (len := len) (xs := xs) d a1 s (fun t => (some (none, mT t) : Option mm_R) = some (none, mT (f_Eyes_weigh a1 s))) (fun _ h => h) h rfl
def lp_Eyes_reach_9   : Nat → Int32 → mS → Int32 × mS
  | 0, v2, s => (v2, s)
  | n + 1, v2, s => (if (16 : Int32) ≤ v2 then (v2, s) else (if (f_Net_hasPipe v2 (sI s 110 (ix v2) 0)) = 0 then (lp_Eyes_reach_9 n (v2 + 1) (sI s 110 (ix v2) 0)) else (if (f_Net_has (gI s 26 (ix v2)) (sI s 110 (ix v2) 0)) = 0 then (lp_Eyes_reach_9 n (v2 + 1) (sI s 110 (ix v2) 0)) else (if (gI s 109 (ix v2)) = 0 then (lp_Eyes_reach_9 n (v2 + 1) (sI s 110 (ix v2) 0)) else (if (gI s 26 (ix v2)) = 0 then (lp_Eyes_reach_9 n (v2 + 1) (sI (sI s 110 (ix v2) 0) 110 (ix v2) ((gI (sI s 110 (ix v2) 0) 110 (ix (gI s 26 (ix v2)))) * ((gI s 107 (ix (gI s 26 (ix v2)))) / (gI s 109 (ix v2)))))) else (if (gI s 103 (ix (gI s 26 (ix v2)))) = 0 then (lp_Eyes_reach_9 n (v2 + 1) (sI (sI s 110 (ix v2) 0) 110 (ix v2) 0)) else (if (gI s 106 (ix (gI s 26 (ix v2)))) = (gI s 108 (ix (gI s 26 (ix v2)))) then (lp_Eyes_reach_9 n (v2 + 1) (sI (sI s 110 (ix v2) 0) 110 (ix v2) ((gI (sI s 110 (ix v2) 0) 110 (ix (gI s 26 (ix v2)))) * ((gI s 107 (ix (gI s 26 (ix v2)))) / (gI s 109 (ix v2)))))) else (lp_Eyes_reach_9 n (v2 + 1) (sI (sI s 110 (ix v2) 0) 110 (ix v2) 0)))))))))
def okl_Eyes_reach_9   : Nat → Int32 → mS → Prop
  | 0, v2, s => False
  | n + 1, v2, s => (if (16 : Int32) ≤ v2 then True else (mm_inb v2 16 = true ∧ (mm_inb v2 16 = true ∧ (if (f_Net_hasPipe v2 (sI s 110 (ix v2) 0)) = 0 then (okl_Eyes_reach_9 n (v2 + 1) (sI s 110 (ix v2) 0)) else (if (f_Net_has (gI s 26 (ix v2)) (sI s 110 (ix v2) 0)) = 0 then (okl_Eyes_reach_9 n (v2 + 1) (sI s 110 (ix v2) 0)) else (mm_inb v2 16 = true ∧ (if (gI s 109 (ix v2)) = 0 then (okl_Eyes_reach_9 n (v2 + 1) (sI s 110 (ix v2) 0)) else (if (gI s 26 (ix v2)) = 0 then (mm_inb (gI s 26 (ix v2)) 16 = true ∧ (mm_inb (gI s 26 (ix v2)) 16 = true ∧ (mm_inb v2 16 = true ∧ ((!(decide ((gI s 109 (ix v2)) = (0 : Int32)))) = true ∧ (mm_inb v2 16 = true ∧ (okl_Eyes_reach_9 n (v2 + 1) (sI (sI s 110 (ix v2) 0) 110 (ix v2) ((gI (sI s 110 (ix v2) 0) 110 (ix (gI s 26 (ix v2)))) * ((gI s 107 (ix (gI s 26 (ix v2)))) / (gI s 109 (ix v2))))))))))) else (mm_inb (gI s 26 (ix v2)) 16 = true ∧ (if (gI s 103 (ix (gI s 26 (ix v2)))) = 0 then (mm_inb v2 16 = true ∧ (okl_Eyes_reach_9 n (v2 + 1) (sI (sI s 110 (ix v2) 0) 110 (ix v2) 0))) else (mm_inb (gI s 26 (ix v2)) 16 = true ∧ (mm_inb (gI s 26 (ix v2)) 16 = true ∧ (if (gI s 106 (ix (gI s 26 (ix v2)))) = (gI s 108 (ix (gI s 26 (ix v2)))) then (mm_inb (gI s 26 (ix v2)) 16 = true ∧ (mm_inb (gI s 26 (ix v2)) 16 = true ∧ (mm_inb v2 16 = true ∧ ((!(decide ((gI s 109 (ix v2)) = (0 : Int32)))) = true ∧ (mm_inb v2 16 = true ∧ (okl_Eyes_reach_9 n (v2 + 1) (sI (sI s 110 (ix v2) 0) 110 (ix v2) ((gI (sI s 110 (ix v2) 0) 110 (ix (gI s 26 (ix v2)))) * ((gI s 107 (ix (gI s 26 (ix v2)))) / (gI s 109 (ix v2))))))))))) else (mm_inb v2 16 = true ∧ (okl_Eyes_reach_9 n (v2 + 1) (sI (sI s 110 (ix v2) 0) 110 (ix v2) 0))))))))))))))))
theorem tl_Eyes_reach_9 {len : Nat} {xs : Nat → Int32} (d : Nat)   {T : Option mm_R} (K : Int32 × mS → Prop) (hX : ∀ r, K r → ∀ (o3 : Option Value) (o4 : Option Value), mm_fix (mm_X len xs) mm_Y (mm_call (mm_X len xs) mm_Y (d + 2)) (mm_look mc_Eyes_reach) (133, [some (.ref 102), some (.ref 25), some (.int r.1), o3, o4], [], mT r.2) = T) : ∀ (n : Nat), ∀ (v2 : Int32) (o3 : Option Value) (o4 : Option Value) (s : mS), okl_Eyes_reach_9 n v2 s → K (lp_Eyes_reach_9 n v2 s) → mm_fix (mm_X len xs) mm_Y (mm_call (mm_X len xs) mm_Y (d + 2)) (mm_look mc_Eyes_reach) (9, [some (.ref 102), some (.ref 25), some (.int v2), o3, o4], [], mT s) = T := by
  intro n
  induction n with
  | zero => intro v2 o3 o4 s; exact fun h => h.elim
  | succ n ih =>
    intro v2 o3 o4 s
    rw [okl_Eyes_reach_9, lp_Eyes_reach_9]
    refine w_go K 2 (c' := (12, [some (.ref 102), some (.ref 25), some (.int v2), o3, o4], [.int 16, .int v2], mT s)) rfl ?_
    refine w_br K rfl (fun _ => ?_) (fun _ => ?_)
    · refine w_go K 0 (c' := (133, [some (.ref 102), some (.ref 25), some (.int v2), o3, o4], [], mT s)) rfl ?_
      exact fun _ b => hX _ b _ _
    · refine w_go K 4 (c' := (21, [some (.ref 102), some (.ref 25), some (.int v2), o3, o4], [.int 0, .int v2, .ref 110], mT s)) rfl ?_
      refine w_ck K rfl ?_
      refine w_go K 3 (c' := (27, [some (.ref 102), some (.ref 25), some (.int v2), o3, o4], [.int v2, .ref 26], mT (sI s 110 (ix v2) 0))) rfl ?_
      refine w_ck K rfl ?_
      refine w_go K 3 (c' := (31, [some (.ref 102), some (.ref 25), some (.int v2), some (.int (gI s 26 (ix v2))), o4], [.int v2, .ref 25], mT (sI s 110 (ix v2) 0))) rfl ?_
      refine w_callT K rfl (m_Net_hasPipe (len := len) (xs := xs) (d + 0) v2 (sI s 110 (ix v2) 0)) ?_
      refine w_go K 0 (c' := (34, [some (.ref 102), some (.ref 25), some (.int v2), some (.int (gI s 26 (ix v2))), o4], [.int (f_Net_hasPipe v2 (sI s 110 (ix v2) 0))], mT (sI s 110 (ix v2) 0))) rfl ?_
      refine w_br K rfl (fun _ => ?_) (fun _ => ?_)
      · refine w_go K 2 (c' := (9, [some (.ref 102), some (.ref 25), some (.int (v2 + 1)), some (.int (gI s 26 (ix v2))), o4], [], mT (sI s 110 (ix v2) 0))) rfl ?_
        exact fun a b => ih (v2 + 1) _ _ (sI s 110 (ix v2) 0) a b
      · refine w_go K 2 (c' := (39, [some (.ref 102), some (.ref 25), some (.int v2), some (.int (gI s 26 (ix v2))), o4], [.int (gI s 26 (ix v2)), .ref 25], mT (sI s 110 (ix v2) 0))) rfl ?_
        refine w_callT K rfl (m_Net_has (len := len) (xs := xs) (d + 1) (gI s 26 (ix v2)) (sI s 110 (ix v2) 0)) ?_
        refine w_go K 0 (c' := (42, [some (.ref 102), some (.ref 25), some (.int v2), some (.int (gI s 26 (ix v2))), o4], [.int (f_Net_has (gI s 26 (ix v2)) (sI s 110 (ix v2) 0))], mT (sI s 110 (ix v2) 0))) rfl ?_
        refine w_br K rfl (fun _ => ?_) (fun _ => ?_)
        · refine w_go K 2 (c' := (9, [some (.ref 102), some (.ref 25), some (.int (v2 + 1)), some (.int (gI s 26 (ix v2))), o4], [], mT (sI s 110 (ix v2) 0))) rfl ?_
          exact fun a b => ih (v2 + 1) _ _ (sI s 110 (ix v2) 0) a b
        · refine w_go K 3 (c' := (50, [some (.ref 102), some (.ref 25), some (.int v2), some (.int (gI s 26 (ix v2))), o4], [.int v2, .ref 109], mT (sI s 110 (ix v2) 0))) rfl ?_
          refine w_ck K rfl ?_
          refine w_go K 0 (c' := (51, [some (.ref 102), some (.ref 25), some (.int v2), some (.int (gI s 26 (ix v2))), o4], [.int (gI s 109 (ix v2))], mT (sI s 110 (ix v2) 0))) rfl ?_
          refine w_br K rfl (fun _ => ?_) (fun _ => ?_)
          · refine w_go K 3 (c' := (9, [some (.ref 102), some (.ref 25), some (.int (v2 + 1)), some (.int (gI s 26 (ix v2))), o4], [], mT (sI s 110 (ix v2) 0))) rfl ?_
            exact fun a b => ih (v2 + 1) _ _ (sI s 110 (ix v2) 0) a b
          · refine w_go K 1 (c' := (58, [some (.ref 102), some (.ref 25), some (.int v2), some (.int (gI s 26 (ix v2))), o4], [.int (gI s 26 (ix v2))], mT (sI s 110 (ix v2) 0))) rfl ?_
            refine w_br K rfl (fun _ => ?_) (fun _ => ?_)
            · refine w_go K 11 (c' := (107, [some (.ref 102), some (.ref 25), some (.int v2), some (.int (gI s 26 (ix v2))), some (.int 1)], [.int (gI s 26 (ix v2)), .ref 110, .int v2, .ref 110], mT (sI s 110 (ix v2) 0))) rfl ?_
              refine w_ck K rfl ?_
              refine w_go K 3 (c' := (113, [some (.ref 102), some (.ref 25), some (.int v2), some (.int (gI s 26 (ix v2))), some (.int 1)], [.int (gI s 26 (ix v2)), .ref 107, .int (gI (sI s 110 (ix v2) 0) 110 (ix (gI s 26 (ix v2)))), .int v2, .ref 110], mT (sI s 110 (ix v2) 0))) rfl ?_
              refine w_ck K rfl ?_
              refine w_go K 3 (c' := (119, [some (.ref 102), some (.ref 25), some (.int v2), some (.int (gI s 26 (ix v2))), some (.int 1)], [.int v2, .ref 109, .int (gI s 107 (ix (gI s 26 (ix v2)))), .int (gI (sI s 110 (ix v2) 0) 110 (ix (gI s 26 (ix v2)))), .int v2, .ref 110], mT (sI s 110 (ix v2) 0))) rfl ?_
              refine w_ck K rfl ?_
              refine w_go K 0 (c' := (120, [some (.ref 102), some (.ref 25), some (.int v2), some (.int (gI s 26 (ix v2))), some (.int 1)], [.int (gI s 109 (ix v2)), .int (gI s 107 (ix (gI s 26 (ix v2)))), .int (gI (sI s 110 (ix v2) 0) 110 (ix (gI s 26 (ix v2)))), .int v2, .ref 110], mT (sI s 110 (ix v2) 0))) rfl ?_
              refine w_ck K rfl ?_
              refine w_go K 2 (c' := (126, [some (.ref 102), some (.ref 25), some (.int v2), some (.int (gI s 26 (ix v2))), some (.int 1)], [.int ((gI (sI s 110 (ix v2) 0) 110 (ix (gI s 26 (ix v2)))) * ((gI s 107 (ix (gI s 26 (ix v2)))) / (gI s 109 (ix v2)))), .int v2, .ref 110], mT (sI s 110 (ix v2) 0))) rfl ?_
              refine w_ck K rfl ?_
              refine w_go K 2 (c' := (9, [some (.ref 102), some (.ref 25), some (.int (v2 + 1)), some (.int (gI s 26 (ix v2))), some (.int 1)], [], mT (sI (sI s 110 (ix v2) 0) 110 (ix v2) ((gI (sI s 110 (ix v2) 0) 110 (ix (gI s 26 (ix v2)))) * ((gI s 107 (ix (gI s 26 (ix v2)))) / (gI s 109 (ix v2))))))) rfl ?_
              exact fun a b => ih (v2 + 1) _ _ (sI (sI s 110 (ix v2) 0) 110 (ix v2) ((gI (sI s 110 (ix v2) 0) 110 (ix (gI s 26 (ix v2)))) * ((gI s 107 (ix (gI s 26 (ix v2)))) / (gI s 109 (ix v2))))) a b
            · refine w_go K 3 (c' := (66, [some (.ref 102), some (.ref 25), some (.int v2), some (.int (gI s 26 (ix v2))), o4], [.int (gI s 26 (ix v2)), .ref 103], mT (sI s 110 (ix v2) 0))) rfl ?_
              refine w_ck K rfl ?_
              refine w_go K 0 (c' := (67, [some (.ref 102), some (.ref 25), some (.int v2), some (.int (gI s 26 (ix v2))), o4], [.int (gI s 103 (ix (gI s 26 (ix v2))))], mT (sI s 110 (ix v2) 0))) rfl ?_
              refine w_br K rfl (fun _ => ?_) (fun _ => ?_)
              · refine w_go K 8 (c' := (126, [some (.ref 102), some (.ref 25), some (.int v2), some (.int (gI s 26 (ix v2))), some (.int 0)], [.int 0, .int v2, .ref 110], mT (sI s 110 (ix v2) 0))) rfl ?_
                refine w_ck K rfl ?_
                refine w_go K 2 (c' := (9, [some (.ref 102), some (.ref 25), some (.int (v2 + 1)), some (.int (gI s 26 (ix v2))), some (.int 0)], [], mT (sI (sI s 110 (ix v2) 0) 110 (ix v2) 0))) rfl ?_
                exact fun a b => ih (v2 + 1) _ _ (sI (sI s 110 (ix v2) 0) 110 (ix v2) 0) a b
              · refine w_go K 3 (c' := (75, [some (.ref 102), some (.ref 25), some (.int v2), some (.int (gI s 26 (ix v2))), o4], [.int (gI s 26 (ix v2)), .ref 106], mT (sI s 110 (ix v2) 0))) rfl ?_
                refine w_ck K rfl ?_
                refine w_go K 3 (c' := (81, [some (.ref 102), some (.ref 25), some (.int v2), some (.int (gI s 26 (ix v2))), o4], [.int (gI s 26 (ix v2)), .ref 108, .int (gI s 106 (ix (gI s 26 (ix v2))))], mT (sI s 110 (ix v2) 0))) rfl ?_
                refine w_ck K rfl ?_
                refine w_go K 0 (c' := (82, [some (.ref 102), some (.ref 25), some (.int v2), some (.int (gI s 26 (ix v2))), o4], [.int (gI s 108 (ix (gI s 26 (ix v2)))), .int (gI s 106 (ix (gI s 26 (ix v2))))], mT (sI s 110 (ix v2) 0))) rfl ?_
                refine w_br K rfl (fun _ => ?_) (fun _ => ?_)
                · refine w_go K 11 (c' := (107, [some (.ref 102), some (.ref 25), some (.int v2), some (.int (gI s 26 (ix v2))), some (.int 1)], [.int (gI s 26 (ix v2)), .ref 110, .int v2, .ref 110], mT (sI s 110 (ix v2) 0))) rfl ?_
                  refine w_ck K rfl ?_
                  refine w_go K 3 (c' := (113, [some (.ref 102), some (.ref 25), some (.int v2), some (.int (gI s 26 (ix v2))), some (.int 1)], [.int (gI s 26 (ix v2)), .ref 107, .int (gI (sI s 110 (ix v2) 0) 110 (ix (gI s 26 (ix v2)))), .int v2, .ref 110], mT (sI s 110 (ix v2) 0))) rfl ?_
                  refine w_ck K rfl ?_
                  refine w_go K 3 (c' := (119, [some (.ref 102), some (.ref 25), some (.int v2), some (.int (gI s 26 (ix v2))), some (.int 1)], [.int v2, .ref 109, .int (gI s 107 (ix (gI s 26 (ix v2)))), .int (gI (sI s 110 (ix v2) 0) 110 (ix (gI s 26 (ix v2)))), .int v2, .ref 110], mT (sI s 110 (ix v2) 0))) rfl ?_
                  refine w_ck K rfl ?_
                  refine w_go K 0 (c' := (120, [some (.ref 102), some (.ref 25), some (.int v2), some (.int (gI s 26 (ix v2))), some (.int 1)], [.int (gI s 109 (ix v2)), .int (gI s 107 (ix (gI s 26 (ix v2)))), .int (gI (sI s 110 (ix v2) 0) 110 (ix (gI s 26 (ix v2)))), .int v2, .ref 110], mT (sI s 110 (ix v2) 0))) rfl ?_
                  refine w_ck K rfl ?_
                  refine w_go K 2 (c' := (126, [some (.ref 102), some (.ref 25), some (.int v2), some (.int (gI s 26 (ix v2))), some (.int 1)], [.int ((gI (sI s 110 (ix v2) 0) 110 (ix (gI s 26 (ix v2)))) * ((gI s 107 (ix (gI s 26 (ix v2)))) / (gI s 109 (ix v2)))), .int v2, .ref 110], mT (sI s 110 (ix v2) 0))) rfl ?_
                  refine w_ck K rfl ?_
                  refine w_go K 2 (c' := (9, [some (.ref 102), some (.ref 25), some (.int (v2 + 1)), some (.int (gI s 26 (ix v2))), some (.int 1)], [], mT (sI (sI s 110 (ix v2) 0) 110 (ix v2) ((gI (sI s 110 (ix v2) 0) 110 (ix (gI s 26 (ix v2)))) * ((gI s 107 (ix (gI s 26 (ix v2)))) / (gI s 109 (ix v2))))))) rfl ?_
                  exact fun a b => ih (v2 + 1) _ _ (sI (sI s 110 (ix v2) 0) 110 (ix v2) ((gI (sI s 110 (ix v2) 0) 110 (ix (gI s 26 (ix v2)))) * ((gI s 107 (ix (gI s 26 (ix v2)))) / (gI s 109 (ix v2))))) a b
                · refine w_go K 8 (c' := (126, [some (.ref 102), some (.ref 25), some (.int v2), some (.int (gI s 26 (ix v2))), some (.int 0)], [.int 0, .int v2, .ref 110], mT (sI s 110 (ix v2) 0))) rfl ?_
                  refine w_ck K rfl ?_
                  refine w_go K 2 (c' := (9, [some (.ref 102), some (.ref 25), some (.int (v2 + 1)), some (.int (gI s 26 (ix v2))), some (.int 0)], [], mT (sI (sI s 110 (ix v2) 0) 110 (ix v2) 0))) rfl ?_
                  exact fun a b => ih (v2 + 1) _ _ (sI (sI s 110 (ix v2) 0) 110 (ix v2) 0) a b
def f_Eyes_reach (s : mS) : mS := (lp_Eyes_reach_9 mm_N (1 : Int32) (sI s 110 0 1)).2
def ok_Eyes_reach (s : mS) : Prop := (okl_Eyes_reach_9 mm_N (1 : Int32) (sI s 110 0 1) ∧ True)
theorem t_Eyes_reach {len : Nat} {xs : Nat → Int32} (d : Nat) (s : mS) {T : Option mm_R} (K : mS → Prop) (hK : ∀ t, K t → some (none, mT t) = T) : ok_Eyes_reach s → K (f_Eyes_reach s) → mm_fix (mm_X len xs) mm_Y (mm_call (mm_X len xs) mm_Y (d + 2)) (mm_look mc_Eyes_reach) (0, [some (.ref 102), some (.ref 25), none, none, none], [], mT s) = T := by
  unfold ok_Eyes_reach f_Eyes_reach
  refine w_go K 7 (c' := (9, [some (.ref 102), some (.ref 25), some (.int 1), none, none], [], mT (sI s 110 0 1))) rfl ?_
  refine w_loop K (D := ∀ (q1 : Option Value) (q2 : Option Value), mm_fix (mm_X len xs) mm_Y (mm_call (mm_X len xs) mm_Y (d + 2)) (mm_look mc_Eyes_reach) (133, [some (.ref 102), some (.ref 25), some (.int ((lp_Eyes_reach_9 mm_N (1 : Int32) (sI s 110 0 1)).1)), q1, q2], [], mT ((lp_Eyes_reach_9 mm_N (1 : Int32) (sI s 110 0 1)).2)) = T) (fun h1 h2 => tl_Eyes_reach_9 (len := len) (xs := xs) d (T := T) (K := fun r => r = lp_Eyes_reach_9 mm_N (1 : Int32) (sI s 110 0 1)) (fun r hr => by subst hr; exact h2) mm_N (1 : Int32) _ _ (sI s 110 0 1) h1 rfl) (fun h1 h2 q1 q2 => ?_)
  revert h1 h2
  refine w_go K 0 (c' := (133, [some (.ref 102), some (.ref 25), some (.int ((lp_Eyes_reach_9 mm_N (1 : Int32) (sI s 110 0 1)).1)), q1, q2], [], mT ((lp_Eyes_reach_9 mm_N (1 : Int32) (sI s 110 0 1)).2))) rfl ?_
  exact w_ret K rfl (hK _)
theorem m_Eyes_reach {len : Nat} {xs : Nat → Int32} (d : Nat) (s : mS) : ok_Eyes_reach s → mm_call (mm_X len xs) mm_Y (d + 3) 141 [.ref 102, .ref 25] (mT s) = some (none, mT (f_Eyes_reach s)) := fun h => t_Eyes_reach (len := len) (xs := xs) d s (fun t => (some (none, mT t) : Option mm_R) = some (none, mT (f_Eyes_reach s))) (fun _ h => h) h rfl
def lp_Eyes_explain_2   : Nat → Int32 → mS → Int32 × mS
  | 0, v2, s => (v2, s)
  | n + 1, v2, s => (if (16 : Int32) ≤ v2 then (v2, s) else (if (gI s 103 (ix v2)) = 0 then (if (gI s 103 (ix v2)) = 1 then (lp_Eyes_explain_2 n (v2 + 1) (sI (sI (sI (sI s 104 (ix v2) 1) 105 (ix v2) 1) 106 (ix v2) 0) 107 (ix v2) 1)) else (lp_Eyes_explain_2 n (v2 + 1) (sI (sI (sI (sI s 104 (ix v2) 1) 105 (ix v2) 0) 106 (ix v2) 0) 107 (ix v2) 1))) else (if (gI s 103 (ix v2)) = 1 then (lp_Eyes_explain_2 n (v2 + 1) (sI (sI (sI (sI s 104 (ix v2) 0) 105 (ix v2) 1) 106 (ix v2) 0) 107 (ix v2) 1)) else (lp_Eyes_explain_2 n (v2 + 1) (sI (sI (sI (sI s 104 (ix v2) 0) 105 (ix v2) 0) 106 (ix v2) 0) 107 (ix v2) 1)))))
def okl_Eyes_explain_2   : Nat → Int32 → mS → Prop
  | 0, v2, s => False
  | n + 1, v2, s => (if (16 : Int32) ≤ v2 then True else (mm_inb v2 16 = true ∧ (if (gI s 103 (ix v2)) = 0 then ((mm_inb v2 16 && mm_bit 1) = true ∧ (mm_inb v2 16 = true ∧ (if (gI s 103 (ix v2)) = 1 then ((mm_inb v2 16 && mm_bit 1) = true ∧ (mm_inb v2 16 = true ∧ (mm_inb v2 16 = true ∧ (okl_Eyes_explain_2 n (v2 + 1) (sI (sI (sI (sI s 104 (ix v2) 1) 105 (ix v2) 1) 106 (ix v2) 0) 107 (ix v2) 1))))) else ((mm_inb v2 16 && mm_bit 0) = true ∧ (mm_inb v2 16 = true ∧ (mm_inb v2 16 = true ∧ (okl_Eyes_explain_2 n (v2 + 1) (sI (sI (sI (sI s 104 (ix v2) 1) 105 (ix v2) 0) 106 (ix v2) 0) 107 (ix v2) 1)))))))) else ((mm_inb v2 16 && mm_bit 0) = true ∧ (mm_inb v2 16 = true ∧ (if (gI s 103 (ix v2)) = 1 then ((mm_inb v2 16 && mm_bit 1) = true ∧ (mm_inb v2 16 = true ∧ (mm_inb v2 16 = true ∧ (okl_Eyes_explain_2 n (v2 + 1) (sI (sI (sI (sI s 104 (ix v2) 0) 105 (ix v2) 1) 106 (ix v2) 0) 107 (ix v2) 1))))) else ((mm_inb v2 16 && mm_bit 0) = true ∧ (mm_inb v2 16 = true ∧ (mm_inb v2 16 = true ∧ (okl_Eyes_explain_2 n (v2 + 1) (sI (sI (sI (sI s 104 (ix v2) 0) 105 (ix v2) 0) 106 (ix v2) 0) 107 (ix v2) 1)))))))))))
theorem tl_Eyes_explain_2 {len : Nat} {xs : Nat → Int32} (d : Nat)   {T : Option mm_R} (K : Int32 × mS → Prop) (hX : ∀ r, K r → ∀ (o3 : Option Value), mm_fix (mm_X len xs) mm_Y (mm_call (mm_X len xs) mm_Y (d + 3)) (mm_look mc_Eyes_explain) (69, [some (.ref 102), some (.ref 25), some (.int r.1), o3], [], mT r.2) = T) : ∀ (n : Nat), ∀ (v2 : Int32) (o3 : Option Value) (s : mS), okl_Eyes_explain_2 n v2 s → K (lp_Eyes_explain_2 n v2 s) → mm_fix (mm_X len xs) mm_Y (mm_call (mm_X len xs) mm_Y (d + 3)) (mm_look mc_Eyes_explain) (2, [some (.ref 102), some (.ref 25), some (.int v2), o3], [], mT s) = T := by
  intro n
  induction n with
  | zero => intro v2 o3 s; exact fun h => h.elim
  | succ n ih =>
    intro v2 o3 s
    rw [okl_Eyes_explain_2, lp_Eyes_explain_2]
    refine w_go K 2 (c' := (5, [some (.ref 102), some (.ref 25), some (.int v2), o3], [.int 16, .int v2], mT s)) rfl ?_
    refine w_br K rfl (fun _ => ?_) (fun _ => ?_)
    · refine w_go K 0 (c' := (69, [some (.ref 102), some (.ref 25), some (.int v2), o3], [], mT s)) rfl ?_
      exact fun _ b => hX _ b _
    · refine w_go K 6 (c' := (18, [some (.ref 102), some (.ref 25), some (.int v2), o3], [.int v2, .ref 103, .int v2, .ref 104], mT s)) rfl ?_
      refine w_ck K rfl ?_
      refine w_go K 0 (c' := (19, [some (.ref 102), some (.ref 25), some (.int v2), o3], [.int (gI s 103 (ix v2)), .int v2, .ref 104], mT s)) rfl ?_
      refine w_br K rfl (fun _ => ?_) (fun _ => ?_)
      · refine w_go K 2 (c' := (27, [some (.ref 102), some (.ref 25), some (.int v2), o3], [.int 1, .int v2, .ref 104], mT s)) rfl ?_
        refine w_ck K rfl ?_
        refine w_go K 6 (c' := (38, [some (.ref 102), some (.ref 25), some (.int v2), o3], [.int v2, .ref 103, .int v2, .ref 105], mT (sI s 104 (ix v2) 1))) rfl ?_
        refine w_ck K rfl ?_
        refine w_go K 1 (c' := (40, [some (.ref 102), some (.ref 25), some (.int v2), o3], [.int 1, .int (gI s 103 (ix v2)), .int v2, .ref 105], mT (sI s 104 (ix v2) 1))) rfl ?_
        refine w_br K rfl (fun _ => ?_) (fun _ => ?_)
        · refine w_go K 2 (c' := (48, [some (.ref 102), some (.ref 25), some (.int v2), o3], [.int 1, .int v2, .ref 105], mT (sI s 104 (ix v2) 1))) rfl ?_
          refine w_ck K rfl ?_
          refine w_go K 4 (c' := (55, [some (.ref 102), some (.ref 25), some (.int v2), o3], [.int 0, .int v2, .ref 106], mT (sI (sI s 104 (ix v2) 1) 105 (ix v2) 1))) rfl ?_
          refine w_ck K rfl ?_
          refine w_go K 4 (c' := (62, [some (.ref 102), some (.ref 25), some (.int v2), o3], [.int 1, .int v2, .ref 107], mT (sI (sI (sI s 104 (ix v2) 1) 105 (ix v2) 1) 106 (ix v2) 0))) rfl ?_
          refine w_ck K rfl ?_
          refine w_go K 2 (c' := (2, [some (.ref 102), some (.ref 25), some (.int (v2 + 1)), o3], [], mT (sI (sI (sI (sI s 104 (ix v2) 1) 105 (ix v2) 1) 106 (ix v2) 0) 107 (ix v2) 1))) rfl ?_
          exact fun a b => ih (v2 + 1) _ (sI (sI (sI (sI s 104 (ix v2) 1) 105 (ix v2) 1) 106 (ix v2) 0) 107 (ix v2) 1) a b
        · refine w_go K 1 (c' := (48, [some (.ref 102), some (.ref 25), some (.int v2), o3], [.int 0, .int v2, .ref 105], mT (sI s 104 (ix v2) 1))) rfl ?_
          refine w_ck K rfl ?_
          refine w_go K 4 (c' := (55, [some (.ref 102), some (.ref 25), some (.int v2), o3], [.int 0, .int v2, .ref 106], mT (sI (sI s 104 (ix v2) 1) 105 (ix v2) 0))) rfl ?_
          refine w_ck K rfl ?_
          refine w_go K 4 (c' := (62, [some (.ref 102), some (.ref 25), some (.int v2), o3], [.int 1, .int v2, .ref 107], mT (sI (sI (sI s 104 (ix v2) 1) 105 (ix v2) 0) 106 (ix v2) 0))) rfl ?_
          refine w_ck K rfl ?_
          refine w_go K 2 (c' := (2, [some (.ref 102), some (.ref 25), some (.int (v2 + 1)), o3], [], mT (sI (sI (sI (sI s 104 (ix v2) 1) 105 (ix v2) 0) 106 (ix v2) 0) 107 (ix v2) 1))) rfl ?_
          exact fun a b => ih (v2 + 1) _ (sI (sI (sI (sI s 104 (ix v2) 1) 105 (ix v2) 0) 106 (ix v2) 0) 107 (ix v2) 1) a b
      · refine w_go K 1 (c' := (27, [some (.ref 102), some (.ref 25), some (.int v2), o3], [.int 0, .int v2, .ref 104], mT s)) rfl ?_
        refine w_ck K rfl ?_
        refine w_go K 6 (c' := (38, [some (.ref 102), some (.ref 25), some (.int v2), o3], [.int v2, .ref 103, .int v2, .ref 105], mT (sI s 104 (ix v2) 0))) rfl ?_
        refine w_ck K rfl ?_
        refine w_go K 1 (c' := (40, [some (.ref 102), some (.ref 25), some (.int v2), o3], [.int 1, .int (gI s 103 (ix v2)), .int v2, .ref 105], mT (sI s 104 (ix v2) 0))) rfl ?_
        refine w_br K rfl (fun _ => ?_) (fun _ => ?_)
        · refine w_go K 2 (c' := (48, [some (.ref 102), some (.ref 25), some (.int v2), o3], [.int 1, .int v2, .ref 105], mT (sI s 104 (ix v2) 0))) rfl ?_
          refine w_ck K rfl ?_
          refine w_go K 4 (c' := (55, [some (.ref 102), some (.ref 25), some (.int v2), o3], [.int 0, .int v2, .ref 106], mT (sI (sI s 104 (ix v2) 0) 105 (ix v2) 1))) rfl ?_
          refine w_ck K rfl ?_
          refine w_go K 4 (c' := (62, [some (.ref 102), some (.ref 25), some (.int v2), o3], [.int 1, .int v2, .ref 107], mT (sI (sI (sI s 104 (ix v2) 0) 105 (ix v2) 1) 106 (ix v2) 0))) rfl ?_
          refine w_ck K rfl ?_
          refine w_go K 2 (c' := (2, [some (.ref 102), some (.ref 25), some (.int (v2 + 1)), o3], [], mT (sI (sI (sI (sI s 104 (ix v2) 0) 105 (ix v2) 1) 106 (ix v2) 0) 107 (ix v2) 1))) rfl ?_
          exact fun a b => ih (v2 + 1) _ (sI (sI (sI (sI s 104 (ix v2) 0) 105 (ix v2) 1) 106 (ix v2) 0) 107 (ix v2) 1) a b
        · refine w_go K 1 (c' := (48, [some (.ref 102), some (.ref 25), some (.int v2), o3], [.int 0, .int v2, .ref 105], mT (sI s 104 (ix v2) 0))) rfl ?_
          refine w_ck K rfl ?_
          refine w_go K 4 (c' := (55, [some (.ref 102), some (.ref 25), some (.int v2), o3], [.int 0, .int v2, .ref 106], mT (sI (sI s 104 (ix v2) 0) 105 (ix v2) 0))) rfl ?_
          refine w_ck K rfl ?_
          refine w_go K 4 (c' := (62, [some (.ref 102), some (.ref 25), some (.int v2), o3], [.int 1, .int v2, .ref 107], mT (sI (sI (sI s 104 (ix v2) 0) 105 (ix v2) 0) 106 (ix v2) 0))) rfl ?_
          refine w_ck K rfl ?_
          refine w_go K 2 (c' := (2, [some (.ref 102), some (.ref 25), some (.int (v2 + 1)), o3], [], mT (sI (sI (sI (sI s 104 (ix v2) 0) 105 (ix v2) 0) 106 (ix v2) 0) 107 (ix v2) 1))) rfl ?_
          exact fun a b => ih (v2 + 1) _ (sI (sI (sI (sI s 104 (ix v2) 0) 105 (ix v2) 0) 106 (ix v2) 0) 107 (ix v2) 1) a b
def lp_Eyes_explain_72   : Nat → Int32 → mS → Int32 × mS
  | 0, v2, s => (v2, s)
  | n + 1, v2, s => (if v2 ≤ 0 then (v2, s) else (if (f_Net_hasPipe v2 s) = 0 then (lp_Eyes_explain_72 n (v2 + (-1)) s) else (if (f_Net_has (gI s 26 (ix v2)) s) = 0 then (lp_Eyes_explain_72 n (v2 + (-1)) s) else (if (gI (f_Eyes_weigh v2 s) 104 (ix (gI s 26 (ix v2)))) = 0 then (if (gI (f_Eyes_weigh v2 s) 104 (ix v2)) = 0 then (if (gI (f_Eyes_weigh v2 s) 105 (ix (gI s 26 (ix v2)))) = 0 then (if (gI (f_Eyes_weigh v2 s) 105 (ix v2)) = 0 then (lp_Eyes_explain_72 n (v2 + (-1)) (sI (sI (sI (sI (f_Eyes_weigh v2 s) 104 (ix (gI s 26 (ix v2))) 0) 105 (ix (gI s 26 (ix v2))) 0) 106 (ix (gI s 26 (ix v2))) (if ((gI (f_Eyes_weigh v2 s) 106 (ix (gI s 26 (ix v2)))) + (gI (f_Eyes_weigh v2 s) 108 (ix v2))) < (1000 : Int32) then ((gI (f_Eyes_weigh v2 s) 106 (ix (gI s 26 (ix v2)))) + (gI (f_Eyes_weigh v2 s) 108 (ix v2))) else (1000 : Int32))) 107 (ix (gI s 26 (ix v2))) ((gI (f_Eyes_weigh v2 s) 107 (ix (gI s 26 (ix v2)))) * (gI (f_Eyes_weigh v2 s) 109 (ix v2))))) else (lp_Eyes_explain_72 n (v2 + (-1)) (sI (sI (sI (sI (f_Eyes_weigh v2 s) 104 (ix (gI s 26 (ix v2))) 0) 105 (ix (gI s 26 (ix v2))) 1) 106 (ix (gI s 26 (ix v2))) (if ((gI (f_Eyes_weigh v2 s) 106 (ix (gI s 26 (ix v2)))) + (gI (f_Eyes_weigh v2 s) 108 (ix v2))) < (1000 : Int32) then ((gI (f_Eyes_weigh v2 s) 106 (ix (gI s 26 (ix v2)))) + (gI (f_Eyes_weigh v2 s) 108 (ix v2))) else (1000 : Int32))) 107 (ix (gI s 26 (ix v2))) ((gI (f_Eyes_weigh v2 s) 107 (ix (gI s 26 (ix v2)))) * (gI (f_Eyes_weigh v2 s) 109 (ix v2)))))) else (lp_Eyes_explain_72 n (v2 + (-1)) (sI (sI (sI (sI (f_Eyes_weigh v2 s) 104 (ix (gI s 26 (ix v2))) 0) 105 (ix (gI s 26 (ix v2))) 1) 106 (ix (gI s 26 (ix v2))) (if ((gI (f_Eyes_weigh v2 s) 106 (ix (gI s 26 (ix v2)))) + (gI (f_Eyes_weigh v2 s) 108 (ix v2))) < (1000 : Int32) then ((gI (f_Eyes_weigh v2 s) 106 (ix (gI s 26 (ix v2)))) + (gI (f_Eyes_weigh v2 s) 108 (ix v2))) else (1000 : Int32))) 107 (ix (gI s 26 (ix v2))) ((gI (f_Eyes_weigh v2 s) 107 (ix (gI s 26 (ix v2)))) * (gI (f_Eyes_weigh v2 s) 109 (ix v2)))))) else (if (gI (f_Eyes_weigh v2 s) 105 (ix (gI s 26 (ix v2)))) = 0 then (if (gI (f_Eyes_weigh v2 s) 105 (ix v2)) = 0 then (lp_Eyes_explain_72 n (v2 + (-1)) (sI (sI (sI (sI (f_Eyes_weigh v2 s) 104 (ix (gI s 26 (ix v2))) 1) 105 (ix (gI s 26 (ix v2))) 0) 106 (ix (gI s 26 (ix v2))) (if ((gI (f_Eyes_weigh v2 s) 106 (ix (gI s 26 (ix v2)))) + (gI (f_Eyes_weigh v2 s) 108 (ix v2))) < (1000 : Int32) then ((gI (f_Eyes_weigh v2 s) 106 (ix (gI s 26 (ix v2)))) + (gI (f_Eyes_weigh v2 s) 108 (ix v2))) else (1000 : Int32))) 107 (ix (gI s 26 (ix v2))) ((gI (f_Eyes_weigh v2 s) 107 (ix (gI s 26 (ix v2)))) * (gI (f_Eyes_weigh v2 s) 109 (ix v2))))) else (lp_Eyes_explain_72 n (v2 + (-1)) (sI (sI (sI (sI (f_Eyes_weigh v2 s) 104 (ix (gI s 26 (ix v2))) 1) 105 (ix (gI s 26 (ix v2))) 1) 106 (ix (gI s 26 (ix v2))) (if ((gI (f_Eyes_weigh v2 s) 106 (ix (gI s 26 (ix v2)))) + (gI (f_Eyes_weigh v2 s) 108 (ix v2))) < (1000 : Int32) then ((gI (f_Eyes_weigh v2 s) 106 (ix (gI s 26 (ix v2)))) + (gI (f_Eyes_weigh v2 s) 108 (ix v2))) else (1000 : Int32))) 107 (ix (gI s 26 (ix v2))) ((gI (f_Eyes_weigh v2 s) 107 (ix (gI s 26 (ix v2)))) * (gI (f_Eyes_weigh v2 s) 109 (ix v2)))))) else (lp_Eyes_explain_72 n (v2 + (-1)) (sI (sI (sI (sI (f_Eyes_weigh v2 s) 104 (ix (gI s 26 (ix v2))) 1) 105 (ix (gI s 26 (ix v2))) 1) 106 (ix (gI s 26 (ix v2))) (if ((gI (f_Eyes_weigh v2 s) 106 (ix (gI s 26 (ix v2)))) + (gI (f_Eyes_weigh v2 s) 108 (ix v2))) < (1000 : Int32) then ((gI (f_Eyes_weigh v2 s) 106 (ix (gI s 26 (ix v2)))) + (gI (f_Eyes_weigh v2 s) 108 (ix v2))) else (1000 : Int32))) 107 (ix (gI s 26 (ix v2))) ((gI (f_Eyes_weigh v2 s) 107 (ix (gI s 26 (ix v2)))) * (gI (f_Eyes_weigh v2 s) 109 (ix v2))))))) else (if (gI (f_Eyes_weigh v2 s) 105 (ix (gI s 26 (ix v2)))) = 0 then (if (gI (f_Eyes_weigh v2 s) 105 (ix v2)) = 0 then (lp_Eyes_explain_72 n (v2 + (-1)) (sI (sI (sI (sI (f_Eyes_weigh v2 s) 104 (ix (gI s 26 (ix v2))) 1) 105 (ix (gI s 26 (ix v2))) 0) 106 (ix (gI s 26 (ix v2))) (if ((gI (f_Eyes_weigh v2 s) 106 (ix (gI s 26 (ix v2)))) + (gI (f_Eyes_weigh v2 s) 108 (ix v2))) < (1000 : Int32) then ((gI (f_Eyes_weigh v2 s) 106 (ix (gI s 26 (ix v2)))) + (gI (f_Eyes_weigh v2 s) 108 (ix v2))) else (1000 : Int32))) 107 (ix (gI s 26 (ix v2))) ((gI (f_Eyes_weigh v2 s) 107 (ix (gI s 26 (ix v2)))) * (gI (f_Eyes_weigh v2 s) 109 (ix v2))))) else (lp_Eyes_explain_72 n (v2 + (-1)) (sI (sI (sI (sI (f_Eyes_weigh v2 s) 104 (ix (gI s 26 (ix v2))) 1) 105 (ix (gI s 26 (ix v2))) 1) 106 (ix (gI s 26 (ix v2))) (if ((gI (f_Eyes_weigh v2 s) 106 (ix (gI s 26 (ix v2)))) + (gI (f_Eyes_weigh v2 s) 108 (ix v2))) < (1000 : Int32) then ((gI (f_Eyes_weigh v2 s) 106 (ix (gI s 26 (ix v2)))) + (gI (f_Eyes_weigh v2 s) 108 (ix v2))) else (1000 : Int32))) 107 (ix (gI s 26 (ix v2))) ((gI (f_Eyes_weigh v2 s) 107 (ix (gI s 26 (ix v2)))) * (gI (f_Eyes_weigh v2 s) 109 (ix v2)))))) else (lp_Eyes_explain_72 n (v2 + (-1)) (sI (sI (sI (sI (f_Eyes_weigh v2 s) 104 (ix (gI s 26 (ix v2))) 1) 105 (ix (gI s 26 (ix v2))) 1) 106 (ix (gI s 26 (ix v2))) (if ((gI (f_Eyes_weigh v2 s) 106 (ix (gI s 26 (ix v2)))) + (gI (f_Eyes_weigh v2 s) 108 (ix v2))) < (1000 : Int32) then ((gI (f_Eyes_weigh v2 s) 106 (ix (gI s 26 (ix v2)))) + (gI (f_Eyes_weigh v2 s) 108 (ix v2))) else (1000 : Int32))) 107 (ix (gI s 26 (ix v2))) ((gI (f_Eyes_weigh v2 s) 107 (ix (gI s 26 (ix v2)))) * (gI (f_Eyes_weigh v2 s) 109 (ix v2))))))))))
def okl_Eyes_explain_72   : Nat → Int32 → mS → Prop
  | 0, v2, s => False
  | n + 1, v2, s => (if v2 ≤ 0 then True else (mm_inb v2 16 = true ∧ (if (f_Net_hasPipe v2 s) = 0 then (okl_Eyes_explain_72 n (v2 + (-1)) s) else (if (f_Net_has (gI s 26 (ix v2)) s) = 0 then (okl_Eyes_explain_72 n (v2 + (-1)) s) else (ok_Eyes_weigh v2 s ∧ (mm_inb (gI s 26 (ix v2)) 16 = true ∧ (if (gI (f_Eyes_weigh v2 s) 104 (ix (gI s 26 (ix v2)))) = 0 then (mm_inb v2 16 = true ∧ (if (gI (f_Eyes_weigh v2 s) 104 (ix v2)) = 0 then ((mm_inb (gI s 26 (ix v2)) 16 && mm_bit 0) = true ∧ (mm_inb (gI s 26 (ix v2)) 16 = true ∧ (if (gI (f_Eyes_weigh v2 s) 105 (ix (gI s 26 (ix v2)))) = 0 then (mm_inb v2 16 = true ∧ (if (gI (f_Eyes_weigh v2 s) 105 (ix v2)) = 0 then ((mm_inb (gI s 26 (ix v2)) 16 && mm_bit 0) = true ∧ (mm_inb (gI s 26 (ix v2)) 16 = true ∧ (mm_inb v2 16 = true ∧ (mm_inb (gI s 26 (ix v2)) 16 = true ∧ (mm_inb (gI s 26 (ix v2)) 16 = true ∧ (mm_inb v2 16 = true ∧ (mm_inb (gI s 26 (ix v2)) 16 = true ∧ (okl_Eyes_explain_72 n (v2 + (-1)) (sI (sI (sI (sI (f_Eyes_weigh v2 s) 104 (ix (gI s 26 (ix v2))) 0) 105 (ix (gI s 26 (ix v2))) 0) 106 (ix (gI s 26 (ix v2))) (if ((gI (f_Eyes_weigh v2 s) 106 (ix (gI s 26 (ix v2)))) + (gI (f_Eyes_weigh v2 s) 108 (ix v2))) < (1000 : Int32) then ((gI (f_Eyes_weigh v2 s) 106 (ix (gI s 26 (ix v2)))) + (gI (f_Eyes_weigh v2 s) 108 (ix v2))) else (1000 : Int32))) 107 (ix (gI s 26 (ix v2))) ((gI (f_Eyes_weigh v2 s) 107 (ix (gI s 26 (ix v2)))) * (gI (f_Eyes_weigh v2 s) 109 (ix v2)))))))))))) else ((mm_inb (gI s 26 (ix v2)) 16 && mm_bit 1) = true ∧ (mm_inb (gI s 26 (ix v2)) 16 = true ∧ (mm_inb v2 16 = true ∧ (mm_inb (gI s 26 (ix v2)) 16 = true ∧ (mm_inb (gI s 26 (ix v2)) 16 = true ∧ (mm_inb v2 16 = true ∧ (mm_inb (gI s 26 (ix v2)) 16 = true ∧ (okl_Eyes_explain_72 n (v2 + (-1)) (sI (sI (sI (sI (f_Eyes_weigh v2 s) 104 (ix (gI s 26 (ix v2))) 0) 105 (ix (gI s 26 (ix v2))) 1) 106 (ix (gI s 26 (ix v2))) (if ((gI (f_Eyes_weigh v2 s) 106 (ix (gI s 26 (ix v2)))) + (gI (f_Eyes_weigh v2 s) 108 (ix v2))) < (1000 : Int32) then ((gI (f_Eyes_weigh v2 s) 106 (ix (gI s 26 (ix v2)))) + (gI (f_Eyes_weigh v2 s) 108 (ix v2))) else (1000 : Int32))) 107 (ix (gI s 26 (ix v2))) ((gI (f_Eyes_weigh v2 s) 107 (ix (gI s 26 (ix v2)))) * (gI (f_Eyes_weigh v2 s) 109 (ix v2)))))))))))))) else ((mm_inb (gI s 26 (ix v2)) 16 && mm_bit 1) = true ∧ (mm_inb (gI s 26 (ix v2)) 16 = true ∧ (mm_inb v2 16 = true ∧ (mm_inb (gI s 26 (ix v2)) 16 = true ∧ (mm_inb (gI s 26 (ix v2)) 16 = true ∧ (mm_inb v2 16 = true ∧ (mm_inb (gI s 26 (ix v2)) 16 = true ∧ (okl_Eyes_explain_72 n (v2 + (-1)) (sI (sI (sI (sI (f_Eyes_weigh v2 s) 104 (ix (gI s 26 (ix v2))) 0) 105 (ix (gI s 26 (ix v2))) 1) 106 (ix (gI s 26 (ix v2))) (if ((gI (f_Eyes_weigh v2 s) 106 (ix (gI s 26 (ix v2)))) + (gI (f_Eyes_weigh v2 s) 108 (ix v2))) < (1000 : Int32) then ((gI (f_Eyes_weigh v2 s) 106 (ix (gI s 26 (ix v2)))) + (gI (f_Eyes_weigh v2 s) 108 (ix v2))) else (1000 : Int32))) 107 (ix (gI s 26 (ix v2))) ((gI (f_Eyes_weigh v2 s) 107 (ix (gI s 26 (ix v2)))) * (gI (f_Eyes_weigh v2 s) 109 (ix v2))))))))))))))) else ((mm_inb (gI s 26 (ix v2)) 16 && mm_bit 1) = true ∧ (mm_inb (gI s 26 (ix v2)) 16 = true ∧ (if (gI (f_Eyes_weigh v2 s) 105 (ix (gI s 26 (ix v2)))) = 0 then (mm_inb v2 16 = true ∧ (if (gI (f_Eyes_weigh v2 s) 105 (ix v2)) = 0 then ((mm_inb (gI s 26 (ix v2)) 16 && mm_bit 0) = true ∧ (mm_inb (gI s 26 (ix v2)) 16 = true ∧ (mm_inb v2 16 = true ∧ (mm_inb (gI s 26 (ix v2)) 16 = true ∧ (mm_inb (gI s 26 (ix v2)) 16 = true ∧ (mm_inb v2 16 = true ∧ (mm_inb (gI s 26 (ix v2)) 16 = true ∧ (okl_Eyes_explain_72 n (v2 + (-1)) (sI (sI (sI (sI (f_Eyes_weigh v2 s) 104 (ix (gI s 26 (ix v2))) 1) 105 (ix (gI s 26 (ix v2))) 0) 106 (ix (gI s 26 (ix v2))) (if ((gI (f_Eyes_weigh v2 s) 106 (ix (gI s 26 (ix v2)))) + (gI (f_Eyes_weigh v2 s) 108 (ix v2))) < (1000 : Int32) then ((gI (f_Eyes_weigh v2 s) 106 (ix (gI s 26 (ix v2)))) + (gI (f_Eyes_weigh v2 s) 108 (ix v2))) else (1000 : Int32))) 107 (ix (gI s 26 (ix v2))) ((gI (f_Eyes_weigh v2 s) 107 (ix (gI s 26 (ix v2)))) * (gI (f_Eyes_weigh v2 s) 109 (ix v2)))))))))))) else ((mm_inb (gI s 26 (ix v2)) 16 && mm_bit 1) = true ∧ (mm_inb (gI s 26 (ix v2)) 16 = true ∧ (mm_inb v2 16 = true ∧ (mm_inb (gI s 26 (ix v2)) 16 = true ∧ (mm_inb (gI s 26 (ix v2)) 16 = true ∧ (mm_inb v2 16 = true ∧ (mm_inb (gI s 26 (ix v2)) 16 = true ∧ (okl_Eyes_explain_72 n (v2 + (-1)) (sI (sI (sI (sI (f_Eyes_weigh v2 s) 104 (ix (gI s 26 (ix v2))) 1) 105 (ix (gI s 26 (ix v2))) 1) 106 (ix (gI s 26 (ix v2))) (if ((gI (f_Eyes_weigh v2 s) 106 (ix (gI s 26 (ix v2)))) + (gI (f_Eyes_weigh v2 s) 108 (ix v2))) < (1000 : Int32) then ((gI (f_Eyes_weigh v2 s) 106 (ix (gI s 26 (ix v2)))) + (gI (f_Eyes_weigh v2 s) 108 (ix v2))) else (1000 : Int32))) 107 (ix (gI s 26 (ix v2))) ((gI (f_Eyes_weigh v2 s) 107 (ix (gI s 26 (ix v2)))) * (gI (f_Eyes_weigh v2 s) 109 (ix v2)))))))))))))) else ((mm_inb (gI s 26 (ix v2)) 16 && mm_bit 1) = true ∧ (mm_inb (gI s 26 (ix v2)) 16 = true ∧ (mm_inb v2 16 = true ∧ (mm_inb (gI s 26 (ix v2)) 16 = true ∧ (mm_inb (gI s 26 (ix v2)) 16 = true ∧ (mm_inb v2 16 = true ∧ (mm_inb (gI s 26 (ix v2)) 16 = true ∧ (okl_Eyes_explain_72 n (v2 + (-1)) (sI (sI (sI (sI (f_Eyes_weigh v2 s) 104 (ix (gI s 26 (ix v2))) 1) 105 (ix (gI s 26 (ix v2))) 1) 106 (ix (gI s 26 (ix v2))) (if ((gI (f_Eyes_weigh v2 s) 106 (ix (gI s 26 (ix v2)))) + (gI (f_Eyes_weigh v2 s) 108 (ix v2))) < (1000 : Int32) then ((gI (f_Eyes_weigh v2 s) 106 (ix (gI s 26 (ix v2)))) + (gI (f_Eyes_weigh v2 s) 108 (ix v2))) else (1000 : Int32))) 107 (ix (gI s 26 (ix v2))) ((gI (f_Eyes_weigh v2 s) 107 (ix (gI s 26 (ix v2)))) * (gI (f_Eyes_weigh v2 s) 109 (ix v2))))))))))))))))) else ((mm_inb (gI s 26 (ix v2)) 16 && mm_bit 1) = true ∧ (mm_inb (gI s 26 (ix v2)) 16 = true ∧ (if (gI (f_Eyes_weigh v2 s) 105 (ix (gI s 26 (ix v2)))) = 0 then (mm_inb v2 16 = true ∧ (if (gI (f_Eyes_weigh v2 s) 105 (ix v2)) = 0 then ((mm_inb (gI s 26 (ix v2)) 16 && mm_bit 0) = true ∧ (mm_inb (gI s 26 (ix v2)) 16 = true ∧ (mm_inb v2 16 = true ∧ (mm_inb (gI s 26 (ix v2)) 16 = true ∧ (mm_inb (gI s 26 (ix v2)) 16 = true ∧ (mm_inb v2 16 = true ∧ (mm_inb (gI s 26 (ix v2)) 16 = true ∧ (okl_Eyes_explain_72 n (v2 + (-1)) (sI (sI (sI (sI (f_Eyes_weigh v2 s) 104 (ix (gI s 26 (ix v2))) 1) 105 (ix (gI s 26 (ix v2))) 0) 106 (ix (gI s 26 (ix v2))) (if ((gI (f_Eyes_weigh v2 s) 106 (ix (gI s 26 (ix v2)))) + (gI (f_Eyes_weigh v2 s) 108 (ix v2))) < (1000 : Int32) then ((gI (f_Eyes_weigh v2 s) 106 (ix (gI s 26 (ix v2)))) + (gI (f_Eyes_weigh v2 s) 108 (ix v2))) else (1000 : Int32))) 107 (ix (gI s 26 (ix v2))) ((gI (f_Eyes_weigh v2 s) 107 (ix (gI s 26 (ix v2)))) * (gI (f_Eyes_weigh v2 s) 109 (ix v2)))))))))))) else ((mm_inb (gI s 26 (ix v2)) 16 && mm_bit 1) = true ∧ (mm_inb (gI s 26 (ix v2)) 16 = true ∧ (mm_inb v2 16 = true ∧ (mm_inb (gI s 26 (ix v2)) 16 = true ∧ (mm_inb (gI s 26 (ix v2)) 16 = true ∧ (mm_inb v2 16 = true ∧ (mm_inb (gI s 26 (ix v2)) 16 = true ∧ (okl_Eyes_explain_72 n (v2 + (-1)) (sI (sI (sI (sI (f_Eyes_weigh v2 s) 104 (ix (gI s 26 (ix v2))) 1) 105 (ix (gI s 26 (ix v2))) 1) 106 (ix (gI s 26 (ix v2))) (if ((gI (f_Eyes_weigh v2 s) 106 (ix (gI s 26 (ix v2)))) + (gI (f_Eyes_weigh v2 s) 108 (ix v2))) < (1000 : Int32) then ((gI (f_Eyes_weigh v2 s) 106 (ix (gI s 26 (ix v2)))) + (gI (f_Eyes_weigh v2 s) 108 (ix v2))) else (1000 : Int32))) 107 (ix (gI s 26 (ix v2))) ((gI (f_Eyes_weigh v2 s) 107 (ix (gI s 26 (ix v2)))) * (gI (f_Eyes_weigh v2 s) 109 (ix v2)))))))))))))) else ((mm_inb (gI s 26 (ix v2)) 16 && mm_bit 1) = true ∧ (mm_inb (gI s 26 (ix v2)) 16 = true ∧ (mm_inb v2 16 = true ∧ (mm_inb (gI s 26 (ix v2)) 16 = true ∧ (mm_inb (gI s 26 (ix v2)) 16 = true ∧ (mm_inb v2 16 = true ∧ (mm_inb (gI s 26 (ix v2)) 16 = true ∧ (okl_Eyes_explain_72 n (v2 + (-1)) (sI (sI (sI (sI (f_Eyes_weigh v2 s) 104 (ix (gI s 26 (ix v2))) 1) 105 (ix (gI s 26 (ix v2))) 1) 106 (ix (gI s 26 (ix v2))) (if ((gI (f_Eyes_weigh v2 s) 106 (ix (gI s 26 (ix v2)))) + (gI (f_Eyes_weigh v2 s) 108 (ix v2))) < (1000 : Int32) then ((gI (f_Eyes_weigh v2 s) 106 (ix (gI s 26 (ix v2)))) + (gI (f_Eyes_weigh v2 s) 108 (ix v2))) else (1000 : Int32))) 107 (ix (gI s 26 (ix v2))) ((gI (f_Eyes_weigh v2 s) 107 (ix (gI s 26 (ix v2)))) * (gI (f_Eyes_weigh v2 s) 109 (ix v2))))))))))))))))))))))
theorem tl_Eyes_explain_72 {len : Nat} {xs : Nat → Int32} (d : Nat)   {T : Option mm_R} (K : Int32 × mS → Prop) (hX : ∀ r, K r → ∀ (o3 : Option Value), mm_fix (mm_X len xs) mm_Y (mm_call (mm_X len xs) mm_Y (d + 3)) (mm_look mc_Eyes_explain) (211, [some (.ref 102), some (.ref 25), some (.int r.1), o3], [], mT r.2) = T) : ∀ (n : Nat), ∀ (v2 : Int32) (o3 : Option Value) (s : mS), okl_Eyes_explain_72 n v2 s → K (lp_Eyes_explain_72 n v2 s) → mm_fix (mm_X len xs) mm_Y (mm_call (mm_X len xs) mm_Y (d + 3)) (mm_look mc_Eyes_explain) (72, [some (.ref 102), some (.ref 25), some (.int v2), o3], [], mT s) = T := by
  intro n
  induction n with
  | zero => intro v2 o3 s; exact fun h => h.elim
  | succ n ih =>
    intro v2 o3 s
    rw [okl_Eyes_explain_72, lp_Eyes_explain_72]
    refine w_go K 1 (c' := (73, [some (.ref 102), some (.ref 25), some (.int v2), o3], [.int v2], mT s)) rfl ?_
    refine w_br K rfl (fun _ => ?_) (fun _ => ?_)
    · refine w_go K 0 (c' := (211, [some (.ref 102), some (.ref 25), some (.int v2), o3], [], mT s)) rfl ?_
      exact fun _ b => hX _ b _
    · refine w_go K 3 (c' := (81, [some (.ref 102), some (.ref 25), some (.int v2), o3], [.int v2, .ref 26], mT s)) rfl ?_
      refine w_ck K rfl ?_
      refine w_go K 3 (c' := (85, [some (.ref 102), some (.ref 25), some (.int v2), some (.int (gI s 26 (ix v2)))], [.int v2, .ref 25], mT s)) rfl ?_
      refine w_callT K rfl (m_Net_hasPipe (len := len) (xs := xs) (d + 1) v2 s) ?_
      refine w_go K 0 (c' := (88, [some (.ref 102), some (.ref 25), some (.int v2), some (.int (gI s 26 (ix v2)))], [.int (f_Net_hasPipe v2 s)], mT s)) rfl ?_
      refine w_br K rfl (fun _ => ?_) (fun _ => ?_)
      · refine w_go K 2 (c' := (72, [some (.ref 102), some (.ref 25), some (.int (v2 + (-1))), some (.int (gI s 26 (ix v2)))], [], mT s)) rfl ?_
        exact fun a b => ih (v2 + (-1)) _ s a b
      · refine w_go K 2 (c' := (93, [some (.ref 102), some (.ref 25), some (.int v2), some (.int (gI s 26 (ix v2)))], [.int (gI s 26 (ix v2)), .ref 25], mT s)) rfl ?_
        refine w_callT K rfl (m_Net_has (len := len) (xs := xs) (d + 2) (gI s 26 (ix v2)) s) ?_
        refine w_go K 0 (c' := (96, [some (.ref 102), some (.ref 25), some (.int v2), some (.int (gI s 26 (ix v2)))], [.int (f_Net_has (gI s 26 (ix v2)) s)], mT s)) rfl ?_
        refine w_br K rfl (fun _ => ?_) (fun _ => ?_)
        · refine w_go K 3 (c' := (72, [some (.ref 102), some (.ref 25), some (.int (v2 + (-1))), some (.int (gI s 26 (ix v2)))], [], mT s)) rfl ?_
          exact fun a b => ih (v2 + (-1)) _ s a b
        · refine w_go K 2 (c' := (104, [some (.ref 102), some (.ref 25), some (.int v2), some (.int (gI s 26 (ix v2)))], [.int v2, .ref 102], mT s)) rfl ?_
          refine w_call K rfl (m_Eyes_weigh (len := len) (xs := xs) (d + 2) v2 s) ?_
          refine w_go K 6 (c' := (117, [some (.ref 102), some (.ref 25), some (.int v2), some (.int (gI s 26 (ix v2)))], [.int (gI s 26 (ix v2)), .ref 104, .int (gI s 26 (ix v2)), .ref 104], mT (f_Eyes_weigh v2 s))) rfl ?_
          refine w_ck K rfl ?_
          refine w_go K 0 (c' := (118, [some (.ref 102), some (.ref 25), some (.int v2), some (.int (gI s 26 (ix v2)))], [.int (gI (f_Eyes_weigh v2 s) 104 (ix (gI s 26 (ix v2)))), .int (gI s 26 (ix v2)), .ref 104], mT (f_Eyes_weigh v2 s))) rfl ?_
          refine w_br K rfl (fun _ => ?_) (fun _ => ?_)
          · refine w_go K 3 (c' := (126, [some (.ref 102), some (.ref 25), some (.int v2), some (.int (gI s 26 (ix v2)))], [.int v2, .ref 104, .int (gI s 26 (ix v2)), .ref 104], mT (f_Eyes_weigh v2 s))) rfl ?_
            refine w_ck K rfl ?_
            refine w_go K 0 (c' := (127, [some (.ref 102), some (.ref 25), some (.int v2), some (.int (gI s 26 (ix v2)))], [.int (gI (f_Eyes_weigh v2 s) 104 (ix v2)), .int (gI s 26 (ix v2)), .ref 104], mT (f_Eyes_weigh v2 s))) rfl ?_
            refine w_br K rfl (fun _ => ?_) (fun _ => ?_)
            · refine w_go K 1 (c' := (135, [some (.ref 102), some (.ref 25), some (.int v2), some (.int (gI s 26 (ix v2)))], [.int 0, .int (gI s 26 (ix v2)), .ref 104], mT (f_Eyes_weigh v2 s))) rfl ?_
              refine w_ck K rfl ?_
              refine w_go K 6 (c' := (146, [some (.ref 102), some (.ref 25), some (.int v2), some (.int (gI s 26 (ix v2)))], [.int (gI s 26 (ix v2)), .ref 105, .int (gI s 26 (ix v2)), .ref 105], mT (sI (f_Eyes_weigh v2 s) 104 (ix (gI s 26 (ix v2))) 0))) rfl ?_
              refine w_ck K rfl ?_
              refine w_go K 0 (c' := (147, [some (.ref 102), some (.ref 25), some (.int v2), some (.int (gI s 26 (ix v2)))], [.int (gI (f_Eyes_weigh v2 s) 105 (ix (gI s 26 (ix v2)))), .int (gI s 26 (ix v2)), .ref 105], mT (sI (f_Eyes_weigh v2 s) 104 (ix (gI s 26 (ix v2))) 0))) rfl ?_
              refine w_br K rfl (fun _ => ?_) (fun _ => ?_)
              · refine w_go K 3 (c' := (155, [some (.ref 102), some (.ref 25), some (.int v2), some (.int (gI s 26 (ix v2)))], [.int v2, .ref 105, .int (gI s 26 (ix v2)), .ref 105], mT (sI (f_Eyes_weigh v2 s) 104 (ix (gI s 26 (ix v2))) 0))) rfl ?_
                refine w_ck K rfl ?_
                refine w_go K 0 (c' := (156, [some (.ref 102), some (.ref 25), some (.int v2), some (.int (gI s 26 (ix v2)))], [.int (gI (f_Eyes_weigh v2 s) 105 (ix v2)), .int (gI s 26 (ix v2)), .ref 105], mT (sI (f_Eyes_weigh v2 s) 104 (ix (gI s 26 (ix v2))) 0))) rfl ?_
                refine w_br K rfl (fun _ => ?_) (fun _ => ?_)
                · refine w_go K 1 (c' := (164, [some (.ref 102), some (.ref 25), some (.int v2), some (.int (gI s 26 (ix v2)))], [.int 0, .int (gI s 26 (ix v2)), .ref 105], mT (sI (f_Eyes_weigh v2 s) 104 (ix (gI s 26 (ix v2))) 0))) rfl ?_
                  refine w_ck K rfl ?_
                  refine w_go K 7 (c' := (178, [some (.ref 102), some (.ref 25), some (.int v2), some (.int (gI s 26 (ix v2)))], [.int (gI s 26 (ix v2)), .ref 106, .int 1000, .int (gI s 26 (ix v2)), .ref 106], mT (sI (sI (f_Eyes_weigh v2 s) 104 (ix (gI s 26 (ix v2))) 0) 105 (ix (gI s 26 (ix v2))) 0))) rfl ?_
                  refine w_ck K rfl ?_
                  refine w_go K 3 (c' := (184, [some (.ref 102), some (.ref 25), some (.int v2), some (.int (gI s 26 (ix v2)))], [.int v2, .ref 108, .int (gI (f_Eyes_weigh v2 s) 106 (ix (gI s 26 (ix v2)))), .int 1000, .int (gI s 26 (ix v2)), .ref 106], mT (sI (sI (f_Eyes_weigh v2 s) 104 (ix (gI s 26 (ix v2))) 0) 105 (ix (gI s 26 (ix v2))) 0))) rfl ?_
                  refine w_ck K rfl ?_
                  refine w_go K 2 (c' := (189, [some (.ref 102), some (.ref 25), some (.int v2), some (.int (gI s 26 (ix v2)))], [.int (if ((gI (f_Eyes_weigh v2 s) 106 (ix (gI s 26 (ix v2)))) + (gI (f_Eyes_weigh v2 s) 108 (ix v2))) < (1000 : Int32) then ((gI (f_Eyes_weigh v2 s) 106 (ix (gI s 26 (ix v2)))) + (gI (f_Eyes_weigh v2 s) 108 (ix v2))) else (1000 : Int32)), .int (gI s 26 (ix v2)), .ref 106], mT (sI (sI (f_Eyes_weigh v2 s) 104 (ix (gI s 26 (ix v2))) 0) 105 (ix (gI s 26 (ix v2))) 0))) rfl ?_
                  refine w_ck K rfl ?_
                  refine w_go K 4 (c' := (196, [some (.ref 102), some (.ref 25), some (.int v2), some (.int (gI s 26 (ix v2)))], [.int (gI s 26 (ix v2)), .ref 107, .int (gI s 26 (ix v2)), .ref 107], mT (sI (sI (sI (f_Eyes_weigh v2 s) 104 (ix (gI s 26 (ix v2))) 0) 105 (ix (gI s 26 (ix v2))) 0) 106 (ix (gI s 26 (ix v2))) (if ((gI (f_Eyes_weigh v2 s) 106 (ix (gI s 26 (ix v2)))) + (gI (f_Eyes_weigh v2 s) 108 (ix v2))) < (1000 : Int32) then ((gI (f_Eyes_weigh v2 s) 106 (ix (gI s 26 (ix v2)))) + (gI (f_Eyes_weigh v2 s) 108 (ix v2))) else (1000 : Int32))))) rfl ?_
                  refine w_ck K rfl ?_
                  refine w_go K 3 (c' := (202, [some (.ref 102), some (.ref 25), some (.int v2), some (.int (gI s 26 (ix v2)))], [.int v2, .ref 109, .int (gI (f_Eyes_weigh v2 s) 107 (ix (gI s 26 (ix v2)))), .int (gI s 26 (ix v2)), .ref 107], mT (sI (sI (sI (f_Eyes_weigh v2 s) 104 (ix (gI s 26 (ix v2))) 0) 105 (ix (gI s 26 (ix v2))) 0) 106 (ix (gI s 26 (ix v2))) (if ((gI (f_Eyes_weigh v2 s) 106 (ix (gI s 26 (ix v2)))) + (gI (f_Eyes_weigh v2 s) 108 (ix v2))) < (1000 : Int32) then ((gI (f_Eyes_weigh v2 s) 106 (ix (gI s 26 (ix v2)))) + (gI (f_Eyes_weigh v2 s) 108 (ix v2))) else (1000 : Int32))))) rfl ?_
                  refine w_ck K rfl ?_
                  refine w_go K 1 (c' := (204, [some (.ref 102), some (.ref 25), some (.int v2), some (.int (gI s 26 (ix v2)))], [.int ((gI (f_Eyes_weigh v2 s) 107 (ix (gI s 26 (ix v2)))) * (gI (f_Eyes_weigh v2 s) 109 (ix v2))), .int (gI s 26 (ix v2)), .ref 107], mT (sI (sI (sI (f_Eyes_weigh v2 s) 104 (ix (gI s 26 (ix v2))) 0) 105 (ix (gI s 26 (ix v2))) 0) 106 (ix (gI s 26 (ix v2))) (if ((gI (f_Eyes_weigh v2 s) 106 (ix (gI s 26 (ix v2)))) + (gI (f_Eyes_weigh v2 s) 108 (ix v2))) < (1000 : Int32) then ((gI (f_Eyes_weigh v2 s) 106 (ix (gI s 26 (ix v2)))) + (gI (f_Eyes_weigh v2 s) 108 (ix v2))) else (1000 : Int32))))) rfl ?_
                  refine w_ck K rfl ?_
                  refine w_go K 2 (c' := (72, [some (.ref 102), some (.ref 25), some (.int (v2 + (-1))), some (.int (gI s 26 (ix v2)))], [], mT (sI (sI (sI (sI (f_Eyes_weigh v2 s) 104 (ix (gI s 26 (ix v2))) 0) 105 (ix (gI s 26 (ix v2))) 0) 106 (ix (gI s 26 (ix v2))) (if ((gI (f_Eyes_weigh v2 s) 106 (ix (gI s 26 (ix v2)))) + (gI (f_Eyes_weigh v2 s) 108 (ix v2))) < (1000 : Int32) then ((gI (f_Eyes_weigh v2 s) 106 (ix (gI s 26 (ix v2)))) + (gI (f_Eyes_weigh v2 s) 108 (ix v2))) else (1000 : Int32))) 107 (ix (gI s 26 (ix v2))) ((gI (f_Eyes_weigh v2 s) 107 (ix (gI s 26 (ix v2)))) * (gI (f_Eyes_weigh v2 s) 109 (ix v2)))))) rfl ?_
                  exact fun a b => ih (v2 + (-1)) _ (sI (sI (sI (sI (f_Eyes_weigh v2 s) 104 (ix (gI s 26 (ix v2))) 0) 105 (ix (gI s 26 (ix v2))) 0) 106 (ix (gI s 26 (ix v2))) (if ((gI (f_Eyes_weigh v2 s) 106 (ix (gI s 26 (ix v2)))) + (gI (f_Eyes_weigh v2 s) 108 (ix v2))) < (1000 : Int32) then ((gI (f_Eyes_weigh v2 s) 106 (ix (gI s 26 (ix v2)))) + (gI (f_Eyes_weigh v2 s) 108 (ix v2))) else (1000 : Int32))) 107 (ix (gI s 26 (ix v2))) ((gI (f_Eyes_weigh v2 s) 107 (ix (gI s 26 (ix v2)))) * (gI (f_Eyes_weigh v2 s) 109 (ix v2)))) a b
                · refine w_go K 2 (c' := (164, [some (.ref 102), some (.ref 25), some (.int v2), some (.int (gI s 26 (ix v2)))], [.int 1, .int (gI s 26 (ix v2)), .ref 105], mT (sI (f_Eyes_weigh v2 s) 104 (ix (gI s 26 (ix v2))) 0))) rfl ?_
                  refine w_ck K rfl ?_
                  refine w_go K 7 (c' := (178, [some (.ref 102), some (.ref 25), some (.int v2), some (.int (gI s 26 (ix v2)))], [.int (gI s 26 (ix v2)), .ref 106, .int 1000, .int (gI s 26 (ix v2)), .ref 106], mT (sI (sI (f_Eyes_weigh v2 s) 104 (ix (gI s 26 (ix v2))) 0) 105 (ix (gI s 26 (ix v2))) 1))) rfl ?_
                  refine w_ck K rfl ?_
                  refine w_go K 3 (c' := (184, [some (.ref 102), some (.ref 25), some (.int v2), some (.int (gI s 26 (ix v2)))], [.int v2, .ref 108, .int (gI (f_Eyes_weigh v2 s) 106 (ix (gI s 26 (ix v2)))), .int 1000, .int (gI s 26 (ix v2)), .ref 106], mT (sI (sI (f_Eyes_weigh v2 s) 104 (ix (gI s 26 (ix v2))) 0) 105 (ix (gI s 26 (ix v2))) 1))) rfl ?_
                  refine w_ck K rfl ?_
                  refine w_go K 2 (c' := (189, [some (.ref 102), some (.ref 25), some (.int v2), some (.int (gI s 26 (ix v2)))], [.int (if ((gI (f_Eyes_weigh v2 s) 106 (ix (gI s 26 (ix v2)))) + (gI (f_Eyes_weigh v2 s) 108 (ix v2))) < (1000 : Int32) then ((gI (f_Eyes_weigh v2 s) 106 (ix (gI s 26 (ix v2)))) + (gI (f_Eyes_weigh v2 s) 108 (ix v2))) else (1000 : Int32)), .int (gI s 26 (ix v2)), .ref 106], mT (sI (sI (f_Eyes_weigh v2 s) 104 (ix (gI s 26 (ix v2))) 0) 105 (ix (gI s 26 (ix v2))) 1))) rfl ?_
                  refine w_ck K rfl ?_
                  refine w_go K 4 (c' := (196, [some (.ref 102), some (.ref 25), some (.int v2), some (.int (gI s 26 (ix v2)))], [.int (gI s 26 (ix v2)), .ref 107, .int (gI s 26 (ix v2)), .ref 107], mT (sI (sI (sI (f_Eyes_weigh v2 s) 104 (ix (gI s 26 (ix v2))) 0) 105 (ix (gI s 26 (ix v2))) 1) 106 (ix (gI s 26 (ix v2))) (if ((gI (f_Eyes_weigh v2 s) 106 (ix (gI s 26 (ix v2)))) + (gI (f_Eyes_weigh v2 s) 108 (ix v2))) < (1000 : Int32) then ((gI (f_Eyes_weigh v2 s) 106 (ix (gI s 26 (ix v2)))) + (gI (f_Eyes_weigh v2 s) 108 (ix v2))) else (1000 : Int32))))) rfl ?_
                  refine w_ck K rfl ?_
                  refine w_go K 3 (c' := (202, [some (.ref 102), some (.ref 25), some (.int v2), some (.int (gI s 26 (ix v2)))], [.int v2, .ref 109, .int (gI (f_Eyes_weigh v2 s) 107 (ix (gI s 26 (ix v2)))), .int (gI s 26 (ix v2)), .ref 107], mT (sI (sI (sI (f_Eyes_weigh v2 s) 104 (ix (gI s 26 (ix v2))) 0) 105 (ix (gI s 26 (ix v2))) 1) 106 (ix (gI s 26 (ix v2))) (if ((gI (f_Eyes_weigh v2 s) 106 (ix (gI s 26 (ix v2)))) + (gI (f_Eyes_weigh v2 s) 108 (ix v2))) < (1000 : Int32) then ((gI (f_Eyes_weigh v2 s) 106 (ix (gI s 26 (ix v2)))) + (gI (f_Eyes_weigh v2 s) 108 (ix v2))) else (1000 : Int32))))) rfl ?_
                  refine w_ck K rfl ?_
                  refine w_go K 1 (c' := (204, [some (.ref 102), some (.ref 25), some (.int v2), some (.int (gI s 26 (ix v2)))], [.int ((gI (f_Eyes_weigh v2 s) 107 (ix (gI s 26 (ix v2)))) * (gI (f_Eyes_weigh v2 s) 109 (ix v2))), .int (gI s 26 (ix v2)), .ref 107], mT (sI (sI (sI (f_Eyes_weigh v2 s) 104 (ix (gI s 26 (ix v2))) 0) 105 (ix (gI s 26 (ix v2))) 1) 106 (ix (gI s 26 (ix v2))) (if ((gI (f_Eyes_weigh v2 s) 106 (ix (gI s 26 (ix v2)))) + (gI (f_Eyes_weigh v2 s) 108 (ix v2))) < (1000 : Int32) then ((gI (f_Eyes_weigh v2 s) 106 (ix (gI s 26 (ix v2)))) + (gI (f_Eyes_weigh v2 s) 108 (ix v2))) else (1000 : Int32))))) rfl ?_
                  refine w_ck K rfl ?_
                  refine w_go K 2 (c' := (72, [some (.ref 102), some (.ref 25), some (.int (v2 + (-1))), some (.int (gI s 26 (ix v2)))], [], mT (sI (sI (sI (sI (f_Eyes_weigh v2 s) 104 (ix (gI s 26 (ix v2))) 0) 105 (ix (gI s 26 (ix v2))) 1) 106 (ix (gI s 26 (ix v2))) (if ((gI (f_Eyes_weigh v2 s) 106 (ix (gI s 26 (ix v2)))) + (gI (f_Eyes_weigh v2 s) 108 (ix v2))) < (1000 : Int32) then ((gI (f_Eyes_weigh v2 s) 106 (ix (gI s 26 (ix v2)))) + (gI (f_Eyes_weigh v2 s) 108 (ix v2))) else (1000 : Int32))) 107 (ix (gI s 26 (ix v2))) ((gI (f_Eyes_weigh v2 s) 107 (ix (gI s 26 (ix v2)))) * (gI (f_Eyes_weigh v2 s) 109 (ix v2)))))) rfl ?_
                  exact fun a b => ih (v2 + (-1)) _ (sI (sI (sI (sI (f_Eyes_weigh v2 s) 104 (ix (gI s 26 (ix v2))) 0) 105 (ix (gI s 26 (ix v2))) 1) 106 (ix (gI s 26 (ix v2))) (if ((gI (f_Eyes_weigh v2 s) 106 (ix (gI s 26 (ix v2)))) + (gI (f_Eyes_weigh v2 s) 108 (ix v2))) < (1000 : Int32) then ((gI (f_Eyes_weigh v2 s) 106 (ix (gI s 26 (ix v2)))) + (gI (f_Eyes_weigh v2 s) 108 (ix v2))) else (1000 : Int32))) 107 (ix (gI s 26 (ix v2))) ((gI (f_Eyes_weigh v2 s) 107 (ix (gI s 26 (ix v2)))) * (gI (f_Eyes_weigh v2 s) 109 (ix v2)))) a b
              · refine w_go K 2 (c' := (164, [some (.ref 102), some (.ref 25), some (.int v2), some (.int (gI s 26 (ix v2)))], [.int 1, .int (gI s 26 (ix v2)), .ref 105], mT (sI (f_Eyes_weigh v2 s) 104 (ix (gI s 26 (ix v2))) 0))) rfl ?_
                refine w_ck K rfl ?_
                refine w_go K 7 (c' := (178, [some (.ref 102), some (.ref 25), some (.int v2), some (.int (gI s 26 (ix v2)))], [.int (gI s 26 (ix v2)), .ref 106, .int 1000, .int (gI s 26 (ix v2)), .ref 106], mT (sI (sI (f_Eyes_weigh v2 s) 104 (ix (gI s 26 (ix v2))) 0) 105 (ix (gI s 26 (ix v2))) 1))) rfl ?_
                refine w_ck K rfl ?_
                refine w_go K 3 (c' := (184, [some (.ref 102), some (.ref 25), some (.int v2), some (.int (gI s 26 (ix v2)))], [.int v2, .ref 108, .int (gI (f_Eyes_weigh v2 s) 106 (ix (gI s 26 (ix v2)))), .int 1000, .int (gI s 26 (ix v2)), .ref 106], mT (sI (sI (f_Eyes_weigh v2 s) 104 (ix (gI s 26 (ix v2))) 0) 105 (ix (gI s 26 (ix v2))) 1))) rfl ?_
                refine w_ck K rfl ?_
                refine w_go K 2 (c' := (189, [some (.ref 102), some (.ref 25), some (.int v2), some (.int (gI s 26 (ix v2)))], [.int (if ((gI (f_Eyes_weigh v2 s) 106 (ix (gI s 26 (ix v2)))) + (gI (f_Eyes_weigh v2 s) 108 (ix v2))) < (1000 : Int32) then ((gI (f_Eyes_weigh v2 s) 106 (ix (gI s 26 (ix v2)))) + (gI (f_Eyes_weigh v2 s) 108 (ix v2))) else (1000 : Int32)), .int (gI s 26 (ix v2)), .ref 106], mT (sI (sI (f_Eyes_weigh v2 s) 104 (ix (gI s 26 (ix v2))) 0) 105 (ix (gI s 26 (ix v2))) 1))) rfl ?_
                refine w_ck K rfl ?_
                refine w_go K 4 (c' := (196, [some (.ref 102), some (.ref 25), some (.int v2), some (.int (gI s 26 (ix v2)))], [.int (gI s 26 (ix v2)), .ref 107, .int (gI s 26 (ix v2)), .ref 107], mT (sI (sI (sI (f_Eyes_weigh v2 s) 104 (ix (gI s 26 (ix v2))) 0) 105 (ix (gI s 26 (ix v2))) 1) 106 (ix (gI s 26 (ix v2))) (if ((gI (f_Eyes_weigh v2 s) 106 (ix (gI s 26 (ix v2)))) + (gI (f_Eyes_weigh v2 s) 108 (ix v2))) < (1000 : Int32) then ((gI (f_Eyes_weigh v2 s) 106 (ix (gI s 26 (ix v2)))) + (gI (f_Eyes_weigh v2 s) 108 (ix v2))) else (1000 : Int32))))) rfl ?_
                refine w_ck K rfl ?_
                refine w_go K 3 (c' := (202, [some (.ref 102), some (.ref 25), some (.int v2), some (.int (gI s 26 (ix v2)))], [.int v2, .ref 109, .int (gI (f_Eyes_weigh v2 s) 107 (ix (gI s 26 (ix v2)))), .int (gI s 26 (ix v2)), .ref 107], mT (sI (sI (sI (f_Eyes_weigh v2 s) 104 (ix (gI s 26 (ix v2))) 0) 105 (ix (gI s 26 (ix v2))) 1) 106 (ix (gI s 26 (ix v2))) (if ((gI (f_Eyes_weigh v2 s) 106 (ix (gI s 26 (ix v2)))) + (gI (f_Eyes_weigh v2 s) 108 (ix v2))) < (1000 : Int32) then ((gI (f_Eyes_weigh v2 s) 106 (ix (gI s 26 (ix v2)))) + (gI (f_Eyes_weigh v2 s) 108 (ix v2))) else (1000 : Int32))))) rfl ?_
                refine w_ck K rfl ?_
                refine w_go K 1 (c' := (204, [some (.ref 102), some (.ref 25), some (.int v2), some (.int (gI s 26 (ix v2)))], [.int ((gI (f_Eyes_weigh v2 s) 107 (ix (gI s 26 (ix v2)))) * (gI (f_Eyes_weigh v2 s) 109 (ix v2))), .int (gI s 26 (ix v2)), .ref 107], mT (sI (sI (sI (f_Eyes_weigh v2 s) 104 (ix (gI s 26 (ix v2))) 0) 105 (ix (gI s 26 (ix v2))) 1) 106 (ix (gI s 26 (ix v2))) (if ((gI (f_Eyes_weigh v2 s) 106 (ix (gI s 26 (ix v2)))) + (gI (f_Eyes_weigh v2 s) 108 (ix v2))) < (1000 : Int32) then ((gI (f_Eyes_weigh v2 s) 106 (ix (gI s 26 (ix v2)))) + (gI (f_Eyes_weigh v2 s) 108 (ix v2))) else (1000 : Int32))))) rfl ?_
                refine w_ck K rfl ?_
                refine w_go K 2 (c' := (72, [some (.ref 102), some (.ref 25), some (.int (v2 + (-1))), some (.int (gI s 26 (ix v2)))], [], mT (sI (sI (sI (sI (f_Eyes_weigh v2 s) 104 (ix (gI s 26 (ix v2))) 0) 105 (ix (gI s 26 (ix v2))) 1) 106 (ix (gI s 26 (ix v2))) (if ((gI (f_Eyes_weigh v2 s) 106 (ix (gI s 26 (ix v2)))) + (gI (f_Eyes_weigh v2 s) 108 (ix v2))) < (1000 : Int32) then ((gI (f_Eyes_weigh v2 s) 106 (ix (gI s 26 (ix v2)))) + (gI (f_Eyes_weigh v2 s) 108 (ix v2))) else (1000 : Int32))) 107 (ix (gI s 26 (ix v2))) ((gI (f_Eyes_weigh v2 s) 107 (ix (gI s 26 (ix v2)))) * (gI (f_Eyes_weigh v2 s) 109 (ix v2)))))) rfl ?_
                exact fun a b => ih (v2 + (-1)) _ (sI (sI (sI (sI (f_Eyes_weigh v2 s) 104 (ix (gI s 26 (ix v2))) 0) 105 (ix (gI s 26 (ix v2))) 1) 106 (ix (gI s 26 (ix v2))) (if ((gI (f_Eyes_weigh v2 s) 106 (ix (gI s 26 (ix v2)))) + (gI (f_Eyes_weigh v2 s) 108 (ix v2))) < (1000 : Int32) then ((gI (f_Eyes_weigh v2 s) 106 (ix (gI s 26 (ix v2)))) + (gI (f_Eyes_weigh v2 s) 108 (ix v2))) else (1000 : Int32))) 107 (ix (gI s 26 (ix v2))) ((gI (f_Eyes_weigh v2 s) 107 (ix (gI s 26 (ix v2)))) * (gI (f_Eyes_weigh v2 s) 109 (ix v2)))) a b
            · refine w_go K 2 (c' := (135, [some (.ref 102), some (.ref 25), some (.int v2), some (.int (gI s 26 (ix v2)))], [.int 1, .int (gI s 26 (ix v2)), .ref 104], mT (f_Eyes_weigh v2 s))) rfl ?_
              refine w_ck K rfl ?_
              refine w_go K 6 (c' := (146, [some (.ref 102), some (.ref 25), some (.int v2), some (.int (gI s 26 (ix v2)))], [.int (gI s 26 (ix v2)), .ref 105, .int (gI s 26 (ix v2)), .ref 105], mT (sI (f_Eyes_weigh v2 s) 104 (ix (gI s 26 (ix v2))) 1))) rfl ?_
              refine w_ck K rfl ?_
              refine w_go K 0 (c' := (147, [some (.ref 102), some (.ref 25), some (.int v2), some (.int (gI s 26 (ix v2)))], [.int (gI (f_Eyes_weigh v2 s) 105 (ix (gI s 26 (ix v2)))), .int (gI s 26 (ix v2)), .ref 105], mT (sI (f_Eyes_weigh v2 s) 104 (ix (gI s 26 (ix v2))) 1))) rfl ?_
              refine w_br K rfl (fun _ => ?_) (fun _ => ?_)
              · refine w_go K 3 (c' := (155, [some (.ref 102), some (.ref 25), some (.int v2), some (.int (gI s 26 (ix v2)))], [.int v2, .ref 105, .int (gI s 26 (ix v2)), .ref 105], mT (sI (f_Eyes_weigh v2 s) 104 (ix (gI s 26 (ix v2))) 1))) rfl ?_
                refine w_ck K rfl ?_
                refine w_go K 0 (c' := (156, [some (.ref 102), some (.ref 25), some (.int v2), some (.int (gI s 26 (ix v2)))], [.int (gI (f_Eyes_weigh v2 s) 105 (ix v2)), .int (gI s 26 (ix v2)), .ref 105], mT (sI (f_Eyes_weigh v2 s) 104 (ix (gI s 26 (ix v2))) 1))) rfl ?_
                refine w_br K rfl (fun _ => ?_) (fun _ => ?_)
                · refine w_go K 1 (c' := (164, [some (.ref 102), some (.ref 25), some (.int v2), some (.int (gI s 26 (ix v2)))], [.int 0, .int (gI s 26 (ix v2)), .ref 105], mT (sI (f_Eyes_weigh v2 s) 104 (ix (gI s 26 (ix v2))) 1))) rfl ?_
                  refine w_ck K rfl ?_
                  refine w_go K 7 (c' := (178, [some (.ref 102), some (.ref 25), some (.int v2), some (.int (gI s 26 (ix v2)))], [.int (gI s 26 (ix v2)), .ref 106, .int 1000, .int (gI s 26 (ix v2)), .ref 106], mT (sI (sI (f_Eyes_weigh v2 s) 104 (ix (gI s 26 (ix v2))) 1) 105 (ix (gI s 26 (ix v2))) 0))) rfl ?_
                  refine w_ck K rfl ?_
                  refine w_go K 3 (c' := (184, [some (.ref 102), some (.ref 25), some (.int v2), some (.int (gI s 26 (ix v2)))], [.int v2, .ref 108, .int (gI (f_Eyes_weigh v2 s) 106 (ix (gI s 26 (ix v2)))), .int 1000, .int (gI s 26 (ix v2)), .ref 106], mT (sI (sI (f_Eyes_weigh v2 s) 104 (ix (gI s 26 (ix v2))) 1) 105 (ix (gI s 26 (ix v2))) 0))) rfl ?_
                  refine w_ck K rfl ?_
                  refine w_go K 2 (c' := (189, [some (.ref 102), some (.ref 25), some (.int v2), some (.int (gI s 26 (ix v2)))], [.int (if ((gI (f_Eyes_weigh v2 s) 106 (ix (gI s 26 (ix v2)))) + (gI (f_Eyes_weigh v2 s) 108 (ix v2))) < (1000 : Int32) then ((gI (f_Eyes_weigh v2 s) 106 (ix (gI s 26 (ix v2)))) + (gI (f_Eyes_weigh v2 s) 108 (ix v2))) else (1000 : Int32)), .int (gI s 26 (ix v2)), .ref 106], mT (sI (sI (f_Eyes_weigh v2 s) 104 (ix (gI s 26 (ix v2))) 1) 105 (ix (gI s 26 (ix v2))) 0))) rfl ?_
                  refine w_ck K rfl ?_
                  refine w_go K 4 (c' := (196, [some (.ref 102), some (.ref 25), some (.int v2), some (.int (gI s 26 (ix v2)))], [.int (gI s 26 (ix v2)), .ref 107, .int (gI s 26 (ix v2)), .ref 107], mT (sI (sI (sI (f_Eyes_weigh v2 s) 104 (ix (gI s 26 (ix v2))) 1) 105 (ix (gI s 26 (ix v2))) 0) 106 (ix (gI s 26 (ix v2))) (if ((gI (f_Eyes_weigh v2 s) 106 (ix (gI s 26 (ix v2)))) + (gI (f_Eyes_weigh v2 s) 108 (ix v2))) < (1000 : Int32) then ((gI (f_Eyes_weigh v2 s) 106 (ix (gI s 26 (ix v2)))) + (gI (f_Eyes_weigh v2 s) 108 (ix v2))) else (1000 : Int32))))) rfl ?_
                  refine w_ck K rfl ?_
                  refine w_go K 3 (c' := (202, [some (.ref 102), some (.ref 25), some (.int v2), some (.int (gI s 26 (ix v2)))], [.int v2, .ref 109, .int (gI (f_Eyes_weigh v2 s) 107 (ix (gI s 26 (ix v2)))), .int (gI s 26 (ix v2)), .ref 107], mT (sI (sI (sI (f_Eyes_weigh v2 s) 104 (ix (gI s 26 (ix v2))) 1) 105 (ix (gI s 26 (ix v2))) 0) 106 (ix (gI s 26 (ix v2))) (if ((gI (f_Eyes_weigh v2 s) 106 (ix (gI s 26 (ix v2)))) + (gI (f_Eyes_weigh v2 s) 108 (ix v2))) < (1000 : Int32) then ((gI (f_Eyes_weigh v2 s) 106 (ix (gI s 26 (ix v2)))) + (gI (f_Eyes_weigh v2 s) 108 (ix v2))) else (1000 : Int32))))) rfl ?_
                  refine w_ck K rfl ?_
                  refine w_go K 1 (c' := (204, [some (.ref 102), some (.ref 25), some (.int v2), some (.int (gI s 26 (ix v2)))], [.int ((gI (f_Eyes_weigh v2 s) 107 (ix (gI s 26 (ix v2)))) * (gI (f_Eyes_weigh v2 s) 109 (ix v2))), .int (gI s 26 (ix v2)), .ref 107], mT (sI (sI (sI (f_Eyes_weigh v2 s) 104 (ix (gI s 26 (ix v2))) 1) 105 (ix (gI s 26 (ix v2))) 0) 106 (ix (gI s 26 (ix v2))) (if ((gI (f_Eyes_weigh v2 s) 106 (ix (gI s 26 (ix v2)))) + (gI (f_Eyes_weigh v2 s) 108 (ix v2))) < (1000 : Int32) then ((gI (f_Eyes_weigh v2 s) 106 (ix (gI s 26 (ix v2)))) + (gI (f_Eyes_weigh v2 s) 108 (ix v2))) else (1000 : Int32))))) rfl ?_
                  refine w_ck K rfl ?_
                  refine w_go K 2 (c' := (72, [some (.ref 102), some (.ref 25), some (.int (v2 + (-1))), some (.int (gI s 26 (ix v2)))], [], mT (sI (sI (sI (sI (f_Eyes_weigh v2 s) 104 (ix (gI s 26 (ix v2))) 1) 105 (ix (gI s 26 (ix v2))) 0) 106 (ix (gI s 26 (ix v2))) (if ((gI (f_Eyes_weigh v2 s) 106 (ix (gI s 26 (ix v2)))) + (gI (f_Eyes_weigh v2 s) 108 (ix v2))) < (1000 : Int32) then ((gI (f_Eyes_weigh v2 s) 106 (ix (gI s 26 (ix v2)))) + (gI (f_Eyes_weigh v2 s) 108 (ix v2))) else (1000 : Int32))) 107 (ix (gI s 26 (ix v2))) ((gI (f_Eyes_weigh v2 s) 107 (ix (gI s 26 (ix v2)))) * (gI (f_Eyes_weigh v2 s) 109 (ix v2)))))) rfl ?_
                  exact fun a b => ih (v2 + (-1)) _ (sI (sI (sI (sI (f_Eyes_weigh v2 s) 104 (ix (gI s 26 (ix v2))) 1) 105 (ix (gI s 26 (ix v2))) 0) 106 (ix (gI s 26 (ix v2))) (if ((gI (f_Eyes_weigh v2 s) 106 (ix (gI s 26 (ix v2)))) + (gI (f_Eyes_weigh v2 s) 108 (ix v2))) < (1000 : Int32) then ((gI (f_Eyes_weigh v2 s) 106 (ix (gI s 26 (ix v2)))) + (gI (f_Eyes_weigh v2 s) 108 (ix v2))) else (1000 : Int32))) 107 (ix (gI s 26 (ix v2))) ((gI (f_Eyes_weigh v2 s) 107 (ix (gI s 26 (ix v2)))) * (gI (f_Eyes_weigh v2 s) 109 (ix v2)))) a b
                · refine w_go K 2 (c' := (164, [some (.ref 102), some (.ref 25), some (.int v2), some (.int (gI s 26 (ix v2)))], [.int 1, .int (gI s 26 (ix v2)), .ref 105], mT (sI (f_Eyes_weigh v2 s) 104 (ix (gI s 26 (ix v2))) 1))) rfl ?_
                  refine w_ck K rfl ?_
                  refine w_go K 7 (c' := (178, [some (.ref 102), some (.ref 25), some (.int v2), some (.int (gI s 26 (ix v2)))], [.int (gI s 26 (ix v2)), .ref 106, .int 1000, .int (gI s 26 (ix v2)), .ref 106], mT (sI (sI (f_Eyes_weigh v2 s) 104 (ix (gI s 26 (ix v2))) 1) 105 (ix (gI s 26 (ix v2))) 1))) rfl ?_
                  refine w_ck K rfl ?_
                  refine w_go K 3 (c' := (184, [some (.ref 102), some (.ref 25), some (.int v2), some (.int (gI s 26 (ix v2)))], [.int v2, .ref 108, .int (gI (f_Eyes_weigh v2 s) 106 (ix (gI s 26 (ix v2)))), .int 1000, .int (gI s 26 (ix v2)), .ref 106], mT (sI (sI (f_Eyes_weigh v2 s) 104 (ix (gI s 26 (ix v2))) 1) 105 (ix (gI s 26 (ix v2))) 1))) rfl ?_
                  refine w_ck K rfl ?_
                  refine w_go K 2 (c' := (189, [some (.ref 102), some (.ref 25), some (.int v2), some (.int (gI s 26 (ix v2)))], [.int (if ((gI (f_Eyes_weigh v2 s) 106 (ix (gI s 26 (ix v2)))) + (gI (f_Eyes_weigh v2 s) 108 (ix v2))) < (1000 : Int32) then ((gI (f_Eyes_weigh v2 s) 106 (ix (gI s 26 (ix v2)))) + (gI (f_Eyes_weigh v2 s) 108 (ix v2))) else (1000 : Int32)), .int (gI s 26 (ix v2)), .ref 106], mT (sI (sI (f_Eyes_weigh v2 s) 104 (ix (gI s 26 (ix v2))) 1) 105 (ix (gI s 26 (ix v2))) 1))) rfl ?_
                  refine w_ck K rfl ?_
                  refine w_go K 4 (c' := (196, [some (.ref 102), some (.ref 25), some (.int v2), some (.int (gI s 26 (ix v2)))], [.int (gI s 26 (ix v2)), .ref 107, .int (gI s 26 (ix v2)), .ref 107], mT (sI (sI (sI (f_Eyes_weigh v2 s) 104 (ix (gI s 26 (ix v2))) 1) 105 (ix (gI s 26 (ix v2))) 1) 106 (ix (gI s 26 (ix v2))) (if ((gI (f_Eyes_weigh v2 s) 106 (ix (gI s 26 (ix v2)))) + (gI (f_Eyes_weigh v2 s) 108 (ix v2))) < (1000 : Int32) then ((gI (f_Eyes_weigh v2 s) 106 (ix (gI s 26 (ix v2)))) + (gI (f_Eyes_weigh v2 s) 108 (ix v2))) else (1000 : Int32))))) rfl ?_
                  refine w_ck K rfl ?_
                  refine w_go K 3 (c' := (202, [some (.ref 102), some (.ref 25), some (.int v2), some (.int (gI s 26 (ix v2)))], [.int v2, .ref 109, .int (gI (f_Eyes_weigh v2 s) 107 (ix (gI s 26 (ix v2)))), .int (gI s 26 (ix v2)), .ref 107], mT (sI (sI (sI (f_Eyes_weigh v2 s) 104 (ix (gI s 26 (ix v2))) 1) 105 (ix (gI s 26 (ix v2))) 1) 106 (ix (gI s 26 (ix v2))) (if ((gI (f_Eyes_weigh v2 s) 106 (ix (gI s 26 (ix v2)))) + (gI (f_Eyes_weigh v2 s) 108 (ix v2))) < (1000 : Int32) then ((gI (f_Eyes_weigh v2 s) 106 (ix (gI s 26 (ix v2)))) + (gI (f_Eyes_weigh v2 s) 108 (ix v2))) else (1000 : Int32))))) rfl ?_
                  refine w_ck K rfl ?_
                  refine w_go K 1 (c' := (204, [some (.ref 102), some (.ref 25), some (.int v2), some (.int (gI s 26 (ix v2)))], [.int ((gI (f_Eyes_weigh v2 s) 107 (ix (gI s 26 (ix v2)))) * (gI (f_Eyes_weigh v2 s) 109 (ix v2))), .int (gI s 26 (ix v2)), .ref 107], mT (sI (sI (sI (f_Eyes_weigh v2 s) 104 (ix (gI s 26 (ix v2))) 1) 105 (ix (gI s 26 (ix v2))) 1) 106 (ix (gI s 26 (ix v2))) (if ((gI (f_Eyes_weigh v2 s) 106 (ix (gI s 26 (ix v2)))) + (gI (f_Eyes_weigh v2 s) 108 (ix v2))) < (1000 : Int32) then ((gI (f_Eyes_weigh v2 s) 106 (ix (gI s 26 (ix v2)))) + (gI (f_Eyes_weigh v2 s) 108 (ix v2))) else (1000 : Int32))))) rfl ?_
                  refine w_ck K rfl ?_
                  refine w_go K 2 (c' := (72, [some (.ref 102), some (.ref 25), some (.int (v2 + (-1))), some (.int (gI s 26 (ix v2)))], [], mT (sI (sI (sI (sI (f_Eyes_weigh v2 s) 104 (ix (gI s 26 (ix v2))) 1) 105 (ix (gI s 26 (ix v2))) 1) 106 (ix (gI s 26 (ix v2))) (if ((gI (f_Eyes_weigh v2 s) 106 (ix (gI s 26 (ix v2)))) + (gI (f_Eyes_weigh v2 s) 108 (ix v2))) < (1000 : Int32) then ((gI (f_Eyes_weigh v2 s) 106 (ix (gI s 26 (ix v2)))) + (gI (f_Eyes_weigh v2 s) 108 (ix v2))) else (1000 : Int32))) 107 (ix (gI s 26 (ix v2))) ((gI (f_Eyes_weigh v2 s) 107 (ix (gI s 26 (ix v2)))) * (gI (f_Eyes_weigh v2 s) 109 (ix v2)))))) rfl ?_
                  exact fun a b => ih (v2 + (-1)) _ (sI (sI (sI (sI (f_Eyes_weigh v2 s) 104 (ix (gI s 26 (ix v2))) 1) 105 (ix (gI s 26 (ix v2))) 1) 106 (ix (gI s 26 (ix v2))) (if ((gI (f_Eyes_weigh v2 s) 106 (ix (gI s 26 (ix v2)))) + (gI (f_Eyes_weigh v2 s) 108 (ix v2))) < (1000 : Int32) then ((gI (f_Eyes_weigh v2 s) 106 (ix (gI s 26 (ix v2)))) + (gI (f_Eyes_weigh v2 s) 108 (ix v2))) else (1000 : Int32))) 107 (ix (gI s 26 (ix v2))) ((gI (f_Eyes_weigh v2 s) 107 (ix (gI s 26 (ix v2)))) * (gI (f_Eyes_weigh v2 s) 109 (ix v2)))) a b
              · refine w_go K 2 (c' := (164, [some (.ref 102), some (.ref 25), some (.int v2), some (.int (gI s 26 (ix v2)))], [.int 1, .int (gI s 26 (ix v2)), .ref 105], mT (sI (f_Eyes_weigh v2 s) 104 (ix (gI s 26 (ix v2))) 1))) rfl ?_
                refine w_ck K rfl ?_
                refine w_go K 7 (c' := (178, [some (.ref 102), some (.ref 25), some (.int v2), some (.int (gI s 26 (ix v2)))], [.int (gI s 26 (ix v2)), .ref 106, .int 1000, .int (gI s 26 (ix v2)), .ref 106], mT (sI (sI (f_Eyes_weigh v2 s) 104 (ix (gI s 26 (ix v2))) 1) 105 (ix (gI s 26 (ix v2))) 1))) rfl ?_
                refine w_ck K rfl ?_
                refine w_go K 3 (c' := (184, [some (.ref 102), some (.ref 25), some (.int v2), some (.int (gI s 26 (ix v2)))], [.int v2, .ref 108, .int (gI (f_Eyes_weigh v2 s) 106 (ix (gI s 26 (ix v2)))), .int 1000, .int (gI s 26 (ix v2)), .ref 106], mT (sI (sI (f_Eyes_weigh v2 s) 104 (ix (gI s 26 (ix v2))) 1) 105 (ix (gI s 26 (ix v2))) 1))) rfl ?_
                refine w_ck K rfl ?_
                refine w_go K 2 (c' := (189, [some (.ref 102), some (.ref 25), some (.int v2), some (.int (gI s 26 (ix v2)))], [.int (if ((gI (f_Eyes_weigh v2 s) 106 (ix (gI s 26 (ix v2)))) + (gI (f_Eyes_weigh v2 s) 108 (ix v2))) < (1000 : Int32) then ((gI (f_Eyes_weigh v2 s) 106 (ix (gI s 26 (ix v2)))) + (gI (f_Eyes_weigh v2 s) 108 (ix v2))) else (1000 : Int32)), .int (gI s 26 (ix v2)), .ref 106], mT (sI (sI (f_Eyes_weigh v2 s) 104 (ix (gI s 26 (ix v2))) 1) 105 (ix (gI s 26 (ix v2))) 1))) rfl ?_
                refine w_ck K rfl ?_
                refine w_go K 4 (c' := (196, [some (.ref 102), some (.ref 25), some (.int v2), some (.int (gI s 26 (ix v2)))], [.int (gI s 26 (ix v2)), .ref 107, .int (gI s 26 (ix v2)), .ref 107], mT (sI (sI (sI (f_Eyes_weigh v2 s) 104 (ix (gI s 26 (ix v2))) 1) 105 (ix (gI s 26 (ix v2))) 1) 106 (ix (gI s 26 (ix v2))) (if ((gI (f_Eyes_weigh v2 s) 106 (ix (gI s 26 (ix v2)))) + (gI (f_Eyes_weigh v2 s) 108 (ix v2))) < (1000 : Int32) then ((gI (f_Eyes_weigh v2 s) 106 (ix (gI s 26 (ix v2)))) + (gI (f_Eyes_weigh v2 s) 108 (ix v2))) else (1000 : Int32))))) rfl ?_
                refine w_ck K rfl ?_
                refine w_go K 3 (c' := (202, [some (.ref 102), some (.ref 25), some (.int v2), some (.int (gI s 26 (ix v2)))], [.int v2, .ref 109, .int (gI (f_Eyes_weigh v2 s) 107 (ix (gI s 26 (ix v2)))), .int (gI s 26 (ix v2)), .ref 107], mT (sI (sI (sI (f_Eyes_weigh v2 s) 104 (ix (gI s 26 (ix v2))) 1) 105 (ix (gI s 26 (ix v2))) 1) 106 (ix (gI s 26 (ix v2))) (if ((gI (f_Eyes_weigh v2 s) 106 (ix (gI s 26 (ix v2)))) + (gI (f_Eyes_weigh v2 s) 108 (ix v2))) < (1000 : Int32) then ((gI (f_Eyes_weigh v2 s) 106 (ix (gI s 26 (ix v2)))) + (gI (f_Eyes_weigh v2 s) 108 (ix v2))) else (1000 : Int32))))) rfl ?_
                refine w_ck K rfl ?_
                refine w_go K 1 (c' := (204, [some (.ref 102), some (.ref 25), some (.int v2), some (.int (gI s 26 (ix v2)))], [.int ((gI (f_Eyes_weigh v2 s) 107 (ix (gI s 26 (ix v2)))) * (gI (f_Eyes_weigh v2 s) 109 (ix v2))), .int (gI s 26 (ix v2)), .ref 107], mT (sI (sI (sI (f_Eyes_weigh v2 s) 104 (ix (gI s 26 (ix v2))) 1) 105 (ix (gI s 26 (ix v2))) 1) 106 (ix (gI s 26 (ix v2))) (if ((gI (f_Eyes_weigh v2 s) 106 (ix (gI s 26 (ix v2)))) + (gI (f_Eyes_weigh v2 s) 108 (ix v2))) < (1000 : Int32) then ((gI (f_Eyes_weigh v2 s) 106 (ix (gI s 26 (ix v2)))) + (gI (f_Eyes_weigh v2 s) 108 (ix v2))) else (1000 : Int32))))) rfl ?_
                refine w_ck K rfl ?_
                refine w_go K 2 (c' := (72, [some (.ref 102), some (.ref 25), some (.int (v2 + (-1))), some (.int (gI s 26 (ix v2)))], [], mT (sI (sI (sI (sI (f_Eyes_weigh v2 s) 104 (ix (gI s 26 (ix v2))) 1) 105 (ix (gI s 26 (ix v2))) 1) 106 (ix (gI s 26 (ix v2))) (if ((gI (f_Eyes_weigh v2 s) 106 (ix (gI s 26 (ix v2)))) + (gI (f_Eyes_weigh v2 s) 108 (ix v2))) < (1000 : Int32) then ((gI (f_Eyes_weigh v2 s) 106 (ix (gI s 26 (ix v2)))) + (gI (f_Eyes_weigh v2 s) 108 (ix v2))) else (1000 : Int32))) 107 (ix (gI s 26 (ix v2))) ((gI (f_Eyes_weigh v2 s) 107 (ix (gI s 26 (ix v2)))) * (gI (f_Eyes_weigh v2 s) 109 (ix v2)))))) rfl ?_
                exact fun a b => ih (v2 + (-1)) _ (sI (sI (sI (sI (f_Eyes_weigh v2 s) 104 (ix (gI s 26 (ix v2))) 1) 105 (ix (gI s 26 (ix v2))) 1) 106 (ix (gI s 26 (ix v2))) (if ((gI (f_Eyes_weigh v2 s) 106 (ix (gI s 26 (ix v2)))) + (gI (f_Eyes_weigh v2 s) 108 (ix v2))) < (1000 : Int32) then ((gI (f_Eyes_weigh v2 s) 106 (ix (gI s 26 (ix v2)))) + (gI (f_Eyes_weigh v2 s) 108 (ix v2))) else (1000 : Int32))) 107 (ix (gI s 26 (ix v2))) ((gI (f_Eyes_weigh v2 s) 107 (ix (gI s 26 (ix v2)))) * (gI (f_Eyes_weigh v2 s) 109 (ix v2)))) a b
          · refine w_go K 2 (c' := (135, [some (.ref 102), some (.ref 25), some (.int v2), some (.int (gI s 26 (ix v2)))], [.int 1, .int (gI s 26 (ix v2)), .ref 104], mT (f_Eyes_weigh v2 s))) rfl ?_
            refine w_ck K rfl ?_
            refine w_go K 6 (c' := (146, [some (.ref 102), some (.ref 25), some (.int v2), some (.int (gI s 26 (ix v2)))], [.int (gI s 26 (ix v2)), .ref 105, .int (gI s 26 (ix v2)), .ref 105], mT (sI (f_Eyes_weigh v2 s) 104 (ix (gI s 26 (ix v2))) 1))) rfl ?_
            refine w_ck K rfl ?_
            refine w_go K 0 (c' := (147, [some (.ref 102), some (.ref 25), some (.int v2), some (.int (gI s 26 (ix v2)))], [.int (gI (f_Eyes_weigh v2 s) 105 (ix (gI s 26 (ix v2)))), .int (gI s 26 (ix v2)), .ref 105], mT (sI (f_Eyes_weigh v2 s) 104 (ix (gI s 26 (ix v2))) 1))) rfl ?_
            refine w_br K rfl (fun _ => ?_) (fun _ => ?_)
            · refine w_go K 3 (c' := (155, [some (.ref 102), some (.ref 25), some (.int v2), some (.int (gI s 26 (ix v2)))], [.int v2, .ref 105, .int (gI s 26 (ix v2)), .ref 105], mT (sI (f_Eyes_weigh v2 s) 104 (ix (gI s 26 (ix v2))) 1))) rfl ?_
              refine w_ck K rfl ?_
              refine w_go K 0 (c' := (156, [some (.ref 102), some (.ref 25), some (.int v2), some (.int (gI s 26 (ix v2)))], [.int (gI (f_Eyes_weigh v2 s) 105 (ix v2)), .int (gI s 26 (ix v2)), .ref 105], mT (sI (f_Eyes_weigh v2 s) 104 (ix (gI s 26 (ix v2))) 1))) rfl ?_
              refine w_br K rfl (fun _ => ?_) (fun _ => ?_)
              · refine w_go K 1 (c' := (164, [some (.ref 102), some (.ref 25), some (.int v2), some (.int (gI s 26 (ix v2)))], [.int 0, .int (gI s 26 (ix v2)), .ref 105], mT (sI (f_Eyes_weigh v2 s) 104 (ix (gI s 26 (ix v2))) 1))) rfl ?_
                refine w_ck K rfl ?_
                refine w_go K 7 (c' := (178, [some (.ref 102), some (.ref 25), some (.int v2), some (.int (gI s 26 (ix v2)))], [.int (gI s 26 (ix v2)), .ref 106, .int 1000, .int (gI s 26 (ix v2)), .ref 106], mT (sI (sI (f_Eyes_weigh v2 s) 104 (ix (gI s 26 (ix v2))) 1) 105 (ix (gI s 26 (ix v2))) 0))) rfl ?_
                refine w_ck K rfl ?_
                refine w_go K 3 (c' := (184, [some (.ref 102), some (.ref 25), some (.int v2), some (.int (gI s 26 (ix v2)))], [.int v2, .ref 108, .int (gI (f_Eyes_weigh v2 s) 106 (ix (gI s 26 (ix v2)))), .int 1000, .int (gI s 26 (ix v2)), .ref 106], mT (sI (sI (f_Eyes_weigh v2 s) 104 (ix (gI s 26 (ix v2))) 1) 105 (ix (gI s 26 (ix v2))) 0))) rfl ?_
                refine w_ck K rfl ?_
                refine w_go K 2 (c' := (189, [some (.ref 102), some (.ref 25), some (.int v2), some (.int (gI s 26 (ix v2)))], [.int (if ((gI (f_Eyes_weigh v2 s) 106 (ix (gI s 26 (ix v2)))) + (gI (f_Eyes_weigh v2 s) 108 (ix v2))) < (1000 : Int32) then ((gI (f_Eyes_weigh v2 s) 106 (ix (gI s 26 (ix v2)))) + (gI (f_Eyes_weigh v2 s) 108 (ix v2))) else (1000 : Int32)), .int (gI s 26 (ix v2)), .ref 106], mT (sI (sI (f_Eyes_weigh v2 s) 104 (ix (gI s 26 (ix v2))) 1) 105 (ix (gI s 26 (ix v2))) 0))) rfl ?_
                refine w_ck K rfl ?_
                refine w_go K 4 (c' := (196, [some (.ref 102), some (.ref 25), some (.int v2), some (.int (gI s 26 (ix v2)))], [.int (gI s 26 (ix v2)), .ref 107, .int (gI s 26 (ix v2)), .ref 107], mT (sI (sI (sI (f_Eyes_weigh v2 s) 104 (ix (gI s 26 (ix v2))) 1) 105 (ix (gI s 26 (ix v2))) 0) 106 (ix (gI s 26 (ix v2))) (if ((gI (f_Eyes_weigh v2 s) 106 (ix (gI s 26 (ix v2)))) + (gI (f_Eyes_weigh v2 s) 108 (ix v2))) < (1000 : Int32) then ((gI (f_Eyes_weigh v2 s) 106 (ix (gI s 26 (ix v2)))) + (gI (f_Eyes_weigh v2 s) 108 (ix v2))) else (1000 : Int32))))) rfl ?_
                refine w_ck K rfl ?_
                refine w_go K 3 (c' := (202, [some (.ref 102), some (.ref 25), some (.int v2), some (.int (gI s 26 (ix v2)))], [.int v2, .ref 109, .int (gI (f_Eyes_weigh v2 s) 107 (ix (gI s 26 (ix v2)))), .int (gI s 26 (ix v2)), .ref 107], mT (sI (sI (sI (f_Eyes_weigh v2 s) 104 (ix (gI s 26 (ix v2))) 1) 105 (ix (gI s 26 (ix v2))) 0) 106 (ix (gI s 26 (ix v2))) (if ((gI (f_Eyes_weigh v2 s) 106 (ix (gI s 26 (ix v2)))) + (gI (f_Eyes_weigh v2 s) 108 (ix v2))) < (1000 : Int32) then ((gI (f_Eyes_weigh v2 s) 106 (ix (gI s 26 (ix v2)))) + (gI (f_Eyes_weigh v2 s) 108 (ix v2))) else (1000 : Int32))))) rfl ?_
                refine w_ck K rfl ?_
                refine w_go K 1 (c' := (204, [some (.ref 102), some (.ref 25), some (.int v2), some (.int (gI s 26 (ix v2)))], [.int ((gI (f_Eyes_weigh v2 s) 107 (ix (gI s 26 (ix v2)))) * (gI (f_Eyes_weigh v2 s) 109 (ix v2))), .int (gI s 26 (ix v2)), .ref 107], mT (sI (sI (sI (f_Eyes_weigh v2 s) 104 (ix (gI s 26 (ix v2))) 1) 105 (ix (gI s 26 (ix v2))) 0) 106 (ix (gI s 26 (ix v2))) (if ((gI (f_Eyes_weigh v2 s) 106 (ix (gI s 26 (ix v2)))) + (gI (f_Eyes_weigh v2 s) 108 (ix v2))) < (1000 : Int32) then ((gI (f_Eyes_weigh v2 s) 106 (ix (gI s 26 (ix v2)))) + (gI (f_Eyes_weigh v2 s) 108 (ix v2))) else (1000 : Int32))))) rfl ?_
                refine w_ck K rfl ?_
                refine w_go K 2 (c' := (72, [some (.ref 102), some (.ref 25), some (.int (v2 + (-1))), some (.int (gI s 26 (ix v2)))], [], mT (sI (sI (sI (sI (f_Eyes_weigh v2 s) 104 (ix (gI s 26 (ix v2))) 1) 105 (ix (gI s 26 (ix v2))) 0) 106 (ix (gI s 26 (ix v2))) (if ((gI (f_Eyes_weigh v2 s) 106 (ix (gI s 26 (ix v2)))) + (gI (f_Eyes_weigh v2 s) 108 (ix v2))) < (1000 : Int32) then ((gI (f_Eyes_weigh v2 s) 106 (ix (gI s 26 (ix v2)))) + (gI (f_Eyes_weigh v2 s) 108 (ix v2))) else (1000 : Int32))) 107 (ix (gI s 26 (ix v2))) ((gI (f_Eyes_weigh v2 s) 107 (ix (gI s 26 (ix v2)))) * (gI (f_Eyes_weigh v2 s) 109 (ix v2)))))) rfl ?_
                exact fun a b => ih (v2 + (-1)) _ (sI (sI (sI (sI (f_Eyes_weigh v2 s) 104 (ix (gI s 26 (ix v2))) 1) 105 (ix (gI s 26 (ix v2))) 0) 106 (ix (gI s 26 (ix v2))) (if ((gI (f_Eyes_weigh v2 s) 106 (ix (gI s 26 (ix v2)))) + (gI (f_Eyes_weigh v2 s) 108 (ix v2))) < (1000 : Int32) then ((gI (f_Eyes_weigh v2 s) 106 (ix (gI s 26 (ix v2)))) + (gI (f_Eyes_weigh v2 s) 108 (ix v2))) else (1000 : Int32))) 107 (ix (gI s 26 (ix v2))) ((gI (f_Eyes_weigh v2 s) 107 (ix (gI s 26 (ix v2)))) * (gI (f_Eyes_weigh v2 s) 109 (ix v2)))) a b
              · refine w_go K 2 (c' := (164, [some (.ref 102), some (.ref 25), some (.int v2), some (.int (gI s 26 (ix v2)))], [.int 1, .int (gI s 26 (ix v2)), .ref 105], mT (sI (f_Eyes_weigh v2 s) 104 (ix (gI s 26 (ix v2))) 1))) rfl ?_
                refine w_ck K rfl ?_
                refine w_go K 7 (c' := (178, [some (.ref 102), some (.ref 25), some (.int v2), some (.int (gI s 26 (ix v2)))], [.int (gI s 26 (ix v2)), .ref 106, .int 1000, .int (gI s 26 (ix v2)), .ref 106], mT (sI (sI (f_Eyes_weigh v2 s) 104 (ix (gI s 26 (ix v2))) 1) 105 (ix (gI s 26 (ix v2))) 1))) rfl ?_
                refine w_ck K rfl ?_
                refine w_go K 3 (c' := (184, [some (.ref 102), some (.ref 25), some (.int v2), some (.int (gI s 26 (ix v2)))], [.int v2, .ref 108, .int (gI (f_Eyes_weigh v2 s) 106 (ix (gI s 26 (ix v2)))), .int 1000, .int (gI s 26 (ix v2)), .ref 106], mT (sI (sI (f_Eyes_weigh v2 s) 104 (ix (gI s 26 (ix v2))) 1) 105 (ix (gI s 26 (ix v2))) 1))) rfl ?_
                refine w_ck K rfl ?_
                refine w_go K 2 (c' := (189, [some (.ref 102), some (.ref 25), some (.int v2), some (.int (gI s 26 (ix v2)))], [.int (if ((gI (f_Eyes_weigh v2 s) 106 (ix (gI s 26 (ix v2)))) + (gI (f_Eyes_weigh v2 s) 108 (ix v2))) < (1000 : Int32) then ((gI (f_Eyes_weigh v2 s) 106 (ix (gI s 26 (ix v2)))) + (gI (f_Eyes_weigh v2 s) 108 (ix v2))) else (1000 : Int32)), .int (gI s 26 (ix v2)), .ref 106], mT (sI (sI (f_Eyes_weigh v2 s) 104 (ix (gI s 26 (ix v2))) 1) 105 (ix (gI s 26 (ix v2))) 1))) rfl ?_
                refine w_ck K rfl ?_
                refine w_go K 4 (c' := (196, [some (.ref 102), some (.ref 25), some (.int v2), some (.int (gI s 26 (ix v2)))], [.int (gI s 26 (ix v2)), .ref 107, .int (gI s 26 (ix v2)), .ref 107], mT (sI (sI (sI (f_Eyes_weigh v2 s) 104 (ix (gI s 26 (ix v2))) 1) 105 (ix (gI s 26 (ix v2))) 1) 106 (ix (gI s 26 (ix v2))) (if ((gI (f_Eyes_weigh v2 s) 106 (ix (gI s 26 (ix v2)))) + (gI (f_Eyes_weigh v2 s) 108 (ix v2))) < (1000 : Int32) then ((gI (f_Eyes_weigh v2 s) 106 (ix (gI s 26 (ix v2)))) + (gI (f_Eyes_weigh v2 s) 108 (ix v2))) else (1000 : Int32))))) rfl ?_
                refine w_ck K rfl ?_
                refine w_go K 3 (c' := (202, [some (.ref 102), some (.ref 25), some (.int v2), some (.int (gI s 26 (ix v2)))], [.int v2, .ref 109, .int (gI (f_Eyes_weigh v2 s) 107 (ix (gI s 26 (ix v2)))), .int (gI s 26 (ix v2)), .ref 107], mT (sI (sI (sI (f_Eyes_weigh v2 s) 104 (ix (gI s 26 (ix v2))) 1) 105 (ix (gI s 26 (ix v2))) 1) 106 (ix (gI s 26 (ix v2))) (if ((gI (f_Eyes_weigh v2 s) 106 (ix (gI s 26 (ix v2)))) + (gI (f_Eyes_weigh v2 s) 108 (ix v2))) < (1000 : Int32) then ((gI (f_Eyes_weigh v2 s) 106 (ix (gI s 26 (ix v2)))) + (gI (f_Eyes_weigh v2 s) 108 (ix v2))) else (1000 : Int32))))) rfl ?_
                refine w_ck K rfl ?_
                refine w_go K 1 (c' := (204, [some (.ref 102), some (.ref 25), some (.int v2), some (.int (gI s 26 (ix v2)))], [.int ((gI (f_Eyes_weigh v2 s) 107 (ix (gI s 26 (ix v2)))) * (gI (f_Eyes_weigh v2 s) 109 (ix v2))), .int (gI s 26 (ix v2)), .ref 107], mT (sI (sI (sI (f_Eyes_weigh v2 s) 104 (ix (gI s 26 (ix v2))) 1) 105 (ix (gI s 26 (ix v2))) 1) 106 (ix (gI s 26 (ix v2))) (if ((gI (f_Eyes_weigh v2 s) 106 (ix (gI s 26 (ix v2)))) + (gI (f_Eyes_weigh v2 s) 108 (ix v2))) < (1000 : Int32) then ((gI (f_Eyes_weigh v2 s) 106 (ix (gI s 26 (ix v2)))) + (gI (f_Eyes_weigh v2 s) 108 (ix v2))) else (1000 : Int32))))) rfl ?_
                refine w_ck K rfl ?_
                refine w_go K 2 (c' := (72, [some (.ref 102), some (.ref 25), some (.int (v2 + (-1))), some (.int (gI s 26 (ix v2)))], [], mT (sI (sI (sI (sI (f_Eyes_weigh v2 s) 104 (ix (gI s 26 (ix v2))) 1) 105 (ix (gI s 26 (ix v2))) 1) 106 (ix (gI s 26 (ix v2))) (if ((gI (f_Eyes_weigh v2 s) 106 (ix (gI s 26 (ix v2)))) + (gI (f_Eyes_weigh v2 s) 108 (ix v2))) < (1000 : Int32) then ((gI (f_Eyes_weigh v2 s) 106 (ix (gI s 26 (ix v2)))) + (gI (f_Eyes_weigh v2 s) 108 (ix v2))) else (1000 : Int32))) 107 (ix (gI s 26 (ix v2))) ((gI (f_Eyes_weigh v2 s) 107 (ix (gI s 26 (ix v2)))) * (gI (f_Eyes_weigh v2 s) 109 (ix v2)))))) rfl ?_
                exact fun a b => ih (v2 + (-1)) _ (sI (sI (sI (sI (f_Eyes_weigh v2 s) 104 (ix (gI s 26 (ix v2))) 1) 105 (ix (gI s 26 (ix v2))) 1) 106 (ix (gI s 26 (ix v2))) (if ((gI (f_Eyes_weigh v2 s) 106 (ix (gI s 26 (ix v2)))) + (gI (f_Eyes_weigh v2 s) 108 (ix v2))) < (1000 : Int32) then ((gI (f_Eyes_weigh v2 s) 106 (ix (gI s 26 (ix v2)))) + (gI (f_Eyes_weigh v2 s) 108 (ix v2))) else (1000 : Int32))) 107 (ix (gI s 26 (ix v2))) ((gI (f_Eyes_weigh v2 s) 107 (ix (gI s 26 (ix v2)))) * (gI (f_Eyes_weigh v2 s) 109 (ix v2)))) a b
            · refine w_go K 2 (c' := (164, [some (.ref 102), some (.ref 25), some (.int v2), some (.int (gI s 26 (ix v2)))], [.int 1, .int (gI s 26 (ix v2)), .ref 105], mT (sI (f_Eyes_weigh v2 s) 104 (ix (gI s 26 (ix v2))) 1))) rfl ?_
              refine w_ck K rfl ?_
              refine w_go K 7 (c' := (178, [some (.ref 102), some (.ref 25), some (.int v2), some (.int (gI s 26 (ix v2)))], [.int (gI s 26 (ix v2)), .ref 106, .int 1000, .int (gI s 26 (ix v2)), .ref 106], mT (sI (sI (f_Eyes_weigh v2 s) 104 (ix (gI s 26 (ix v2))) 1) 105 (ix (gI s 26 (ix v2))) 1))) rfl ?_
              refine w_ck K rfl ?_
              refine w_go K 3 (c' := (184, [some (.ref 102), some (.ref 25), some (.int v2), some (.int (gI s 26 (ix v2)))], [.int v2, .ref 108, .int (gI (f_Eyes_weigh v2 s) 106 (ix (gI s 26 (ix v2)))), .int 1000, .int (gI s 26 (ix v2)), .ref 106], mT (sI (sI (f_Eyes_weigh v2 s) 104 (ix (gI s 26 (ix v2))) 1) 105 (ix (gI s 26 (ix v2))) 1))) rfl ?_
              refine w_ck K rfl ?_
              refine w_go K 2 (c' := (189, [some (.ref 102), some (.ref 25), some (.int v2), some (.int (gI s 26 (ix v2)))], [.int (if ((gI (f_Eyes_weigh v2 s) 106 (ix (gI s 26 (ix v2)))) + (gI (f_Eyes_weigh v2 s) 108 (ix v2))) < (1000 : Int32) then ((gI (f_Eyes_weigh v2 s) 106 (ix (gI s 26 (ix v2)))) + (gI (f_Eyes_weigh v2 s) 108 (ix v2))) else (1000 : Int32)), .int (gI s 26 (ix v2)), .ref 106], mT (sI (sI (f_Eyes_weigh v2 s) 104 (ix (gI s 26 (ix v2))) 1) 105 (ix (gI s 26 (ix v2))) 1))) rfl ?_
              refine w_ck K rfl ?_
              refine w_go K 4 (c' := (196, [some (.ref 102), some (.ref 25), some (.int v2), some (.int (gI s 26 (ix v2)))], [.int (gI s 26 (ix v2)), .ref 107, .int (gI s 26 (ix v2)), .ref 107], mT (sI (sI (sI (f_Eyes_weigh v2 s) 104 (ix (gI s 26 (ix v2))) 1) 105 (ix (gI s 26 (ix v2))) 1) 106 (ix (gI s 26 (ix v2))) (if ((gI (f_Eyes_weigh v2 s) 106 (ix (gI s 26 (ix v2)))) + (gI (f_Eyes_weigh v2 s) 108 (ix v2))) < (1000 : Int32) then ((gI (f_Eyes_weigh v2 s) 106 (ix (gI s 26 (ix v2)))) + (gI (f_Eyes_weigh v2 s) 108 (ix v2))) else (1000 : Int32))))) rfl ?_
              refine w_ck K rfl ?_
              refine w_go K 3 (c' := (202, [some (.ref 102), some (.ref 25), some (.int v2), some (.int (gI s 26 (ix v2)))], [.int v2, .ref 109, .int (gI (f_Eyes_weigh v2 s) 107 (ix (gI s 26 (ix v2)))), .int (gI s 26 (ix v2)), .ref 107], mT (sI (sI (sI (f_Eyes_weigh v2 s) 104 (ix (gI s 26 (ix v2))) 1) 105 (ix (gI s 26 (ix v2))) 1) 106 (ix (gI s 26 (ix v2))) (if ((gI (f_Eyes_weigh v2 s) 106 (ix (gI s 26 (ix v2)))) + (gI (f_Eyes_weigh v2 s) 108 (ix v2))) < (1000 : Int32) then ((gI (f_Eyes_weigh v2 s) 106 (ix (gI s 26 (ix v2)))) + (gI (f_Eyes_weigh v2 s) 108 (ix v2))) else (1000 : Int32))))) rfl ?_
              refine w_ck K rfl ?_
              refine w_go K 1 (c' := (204, [some (.ref 102), some (.ref 25), some (.int v2), some (.int (gI s 26 (ix v2)))], [.int ((gI (f_Eyes_weigh v2 s) 107 (ix (gI s 26 (ix v2)))) * (gI (f_Eyes_weigh v2 s) 109 (ix v2))), .int (gI s 26 (ix v2)), .ref 107], mT (sI (sI (sI (f_Eyes_weigh v2 s) 104 (ix (gI s 26 (ix v2))) 1) 105 (ix (gI s 26 (ix v2))) 1) 106 (ix (gI s 26 (ix v2))) (if ((gI (f_Eyes_weigh v2 s) 106 (ix (gI s 26 (ix v2)))) + (gI (f_Eyes_weigh v2 s) 108 (ix v2))) < (1000 : Int32) then ((gI (f_Eyes_weigh v2 s) 106 (ix (gI s 26 (ix v2)))) + (gI (f_Eyes_weigh v2 s) 108 (ix v2))) else (1000 : Int32))))) rfl ?_
              refine w_ck K rfl ?_
              refine w_go K 2 (c' := (72, [some (.ref 102), some (.ref 25), some (.int (v2 + (-1))), some (.int (gI s 26 (ix v2)))], [], mT (sI (sI (sI (sI (f_Eyes_weigh v2 s) 104 (ix (gI s 26 (ix v2))) 1) 105 (ix (gI s 26 (ix v2))) 1) 106 (ix (gI s 26 (ix v2))) (if ((gI (f_Eyes_weigh v2 s) 106 (ix (gI s 26 (ix v2)))) + (gI (f_Eyes_weigh v2 s) 108 (ix v2))) < (1000 : Int32) then ((gI (f_Eyes_weigh v2 s) 106 (ix (gI s 26 (ix v2)))) + (gI (f_Eyes_weigh v2 s) 108 (ix v2))) else (1000 : Int32))) 107 (ix (gI s 26 (ix v2))) ((gI (f_Eyes_weigh v2 s) 107 (ix (gI s 26 (ix v2)))) * (gI (f_Eyes_weigh v2 s) 109 (ix v2)))))) rfl ?_
              exact fun a b => ih (v2 + (-1)) _ (sI (sI (sI (sI (f_Eyes_weigh v2 s) 104 (ix (gI s 26 (ix v2))) 1) 105 (ix (gI s 26 (ix v2))) 1) 106 (ix (gI s 26 (ix v2))) (if ((gI (f_Eyes_weigh v2 s) 106 (ix (gI s 26 (ix v2)))) + (gI (f_Eyes_weigh v2 s) 108 (ix v2))) < (1000 : Int32) then ((gI (f_Eyes_weigh v2 s) 106 (ix (gI s 26 (ix v2)))) + (gI (f_Eyes_weigh v2 s) 108 (ix v2))) else (1000 : Int32))) 107 (ix (gI s 26 (ix v2))) ((gI (f_Eyes_weigh v2 s) 107 (ix (gI s 26 (ix v2)))) * (gI (f_Eyes_weigh v2 s) 109 (ix v2)))) a b
def f_Eyes_explain (s : mS) : Int32 × mS := (if (gI ((lp_Eyes_explain_72 mm_N (15 : Int32) ((lp_Eyes_explain_2 mm_N (0 : Int32) s).2)).2) 106 0) < 1000 then (1, f_Eyes_reach ((lp_Eyes_explain_72 mm_N (15 : Int32) ((lp_Eyes_explain_2 mm_N (0 : Int32) s).2)).2)) else (0, (lp_Eyes_explain_72 mm_N (15 : Int32) ((lp_Eyes_explain_2 mm_N (0 : Int32) s).2)).2))
def ok_Eyes_explain (s : mS) : Prop := (okl_Eyes_explain_2 mm_N (0 : Int32) s ∧ (okl_Eyes_explain_72 mm_N (15 : Int32) ((lp_Eyes_explain_2 mm_N (0 : Int32) s).2) ∧ (if (gI ((lp_Eyes_explain_72 mm_N (15 : Int32) ((lp_Eyes_explain_2 mm_N (0 : Int32) s).2)).2) 106 0) < 1000 then (ok_Eyes_reach ((lp_Eyes_explain_72 mm_N (15 : Int32) ((lp_Eyes_explain_2 mm_N (0 : Int32) s).2)).2) ∧ True) else True)))
theorem t_Eyes_explain {len : Nat} {xs : Nat → Int32} (d : Nat) (s : mS) {T : Option mm_R} (K : Int32 × mS → Prop) (hK : ∀ t, K t → some (some (.int t.1), mT t.2) = T) : ok_Eyes_explain s → K (f_Eyes_explain s) → mm_fix (mm_X len xs) mm_Y (mm_call (mm_X len xs) mm_Y (d + 3)) (mm_look mc_Eyes_explain) (0, [some (.ref 102), some (.ref 25), none, none], [], mT s) = T := by
  unfold ok_Eyes_explain f_Eyes_explain
  refine w_go K 2 (c' := (2, [some (.ref 102), some (.ref 25), some (.int 0), none], [], mT s)) rfl ?_
  refine w_loop K (D := ∀ (q1 : Option Value), mm_fix (mm_X len xs) mm_Y (mm_call (mm_X len xs) mm_Y (d + 3)) (mm_look mc_Eyes_explain) (69, [some (.ref 102), some (.ref 25), some (.int ((lp_Eyes_explain_2 mm_N (0 : Int32) s).1)), q1], [], mT ((lp_Eyes_explain_2 mm_N (0 : Int32) s).2)) = T) (fun h1 h2 => tl_Eyes_explain_2 (len := len) (xs := xs) d (T := T) (K := fun r => r = lp_Eyes_explain_2 mm_N (0 : Int32) s) (fun r hr => by subst hr; exact h2) mm_N (0 : Int32) _ s h1 rfl) (fun h1 h2 q1 => ?_)
  revert h1 h2
  refine w_go K 2 (c' := (72, [some (.ref 102), some (.ref 25), some (.int 15), q1], [], mT ((lp_Eyes_explain_2 mm_N (0 : Int32) s).2))) rfl ?_
  refine w_loop K (D := ∀ (q2 : Option Value), mm_fix (mm_X len xs) mm_Y (mm_call (mm_X len xs) mm_Y (d + 3)) (mm_look mc_Eyes_explain) (211, [some (.ref 102), some (.ref 25), some (.int ((lp_Eyes_explain_72 mm_N (15 : Int32) ((lp_Eyes_explain_2 mm_N (0 : Int32) s).2)).1)), q2], [], mT ((lp_Eyes_explain_72 mm_N (15 : Int32) ((lp_Eyes_explain_2 mm_N (0 : Int32) s).2)).2)) = T) (fun h1 h2 => tl_Eyes_explain_72 (len := len) (xs := xs) d (T := T) (K := fun r => r = lp_Eyes_explain_72 mm_N (15 : Int32) ((lp_Eyes_explain_2 mm_N (0 : Int32) s).2)) (fun r hr => by subst hr; exact h2) mm_N (15 : Int32) _ ((lp_Eyes_explain_2 mm_N (0 : Int32) s).2) h1 rfl) (fun h1 h2 q2 => ?_)
  revert h1 h2
  refine w_go K 5 (c' := (220, [some (.ref 102), some (.ref 25), some (.int ((lp_Eyes_explain_72 mm_N (15 : Int32) ((lp_Eyes_explain_2 mm_N (0 : Int32) s).2)).1)), q2], [.int 1000, .int (gI ((lp_Eyes_explain_72 mm_N (15 : Int32) ((lp_Eyes_explain_2 mm_N (0 : Int32) s).2)).2) 106 0)], mT ((lp_Eyes_explain_72 mm_N (15 : Int32) ((lp_Eyes_explain_2 mm_N (0 : Int32) s).2)).2))) rfl ?_
  refine w_br K rfl (fun _ => ?_) (fun _ => ?_)
  · refine w_go K 2 (c' := (227, [some (.ref 102), some (.ref 25), some (.int ((lp_Eyes_explain_72 mm_N (15 : Int32) ((lp_Eyes_explain_2 mm_N (0 : Int32) s).2)).1)), q2], [.ref 25, .ref 102], mT ((lp_Eyes_explain_72 mm_N (15 : Int32) ((lp_Eyes_explain_2 mm_N (0 : Int32) s).2)).2))) rfl ?_
    refine w_call K rfl (m_Eyes_reach (len := len) (xs := xs) (d + 0) ((lp_Eyes_explain_72 mm_N (15 : Int32) ((lp_Eyes_explain_2 mm_N (0 : Int32) s).2)).2)) ?_
    refine w_go K 1 (c' := (231, [some (.ref 102), some (.ref 25), some (.int ((lp_Eyes_explain_72 mm_N (15 : Int32) ((lp_Eyes_explain_2 mm_N (0 : Int32) s).2)).1)), q2], [.int 1], mT (f_Eyes_reach ((lp_Eyes_explain_72 mm_N (15 : Int32) ((lp_Eyes_explain_2 mm_N (0 : Int32) s).2)).2)))) rfl ?_
    exact w_ret K rfl (hK _)
  · refine w_go K 1 (c' := (224, [some (.ref 102), some (.ref 25), some (.int ((lp_Eyes_explain_72 mm_N (15 : Int32) ((lp_Eyes_explain_2 mm_N (0 : Int32) s).2)).1)), q2], [.int 0], mT ((lp_Eyes_explain_72 mm_N (15 : Int32) ((lp_Eyes_explain_2 mm_N (0 : Int32) s).2)).2))) rfl ?_
    exact w_ret K rfl (hK _)
theorem m_Eyes_explain {len : Nat} {xs : Nat → Int32} (d : Nat) (s : mS) : ok_Eyes_explain s → mm_call (mm_X len xs) mm_Y (d + 4) 139 [.ref 102, .ref 25] (mT s) = some (some (.int (f_Eyes_explain s).1), mT (f_Eyes_explain s).2) := fun h => t_Eyes_explain (len := len) (xs := xs) d s (fun t => (some (some (.int t.1), mT t.2) : Option mm_R) = some (some (.int (f_Eyes_explain s).1), mT (f_Eyes_explain s).2)) (fun _ h => h) h rfl
def f_Eyes_fewest (s : mS) : Int32 := (gI s 106 0)
theorem t_Eyes_fewest {len : Nat} {xs : Nat → Int32} (d : Nat) (s : mS) {T : Option mm_R} (K : Int32 → Prop) (hK : ∀ t, K t → some (some (.int t), mT s) = T) : True → K (f_Eyes_fewest s) → mm_fix (mm_X len xs) mm_Y (mm_call (mm_X len xs) mm_Y (d + 0)) (mm_look mc_Eyes_fewest) (0, [some (.ref 102)], [], mT s) = T := by
  unfold f_Eyes_fewest
  refine w_go K 4 (c' := (6, [some (.ref 102)], [.int (gI s 106 0)], mT s)) rfl ?_
  exact w_ret K rfl (hK _)
theorem m_Eyes_fewest {len : Nat} {xs : Nat → Int32} (d : Nat) (s : mS) : True → mm_call (mm_X len xs) mm_Y (d + 1) 142 [.ref 102] (mT s) = some (some (.int (f_Eyes_fewest s)), mT s) := fun h => t_Eyes_fewest (len := len) (xs := xs) d s (fun t => (some (some (.int t), mT s) : Option mm_R) = some (some (.int (f_Eyes_fewest s)), mT s)) (fun _ h => h) h rfl
def f_Eyes_howManySets (s : mS) : Int32 := (gI s 107 0)
theorem t_Eyes_howManySets {len : Nat} {xs : Nat → Int32} (d : Nat) (s : mS) {T : Option mm_R} (K : Int32 → Prop) (hK : ∀ t, K t → some (some (.int t), mT s) = T) : True → K (f_Eyes_howManySets s) → mm_fix (mm_X len xs) mm_Y (mm_call (mm_X len xs) mm_Y (d + 0)) (mm_look mc_Eyes_howManySets) (0, [some (.ref 102)], [], mT s) = T := by
  unfold f_Eyes_howManySets
  refine w_go K 4 (c' := (6, [some (.ref 102)], [.int (gI s 107 0)], mT s)) rfl ?_
  exact w_ret K rfl (hK _)
theorem m_Eyes_howManySets {len : Nat} {xs : Nat → Int32} (d : Nat) (s : mS) : True → mm_call (mm_X len xs) mm_Y (d + 1) 143 [.ref 102] (mT s) = some (some (.int (f_Eyes_howManySets s)), mT s) := fun h => t_Eyes_howManySets (len := len) (xs := xs) d s (fun t => (some (some (.int t), mT s) : Option mm_R) = some (some (.int (f_Eyes_howManySets s)), mT s)) (fun _ h => h) h rfl
def f_Eyes_sharePipe (a1 : Int32) (s : mS) : Int32 := (if a1 < 1 then 0 else (if (16 : Int32) ≤ a1 then 0 else (if (gI s 104 (ix a1)) = 0 then 0 else (if (gI s 105 (ix a1)) = 0 then (if (gI s 108 (ix a1)) = 1 then (if (gI s 110 (ix a1)) = 0 then 0 else (if (gI s 110 (ix a1)) = (gI s 107 0) then 2 else 1)) else 0) else 0))))
def ok_Eyes_sharePipe (a1 : Int32) (s : mS) : Prop := (if a1 < 1 then True else (if (16 : Int32) ≤ a1 then True else (mm_inb a1 16 = true ∧ (if (gI s 104 (ix a1)) = 0 then True else (mm_inb a1 16 = true ∧ (if (gI s 105 (ix a1)) = 0 then (mm_inb a1 16 = true ∧ (if (gI s 108 (ix a1)) = 1 then (mm_inb a1 16 = true ∧ (if (gI s 110 (ix a1)) = 0 then True else (mm_inb a1 16 = true ∧ True))) else True)) else True))))))
theorem t_Eyes_sharePipe {len : Nat} {xs : Nat → Int32} (d : Nat) (a1 : Int32) (s : mS) {T : Option mm_R} (K : Int32 → Prop) (hK : ∀ t, K t → some (some (.int t), mT s) = T) : ok_Eyes_sharePipe a1 s → K (f_Eyes_sharePipe a1 s) → mm_fix (mm_X len xs) mm_Y (mm_call (mm_X len xs) mm_Y (d + 0)) (mm_look mc_Eyes_sharePipe) (0, [some (.ref 102), some (.int a1)], [], mT s) = T := by
  unfold ok_Eyes_sharePipe f_Eyes_sharePipe
  refine w_go K 2 (c' := (2, [some (.ref 102), some (.int a1)], [.int 1, .int a1], mT s)) rfl ?_
  refine w_br K rfl (fun _ => ?_) (fun _ => ?_)
  · refine w_go K 1 (c' := (49, [some (.ref 102), some (.int a1)], [.int 0], mT s)) rfl ?_
    exact w_ret K rfl (hK _)
  · refine w_go K 2 (c' := (8, [some (.ref 102), some (.int a1)], [.int 16, .int a1], mT s)) rfl ?_
    refine w_br K rfl (fun _ => ?_) (fun _ => ?_)
    · refine w_go K 1 (c' := (49, [some (.ref 102), some (.int a1)], [.int 0], mT s)) rfl ?_
      exact w_ret K rfl (hK _)
    · refine w_go K 3 (c' := (16, [some (.ref 102), some (.int a1)], [.int a1, .ref 104], mT s)) rfl ?_
      refine w_ck K rfl ?_
      refine w_go K 0 (c' := (17, [some (.ref 102), some (.int a1)], [.int (gI s 104 (ix a1))], mT s)) rfl ?_
      refine w_br K rfl (fun _ => ?_) (fun _ => ?_)
      · refine w_go K 1 (c' := (49, [some (.ref 102), some (.int a1)], [.int 0], mT s)) rfl ?_
        exact w_ret K rfl (hK _)
      · refine w_go K 3 (c' := (25, [some (.ref 102), some (.int a1)], [.int a1, .ref 105], mT s)) rfl ?_
        refine w_ck K rfl ?_
        refine w_go K 0 (c' := (26, [some (.ref 102), some (.int a1)], [.int (gI s 105 (ix a1))], mT s)) rfl ?_
        refine w_br K rfl (fun _ => ?_) (fun _ => ?_)
        · refine w_go K 3 (c' := (34, [some (.ref 102), some (.int a1)], [.int a1, .ref 108], mT s)) rfl ?_
          refine w_ck K rfl ?_
          refine w_go K 1 (c' := (36, [some (.ref 102), some (.int a1)], [.int 1, .int (gI s 108 (ix a1))], mT s)) rfl ?_
          refine w_br K rfl (fun _ => ?_) (fun _ => ?_)
          · refine w_go K 3 (c' := (44, [some (.ref 102), some (.int a1)], [.int a1, .ref 110], mT s)) rfl ?_
            refine w_ck K rfl ?_
            refine w_go K 0 (c' := (45, [some (.ref 102), some (.int a1)], [.int (gI s 110 (ix a1))], mT s)) rfl ?_
            refine w_br K rfl (fun _ => ?_) (fun _ => ?_)
            · refine w_go K 1 (c' := (49, [some (.ref 102), some (.int a1)], [.int 0], mT s)) rfl ?_
              exact w_ret K rfl (hK _)
            · refine w_go K 3 (c' := (55, [some (.ref 102), some (.int a1)], [.int a1, .ref 110], mT s)) rfl ?_
              refine w_ck K rfl ?_
              refine w_go K 4 (c' := (62, [some (.ref 102), some (.int a1)], [.int (gI s 107 0), .int (gI s 110 (ix a1))], mT s)) rfl ?_
              refine w_brT K rfl (fun _ => ?_) (fun _ => ?_)
              · refine w_go K 2 (c' := (70, [some (.ref 102), some (.int a1)], [.int 2], mT s)) rfl ?_
                exact w_ret K rfl (hK _)
              · refine w_go K 1 (c' := (70, [some (.ref 102), some (.int a1)], [.int 1], mT s)) rfl ?_
                exact w_ret K rfl (hK _)
          · refine w_go K 1 (c' := (49, [some (.ref 102), some (.int a1)], [.int 0], mT s)) rfl ?_
            exact w_ret K rfl (hK _)
        · refine w_go K 1 (c' := (49, [some (.ref 102), some (.int a1)], [.int 0], mT s)) rfl ?_
          exact w_ret K rfl (hK _)
theorem m_Eyes_sharePipe {len : Nat} {xs : Nat → Int32} (d : Nat) (a1 : Int32) (s : mS) : ok_Eyes_sharePipe a1 s → mm_call (mm_X len xs) mm_Y (d + 1) 144 [.ref 102, .int a1] (mT s) = some (some (.int (f_Eyes_sharePipe a1 s)), mT s) := fun h => t_Eyes_sharePipe (len := len) (xs := xs) d a1 s (fun t => (some (some (.int t), mT s) : Option mm_R) = some (some (.int (f_Eyes_sharePipe a1 s)), mT s)) (fun _ h => h) h rfl
def f_G_find (a1 : Int32) (s : mS) : Int32 × mS := (if (f_G_within a1 (0 : Int32) (1 : Int32) s) = 0 then (if (10 : Int32) ≤ a1 then (if (f_Net_hasPipe (a1 - 10) s) = 0 then ((-1), s) else (if (f_Eyes_explain s).1 = 0 then ((-1), (f_Eyes_explain s).2) else (if a1 = 0 then ((f_Eyes_fewest ((f_Eyes_explain s).2)), (f_Eyes_explain s).2) else (if a1 = 1 then ((f_Eyes_howManySets ((f_Eyes_explain s).2)), (f_Eyes_explain s).2) else ((f_Eyes_sharePipe (a1 - 10) ((f_Eyes_explain s).2)), (f_Eyes_explain s).2))))) else (if (f_Net_hasPipe ((-1) : Int32) s) = 0 then ((-1), s) else (if (f_Eyes_explain s).1 = 0 then ((-1), (f_Eyes_explain s).2) else (if a1 = 0 then ((f_Eyes_fewest ((f_Eyes_explain s).2)), (f_Eyes_explain s).2) else (if a1 = 1 then ((f_Eyes_howManySets ((f_Eyes_explain s).2)), (f_Eyes_explain s).2) else ((f_Eyes_sharePipe (a1 - 10) ((f_Eyes_explain s).2)), (f_Eyes_explain s).2)))))) else (if (f_Eyes_explain s).1 = 0 then ((-1), (f_Eyes_explain s).2) else (if a1 = 0 then ((f_Eyes_fewest ((f_Eyes_explain s).2)), (f_Eyes_explain s).2) else (if a1 = 1 then ((f_Eyes_howManySets ((f_Eyes_explain s).2)), (f_Eyes_explain s).2) else ((f_Eyes_sharePipe (a1 - 10) ((f_Eyes_explain s).2)), (f_Eyes_explain s).2)))))
def ok_G_find (a1 : Int32) (s : mS) : Prop := (if (f_G_within a1 (0 : Int32) (1 : Int32) s) = 0 then (if (10 : Int32) ≤ a1 then (if (f_Net_hasPipe (a1 - 10) s) = 0 then True else (ok_Eyes_explain s ∧ (if (f_Eyes_explain s).1 = 0 then True else (if a1 = 0 then True else (if a1 = 1 then True else (ok_Eyes_sharePipe (a1 - 10) ((f_Eyes_explain s).2) ∧ True)))))) else (if (f_Net_hasPipe ((-1) : Int32) s) = 0 then True else (ok_Eyes_explain s ∧ (if (f_Eyes_explain s).1 = 0 then True else (if a1 = 0 then True else (if a1 = 1 then True else (ok_Eyes_sharePipe (a1 - 10) ((f_Eyes_explain s).2) ∧ True))))))) else (ok_Eyes_explain s ∧ (if (f_Eyes_explain s).1 = 0 then True else (if a1 = 0 then True else (if a1 = 1 then True else (ok_Eyes_sharePipe (a1 - 10) ((f_Eyes_explain s).2) ∧ True))))))
theorem t_G_find {len : Nat} {xs : Nat → Int32} (d : Nat) (a1 : Int32) (s : mS) {T : Option mm_R} (K : Int32 × mS → Prop) (hK : ∀ t, K t → some (some (.int t.1), mT t.2) = T) : ok_G_find a1 s → K (f_G_find a1 s) → mm_fix (mm_X len xs) mm_Y (mm_call (mm_X len xs) mm_Y (d + 4)) (mm_look mc_G_find) (0, [some (.ref 0), some (.int a1)], [], mT s) = T := by
  unfold ok_G_find f_G_find
  refine w_go K 3 (c' := (3, [some (.ref 0), some (.int a1)], [.int 1, .int 0, .int a1], mT s)) rfl ?_
  refine w_callT K rfl (m_G_within (len := len) (xs := xs) (d + 3) a1 (0 : Int32) (1 : Int32) s) ?_
  refine w_go K 0 (c' := (6, [some (.ref 0), some (.int a1)], [.int (f_G_within a1 (0 : Int32) (1 : Int32) s)], mT s)) rfl ?_
  refine w_br K rfl (fun _ => ?_) (fun _ => ?_)
  · refine w_go K 4 (c' := (16, [some (.ref 0), some (.int a1)], [.int 10, .int a1, .ref 25], mT s)) rfl ?_
    refine w_br K rfl (fun _ => ?_) (fun _ => ?_)
    · refine w_go K 3 (c' := (27, [some (.ref 0), some (.int a1)], [.int (a1 - 10), .ref 25], mT s)) rfl ?_
      refine w_callT K rfl (m_Net_hasPipe (len := len) (xs := xs) (d + 2) (a1 - 10) s) ?_
      refine w_go K 0 (c' := (30, [some (.ref 0), some (.int a1)], [.int (f_Net_hasPipe (a1 - 10) s)], mT s)) rfl ?_
      refine w_br K rfl (fun _ => ?_) (fun _ => ?_)
      · refine w_go K 1 (c' := (34, [some (.ref 0), some (.int a1)], [.int (-1)], mT s)) rfl ?_
        exact w_ret K rfl (hK _)
      · refine w_go K 4 (c' := (43, [some (.ref 0), some (.int a1)], [.ref 25, .ref 102], mT s)) rfl ?_
        refine w_call K rfl (m_Eyes_explain (len := len) (xs := xs) (d + 0) s) ?_
        refine w_go K 0 (c' := (46, [some (.ref 0), some (.int a1)], [.int ((f_Eyes_explain s).1)], mT ((f_Eyes_explain s).2))) rfl ?_
        refine w_br K rfl (fun _ => ?_) (fun _ => ?_)
        · refine w_go K 1 (c' := (50, [some (.ref 0), some (.int a1)], [.int (-1)], mT ((f_Eyes_explain s).2))) rfl ?_
          exact w_ret K rfl (hK _)
        · refine w_go K 1 (c' := (52, [some (.ref 0), some (.int a1)], [.int a1], mT ((f_Eyes_explain s).2))) rfl ?_
          refine w_go K 1 (c' := (mm_sw [(0, 80), (1, 88)] 96 a1, [some (.ref 0), some (.int a1)], [], mT ((f_Eyes_explain s).2))) rfl ?_
          refine w_sw K (fun _ => ?_) (fun _ => ?_)
          · refine w_go K 2 (c' := (84, [some (.ref 0), some (.int a1)], [.ref 102], mT ((f_Eyes_explain s).2))) rfl ?_
            refine w_callT K rfl (m_Eyes_fewest (len := len) (xs := xs) (d + 3) ((f_Eyes_explain s).2)) ?_
            refine w_go K 0 (c' := (87, [some (.ref 0), some (.int a1)], [.int (f_Eyes_fewest ((f_Eyes_explain s).2))], mT ((f_Eyes_explain s).2))) rfl ?_
            exact w_ret K rfl (hK _)
          · refine w_sw K (fun _ => ?_) (fun _ => ?_)
            · refine w_go K 2 (c' := (92, [some (.ref 0), some (.int a1)], [.ref 102], mT ((f_Eyes_explain s).2))) rfl ?_
              refine w_callT K rfl (m_Eyes_howManySets (len := len) (xs := xs) (d + 3) ((f_Eyes_explain s).2)) ?_
              refine w_go K 0 (c' := (95, [some (.ref 0), some (.int a1)], [.int (f_Eyes_howManySets ((f_Eyes_explain s).2))], mT ((f_Eyes_explain s).2))) rfl ?_
              exact w_ret K rfl (hK _)
            · refine w_go K 0 (c' := (96, [some (.ref 0), some (.int a1)], [], mT ((f_Eyes_explain s).2))) rfl ?_
              refine w_go K 5 (c' := (104, [some (.ref 0), some (.int a1)], [.int (a1 - 10), .ref 102], mT ((f_Eyes_explain s).2))) rfl ?_
              refine w_call K rfl (m_Eyes_sharePipe (len := len) (xs := xs) (d + 3) (a1 - 10) ((f_Eyes_explain s).2)) ?_
              refine w_go K 0 (c' := (107, [some (.ref 0), some (.int a1)], [.int (f_Eyes_sharePipe (a1 - 10) ((f_Eyes_explain s).2))], mT ((f_Eyes_explain s).2))) rfl ?_
              exact w_ret K rfl (hK _)
    · refine w_go K 2 (c' := (27, [some (.ref 0), some (.int a1)], [.int (-1), .ref 25], mT s)) rfl ?_
      refine w_callT K rfl (m_Net_hasPipe (len := len) (xs := xs) (d + 2) ((-1) : Int32) s) ?_
      refine w_go K 0 (c' := (30, [some (.ref 0), some (.int a1)], [.int (f_Net_hasPipe ((-1) : Int32) s)], mT s)) rfl ?_
      refine w_br K rfl (fun _ => ?_) (fun _ => ?_)
      · refine w_go K 1 (c' := (34, [some (.ref 0), some (.int a1)], [.int (-1)], mT s)) rfl ?_
        exact w_ret K rfl (hK _)
      · refine w_go K 4 (c' := (43, [some (.ref 0), some (.int a1)], [.ref 25, .ref 102], mT s)) rfl ?_
        refine w_call K rfl (m_Eyes_explain (len := len) (xs := xs) (d + 0) s) ?_
        refine w_go K 0 (c' := (46, [some (.ref 0), some (.int a1)], [.int ((f_Eyes_explain s).1)], mT ((f_Eyes_explain s).2))) rfl ?_
        refine w_br K rfl (fun _ => ?_) (fun _ => ?_)
        · refine w_go K 1 (c' := (50, [some (.ref 0), some (.int a1)], [.int (-1)], mT ((f_Eyes_explain s).2))) rfl ?_
          exact w_ret K rfl (hK _)
        · refine w_go K 1 (c' := (52, [some (.ref 0), some (.int a1)], [.int a1], mT ((f_Eyes_explain s).2))) rfl ?_
          refine w_go K 1 (c' := (mm_sw [(0, 80), (1, 88)] 96 a1, [some (.ref 0), some (.int a1)], [], mT ((f_Eyes_explain s).2))) rfl ?_
          refine w_sw K (fun _ => ?_) (fun _ => ?_)
          · refine w_go K 2 (c' := (84, [some (.ref 0), some (.int a1)], [.ref 102], mT ((f_Eyes_explain s).2))) rfl ?_
            refine w_callT K rfl (m_Eyes_fewest (len := len) (xs := xs) (d + 3) ((f_Eyes_explain s).2)) ?_
            refine w_go K 0 (c' := (87, [some (.ref 0), some (.int a1)], [.int (f_Eyes_fewest ((f_Eyes_explain s).2))], mT ((f_Eyes_explain s).2))) rfl ?_
            exact w_ret K rfl (hK _)
          · refine w_sw K (fun _ => ?_) (fun _ => ?_)
            · refine w_go K 2 (c' := (92, [some (.ref 0), some (.int a1)], [.ref 102], mT ((f_Eyes_explain s).2))) rfl ?_
              refine w_callT K rfl (m_Eyes_howManySets (len := len) (xs := xs) (d + 3) ((f_Eyes_explain s).2)) ?_
              refine w_go K 0 (c' := (95, [some (.ref 0), some (.int a1)], [.int (f_Eyes_howManySets ((f_Eyes_explain s).2))], mT ((f_Eyes_explain s).2))) rfl ?_
              exact w_ret K rfl (hK _)
            · refine w_go K 0 (c' := (96, [some (.ref 0), some (.int a1)], [], mT ((f_Eyes_explain s).2))) rfl ?_
              refine w_go K 5 (c' := (104, [some (.ref 0), some (.int a1)], [.int (a1 - 10), .ref 102], mT ((f_Eyes_explain s).2))) rfl ?_
              refine w_call K rfl (m_Eyes_sharePipe (len := len) (xs := xs) (d + 3) (a1 - 10) ((f_Eyes_explain s).2)) ?_
              refine w_go K 0 (c' := (107, [some (.ref 0), some (.int a1)], [.int (f_Eyes_sharePipe (a1 - 10) ((f_Eyes_explain s).2))], mT ((f_Eyes_explain s).2))) rfl ?_
              exact w_ret K rfl (hK _)
  · refine w_go K 4 (c' := (43, [some (.ref 0), some (.int a1)], [.ref 25, .ref 102], mT s)) rfl ?_
    refine w_call K rfl (m_Eyes_explain (len := len) (xs := xs) (d + 0) s) ?_
    refine w_go K 0 (c' := (46, [some (.ref 0), some (.int a1)], [.int ((f_Eyes_explain s).1)], mT ((f_Eyes_explain s).2))) rfl ?_
    refine w_br K rfl (fun _ => ?_) (fun _ => ?_)
    · refine w_go K 1 (c' := (50, [some (.ref 0), some (.int a1)], [.int (-1)], mT ((f_Eyes_explain s).2))) rfl ?_
      exact w_ret K rfl (hK _)
    · refine w_go K 1 (c' := (52, [some (.ref 0), some (.int a1)], [.int a1], mT ((f_Eyes_explain s).2))) rfl ?_
      refine w_go K 1 (c' := (mm_sw [(0, 80), (1, 88)] 96 a1, [some (.ref 0), some (.int a1)], [], mT ((f_Eyes_explain s).2))) rfl ?_
      refine w_sw K (fun _ => ?_) (fun _ => ?_)
      · refine w_go K 2 (c' := (84, [some (.ref 0), some (.int a1)], [.ref 102], mT ((f_Eyes_explain s).2))) rfl ?_
        refine w_callT K rfl (m_Eyes_fewest (len := len) (xs := xs) (d + 3) ((f_Eyes_explain s).2)) ?_
        refine w_go K 0 (c' := (87, [some (.ref 0), some (.int a1)], [.int (f_Eyes_fewest ((f_Eyes_explain s).2))], mT ((f_Eyes_explain s).2))) rfl ?_
        exact w_ret K rfl (hK _)
      · refine w_sw K (fun _ => ?_) (fun _ => ?_)
        · refine w_go K 2 (c' := (92, [some (.ref 0), some (.int a1)], [.ref 102], mT ((f_Eyes_explain s).2))) rfl ?_
          refine w_callT K rfl (m_Eyes_howManySets (len := len) (xs := xs) (d + 3) ((f_Eyes_explain s).2)) ?_
          refine w_go K 0 (c' := (95, [some (.ref 0), some (.int a1)], [.int (f_Eyes_howManySets ((f_Eyes_explain s).2))], mT ((f_Eyes_explain s).2))) rfl ?_
          exact w_ret K rfl (hK _)
        · refine w_go K 0 (c' := (96, [some (.ref 0), some (.int a1)], [], mT ((f_Eyes_explain s).2))) rfl ?_
          refine w_go K 5 (c' := (104, [some (.ref 0), some (.int a1)], [.int (a1 - 10), .ref 102], mT ((f_Eyes_explain s).2))) rfl ?_
          refine w_call K rfl (m_Eyes_sharePipe (len := len) (xs := xs) (d + 3) (a1 - 10) ((f_Eyes_explain s).2)) ?_
          refine w_go K 0 (c' := (107, [some (.ref 0), some (.int a1)], [.int (f_Eyes_sharePipe (a1 - 10) ((f_Eyes_explain s).2))], mT ((f_Eyes_explain s).2))) rfl ?_
          exact w_ret K rfl (hK _)
theorem m_G_find {len : Nat} {xs : Nat → Int32} (d : Nat) (a1 : Int32) (s : mS) : ok_G_find a1 s → mm_call (mm_X len xs) mm_Y (d + 5) 138 [.ref 0, .int a1] (mT s) = some (some (.int (f_G_find a1 s).1), mT (f_G_find a1 s).2) := fun h => t_G_find (len := len) (xs := xs) d a1 s (fun t => (some (some (.int t.1), mT t.2) : Option mm_R) = some (some (.int (f_G_find a1 s).1), mT (f_G_find a1 s).2)) (fun _ h => h) h rfl
def f_Improvements_offer (a1 : Int32) (a2 : Int32) (a3 : Int32) (s : mS) : Int32 × mS := (if (gI s 111 4) < 8 then ((gI s 111 4), sI (sI (sI (sI s 112 (ix (gI s 111 4)) a1) 113 (ix (gI s 111 4)) a2) 114 (ix (gI s 111 4)) a3) 111 4 ((gI s 111 4) + 1)) else ((-1), s))
def ok_Improvements_offer (a1 : Int32) (a2 : Int32) (a3 : Int32) (s : mS) : Prop := (if (gI s 111 4) < 8 then (mm_inb (gI s 111 4) 8 = true ∧ (mm_inb (gI s 111 4) 8 = true ∧ (mm_inb (gI s 111 4) 8 = true ∧ True))) else True)
theorem t_Improvements_offer {len : Nat} {xs : Nat → Int32} (d : Nat) (a1 : Int32) (a2 : Int32) (a3 : Int32) (s : mS) {T : Option mm_R} (K : Int32 × mS → Prop) (hK : ∀ t, K t → some (some (.int t.1), mT t.2) = T) : ok_Improvements_offer a1 a2 a3 s → K (f_Improvements_offer a1 a2 a3 s) → mm_fix (mm_X len xs) mm_Y (mm_call (mm_X len xs) mm_Y (d + 0)) (mm_look mc_Improvements_offer) (0, [some (.ref 111), some (.int a1), some (.int a2), some (.int a3)], [], mT s) = T := by
  unfold ok_Improvements_offer f_Improvements_offer
  refine w_go K 3 (c' := (6, [some (.ref 111), some (.int a1), some (.int a2), some (.int a3)], [.int 8, .int (gI s 111 4)], mT s)) rfl ?_
  refine w_br K rfl (fun _ => ?_) (fun _ => ?_)
  · refine w_go K 5 (c' := (20, [some (.ref 111), some (.int a1), some (.int a2), some (.int a3)], [.int a1, .int (gI s 111 4), .ref 112], mT s)) rfl ?_
    refine w_ck K rfl ?_
    refine w_go K 5 (c' := (30, [some (.ref 111), some (.int a1), some (.int a2), some (.int a3)], [.int a2, .int (gI s 111 4), .ref 113], mT (sI s 112 (ix (gI s 111 4)) a1))) rfl ?_
    refine w_ck K rfl ?_
    refine w_go K 5 (c' := (40, [some (.ref 111), some (.int a1), some (.int a2), some (.int a3)], [.int a3, .int (gI s 111 4), .ref 114], mT (sI (sI s 112 (ix (gI s 111 4)) a1) 113 (ix (gI s 111 4)) a2))) rfl ?_
    refine w_ck K rfl ?_
    refine w_go K 7 (c' := (52, [some (.ref 111), some (.int a1), some (.int a2), some (.int a3)], [.int (gI s 111 4)], mT (sI (sI (sI (sI s 112 (ix (gI s 111 4)) a1) 113 (ix (gI s 111 4)) a2) 114 (ix (gI s 111 4)) a3) 111 4 ((gI s 111 4) + 1)))) rfl ?_
    exact w_ret K rfl (hK _)
  · refine w_go K 1 (c' := (10, [some (.ref 111), some (.int a1), some (.int a2), some (.int a3)], [.int (-1)], mT s)) rfl ?_
    exact w_ret K rfl (hK _)
theorem m_Improvements_offer {len : Nat} {xs : Nat → Int32} (d : Nat) (a1 : Int32) (a2 : Int32) (a3 : Int32) (s : mS) : ok_Improvements_offer a1 a2 a3 s → mm_call (mm_X len xs) mm_Y (d + 1) 146 [.ref 111, .int a1, .int a2, .int a3] (mT s) = some (some (.int (f_Improvements_offer a1 a2 a3 s).1), mT (f_Improvements_offer a1 a2 a3 s).2) := fun h => t_Improvements_offer (len := len) (xs := xs) d a1 a2 a3 s (fun t => (some (some (.int t.1), mT t.2) : Option mm_R) = some (some (.int (f_Improvements_offer a1 a2 a3 s).1), mT (f_Improvements_offer a1 a2 a3 s).2)) (fun _ h => h) h rfl
def f_G_work (a1 : Int32) (a2 : Int32) (a3 : Int32) (s : mS) : Int32 × mS := (if (f_Net_hasPipe a1 s) = 0 then ((-1), s) else (if (f_G_within a2 (1 : Int32) (9 : Int32) s) = 0 then ((-1), s) else (if (f_G_within a3 (1 : Int32) (999 : Int32) s) = 0 then ((-1), s) else ((f_Improvements_offer a1 a2 a3 s).1, (f_Improvements_offer a1 a2 a3 s).2))))
def ok_G_work (a1 : Int32) (a2 : Int32) (a3 : Int32) (s : mS) : Prop := (if (f_Net_hasPipe a1 s) = 0 then True else (if (f_G_within a2 (1 : Int32) (9 : Int32) s) = 0 then True else (if (f_G_within a3 (1 : Int32) (999 : Int32) s) = 0 then True else (ok_Improvements_offer a1 a2 a3 s ∧ True))))
theorem t_G_work {len : Nat} {xs : Nat → Int32} (d : Nat) (a1 : Int32) (a2 : Int32) (a3 : Int32) (s : mS) {T : Option mm_R} (K : Int32 × mS → Prop) (hK : ∀ t, K t → some (some (.int t.1), mT t.2) = T) : ok_G_work a1 a2 a3 s → K (f_G_work a1 a2 a3 s) → mm_fix (mm_X len xs) mm_Y (mm_call (mm_X len xs) mm_Y (d + 2)) (mm_look mc_G_work) (0, [some (.ref 0), some (.int a1), some (.int a2), some (.int a3)], [], mT s) = T := by
  unfold ok_G_work f_G_work
  refine w_go K 3 (c' := (5, [some (.ref 0), some (.int a1), some (.int a2), some (.int a3)], [.int a1, .ref 25], mT s)) rfl ?_
  refine w_callT K rfl (m_Net_hasPipe (len := len) (xs := xs) (d + 0) a1 s) ?_
  refine w_go K 0 (c' := (8, [some (.ref 0), some (.int a1), some (.int a2), some (.int a3)], [.int (f_Net_hasPipe a1 s)], mT s)) rfl ?_
  refine w_br K rfl (fun _ => ?_) (fun _ => ?_)
  · refine w_go K 1 (c' := (33, [some (.ref 0), some (.int a1), some (.int a2), some (.int a3)], [.int (-1)], mT s)) rfl ?_
    exact w_ret K rfl (hK _)
  · refine w_go K 3 (c' := (15, [some (.ref 0), some (.int a1), some (.int a2), some (.int a3)], [.int 9, .int 1, .int a2], mT s)) rfl ?_
    refine w_callT K rfl (m_G_within (len := len) (xs := xs) (d + 1) a2 (1 : Int32) (9 : Int32) s) ?_
    refine w_go K 0 (c' := (18, [some (.ref 0), some (.int a1), some (.int a2), some (.int a3)], [.int (f_G_within a2 (1 : Int32) (9 : Int32) s)], mT s)) rfl ?_
    refine w_br K rfl (fun _ => ?_) (fun _ => ?_)
    · refine w_go K 1 (c' := (33, [some (.ref 0), some (.int a1), some (.int a2), some (.int a3)], [.int (-1)], mT s)) rfl ?_
      exact w_ret K rfl (hK _)
    · refine w_go K 3 (c' := (26, [some (.ref 0), some (.int a1), some (.int a2), some (.int a3)], [.int 999, .int 1, .int a3], mT s)) rfl ?_
      refine w_callT K rfl (m_G_within (len := len) (xs := xs) (d + 1) a3 (1 : Int32) (999 : Int32) s) ?_
      refine w_go K 0 (c' := (29, [some (.ref 0), some (.int a1), some (.int a2), some (.int a3)], [.int (f_G_within a3 (1 : Int32) (999 : Int32) s)], mT s)) rfl ?_
      refine w_br K rfl (fun _ => ?_) (fun _ => ?_)
      · refine w_go K 1 (c' := (33, [some (.ref 0), some (.int a1), some (.int a2), some (.int a3)], [.int (-1)], mT s)) rfl ?_
        exact w_ret K rfl (hK _)
      · refine w_go K 5 (c' := (41, [some (.ref 0), some (.int a1), some (.int a2), some (.int a3)], [.int a3, .int a2, .int a1, .ref 111], mT s)) rfl ?_
        refine w_call K rfl (m_Improvements_offer (len := len) (xs := xs) (d + 1) a1 a2 a3 s) ?_
        refine w_go K 0 (c' := (44, [some (.ref 0), some (.int a1), some (.int a2), some (.int a3)], [.int ((f_Improvements_offer a1 a2 a3 s).1)], mT ((f_Improvements_offer a1 a2 a3 s).2))) rfl ?_
        exact w_ret K rfl (hK _)
theorem m_G_work {len : Nat} {xs : Nat → Int32} (d : Nat) (a1 : Int32) (a2 : Int32) (a3 : Int32) (s : mS) : ok_G_work a1 a2 a3 s → mm_call (mm_X len xs) mm_Y (d + 3) 145 [.ref 0, .int a1, .int a2, .int a3] (mT s) = some (some (.int (f_G_work a1 a2 a3 s).1), mT (f_G_work a1 a2 a3 s).2) := fun h => t_G_work (len := len) (xs := xs) d a1 a2 a3 s (fun t => (some (some (.int t.1), mT t.2) : Option mm_R) = some (some (.int (f_G_work a1 a2 a3 s).1), mT (f_G_work a1 a2 a3 s).2)) (fun _ h => h) h rfl
def lp_Things_askAll_2 (a1 : Int32)  : Nat → Int32 → mS → Int32 × mS
  | 0, v3, s => (v3, s)
  | n + 1, v3, s => (if (40 : Int32) ≤ v3 then (v3, s) else (lp_Things_askAll_2 a1 n (v3 + 1) (sI s 23 (ix v3) (f_Things_wantOf v3 a1 s))))
def okl_Things_askAll_2 (a1 : Int32)  : Nat → Int32 → mS → Prop
  | 0, v3, s => False
  | n + 1, v3, s => (if (40 : Int32) ≤ v3 then True else (ok_Things_wantOf v3 a1 s ∧ (mm_inb v3 40 = true ∧ (okl_Things_askAll_2 a1 n (v3 + 1) (sI s 23 (ix v3) (f_Things_wantOf v3 a1 s))))))
theorem tl_Things_askAll_2 {len : Nat} {xs : Nat → Int32} (d : Nat) (a1 : Int32)  {T : Option mm_R} (K : Int32 × mS → Prop) (hX : ∀ r, K r → mm_fix (mm_X len xs) mm_Y (mm_call (mm_X len xs) mm_Y (d + 4)) (mm_look mc_Things_askAll) (27, [some (.ref 12), some (.int a1), some (.ref 1), some (.int r.1)], [], mT r.2) = T) : ∀ (n : Nat), ∀ (v3 : Int32) (s : mS), okl_Things_askAll_2 a1 n v3 s → K (lp_Things_askAll_2 a1 n v3 s) → mm_fix (mm_X len xs) mm_Y (mm_call (mm_X len xs) mm_Y (d + 4)) (mm_look mc_Things_askAll) (2, [some (.ref 12), some (.int a1), some (.ref 1), some (.int v3)], [], mT s) = T := by
  intro n
  induction n with
  | zero => intro v3 s; exact fun h => h.elim
  | succ n ih =>
    intro v3 s
    rw [okl_Things_askAll_2, lp_Things_askAll_2]
    refine w_go K 2 (c' := (5, [some (.ref 12), some (.int a1), some (.ref 1), some (.int v3)], [.int 40, .int v3], mT s)) rfl ?_
    refine w_br K rfl (fun _ => ?_) (fun _ => ?_)
    · refine w_go K 0 (c' := (27, [some (.ref 12), some (.int a1), some (.ref 1), some (.int v3)], [], mT s)) rfl ?_
      exact fun _ b => hX _ b
    · refine w_go K 7 (c' := (17, [some (.ref 12), some (.int a1), some (.ref 1), some (.int v3)], [.ref 1, .int a1, .int v3, .ref 12, .int v3, .ref 23], mT s)) rfl ?_
      refine w_call K rfl (m_Things_wantOf (len := len) (xs := xs) (d + 0) v3 a1 s) ?_
      refine w_go K 0 (c' := (20, [some (.ref 12), some (.int a1), some (.ref 1), some (.int v3)], [.int (f_Things_wantOf v3 a1 s), .int v3, .ref 23], mT s)) rfl ?_
      refine w_ck K rfl ?_
      refine w_go K 2 (c' := (2, [some (.ref 12), some (.int a1), some (.ref 1), some (.int (v3 + 1))], [], mT (sI s 23 (ix v3) (f_Things_wantOf v3 a1 s)))) rfl ?_
      exact fun a b => ih (v3 + 1) (sI s 23 (ix v3) (f_Things_wantOf v3 a1 s)) a b
def f_Things_askAll (a1 : Int32) (s : mS) : mS := (lp_Things_askAll_2 a1 mm_N (0 : Int32) s).2
def ok_Things_askAll (a1 : Int32) (s : mS) : Prop := (okl_Things_askAll_2 a1 mm_N (0 : Int32) s ∧ True)
theorem t_Things_askAll {len : Nat} {xs : Nat → Int32} (d : Nat) (a1 : Int32) (s : mS) {T : Option mm_R} (K : mS → Prop) (hK : ∀ t, K t → some (none, mT t) = T) : ok_Things_askAll a1 s → K (f_Things_askAll a1 s) → mm_fix (mm_X len xs) mm_Y (mm_call (mm_X len xs) mm_Y (d + 4)) (mm_look mc_Things_askAll) (0, [some (.ref 12), some (.int a1), some (.ref 1), none], [], mT s) = T := by
  unfold ok_Things_askAll f_Things_askAll
  refine w_go K 2 (c' := (2, [some (.ref 12), some (.int a1), some (.ref 1), some (.int 0)], [], mT s)) rfl ?_
  refine w_loop K (D := mm_fix (mm_X len xs) mm_Y (mm_call (mm_X len xs) mm_Y (d + 4)) (mm_look mc_Things_askAll) (27, [some (.ref 12), some (.int a1), some (.ref 1), some (.int ((lp_Things_askAll_2 a1 mm_N (0 : Int32) s).1))], [], mT ((lp_Things_askAll_2 a1 mm_N (0 : Int32) s).2)) = T) (fun h1 h2 => tl_Things_askAll_2 (len := len) (xs := xs) d a1 (T := T) (K := fun r => r = lp_Things_askAll_2 a1 mm_N (0 : Int32) s) (fun r hr => by subst hr; exact h2) mm_N (0 : Int32) s h1 rfl) (fun h1 h2 => ?_)
  revert h1 h2
  refine w_go K 0 (c' := (27, [some (.ref 12), some (.int a1), some (.ref 1), some (.int ((lp_Things_askAll_2 a1 mm_N (0 : Int32) s).1))], [], mT ((lp_Things_askAll_2 a1 mm_N (0 : Int32) s).2))) rfl ?_
  exact w_ret K rfl (hK _)
theorem m_Things_askAll {len : Nat} {xs : Nat → Int32} (d : Nat) (a1 : Int32) (s : mS) : ok_Things_askAll a1 s → mm_call (mm_X len xs) mm_Y (d + 5) 43 [.ref 12, .int a1, .ref 1] (mT s) = some (none, mT (f_Things_askAll a1 s)) := fun h => t_Things_askAll (len := len) (xs := xs) d a1 s (fun t => (some (none, mT t) : Option mm_R) = some (none, mT (f_Things_askAll a1 s))) (fun _ h => h) h rfl
def lp_Improvements_priceOf_4 (a1 : Int32) (s : mS) : Nat → Int32 → Int32 → Int32 × Int32
  | 0, v2, v3 => (v2, v3)
  | n + 1, v2, v3 => (if (gI s 111 4) ≤ v3 then (v2, v3) else (if (8 : Int32) ≤ v3 then (v2, v3) else (if ((a1 >>> (v3 &&& 31)) &&& 1) = 1 then (lp_Improvements_priceOf_4 a1 s n (v2 + (gI s 114 (ix v3))) (v3 + 1)) else (lp_Improvements_priceOf_4 a1 s n v2 (v3 + 1)))))
def okl_Improvements_priceOf_4 (a1 : Int32) (s : mS) : Nat → Int32 → Int32 → Prop
  | 0, v2, v3 => False
  | n + 1, v2, v3 => (if (gI s 111 4) ≤ v3 then True else (if (8 : Int32) ≤ v3 then True else (if ((a1 >>> (v3 &&& 31)) &&& 1) = 1 then (mm_inb v3 8 = true ∧ (okl_Improvements_priceOf_4 a1 s n (v2 + (gI s 114 (ix v3))) (v3 + 1))) else (okl_Improvements_priceOf_4 a1 s n v2 (v3 + 1)))))
theorem tl_Improvements_priceOf_4 {len : Nat} {xs : Nat → Int32} (d : Nat) (a1 : Int32) (s : mS) {T : Option mm_R} (K : Int32 × Int32 → Prop) (hX : ∀ r, K r → mm_fix (mm_X len xs) mm_Y (mm_call (mm_X len xs) mm_Y (d + 0)) (mm_look mc_Improvements_priceOf) (42, [some (.ref 111), some (.int a1), some (.int r.1), some (.int r.2)], [], mT s) = T) : ∀ (n : Nat), ∀ (v2 : Int32) (v3 : Int32), okl_Improvements_priceOf_4 a1 s n v2 v3 → K (lp_Improvements_priceOf_4 a1 s n v2 v3) → mm_fix (mm_X len xs) mm_Y (mm_call (mm_X len xs) mm_Y (d + 0)) (mm_look mc_Improvements_priceOf) (4, [some (.ref 111), some (.int a1), some (.int v2), some (.int v3)], [], mT s) = T := by
  intro n
  induction n with
  | zero => intro v2 v3; exact fun h => h.elim
  | succ n ih =>
    intro v2 v3
    rw [okl_Improvements_priceOf_4, lp_Improvements_priceOf_4]
    refine w_go K 3 (c' := (9, [some (.ref 111), some (.int a1), some (.int v2), some (.int v3)], [.int (gI s 111 4), .int v3], mT s)) rfl ?_
    refine w_br K rfl (fun _ => ?_) (fun _ => ?_)
    · refine w_go K 0 (c' := (42, [some (.ref 111), some (.int a1), some (.int v2), some (.int v3)], [], mT s)) rfl ?_
      exact fun _ b => hX _ b
    · refine w_go K 2 (c' := (15, [some (.ref 111), some (.int a1), some (.int v2), some (.int v3)], [.int 8, .int v3], mT s)) rfl ?_
      refine w_br K rfl (fun _ => ?_) (fun _ => ?_)
      · refine w_go K 0 (c' := (42, [some (.ref 111), some (.int a1), some (.int v2), some (.int v3)], [], mT s)) rfl ?_
        exact fun _ b => hX _ b
      · refine w_go K 6 (c' := (24, [some (.ref 111), some (.int a1), some (.int v2), some (.int v3)], [.int 1, .int ((a1 >>> (v3 &&& 31)) &&& 1)], mT s)) rfl ?_
        refine w_br K rfl (fun _ => ?_) (fun _ => ?_)
        · refine w_go K 4 (c' := (33, [some (.ref 111), some (.int a1), some (.int v2), some (.int v3)], [.int v3, .ref 114, .int v2], mT s)) rfl ?_
          refine w_ck K rfl ?_
          refine w_go K 4 (c' := (4, [some (.ref 111), some (.int a1), some (.int (v2 + (gI s 114 (ix v3)))), some (.int (v3 + 1))], [], mT s)) rfl ?_
          exact fun a b => ih (v2 + (gI s 114 (ix v3))) (v3 + 1) a b
        · refine w_go K 2 (c' := (4, [some (.ref 111), some (.int a1), some (.int v2), some (.int (v3 + 1))], [], mT s)) rfl ?_
          exact fun a b => ih v2 (v3 + 1) a b
def f_Improvements_priceOf (a1 : Int32) (s : mS) : Int32 := (lp_Improvements_priceOf_4 a1 s mm_N (0 : Int32) (0 : Int32)).1
def ok_Improvements_priceOf (a1 : Int32) (s : mS) : Prop := (okl_Improvements_priceOf_4 a1 s mm_N (0 : Int32) (0 : Int32) ∧ True)
theorem t_Improvements_priceOf {len : Nat} {xs : Nat → Int32} (d : Nat) (a1 : Int32) (s : mS) {T : Option mm_R} (K : Int32 → Prop) (hK : ∀ t, K t → some (some (.int t), mT s) = T) : ok_Improvements_priceOf a1 s → K (f_Improvements_priceOf a1 s) → mm_fix (mm_X len xs) mm_Y (mm_call (mm_X len xs) mm_Y (d + 0)) (mm_look mc_Improvements_priceOf) (0, [some (.ref 111), some (.int a1), none, none], [], mT s) = T := by
  unfold ok_Improvements_priceOf f_Improvements_priceOf
  refine w_go K 4 (c' := (4, [some (.ref 111), some (.int a1), some (.int 0), some (.int 0)], [], mT s)) rfl ?_
  refine w_loop K (D := mm_fix (mm_X len xs) mm_Y (mm_call (mm_X len xs) mm_Y (d + 0)) (mm_look mc_Improvements_priceOf) (42, [some (.ref 111), some (.int a1), some (.int ((lp_Improvements_priceOf_4 a1 s mm_N (0 : Int32) (0 : Int32)).1)), some (.int ((lp_Improvements_priceOf_4 a1 s mm_N (0 : Int32) (0 : Int32)).2))], [], mT s) = T) (fun h1 h2 => tl_Improvements_priceOf_4 (len := len) (xs := xs) d a1 s (T := T) (K := fun r => r = lp_Improvements_priceOf_4 a1 s mm_N (0 : Int32) (0 : Int32)) (fun r hr => by subst hr; exact h2) mm_N (0 : Int32) (0 : Int32) h1 rfl) (fun h1 h2 => ?_)
  revert h1 h2
  refine w_go K 1 (c' := (43, [some (.ref 111), some (.int a1), some (.int ((lp_Improvements_priceOf_4 a1 s mm_N (0 : Int32) (0 : Int32)).1)), some (.int ((lp_Improvements_priceOf_4 a1 s mm_N (0 : Int32) (0 : Int32)).2))], [.int ((lp_Improvements_priceOf_4 a1 s mm_N (0 : Int32) (0 : Int32)).1)], mT s)) rfl ?_
  exact w_ret K rfl (hK _)
theorem m_Improvements_priceOf {len : Nat} {xs : Nat → Int32} (d : Nat) (a1 : Int32) (s : mS) : ok_Improvements_priceOf a1 s → mm_call (mm_X len xs) mm_Y (d + 1) 149 [.ref 111, .int a1] (mT s) = some (some (.int (f_Improvements_priceOf a1 s)), mT s) := fun h => t_Improvements_priceOf (len := len) (xs := xs) d a1 s (fun t => (some (some (.int t), mT s) : Option mm_R) = some (some (.int (f_Improvements_priceOf a1 s)), mT s)) (fun _ h => h) h rfl
def lp_Improvements_putIn_2 (a1 : Int32)  : Nat → Int32 → mS → Int32 × mS
  | 0, v3, s => (v3, s)
  | n + 1, v3, s => (if (16 : Int32) ≤ v3 then (v3, s) else (lp_Improvements_putIn_2 a1 n (v3 + 1) (sI s 115 (ix v3) (gI s 27 (ix v3)))))
def okl_Improvements_putIn_2 (a1 : Int32)  : Nat → Int32 → mS → Prop
  | 0, v3, s => False
  | n + 1, v3, s => (if (16 : Int32) ≤ v3 then True else (mm_inb v3 16 = true ∧ (mm_inb v3 16 = true ∧ (okl_Improvements_putIn_2 a1 n (v3 + 1) (sI s 115 (ix v3) (gI s 27 (ix v3)))))))
theorem tl_Improvements_putIn_2 {len : Nat} {xs : Nat → Int32} (d : Nat) (a1 : Int32)  {T : Option mm_R} (K : Int32 × mS → Prop) (hX : ∀ r, K r → ∀ (o4 : Option Value), mm_fix (mm_X len xs) mm_Y (mm_call (mm_X len xs) mm_Y (d + 0)) (mm_look mc_Improvements_putIn) (26, [some (.ref 111), some (.int a1), some (.ref 25), some (.int r.1), o4], [], mT r.2) = T) : ∀ (n : Nat), ∀ (v3 : Int32) (o4 : Option Value) (s : mS), okl_Improvements_putIn_2 a1 n v3 s → K (lp_Improvements_putIn_2 a1 n v3 s) → mm_fix (mm_X len xs) mm_Y (mm_call (mm_X len xs) mm_Y (d + 0)) (mm_look mc_Improvements_putIn) (2, [some (.ref 111), some (.int a1), some (.ref 25), some (.int v3), o4], [], mT s) = T := by
  intro n
  induction n with
  | zero => intro v3 o4 s; exact fun h => h.elim
  | succ n ih =>
    intro v3 o4 s
    rw [okl_Improvements_putIn_2, lp_Improvements_putIn_2]
    refine w_go K 2 (c' := (5, [some (.ref 111), some (.int a1), some (.ref 25), some (.int v3), o4], [.int 16, .int v3], mT s)) rfl ?_
    refine w_br K rfl (fun _ => ?_) (fun _ => ?_)
    · refine w_go K 0 (c' := (26, [some (.ref 111), some (.int a1), some (.ref 25), some (.int v3), o4], [], mT s)) rfl ?_
      exact fun _ b => hX _ b _
    · refine w_go K 6 (c' := (18, [some (.ref 111), some (.int a1), some (.ref 25), some (.int v3), o4], [.int v3, .ref 27, .int v3, .ref 115], mT s)) rfl ?_
      refine w_ck K rfl ?_
      refine w_go K 0 (c' := (19, [some (.ref 111), some (.int a1), some (.ref 25), some (.int v3), o4], [.int (gI s 27 (ix v3)), .int v3, .ref 115], mT s)) rfl ?_
      refine w_ck K rfl ?_
      refine w_go K 2 (c' := (2, [some (.ref 111), some (.int a1), some (.ref 25), some (.int (v3 + 1)), o4], [], mT (sI s 115 (ix v3) (gI s 27 (ix v3))))) rfl ?_
      exact fun a b => ih (v3 + 1) _ (sI s 115 (ix v3) (gI s 27 (ix v3))) a b
def lp_Improvements_putIn_28 (a1 : Int32)  : Nat → Int32 → mS → Int32 × mS
  | 0, v3, s => (v3, s)
  | n + 1, v3, s => (if (gI s 111 4) ≤ v3 then (v3, s) else (if (8 : Int32) ≤ v3 then (v3, s) else (if ((a1 >>> (v3 &&& 31)) &&& 1) = 1 then (if (gI s 112 (ix v3)) ≤ 0 then (lp_Improvements_putIn_28 a1 n (v3 + 1) s) else (if (16 : Int32) ≤ (gI s 112 (ix v3)) then (lp_Improvements_putIn_28 a1 n (v3 + 1) s) else (lp_Improvements_putIn_28 a1 n (v3 + 1) (sI s 115 (ix (gI s 112 (ix v3))) (gI s 113 (ix v3)))))) else (lp_Improvements_putIn_28 a1 n (v3 + 1) s))))
def okl_Improvements_putIn_28 (a1 : Int32)  : Nat → Int32 → mS → Prop
  | 0, v3, s => False
  | n + 1, v3, s => (if (gI s 111 4) ≤ v3 then True else (if (8 : Int32) ≤ v3 then True else (mm_inb v3 8 = true ∧ (if ((a1 >>> (v3 &&& 31)) &&& 1) = 1 then (if (gI s 112 (ix v3)) ≤ 0 then (okl_Improvements_putIn_28 a1 n (v3 + 1) s) else (if (16 : Int32) ≤ (gI s 112 (ix v3)) then (okl_Improvements_putIn_28 a1 n (v3 + 1) s) else (mm_inb v3 8 = true ∧ (mm_inb (gI s 112 (ix v3)) 16 = true ∧ (okl_Improvements_putIn_28 a1 n (v3 + 1) (sI s 115 (ix (gI s 112 (ix v3))) (gI s 113 (ix v3)))))))) else (okl_Improvements_putIn_28 a1 n (v3 + 1) s)))))
theorem tl_Improvements_putIn_28 {len : Nat} {xs : Nat → Int32} (d : Nat) (a1 : Int32)  {T : Option mm_R} (K : Int32 × mS → Prop) (hX : ∀ r, K r → ∀ (o2 : Option Value) (o4 : Option Value), mm_fix (mm_X len xs) mm_Y (mm_call (mm_X len xs) mm_Y (d + 0)) (mm_look mc_Improvements_putIn) (90, [some (.ref 111), some (.int a1), o2, some (.int r.1), o4], [], mT r.2) = T) : ∀ (n : Nat), ∀ (v3 : Int32) (o2 : Option Value) (o4 : Option Value) (s : mS), okl_Improvements_putIn_28 a1 n v3 s → K (lp_Improvements_putIn_28 a1 n v3 s) → mm_fix (mm_X len xs) mm_Y (mm_call (mm_X len xs) mm_Y (d + 0)) (mm_look mc_Improvements_putIn) (28, [some (.ref 111), some (.int a1), o2, some (.int v3), o4], [], mT s) = T := by
  intro n
  induction n with
  | zero => intro v3 o2 o4 s; exact fun h => h.elim
  | succ n ih =>
    intro v3 o2 o4 s
    rw [okl_Improvements_putIn_28, lp_Improvements_putIn_28]
    refine w_go K 3 (c' := (33, [some (.ref 111), some (.int a1), o2, some (.int v3), o4], [.int (gI s 111 4), .int v3], mT s)) rfl ?_
    refine w_br K rfl (fun _ => ?_) (fun _ => ?_)
    · refine w_go K 0 (c' := (90, [some (.ref 111), some (.int a1), o2, some (.int v3), o4], [], mT s)) rfl ?_
      exact fun _ b => hX _ b _ _
    · refine w_go K 2 (c' := (39, [some (.ref 111), some (.int a1), o2, some (.int v3), o4], [.int 8, .int v3], mT s)) rfl ?_
      refine w_br K rfl (fun _ => ?_) (fun _ => ?_)
      · refine w_go K 0 (c' := (90, [some (.ref 111), some (.int a1), o2, some (.int v3), o4], [], mT s)) rfl ?_
        exact fun _ b => hX _ b _ _
      · refine w_go K 3 (c' := (47, [some (.ref 111), some (.int a1), o2, some (.int v3), o4], [.int v3, .ref 112], mT s)) rfl ?_
        refine w_ck K rfl ?_
        refine w_go K 7 (c' := (56, [some (.ref 111), some (.int a1), o2, some (.int v3), some (.int (gI s 112 (ix v3)))], [.int 1, .int ((a1 >>> (v3 &&& 31)) &&& 1)], mT s)) rfl ?_
        refine w_br K rfl (fun _ => ?_) (fun _ => ?_)
        · refine w_go K 1 (c' := (61, [some (.ref 111), some (.int a1), o2, some (.int v3), some (.int (gI s 112 (ix v3)))], [.int (gI s 112 (ix v3))], mT s)) rfl ?_
          refine w_br K rfl (fun _ => ?_) (fun _ => ?_)
          · refine w_go K 2 (c' := (28, [some (.ref 111), some (.int a1), (mm_cut o2 0), some (.int (v3 + 1)), some (.int (gI s 112 (ix v3)))], [], mT s)) rfl ?_
            exact fun a b => ih (v3 + 1) _ _ s a b
          · refine w_go K 2 (c' := (68, [some (.ref 111), some (.int a1), o2, some (.int v3), some (.int (gI s 112 (ix v3)))], [.int 16, .int (gI s 112 (ix v3))], mT s)) rfl ?_
            refine w_br K rfl (fun _ => ?_) (fun _ => ?_)
            · refine w_go K 2 (c' := (28, [some (.ref 111), some (.int a1), (mm_cut o2 0), some (.int (v3 + 1)), some (.int (gI s 112 (ix v3)))], [], mT s)) rfl ?_
              exact fun a b => ih (v3 + 1) _ _ s a b
            · refine w_go K 6 (c' := (82, [some (.ref 111), some (.int a1), o2, some (.int v3), some (.int (gI s 112 (ix v3)))], [.int v3, .ref 113, .int (gI s 112 (ix v3)), .ref 115], mT s)) rfl ?_
              refine w_ck K rfl ?_
              refine w_go K 0 (c' := (83, [some (.ref 111), some (.int a1), o2, some (.int v3), some (.int (gI s 112 (ix v3)))], [.int (gI s 113 (ix v3)), .int (gI s 112 (ix v3)), .ref 115], mT s)) rfl ?_
              refine w_ck K rfl ?_
              refine w_go K 2 (c' := (28, [some (.ref 111), some (.int a1), (mm_cut o2 0), some (.int (v3 + 1)), some (.int (gI s 112 (ix v3)))], [], mT (sI s 115 (ix (gI s 112 (ix v3))) (gI s 113 (ix v3))))) rfl ?_
              exact fun a b => ih (v3 + 1) _ _ (sI s 115 (ix (gI s 112 (ix v3))) (gI s 113 (ix v3))) a b
        · refine w_go K 2 (c' := (28, [some (.ref 111), some (.int a1), (mm_cut o2 0), some (.int (v3 + 1)), some (.int (gI s 112 (ix v3)))], [], mT s)) rfl ?_
          exact fun a b => ih (v3 + 1) _ _ s a b
def f_Improvements_putIn (a1 : Int32) (s : mS) : mS := (lp_Improvements_putIn_28 a1 mm_N (0 : Int32) ((lp_Improvements_putIn_2 a1 mm_N (0 : Int32) s).2)).2
def ok_Improvements_putIn (a1 : Int32) (s : mS) : Prop := (okl_Improvements_putIn_2 a1 mm_N (0 : Int32) s ∧ (okl_Improvements_putIn_28 a1 mm_N (0 : Int32) ((lp_Improvements_putIn_2 a1 mm_N (0 : Int32) s).2) ∧ True))
theorem t_Improvements_putIn {len : Nat} {xs : Nat → Int32} (d : Nat) (a1 : Int32) (s : mS) {T : Option mm_R} (K : mS → Prop) (hK : ∀ t, K t → some (none, mT t) = T) : ok_Improvements_putIn a1 s → K (f_Improvements_putIn a1 s) → mm_fix (mm_X len xs) mm_Y (mm_call (mm_X len xs) mm_Y (d + 0)) (mm_look mc_Improvements_putIn) (0, [some (.ref 111), some (.int a1), some (.ref 25), none, none], [], mT s) = T := by
  unfold ok_Improvements_putIn f_Improvements_putIn
  refine w_go K 2 (c' := (2, [some (.ref 111), some (.int a1), some (.ref 25), some (.int 0), none], [], mT s)) rfl ?_
  refine w_loop K (D := ∀ (q1 : Option Value), mm_fix (mm_X len xs) mm_Y (mm_call (mm_X len xs) mm_Y (d + 0)) (mm_look mc_Improvements_putIn) (26, [some (.ref 111), some (.int a1), some (.ref 25), some (.int ((lp_Improvements_putIn_2 a1 mm_N (0 : Int32) s).1)), q1], [], mT ((lp_Improvements_putIn_2 a1 mm_N (0 : Int32) s).2)) = T) (fun h1 h2 => tl_Improvements_putIn_2 (len := len) (xs := xs) d a1 (T := T) (K := fun r => r = lp_Improvements_putIn_2 a1 mm_N (0 : Int32) s) (fun r hr => by subst hr; exact h2) mm_N (0 : Int32) _ s h1 rfl) (fun h1 h2 q1 => ?_)
  revert h1 h2
  refine w_go K 2 (c' := (28, [some (.ref 111), some (.int a1), some (.ref 25), some (.int 0), q1], [], mT ((lp_Improvements_putIn_2 a1 mm_N (0 : Int32) s).2))) rfl ?_
  refine w_loop K (D := ∀ (q2 : Option Value) (q3 : Option Value), mm_fix (mm_X len xs) mm_Y (mm_call (mm_X len xs) mm_Y (d + 0)) (mm_look mc_Improvements_putIn) (90, [some (.ref 111), some (.int a1), q2, some (.int ((lp_Improvements_putIn_28 a1 mm_N (0 : Int32) ((lp_Improvements_putIn_2 a1 mm_N (0 : Int32) s).2)).1)), q3], [], mT ((lp_Improvements_putIn_28 a1 mm_N (0 : Int32) ((lp_Improvements_putIn_2 a1 mm_N (0 : Int32) s).2)).2)) = T) (fun h1 h2 => tl_Improvements_putIn_28 (len := len) (xs := xs) d a1 (T := T) (K := fun r => r = lp_Improvements_putIn_28 a1 mm_N (0 : Int32) ((lp_Improvements_putIn_2 a1 mm_N (0 : Int32) s).2)) (fun r hr => by subst hr; exact h2) mm_N (0 : Int32) _ _ ((lp_Improvements_putIn_2 a1 mm_N (0 : Int32) s).2) h1 rfl) (fun h1 h2 q2 q3 => ?_)
  revert h1 h2
  refine w_go K 0 (c' := (90, [some (.ref 111), some (.int a1), q2, some (.int ((lp_Improvements_putIn_28 a1 mm_N (0 : Int32) ((lp_Improvements_putIn_2 a1 mm_N (0 : Int32) s).2)).1)), q3], [], mT ((lp_Improvements_putIn_28 a1 mm_N (0 : Int32) ((lp_Improvements_putIn_2 a1 mm_N (0 : Int32) s).2)).2))) rfl ?_
  exact w_ret K rfl (hK _)
theorem m_Improvements_putIn {len : Nat} {xs : Nat → Int32} (d : Nat) (a1 : Int32) (s : mS) : ok_Improvements_putIn a1 s → mm_call (mm_X len xs) mm_Y (d + 1) 150 [.ref 111, .int a1, .ref 25] (mT s) = some (none, mT (f_Improvements_putIn a1 s)) := fun h => t_Improvements_putIn (len := len) (xs := xs) d a1 s (fun t => (some (none, mT t) : Option mm_R) = some (none, mT (f_Improvements_putIn a1 s))) (fun _ h => h) h rfl
def lp_Things_takeWants_2   : Nat → Int32 → mS → Int32 × mS
  | 0, v1, s => (v1, s)
  | n + 1, v1, s => (if (40 : Int32) ≤ v1 then (v1, s) else (lp_Things_takeWants_2 n (v1 + 1) (sI s 24 (ix v1) (gI s 23 (ix v1)))))
def okl_Things_takeWants_2   : Nat → Int32 → mS → Prop
  | 0, v1, s => False
  | n + 1, v1, s => (if (40 : Int32) ≤ v1 then True else (mm_inb v1 40 = true ∧ (mm_inb v1 40 = true ∧ (okl_Things_takeWants_2 n (v1 + 1) (sI s 24 (ix v1) (gI s 23 (ix v1)))))))
theorem tl_Things_takeWants_2 {len : Nat} {xs : Nat → Int32} (d : Nat)   {T : Option mm_R} (K : Int32 × mS → Prop) (hX : ∀ r, K r → mm_fix (mm_X len xs) mm_Y (mm_call (mm_X len xs) mm_Y (d + 0)) (mm_look mc_Things_takeWants) (26, [some (.ref 12), some (.int r.1)], [], mT r.2) = T) : ∀ (n : Nat), ∀ (v1 : Int32) (s : mS), okl_Things_takeWants_2 n v1 s → K (lp_Things_takeWants_2 n v1 s) → mm_fix (mm_X len xs) mm_Y (mm_call (mm_X len xs) mm_Y (d + 0)) (mm_look mc_Things_takeWants) (2, [some (.ref 12), some (.int v1)], [], mT s) = T := by
  intro n
  induction n with
  | zero => intro v1 s; exact fun h => h.elim
  | succ n ih =>
    intro v1 s
    rw [okl_Things_takeWants_2, lp_Things_takeWants_2]
    refine w_go K 2 (c' := (5, [some (.ref 12), some (.int v1)], [.int 40, .int v1], mT s)) rfl ?_
    refine w_br K rfl (fun _ => ?_) (fun _ => ?_)
    · refine w_go K 0 (c' := (26, [some (.ref 12), some (.int v1)], [], mT s)) rfl ?_
      exact fun _ b => hX _ b
    · refine w_go K 6 (c' := (18, [some (.ref 12), some (.int v1)], [.int v1, .ref 23, .int v1, .ref 24], mT s)) rfl ?_
      refine w_ck K rfl ?_
      refine w_go K 0 (c' := (19, [some (.ref 12), some (.int v1)], [.int (gI s 23 (ix v1)), .int v1, .ref 24], mT s)) rfl ?_
      refine w_ck K rfl ?_
      refine w_go K 2 (c' := (2, [some (.ref 12), some (.int (v1 + 1))], [], mT (sI s 24 (ix v1) (gI s 23 (ix v1))))) rfl ?_
      exact fun a b => ih (v1 + 1) (sI s 24 (ix v1) (gI s 23 (ix v1))) a b
def f_Things_takeWants (s : mS) : mS := (lp_Things_takeWants_2 mm_N (0 : Int32) s).2
def ok_Things_takeWants (s : mS) : Prop := (okl_Things_takeWants_2 mm_N (0 : Int32) s ∧ True)
theorem t_Things_takeWants {len : Nat} {xs : Nat → Int32} (d : Nat) (s : mS) {T : Option mm_R} (K : mS → Prop) (hK : ∀ t, K t → some (none, mT t) = T) : ok_Things_takeWants s → K (f_Things_takeWants s) → mm_fix (mm_X len xs) mm_Y (mm_call (mm_X len xs) mm_Y (d + 0)) (mm_look mc_Things_takeWants) (0, [some (.ref 12), none], [], mT s) = T := by
  unfold ok_Things_takeWants f_Things_takeWants
  refine w_go K 2 (c' := (2, [some (.ref 12), some (.int 0)], [], mT s)) rfl ?_
  refine w_loop K (D := mm_fix (mm_X len xs) mm_Y (mm_call (mm_X len xs) mm_Y (d + 0)) (mm_look mc_Things_takeWants) (26, [some (.ref 12), some (.int ((lp_Things_takeWants_2 mm_N (0 : Int32) s).1))], [], mT ((lp_Things_takeWants_2 mm_N (0 : Int32) s).2)) = T) (fun h1 h2 => tl_Things_takeWants_2 (len := len) (xs := xs) d (T := T) (K := fun r => r = lp_Things_takeWants_2 mm_N (0 : Int32) s) (fun r hr => by subst hr; exact h2) mm_N (0 : Int32) s h1 rfl) (fun h1 h2 => ?_)
  revert h1 h2
  refine w_go K 0 (c' := (26, [some (.ref 12), some (.int ((lp_Things_takeWants_2 mm_N (0 : Int32) s).1))], [], mT ((lp_Things_takeWants_2 mm_N (0 : Int32) s).2))) rfl ?_
  exact w_ret K rfl (hK _)
theorem m_Things_takeWants {len : Nat} {xs : Nat → Int32} (d : Nat) (s : mS) : ok_Things_takeWants s → mm_call (mm_X len xs) mm_Y (d + 1) 52 [.ref 12] (mT s) = some (none, mT (f_Things_takeWants s)) := fun h => t_Things_takeWants (len := len) (xs := xs) d s (fun t => (some (none, mT t) : Option mm_R) = some (none, mT (f_Things_takeWants s))) (fun _ h => h) h rfl
def lp_Net_gatherFlow_2   : Nat → Int32 → mS → Int32 × mS
  | 0, v2, s => (v2, s)
  | n + 1, v2, s => (if (16 : Int32) ≤ v2 then (v2, s) else (lp_Net_gatherFlow_2 n (v2 + 1) (sI s 31 (ix v2) 0)))
def okl_Net_gatherFlow_2   : Nat → Int32 → mS → Prop
  | 0, v2, s => False
  | n + 1, v2, s => (if (16 : Int32) ≤ v2 then True else (mm_inb v2 16 = true ∧ (okl_Net_gatherFlow_2 n (v2 + 1) (sI s 31 (ix v2) 0))))
theorem tl_Net_gatherFlow_2 {len : Nat} {xs : Nat → Int32} (d : Nat)   {T : Option mm_R} (K : Int32 × mS → Prop) (hX : ∀ r, K r → ∀ (o3 : Option Value), mm_fix (mm_X len xs) mm_Y (mm_call (mm_X len xs) mm_Y (d + 1)) (mm_look mc_Net_gatherFlow) (21, [some (.ref 25), some (.ref 12), some (.int r.1), o3], [], mT r.2) = T) : ∀ (n : Nat), ∀ (v2 : Int32) (o3 : Option Value) (s : mS), okl_Net_gatherFlow_2 n v2 s → K (lp_Net_gatherFlow_2 n v2 s) → mm_fix (mm_X len xs) mm_Y (mm_call (mm_X len xs) mm_Y (d + 1)) (mm_look mc_Net_gatherFlow) (2, [some (.ref 25), some (.ref 12), some (.int v2), o3], [], mT s) = T := by
  intro n
  induction n with
  | zero => intro v2 o3 s; exact fun h => h.elim
  | succ n ih =>
    intro v2 o3 s
    rw [okl_Net_gatherFlow_2, lp_Net_gatherFlow_2]
    refine w_go K 2 (c' := (5, [some (.ref 25), some (.ref 12), some (.int v2), o3], [.int 16, .int v2], mT s)) rfl ?_
    refine w_br K rfl (fun _ => ?_) (fun _ => ?_)
    · refine w_go K 0 (c' := (21, [some (.ref 25), some (.ref 12), some (.int v2), o3], [], mT s)) rfl ?_
      exact fun _ b => hX _ b _
    · refine w_go K 4 (c' := (14, [some (.ref 25), some (.ref 12), some (.int v2), o3], [.int 0, .int v2, .ref 31], mT s)) rfl ?_
      refine w_ck K rfl ?_
      refine w_go K 2 (c' := (2, [some (.ref 25), some (.ref 12), some (.int (v2 + 1)), o3], [], mT (sI s 31 (ix v2) 0))) rfl ?_
      exact fun a b => ih (v2 + 1) _ (sI s 31 (ix v2) 0) a b
def lp_Net_gatherFlow_23   : Nat → Int32 → mS → Int32 × mS
  | 0, v2, s => (v2, s)
  | n + 1, v2, s => (if (gI s 12 12) ≤ v2 then (v2, s) else (if (40 : Int32) ≤ v2 then (v2, s) else (if (f_Net_has (gI s 13 (ix v2)) s) = 0 then (lp_Net_gatherFlow_23 n (v2 + 1) s) else (lp_Net_gatherFlow_23 n (v2 + 1) (sI s 31 (ix (gI s 13 (ix v2))) ((gI s 31 (ix (gI s 13 (ix v2)))) + (gI s 24 (ix v2))))))))
def okl_Net_gatherFlow_23   : Nat → Int32 → mS → Prop
  | 0, v2, s => False
  | n + 1, v2, s => (if (gI s 12 12) ≤ v2 then True else (if (40 : Int32) ≤ v2 then True else (mm_inb v2 40 = true ∧ (if (f_Net_has (gI s 13 (ix v2)) s) = 0 then (okl_Net_gatherFlow_23 n (v2 + 1) s) else (mm_inb (gI s 13 (ix v2)) 16 = true ∧ (mm_inb v2 40 = true ∧ (mm_inb (gI s 13 (ix v2)) 16 = true ∧ (okl_Net_gatherFlow_23 n (v2 + 1) (sI s 31 (ix (gI s 13 (ix v2))) ((gI s 31 (ix (gI s 13 (ix v2)))) + (gI s 24 (ix v2))))))))))))
theorem tl_Net_gatherFlow_23 {len : Nat} {xs : Nat → Int32} (d : Nat)   {T : Option mm_R} (K : Int32 × mS → Prop) (hX : ∀ r, K r → ∀ (o3 : Option Value), mm_fix (mm_X len xs) mm_Y (mm_call (mm_X len xs) mm_Y (d + 1)) (mm_look mc_Net_gatherFlow) (73, [some (.ref 25), some (.ref 12), some (.int r.1), o3], [], mT r.2) = T) : ∀ (n : Nat), ∀ (v2 : Int32) (o3 : Option Value) (s : mS), okl_Net_gatherFlow_23 n v2 s → K (lp_Net_gatherFlow_23 n v2 s) → mm_fix (mm_X len xs) mm_Y (mm_call (mm_X len xs) mm_Y (d + 1)) (mm_look mc_Net_gatherFlow) (23, [some (.ref 25), some (.ref 12), some (.int v2), o3], [], mT s) = T := by
  intro n
  induction n with
  | zero => intro v2 o3 s; exact fun h => h.elim
  | succ n ih =>
    intro v2 o3 s
    rw [okl_Net_gatherFlow_23, lp_Net_gatherFlow_23]
    refine w_go K 3 (c' := (28, [some (.ref 25), some (.ref 12), some (.int v2), o3], [.int (gI s 12 12), .int v2], mT s)) rfl ?_
    refine w_br K rfl (fun _ => ?_) (fun _ => ?_)
    · refine w_go K 0 (c' := (73, [some (.ref 25), some (.ref 12), some (.int v2), o3], [], mT s)) rfl ?_
      exact fun _ b => hX _ b _
    · refine w_go K 2 (c' := (34, [some (.ref 25), some (.ref 12), some (.int v2), o3], [.int 40, .int v2], mT s)) rfl ?_
      refine w_br K rfl (fun _ => ?_) (fun _ => ?_)
      · refine w_go K 0 (c' := (73, [some (.ref 25), some (.ref 12), some (.int v2), o3], [], mT s)) rfl ?_
        exact fun _ b => hX _ b _
      · refine w_go K 3 (c' := (42, [some (.ref 25), some (.ref 12), some (.int v2), o3], [.int v2, .ref 13], mT s)) rfl ?_
        refine w_ck K rfl ?_
        refine w_go K 3 (c' := (46, [some (.ref 25), some (.ref 12), some (.int v2), some (.int (gI s 13 (ix v2)))], [.int (gI s 13 (ix v2)), .ref 25], mT s)) rfl ?_
        refine w_callT K rfl (m_Net_has (len := len) (xs := xs) (d + 0) (gI s 13 (ix v2)) s) ?_
        refine w_go K 0 (c' := (49, [some (.ref 25), some (.ref 12), some (.int v2), some (.int (gI s 13 (ix v2)))], [.int (f_Net_has (gI s 13 (ix v2)) s)], mT s)) rfl ?_
        refine w_br K rfl (fun _ => ?_) (fun _ => ?_)
        · refine w_go K 2 (c' := (23, [some (.ref 25), some (.ref 12), some (.int (v2 + 1)), some (.int (gI s 13 (ix v2)))], [], mT s)) rfl ?_
          exact fun a b => ih (v2 + 1) _ s a b
        · refine w_go K 4 (c' := (58, [some (.ref 25), some (.ref 12), some (.int v2), some (.int (gI s 13 (ix v2)))], [.int (gI s 13 (ix v2)), .ref 31, .int (gI s 13 (ix v2)), .ref 31], mT s)) rfl ?_
          refine w_ck K rfl ?_
          refine w_go K 3 (c' := (64, [some (.ref 25), some (.ref 12), some (.int v2), some (.int (gI s 13 (ix v2)))], [.int v2, .ref 24, .int (gI s 31 (ix (gI s 13 (ix v2)))), .int (gI s 13 (ix v2)), .ref 31], mT s)) rfl ?_
          refine w_ck K rfl ?_
          refine w_go K 1 (c' := (66, [some (.ref 25), some (.ref 12), some (.int v2), some (.int (gI s 13 (ix v2)))], [.int ((gI s 31 (ix (gI s 13 (ix v2)))) + (gI s 24 (ix v2))), .int (gI s 13 (ix v2)), .ref 31], mT s)) rfl ?_
          refine w_ck K rfl ?_
          refine w_go K 2 (c' := (23, [some (.ref 25), some (.ref 12), some (.int (v2 + 1)), some (.int (gI s 13 (ix v2)))], [], mT (sI s 31 (ix (gI s 13 (ix v2))) ((gI s 31 (ix (gI s 13 (ix v2)))) + (gI s 24 (ix v2)))))) rfl ?_
          exact fun a b => ih (v2 + 1) _ (sI s 31 (ix (gI s 13 (ix v2))) ((gI s 31 (ix (gI s 13 (ix v2)))) + (gI s 24 (ix v2)))) a b
def lp_Net_gatherFlow_76   : Nat → Int32 → mS → Int32 × mS
  | 0, v2, s => (v2, s)
  | n + 1, v2, s => (if v2 ≤ 0 then (v2, s) else (if (f_Net_has v2 s) = 0 then (lp_Net_gatherFlow_76 n (v2 + (-1)) s) else (if (f_Net_has (gI s 26 (ix v2)) s) = 0 then (lp_Net_gatherFlow_76 n (v2 + (-1)) s) else (lp_Net_gatherFlow_76 n (v2 + (-1)) (sI s 31 (ix (gI s 26 (ix v2))) ((gI s 31 (ix (gI s 26 (ix v2)))) + (gI s 31 (ix v2))))))))
def okl_Net_gatherFlow_76   : Nat → Int32 → mS → Prop
  | 0, v2, s => False
  | n + 1, v2, s => (if v2 ≤ 0 then True else (mm_inb v2 16 = true ∧ (if (f_Net_has v2 s) = 0 then (okl_Net_gatherFlow_76 n (v2 + (-1)) s) else (if (f_Net_has (gI s 26 (ix v2)) s) = 0 then (okl_Net_gatherFlow_76 n (v2 + (-1)) s) else (mm_inb (gI s 26 (ix v2)) 16 = true ∧ (mm_inb v2 16 = true ∧ (mm_inb (gI s 26 (ix v2)) 16 = true ∧ (okl_Net_gatherFlow_76 n (v2 + (-1)) (sI s 31 (ix (gI s 26 (ix v2))) ((gI s 31 (ix (gI s 26 (ix v2)))) + (gI s 31 (ix v2))))))))))))
theorem tl_Net_gatherFlow_76 {len : Nat} {xs : Nat → Int32} (d : Nat)   {T : Option mm_R} (K : Int32 × mS → Prop) (hX : ∀ r, K r → ∀ (o1 : Option Value) (o3 : Option Value), mm_fix (mm_X len xs) mm_Y (mm_call (mm_X len xs) mm_Y (d + 1)) (mm_look mc_Net_gatherFlow) (124, [some (.ref 25), o1, some (.int r.1), o3], [], mT r.2) = T) : ∀ (n : Nat), ∀ (v2 : Int32) (o1 : Option Value) (o3 : Option Value) (s : mS), okl_Net_gatherFlow_76 n v2 s → K (lp_Net_gatherFlow_76 n v2 s) → mm_fix (mm_X len xs) mm_Y (mm_call (mm_X len xs) mm_Y (d + 1)) (mm_look mc_Net_gatherFlow) (76, [some (.ref 25), o1, some (.int v2), o3], [], mT s) = T := by
  intro n
  induction n with
  | zero => intro v2 o1 o3 s; exact fun h => h.elim
  | succ n ih =>
    intro v2 o1 o3 s
    rw [okl_Net_gatherFlow_76, lp_Net_gatherFlow_76]
    refine w_go K 1 (c' := (77, [some (.ref 25), o1, some (.int v2), o3], [.int v2], mT s)) rfl ?_
    refine w_br K rfl (fun _ => ?_) (fun _ => ?_)
    · refine w_go K 0 (c' := (124, [some (.ref 25), o1, some (.int v2), o3], [], mT s)) rfl ?_
      exact fun _ b => hX _ b _ _
    · refine w_go K 3 (c' := (85, [some (.ref 25), o1, some (.int v2), o3], [.int v2, .ref 26], mT s)) rfl ?_
      refine w_ck K rfl ?_
      refine w_go K 3 (c' := (89, [some (.ref 25), o1, some (.int v2), some (.int (gI s 26 (ix v2)))], [.int v2, .ref 25], mT s)) rfl ?_
      refine w_callT K rfl (m_Net_has (len := len) (xs := xs) (d + 0) v2 s) ?_
      refine w_go K 0 (c' := (92, [some (.ref 25), o1, some (.int v2), some (.int (gI s 26 (ix v2)))], [.int (f_Net_has v2 s)], mT s)) rfl ?_
      refine w_br K rfl (fun _ => ?_) (fun _ => ?_)
      · refine w_go K 2 (c' := (76, [some (.ref 25), (mm_cut o1 0), some (.int (v2 + (-1))), some (.int (gI s 26 (ix v2)))], [], mT s)) rfl ?_
        exact fun a b => ih (v2 + (-1)) _ _ s a b
      · refine w_go K 2 (c' := (97, [some (.ref 25), o1, some (.int v2), some (.int (gI s 26 (ix v2)))], [.int (gI s 26 (ix v2)), .ref 25], mT s)) rfl ?_
        refine w_callT K rfl (m_Net_has (len := len) (xs := xs) (d + 0) (gI s 26 (ix v2)) s) ?_
        refine w_go K 0 (c' := (100, [some (.ref 25), o1, some (.int v2), some (.int (gI s 26 (ix v2)))], [.int (f_Net_has (gI s 26 (ix v2)) s)], mT s)) rfl ?_
        refine w_br K rfl (fun _ => ?_) (fun _ => ?_)
        · refine w_go K 2 (c' := (76, [some (.ref 25), (mm_cut o1 0), some (.int (v2 + (-1))), some (.int (gI s 26 (ix v2)))], [], mT s)) rfl ?_
          exact fun a b => ih (v2 + (-1)) _ _ s a b
        · refine w_go K 4 (c' := (109, [some (.ref 25), o1, some (.int v2), some (.int (gI s 26 (ix v2)))], [.int (gI s 26 (ix v2)), .ref 31, .int (gI s 26 (ix v2)), .ref 31], mT s)) rfl ?_
          refine w_ck K rfl ?_
          refine w_go K 3 (c' := (115, [some (.ref 25), o1, some (.int v2), some (.int (gI s 26 (ix v2)))], [.int v2, .ref 31, .int (gI s 31 (ix (gI s 26 (ix v2)))), .int (gI s 26 (ix v2)), .ref 31], mT s)) rfl ?_
          refine w_ck K rfl ?_
          refine w_go K 1 (c' := (117, [some (.ref 25), o1, some (.int v2), some (.int (gI s 26 (ix v2)))], [.int ((gI s 31 (ix (gI s 26 (ix v2)))) + (gI s 31 (ix v2))), .int (gI s 26 (ix v2)), .ref 31], mT s)) rfl ?_
          refine w_ck K rfl ?_
          refine w_go K 2 (c' := (76, [some (.ref 25), (mm_cut o1 0), some (.int (v2 + (-1))), some (.int (gI s 26 (ix v2)))], [], mT (sI s 31 (ix (gI s 26 (ix v2))) ((gI s 31 (ix (gI s 26 (ix v2)))) + (gI s 31 (ix v2)))))) rfl ?_
          exact fun a b => ih (v2 + (-1)) _ _ (sI s 31 (ix (gI s 26 (ix v2))) ((gI s 31 (ix (gI s 26 (ix v2)))) + (gI s 31 (ix v2)))) a b
def f_Net_gatherFlow (s : mS) : mS := (lp_Net_gatherFlow_76 mm_N (15 : Int32) ((lp_Net_gatherFlow_23 mm_N (0 : Int32) ((lp_Net_gatherFlow_2 mm_N (0 : Int32) s).2)).2)).2
def ok_Net_gatherFlow (s : mS) : Prop := (okl_Net_gatherFlow_2 mm_N (0 : Int32) s ∧ (okl_Net_gatherFlow_23 mm_N (0 : Int32) ((lp_Net_gatherFlow_2 mm_N (0 : Int32) s).2) ∧ (okl_Net_gatherFlow_76 mm_N (15 : Int32) ((lp_Net_gatherFlow_23 mm_N (0 : Int32) ((lp_Net_gatherFlow_2 mm_N (0 : Int32) s).2)).2) ∧ True)))
theorem t_Net_gatherFlow {len : Nat} {xs : Nat → Int32} (d : Nat) (s : mS) {T : Option mm_R} (K : mS → Prop) (hK : ∀ t, K t → some (none, mT t) = T) : ok_Net_gatherFlow s → K (f_Net_gatherFlow s) → mm_fix (mm_X len xs) mm_Y (mm_call (mm_X len xs) mm_Y (d + 1)) (mm_look mc_Net_gatherFlow) (0, [some (.ref 25), some (.ref 12), none, none], [], mT s) = T := by
  unfold ok_Net_gatherFlow f_Net_gatherFlow
  refine w_go K 2 (c' := (2, [some (.ref 25), some (.ref 12), some (.int 0), none], [], mT s)) rfl ?_
  refine w_loop K (D := ∀ (q1 : Option Value), mm_fix (mm_X len xs) mm_Y (mm_call (mm_X len xs) mm_Y (d + 1)) (mm_look mc_Net_gatherFlow) (21, [some (.ref 25), some (.ref 12), some (.int ((lp_Net_gatherFlow_2 mm_N (0 : Int32) s).1)), q1], [], mT ((lp_Net_gatherFlow_2 mm_N (0 : Int32) s).2)) = T) (fun h1 h2 => tl_Net_gatherFlow_2 (len := len) (xs := xs) d (T := T) (K := fun r => r = lp_Net_gatherFlow_2 mm_N (0 : Int32) s) (fun r hr => by subst hr; exact h2) mm_N (0 : Int32) _ s h1 rfl) (fun h1 h2 q1 => ?_)
  revert h1 h2
  refine w_go K 2 (c' := (23, [some (.ref 25), some (.ref 12), some (.int 0), q1], [], mT ((lp_Net_gatherFlow_2 mm_N (0 : Int32) s).2))) rfl ?_
  refine w_loop K (D := ∀ (q2 : Option Value), mm_fix (mm_X len xs) mm_Y (mm_call (mm_X len xs) mm_Y (d + 1)) (mm_look mc_Net_gatherFlow) (73, [some (.ref 25), some (.ref 12), some (.int ((lp_Net_gatherFlow_23 mm_N (0 : Int32) ((lp_Net_gatherFlow_2 mm_N (0 : Int32) s).2)).1)), q2], [], mT ((lp_Net_gatherFlow_23 mm_N (0 : Int32) ((lp_Net_gatherFlow_2 mm_N (0 : Int32) s).2)).2)) = T) (fun h1 h2 => tl_Net_gatherFlow_23 (len := len) (xs := xs) d (T := T) (K := fun r => r = lp_Net_gatherFlow_23 mm_N (0 : Int32) ((lp_Net_gatherFlow_2 mm_N (0 : Int32) s).2)) (fun r hr => by subst hr; exact h2) mm_N (0 : Int32) _ ((lp_Net_gatherFlow_2 mm_N (0 : Int32) s).2) h1 rfl) (fun h1 h2 q2 => ?_)
  revert h1 h2
  refine w_go K 2 (c' := (76, [some (.ref 25), some (.ref 12), some (.int 15), q2], [], mT ((lp_Net_gatherFlow_23 mm_N (0 : Int32) ((lp_Net_gatherFlow_2 mm_N (0 : Int32) s).2)).2))) rfl ?_
  refine w_loop K (D := ∀ (q3 : Option Value) (q4 : Option Value), mm_fix (mm_X len xs) mm_Y (mm_call (mm_X len xs) mm_Y (d + 1)) (mm_look mc_Net_gatherFlow) (124, [some (.ref 25), q3, some (.int ((lp_Net_gatherFlow_76 mm_N (15 : Int32) ((lp_Net_gatherFlow_23 mm_N (0 : Int32) ((lp_Net_gatherFlow_2 mm_N (0 : Int32) s).2)).2)).1)), q4], [], mT ((lp_Net_gatherFlow_76 mm_N (15 : Int32) ((lp_Net_gatherFlow_23 mm_N (0 : Int32) ((lp_Net_gatherFlow_2 mm_N (0 : Int32) s).2)).2)).2)) = T) (fun h1 h2 => tl_Net_gatherFlow_76 (len := len) (xs := xs) d (T := T) (K := fun r => r = lp_Net_gatherFlow_76 mm_N (15 : Int32) ((lp_Net_gatherFlow_23 mm_N (0 : Int32) ((lp_Net_gatherFlow_2 mm_N (0 : Int32) s).2)).2)) (fun r hr => by subst hr; exact h2) mm_N (15 : Int32) _ _ ((lp_Net_gatherFlow_23 mm_N (0 : Int32) ((lp_Net_gatherFlow_2 mm_N (0 : Int32) s).2)).2) h1 rfl) (fun h1 h2 q3 q4 => ?_)
  revert h1 h2
  refine w_go K 0 (c' := (124, [some (.ref 25), q3, some (.int ((lp_Net_gatherFlow_76 mm_N (15 : Int32) ((lp_Net_gatherFlow_23 mm_N (0 : Int32) ((lp_Net_gatherFlow_2 mm_N (0 : Int32) s).2)).2)).1)), q4], [], mT ((lp_Net_gatherFlow_76 mm_N (15 : Int32) ((lp_Net_gatherFlow_23 mm_N (0 : Int32) ((lp_Net_gatherFlow_2 mm_N (0 : Int32) s).2)).2)).2))) rfl ?_
  exact w_ret K rfl (hK _)
theorem m_Net_gatherFlow {len : Nat} {xs : Nat → Int32} (d : Nat) (s : mS) : ok_Net_gatherFlow s → mm_call (mm_X len xs) mm_Y (d + 2) 53 [.ref 25, .ref 12] (mT s) = some (none, mT (f_Net_gatherFlow s)) := fun h => t_Net_gatherFlow (len := len) (xs := xs) d s (fun t => (some (none, mT t) : Option mm_R) = some (none, mT (f_Net_gatherFlow s))) (fun _ h => h) h rfl
def f_Net_pressureBehind (a1 : Int32) (a2 : Int32) (s : mS) : Int32 := (if (f_Net_hasPipe a1 s) = 0 then 0 else (if (gI s 29 (ix a1)) = 0 then (if (f_Net_has (gI s 26 (ix a1)) s) = 0 then 0 else (if (gI s 30 (ix (gI s 26 (ix a1)))) = 0 then 0 else (if (0 : Int32) < ((((gI s 30 (ix (gI s 26 (ix a1)))) - a2) + (gI s 28 (ix a1))) - (gI s 28 (ix (gI s 26 (ix a1))))) then ((((gI s 30 (ix (gI s 26 (ix a1)))) - a2) + (gI s 28 (ix a1))) - (gI s 28 (ix (gI s 26 (ix a1))))) else (0 : Int32)))) else 0))
def ok_Net_pressureBehind (a1 : Int32) (a2 : Int32) (s : mS) : Prop := (if (f_Net_hasPipe a1 s) = 0 then True else (mm_inb a1 16 = true ∧ (if (gI s 29 (ix a1)) = 0 then (mm_inb a1 16 = true ∧ (if (f_Net_has (gI s 26 (ix a1)) s) = 0 then True else (mm_inb a1 16 = true ∧ (mm_inb (gI s 26 (ix a1)) 16 = true ∧ (if (gI s 30 (ix (gI s 26 (ix a1)))) = 0 then True else (mm_inb (gI s 26 (ix a1)) 16 = true ∧ (mm_inb a1 16 = true ∧ (mm_inb (gI s 26 (ix a1)) 16 = true ∧ True)))))))) else True)))
theorem t_Net_pressureBehind {len : Nat} {xs : Nat → Int32} (d : Nat) (a1 : Int32) (a2 : Int32) (s : mS) {T : Option mm_R} (K : Int32 → Prop) (hK : ∀ t, K t → some (some (.int t), mT s) = T) : ok_Net_pressureBehind a1 a2 s → K (f_Net_pressureBehind a1 a2 s) → mm_fix (mm_X len xs) mm_Y (mm_call (mm_X len xs) mm_Y (d + 2)) (mm_look mc_Net_pressureBehind) (0, [some (.ref 25), some (.int a1), some (.int a2), none], [], mT s) = T := by
  unfold ok_Net_pressureBehind f_Net_pressureBehind
  refine w_go K 2 (c' := (2, [some (.ref 25), some (.int a1), some (.int a2), none], [.int a1, .ref 25], mT s)) rfl ?_
  refine w_callT K rfl (m_Net_hasPipe (len := len) (xs := xs) (d + 0) a1 s) ?_
  refine w_go K 0 (c' := (5, [some (.ref 25), some (.int a1), some (.int a2), none], [.int (f_Net_hasPipe a1 s)], mT s)) rfl ?_
  refine w_br K rfl (fun _ => ?_) (fun _ => ?_)
  · refine w_go K 1 (c' := (31, [some (.ref 25), some (.int a1), some (.int a2), none], [.int 0], mT s)) rfl ?_
    exact w_ret K rfl (hK _)
  · refine w_go K 3 (c' := (13, [some (.ref 25), some (.int a1), some (.int a2), none], [.int a1, .ref 29], mT s)) rfl ?_
    refine w_ck K rfl ?_
    refine w_go K 0 (c' := (14, [some (.ref 25), some (.int a1), some (.int a2), none], [.int (gI s 29 (ix a1))], mT s)) rfl ?_
    refine w_br K rfl (fun _ => ?_) (fun _ => ?_)
    · refine w_go K 4 (c' := (23, [some (.ref 25), some (.int a1), some (.int a2), none], [.int a1, .ref 26, .ref 25], mT s)) rfl ?_
      refine w_ck K rfl ?_
      refine w_go K 0 (c' := (24, [some (.ref 25), some (.int a1), some (.int a2), none], [.int (gI s 26 (ix a1)), .ref 25], mT s)) rfl ?_
      refine w_callT K rfl (m_Net_has (len := len) (xs := xs) (d + 1) (gI s 26 (ix a1)) s) ?_
      refine w_go K 0 (c' := (27, [some (.ref 25), some (.int a1), some (.int a2), none], [.int (f_Net_has (gI s 26 (ix a1)) s)], mT s)) rfl ?_
      refine w_br K rfl (fun _ => ?_) (fun _ => ?_)
      · refine w_go K 1 (c' := (31, [some (.ref 25), some (.int a1), some (.int a2), none], [.int 0], mT s)) rfl ?_
        exact w_ret K rfl (hK _)
      · refine w_go K 3 (c' := (37, [some (.ref 25), some (.int a1), some (.int a2), none], [.int a1, .ref 26], mT s)) rfl ?_
        refine w_ck K rfl ?_
        refine w_go K 4 (c' := (44, [some (.ref 25), some (.int a1), some (.int a2), some (.int (gI s 26 (ix a1)))], [.int (gI s 26 (ix a1)), .ref 30], mT s)) rfl ?_
        refine w_ck K rfl ?_
        refine w_go K 0 (c' := (45, [some (.ref 25), some (.int a1), some (.int a2), some (.int (gI s 26 (ix a1)))], [.int (gI s 30 (ix (gI s 26 (ix a1))))], mT s)) rfl ?_
        refine w_br K rfl (fun _ => ?_) (fun _ => ?_)
        · refine w_go K 1 (c' := (49, [some (.ref 25), some (.int a1), some (.int a2), some (.int (gI s 26 (ix a1)))], [.int 0], mT s)) rfl ?_
          exact w_ret K rfl (hK _)
        · refine w_go K 4 (c' := (56, [some (.ref 25), some (.int a1), some (.int a2), some (.int (gI s 26 (ix a1)))], [.int (gI s 26 (ix a1)), .ref 30, .int 0], mT s)) rfl ?_
          refine w_ck K rfl ?_
          refine w_go K 5 (c' := (64, [some (.ref 25), some (.int a1), some (.int a2), some (.int (gI s 26 (ix a1)))], [.int a1, .ref 28, .int ((gI s 30 (ix (gI s 26 (ix a1)))) - a2), .int 0], mT s)) rfl ?_
          refine w_ck K rfl ?_
          refine w_go K 4 (c' := (71, [some (.ref 25), some (.int a1), some (.int a2), some (.int (gI s 26 (ix a1)))], [.int (gI s 26 (ix a1)), .ref 28, .int (((gI s 30 (ix (gI s 26 (ix a1)))) - a2) + (gI s 28 (ix a1))), .int 0], mT s)) rfl ?_
          refine w_ck K rfl ?_
          refine w_go K 2 (c' := (76, [some (.ref 25), some (.int a1), some (.int a2), some (.int (gI s 26 (ix a1)))], [.int (if (0 : Int32) < ((((gI s 30 (ix (gI s 26 (ix a1)))) - a2) + (gI s 28 (ix a1))) - (gI s 28 (ix (gI s 26 (ix a1))))) then ((((gI s 30 (ix (gI s 26 (ix a1)))) - a2) + (gI s 28 (ix a1))) - (gI s 28 (ix (gI s 26 (ix a1))))) else (0 : Int32))], mT s)) rfl ?_
          exact w_ret K rfl (hK _)
    · refine w_go K 1 (c' := (31, [some (.ref 25), some (.int a1), some (.int a2), none], [.int 0], mT s)) rfl ?_
      exact w_ret K rfl (hK _)
theorem m_Net_pressureBehind {len : Nat} {xs : Nat → Int32} (d : Nat) (a1 : Int32) (a2 : Int32) (s : mS) : ok_Net_pressureBehind a1 a2 s → mm_call (mm_X len xs) mm_Y (d + 3) 55 [.ref 25, .int a1, .int a2] (mT s) = some (some (.int (f_Net_pressureBehind a1 a2 s)), mT s) := fun h => t_Net_pressureBehind (len := len) (xs := xs) d a1 a2 s (fun t => (some (some (.int t), mT s) : Option mm_R) = some (some (.int (f_Net_pressureBehind a1 a2 s)), mT s)) (fun _ h => h) h rfl
def lp_Net_press_115_31   : Nat → Int32 → Int32 → mS → Int32 × Int32 × mS
  | 0, v2, v3, s => (v2, v3, s)
  | n + 1, v2, v3, s => (if (gI s 25 10) ≤ v3 then (v2, v3, s) else (if (16 : Int32) ≤ v3 then (v2, v3, s) else (if (16 : Int32) ≤ v3 then (if v2 = 0 then (lp_Net_press_115_31 n (0 : Int32) (v3 + 1) (sI s 30 (ix v3) (f_Net_pressureBehind v3 (0 : Int32) s))) else (if (gI s 30 (ix v3)) = (f_Net_pressureBehind v3 (0 : Int32) s) then (lp_Net_press_115_31 n (1 : Int32) (v3 + 1) (sI s 30 (ix v3) (f_Net_pressureBehind v3 (0 : Int32) s))) else (lp_Net_press_115_31 n (0 : Int32) (v3 + 1) (sI s 30 (ix v3) (f_Net_pressureBehind v3 (0 : Int32) s))))) else (if v2 = 0 then (lp_Net_press_115_31 n (0 : Int32) (v3 + 1) (sI s 30 (ix v3) (f_Net_pressureBehind v3 (((gI s 115 (ix v3)) * (gI s 31 (ix v3))) / 100) s))) else (if (gI s 30 (ix v3)) = (f_Net_pressureBehind v3 (((gI s 115 (ix v3)) * (gI s 31 (ix v3))) / 100) s) then (lp_Net_press_115_31 n (1 : Int32) (v3 + 1) (sI s 30 (ix v3) (f_Net_pressureBehind v3 (((gI s 115 (ix v3)) * (gI s 31 (ix v3))) / 100) s))) else (lp_Net_press_115_31 n (0 : Int32) (v3 + 1) (sI s 30 (ix v3) (f_Net_pressureBehind v3 (((gI s 115 (ix v3)) * (gI s 31 (ix v3))) / 100) s))))))))
def okl_Net_press_115_31   : Nat → Int32 → Int32 → mS → Prop
  | 0, v2, v3, s => False
  | n + 1, v2, v3, s => (if (gI s 25 10) ≤ v3 then True else (if (16 : Int32) ≤ v3 then True else (if (16 : Int32) ≤ v3 then (ok_Net_pressureBehind v3 (0 : Int32) s ∧ (if v2 = 0 then (mm_inb v3 16 = true ∧ (okl_Net_press_115_31 n (0 : Int32) (v3 + 1) (sI s 30 (ix v3) (f_Net_pressureBehind v3 (0 : Int32) s)))) else (mm_inb v3 16 = true ∧ (if (gI s 30 (ix v3)) = (f_Net_pressureBehind v3 (0 : Int32) s) then (mm_inb v3 16 = true ∧ (okl_Net_press_115_31 n (1 : Int32) (v3 + 1) (sI s 30 (ix v3) (f_Net_pressureBehind v3 (0 : Int32) s)))) else (mm_inb v3 16 = true ∧ (okl_Net_press_115_31 n (0 : Int32) (v3 + 1) (sI s 30 (ix v3) (f_Net_pressureBehind v3 (0 : Int32) s)))))))) else (mm_inb v3 16 = true ∧ (mm_inb v3 16 = true ∧ (ok_Net_pressureBehind v3 (((gI s 115 (ix v3)) * (gI s 31 (ix v3))) / 100) s ∧ (if v2 = 0 then (mm_inb v3 16 = true ∧ (okl_Net_press_115_31 n (0 : Int32) (v3 + 1) (sI s 30 (ix v3) (f_Net_pressureBehind v3 (((gI s 115 (ix v3)) * (gI s 31 (ix v3))) / 100) s)))) else (mm_inb v3 16 = true ∧ (if (gI s 30 (ix v3)) = (f_Net_pressureBehind v3 (((gI s 115 (ix v3)) * (gI s 31 (ix v3))) / 100) s) then (mm_inb v3 16 = true ∧ (okl_Net_press_115_31 n (1 : Int32) (v3 + 1) (sI s 30 (ix v3) (f_Net_pressureBehind v3 (((gI s 115 (ix v3)) * (gI s 31 (ix v3))) / 100) s)))) else (mm_inb v3 16 = true ∧ (okl_Net_press_115_31 n (0 : Int32) (v3 + 1) (sI s 30 (ix v3) (f_Net_pressureBehind v3 (((gI s 115 (ix v3)) * (gI s 31 (ix v3))) / 100) s)))))))))))))
theorem tl_Net_press_115_31 {len : Nat} {xs : Nat → Int32} (d : Nat)   {T : Option mm_R} (K : Int32 × Int32 × mS → Prop) (hX : ∀ r, K r → ∀ (o4 : Option Value) (o5 : Option Value), mm_fix (mm_X len xs) mm_Y (mm_call (mm_X len xs) mm_Y (d + 3)) (mm_look mc_Net_press) (114, [some (.ref 25), some (.ref 115), some (.int r.1), some (.int r.2.1), o4, o5], [], mT r.2.2) = T) : ∀ (n : Nat), ∀ (v2 : Int32) (v3 : Int32) (o4 : Option Value) (o5 : Option Value) (s : mS), okl_Net_press_115_31 n v2 v3 s → K (lp_Net_press_115_31 n v2 v3 s) → mm_fix (mm_X len xs) mm_Y (mm_call (mm_X len xs) mm_Y (d + 3)) (mm_look mc_Net_press) (31, [some (.ref 25), some (.ref 115), some (.int v2), some (.int v3), o4, o5], [], mT s) = T := by
  intro n
  induction n with
  | zero => intro v2 v3 o4 o5 s; exact fun h => h.elim
  | succ n ih =>
    intro v2 v3 o4 o5 s
    rw [okl_Net_press_115_31, lp_Net_press_115_31]
    refine w_go K 3 (c' := (36, [some (.ref 25), some (.ref 115), some (.int v2), some (.int v3), o4, o5], [.int (gI s 25 10), .int v3], mT s)) rfl ?_
    refine w_br K rfl (fun _ => ?_) (fun _ => ?_)
    · refine w_go K 0 (c' := (114, [some (.ref 25), some (.ref 115), some (.int v2), some (.int v3), o4, o5], [], mT s)) rfl ?_
      exact fun _ b => hX _ b _ _
    · refine w_go K 2 (c' := (42, [some (.ref 25), some (.ref 115), some (.int v2), some (.int v3), o4, o5], [.int 16, .int v3], mT s)) rfl ?_
      refine w_br K rfl (fun _ => ?_) (fun _ => ?_)
      · refine w_go K 0 (c' := (114, [some (.ref 25), some (.ref 115), some (.int v2), some (.int v3), o4, o5], [], mT s)) rfl ?_
        exact fun _ b => hX _ b _ _
      · refine w_go K 3 (c' := (48, [some (.ref 25), some (.ref 115), some (.int v2), some (.int v3), o4, o5], [.int 16, .int v3], mT s)) rfl ?_
        refine w_br K rfl (fun _ => ?_) (fun _ => ?_)
        · refine w_go K 5 (c' := (74, [some (.ref 25), some (.ref 115), some (.int v2), some (.int v3), some (.int 0), o5], [.int 0, .int v3, .ref 25], mT s)) rfl ?_
          refine w_call K rfl (m_Net_pressureBehind (len := len) (xs := xs) (d + 0) v3 (0 : Int32) s) ?_
          refine w_go K 2 (c' := (80, [some (.ref 25), some (.ref 115), some (.int v2), some (.int v3), some (.int 0), some (.int (f_Net_pressureBehind v3 (0 : Int32) s))], [.int v2], mT s)) rfl ?_
          refine w_br K rfl (fun _ => ?_) (fun _ => ?_)
          · refine w_go K 6 (c' := (107, [some (.ref 25), some (.ref 115), some (.int 0), some (.int v3), some (.int 0), some (.int (f_Net_pressureBehind v3 (0 : Int32) s))], [.int (f_Net_pressureBehind v3 (0 : Int32) s), .int v3, .ref 30], mT s)) rfl ?_
            refine w_ck K rfl ?_
            refine w_go K 2 (c' := (31, [some (.ref 25), some (.ref 115), some (.int 0), some (.int (v3 + 1)), some (.int 0), some (.int (f_Net_pressureBehind v3 (0 : Int32) s))], [], mT (sI s 30 (ix v3) (f_Net_pressureBehind v3 (0 : Int32) s)))) rfl ?_
            exact fun a b => ih (0 : Int32) (v3 + 1) _ _ (sI s 30 (ix v3) (f_Net_pressureBehind v3 (0 : Int32) s)) a b
          · refine w_go K 3 (c' := (88, [some (.ref 25), some (.ref 115), some (.int v2), some (.int v3), some (.int 0), some (.int (f_Net_pressureBehind v3 (0 : Int32) s))], [.int v3, .ref 30], mT s)) rfl ?_
            refine w_ck K rfl ?_
            refine w_go K 1 (c' := (91, [some (.ref 25), some (.ref 115), some (.int v2), some (.int v3), some (.int 0), some (.int (f_Net_pressureBehind v3 (0 : Int32) s))], [.int (f_Net_pressureBehind v3 (0 : Int32) s), .int (gI s 30 (ix v3))], mT s)) rfl ?_
            refine w_br K rfl (fun _ => ?_) (fun _ => ?_)
            · refine w_go K 7 (c' := (107, [some (.ref 25), some (.ref 115), some (.int 1), some (.int v3), some (.int 0), some (.int (f_Net_pressureBehind v3 (0 : Int32) s))], [.int (f_Net_pressureBehind v3 (0 : Int32) s), .int v3, .ref 30], mT s)) rfl ?_
              refine w_ck K rfl ?_
              refine w_go K 2 (c' := (31, [some (.ref 25), some (.ref 115), some (.int 1), some (.int (v3 + 1)), some (.int 0), some (.int (f_Net_pressureBehind v3 (0 : Int32) s))], [], mT (sI s 30 (ix v3) (f_Net_pressureBehind v3 (0 : Int32) s)))) rfl ?_
              exact fun a b => ih (1 : Int32) (v3 + 1) _ _ (sI s 30 (ix v3) (f_Net_pressureBehind v3 (0 : Int32) s)) a b
            · refine w_go K 6 (c' := (107, [some (.ref 25), some (.ref 115), some (.int 0), some (.int v3), some (.int 0), some (.int (f_Net_pressureBehind v3 (0 : Int32) s))], [.int (f_Net_pressureBehind v3 (0 : Int32) s), .int v3, .ref 30], mT s)) rfl ?_
              refine w_ck K rfl ?_
              refine w_go K 2 (c' := (31, [some (.ref 25), some (.ref 115), some (.int 0), some (.int (v3 + 1)), some (.int 0), some (.int (f_Net_pressureBehind v3 (0 : Int32) s))], [], mT (sI s 30 (ix v3) (f_Net_pressureBehind v3 (0 : Int32) s)))) rfl ?_
              exact fun a b => ih (0 : Int32) (v3 + 1) _ _ (sI s 30 (ix v3) (f_Net_pressureBehind v3 (0 : Int32) s)) a b
        · refine w_go K 2 (c' := (53, [some (.ref 25), some (.ref 115), some (.int v2), some (.int v3), o4, o5], [.int v3, .ref 115], mT s)) rfl ?_
          refine w_ck K rfl ?_
          refine w_go K 3 (c' := (59, [some (.ref 25), some (.ref 115), some (.int v2), some (.int v3), o4, o5], [.int v3, .ref 31, .int (gI s 115 (ix v3))], mT s)) rfl ?_
          refine w_ck K rfl ?_
          refine w_go K 8 (c' := (74, [some (.ref 25), some (.ref 115), some (.int v2), some (.int v3), some (.int (((gI s 115 (ix v3)) * (gI s 31 (ix v3))) / 100)), o5], [.int (((gI s 115 (ix v3)) * (gI s 31 (ix v3))) / 100), .int v3, .ref 25], mT s)) rfl ?_
          refine w_call K rfl (m_Net_pressureBehind (len := len) (xs := xs) (d + 0) v3 (((gI s 115 (ix v3)) * (gI s 31 (ix v3))) / 100) s) ?_
          refine w_go K 2 (c' := (80, [some (.ref 25), some (.ref 115), some (.int v2), some (.int v3), some (.int (((gI s 115 (ix v3)) * (gI s 31 (ix v3))) / 100)), some (.int (f_Net_pressureBehind v3 (((gI s 115 (ix v3)) * (gI s 31 (ix v3))) / 100) s))], [.int v2], mT s)) rfl ?_
          refine w_br K rfl (fun _ => ?_) (fun _ => ?_)
          · refine w_go K 6 (c' := (107, [some (.ref 25), some (.ref 115), some (.int 0), some (.int v3), some (.int (((gI s 115 (ix v3)) * (gI s 31 (ix v3))) / 100)), some (.int (f_Net_pressureBehind v3 (((gI s 115 (ix v3)) * (gI s 31 (ix v3))) / 100) s))], [.int (f_Net_pressureBehind v3 (((gI s 115 (ix v3)) * (gI s 31 (ix v3))) / 100) s), .int v3, .ref 30], mT s)) rfl ?_
            refine w_ck K rfl ?_
            refine w_go K 2 (c' := (31, [some (.ref 25), some (.ref 115), some (.int 0), some (.int (v3 + 1)), some (.int (((gI s 115 (ix v3)) * (gI s 31 (ix v3))) / 100)), some (.int (f_Net_pressureBehind v3 (((gI s 115 (ix v3)) * (gI s 31 (ix v3))) / 100) s))], [], mT (sI s 30 (ix v3) (f_Net_pressureBehind v3 (((gI s 115 (ix v3)) * (gI s 31 (ix v3))) / 100) s)))) rfl ?_
            exact fun a b => ih (0 : Int32) (v3 + 1) _ _ (sI s 30 (ix v3) (f_Net_pressureBehind v3 (((gI s 115 (ix v3)) * (gI s 31 (ix v3))) / 100) s)) a b
          · refine w_go K 3 (c' := (88, [some (.ref 25), some (.ref 115), some (.int v2), some (.int v3), some (.int (((gI s 115 (ix v3)) * (gI s 31 (ix v3))) / 100)), some (.int (f_Net_pressureBehind v3 (((gI s 115 (ix v3)) * (gI s 31 (ix v3))) / 100) s))], [.int v3, .ref 30], mT s)) rfl ?_
            refine w_ck K rfl ?_
            refine w_go K 1 (c' := (91, [some (.ref 25), some (.ref 115), some (.int v2), some (.int v3), some (.int (((gI s 115 (ix v3)) * (gI s 31 (ix v3))) / 100)), some (.int (f_Net_pressureBehind v3 (((gI s 115 (ix v3)) * (gI s 31 (ix v3))) / 100) s))], [.int (f_Net_pressureBehind v3 (((gI s 115 (ix v3)) * (gI s 31 (ix v3))) / 100) s), .int (gI s 30 (ix v3))], mT s)) rfl ?_
            refine w_br K rfl (fun _ => ?_) (fun _ => ?_)
            · refine w_go K 7 (c' := (107, [some (.ref 25), some (.ref 115), some (.int 1), some (.int v3), some (.int (((gI s 115 (ix v3)) * (gI s 31 (ix v3))) / 100)), some (.int (f_Net_pressureBehind v3 (((gI s 115 (ix v3)) * (gI s 31 (ix v3))) / 100) s))], [.int (f_Net_pressureBehind v3 (((gI s 115 (ix v3)) * (gI s 31 (ix v3))) / 100) s), .int v3, .ref 30], mT s)) rfl ?_
              refine w_ck K rfl ?_
              refine w_go K 2 (c' := (31, [some (.ref 25), some (.ref 115), some (.int 1), some (.int (v3 + 1)), some (.int (((gI s 115 (ix v3)) * (gI s 31 (ix v3))) / 100)), some (.int (f_Net_pressureBehind v3 (((gI s 115 (ix v3)) * (gI s 31 (ix v3))) / 100) s))], [], mT (sI s 30 (ix v3) (f_Net_pressureBehind v3 (((gI s 115 (ix v3)) * (gI s 31 (ix v3))) / 100) s)))) rfl ?_
              exact fun a b => ih (1 : Int32) (v3 + 1) _ _ (sI s 30 (ix v3) (f_Net_pressureBehind v3 (((gI s 115 (ix v3)) * (gI s 31 (ix v3))) / 100) s)) a b
            · refine w_go K 6 (c' := (107, [some (.ref 25), some (.ref 115), some (.int 0), some (.int v3), some (.int (((gI s 115 (ix v3)) * (gI s 31 (ix v3))) / 100)), some (.int (f_Net_pressureBehind v3 (((gI s 115 (ix v3)) * (gI s 31 (ix v3))) / 100) s))], [.int (f_Net_pressureBehind v3 (((gI s 115 (ix v3)) * (gI s 31 (ix v3))) / 100) s), .int v3, .ref 30], mT s)) rfl ?_
              refine w_ck K rfl ?_
              refine w_go K 2 (c' := (31, [some (.ref 25), some (.ref 115), some (.int 0), some (.int (v3 + 1)), some (.int (((gI s 115 (ix v3)) * (gI s 31 (ix v3))) / 100)), some (.int (f_Net_pressureBehind v3 (((gI s 115 (ix v3)) * (gI s 31 (ix v3))) / 100) s))], [], mT (sI s 30 (ix v3) (f_Net_pressureBehind v3 (((gI s 115 (ix v3)) * (gI s 31 (ix v3))) / 100) s)))) rfl ?_
              exact fun a b => ih (0 : Int32) (v3 + 1) _ _ (sI s 30 (ix v3) (f_Net_pressureBehind v3 (((gI s 115 (ix v3)) * (gI s 31 (ix v3))) / 100) s)) a b
def f_Net_press_115 (s : mS) : Int32 × mS := (if (gI s 30 0) = (gI s 25 11) then ((lp_Net_press_115_31 mm_N (1 : Int32) (1 : Int32) (sI s 30 0 (gI s 25 11))).1, (lp_Net_press_115_31 mm_N (1 : Int32) (1 : Int32) (sI s 30 0 (gI s 25 11))).2.2) else ((lp_Net_press_115_31 mm_N (0 : Int32) (1 : Int32) (sI s 30 0 (gI s 25 11))).1, (lp_Net_press_115_31 mm_N (0 : Int32) (1 : Int32) (sI s 30 0 (gI s 25 11))).2.2))
def ok_Net_press_115 (s : mS) : Prop := (if (gI s 30 0) = (gI s 25 11) then (okl_Net_press_115_31 mm_N (1 : Int32) (1 : Int32) (sI s 30 0 (gI s 25 11)) ∧ mm_bit ((lp_Net_press_115_31 mm_N (1 : Int32) (1 : Int32) (sI s 30 0 (gI s 25 11))).1) = true) else (okl_Net_press_115_31 mm_N (0 : Int32) (1 : Int32) (sI s 30 0 (gI s 25 11)) ∧ mm_bit ((lp_Net_press_115_31 mm_N (0 : Int32) (1 : Int32) (sI s 30 0 (gI s 25 11))).1) = true))
theorem t_Net_press_115 {len : Nat} {xs : Nat → Int32} (d : Nat) (s : mS) {T : Option mm_R} (K : Int32 × mS → Prop) (hK : ∀ t, K t → some (some (.int t.1), mT t.2) = T) : ok_Net_press_115 s → K (f_Net_press_115 s) → mm_fix (mm_X len xs) mm_Y (mm_call (mm_X len xs) mm_Y (d + 3)) (mm_look mc_Net_press) (0, [some (.ref 25), some (.ref 115), none, none, none, none], [], mT s) = T := by
  unfold ok_Net_press_115 f_Net_press_115
  refine w_go K 6 (c' := (10, [some (.ref 25), some (.ref 115), none, none, none, none], [.int (gI s 25 11), .int (gI s 30 0)], mT s)) rfl ?_
  refine w_br K rfl (fun _ => ?_) (fun _ => ?_)
  · refine w_go K 11 (c' := (31, [some (.ref 25), some (.ref 115), some (.int 1), some (.int 1), none, none], [], mT (sI s 30 0 (gI s 25 11)))) rfl ?_
    refine w_loop K (D := ∀ (q1 : Option Value) (q2 : Option Value), mm_fix (mm_X len xs) mm_Y (mm_call (mm_X len xs) mm_Y (d + 3)) (mm_look mc_Net_press) (114, [some (.ref 25), some (.ref 115), some (.int ((lp_Net_press_115_31 mm_N (1 : Int32) (1 : Int32) (sI s 30 0 (gI s 25 11))).1)), some (.int ((lp_Net_press_115_31 mm_N (1 : Int32) (1 : Int32) (sI s 30 0 (gI s 25 11))).2.1)), q1, q2], [], mT ((lp_Net_press_115_31 mm_N (1 : Int32) (1 : Int32) (sI s 30 0 (gI s 25 11))).2.2)) = T) (fun h1 h2 => tl_Net_press_115_31 (len := len) (xs := xs) d (T := T) (K := fun r => r = lp_Net_press_115_31 mm_N (1 : Int32) (1 : Int32) (sI s 30 0 (gI s 25 11))) (fun r hr => by subst hr; exact h2) mm_N (1 : Int32) (1 : Int32) _ _ (sI s 30 0 (gI s 25 11)) h1 rfl) (fun h1 h2 q1 q2 => ?_)
    revert h1 h2
    refine w_go K 1 (c' := (115, [some (.ref 25), some (.ref 115), some (.int ((lp_Net_press_115_31 mm_N (1 : Int32) (1 : Int32) (sI s 30 0 (gI s 25 11))).1)), some (.int ((lp_Net_press_115_31 mm_N (1 : Int32) (1 : Int32) (sI s 30 0 (gI s 25 11))).2.1)), q1, q2], [.int ((lp_Net_press_115_31 mm_N (1 : Int32) (1 : Int32) (sI s 30 0 (gI s 25 11))).1)], mT ((lp_Net_press_115_31 mm_N (1 : Int32) (1 : Int32) (sI s 30 0 (gI s 25 11))).2.2))) rfl ?_
    exact w_retb K rfl (hK _)
  · refine w_go K 10 (c' := (31, [some (.ref 25), some (.ref 115), some (.int 0), some (.int 1), none, none], [], mT (sI s 30 0 (gI s 25 11)))) rfl ?_
    refine w_loop K (D := ∀ (q3 : Option Value) (q4 : Option Value), mm_fix (mm_X len xs) mm_Y (mm_call (mm_X len xs) mm_Y (d + 3)) (mm_look mc_Net_press) (114, [some (.ref 25), some (.ref 115), some (.int ((lp_Net_press_115_31 mm_N (0 : Int32) (1 : Int32) (sI s 30 0 (gI s 25 11))).1)), some (.int ((lp_Net_press_115_31 mm_N (0 : Int32) (1 : Int32) (sI s 30 0 (gI s 25 11))).2.1)), q3, q4], [], mT ((lp_Net_press_115_31 mm_N (0 : Int32) (1 : Int32) (sI s 30 0 (gI s 25 11))).2.2)) = T) (fun h1 h2 => tl_Net_press_115_31 (len := len) (xs := xs) d (T := T) (K := fun r => r = lp_Net_press_115_31 mm_N (0 : Int32) (1 : Int32) (sI s 30 0 (gI s 25 11))) (fun r hr => by subst hr; exact h2) mm_N (0 : Int32) (1 : Int32) _ _ (sI s 30 0 (gI s 25 11)) h1 rfl) (fun h1 h2 q3 q4 => ?_)
    revert h1 h2
    refine w_go K 1 (c' := (115, [some (.ref 25), some (.ref 115), some (.int ((lp_Net_press_115_31 mm_N (0 : Int32) (1 : Int32) (sI s 30 0 (gI s 25 11))).1)), some (.int ((lp_Net_press_115_31 mm_N (0 : Int32) (1 : Int32) (sI s 30 0 (gI s 25 11))).2.1)), q3, q4], [.int ((lp_Net_press_115_31 mm_N (0 : Int32) (1 : Int32) (sI s 30 0 (gI s 25 11))).1)], mT ((lp_Net_press_115_31 mm_N (0 : Int32) (1 : Int32) (sI s 30 0 (gI s 25 11))).2.2))) rfl ?_
    exact w_retb K rfl (hK _)
theorem m_Net_press_115 {len : Nat} {xs : Nat → Int32} (d : Nat) (s : mS) : ok_Net_press_115 s → mm_call (mm_X len xs) mm_Y (d + 4) 54 [.ref 25, .ref 115] (mT s) = some (some (.int (f_Net_press_115 s).1), mT (f_Net_press_115 s).2) := fun h => t_Net_press_115 (len := len) (xs := xs) d s (fun t => (some (some (.int t.1), mT t.2) : Option mm_R) = some (some (.int (f_Net_press_115 s).1), mT (f_Net_press_115 s).2)) (fun _ h => h) h rfl
def lp_Things_takeBy_30_2   : Nat → Int32 → mS → Int32 × mS
  | 0, v2, s => (v2, s)
  | n + 1, v2, s => (if (gI s 12 12) ≤ v2 then (v2, s) else (if (40 : Int32) ≤ v2 then (v2, s) else (if (gI s 13 (ix v2)) < 0 then (if (gI s 14 (ix v2)) = 3 then (lp_Things_takeBy_30_2 n (v2 + 1) (sI s 24 (ix v2) (((gI s 23 (ix v2)) * 0) / 20))) else (lp_Things_takeBy_30_2 n (v2 + 1) (sI s 24 (ix v2) (((gI s 23 (ix v2)) * 0) / 20)))) else (if (16 : Int32) ≤ (gI s 13 (ix v2)) then (if (gI s 14 (ix v2)) = 3 then (lp_Things_takeBy_30_2 n (v2 + 1) (sI s 24 (ix v2) (((gI s 23 (ix v2)) * 0) / 20))) else (lp_Things_takeBy_30_2 n (v2 + 1) (sI s 24 (ix v2) (((gI s 23 (ix v2)) * 0) / 20)))) else (if (gI s 14 (ix v2)) = 3 then (lp_Things_takeBy_30_2 n (v2 + 1) (sI s 24 (ix v2) (((gI s 23 (ix v2)) * (gI s 30 (ix (gI s 13 (ix v2))))) / 20))) else (if (gI s 30 (ix (gI s 13 (ix v2)))) < 20 then (lp_Things_takeBy_30_2 n (v2 + 1) (sI s 24 (ix v2) (((gI s 23 (ix v2)) * (gI s 30 (ix (gI s 13 (ix v2))))) / 20))) else (lp_Things_takeBy_30_2 n (v2 + 1) (sI s 24 (ix v2) (gI s 23 (ix v2))))))))))
def okl_Things_takeBy_30_2   : Nat → Int32 → mS → Prop
  | 0, v2, s => False
  | n + 1, v2, s => (if (gI s 12 12) ≤ v2 then True else (if (40 : Int32) ≤ v2 then True else (mm_inb v2 40 = true ∧ (if (gI s 13 (ix v2)) < 0 then (mm_inb v2 40 = true ∧ (if (gI s 14 (ix v2)) = 3 then (mm_inb v2 40 = true ∧ (mm_inb v2 40 = true ∧ (okl_Things_takeBy_30_2 n (v2 + 1) (sI s 24 (ix v2) (((gI s 23 (ix v2)) * 0) / 20))))) else (mm_inb v2 40 = true ∧ (mm_inb v2 40 = true ∧ (okl_Things_takeBy_30_2 n (v2 + 1) (sI s 24 (ix v2) (((gI s 23 (ix v2)) * 0) / 20))))))) else (if (16 : Int32) ≤ (gI s 13 (ix v2)) then (mm_inb v2 40 = true ∧ (if (gI s 14 (ix v2)) = 3 then (mm_inb v2 40 = true ∧ (mm_inb v2 40 = true ∧ (okl_Things_takeBy_30_2 n (v2 + 1) (sI s 24 (ix v2) (((gI s 23 (ix v2)) * 0) / 20))))) else (mm_inb v2 40 = true ∧ (mm_inb v2 40 = true ∧ (okl_Things_takeBy_30_2 n (v2 + 1) (sI s 24 (ix v2) (((gI s 23 (ix v2)) * 0) / 20))))))) else (mm_inb (gI s 13 (ix v2)) 16 = true ∧ (mm_inb v2 40 = true ∧ (if (gI s 14 (ix v2)) = 3 then (mm_inb v2 40 = true ∧ (mm_inb v2 40 = true ∧ (okl_Things_takeBy_30_2 n (v2 + 1) (sI s 24 (ix v2) (((gI s 23 (ix v2)) * (gI s 30 (ix (gI s 13 (ix v2))))) / 20))))) else (if (gI s 30 (ix (gI s 13 (ix v2)))) < 20 then (mm_inb v2 40 = true ∧ (mm_inb v2 40 = true ∧ (okl_Things_takeBy_30_2 n (v2 + 1) (sI s 24 (ix v2) (((gI s 23 (ix v2)) * (gI s 30 (ix (gI s 13 (ix v2))))) / 20))))) else (mm_inb v2 40 = true ∧ (mm_inb v2 40 = true ∧ (okl_Things_takeBy_30_2 n (v2 + 1) (sI s 24 (ix v2) (gI s 23 (ix v2)))))))))))))))
theorem tl_Things_takeBy_30_2 {len : Nat} {xs : Nat → Int32} (d : Nat)   {T : Option mm_R} (K : Int32 × mS → Prop) (hX : ∀ r, K r → ∀ (o3 : Option Value) (o4 : Option Value) (o5 : Option Value), mm_fix (mm_X len xs) mm_Y (mm_call (mm_X len xs) mm_Y (d + 0)) (mm_look mc_Things_takeBy) (104, [some (.ref 12), some (.ref 30), some (.int r.1), o3, o4, o5], [], mT r.2) = T) : ∀ (n : Nat), ∀ (v2 : Int32) (o3 : Option Value) (o4 : Option Value) (o5 : Option Value) (s : mS), okl_Things_takeBy_30_2 n v2 s → K (lp_Things_takeBy_30_2 n v2 s) → mm_fix (mm_X len xs) mm_Y (mm_call (mm_X len xs) mm_Y (d + 0)) (mm_look mc_Things_takeBy) (2, [some (.ref 12), some (.ref 30), some (.int v2), o3, o4, o5], [], mT s) = T := by
  intro n
  induction n with
  | zero => intro v2 o3 o4 o5 s; exact fun h => h.elim
  | succ n ih =>
    intro v2 o3 o4 o5 s
    rw [okl_Things_takeBy_30_2, lp_Things_takeBy_30_2]
    refine w_go K 3 (c' := (7, [some (.ref 12), some (.ref 30), some (.int v2), o3, o4, o5], [.int (gI s 12 12), .int v2], mT s)) rfl ?_
    refine w_br K rfl (fun _ => ?_) (fun _ => ?_)
    · refine w_go K 0 (c' := (104, [some (.ref 12), some (.ref 30), some (.int v2), o3, o4, o5], [], mT s)) rfl ?_
      exact fun _ b => hX _ b _ _ _
    · refine w_go K 2 (c' := (13, [some (.ref 12), some (.ref 30), some (.int v2), o3, o4, o5], [.int 40, .int v2], mT s)) rfl ?_
      refine w_br K rfl (fun _ => ?_) (fun _ => ?_)
      · refine w_go K 0 (c' := (104, [some (.ref 12), some (.ref 30), some (.int v2), o3, o4, o5], [], mT s)) rfl ?_
        exact fun _ b => hX _ b _ _ _
      · refine w_go K 3 (c' := (21, [some (.ref 12), some (.ref 30), some (.int v2), o3, o4, o5], [.int v2, .ref 13], mT s)) rfl ?_
        refine w_ck K rfl ?_
        refine w_go K 2 (c' := (24, [some (.ref 12), some (.ref 30), some (.int v2), some (.int (gI s 13 (ix v2))), o4, o5], [.int (gI s 13 (ix v2))], mT s)) rfl ?_
        refine w_br K rfl (fun _ => ?_) (fun _ => ?_)
        · refine w_go K 5 (c' := (47, [some (.ref 12), some (.ref 30), some (.int v2), some (.int (gI s 13 (ix v2))), some (.int 0), o5], [.int v2, .ref 14], mT s)) rfl ?_
          refine w_ck K rfl ?_
          refine w_go K 1 (c' := (49, [some (.ref 12), some (.ref 30), some (.int v2), some (.int (gI s 13 (ix v2))), some (.int 0), o5], [.int 3, .int (gI s 14 (ix v2))], mT s)) rfl ?_
          refine w_br K rfl (fun _ => ?_) (fun _ => ?_)
          · refine w_go K 10 (c' := (90, [some (.ref 12), some (.ref 30), some (.int v2), some (.int (gI s 13 (ix v2))), some (.int 0), some (.int 0)], [.int v2, .ref 23, .int v2, .ref 24], mT s)) rfl ?_
            refine w_ck K rfl ?_
            refine w_go K 4 (c' := (97, [some (.ref 12), some (.ref 30), some (.int v2), some (.int (gI s 13 (ix v2))), some (.int 0), some (.int 0)], [.int (((gI s 23 (ix v2)) * 0) / 20), .int v2, .ref 24], mT s)) rfl ?_
            refine w_ck K rfl ?_
            refine w_go K 2 (c' := (2, [some (.ref 12), some (.ref 30), some (.int (v2 + 1)), some (.int (gI s 13 (ix v2))), some (.int 0), some (.int 0)], [], mT (sI s 24 (ix v2) (((gI s 23 (ix v2)) * 0) / 20)))) rfl ?_
            exact fun a b => ih (v2 + 1) _ _ _ (sI s 24 (ix v2) (((gI s 23 (ix v2)) * 0) / 20)) a b
          · refine w_go K 13 (c' := (90, [some (.ref 12), some (.ref 30), some (.int v2), some (.int (gI s 13 (ix v2))), some (.int 0), some (.int 0)], [.int v2, .ref 23, .int v2, .ref 24], mT s)) rfl ?_
            refine w_ck K rfl ?_
            refine w_go K 4 (c' := (97, [some (.ref 12), some (.ref 30), some (.int v2), some (.int (gI s 13 (ix v2))), some (.int 0), some (.int 0)], [.int (((gI s 23 (ix v2)) * 0) / 20), .int v2, .ref 24], mT s)) rfl ?_
            refine w_ck K rfl ?_
            refine w_go K 2 (c' := (2, [some (.ref 12), some (.ref 30), some (.int (v2 + 1)), some (.int (gI s 13 (ix v2))), some (.int 0), some (.int 0)], [], mT (sI s 24 (ix v2) (((gI s 23 (ix v2)) * 0) / 20)))) rfl ?_
            exact fun a b => ih (v2 + 1) _ _ _ (sI s 24 (ix v2) (((gI s 23 (ix v2)) * 0) / 20)) a b
        · refine w_go K 3 (c' := (30, [some (.ref 12), some (.ref 30), some (.int v2), some (.int (gI s 13 (ix v2))), o4, o5], [.int 16, .int (gI s 13 (ix v2))], mT s)) rfl ?_
          refine w_br K rfl (fun _ => ?_) (fun _ => ?_)
          · refine w_go K 5 (c' := (47, [some (.ref 12), some (.ref 30), some (.int v2), some (.int (gI s 13 (ix v2))), some (.int 0), o5], [.int v2, .ref 14], mT s)) rfl ?_
            refine w_ck K rfl ?_
            refine w_go K 1 (c' := (49, [some (.ref 12), some (.ref 30), some (.int v2), some (.int (gI s 13 (ix v2))), some (.int 0), o5], [.int 3, .int (gI s 14 (ix v2))], mT s)) rfl ?_
            refine w_br K rfl (fun _ => ?_) (fun _ => ?_)
            · refine w_go K 10 (c' := (90, [some (.ref 12), some (.ref 30), some (.int v2), some (.int (gI s 13 (ix v2))), some (.int 0), some (.int 0)], [.int v2, .ref 23, .int v2, .ref 24], mT s)) rfl ?_
              refine w_ck K rfl ?_
              refine w_go K 4 (c' := (97, [some (.ref 12), some (.ref 30), some (.int v2), some (.int (gI s 13 (ix v2))), some (.int 0), some (.int 0)], [.int (((gI s 23 (ix v2)) * 0) / 20), .int v2, .ref 24], mT s)) rfl ?_
              refine w_ck K rfl ?_
              refine w_go K 2 (c' := (2, [some (.ref 12), some (.ref 30), some (.int (v2 + 1)), some (.int (gI s 13 (ix v2))), some (.int 0), some (.int 0)], [], mT (sI s 24 (ix v2) (((gI s 23 (ix v2)) * 0) / 20)))) rfl ?_
              exact fun a b => ih (v2 + 1) _ _ _ (sI s 24 (ix v2) (((gI s 23 (ix v2)) * 0) / 20)) a b
            · refine w_go K 13 (c' := (90, [some (.ref 12), some (.ref 30), some (.int v2), some (.int (gI s 13 (ix v2))), some (.int 0), some (.int 0)], [.int v2, .ref 23, .int v2, .ref 24], mT s)) rfl ?_
              refine w_ck K rfl ?_
              refine w_go K 4 (c' := (97, [some (.ref 12), some (.ref 30), some (.int v2), some (.int (gI s 13 (ix v2))), some (.int 0), some (.int 0)], [.int (((gI s 23 (ix v2)) * 0) / 20), .int v2, .ref 24], mT s)) rfl ?_
              refine w_ck K rfl ?_
              refine w_go K 2 (c' := (2, [some (.ref 12), some (.ref 30), some (.int (v2 + 1)), some (.int (gI s 13 (ix v2))), some (.int 0), some (.int 0)], [], mT (sI s 24 (ix v2) (((gI s 23 (ix v2)) * 0) / 20)))) rfl ?_
              exact fun a b => ih (v2 + 1) _ _ _ (sI s 24 (ix v2) (((gI s 23 (ix v2)) * 0) / 20)) a b
          · refine w_go K 2 (c' := (35, [some (.ref 12), some (.ref 30), some (.int v2), some (.int (gI s 13 (ix v2))), o4, o5], [.int (gI s 13 (ix v2)), .ref 30], mT s)) rfl ?_
            refine w_ck K rfl ?_
            refine w_go K 5 (c' := (47, [some (.ref 12), some (.ref 30), some (.int v2), some (.int (gI s 13 (ix v2))), some (.int (gI s 30 (ix (gI s 13 (ix v2))))), o5], [.int v2, .ref 14], mT s)) rfl ?_
            refine w_ck K rfl ?_
            refine w_go K 1 (c' := (49, [some (.ref 12), some (.ref 30), some (.int v2), some (.int (gI s 13 (ix v2))), some (.int (gI s 30 (ix (gI s 13 (ix v2))))), o5], [.int 3, .int (gI s 14 (ix v2))], mT s)) rfl ?_
            refine w_br K rfl (fun _ => ?_) (fun _ => ?_)
            · refine w_go K 10 (c' := (90, [some (.ref 12), some (.ref 30), some (.int v2), some (.int (gI s 13 (ix v2))), some (.int (gI s 30 (ix (gI s 13 (ix v2))))), some (.int 0)], [.int v2, .ref 23, .int v2, .ref 24], mT s)) rfl ?_
              refine w_ck K rfl ?_
              refine w_go K 4 (c' := (97, [some (.ref 12), some (.ref 30), some (.int v2), some (.int (gI s 13 (ix v2))), some (.int (gI s 30 (ix (gI s 13 (ix v2))))), some (.int 0)], [.int (((gI s 23 (ix v2)) * (gI s 30 (ix (gI s 13 (ix v2))))) / 20), .int v2, .ref 24], mT s)) rfl ?_
              refine w_ck K rfl ?_
              refine w_go K 2 (c' := (2, [some (.ref 12), some (.ref 30), some (.int (v2 + 1)), some (.int (gI s 13 (ix v2))), some (.int (gI s 30 (ix (gI s 13 (ix v2))))), some (.int 0)], [], mT (sI s 24 (ix v2) (((gI s 23 (ix v2)) * (gI s 30 (ix (gI s 13 (ix v2))))) / 20)))) rfl ?_
              exact fun a b => ih (v2 + 1) _ _ _ (sI s 24 (ix v2) (((gI s 23 (ix v2)) * (gI s 30 (ix (gI s 13 (ix v2))))) / 20)) a b
            · refine w_go K 2 (c' := (56, [some (.ref 12), some (.ref 30), some (.int v2), some (.int (gI s 13 (ix v2))), some (.int (gI s 30 (ix (gI s 13 (ix v2))))), o5], [.int 20, .int (gI s 30 (ix (gI s 13 (ix v2))))], mT s)) rfl ?_
              refine w_br K rfl (fun _ => ?_) (fun _ => ?_)
              · refine w_go K 10 (c' := (90, [some (.ref 12), some (.ref 30), some (.int v2), some (.int (gI s 13 (ix v2))), some (.int (gI s 30 (ix (gI s 13 (ix v2))))), some (.int 0)], [.int v2, .ref 23, .int v2, .ref 24], mT s)) rfl ?_
                refine w_ck K rfl ?_
                refine w_go K 4 (c' := (97, [some (.ref 12), some (.ref 30), some (.int v2), some (.int (gI s 13 (ix v2))), some (.int (gI s 30 (ix (gI s 13 (ix v2))))), some (.int 0)], [.int (((gI s 23 (ix v2)) * (gI s 30 (ix (gI s 13 (ix v2))))) / 20), .int v2, .ref 24], mT s)) rfl ?_
                refine w_ck K rfl ?_
                refine w_go K 2 (c' := (2, [some (.ref 12), some (.ref 30), some (.int (v2 + 1)), some (.int (gI s 13 (ix v2))), some (.int (gI s 30 (ix (gI s 13 (ix v2))))), some (.int 0)], [], mT (sI s 24 (ix v2) (((gI s 23 (ix v2)) * (gI s 30 (ix (gI s 13 (ix v2))))) / 20)))) rfl ?_
                exact fun a b => ih (v2 + 1) _ _ _ (sI s 24 (ix v2) (((gI s 23 (ix v2)) * (gI s 30 (ix (gI s 13 (ix v2))))) / 20)) a b
              · refine w_go K 11 (c' := (81, [some (.ref 12), some (.ref 30), some (.int v2), some (.int (gI s 13 (ix v2))), some (.int (gI s 30 (ix (gI s 13 (ix v2))))), some (.int 1)], [.int v2, .ref 23, .int v2, .ref 24], mT s)) rfl ?_
                refine w_ck K rfl ?_
                refine w_go K 1 (c' := (97, [some (.ref 12), some (.ref 30), some (.int v2), some (.int (gI s 13 (ix v2))), some (.int (gI s 30 (ix (gI s 13 (ix v2))))), some (.int 1)], [.int (gI s 23 (ix v2)), .int v2, .ref 24], mT s)) rfl ?_
                refine w_ck K rfl ?_
                refine w_go K 2 (c' := (2, [some (.ref 12), some (.ref 30), some (.int (v2 + 1)), some (.int (gI s 13 (ix v2))), some (.int (gI s 30 (ix (gI s 13 (ix v2))))), some (.int 1)], [], mT (sI s 24 (ix v2) (gI s 23 (ix v2))))) rfl ?_
                exact fun a b => ih (v2 + 1) _ _ _ (sI s 24 (ix v2) (gI s 23 (ix v2))) a b
def f_Things_takeBy_30 (s : mS) : mS := (lp_Things_takeBy_30_2 mm_N (0 : Int32) s).2
def ok_Things_takeBy_30 (s : mS) : Prop := (okl_Things_takeBy_30_2 mm_N (0 : Int32) s ∧ True)
theorem t_Things_takeBy_30 {len : Nat} {xs : Nat → Int32} (d : Nat) (s : mS) {T : Option mm_R} (K : mS → Prop) (hK : ∀ t, K t → some (none, mT t) = T) : ok_Things_takeBy_30 s → K (f_Things_takeBy_30 s) → mm_fix (mm_X len xs) mm_Y (mm_call (mm_X len xs) mm_Y (d + 0)) (mm_look mc_Things_takeBy) (0, [some (.ref 12), some (.ref 30), none, none, none, none], [], mT s) = T := by
  unfold ok_Things_takeBy_30 f_Things_takeBy_30
  refine w_go K 2 (c' := (2, [some (.ref 12), some (.ref 30), some (.int 0), none, none, none], [], mT s)) rfl ?_
  refine w_loop K (D := ∀ (q1 : Option Value) (q2 : Option Value) (q3 : Option Value), mm_fix (mm_X len xs) mm_Y (mm_call (mm_X len xs) mm_Y (d + 0)) (mm_look mc_Things_takeBy) (104, [some (.ref 12), some (.ref 30), some (.int ((lp_Things_takeBy_30_2 mm_N (0 : Int32) s).1)), q1, q2, q3], [], mT ((lp_Things_takeBy_30_2 mm_N (0 : Int32) s).2)) = T) (fun h1 h2 => tl_Things_takeBy_30_2 (len := len) (xs := xs) d (T := T) (K := fun r => r = lp_Things_takeBy_30_2 mm_N (0 : Int32) s) (fun r hr => by subst hr; exact h2) mm_N (0 : Int32) _ _ _ s h1 rfl) (fun h1 h2 q1 q2 q3 => ?_)
  revert h1 h2
  refine w_go K 0 (c' := (104, [some (.ref 12), some (.ref 30), some (.int ((lp_Things_takeBy_30_2 mm_N (0 : Int32) s).1)), q1, q2, q3], [], mT ((lp_Things_takeBy_30_2 mm_N (0 : Int32) s).2))) rfl ?_
  exact w_ret K rfl (hK _)
theorem m_Things_takeBy_30 {len : Nat} {xs : Nat → Int32} (d : Nat) (s : mS) : ok_Things_takeBy_30 s → mm_call (mm_X len xs) mm_Y (d + 1) 56 [.ref 12, .ref 30] (mT s) = some (none, mT (f_Things_takeBy_30 s)) := fun h => t_Things_takeBy_30 (len := len) (xs := xs) d s (fun t => (some (none, mT t) : Option mm_R) = some (none, mT (f_Things_takeBy_30 s))) (fun _ h => h) h rfl
def lp_Net_settle_115_9   : Nat → Int32 → Int32 → mS → Int32 × Int32 × mS
  | 0, v3, v4, s => (v3, v4, s)
  | n + 1, v3, v4, s => (if (12 : Int32) ≤ v4 then (v3, v4, s) else (if v3 = 0 then (if v4 ≤ 0 then (lp_Net_settle_115_9 n (0 : Int32) (v4 + 1) (f_Things_takeBy_30 ((f_Net_press_115 (f_Net_gatherFlow s)).2))) else (if (f_Net_press_115 (f_Net_gatherFlow s)).1 = 0 then (lp_Net_settle_115_9 n (0 : Int32) (v4 + 1) (f_Things_takeBy_30 ((f_Net_press_115 (f_Net_gatherFlow s)).2))) else (lp_Net_settle_115_9 n (1 : Int32) (v4 + 1) (f_Things_takeBy_30 ((f_Net_press_115 (f_Net_gatherFlow s)).2))))) else (v3, v4, s)))
def okl_Net_settle_115_9   : Nat → Int32 → Int32 → mS → Prop
  | 0, v3, v4, s => False
  | n + 1, v3, v4, s => (if (12 : Int32) ≤ v4 then True else (if v3 = 0 then (ok_Net_gatherFlow s ∧ (ok_Net_press_115 (f_Net_gatherFlow s) ∧ (if v4 ≤ 0 then (ok_Things_takeBy_30 ((f_Net_press_115 (f_Net_gatherFlow s)).2) ∧ (okl_Net_settle_115_9 n (0 : Int32) (v4 + 1) (f_Things_takeBy_30 ((f_Net_press_115 (f_Net_gatherFlow s)).2)))) else (if (f_Net_press_115 (f_Net_gatherFlow s)).1 = 0 then (ok_Things_takeBy_30 ((f_Net_press_115 (f_Net_gatherFlow s)).2) ∧ (okl_Net_settle_115_9 n (0 : Int32) (v4 + 1) (f_Things_takeBy_30 ((f_Net_press_115 (f_Net_gatherFlow s)).2)))) else (ok_Things_takeBy_30 ((f_Net_press_115 (f_Net_gatherFlow s)).2) ∧ (okl_Net_settle_115_9 n (1 : Int32) (v4 + 1) (f_Things_takeBy_30 ((f_Net_press_115 (f_Net_gatherFlow s)).2)))))))) else True))
theorem tl_Net_settle_115_9 {len : Nat} {xs : Nat → Int32} (d : Nat)   {T : Option mm_R} (K : Int32 × Int32 × mS → Prop) (hX : ∀ r, K r → ∀ (o5 : Option Value), mm_fix (mm_X len xs) mm_Y (mm_call (mm_X len xs) mm_Y (d + 4)) (mm_look mc_Net_settle) (62, [some (.ref 25), some (.ref 12), some (.ref 115), some (.int r.1), some (.int r.2.1), o5], [], mT r.2.2) = T) : ∀ (n : Nat), ∀ (v3 : Int32) (v4 : Int32) (o5 : Option Value) (s : mS), okl_Net_settle_115_9 n v3 v4 s → K (lp_Net_settle_115_9 n v3 v4 s) → mm_fix (mm_X len xs) mm_Y (mm_call (mm_X len xs) mm_Y (d + 4)) (mm_look mc_Net_settle) (9, [some (.ref 25), some (.ref 12), some (.ref 115), some (.int v3), some (.int v4), o5], [], mT s) = T := by
  intro n
  induction n with
  | zero => intro v3 v4 o5 s; exact fun h => h.elim
  | succ n ih =>
    intro v3 v4 o5 s
    rw [okl_Net_settle_115_9, lp_Net_settle_115_9]
    refine w_go K 2 (c' := (13, [some (.ref 25), some (.ref 12), some (.ref 115), some (.int v3), some (.int v4), o5], [.int 12, .int v4], mT s)) rfl ?_
    refine w_br K rfl (fun _ => ?_) (fun _ => ?_)
    · refine w_go K 0 (c' := (62, [some (.ref 25), some (.ref 12), some (.ref 115), some (.int v3), some (.int v4), o5], [], mT s)) rfl ?_
      exact fun _ b => hX _ b _
    · refine w_go K 1 (c' := (17, [some (.ref 25), some (.ref 12), some (.ref 115), some (.int v3), some (.int v4), o5], [.int v3], mT s)) rfl ?_
      refine w_br K rfl (fun _ => ?_) (fun _ => ?_)
      · refine w_go K 2 (c' := (22, [some (.ref 25), some (.ref 12), some (.ref 115), some (.int v3), some (.int v4), o5], [.ref 12, .ref 25], mT s)) rfl ?_
        refine w_call K rfl (m_Net_gatherFlow (len := len) (xs := xs) (d + 2) s) ?_
        refine w_go K 2 (c' := (27, [some (.ref 25), some (.ref 12), some (.ref 115), some (.int v3), some (.int v4), o5], [.ref 115, .ref 25], mT (f_Net_gatherFlow s))) rfl ?_
        refine w_call K rfl (m_Net_press_115 (len := len) (xs := xs) (d + 0) (f_Net_gatherFlow s)) ?_
        refine w_go K 2 (c' := (34, [some (.ref 25), some (.ref 12), some (.ref 115), some (.int v3), some (.int v4), some (.int ((f_Net_press_115 (f_Net_gatherFlow s)).1))], [.int v4], mT ((f_Net_press_115 (f_Net_gatherFlow s)).2))) rfl ?_
        refine w_br K rfl (fun _ => ?_) (fun _ => ?_)
        · refine w_go K 5 (c' := (53, [some (.ref 25), some (.ref 12), some (.ref 115), some (.int 0), some (.int v4), some (.int ((f_Net_press_115 (f_Net_gatherFlow s)).1))], [.ref 30, .ref 12], mT ((f_Net_press_115 (f_Net_gatherFlow s)).2))) rfl ?_
          refine w_call K rfl (m_Things_takeBy_30 (len := len) (xs := xs) (d + 3) ((f_Net_press_115 (f_Net_gatherFlow s)).2)) ?_
          refine w_go K 2 (c' := (9, [some (.ref 25), some (.ref 12), some (.ref 115), some (.int 0), some (.int (v4 + 1)), some (.int ((f_Net_press_115 (f_Net_gatherFlow s)).1))], [], mT (f_Things_takeBy_30 ((f_Net_press_115 (f_Net_gatherFlow s)).2)))) rfl ?_
          exact fun a b => ih (0 : Int32) (v4 + 1) _ (f_Things_takeBy_30 ((f_Net_press_115 (f_Net_gatherFlow s)).2)) a b
        · refine w_go K 1 (c' := (39, [some (.ref 25), some (.ref 12), some (.ref 115), some (.int v3), some (.int v4), some (.int ((f_Net_press_115 (f_Net_gatherFlow s)).1))], [.int ((f_Net_press_115 (f_Net_gatherFlow s)).1)], mT ((f_Net_press_115 (f_Net_gatherFlow s)).2))) rfl ?_
          refine w_br K rfl (fun _ => ?_) (fun _ => ?_)
          · refine w_go K 5 (c' := (53, [some (.ref 25), some (.ref 12), some (.ref 115), some (.int 0), some (.int v4), some (.int ((f_Net_press_115 (f_Net_gatherFlow s)).1))], [.ref 30, .ref 12], mT ((f_Net_press_115 (f_Net_gatherFlow s)).2))) rfl ?_
            refine w_call K rfl (m_Things_takeBy_30 (len := len) (xs := xs) (d + 3) ((f_Net_press_115 (f_Net_gatherFlow s)).2)) ?_
            refine w_go K 2 (c' := (9, [some (.ref 25), some (.ref 12), some (.ref 115), some (.int 0), some (.int (v4 + 1)), some (.int ((f_Net_press_115 (f_Net_gatherFlow s)).1))], [], mT (f_Things_takeBy_30 ((f_Net_press_115 (f_Net_gatherFlow s)).2)))) rfl ?_
            exact fun a b => ih (0 : Int32) (v4 + 1) _ (f_Things_takeBy_30 ((f_Net_press_115 (f_Net_gatherFlow s)).2)) a b
          · refine w_go K 6 (c' := (53, [some (.ref 25), some (.ref 12), some (.ref 115), some (.int 1), some (.int v4), some (.int ((f_Net_press_115 (f_Net_gatherFlow s)).1))], [.ref 30, .ref 12], mT ((f_Net_press_115 (f_Net_gatherFlow s)).2))) rfl ?_
            refine w_call K rfl (m_Things_takeBy_30 (len := len) (xs := xs) (d + 3) ((f_Net_press_115 (f_Net_gatherFlow s)).2)) ?_
            refine w_go K 2 (c' := (9, [some (.ref 25), some (.ref 12), some (.ref 115), some (.int 1), some (.int (v4 + 1)), some (.int ((f_Net_press_115 (f_Net_gatherFlow s)).1))], [], mT (f_Things_takeBy_30 ((f_Net_press_115 (f_Net_gatherFlow s)).2)))) rfl ?_
            exact fun a b => ih (1 : Int32) (v4 + 1) _ (f_Things_takeBy_30 ((f_Net_press_115 (f_Net_gatherFlow s)).2)) a b
      · refine w_go K 0 (c' := (62, [some (.ref 25), some (.ref 12), some (.ref 115), some (.int v3), some (.int v4), o5], [], mT s)) rfl ?_
        exact fun _ b => hX _ b _
def f_Net_settle_115 (s : mS) : Int32 × mS := ((lp_Net_settle_115_9 mm_N (0 : Int32) (0 : Int32) (f_Things_takeWants s)).1, (lp_Net_settle_115_9 mm_N (0 : Int32) (0 : Int32) (f_Things_takeWants s)).2.2)
def ok_Net_settle_115 (s : mS) : Prop := (ok_Things_takeWants s ∧ (okl_Net_settle_115_9 mm_N (0 : Int32) (0 : Int32) (f_Things_takeWants s) ∧ mm_bit ((lp_Net_settle_115_9 mm_N (0 : Int32) (0 : Int32) (f_Things_takeWants s)).1) = true))
theorem t_Net_settle_115 {len : Nat} {xs : Nat → Int32} (d : Nat) (s : mS) {T : Option mm_R} (K : Int32 × mS → Prop) (hK : ∀ t, K t → some (some (.int t.1), mT t.2) = T) : ok_Net_settle_115 s → K (f_Net_settle_115 s) → mm_fix (mm_X len xs) mm_Y (mm_call (mm_X len xs) mm_Y (d + 4)) (mm_look mc_Net_settle) (0, [some (.ref 25), some (.ref 12), some (.ref 115), none, none, none], [], mT s) = T := by
  unfold ok_Net_settle_115 f_Net_settle_115
  refine w_go K 1 (c' := (1, [some (.ref 25), some (.ref 12), some (.ref 115), none, none, none], [.ref 12], mT s)) rfl ?_
  refine w_call K rfl (m_Things_takeWants (len := len) (xs := xs) (d + 3) s) ?_
  refine w_go K 4 (c' := (9, [some (.ref 25), some (.ref 12), some (.ref 115), some (.int 0), some (.int 0), none], [], mT (f_Things_takeWants s))) rfl ?_
  refine w_loop K (D := ∀ (q1 : Option Value), mm_fix (mm_X len xs) mm_Y (mm_call (mm_X len xs) mm_Y (d + 4)) (mm_look mc_Net_settle) (62, [some (.ref 25), some (.ref 12), some (.ref 115), some (.int ((lp_Net_settle_115_9 mm_N (0 : Int32) (0 : Int32) (f_Things_takeWants s)).1)), some (.int ((lp_Net_settle_115_9 mm_N (0 : Int32) (0 : Int32) (f_Things_takeWants s)).2.1)), q1], [], mT ((lp_Net_settle_115_9 mm_N (0 : Int32) (0 : Int32) (f_Things_takeWants s)).2.2)) = T) (fun h1 h2 => tl_Net_settle_115_9 (len := len) (xs := xs) d (T := T) (K := fun r => r = lp_Net_settle_115_9 mm_N (0 : Int32) (0 : Int32) (f_Things_takeWants s)) (fun r hr => by subst hr; exact h2) mm_N (0 : Int32) (0 : Int32) _ (f_Things_takeWants s) h1 rfl) (fun h1 h2 q1 => ?_)
  revert h1 h2
  refine w_go K 1 (c' := (63, [some (.ref 25), some (.ref 12), some (.ref 115), some (.int ((lp_Net_settle_115_9 mm_N (0 : Int32) (0 : Int32) (f_Things_takeWants s)).1)), some (.int ((lp_Net_settle_115_9 mm_N (0 : Int32) (0 : Int32) (f_Things_takeWants s)).2.1)), q1], [.int ((lp_Net_settle_115_9 mm_N (0 : Int32) (0 : Int32) (f_Things_takeWants s)).1)], mT ((lp_Net_settle_115_9 mm_N (0 : Int32) (0 : Int32) (f_Things_takeWants s)).2.2))) rfl ?_
  exact w_retb K rfl (hK _)
theorem m_Net_settle_115 {len : Nat} {xs : Nat → Int32} (d : Nat) (s : mS) : ok_Net_settle_115 s → mm_call (mm_X len xs) mm_Y (d + 5) 51 [.ref 25, .ref 12, .ref 115] (mT s) = some (some (.int (f_Net_settle_115 s).1), mT (f_Net_settle_115 s).2) := fun h => t_Net_settle_115 (len := len) (xs := xs) d s (fun t => (some (some (.int t.1), mT t.2) : Option mm_R) = some (some (.int (f_Net_settle_115 s).1), mT (f_Net_settle_115 s).2)) (fun _ h => h) h rfl
def lp_Things_burnFully_30_4  (s : mS) : Nat → Int32 → Int32 → Int32 × Int32
  | 0, v2, v3 => (v2, v3)
  | n + 1, v2, v3 => (if (gI s 12 12) ≤ v3 then (v2, v3) else (if (40 : Int32) ≤ v3 then (v2, v3) else (if (gI s 13 (ix v3)) < 0 then (if (gI s 14 (ix v3)) = 3 then (lp_Things_burnFully_30_4 s n v2 (v3 + 1)) else (if (gI s 23 (ix v3)) ≤ 0 then (lp_Things_burnFully_30_4 s n v2 (v3 + 1)) else (lp_Things_burnFully_30_4 s n v2 (v3 + 1)))) else (if (16 : Int32) ≤ (gI s 13 (ix v3)) then (if (gI s 14 (ix v3)) = 3 then (lp_Things_burnFully_30_4 s n v2 (v3 + 1)) else (if (gI s 23 (ix v3)) ≤ 0 then (lp_Things_burnFully_30_4 s n v2 (v3 + 1)) else (lp_Things_burnFully_30_4 s n v2 (v3 + 1)))) else (if (gI s 14 (ix v3)) = 3 then (lp_Things_burnFully_30_4 s n v2 (v3 + 1)) else (if (gI s 23 (ix v3)) ≤ 0 then (lp_Things_burnFully_30_4 s n v2 (v3 + 1)) else (if (gI s 30 (ix (gI s 13 (ix v3)))) < 20 then (lp_Things_burnFully_30_4 s n v2 (v3 + 1)) else (lp_Things_burnFully_30_4 s n (v2 + 1) (v3 + 1)))))))))
def okl_Things_burnFully_30_4  (s : mS) : Nat → Int32 → Int32 → Prop
  | 0, v2, v3 => False
  | n + 1, v2, v3 => (if (gI s 12 12) ≤ v3 then True else (if (40 : Int32) ≤ v3 then True else (mm_inb v3 40 = true ∧ (if (gI s 13 (ix v3)) < 0 then (mm_inb v3 40 = true ∧ (if (gI s 14 (ix v3)) = 3 then (okl_Things_burnFully_30_4 s n v2 (v3 + 1)) else (mm_inb v3 40 = true ∧ (if (gI s 23 (ix v3)) ≤ 0 then (okl_Things_burnFully_30_4 s n v2 (v3 + 1)) else (okl_Things_burnFully_30_4 s n v2 (v3 + 1)))))) else (if (16 : Int32) ≤ (gI s 13 (ix v3)) then (mm_inb v3 40 = true ∧ (if (gI s 14 (ix v3)) = 3 then (okl_Things_burnFully_30_4 s n v2 (v3 + 1)) else (mm_inb v3 40 = true ∧ (if (gI s 23 (ix v3)) ≤ 0 then (okl_Things_burnFully_30_4 s n v2 (v3 + 1)) else (okl_Things_burnFully_30_4 s n v2 (v3 + 1)))))) else (mm_inb (gI s 13 (ix v3)) 16 = true ∧ (mm_inb v3 40 = true ∧ (if (gI s 14 (ix v3)) = 3 then (okl_Things_burnFully_30_4 s n v2 (v3 + 1)) else (mm_inb v3 40 = true ∧ (if (gI s 23 (ix v3)) ≤ 0 then (okl_Things_burnFully_30_4 s n v2 (v3 + 1)) else (if (gI s 30 (ix (gI s 13 (ix v3)))) < 20 then (okl_Things_burnFully_30_4 s n v2 (v3 + 1)) else (okl_Things_burnFully_30_4 s n (v2 + 1) (v3 + 1)))))))))))))
theorem tl_Things_burnFully_30_4 {len : Nat} {xs : Nat → Int32} (d : Nat)  (s : mS) {T : Option mm_R} (K : Int32 × Int32 → Prop) (hX : ∀ r, K r → ∀ (o4 : Option Value) (o5 : Option Value), mm_fix (mm_X len xs) mm_Y (mm_call (mm_X len xs) mm_Y (d + 0)) (mm_look mc_Things_burnFully) (83, [some (.ref 12), some (.ref 30), some (.int r.1), some (.int r.2), o4, o5], [], mT s) = T) : ∀ (n : Nat), ∀ (v2 : Int32) (v3 : Int32) (o4 : Option Value) (o5 : Option Value), okl_Things_burnFully_30_4 s n v2 v3 → K (lp_Things_burnFully_30_4 s n v2 v3) → mm_fix (mm_X len xs) mm_Y (mm_call (mm_X len xs) mm_Y (d + 0)) (mm_look mc_Things_burnFully) (4, [some (.ref 12), some (.ref 30), some (.int v2), some (.int v3), o4, o5], [], mT s) = T := by
  intro n
  induction n with
  | zero => intro v2 v3 o4 o5; exact fun h => h.elim
  | succ n ih =>
    intro v2 v3 o4 o5
    rw [okl_Things_burnFully_30_4, lp_Things_burnFully_30_4]
    refine w_go K 3 (c' := (9, [some (.ref 12), some (.ref 30), some (.int v2), some (.int v3), o4, o5], [.int (gI s 12 12), .int v3], mT s)) rfl ?_
    refine w_br K rfl (fun _ => ?_) (fun _ => ?_)
    · refine w_go K 0 (c' := (83, [some (.ref 12), some (.ref 30), some (.int v2), some (.int v3), o4, o5], [], mT s)) rfl ?_
      exact fun _ b => hX _ b _ _
    · refine w_go K 2 (c' := (15, [some (.ref 12), some (.ref 30), some (.int v2), some (.int v3), o4, o5], [.int 40, .int v3], mT s)) rfl ?_
      refine w_br K rfl (fun _ => ?_) (fun _ => ?_)
      · refine w_go K 0 (c' := (83, [some (.ref 12), some (.ref 30), some (.int v2), some (.int v3), o4, o5], [], mT s)) rfl ?_
        exact fun _ b => hX _ b _ _
      · refine w_go K 3 (c' := (23, [some (.ref 12), some (.ref 30), some (.int v2), some (.int v3), o4, o5], [.int v3, .ref 13], mT s)) rfl ?_
        refine w_ck K rfl ?_
        refine w_go K 2 (c' := (28, [some (.ref 12), some (.ref 30), some (.int v2), some (.int v3), some (.int (gI s 13 (ix v3))), o5], [.int (gI s 13 (ix v3))], mT s)) rfl ?_
        refine w_br K rfl (fun _ => ?_) (fun _ => ?_)
        · refine w_go K 5 (c' := (53, [some (.ref 12), some (.ref 30), some (.int v2), some (.int v3), some (.int (gI s 13 (ix v3))), some (.int 0)], [.int v3, .ref 14], mT s)) rfl ?_
          refine w_ck K rfl ?_
          refine w_go K 1 (c' := (55, [some (.ref 12), some (.ref 30), some (.int v2), some (.int v3), some (.int (gI s 13 (ix v3))), some (.int 0)], [.int 3, .int (gI s 14 (ix v3))], mT s)) rfl ?_
          refine w_br K rfl (fun _ => ?_) (fun _ => ?_)
          · refine w_go K 2 (c' := (4, [some (.ref 12), some (.ref 30), some (.int v2), some (.int (v3 + 1)), some (.int (gI s 13 (ix v3))), some (.int 0)], [], mT s)) rfl ?_
            exact fun a b => ih v2 (v3 + 1) _ _ a b
          · refine w_go K 3 (c' := (63, [some (.ref 12), some (.ref 30), some (.int v2), some (.int v3), some (.int (gI s 13 (ix v3))), some (.int 0)], [.int v3, .ref 23], mT s)) rfl ?_
            refine w_ck K rfl ?_
            refine w_go K 0 (c' := (64, [some (.ref 12), some (.ref 30), some (.int v2), some (.int v3), some (.int (gI s 13 (ix v3))), some (.int 0)], [.int (gI s 23 (ix v3))], mT s)) rfl ?_
            refine w_br K rfl (fun _ => ?_) (fun _ => ?_)
            · refine w_go K 2 (c' := (4, [some (.ref 12), some (.ref 30), some (.int v2), some (.int (v3 + 1)), some (.int (gI s 13 (ix v3))), some (.int 0)], [], mT s)) rfl ?_
              exact fun a b => ih v2 (v3 + 1) _ _ a b
            · refine w_go K 5 (c' := (4, [some (.ref 12), some (.ref 30), some (.int v2), some (.int (v3 + 1)), some (.int (gI s 13 (ix v3))), some (.int 0)], [], mT s)) rfl ?_
              exact fun a b => ih v2 (v3 + 1) _ _ a b
        · refine w_go K 3 (c' := (35, [some (.ref 12), some (.ref 30), some (.int v2), some (.int v3), some (.int (gI s 13 (ix v3))), o5], [.int 16, .int (gI s 13 (ix v3))], mT s)) rfl ?_
          refine w_br K rfl (fun _ => ?_) (fun _ => ?_)
          · refine w_go K 5 (c' := (53, [some (.ref 12), some (.ref 30), some (.int v2), some (.int v3), some (.int (gI s 13 (ix v3))), some (.int 0)], [.int v3, .ref 14], mT s)) rfl ?_
            refine w_ck K rfl ?_
            refine w_go K 1 (c' := (55, [some (.ref 12), some (.ref 30), some (.int v2), some (.int v3), some (.int (gI s 13 (ix v3))), some (.int 0)], [.int 3, .int (gI s 14 (ix v3))], mT s)) rfl ?_
            refine w_br K rfl (fun _ => ?_) (fun _ => ?_)
            · refine w_go K 2 (c' := (4, [some (.ref 12), some (.ref 30), some (.int v2), some (.int (v3 + 1)), some (.int (gI s 13 (ix v3))), some (.int 0)], [], mT s)) rfl ?_
              exact fun a b => ih v2 (v3 + 1) _ _ a b
            · refine w_go K 3 (c' := (63, [some (.ref 12), some (.ref 30), some (.int v2), some (.int v3), some (.int (gI s 13 (ix v3))), some (.int 0)], [.int v3, .ref 23], mT s)) rfl ?_
              refine w_ck K rfl ?_
              refine w_go K 0 (c' := (64, [some (.ref 12), some (.ref 30), some (.int v2), some (.int v3), some (.int (gI s 13 (ix v3))), some (.int 0)], [.int (gI s 23 (ix v3))], mT s)) rfl ?_
              refine w_br K rfl (fun _ => ?_) (fun _ => ?_)
              · refine w_go K 2 (c' := (4, [some (.ref 12), some (.ref 30), some (.int v2), some (.int (v3 + 1)), some (.int (gI s 13 (ix v3))), some (.int 0)], [], mT s)) rfl ?_
                exact fun a b => ih v2 (v3 + 1) _ _ a b
              · refine w_go K 5 (c' := (4, [some (.ref 12), some (.ref 30), some (.int v2), some (.int (v3 + 1)), some (.int (gI s 13 (ix v3))), some (.int 0)], [], mT s)) rfl ?_
                exact fun a b => ih v2 (v3 + 1) _ _ a b
          · refine w_go K 2 (c' := (41, [some (.ref 12), some (.ref 30), some (.int v2), some (.int v3), some (.int (gI s 13 (ix v3))), o5], [.int (gI s 13 (ix v3)), .ref 30], mT s)) rfl ?_
            refine w_ck K rfl ?_
            refine w_go K 5 (c' := (53, [some (.ref 12), some (.ref 30), some (.int v2), some (.int v3), some (.int (gI s 13 (ix v3))), some (.int (gI s 30 (ix (gI s 13 (ix v3)))))], [.int v3, .ref 14], mT s)) rfl ?_
            refine w_ck K rfl ?_
            refine w_go K 1 (c' := (55, [some (.ref 12), some (.ref 30), some (.int v2), some (.int v3), some (.int (gI s 13 (ix v3))), some (.int (gI s 30 (ix (gI s 13 (ix v3)))))], [.int 3, .int (gI s 14 (ix v3))], mT s)) rfl ?_
            refine w_br K rfl (fun _ => ?_) (fun _ => ?_)
            · refine w_go K 2 (c' := (4, [some (.ref 12), some (.ref 30), some (.int v2), some (.int (v3 + 1)), some (.int (gI s 13 (ix v3))), some (.int (gI s 30 (ix (gI s 13 (ix v3)))))], [], mT s)) rfl ?_
              exact fun a b => ih v2 (v3 + 1) _ _ a b
            · refine w_go K 3 (c' := (63, [some (.ref 12), some (.ref 30), some (.int v2), some (.int v3), some (.int (gI s 13 (ix v3))), some (.int (gI s 30 (ix (gI s 13 (ix v3)))))], [.int v3, .ref 23], mT s)) rfl ?_
              refine w_ck K rfl ?_
              refine w_go K 0 (c' := (64, [some (.ref 12), some (.ref 30), some (.int v2), some (.int v3), some (.int (gI s 13 (ix v3))), some (.int (gI s 30 (ix (gI s 13 (ix v3)))))], [.int (gI s 23 (ix v3))], mT s)) rfl ?_
              refine w_br K rfl (fun _ => ?_) (fun _ => ?_)
              · refine w_go K 2 (c' := (4, [some (.ref 12), some (.ref 30), some (.int v2), some (.int (v3 + 1)), some (.int (gI s 13 (ix v3))), some (.int (gI s 30 (ix (gI s 13 (ix v3)))))], [], mT s)) rfl ?_
                exact fun a b => ih v2 (v3 + 1) _ _ a b
              · refine w_go K 2 (c' := (71, [some (.ref 12), some (.ref 30), some (.int v2), some (.int v3), some (.int (gI s 13 (ix v3))), some (.int (gI s 30 (ix (gI s 13 (ix v3)))))], [.int 20, .int (gI s 30 (ix (gI s 13 (ix v3))))], mT s)) rfl ?_
                refine w_br K rfl (fun _ => ?_) (fun _ => ?_)
                · refine w_go K 2 (c' := (4, [some (.ref 12), some (.ref 30), some (.int v2), some (.int (v3 + 1)), some (.int (gI s 13 (ix v3))), some (.int (gI s 30 (ix (gI s 13 (ix v3)))))], [], mT s)) rfl ?_
                  exact fun a b => ih v2 (v3 + 1) _ _ a b
                · refine w_go K 3 (c' := (4, [some (.ref 12), some (.ref 30), some (.int (v2 + 1)), some (.int (v3 + 1)), some (.int (gI s 13 (ix v3))), some (.int (gI s 30 (ix (gI s 13 (ix v3)))))], [], mT s)) rfl ?_
                  exact fun a b => ih (v2 + 1) (v3 + 1) _ _ a b
def f_Things_burnFully_30 (s : mS) : Int32 := (lp_Things_burnFully_30_4 s mm_N (0 : Int32) (0 : Int32)).1
def ok_Things_burnFully_30 (s : mS) : Prop := (okl_Things_burnFully_30_4 s mm_N (0 : Int32) (0 : Int32) ∧ True)
theorem t_Things_burnFully_30 {len : Nat} {xs : Nat → Int32} (d : Nat) (s : mS) {T : Option mm_R} (K : Int32 → Prop) (hK : ∀ t, K t → some (some (.int t), mT s) = T) : ok_Things_burnFully_30 s → K (f_Things_burnFully_30 s) → mm_fix (mm_X len xs) mm_Y (mm_call (mm_X len xs) mm_Y (d + 0)) (mm_look mc_Things_burnFully) (0, [some (.ref 12), some (.ref 30), none, none, none, none], [], mT s) = T := by
  unfold ok_Things_burnFully_30 f_Things_burnFully_30
  refine w_go K 4 (c' := (4, [some (.ref 12), some (.ref 30), some (.int 0), some (.int 0), none, none], [], mT s)) rfl ?_
  refine w_loop K (D := ∀ (q1 : Option Value) (q2 : Option Value), mm_fix (mm_X len xs) mm_Y (mm_call (mm_X len xs) mm_Y (d + 0)) (mm_look mc_Things_burnFully) (83, [some (.ref 12), some (.ref 30), some (.int ((lp_Things_burnFully_30_4 s mm_N (0 : Int32) (0 : Int32)).1)), some (.int ((lp_Things_burnFully_30_4 s mm_N (0 : Int32) (0 : Int32)).2)), q1, q2], [], mT s) = T) (fun h1 h2 => tl_Things_burnFully_30_4 (len := len) (xs := xs) d s (T := T) (K := fun r => r = lp_Things_burnFully_30_4 s mm_N (0 : Int32) (0 : Int32)) (fun r hr => by subst hr; exact h2) mm_N (0 : Int32) (0 : Int32) _ _ h1 rfl) (fun h1 h2 q1 q2 => ?_)
  revert h1 h2
  refine w_go K 1 (c' := (84, [some (.ref 12), some (.ref 30), some (.int ((lp_Things_burnFully_30_4 s mm_N (0 : Int32) (0 : Int32)).1)), some (.int ((lp_Things_burnFully_30_4 s mm_N (0 : Int32) (0 : Int32)).2)), q1, q2], [.int ((lp_Things_burnFully_30_4 s mm_N (0 : Int32) (0 : Int32)).1)], mT s)) rfl ?_
  exact w_ret K rfl (hK _)
theorem m_Things_burnFully_30 {len : Nat} {xs : Nat → Int32} (d : Nat) (s : mS) : ok_Things_burnFully_30 s → mm_call (mm_X len xs) mm_Y (d + 1) 151 [.ref 12, .ref 30] (mT s) = some (some (.int (f_Things_burnFully_30 s)), mT s) := fun h => t_Things_burnFully_30 (len := len) (xs := xs) d s (fun t => (some (some (.int t), mT s) : Option mm_R) = some (some (.int (f_Things_burnFully_30 s)), mT s)) (fun _ h => h) h rfl
def lp_Improvements_choose_8 (a1 : Int32)  : Nat → Int32 → mS → Int32 × mS
  | 0, v4, s => (v4, s)
  | n + 1, v4, s => (if ((1 : Int32) <<< ((gI s 111 4) &&& 31)) ≤ v4 then (v4, s) else (if (f_Improvements_priceOf v4 s) ≤ a1 then (if (gI ((f_Net_settle_115 (f_Improvements_putIn v4 s)).2) 111 6) < (f_Things_burnFully_30 ((f_Net_settle_115 (f_Improvements_putIn v4 s)).2)) then (lp_Improvements_choose_8 a1 n (v4 + 1) (sI (sI (sI ((f_Net_settle_115 (f_Improvements_putIn v4 s)).2) 111 5 v4) 111 6 (f_Things_burnFully_30 ((f_Net_settle_115 (f_Improvements_putIn v4 s)).2))) 111 7 (f_Improvements_priceOf v4 s))) else (if (f_Things_burnFully_30 ((f_Net_settle_115 (f_Improvements_putIn v4 s)).2)) = (gI ((f_Net_settle_115 (f_Improvements_putIn v4 s)).2) 111 6) then (if (gI ((f_Net_settle_115 (f_Improvements_putIn v4 s)).2) 111 7) ≤ (f_Improvements_priceOf v4 s) then (lp_Improvements_choose_8 a1 n (v4 + 1) ((f_Net_settle_115 (f_Improvements_putIn v4 s)).2)) else (lp_Improvements_choose_8 a1 n (v4 + 1) (sI (sI (sI ((f_Net_settle_115 (f_Improvements_putIn v4 s)).2) 111 5 v4) 111 6 (f_Things_burnFully_30 ((f_Net_settle_115 (f_Improvements_putIn v4 s)).2))) 111 7 (f_Improvements_priceOf v4 s)))) else (lp_Improvements_choose_8 a1 n (v4 + 1) ((f_Net_settle_115 (f_Improvements_putIn v4 s)).2)))) else (lp_Improvements_choose_8 a1 n (v4 + 1) s)))
def okl_Improvements_choose_8 (a1 : Int32)  : Nat → Int32 → mS → Prop
  | 0, v4, s => False
  | n + 1, v4, s => (if ((1 : Int32) <<< ((gI s 111 4) &&& 31)) ≤ v4 then True else (ok_Improvements_priceOf v4 s ∧ (if (f_Improvements_priceOf v4 s) ≤ a1 then (ok_Improvements_putIn v4 s ∧ (ok_Net_settle_115 (f_Improvements_putIn v4 s) ∧ (ok_Things_burnFully_30 ((f_Net_settle_115 (f_Improvements_putIn v4 s)).2) ∧ (if (gI ((f_Net_settle_115 (f_Improvements_putIn v4 s)).2) 111 6) < (f_Things_burnFully_30 ((f_Net_settle_115 (f_Improvements_putIn v4 s)).2)) then (okl_Improvements_choose_8 a1 n (v4 + 1) (sI (sI (sI ((f_Net_settle_115 (f_Improvements_putIn v4 s)).2) 111 5 v4) 111 6 (f_Things_burnFully_30 ((f_Net_settle_115 (f_Improvements_putIn v4 s)).2))) 111 7 (f_Improvements_priceOf v4 s))) else (if (f_Things_burnFully_30 ((f_Net_settle_115 (f_Improvements_putIn v4 s)).2)) = (gI ((f_Net_settle_115 (f_Improvements_putIn v4 s)).2) 111 6) then (if (gI ((f_Net_settle_115 (f_Improvements_putIn v4 s)).2) 111 7) ≤ (f_Improvements_priceOf v4 s) then (okl_Improvements_choose_8 a1 n (v4 + 1) ((f_Net_settle_115 (f_Improvements_putIn v4 s)).2)) else (okl_Improvements_choose_8 a1 n (v4 + 1) (sI (sI (sI ((f_Net_settle_115 (f_Improvements_putIn v4 s)).2) 111 5 v4) 111 6 (f_Things_burnFully_30 ((f_Net_settle_115 (f_Improvements_putIn v4 s)).2))) 111 7 (f_Improvements_priceOf v4 s)))) else (okl_Improvements_choose_8 a1 n (v4 + 1) ((f_Net_settle_115 (f_Improvements_putIn v4 s)).2))))))) else (okl_Improvements_choose_8 a1 n (v4 + 1) s))))
theorem tl_Improvements_choose_8 {len : Nat} {xs : Nat → Int32} (d : Nat) (a1 : Int32)  {T : Option mm_R} (K : Int32 × mS → Prop) (hX : ∀ r, K r → ∀ (o5 : Option Value) (o6 : Option Value), mm_fix (mm_X len xs) mm_Y (mm_call (mm_X len xs) mm_Y (d + 5)) (mm_look mc_Improvements_choose) (114, [some (.ref 111), some (.int a1), some (.ref 25), some (.ref 12), some (.int r.1), o5, o6], [], mT r.2) = T) : ∀ (n : Nat), ∀ (v4 : Int32) (o5 : Option Value) (o6 : Option Value) (s : mS), okl_Improvements_choose_8 a1 n v4 s → K (lp_Improvements_choose_8 a1 n v4 s) → mm_fix (mm_X len xs) mm_Y (mm_call (mm_X len xs) mm_Y (d + 5)) (mm_look mc_Improvements_choose) (8, [some (.ref 111), some (.int a1), some (.ref 25), some (.ref 12), some (.int v4), o5, o6], [], mT s) = T := by
  intro n
  induction n with
  | zero => intro v4 o5 o6 s; exact fun h => h.elim
  | succ n ih =>
    intro v4 o5 o6 s
    rw [okl_Improvements_choose_8, lp_Improvements_choose_8]
    refine w_go K 5 (c' := (16, [some (.ref 111), some (.int a1), some (.ref 25), some (.ref 12), some (.int v4), o5, o6], [.int ((1 : Int32) <<< ((gI s 111 4) &&& 31)), .int v4], mT s)) rfl ?_
    refine w_br K rfl (fun _ => ?_) (fun _ => ?_)
    · refine w_go K 0 (c' := (114, [some (.ref 111), some (.int a1), some (.ref 25), some (.ref 12), some (.int v4), o5, o6], [], mT s)) rfl ?_
      exact fun _ b => hX _ b _ _
    · refine w_go K 2 (c' := (22, [some (.ref 111), some (.int a1), some (.ref 25), some (.ref 12), some (.int v4), o5, o6], [.int v4, .ref 111], mT s)) rfl ?_
      refine w_call K rfl (m_Improvements_priceOf (len := len) (xs := xs) (d + 4) v4 s) ?_
      refine w_go K 3 (c' := (30, [some (.ref 111), some (.int a1), some (.ref 25), some (.ref 12), some (.int v4), some (.int (f_Improvements_priceOf v4 s)), o6], [.int a1, .int (f_Improvements_priceOf v4 s)], mT s)) rfl ?_
      refine w_br K rfl (fun _ => ?_) (fun _ => ?_)
      · refine w_go K 3 (c' := (40, [some (.ref 111), some (.int a1), some (.ref 25), some (.ref 12), some (.int v4), some (.int (f_Improvements_priceOf v4 s)), o6], [.ref 25, .int v4, .ref 111], mT s)) rfl ?_
        refine w_call K rfl (m_Improvements_putIn (len := len) (xs := xs) (d + 4) v4 s) ?_
        refine w_go K 4 (c' := (49, [some (.ref 111), some (.int a1), some (.ref 25), some (.ref 12), some (.int v4), some (.int (f_Improvements_priceOf v4 s)), o6], [.ref 115, .ref 12, .ref 25], mT (f_Improvements_putIn v4 s))) rfl ?_
        refine w_call K rfl (m_Net_settle_115 (len := len) (xs := xs) (d + 0) (f_Improvements_putIn v4 s)) ?_
        refine w_go K 4 (c' := (58, [some (.ref 111), some (.int a1), some (.ref 25), some (.ref 12), some (.int v4), some (.int (f_Improvements_priceOf v4 s)), o6], [.ref 30, .ref 12], mT ((f_Net_settle_115 (f_Improvements_putIn v4 s)).2))) rfl ?_
        refine w_call K rfl (m_Things_burnFully_30 (len := len) (xs := xs) (d + 4) ((f_Net_settle_115 (f_Improvements_putIn v4 s)).2)) ?_
        refine w_go K 4 (c' := (69, [some (.ref 111), some (.int a1), some (.ref 25), some (.ref 12), some (.int v4), some (.int (f_Improvements_priceOf v4 s)), some (.int (f_Things_burnFully_30 ((f_Net_settle_115 (f_Improvements_putIn v4 s)).2)))], [.int (gI ((f_Net_settle_115 (f_Improvements_putIn v4 s)).2) 111 6), .int (f_Things_burnFully_30 ((f_Net_settle_115 (f_Improvements_putIn v4 s)).2))], mT ((f_Net_settle_115 (f_Improvements_putIn v4 s)).2))) rfl ?_
        refine w_br K rfl (fun _ => ?_) (fun _ => ?_)
        · refine w_go K 11 (c' := (8, [some (.ref 111), some (.int a1), some (.ref 25), some (.ref 12), some (.int (v4 + 1)), some (.int (f_Improvements_priceOf v4 s)), some (.int (f_Things_burnFully_30 ((f_Net_settle_115 (f_Improvements_putIn v4 s)).2)))], [], mT (sI (sI (sI ((f_Net_settle_115 (f_Improvements_putIn v4 s)).2) 111 5 v4) 111 6 (f_Things_burnFully_30 ((f_Net_settle_115 (f_Improvements_putIn v4 s)).2))) 111 7 (f_Improvements_priceOf v4 s)))) rfl ?_
          exact fun a b => ih (v4 + 1) _ _ (sI (sI (sI ((f_Net_settle_115 (f_Improvements_putIn v4 s)).2) 111 5 v4) 111 6 (f_Things_burnFully_30 ((f_Net_settle_115 (f_Improvements_putIn v4 s)).2))) 111 7 (f_Improvements_priceOf v4 s)) a b
        · refine w_go K 3 (c' := (78, [some (.ref 111), some (.int a1), some (.ref 25), some (.ref 12), some (.int v4), some (.int (f_Improvements_priceOf v4 s)), some (.int (f_Things_burnFully_30 ((f_Net_settle_115 (f_Improvements_putIn v4 s)).2)))], [.int (gI ((f_Net_settle_115 (f_Improvements_putIn v4 s)).2) 111 6), .int (f_Things_burnFully_30 ((f_Net_settle_115 (f_Improvements_putIn v4 s)).2))], mT ((f_Net_settle_115 (f_Improvements_putIn v4 s)).2))) rfl ?_
          refine w_br K rfl (fun _ => ?_) (fun _ => ?_)
          · refine w_go K 3 (c' := (87, [some (.ref 111), some (.int a1), some (.ref 25), some (.ref 12), some (.int v4), some (.int (f_Improvements_priceOf v4 s)), some (.int (f_Things_burnFully_30 ((f_Net_settle_115 (f_Improvements_putIn v4 s)).2)))], [.int (gI ((f_Net_settle_115 (f_Improvements_putIn v4 s)).2) 111 7), .int (f_Improvements_priceOf v4 s)], mT ((f_Net_settle_115 (f_Improvements_putIn v4 s)).2))) rfl ?_
            refine w_br K rfl (fun _ => ?_) (fun _ => ?_)
            · refine w_go K 2 (c' := (8, [some (.ref 111), some (.int a1), some (.ref 25), some (.ref 12), some (.int (v4 + 1)), some (.int (f_Improvements_priceOf v4 s)), some (.int (f_Things_burnFully_30 ((f_Net_settle_115 (f_Improvements_putIn v4 s)).2)))], [], mT ((f_Net_settle_115 (f_Improvements_putIn v4 s)).2))) rfl ?_
              exact fun a b => ih (v4 + 1) _ _ ((f_Net_settle_115 (f_Improvements_putIn v4 s)).2) a b
            · refine w_go K 11 (c' := (8, [some (.ref 111), some (.int a1), some (.ref 25), some (.ref 12), some (.int (v4 + 1)), some (.int (f_Improvements_priceOf v4 s)), some (.int (f_Things_burnFully_30 ((f_Net_settle_115 (f_Improvements_putIn v4 s)).2)))], [], mT (sI (sI (sI ((f_Net_settle_115 (f_Improvements_putIn v4 s)).2) 111 5 v4) 111 6 (f_Things_burnFully_30 ((f_Net_settle_115 (f_Improvements_putIn v4 s)).2))) 111 7 (f_Improvements_priceOf v4 s)))) rfl ?_
              exact fun a b => ih (v4 + 1) _ _ (sI (sI (sI ((f_Net_settle_115 (f_Improvements_putIn v4 s)).2) 111 5 v4) 111 6 (f_Things_burnFully_30 ((f_Net_settle_115 (f_Improvements_putIn v4 s)).2))) 111 7 (f_Improvements_priceOf v4 s)) a b
          · refine w_go K 2 (c' := (8, [some (.ref 111), some (.int a1), some (.ref 25), some (.ref 12), some (.int (v4 + 1)), some (.int (f_Improvements_priceOf v4 s)), some (.int (f_Things_burnFully_30 ((f_Net_settle_115 (f_Improvements_putIn v4 s)).2)))], [], mT ((f_Net_settle_115 (f_Improvements_putIn v4 s)).2))) rfl ?_
            exact fun a b => ih (v4 + 1) _ _ ((f_Net_settle_115 (f_Improvements_putIn v4 s)).2) a b
      · refine w_go K 3 (c' := (8, [some (.ref 111), some (.int a1), some (.ref 25), some (.ref 12), some (.int (v4 + 1)), some (.int (f_Improvements_priceOf v4 s)), o6], [], mT s)) rfl ?_
        exact fun a b => ih (v4 + 1) _ _ s a b
def f_Improvements_choose (a1 : Int32) (s : mS) : mS := (lp_Improvements_choose_8 a1 mm_N (0 : Int32) (sI s 111 6 (-1))).2
def ok_Improvements_choose (a1 : Int32) (s : mS) : Prop := (okl_Improvements_choose_8 a1 mm_N (0 : Int32) (sI s 111 6 (-1)) ∧ True)
theorem t_Improvements_choose {len : Nat} {xs : Nat → Int32} (d : Nat) (a1 : Int32) (s : mS) {T : Option mm_R} (K : mS → Prop) (hK : ∀ t, K t → some (none, mT t) = T) : ok_Improvements_choose a1 s → K (f_Improvements_choose a1 s) → mm_fix (mm_X len xs) mm_Y (mm_call (mm_X len xs) mm_Y (d + 5)) (mm_look mc_Improvements_choose) (0, [some (.ref 111), some (.int a1), some (.ref 25), some (.ref 12), none, none, none], [], mT s) = T := by
  unfold ok_Improvements_choose f_Improvements_choose
  refine w_go K 5 (c' := (8, [some (.ref 111), some (.int a1), some (.ref 25), some (.ref 12), some (.int 0), none, none], [], mT (sI s 111 6 (-1)))) rfl ?_
  refine w_loop K (D := ∀ (q1 : Option Value) (q2 : Option Value), mm_fix (mm_X len xs) mm_Y (mm_call (mm_X len xs) mm_Y (d + 5)) (mm_look mc_Improvements_choose) (114, [some (.ref 111), some (.int a1), some (.ref 25), some (.ref 12), some (.int ((lp_Improvements_choose_8 a1 mm_N (0 : Int32) (sI s 111 6 (-1))).1)), q1, q2], [], mT ((lp_Improvements_choose_8 a1 mm_N (0 : Int32) (sI s 111 6 (-1))).2)) = T) (fun h1 h2 => tl_Improvements_choose_8 (len := len) (xs := xs) d a1 (T := T) (K := fun r => r = lp_Improvements_choose_8 a1 mm_N (0 : Int32) (sI s 111 6 (-1))) (fun r hr => by subst hr; exact h2) mm_N (0 : Int32) _ _ (sI s 111 6 (-1)) h1 rfl) (fun h1 h2 q1 q2 => ?_)
  revert h1 h2
  refine w_go K 0 (c' := (114, [some (.ref 111), some (.int a1), some (.ref 25), some (.ref 12), some (.int ((lp_Improvements_choose_8 a1 mm_N (0 : Int32) (sI s 111 6 (-1))).1)), q1, q2], [], mT ((lp_Improvements_choose_8 a1 mm_N (0 : Int32) (sI s 111 6 (-1))).2))) rfl ?_
  exact w_ret K rfl (hK _)
theorem m_Improvements_choose {len : Nat} {xs : Nat → Int32} (d : Nat) (a1 : Int32) (s : mS) : ok_Improvements_choose a1 s → mm_call (mm_X len xs) mm_Y (d + 6) 148 [.ref 111, .int a1, .ref 25, .ref 12] (mT s) = some (none, mT (f_Improvements_choose a1 s)) := fun h => t_Improvements_choose (len := len) (xs := xs) d a1 s (fun t => (some (none, mT t) : Option mm_R) = some (none, mT (f_Improvements_choose a1 s))) (fun _ h => h) h rfl
def f_G_choice (a1 : Int32) (a2 : Int32) (a3 : Int32) (s : mS) : Int32 × mS := (if (f_G_within a1 (0 : Int32) (9999 : Int32) s) = 0 then ((-1), s) else (if (f_G_within a2 (0 : Int32) (3999 : Int32) s) = 0 then ((-1), s) else (if (f_G_within a3 (0 : Int32) (2 : Int32) s) = 0 then ((-1), s) else (if a3 = 0 then ((gI (f_Improvements_choose a1 (f_Things_askAll a2 s)) 111 5), f_Improvements_choose a1 (f_Things_askAll a2 s)) else (if a3 = 1 then ((gI (f_Improvements_choose a1 (f_Things_askAll a2 s)) 111 6), f_Improvements_choose a1 (f_Things_askAll a2 s)) else ((gI (f_Improvements_choose a1 (f_Things_askAll a2 s)) 111 7), f_Improvements_choose a1 (f_Things_askAll a2 s)))))))
def ok_G_choice (a1 : Int32) (a2 : Int32) (a3 : Int32) (s : mS) : Prop := (if (f_G_within a1 (0 : Int32) (9999 : Int32) s) = 0 then True else (if (f_G_within a2 (0 : Int32) (3999 : Int32) s) = 0 then True else (if (f_G_within a3 (0 : Int32) (2 : Int32) s) = 0 then True else (ok_Things_askAll a2 s ∧ (ok_Improvements_choose a1 (f_Things_askAll a2 s) ∧ True)))))
theorem t_G_choice {len : Nat} {xs : Nat → Int32} (d : Nat) (a1 : Int32) (a2 : Int32) (a3 : Int32) (s : mS) {T : Option mm_R} (K : Int32 × mS → Prop) (hK : ∀ t, K t → some (some (.int t.1), mT t.2) = T) : ok_G_choice a1 a2 a3 s → K (f_G_choice a1 a2 a3 s) → mm_fix (mm_X len xs) mm_Y (mm_call (mm_X len xs) mm_Y (d + 6)) (mm_look mc_G_choice) (0, [some (.ref 0), some (.int a1), some (.int a2), some (.int a3)], [], mT s) = T := by
  unfold ok_G_choice f_G_choice
  refine w_go K 3 (c' := (5, [some (.ref 0), some (.int a1), some (.int a2), some (.int a3)], [.int 9999, .int 0, .int a1], mT s)) rfl ?_
  refine w_callT K rfl (m_G_within (len := len) (xs := xs) (d + 5) a1 (0 : Int32) (9999 : Int32) s) ?_
  refine w_go K 0 (c' := (8, [some (.ref 0), some (.int a1), some (.int a2), some (.int a3)], [.int (f_G_within a1 (0 : Int32) (9999 : Int32) s)], mT s)) rfl ?_
  refine w_br K rfl (fun _ => ?_) (fun _ => ?_)
  · refine w_go K 1 (c' := (32, [some (.ref 0), some (.int a1), some (.int a2), some (.int a3)], [.int (-1)], mT s)) rfl ?_
    exact w_ret K rfl (hK _)
  · refine w_go K 3 (c' := (16, [some (.ref 0), some (.int a1), some (.int a2), some (.int a3)], [.int 3999, .int 0, .int a2], mT s)) rfl ?_
    refine w_callT K rfl (m_G_within (len := len) (xs := xs) (d + 5) a2 (0 : Int32) (3999 : Int32) s) ?_
    refine w_go K 0 (c' := (19, [some (.ref 0), some (.int a1), some (.int a2), some (.int a3)], [.int (f_G_within a2 (0 : Int32) (3999 : Int32) s)], mT s)) rfl ?_
    refine w_br K rfl (fun _ => ?_) (fun _ => ?_)
    · refine w_go K 1 (c' := (32, [some (.ref 0), some (.int a1), some (.int a2), some (.int a3)], [.int (-1)], mT s)) rfl ?_
      exact w_ret K rfl (hK _)
    · refine w_go K 3 (c' := (25, [some (.ref 0), some (.int a1), some (.int a2), some (.int a3)], [.int 2, .int 0, .int a3], mT s)) rfl ?_
      refine w_callT K rfl (m_G_within (len := len) (xs := xs) (d + 5) a3 (0 : Int32) (2 : Int32) s) ?_
      refine w_go K 0 (c' := (28, [some (.ref 0), some (.int a1), some (.int a2), some (.int a3)], [.int (f_G_within a3 (0 : Int32) (2 : Int32) s)], mT s)) rfl ?_
      refine w_br K rfl (fun _ => ?_) (fun _ => ?_)
      · refine w_go K 1 (c' := (32, [some (.ref 0), some (.int a1), some (.int a2), some (.int a3)], [.int (-1)], mT s)) rfl ?_
        exact w_ret K rfl (hK _)
      · refine w_go K 5 (c' := (42, [some (.ref 0), some (.int a1), some (.int a2), some (.int a3)], [.ref 1, .int a2, .ref 12], mT s)) rfl ?_
        refine w_call K rfl (m_Things_askAll (len := len) (xs := xs) (d + 1) a2 s) ?_
        refine w_go K 7 (c' := (58, [some (.ref 0), some (.int a1), some (.int a2), some (.int a3)], [.ref 12, .ref 25, .int a1, .ref 111], mT (f_Things_askAll a2 s))) rfl ?_
        refine w_call K rfl (m_Improvements_choose (len := len) (xs := xs) (d + 0) a1 (f_Things_askAll a2 s)) ?_
        refine w_go K 1 (c' := (62, [some (.ref 0), some (.int a1), some (.int a2), some (.int a3)], [.int a3], mT (f_Improvements_choose a1 (f_Things_askAll a2 s)))) rfl ?_
        refine w_go K 1 (c' := (mm_sw [(0, 88), (1, 96)] 104 a3, [some (.ref 0), some (.int a1), some (.int a2), some (.int a3)], [], mT (f_Improvements_choose a1 (f_Things_askAll a2 s)))) rfl ?_
        refine w_swT K (fun _ => ?_) (fun _ => ?_)
        · refine w_go K 3 (c' := (95, [some (.ref 0), some (.int a1), some (.int a2), some (.int a3)], [.int (gI (f_Improvements_choose a1 (f_Things_askAll a2 s)) 111 5)], mT (f_Improvements_choose a1 (f_Things_askAll a2 s)))) rfl ?_
          exact w_ret K rfl (hK _)
        · refine w_swT K (fun _ => ?_) (fun _ => ?_)
          · refine w_go K 3 (c' := (103, [some (.ref 0), some (.int a1), some (.int a2), some (.int a3)], [.int (gI (f_Improvements_choose a1 (f_Things_askAll a2 s)) 111 6)], mT (f_Improvements_choose a1 (f_Things_askAll a2 s)))) rfl ?_
            exact w_ret K rfl (hK _)
          · refine w_go K 0 (c' := (104, [some (.ref 0), some (.int a1), some (.int a2), some (.int a3)], [], mT (f_Improvements_choose a1 (f_Things_askAll a2 s)))) rfl ?_
            refine w_go K 3 (c' := (111, [some (.ref 0), some (.int a1), some (.int a2), some (.int a3)], [.int (gI (f_Improvements_choose a1 (f_Things_askAll a2 s)) 111 7)], mT (f_Improvements_choose a1 (f_Things_askAll a2 s)))) rfl ?_
            exact w_ret K rfl (hK _)
theorem m_G_choice {len : Nat} {xs : Nat → Int32} (d : Nat) (a1 : Int32) (a2 : Int32) (a3 : Int32) (s : mS) : ok_G_choice a1 a2 a3 s → mm_call (mm_X len xs) mm_Y (d + 7) 147 [.ref 0, .int a1, .int a2, .int a3] (mT s) = some (some (.int (f_G_choice a1 a2 a3 s).1), mT (f_G_choice a1 a2 a3 s).2) := fun h => t_G_choice (len := len) (xs := xs) d a1 a2 a3 s (fun t => (some (some (.int t.1), mT t.2) : Option mm_R) = some (some (.int (f_G_choice a1 a2 a3 s).1), mT (f_G_choice a1 a2 a3 s).2)) (fun _ h => h) h rfl
def lp_Works_burning_4  (s : mS) : Nat → Int32 → Int32 → Int32 × Int32
  | 0, v1, v2 => (v1, v2)
  | n + 1, v1, v2 => (if (6 : Int32) ≤ v2 then (v1, v2) else (if (gI s 8 (ix v2)) ≤ 0 then (lp_Works_burning_4 s n v1 (v2 + 1)) else (lp_Works_burning_4 s n (v1 + 1) (v2 + 1))))
def okl_Works_burning_4  (s : mS) : Nat → Int32 → Int32 → Prop
  | 0, v1, v2 => False
  | n + 1, v1, v2 => (if (6 : Int32) ≤ v2 then True else (mm_inb v2 6 = true ∧ (if (gI s 8 (ix v2)) ≤ 0 then (okl_Works_burning_4 s n v1 (v2 + 1)) else (okl_Works_burning_4 s n (v1 + 1) (v2 + 1)))))
theorem tl_Works_burning_4 {len : Nat} {xs : Nat → Int32} (d : Nat)  (s : mS) {T : Option mm_R} (K : Int32 × Int32 → Prop) (hX : ∀ r, K r → mm_fix (mm_X len xs) mm_Y (mm_call (mm_X len xs) mm_Y (d + 0)) (mm_look mc_Works_burning) (28, [some (.ref 3), some (.int r.1), some (.int r.2)], [], mT s) = T) : ∀ (n : Nat), ∀ (v1 : Int32) (v2 : Int32), okl_Works_burning_4 s n v1 v2 → K (lp_Works_burning_4 s n v1 v2) → mm_fix (mm_X len xs) mm_Y (mm_call (mm_X len xs) mm_Y (d + 0)) (mm_look mc_Works_burning) (4, [some (.ref 3), some (.int v1), some (.int v2)], [], mT s) = T := by
  intro n
  induction n with
  | zero => intro v1 v2; exact fun h => h.elim
  | succ n ih =>
    intro v1 v2
    rw [okl_Works_burning_4, lp_Works_burning_4]
    refine w_go K 2 (c' := (7, [some (.ref 3), some (.int v1), some (.int v2)], [.int 6, .int v2], mT s)) rfl ?_
    refine w_br K rfl (fun _ => ?_) (fun _ => ?_)
    · refine w_go K 0 (c' := (28, [some (.ref 3), some (.int v1), some (.int v2)], [], mT s)) rfl ?_
      exact fun _ b => hX _ b
    · refine w_go K 3 (c' := (15, [some (.ref 3), some (.int v1), some (.int v2)], [.int v2, .ref 8], mT s)) rfl ?_
      refine w_ck K rfl ?_
      refine w_go K 0 (c' := (16, [some (.ref 3), some (.int v1), some (.int v2)], [.int (gI s 8 (ix v2))], mT s)) rfl ?_
      refine w_br K rfl (fun _ => ?_) (fun _ => ?_)
      · refine w_go K 2 (c' := (4, [some (.ref 3), some (.int v1), some (.int (v2 + 1))], [], mT s)) rfl ?_
        exact fun a b => ih v1 (v2 + 1) a b
      · refine w_go K 3 (c' := (4, [some (.ref 3), some (.int (v1 + 1)), some (.int (v2 + 1))], [], mT s)) rfl ?_
        exact fun a b => ih (v1 + 1) (v2 + 1) a b
def f_Works_burning (s : mS) : Int32 := (lp_Works_burning_4 s mm_N (0 : Int32) (0 : Int32)).1
def ok_Works_burning (s : mS) : Prop := (okl_Works_burning_4 s mm_N (0 : Int32) (0 : Int32) ∧ True)
theorem t_Works_burning {len : Nat} {xs : Nat → Int32} (d : Nat) (s : mS) {T : Option mm_R} (K : Int32 → Prop) (hK : ∀ t, K t → some (some (.int t), mT s) = T) : ok_Works_burning s → K (f_Works_burning s) → mm_fix (mm_X len xs) mm_Y (mm_call (mm_X len xs) mm_Y (d + 0)) (mm_look mc_Works_burning) (0, [some (.ref 3), none, none], [], mT s) = T := by
  unfold ok_Works_burning f_Works_burning
  refine w_go K 4 (c' := (4, [some (.ref 3), some (.int 0), some (.int 0)], [], mT s)) rfl ?_
  refine w_loop K (D := mm_fix (mm_X len xs) mm_Y (mm_call (mm_X len xs) mm_Y (d + 0)) (mm_look mc_Works_burning) (28, [some (.ref 3), some (.int ((lp_Works_burning_4 s mm_N (0 : Int32) (0 : Int32)).1)), some (.int ((lp_Works_burning_4 s mm_N (0 : Int32) (0 : Int32)).2))], [], mT s) = T) (fun h1 h2 => tl_Works_burning_4 (len := len) (xs := xs) d s (T := T) (K := fun r => r = lp_Works_burning_4 s mm_N (0 : Int32) (0 : Int32)) (fun r hr => by subst hr; exact h2) mm_N (0 : Int32) (0 : Int32) h1 rfl) (fun h1 h2 => ?_)
  revert h1 h2
  refine w_go K 1 (c' := (29, [some (.ref 3), some (.int ((lp_Works_burning_4 s mm_N (0 : Int32) (0 : Int32)).1)), some (.int ((lp_Works_burning_4 s mm_N (0 : Int32) (0 : Int32)).2))], [.int ((lp_Works_burning_4 s mm_N (0 : Int32) (0 : Int32)).1)], mT s)) rfl ?_
  exact w_ret K rfl (hK _)
theorem m_Works_burning {len : Nat} {xs : Nat → Int32} (d : Nat) (s : mS) : ok_Works_burning s → mm_call (mm_X len xs) mm_Y (d + 1) 153 [.ref 3] (mT s) = some (some (.int (f_Works_burning s)), mT s) := fun h => t_Works_burning (len := len) (xs := xs) d s (fun t => (some (some (.int t), mT s) : Option mm_R) = some (some (.int (f_Works_burning s)), mT s)) (fun _ h => h) h rfl
def f_G_look (a1 : Int32) (s : mS) : Int64 := (if a1 = 0 then (Int32.toInt64 (gI s 0 9)) else (if a1 = 1 then (Int32.toInt64 (gI s 3 12)) else (if a1 = 2 then (gL s 3 13) else (if a1 = 3 then (gL s 3 14) else (if a1 = 4 then (gL s 0 13) else (if a1 = 5 then (Int32.toInt64 (gI s 0 10)) else (if a1 = 6 then (Int32.toInt64 (gI s 0 11)) else (if a1 = 7 then (Int32.toInt64 (gI s 0 12)) else (if a1 = 8 then (Int32.toInt64 (gI s 3 15)) else (if a1 = 9 then (Int32.toInt64 (gI s 3 16)) else (if a1 = 10 then (gL s 82 13) else (if a1 = 11 then (gL s 82 14) else (if a1 = 12 then (gL s 82 15) else (if a1 = 13 then (Int32.toInt64 (gI s 12 12)) else (if a1 = 14 then (Int32.toInt64 (gI s 25 10)) else (if a1 = 15 then (Int32.toInt64 (f_Works_burning s)) else (-1)))))))))))))))))
def ok_G_look (a1 : Int32) (s : mS) : Prop := (if a1 = 0 then True else (if a1 = 1 then True else (if a1 = 2 then True else (if a1 = 3 then True else (if a1 = 4 then True else (if a1 = 5 then True else (if a1 = 6 then True else (if a1 = 7 then True else (if a1 = 8 then True else (if a1 = 9 then True else (if a1 = 10 then True else (if a1 = 11 then True else (if a1 = 12 then True else (if a1 = 13 then True else (if a1 = 14 then True else (if a1 = 15 then (ok_Works_burning s ∧ True) else True))))))))))))))))
theorem t_G_look {len : Nat} {xs : Nat → Int32} (d : Nat) (a1 : Int32) (s : mS) {T : Option mm_R} (K : Int64 → Prop) (hK : ∀ t, K t → some (some (.long t), mT s) = T) : ok_G_look a1 s → K (f_G_look a1 s) → mm_fix (mm_X len xs) mm_Y (mm_call (mm_X len xs) mm_Y (d + 1)) (mm_look mc_G_look) (0, [some (.ref 0), some (.int a1)], [], mT s) = T := by
  unfold ok_G_look f_G_look
  refine w_go K 1 (c' := (1, [some (.ref 0), some (.int a1)], [.int a1], mT s)) rfl ?_
  refine w_go K 1 (c' := (mm_sw [(0, 80), (1, 86), (2, 95), (3, 103), (4, 111), (5, 116), (6, 122), (7, 128), (8, 134), (9, 143), (10, 152), (11, 160), (12, 168), (13, 176), (14, 185), (15, 194)] 203 a1, [some (.ref 0), some (.int a1)], [], mT s)) rfl ?_
  refine w_sw K (fun _ => ?_) (fun _ => ?_)
  · refine w_go K 3 (c' := (85, [some (.ref 0), some (.int a1)], [.long (Int32.toInt64 (gI s 0 9))], mT s)) rfl ?_
    exact w_ret K rfl (hK _)
  · refine w_sw K (fun _ => ?_) (fun _ => ?_)
    · refine w_go K 4 (c' := (94, [some (.ref 0), some (.int a1)], [.long (Int32.toInt64 (gI s 3 12))], mT s)) rfl ?_
      exact w_ret K rfl (hK _)
    · refine w_sw K (fun _ => ?_) (fun _ => ?_)
      · refine w_go K 3 (c' := (102, [some (.ref 0), some (.int a1)], [.long (gL s 3 13)], mT s)) rfl ?_
        exact w_ret K rfl (hK _)
      · refine w_sw K (fun _ => ?_) (fun _ => ?_)
        · refine w_go K 3 (c' := (110, [some (.ref 0), some (.int a1)], [.long (gL s 3 14)], mT s)) rfl ?_
          exact w_ret K rfl (hK _)
        · refine w_sw K (fun _ => ?_) (fun _ => ?_)
          · refine w_go K 2 (c' := (115, [some (.ref 0), some (.int a1)], [.long (gL s 0 13)], mT s)) rfl ?_
            exact w_ret K rfl (hK _)
          · refine w_sw K (fun _ => ?_) (fun _ => ?_)
            · refine w_go K 3 (c' := (121, [some (.ref 0), some (.int a1)], [.long (Int32.toInt64 (gI s 0 10))], mT s)) rfl ?_
              exact w_ret K rfl (hK _)
            · refine w_sw K (fun _ => ?_) (fun _ => ?_)
              · refine w_go K 3 (c' := (127, [some (.ref 0), some (.int a1)], [.long (Int32.toInt64 (gI s 0 11))], mT s)) rfl ?_
                exact w_ret K rfl (hK _)
              · refine w_sw K (fun _ => ?_) (fun _ => ?_)
                · refine w_go K 3 (c' := (133, [some (.ref 0), some (.int a1)], [.long (Int32.toInt64 (gI s 0 12))], mT s)) rfl ?_
                  exact w_ret K rfl (hK _)
                · refine w_sw K (fun _ => ?_) (fun _ => ?_)
                  · refine w_go K 4 (c' := (142, [some (.ref 0), some (.int a1)], [.long (Int32.toInt64 (gI s 3 15))], mT s)) rfl ?_
                    exact w_ret K rfl (hK _)
                  · refine w_sw K (fun _ => ?_) (fun _ => ?_)
                    · refine w_go K 4 (c' := (151, [some (.ref 0), some (.int a1)], [.long (Int32.toInt64 (gI s 3 16))], mT s)) rfl ?_
                      exact w_ret K rfl (hK _)
                    · refine w_sw K (fun _ => ?_) (fun _ => ?_)
                      · refine w_go K 3 (c' := (159, [some (.ref 0), some (.int a1)], [.long (gL s 82 13)], mT s)) rfl ?_
                        exact w_ret K rfl (hK _)
                      · refine w_sw K (fun _ => ?_) (fun _ => ?_)
                        · refine w_go K 3 (c' := (167, [some (.ref 0), some (.int a1)], [.long (gL s 82 14)], mT s)) rfl ?_
                          exact w_ret K rfl (hK _)
                        · refine w_sw K (fun _ => ?_) (fun _ => ?_)
                          · refine w_go K 3 (c' := (175, [some (.ref 0), some (.int a1)], [.long (gL s 82 15)], mT s)) rfl ?_
                            exact w_ret K rfl (hK _)
                          · refine w_sw K (fun _ => ?_) (fun _ => ?_)
                            · refine w_go K 4 (c' := (184, [some (.ref 0), some (.int a1)], [.long (Int32.toInt64 (gI s 12 12))], mT s)) rfl ?_
                              exact w_ret K rfl (hK _)
                            · refine w_sw K (fun _ => ?_) (fun _ => ?_)
                              · refine w_go K 4 (c' := (193, [some (.ref 0), some (.int a1)], [.long (Int32.toInt64 (gI s 25 10))], mT s)) rfl ?_
                                exact w_ret K rfl (hK _)
                              · refine w_sw K (fun _ => ?_) (fun _ => ?_)
                                · refine w_go K 2 (c' := (198, [some (.ref 0), some (.int a1)], [.ref 3], mT s)) rfl ?_
                                  refine w_call K rfl (m_Works_burning (len := len) (xs := xs) (d + 0) s) ?_
                                  refine w_go K 1 (c' := (202, [some (.ref 0), some (.int a1)], [.long (Int32.toInt64 (f_Works_burning s))], mT s)) rfl ?_
                                  exact w_ret K rfl (hK _)
                                · refine w_go K 0 (c' := (203, [some (.ref 0), some (.int a1)], [], mT s)) rfl ?_
                                  refine w_go K 1 (c' := (206, [some (.ref 0), some (.int a1)], [.long (-1)], mT s)) rfl ?_
                                  exact w_ret K rfl (hK _)
theorem m_G_look {len : Nat} {xs : Nat → Int32} (d : Nat) (a1 : Int32) (s : mS) : ok_G_look a1 s → mm_call (mm_X len xs) mm_Y (d + 2) 152 [.ref 0, .int a1] (mT s) = some (some (.long (f_G_look a1 s)), mT s) := fun h => t_G_look (len := len) (xs := xs) d a1 s (fun t => (some (some (.long t), mT s) : Option mm_R) = some (some (.long (f_G_look a1 s)), mT s)) (fun _ h => h) h rfl
