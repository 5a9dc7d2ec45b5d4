/-! FUNCTIONS OF METHODS, by program: f_ what it does, ok_ that no row fails, m_ the small machine does so. -/
def f_Parser_take  (s : mS) : mS := (if (gI s 80 7) = 0 then (mq_let (f_Parser_takeSubject s) (fun (x10 : mS) => x10)) else (if (gI s 80 7) = 1 then (mq_let (f_Parser_takePart s) (fun (x11 : mS) => x11)) else (if (gI s 80 7) = 2 then (mq_let (f_Parser_takeDivisor s) (fun (x12 : mS) => x12)) else (if (gI s 80 7) = 3 then (mq_let (f_Parser_takeTest s) (fun (x13 : mS) => x13)) else (mq_let (f_Parser_takeBehind s) (fun (x14 : mS) => x14))))))
def ok_Parser_take  (s : mS) : Prop := (if (gI s 80 7) = 0 then (ok_Parser_takeSubject s ∧ mq_letP (f_Parser_takeSubject s) (fun (x10 : mS) => True)) else (if (gI s 80 7) = 1 then (ok_Parser_takePart s ∧ mq_letP (f_Parser_takePart s) (fun (x11 : mS) => True)) else (if (gI s 80 7) = 2 then (ok_Parser_takeDivisor s ∧ mq_letP (f_Parser_takeDivisor s) (fun (x12 : mS) => True)) else (if (gI s 80 7) = 3 then (ok_Parser_takeTest s ∧ mq_letP (f_Parser_takeTest s) (fun (x13 : mS) => True)) else (ok_Parser_takeBehind s ∧ mq_letP (f_Parser_takeBehind s) (fun (x14 : mS) => True))))))
set_option maxRecDepth 4000 in
theorem t_Parser_take {len : Nat} {xs : Nat → Int32}  (d : Nat)  (s : mS) {T : Option mm_R} (K : mS → Prop) (hK : ∀ t, K t → some (none, mT t) = T) : ok_Parser_take s → K (f_Parser_take s) → mm_fix (mm_X len xs) mm_Y (mm_call (mm_X len xs) mm_Y (d + 4)) (mm_look mc_Parser_take) (0, [some (.ref 80)], [], mT s) = T := by
  unfold ok_Parser_take f_Parser_take
  refine w_go K 2 (c' := (4, [some (.ref 80)], [.int (gI s 80 7)], mT s)) rfl ?_
  refine w_go K 1 (c' := (mm_sw [(0, 36), (1, 43), (2, 50), (3, 57)] 64 (gI s 80 7), [some (.ref 80)], [], mT s)) rfl ?_
  refine w_sw K (fun _ => ?_) (fun _ => ?_)
  · refine w_go K 1 (c' := (37, [some (.ref 80)], [.ref 80], mT s)) rfl ?_
    refine w_callL K (E := f_Parser_takeSubject s) (g := fun (x10 : mS) => (none, mT x10)) rfl (m_Parser_takeSubject (len := len) (xs := xs) (d + 2) s) (fun x10 => ?_)
    refine w_go K 1 (c' := (68, [some (.ref 80)], [], mT x10)) rfl ?_
    exact w_ret K rfl (hK _)
  · refine w_sw K (fun _ => ?_) (fun _ => ?_)
    · refine w_go K 1 (c' := (44, [some (.ref 80)], [.ref 80], mT s)) rfl ?_
      refine w_callL K (E := f_Parser_takePart s) (g := fun (x11 : mS) => (none, mT x11)) rfl (m_Parser_takePart (len := len) (xs := xs) (d + 2) s) (fun x11 => ?_)
      refine w_go K 1 (c' := (68, [some (.ref 80)], [], mT x11)) rfl ?_
      exact w_ret K rfl (hK _)
    · refine w_sw K (fun _ => ?_) (fun _ => ?_)
      · refine w_go K 1 (c' := (51, [some (.ref 80)], [.ref 80], mT s)) rfl ?_
        refine w_callL K (E := f_Parser_takeDivisor s) (g := fun (x12 : mS) => (none, mT x12)) rfl (m_Parser_takeDivisor (len := len) (xs := xs) (d + 1) s) (fun x12 => ?_)
        refine w_go K 1 (c' := (68, [some (.ref 80)], [], mT x12)) rfl ?_
        exact w_ret K rfl (hK _)
      · refine w_sw K (fun _ => ?_) (fun _ => ?_)
        · refine w_go K 1 (c' := (58, [some (.ref 80)], [.ref 80], mT s)) rfl ?_
          refine w_callL K (E := f_Parser_takeTest s) (g := fun (x13 : mS) => (none, mT x13)) rfl (m_Parser_takeTest (len := len) (xs := xs) (d + 1) s) (fun x13 => ?_)
          refine w_go K 1 (c' := (68, [some (.ref 80)], [], mT x13)) rfl ?_
          exact w_ret K rfl (hK _)
        · refine w_go K 0 (c' := (64, [some (.ref 80)], [], mT s)) rfl ?_
          refine w_go K 1 (c' := (65, [some (.ref 80)], [.ref 80], mT s)) rfl ?_
          refine w_callL K (E := f_Parser_takeBehind s) (g := fun (x14 : mS) => (none, mT x14)) rfl (m_Parser_takeBehind (len := len) (xs := xs) (d + 0) s) (fun x14 => ?_)
          refine w_go K 0 (c' := (68, [some (.ref 80)], [], mT x14)) rfl ?_
          exact w_ret K rfl (hK _)
theorem m_Parser_take {len : Nat} {xs : Nat → Int32}  (d : Nat)  (s : mS) : ok_Parser_take s → mm_call (mm_X len xs) mm_Y (d + 5) 97 [.ref 80] (mT s) = some (none, mT (f_Parser_take s)) := fun h => t_Parser_take (len := len) (xs := xs) d s (fun t => (some (none, mT t) : Option mm_R) = some (none, mT (f_Parser_take s))) (fun _ h => h) h rfl
def lp_Parser_reads_37_51  : Nat → Int32 → mS → Int32 × mS
  | 0, v3, s => (v3, s)
  | n + 1, v3, s => (if (600 : Int32) ≤ v3 then (v3, s) else (if (gI s 80 12) = 0 then (if (gI s 80 3) = 0 then (v3, s) else (mq_let (f_Parser_take s) (fun (x13 : mS) => (mq_let (f_Parser_advance x13) (fun (x14 : mS) => (lp_Parser_reads_37_51 n (v3 + 1) x14)))))) else (v3, s)))
def okl_Parser_reads_37_51  : Nat → Int32 → mS → Prop
  | 0, v3, s => False
  | n + 1, v3, s => (if (600 : Int32) ≤ v3 then True else (if (gI s 80 12) = 0 then (if (gI s 80 3) = 0 then True else (ok_Parser_take s ∧ mq_letP (f_Parser_take s) (fun (x13 : mS) => (ok_Parser_advance x13 ∧ mq_letP (f_Parser_advance x13) (fun (x14 : mS) => (okl_Parser_reads_37_51 n (v3 + 1) x14)))))) else True))
set_option maxRecDepth 4000 in
theorem tl_Parser_reads_37_51 {len : Nat} {xs : Nat → Int32}  (d : Nat)   {T : Option mm_R} (K : Int32 × mS → Prop) (hX : ∀ r, K r → ∀ (o1 : Option Value) (o2 : Option Value), mm_fix (mm_X len xs) mm_Y (mm_call (mm_X len xs) mm_Y (d + 5)) (mm_look mc_Parser_reads) (86, [some (.ref 80), o1, o2, some (.int r.1)], [], mT r.2) = T) : ∀ (n : Nat), ∀ (v3 : Int32) (o1 : Option Value) (o2 : Option Value) (s : mS), okl_Parser_reads_37_51 n v3 s → K (lp_Parser_reads_37_51 n v3 s) → mm_fix (mm_X len xs) mm_Y (mm_call (mm_X len xs) mm_Y (d + 5)) (mm_look mc_Parser_reads) (51, [some (.ref 80), o1, o2, some (.int v3)], [], mT s) = T := by
  intro n
  induction n with
  | zero => intro v3 o1 o2 s; exact fun h => h.elim
  | succ n ih =>
    intro v3 o1 o2 s
    rw [okl_Parser_reads_37_51, lp_Parser_reads_37_51]
    refine w_go K 2 (c' := (55, [some (.ref 80), o1, o2, some (.int v3)], [.int 600, .int v3], mT s)) rfl ?_
    refine w_ige K rfl (fun _ => ?_) (fun _ => ?_)
    · refine w_go K 0 (c' := (86, [some (.ref 80), o1, o2, some (.int v3)], [], mT s)) rfl ?_
      exact fun _ b => hX _ b _ _
    · refine w_go K 2 (c' := (62, [some (.ref 80), o1, o2, some (.int v3)], [.int (gI s 80 12)], mT s)) rfl ?_
      refine w_zne K rfl (fun _ => ?_) (fun _ => ?_)
      · refine w_go K 2 (c' := (69, [some (.ref 80), o1, o2, some (.int v3)], [.int (gI s 80 3)], mT s)) rfl ?_
        refine w_zeq K rfl (fun _ => ?_) (fun _ => ?_)
        · refine w_go K 0 (c' := (86, [some (.ref 80), o1, o2, some (.int v3)], [], mT s)) rfl ?_
          exact fun _ b => hX _ b _ _
        · refine w_go K 1 (c' := (73, [some (.ref 80), o1, o2, some (.int v3)], [.ref 80], mT s)) rfl ?_
          refine w_callL K (E := f_Parser_take s) (g := fun (x13 : mS) => (none, mT x13)) rfl (m_Parser_take (len := len) (xs := xs) (d + 0) s) (fun x13 => ?_)
          refine w_go K 1 (c' := (77, [some (.ref 80), o1, o2, some (.int v3)], [.ref 80], mT x13)) rfl ?_
          refine w_callL K (E := f_Parser_advance x13) (g := fun (x14 : mS) => (none, mT x14)) rfl (m_Parser_advance (len := len) (xs := xs) (d + 0) x13) (fun x14 => ?_)
          refine w_go K 2 (c' := (51, [some (.ref 80), o1, (mm_cut o2 0), some (.int (v3 + 1))], [], mT x14)) rfl ?_
          exact fun a b => ih (v3 + 1) _ _ x14 a b
      · refine w_go K 0 (c' := (86, [some (.ref 80), o1, o2, some (.int v3)], [], mT s)) rfl ?_
        exact fun _ b => hX _ b _ _
def f_Parser_reads_37 (a2 : Int32) (s : mS) : Int32 × mS := (mq_let (gP s 4) (fun (r10 : Nat) => (mq_let (f_Act_clear r10 (sI (sP s 5 48) 80 1 (if (600 : Int32) < a2 then (600 : Int32) else a2))) (fun (x11 : mS) => (mq_let (f_Parser_advance (sI (sI (sI (sI x11 80 2 0) 80 12 0) 80 13 (-1)) 80 7 0)) (fun (x12 : mS) => (mq_let (lp_Parser_reads_37_51 mm_N (0 : Int32) x12) (fun (x15 : Int32 × mS) => (mq_let (if (gI x15.2 80 7) = 0 then x15.2 else (mq_let (f_Parser_fail (1 : Int32) x15.2) (fun (x20 : mS) => x20))) (fun (x19 : mS) => (if (gI x19 80 12) = 0 then (1, x19) else (0, x19))))))))))))
def ok_Parser_reads_37 (a2 : Int32) (s : mS) : Prop := (mq_A (gP s 4) ∧ mq_letP (gP s 4) (fun (r10 : Nat) => (True ∧ mq_letP (f_Act_clear r10 (sI (sP s 5 48) 80 1 (if (600 : Int32) < a2 then (600 : Int32) else a2))) (fun (x11 : mS) => (ok_Parser_advance (sI (sI (sI (sI x11 80 2 0) 80 12 0) 80 13 (-1)) 80 7 0) ∧ mq_letP (f_Parser_advance (sI (sI (sI (sI x11 80 2 0) 80 12 0) 80 13 (-1)) 80 7 0)) (fun (x12 : mS) => (okl_Parser_reads_37_51 mm_N (0 : Int32) x12 ∧ mq_letP (lp_Parser_reads_37_51 mm_N (0 : Int32) x12) (fun (x15 : Int32 × mS) => True))))))))
set_option maxRecDepth 4000 in
theorem t_Parser_reads_37 {len : Nat} {xs : Nat → Int32}  (d : Nat) (a2 : Int32) (s : mS) {T : Option mm_R} (K : Int32 × mS → Prop) (hK : ∀ t, K t → some (some (.int t.1), mT t.2) = T) : ok_Parser_reads_37 a2 s → K (f_Parser_reads_37 a2 s) → mm_fix (mm_X len xs) mm_Y (mm_call (mm_X len xs) mm_Y (d + 5)) (mm_look mc_Parser_reads) (0, [some (.ref 80), some (.ref 37), some (.int a2), none], [], mT s) = T := by
  unfold ok_Parser_reads_37 f_Parser_reads_37
  refine w_go K 2 (c' := (2, [some (.ref 80), some (.ref 37), some (.int a2), none], [.ref 37, .ref 80], mT s)) rfl ?_
  refine w_st K (c' := (5, [some (.ref 80), some (.ref 37), some (.int a2), none], [], mT (sP s 5 48))) (st_pT (len := 3) rfl) ?_
  refine w_go K 3 (c' := (8, [some (.ref 80), some (.ref 37), some (.int a2), none], [.ref 80, .int a2, .ref 80], mT (sP s 5 48))) rfl ?_
  refine w_st K (c' := (11, [some (.ref 80), some (.ref 37), some (.int a2), none], [.ref 37, .int a2, .ref 80], mT (sP s 5 48))) (st_gT (len := 3) rfl rfl) ?_
  refine w_go K 4 (c' := (19, [some (.ref 80), some (.ref 37), some (.int a2), none], [.ref 80], mT (sI (sP s 5 48) 80 1 (if (600 : Int32) < a2 then (600 : Int32) else a2)))) rfl ?_
  refine w_gP4 K rfl (fun r10 hr10 => ?_)
  refine w_go K 0 (c' := (22, [some (.ref 80), some (.ref 37), some (.int a2), none], [.ref r10], mT (sI (sP s 5 48) 80 1 (if (600 : Int32) < a2 then (600 : Int32) else a2)))) rfl ?_
  refine w_callL K (E := f_Act_clear r10 (sI (sP s 5 48) 80 1 (if (600 : Int32) < a2 then (600 : Int32) else a2))) (g := fun (x11 : mS) => (none, mT x11)) (st_c (b := 1) (st := [.ref r10]) (args := []) (rest := []) rfl rfl rfl hr10) (m_Act_clear (len := len) (xs := xs) r10 hr10 (d + 4) (sI (sP s 5 48) 80 1 (if (600 : Int32) < a2 then (600 : Int32) else a2))) (fun x11 => ?_)
  refine w_go K 13 (c' := (46, [some (.ref 80), some (.ref 37), some (.int a2), none], [.ref 80], mT (sI (sI (sI (sI x11 80 2 0) 80 12 0) 80 13 (-1)) 80 7 0))) rfl ?_
  refine w_callL K (E := f_Parser_advance (sI (sI (sI (sI x11 80 2 0) 80 12 0) 80 13 (-1)) 80 7 0)) (g := fun (x12 : mS) => (none, mT x12)) rfl (m_Parser_advance (len := len) (xs := xs) (d + 0) (sI (sI (sI (sI x11 80 2 0) 80 12 0) 80 13 (-1)) 80 7 0)) (fun x12 => ?_)
  refine w_go K 2 (c' := (51, [some (.ref 80), some (.ref 37), some (.int a2), some (.int 0)], [], mT x12)) rfl ?_
  refine w_join K (fun (x15 : Int32 × mS) => ∀ (q16 : Option Value) (q17 : Option Value), mm_fix (mm_X len xs) mm_Y (mm_call (mm_X len xs) mm_Y (d + 5)) (mm_look mc_Parser_reads) (86, [some (.ref 80), q16, q17, some (.int x15.1)], [], mT x15.2) = T) (fun K hJ => tl_Parser_reads_37_51 (len := len) (xs := xs) d (T := T) K hJ mm_N (0 : Int32) _ _ x12) (fun x15 h1 h2 q16 q17 => ?_)
  revert h1 h2
  refine w_go K 2 (c' := (90, [some (.ref 80), q16, q17, some (.int x15.1)], [.int (gI x15.2 80 7)], mT x15.2)) rfl ?_
  refine w_joinT K (fun (x19 : mS) => mm_fix (mm_X len xs) mm_Y (mm_call (mm_X len xs) mm_Y (d + 5)) (mm_look mc_Parser_reads) (98, [some (.ref 80), q16, q17, some (.int x15.1)], [], mT x19) = T) (fun K hJ => ?_) (fun x19 h1 h2 => ?_)
  · refine w_go K 0 (c' := (90, [some (.ref 80), q16, q17, some (.int x15.1)], [.int (gI x15.2 80 7)], mT x15.2)) rfl ?_
    refine w_zeqT K rfl (fun _ => ?_) (fun _ => ?_)
    · refine w_go K 0 (c' := (98, [some (.ref 80), q16, q17, some (.int x15.1)], [], mT x15.2)) rfl ?_
      exact fun _ h => hJ _ h
    · refine w_go K 2 (c' := (95, [some (.ref 80), q16, q17, some (.int x15.1)], [.int 1, .ref 80], mT x15.2)) rfl ?_
      refine w_callLT K (E := f_Parser_fail (1 : Int32) x15.2) (g := fun (x20 : mS) => (none, mT x20)) rfl (m_Parser_fail (len := len) (xs := xs) (d + 4) (1 : Int32) x15.2) (fun x20 => ?_)
      refine w_go K 0 (c' := (98, [some (.ref 80), q16, q17, some (.int x15.1)], [], mT x20)) rfl ?_
      exact fun _ h => hJ _ h
  · revert h1 h2
    refine w_go K 2 (c' := (102, [some (.ref 80), q16, q17, some (.int x15.1)], [.int (gI x19 80 12)], mT x19)) rfl ?_
    refine w_zneT K rfl (fun _ => ?_) (fun _ => ?_)
    · refine w_go K 2 (c' := (110, [some (.ref 80), q16, q17, some (.int x15.1)], [.int 1], mT x19)) rfl ?_
      exact w_ret K rfl (hK _)
    · refine w_go K 1 (c' := (110, [some (.ref 80), q16, q17, some (.int x15.1)], [.int 0], mT x19)) rfl ?_
      exact w_ret K rfl (hK _)
theorem m_Parser_reads_37 {len : Nat} {xs : Nat → Int32}  (d : Nat) (a2 : Int32) (s : mS) : ok_Parser_reads_37 a2 s → mm_call (mm_X len xs) mm_Y (d + 6) 85 [.ref 80, .ref 37, .int a2] (mT s) = some (some (.int (f_Parser_reads_37 a2 s).1), mT (f_Parser_reads_37 a2 s).2) := fun h => t_Parser_reads_37 (len := len) (xs := xs) d a2 s (fun t => (some (some (.int t.1), mT t.2) : Option mm_R) = some (some (.int (f_Parser_reads_37 a2 s).1), mT (f_Parser_reads_37 a2 s).2)) (fun _ h => h) h rfl
def f_Parser_swap (r1 : Nat) (s : mS) : Nat × mS := (mq_let (gP s 4) (fun (r10 : Nat) => (r10, sP s 4 r1)))
def ok_Parser_swap (r1 : Nat) (s : mS) : Prop := (mq_A (gP s 4) ∧ mq_letP (gP s 4) (fun (r10 : Nat) => True))
set_option maxRecDepth 4000 in
theorem t_Parser_swap {len : Nat} {xs : Nat → Int32}  (d : Nat) (r1 : Nat) (hr1 : mq_A r1) (s : mS) {T : Option mm_R} (K : Nat × mS → Prop) (hK : ∀ t, K t → some (some (.ref t.1), mT t.2) = T) : ok_Parser_swap r1 s → K (f_Parser_swap r1 s) → mm_fix (mm_X len xs) mm_Y (mm_call (mm_X len xs) mm_Y (d + 0)) (mm_look mc_Parser_swap) (0, [some (.ref 80), some (.ref r1), none], [], mT s) = T := by
  unfold ok_Parser_swap f_Parser_swap
  refine w_go K 1 (c' := (1, [some (.ref 80), some (.ref r1), none], [.ref 80], mT s)) rfl ?_
  refine w_gP4 K rfl (fun r10 hr10 => ?_)
  refine w_go K 3 (c' := (7, [some (.ref 80), some (.ref r1), some (.ref r10)], [.ref r1, .ref 80], mT s)) rfl ?_
  refine w_st K (c' := (10, [some (.ref 80), some (.ref r1), some (.ref r10)], [], mT (sP s 4 r1))) (st_pR4 (len := 3) rfl) ?_
  refine w_go K 1 (c' := (11, [some (.ref 80), some (.ref r1), some (.ref r10)], [.ref r10], mT (sP s 4 r1))) rfl ?_
  exact w_ret K rfl (hK _)
theorem m_Parser_swap {len : Nat} {xs : Nat → Int32}  (d : Nat) (r1 : Nat) (hr1 : mq_A r1) (s : mS) : ok_Parser_swap r1 s → mm_call (mm_X len xs) mm_Y (d + 1) 114 [.ref 80, .ref r1] (mT s) = some (some (.ref (f_Parser_swap r1 s).1), mT (f_Parser_swap r1 s).2) := fun h => t_Parser_swap (len := len) (xs := xs) d r1 hr1 s (fun t => (some (some (.ref t.1), mT t.2) : Option mm_R) = some (some (.ref (f_Parser_swap r1 s).1), mT (f_Parser_swap r1 s).2)) (fun _ h => h) h rfl
def f_Laws_enact (a1 : Int32) (a2 : Int32) (s : mS) : Int32 × mS := (if a1 < 0 then ((-1), sI (sI (sI s 36 5 0) 36 6 0) 36 7 (-1)) else (if (4 : Int32) ≤ a1 then ((-1), sI (sI (sI s 36 5 0) 36 6 0) 36 7 (-1)) else (mq_let (f_G_within a2 (0 : Int32) (41 : Int32) (sI (sI (sI s 36 5 0) 36 6 0) 36 7 (-1))) (fun (x10 : Int32) => (if x10 = 0 then ((-1), sI (sI (sI s 36 5 0) 36 6 0) 36 7 (-1)) else (mq_let (f_Parser_reads_37 (gI s 36 5) (sI (sI (sI s 36 5 0) 36 6 0) 36 7 (-1))) (fun (x11 : Int32 × mS) => (if x11.1 = 0 then ((-1), sI (sI x11.2 36 6 (gI x11.2 80 12)) 36 7 (gI x11.2 80 13)) else (mq_let (gP x11.2 (ix a1)) (fun (r12 : Nat) => (mq_let (f_Parser_swap r12 x11.2) (fun (x13 : Nat × mS) => (mq_let x13.1 (fun (r14 : Nat) => (mq_let (gP (sP x13.2 (ix a1) r14) (ix a1)) (fun (r15 : Nat) => (mq_let (gP (sP x13.2 (ix a1) r14) (ix a1)) (fun (r16 : Nat) => (mq_let (gP (sP x13.2 (ix a1) r14) (ix a1)) (fun (r17 : Nat) => ((gI (sI (sI (sP x13.2 (ix a1) r14) r15 10 1) r16 9 a2) r17 8), sI (sI (sP x13.2 (ix a1) r14) r15 10 1) r16 9 a2)))))))))))))))))))))
def ok_Laws_enact (a1 : Int32) (a2 : Int32) (s : mS) : Prop := (if a1 < 0 then True else (if (4 : Int32) ≤ a1 then True else (True ∧ mq_letP (f_G_within a2 (0 : Int32) (41 : Int32) (sI (sI (sI s 36 5 0) 36 6 0) 36 7 (-1))) (fun (x10 : Int32) => (if x10 = 0 then True else (ok_Parser_reads_37 (gI s 36 5) (sI (sI (sI s 36 5 0) 36 6 0) 36 7 (-1)) ∧ mq_letP (f_Parser_reads_37 (gI s 36 5) (sI (sI (sI s 36 5 0) 36 6 0) 36 7 (-1))) (fun (x11 : Int32 × mS) => (if x11.1 = 0 then True else (mm_inb a1 4 = true ∧ (mq_A (gP x11.2 (ix a1)) ∧ mq_letP (gP x11.2 (ix a1)) (fun (r12 : Nat) => (ok_Parser_swap r12 x11.2 ∧ mq_letP (f_Parser_swap r12 x11.2) (fun (x13 : Nat × mS) => (mq_A x13.1 ∧ mq_letP x13.1 (fun (r14 : Nat) => (mm_inb a1 4 = true ∧ (mm_inb a1 4 = true ∧ (mq_A (gP (sP x13.2 (ix a1) r14) (ix a1)) ∧ mq_letP (gP (sP x13.2 (ix a1) r14) (ix a1)) (fun (r15 : Nat) => (mm_bit (1 : Int32) = true ∧ (mm_inb a1 4 = true ∧ (mq_A (gP (sP x13.2 (ix a1) r14) (ix a1)) ∧ mq_letP (gP (sP x13.2 (ix a1) r14) (ix a1)) (fun (r16 : Nat) => (mm_inb a1 4 = true ∧ (mq_A (gP (sP x13.2 (ix a1) r14) (ix a1)) ∧ mq_letP (gP (sP x13.2 (ix a1) r14) (ix a1)) (fun (r17 : Nat) => True))))))))))))))))))))))))))
set_option maxRecDepth 4000 in
theorem t_Laws_enact {len : Nat} {xs : Nat → Int32}  (d : Nat) (a1 : Int32) (a2 : Int32) (s : mS) {T : Option mm_R} (K : Int32 × mS → Prop) (hK : ∀ t, K t → some (some (.int t.1), mT t.2) = T) : ok_Laws_enact a1 a2 s → K (f_Laws_enact a1 a2 s) → mm_fix (mm_X len xs) mm_Y (mm_call (mm_X len xs) mm_Y (d + 6)) (mm_look mc_Laws_enact) (0, [some (.ref 36), some (.int a1), some (.int a2), none], [], mT s) = T := by
  unfold ok_Laws_enact f_Laws_enact
  refine w_go K 13 (c' := (21, [some (.ref 36), some (.int a1), some (.int a2), some (.int (gI s 36 5))], [.int a1], mT (sI (sI (sI s 36 5 0) 36 6 0) 36 7 (-1)))) rfl ?_
  refine w_zlt K rfl (fun _ => ?_) (fun _ => ?_)
  · refine w_go K 1 (c' := (40, [some (.ref 36), some (.int a1), some (.int a2), some (.int (gI s 36 5))], [.int (-1)], mT (sI (sI (sI s 36 5 0) 36 6 0) 36 7 (-1)))) rfl ?_
    exact w_ret K rfl (hK _)
  · refine w_go K 2 (c' := (26, [some (.ref 36), some (.int a1), some (.int a2), some (.int (gI s 36 5))], [.int 4, .int a1], mT (sI (sI (sI s 36 5 0) 36 6 0) 36 7 (-1)))) rfl ?_
    refine w_ige K rfl (fun _ => ?_) (fun _ => ?_)
    · refine w_go K 1 (c' := (40, [some (.ref 36), some (.int a1), some (.int a2), some (.int (gI s 36 5))], [.int (-1)], mT (sI (sI (sI s 36 5 0) 36 6 0) 36 7 (-1)))) rfl ?_
      exact w_ret K rfl (hK _)
    · refine w_go K 3 (c' := (33, [some (.ref 36), some (.int a1), some (.int a2), some (.int (gI s 36 5))], [.int 41, .int 0, .int a2], mT (sI (sI (sI s 36 5 0) 36 6 0) 36 7 (-1)))) rfl ?_
      refine w_callL K (E := f_G_within a2 (0 : Int32) (41 : Int32) (sI (sI (sI s 36 5 0) 36 6 0) 36 7 (-1))) (g := fun (x10 : Int32) => (some (.int x10), mT (sI (sI (sI s 36 5 0) 36 6 0) 36 7 (-1)))) rfl (m_G_within (len := len) (xs := xs) (d + 5) a2 (0 : Int32) (41 : Int32) (sI (sI (sI s 36 5 0) 36 6 0) 36 7 (-1))) (fun x10 => ?_)
      refine w_go K 0 (c' := (36, [some (.ref 36), some (.int a1), some (.int a2), some (.int (gI s 36 5))], [.int x10], mT (sI (sI (sI s 36 5 0) 36 6 0) 36 7 (-1)))) rfl ?_
      refine w_zne K rfl (fun _ => ?_) (fun _ => ?_)
      · refine w_go K 1 (c' := (40, [some (.ref 36), some (.int a1), some (.int a2), some (.int (gI s 36 5))], [.int (-1)], mT (sI (sI (sI s 36 5 0) 36 6 0) 36 7 (-1)))) rfl ?_
        exact w_ret K rfl (hK _)
      · refine w_go K 5 (c' := (50, [some (.ref 36), some (.int a1), some (.int a2), some (.int (gI s 36 5))], [.int (gI s 36 5), .ref 37, .ref 80], mT (sI (sI (sI s 36 5 0) 36 6 0) 36 7 (-1)))) rfl ?_
        refine w_callL K (E := f_Parser_reads_37 (gI s 36 5) (sI (sI (sI s 36 5 0) 36 6 0) 36 7 (-1))) (g := fun (x11 : Int32 × mS) => (some (.int x11.1), mT x11.2)) rfl (m_Parser_reads_37 (len := len) (xs := xs) (d + 0) (gI s 36 5) (sI (sI (sI s 36 5 0) 36 6 0) 36 7 (-1))) (fun x11 => ?_)
        refine w_go K 0 (c' := (53, [some (.ref 36), some (.int a1), some (.int a2), some (.int (gI s 36 5))], [.int x11.1], mT x11.2)) rfl ?_
        refine w_zne K rfl (fun _ => ?_) (fun _ => ?_)
        · refine w_go K 11 (c' := (79, [some (.ref 36), some (.int a1), some (.int a2), some (.int (gI s 36 5))], [.int (-1)], mT (sI (sI x11.2 36 6 (gI x11.2 80 12)) 36 7 (gI x11.2 80 13)))) rfl ?_
          exact w_ret K rfl (hK _)
        · refine w_go K 8 (c' := (94, [some (.ref 36), some (.int a1), some (.int a2), some (.int (gI s 36 5))], [.int a1, .ref 38, .ref 80, .int a1, .ref 38], mT x11.2)) rfl ?_
          refine w_ck K (st_aG rfl) ?_
          refine w_gP K (fun r12 hr12 => ?_)
          refine w_go K 0 (c' := (95, [some (.ref 36), some (.int a1), some (.int a2), some (.int (gI s 36 5))], [.ref r12, .ref 80, .int a1, .ref 38], mT x11.2)) rfl ?_
          refine w_callL K (E := f_Parser_swap r12 x11.2) (g := fun (x13 : Nat × mS) => (some (.ref x13.1), mT x13.2)) rfl (m_Parser_swap (len := len) (xs := xs) (d + 5) r12 hr12 x11.2) (fun x13 => ?_)
          refine w_go K 0 (c' := (98, [some (.ref 36), some (.int a1), some (.int a2), some (.int (gI s 36 5))], [.ref x13.1, .int a1, .ref 38], mT x13.2)) rfl ?_
          refine w_gP K (fun r14 hr14 => ?_)
          refine w_go K 0 (c' := (98, [some (.ref 36), some (.int a1), some (.int a2), some (.int (gI s 36 5))], [.ref r14, .int a1, .ref 38], mT x13.2)) rfl ?_
          refine w_ck K (st_aS rfl hr14) ?_
          refine w_go K 3 (c' := (104, [some (.ref 36), some (.int a1), some (.int a2), some (.int (gI s 36 5))], [.int a1, .ref 38], mT (sP x13.2 (ix a1) r14))) rfl ?_
          refine w_ck K (st_aG rfl) ?_
          refine w_gP K (fun r15 hr15 => ?_)
          refine w_go K 1 (c' := (106, [some (.ref 36), some (.int a1), some (.int a2), some (.int (gI s 36 5))], [.int 1, .ref r15], mT (sP x13.2 (ix a1) r14))) rfl ?_
          refine w_ck K (st_pZ (len := 3) (b := 10) rfl hr15) ?_
          refine w_go K 3 (c' := (114, [some (.ref 36), some (.int a1), some (.int a2), some (.int (gI s 36 5))], [.int a1, .ref 38], mT (sI (sP x13.2 (ix a1) r14) r15 10 1))) rfl ?_
          refine w_ck K (st_aG rfl) ?_
          refine w_gP K (fun r16 hr16 => ?_)
          refine w_go K 1 (c' := (116, [some (.ref 36), some (.int a1), some (.int a2), some (.int (gI s 36 5))], [.int a2, .ref r16], mT (sI (sP x13.2 (ix a1) r14) r15 10 1))) rfl ?_
          refine w_st K (c' := (119, [some (.ref 36), some (.int a1), some (.int a2), some (.int (gI s 36 5))], [], mT (sI (sI (sP x13.2 (ix a1) r14) r15 10 1) r16 9 a2))) (st_pI (len := 3) (b := 9) rfl hr16) ?_
          refine w_go K 3 (c' := (124, [some (.ref 36), some (.int a1), some (.int a2), some (.int (gI s 36 5))], [.int a1, .ref 38], mT (sI (sI (sP x13.2 (ix a1) r14) r15 10 1) r16 9 a2))) rfl ?_
          refine w_ck K (st_aG rfl) ?_
          refine w_gP K (fun r17 hr17 => ?_)
          refine w_go K 0 (c' := (125, [some (.ref 36), some (.int a1), some (.int a2), some (.int (gI s 36 5))], [.ref r17], mT (sI (sI (sP x13.2 (ix a1) r14) r15 10 1) r16 9 a2))) rfl ?_
          refine w_st K (c' := (128, [some (.ref 36), some (.int a1), some (.int a2), some (.int (gI s 36 5))], [.int (gI (sI (sI (sP x13.2 (ix a1) r14) r15 10 1) r16 9 a2) r17 8)], mT (sI (sI (sP x13.2 (ix a1) r14) r15 10 1) r16 9 a2))) (st_gI (len := 3) (b := 8) rfl hr17) ?_
          refine w_go K 0 (c' := (128, [some (.ref 36), some (.int a1), some (.int a2), some (.int (gI s 36 5))], [.int (gI (sI (sI (sP x13.2 (ix a1) r14) r15 10 1) r16 9 a2) r17 8)], mT (sI (sI (sP x13.2 (ix a1) r14) r15 10 1) r16 9 a2))) rfl ?_
          exact w_ret K rfl (hK _)
theorem m_Laws_enact {len : Nat} {xs : Nat → Int32}  (d : Nat) (a1 : Int32) (a2 : Int32) (s : mS) : ok_Laws_enact a1 a2 s → mm_call (mm_X len xs) mm_Y (d + 7) 84 [.ref 36, .int a1, .int a2] (mT s) = some (some (.int (f_Laws_enact a1 a2 s).1), mT (f_Laws_enact a1 a2 s).2) := fun h => t_Laws_enact (len := len) (xs := xs) d a1 a2 s (fun t => (some (some (.int t.1), mT t.2) : Option mm_R) = some (some (.int (f_Laws_enact a1 a2 s).1), mT (f_Laws_enact a1 a2 s).2)) (fun _ h => h) h rfl
def f_G_act (a1 : Int32) (a2 : Int32) (s : mS) : Int32 × mS := (mq_let (f_Laws_enact a1 a2 s) (fun (x10 : Int32 × mS) => (x10.1, x10.2)))
def ok_G_act (a1 : Int32) (a2 : Int32) (s : mS) : Prop := (ok_Laws_enact a1 a2 s ∧ mq_letP (f_Laws_enact a1 a2 s) (fun (x10 : Int32 × mS) => True))
set_option maxRecDepth 4000 in
theorem t_G_act {len : Nat} {xs : Nat → Int32}  (d : Nat) (a1 : Int32) (a2 : Int32) (s : mS) {T : Option mm_R} (K : Int32 × mS → Prop) (hK : ∀ t, K t → some (some (.int t.1), mT t.2) = T) : ok_G_act a1 a2 s → K (f_G_act a1 a2 s) → mm_fix (mm_X len xs) mm_Y (mm_call (mm_X len xs) mm_Y (d + 7)) (mm_look mc_G_act) (0, [some (.ref 0), some (.int a1), some (.int a2)], [], mT s) = T := by
  unfold ok_G_act f_G_act
  refine w_go K 4 (c' := (6, [some (.ref 0), some (.int a1), some (.int a2)], [.int a2, .int a1, .ref 36], mT s)) rfl ?_
  refine w_callL K (E := f_Laws_enact a1 a2 s) (g := fun (x10 : Int32 × mS) => (some (.int x10.1), mT x10.2)) rfl (m_Laws_enact (len := len) (xs := xs) (d + 0) a1 a2 s) (fun x10 => ?_)
  refine w_go K 0 (c' := (9, [some (.ref 0), some (.int a1), some (.int a2)], [.int x10.1], mT x10.2)) rfl ?_
  exact w_ret K rfl (hK _)
theorem m_G_act {len : Nat} {xs : Nat → Int32}  (d : Nat) (a1 : Int32) (a2 : Int32) (s : mS) : ok_G_act a1 a2 s → mm_call (mm_X len xs) mm_Y (d + 8) 83 [.ref 0, .int a1, .int a2] (mT s) = some (some (.int (f_G_act a1 a2 s).1), mT (f_G_act a1 a2 s).2) := fun h => t_G_act (len := len) (xs := xs) d a1 a2 s (fun t => (some (some (.int t.1), mT t.2) : Option mm_R) = some (some (.int (f_G_act a1 a2 s).1), mT (f_G_act a1 a2 s).2)) (fun _ h => h) h rfl
def f_M_see (a1 : Int32) (s : mS) : Int32 := (if (gI s 116 80) ≤ a1 then (-1) else (gI s 167 (ix a1)))
def ok_M_see (a1 : Int32) (s : mS) : Prop := (if (gI s 116 80) ≤ a1 then True else (mm_inb a1 600 = true ∧ True))
set_option maxRecDepth 4000 in
theorem t_M_see {len : Nat} {xs : Nat → Int32}  (d : Nat) (a1 : Int32) (s : mS) {T : Option mm_R} (K : Int32 → Prop) (hK : ∀ t, K t → some (some (.int t), mT s) = T) : ok_M_see a1 s → K (f_M_see a1 s) → mm_fix (mm_X len xs) mm_Y (mm_call (mm_X len xs) mm_Y (d + 0)) (mm_look mc_M_see) (0, [some (.ref 116), some (.int a1)], [], mT s) = T := by
  unfold ok_M_see f_M_see
  refine w_go K 3 (c' := (5, [some (.ref 116), some (.int a1)], [.int (gI s 116 80), .int a1], mT s)) rfl ?_
  refine w_ige K rfl (fun _ => ?_) (fun _ => ?_)
  · refine w_go K 1 (c' := (18, [some (.ref 116), some (.int a1)], [.int (-1)], mT s)) rfl ?_
    exact w_ret K rfl (hK _)
  · refine w_go K 3 (c' := (13, [some (.ref 116), some (.int a1)], [.int a1, .ref 167], mT s)) rfl ?_
    refine w_ck K (st_iL rfl rfl) ?_
    refine w_go K 1 (c' := (18, [some (.ref 116), some (.int a1)], [.int (gI s 167 (ix a1))], mT s)) rfl ?_
    exact w_ret K rfl (hK _)
theorem m_M_see {len : Nat} {xs : Nat → Int32}  (d : Nat) (a1 : Int32) (s : mS) : ok_M_see a1 s → mm_call (mm_X len xs) mm_Y (d + 1) 208 [.ref 116, .int a1] (mT s) = some (some (.int (f_M_see a1 s)), mT s) := fun h => t_M_see (len := len) (xs := xs) d a1 s (fun t => (some (some (.int t), mT s) : Option mm_R) = some (some (.int (f_M_see a1 s)), mT s)) (fun _ h => h) h rfl
def f_M_isLetter (a0 : Int32) (s : mS) : Int32 := (mq_let (f_M_isIn a0 (97 : Int32) (122 : Int32) s) (fun (x10 : Int32) => (if x10 = 0 then (mq_let (f_M_isIn a0 (65 : Int32) (90 : Int32) s) (fun (x11 : Int32) => (if x11 = 0 then 0 else 1))) else 1)))
set_option maxRecDepth 4000 in
theorem t_M_isLetter {len : Nat} {xs : Nat → Int32}  (d : Nat) (a0 : Int32) (s : mS) {T : Option mm_R} (K : Int32 → Prop) (hK : ∀ t, K t → some (some (.int t), mT s) = T) : True → K (f_M_isLetter a0 s) → mm_fix (mm_X len xs) mm_Y (mm_call (mm_X len xs) mm_Y (d + 1)) (mm_look mc_M_isLetter) (0, [some (.int a0)], [], mT s) = T := by
  unfold f_M_isLetter
  refine w_go K 3 (c' := (5, [some (.int a0)], [.int 122, .int 97, .int a0], mT s)) rfl ?_
  refine w_callLT K (E := f_M_isIn a0 (97 : Int32) (122 : Int32) s) (g := fun (x10 : Int32) => (some (.int x10), mT s)) rfl (m_M_isIn (len := len) (xs := xs) (d + 0) a0 (97 : Int32) (122 : Int32) s) (fun x10 => ?_)
  refine w_go K 0 (c' := (8, [some (.int a0)], [.int x10], mT s)) rfl ?_
  refine w_zneT K rfl (fun _ => ?_) (fun _ => ?_)
  · refine w_go K 3 (c' := (16, [some (.int a0)], [.int 90, .int 65, .int a0], mT s)) rfl ?_
    refine w_callLT K (E := f_M_isIn a0 (65 : Int32) (90 : Int32) s) (g := fun (x11 : Int32) => (some (.int x11), mT s)) rfl (m_M_isIn (len := len) (xs := xs) (d + 0) a0 (65 : Int32) (90 : Int32) s) (fun x11 => ?_)
    refine w_go K 0 (c' := (19, [some (.int a0)], [.int x11], mT s)) rfl ?_
    refine w_zeqT K rfl (fun _ => ?_) (fun _ => ?_)
    · refine w_go K 1 (c' := (27, [some (.int a0)], [.int 0], mT s)) rfl ?_
      exact w_ret K rfl (hK _)
    · refine w_go K 2 (c' := (27, [some (.int a0)], [.int 1], mT s)) rfl ?_
      exact w_ret K rfl (hK _)
  · refine w_go K 2 (c' := (27, [some (.int a0)], [.int 1], mT s)) rfl ?_
    exact w_ret K rfl (hK _)
theorem m_M_isLetter {len : Nat} {xs : Nat → Int32}  (d : Nat) (a0 : Int32) (s : mS) : True → mm_call (mm_X len xs) mm_Y (d + 2) 209 [.int a0] (mT s) = some (some (.int (f_M_isLetter a0 s)), mT s) := fun h => t_M_isLetter (len := len) (xs := xs) d a0 s (fun t => (some (some (.int t), mT s) : Option mm_R) = some (some (.int (f_M_isLetter a0 s)), mT s)) (fun _ h => h) h rfl
def f_M_isDigit (a0 : Int32) (s : mS) : Int32 := (mq_let (f_M_isIn a0 (48 : Int32) (57 : Int32) s) (fun (x10 : Int32) => x10))
def ok_M_isDigit (a0 : Int32) (s : mS) : Prop := (True ∧ mq_letP (f_M_isIn a0 (48 : Int32) (57 : Int32) s) (fun (x10 : Int32) => mm_bit x10 = true))
set_option maxRecDepth 4000 in
theorem t_M_isDigit {len : Nat} {xs : Nat → Int32}  (d : Nat) (a0 : Int32) (s : mS) {T : Option mm_R} (K : Int32 → Prop) (hK : ∀ t, K t → some (some (.int t), mT s) = T) : ok_M_isDigit a0 s → K (f_M_isDigit a0 s) → mm_fix (mm_X len xs) mm_Y (mm_call (mm_X len xs) mm_Y (d + 1)) (mm_look mc_M_isDigit) (0, [some (.int a0)], [], mT s) = T := by
  unfold ok_M_isDigit f_M_isDigit
  refine w_go K 3 (c' := (5, [some (.int a0)], [.int 57, .int 48, .int a0], mT s)) rfl ?_
  refine w_callL K (E := f_M_isIn a0 (48 : Int32) (57 : Int32) s) (g := fun (x10 : Int32) => (some (.int x10), mT s)) rfl (m_M_isIn (len := len) (xs := xs) (d + 0) a0 (48 : Int32) (57 : Int32) s) (fun x10 => ?_)
  refine w_go K 0 (c' := (8, [some (.int a0)], [.int x10], mT s)) rfl ?_
  exact w_retb K rfl (hK _)
theorem m_M_isDigit {len : Nat} {xs : Nat → Int32}  (d : Nat) (a0 : Int32) (s : mS) : ok_M_isDigit a0 s → mm_call (mm_X len xs) mm_Y (d + 2) 212 [.int a0] (mT s) = some (some (.int (f_M_isDigit a0 s)), mT s) := fun h => t_M_isDigit (len := len) (xs := xs) d a0 s (fun t => (some (some (.int t), mT s) : Option mm_R) = some (some (.int (f_M_isDigit a0 s)), mT s)) (fun _ h => h) h rfl
def lp_M_is_2000000_24 (s : mS) : Nat → Int32 → Int32 → Int32 × Int32
  | 0, v2, v3 => (v2, v3)
  | n + 1, v2, v3 => (if (8 : Int32) ≤ v3 then (v2, v3) else (if v2 = 0 then (v2, v3) else (if (gI s 167 (ix ((gI s 116 83) + v3))) = ((mm_Y 0).getD (ix v3) 0) then (lp_M_is_2000000_24 s n (1 : Int32) (v3 + 1)) else (lp_M_is_2000000_24 s n (0 : Int32) (v3 + 1)))))
def okl_M_is_2000000_24 (s : mS) : Nat → Int32 → Int32 → Prop
  | 0, v2, v3 => False
  | n + 1, v2, v3 => (if (8 : Int32) ≤ v3 then True else (if v2 = 0 then True else (mm_inb ((gI s 116 83) + v3) 600 = true ∧ (mm_inb v3 8 = true ∧ (if (gI s 167 (ix ((gI s 116 83) + v3))) = ((mm_Y 0).getD (ix v3) 0) then (okl_M_is_2000000_24 s n (1 : Int32) (v3 + 1)) else (okl_M_is_2000000_24 s n (0 : Int32) (v3 + 1)))))))
set_option maxRecDepth 4000 in
theorem tl_M_is_2000000_24 {len : Nat} {xs : Nat → Int32}  (d : Nat)  (s : mS) {T : Option mm_R} (K : Int32 × Int32 → Prop) (hX : ∀ r, K r → mm_fix (mm_X len xs) mm_Y (mm_call (mm_X len xs) mm_Y (d + 0)) (mm_look mc_M_is) (67, [some (.ref 116), some (.ref 2000000), some (.int r.1), some (.int r.2)], [], mT s) = T) : ∀ (n : Nat), ∀ (v2 : Int32) (v3 : Int32), okl_M_is_2000000_24 s n v2 v3 → K (lp_M_is_2000000_24 s n v2 v3) → mm_fix (mm_X len xs) mm_Y (mm_call (mm_X len xs) mm_Y (d + 0)) (mm_look mc_M_is) (24, [some (.ref 116), some (.ref 2000000), some (.int v2), some (.int v3)], [], mT s) = T := by
  intro n
  induction n with
  | zero => intro v2 v3; exact fun h => h.elim
  | succ n ih =>
    intro v2 v3
    rw [okl_M_is_2000000_24, lp_M_is_2000000_24]
    refine w_go K 3 (c' := (29, [some (.ref 116), some (.ref 2000000), some (.int v2), some (.int v3)], [.int 8, .int v3], mT s)) rfl ?_
    refine w_ige K rfl (fun _ => ?_) (fun _ => ?_)
    · refine w_go K 0 (c' := (67, [some (.ref 116), some (.ref 2000000), some (.int v2), some (.int v3)], [], mT s)) rfl ?_
      exact fun _ b => hX _ b
    · refine w_go K 1 (c' := (33, [some (.ref 116), some (.ref 2000000), some (.int v2), some (.int v3)], [.int v2], mT s)) rfl ?_
      refine w_zeq K rfl (fun _ => ?_) (fun _ => ?_)
      · refine w_go K 0 (c' := (67, [some (.ref 116), some (.ref 2000000), some (.int v2), some (.int v3)], [], mT s)) rfl ?_
        exact fun _ b => hX _ b
      · refine w_go K 6 (c' := (46, [some (.ref 116), some (.ref 2000000), some (.int v2), some (.int v3)], [.int ((gI s 116 83) + v3), .ref 167], mT s)) rfl ?_
        refine w_ck K (st_iL rfl rfl) ?_
        refine w_go K 2 (c' := (49, [some (.ref 116), some (.ref 2000000), some (.int v2), some (.int v3)], [.int v3, .ref 2000000, .int (gI s 167 (ix ((gI s 116 83) + v3)))], mT s)) rfl ?_
        refine w_ck K (mm_xc rfl rfl rfl rfl rfl rfl) ?_
        refine w_go K 0 (c' := (52, [some (.ref 116), some (.ref 2000000), some (.int v2), some (.int v3)], [.int ((mm_Y 0).getD (ix v3) 0), .int (gI s 167 (ix ((gI s 116 83) + v3)))], mT s)) rfl ?_
        refine w_ine K rfl (fun _ => ?_) (fun _ => ?_)
        · refine w_go K 5 (c' := (24, [some (.ref 116), some (.ref 2000000), some (.int 1), some (.int (v3 + 1))], [], mT s)) rfl ?_
          exact fun a b => ih (1 : Int32) (v3 + 1) a b
        · refine w_go K 4 (c' := (24, [some (.ref 116), some (.ref 2000000), some (.int 0), some (.int (v3 + 1))], [], mT s)) rfl ?_
          exact fun a b => ih (0 : Int32) (v3 + 1) a b
def f_M_is_2000000  (s : mS) : Int32 := (mq_let (if ((gI s 116 81) - (gI s 116 83)) = 8 then (1 : Int32) else (0 : Int32)) (fun (x10 : Int32) => (mq_let (lp_M_is_2000000_24 s mm_N x10 (0 : Int32)) (fun (x11 : Int32 × Int32) => x11.1))))
def ok_M_is_2000000  (s : mS) : Prop := (True ∧ mq_letP (if ((gI s 116 81) - (gI s 116 83)) = 8 then (1 : Int32) else (0 : Int32)) (fun (x10 : Int32) => (okl_M_is_2000000_24 s mm_N x10 (0 : Int32) ∧ mq_letP (lp_M_is_2000000_24 s mm_N x10 (0 : Int32)) (fun (x11 : Int32 × Int32) => mm_bit x11.1 = true))))
set_option maxRecDepth 4000 in
theorem t_M_is_2000000 {len : Nat} {xs : Nat → Int32}  (d : Nat)  (s : mS) {T : Option mm_R} (K : Int32 → Prop) (hK : ∀ t, K t → some (some (.int t), mT s) = T) : ok_M_is_2000000 s → K (f_M_is_2000000 s) → mm_fix (mm_X len xs) mm_Y (mm_call (mm_X len xs) mm_Y (d + 0)) (mm_look mc_M_is) (0, [some (.ref 116), some (.ref 2000000), none, none], [], mT s) = T := by
  unfold ok_M_is_2000000 f_M_is_2000000
  refine w_go K 7 (c' := (13, [some (.ref 116), some (.ref 2000000), none, none], [.int 8, .int ((gI s 116 81) - (gI s 116 83))], mT s)) rfl ?_
  refine w_join K (fun (x10 : Int32) => mm_fix (mm_X len xs) mm_Y (mm_call (mm_X len xs) mm_Y (d + 0)) (mm_look mc_M_is) (21, [some (.ref 116), some (.ref 2000000), none, none], [.int x10], mT s) = T) (fun K hJ => ?_) (fun x10 h1 h2 => ?_)
  · refine w_go K 0 (c' := (13, [some (.ref 116), some (.ref 2000000), none, none], [.int 8, .int ((gI s 116 81) - (gI s 116 83))], mT s)) rfl ?_
    refine w_ineT K rfl (fun _ => ?_) (fun _ => ?_)
    · refine w_go K 2 (c' := (21, [some (.ref 116), some (.ref 2000000), none, none], [.int 1], mT s)) rfl ?_
      exact fun _ h => hJ _ h
    · refine w_go K 1 (c' := (21, [some (.ref 116), some (.ref 2000000), none, none], [.int 0], mT s)) rfl ?_
      exact fun _ h => hJ _ h
  · revert h1 h2
    refine w_go K 3 (c' := (24, [some (.ref 116), some (.ref 2000000), some (.int x10), some (.int 0)], [], mT s)) rfl ?_
    refine w_join K (fun (x11 : Int32 × Int32) => mm_fix (mm_X len xs) mm_Y (mm_call (mm_X len xs) mm_Y (d + 0)) (mm_look mc_M_is) (67, [some (.ref 116), some (.ref 2000000), some (.int x11.1), some (.int x11.2)], [], mT s) = T) (fun K hJ => tl_M_is_2000000_24 (len := len) (xs := xs) d s (T := T) K hJ mm_N x10 (0 : Int32)) (fun x11 h1 h2 => ?_)
    revert h1 h2
    refine w_go K 1 (c' := (68, [some (.ref 116), some (.ref 2000000), some (.int x11.1), some (.int x11.2)], [.int x11.1], mT s)) rfl ?_
    exact w_retb K rfl (hK _)
theorem m_M_is_2000000 {len : Nat} {xs : Nat → Int32}  (d : Nat)  (s : mS) : ok_M_is_2000000 s → mm_call (mm_X len xs) mm_Y (d + 1) 211 [.ref 116, .ref 2000000] (mT s) = some (some (.int (f_M_is_2000000 s)), mT s) := fun h => t_M_is_2000000 (len := len) (xs := xs) d s (fun t => (some (some (.int t), mT s) : Option mm_R) = some (some (.int (f_M_is_2000000 s)), mT s)) (fun _ h => h) h rfl
def lp_M_is_2000001_24 (s : mS) : Nat → Int32 → Int32 → Int32 × Int32
  | 0, v2, v3 => (v2, v3)
  | n + 1, v2, v3 => (if (7 : Int32) ≤ v3 then (v2, v3) else (if v2 = 0 then (v2, v3) else (if (gI s 167 (ix ((gI s 116 83) + v3))) = ((mm_Y 1).getD (ix v3) 0) then (lp_M_is_2000001_24 s n (1 : Int32) (v3 + 1)) else (lp_M_is_2000001_24 s n (0 : Int32) (v3 + 1)))))
def okl_M_is_2000001_24 (s : mS) : Nat → Int32 → Int32 → Prop
  | 0, v2, v3 => False
  | n + 1, v2, v3 => (if (7 : Int32) ≤ v3 then True else (if v2 = 0 then True else (mm_inb ((gI s 116 83) + v3) 600 = true ∧ (mm_inb v3 7 = true ∧ (if (gI s 167 (ix ((gI s 116 83) + v3))) = ((mm_Y 1).getD (ix v3) 0) then (okl_M_is_2000001_24 s n (1 : Int32) (v3 + 1)) else (okl_M_is_2000001_24 s n (0 : Int32) (v3 + 1)))))))
set_option maxRecDepth 4000 in
theorem tl_M_is_2000001_24 {len : Nat} {xs : Nat → Int32}  (d : Nat)  (s : mS) {T : Option mm_R} (K : Int32 × Int32 → Prop) (hX : ∀ r, K r → mm_fix (mm_X len xs) mm_Y (mm_call (mm_X len xs) mm_Y (d + 0)) (mm_look mc_M_is) (67, [some (.ref 116), some (.ref 2000001), some (.int r.1), some (.int r.2)], [], mT s) = T) : ∀ (n : Nat), ∀ (v2 : Int32) (v3 : Int32), okl_M_is_2000001_24 s n v2 v3 → K (lp_M_is_2000001_24 s n v2 v3) → mm_fix (mm_X len xs) mm_Y (mm_call (mm_X len xs) mm_Y (d + 0)) (mm_look mc_M_is) (24, [some (.ref 116), some (.ref 2000001), some (.int v2), some (.int v3)], [], mT s) = T := by
  intro n
  induction n with
  | zero => intro v2 v3; exact fun h => h.elim
  | succ n ih =>
    intro v2 v3
    rw [okl_M_is_2000001_24, lp_M_is_2000001_24]
    refine w_go K 3 (c' := (29, [some (.ref 116), some (.ref 2000001), some (.int v2), some (.int v3)], [.int 7, .int v3], mT s)) rfl ?_
    refine w_ige K rfl (fun _ => ?_) (fun _ => ?_)
    · refine w_go K 0 (c' := (67, [some (.ref 116), some (.ref 2000001), some (.int v2), some (.int v3)], [], mT s)) rfl ?_
      exact fun _ b => hX _ b
    · refine w_go K 1 (c' := (33, [some (.ref 116), some (.ref 2000001), some (.int v2), some (.int v3)], [.int v2], mT s)) rfl ?_
      refine w_zeq K rfl (fun _ => ?_) (fun _ => ?_)
      · refine w_go K 0 (c' := (67, [some (.ref 116), some (.ref 2000001), some (.int v2), some (.int v3)], [], mT s)) rfl ?_
        exact fun _ b => hX _ b
      · refine w_go K 6 (c' := (46, [some (.ref 116), some (.ref 2000001), some (.int v2), some (.int v3)], [.int ((gI s 116 83) + v3), .ref 167], mT s)) rfl ?_
        refine w_ck K (st_iL rfl rfl) ?_
        refine w_go K 2 (c' := (49, [some (.ref 116), some (.ref 2000001), some (.int v2), some (.int v3)], [.int v3, .ref 2000001, .int (gI s 167 (ix ((gI s 116 83) + v3)))], mT s)) rfl ?_
        refine w_ck K (mm_xc rfl rfl rfl rfl rfl rfl) ?_
        refine w_go K 0 (c' := (52, [some (.ref 116), some (.ref 2000001), some (.int v2), some (.int v3)], [.int ((mm_Y 1).getD (ix v3) 0), .int (gI s 167 (ix ((gI s 116 83) + v3)))], mT s)) rfl ?_
        refine w_ine K rfl (fun _ => ?_) (fun _ => ?_)
        · refine w_go K 5 (c' := (24, [some (.ref 116), some (.ref 2000001), some (.int 1), some (.int (v3 + 1))], [], mT s)) rfl ?_
          exact fun a b => ih (1 : Int32) (v3 + 1) a b
        · refine w_go K 4 (c' := (24, [some (.ref 116), some (.ref 2000001), some (.int 0), some (.int (v3 + 1))], [], mT s)) rfl ?_
          exact fun a b => ih (0 : Int32) (v3 + 1) a b
def f_M_is_2000001  (s : mS) : Int32 := (mq_let (if ((gI s 116 81) - (gI s 116 83)) = 7 then (1 : Int32) else (0 : Int32)) (fun (x10 : Int32) => (mq_let (lp_M_is_2000001_24 s mm_N x10 (0 : Int32)) (fun (x11 : Int32 × Int32) => x11.1))))
def ok_M_is_2000001  (s : mS) : Prop := (True ∧ mq_letP (if ((gI s 116 81) - (gI s 116 83)) = 7 then (1 : Int32) else (0 : Int32)) (fun (x10 : Int32) => (okl_M_is_2000001_24 s mm_N x10 (0 : Int32) ∧ mq_letP (lp_M_is_2000001_24 s mm_N x10 (0 : Int32)) (fun (x11 : Int32 × Int32) => mm_bit x11.1 = true))))
set_option maxRecDepth 4000 in
theorem t_M_is_2000001 {len : Nat} {xs : Nat → Int32}  (d : Nat)  (s : mS) {T : Option mm_R} (K : Int32 → Prop) (hK : ∀ t, K t → some (some (.int t), mT s) = T) : ok_M_is_2000001 s → K (f_M_is_2000001 s) → mm_fix (mm_X len xs) mm_Y (mm_call (mm_X len xs) mm_Y (d + 0)) (mm_look mc_M_is) (0, [some (.ref 116), some (.ref 2000001), none, none], [], mT s) = T := by
  unfold ok_M_is_2000001 f_M_is_2000001
  refine w_go K 7 (c' := (13, [some (.ref 116), some (.ref 2000001), none, none], [.int 7, .int ((gI s 116 81) - (gI s 116 83))], mT s)) rfl ?_
  refine w_join K (fun (x10 : Int32) => mm_fix (mm_X len xs) mm_Y (mm_call (mm_X len xs) mm_Y (d + 0)) (mm_look mc_M_is) (21, [some (.ref 116), some (.ref 2000001), none, none], [.int x10], mT s) = T) (fun K hJ => ?_) (fun x10 h1 h2 => ?_)
  · refine w_go K 0 (c' := (13, [some (.ref 116), some (.ref 2000001), none, none], [.int 7, .int ((gI s 116 81) - (gI s 116 83))], mT s)) rfl ?_
    refine w_ineT K rfl (fun _ => ?_) (fun _ => ?_)
    · refine w_go K 2 (c' := (21, [some (.ref 116), some (.ref 2000001), none, none], [.int 1], mT s)) rfl ?_
      exact fun _ h => hJ _ h
    · refine w_go K 1 (c' := (21, [some (.ref 116), some (.ref 2000001), none, none], [.int 0], mT s)) rfl ?_
      exact fun _ h => hJ _ h
  · revert h1 h2
    refine w_go K 3 (c' := (24, [some (.ref 116), some (.ref 2000001), some (.int x10), some (.int 0)], [], mT s)) rfl ?_
    refine w_join K (fun (x11 : Int32 × Int32) => mm_fix (mm_X len xs) mm_Y (mm_call (mm_X len xs) mm_Y (d + 0)) (mm_look mc_M_is) (67, [some (.ref 116), some (.ref 2000001), some (.int x11.1), some (.int x11.2)], [], mT s) = T) (fun K hJ => tl_M_is_2000001_24 (len := len) (xs := xs) d s (T := T) K hJ mm_N x10 (0 : Int32)) (fun x11 h1 h2 => ?_)
    revert h1 h2
    refine w_go K 1 (c' := (68, [some (.ref 116), some (.ref 2000001), some (.int x11.1), some (.int x11.2)], [.int x11.1], mT s)) rfl ?_
    exact w_retb K rfl (hK _)
theorem m_M_is_2000001 {len : Nat} {xs : Nat → Int32}  (d : Nat)  (s : mS) : ok_M_is_2000001 s → mm_call (mm_X len xs) mm_Y (d + 1) 211 [.ref 116, .ref 2000001] (mT s) = some (some (.int (f_M_is_2000001 s)), mT s) := fun h => t_M_is_2000001 (len := len) (xs := xs) d s (fun t => (some (some (.int t), mT s) : Option mm_R) = some (some (.int (f_M_is_2000001 s)), mT s)) (fun _ h => h) h rfl
def lp_M_is_2000002_24 (s : mS) : Nat → Int32 → Int32 → Int32 × Int32
  | 0, v2, v3 => (v2, v3)
  | n + 1, v2, v3 => (if (5 : Int32) ≤ v3 then (v2, v3) else (if v2 = 0 then (v2, v3) else (if (gI s 167 (ix ((gI s 116 83) + v3))) = ((mm_Y 2).getD (ix v3) 0) then (lp_M_is_2000002_24 s n (1 : Int32) (v3 + 1)) else (lp_M_is_2000002_24 s n (0 : Int32) (v3 + 1)))))
def okl_M_is_2000002_24 (s : mS) : Nat → Int32 → Int32 → Prop
  | 0, v2, v3 => False
  | n + 1, v2, v3 => (if (5 : Int32) ≤ v3 then True else (if v2 = 0 then True else (mm_inb ((gI s 116 83) + v3) 600 = true ∧ (mm_inb v3 5 = true ∧ (if (gI s 167 (ix ((gI s 116 83) + v3))) = ((mm_Y 2).getD (ix v3) 0) then (okl_M_is_2000002_24 s n (1 : Int32) (v3 + 1)) else (okl_M_is_2000002_24 s n (0 : Int32) (v3 + 1)))))))
set_option maxRecDepth 4000 in
theorem tl_M_is_2000002_24 {len : Nat} {xs : Nat → Int32}  (d : Nat)  (s : mS) {T : Option mm_R} (K : Int32 × Int32 → Prop) (hX : ∀ r, K r → mm_fix (mm_X len xs) mm_Y (mm_call (mm_X len xs) mm_Y (d + 0)) (mm_look mc_M_is) (67, [some (.ref 116), some (.ref 2000002), some (.int r.1), some (.int r.2)], [], mT s) = T) : ∀ (n : Nat), ∀ (v2 : Int32) (v3 : Int32), okl_M_is_2000002_24 s n v2 v3 → K (lp_M_is_2000002_24 s n v2 v3) → mm_fix (mm_X len xs) mm_Y (mm_call (mm_X len xs) mm_Y (d + 0)) (mm_look mc_M_is) (24, [some (.ref 116), some (.ref 2000002), some (.int v2), some (.int v3)], [], mT s) = T := by
  intro n
  induction n with
  | zero => intro v2 v3; exact fun h => h.elim
  | succ n ih =>
    intro v2 v3
    rw [okl_M_is_2000002_24, lp_M_is_2000002_24]
    refine w_go K 3 (c' := (29, [some (.ref 116), some (.ref 2000002), some (.int v2), some (.int v3)], [.int 5, .int v3], mT s)) rfl ?_
    refine w_ige K rfl (fun _ => ?_) (fun _ => ?_)
    · refine w_go K 0 (c' := (67, [some (.ref 116), some (.ref 2000002), some (.int v2), some (.int v3)], [], mT s)) rfl ?_
      exact fun _ b => hX _ b
    · refine w_go K 1 (c' := (33, [some (.ref 116), some (.ref 2000002), some (.int v2), some (.int v3)], [.int v2], mT s)) rfl ?_
      refine w_zeq K rfl (fun _ => ?_) (fun _ => ?_)
      · refine w_go K 0 (c' := (67, [some (.ref 116), some (.ref 2000002), some (.int v2), some (.int v3)], [], mT s)) rfl ?_
        exact fun _ b => hX _ b
      · refine w_go K 6 (c' := (46, [some (.ref 116), some (.ref 2000002), some (.int v2), some (.int v3)], [.int ((gI s 116 83) + v3), .ref 167], mT s)) rfl ?_
        refine w_ck K (st_iL rfl rfl) ?_
        refine w_go K 2 (c' := (49, [some (.ref 116), some (.ref 2000002), some (.int v2), some (.int v3)], [.int v3, .ref 2000002, .int (gI s 167 (ix ((gI s 116 83) + v3)))], mT s)) rfl ?_
        refine w_ck K (mm_xc rfl rfl rfl rfl rfl rfl) ?_
        refine w_go K 0 (c' := (52, [some (.ref 116), some (.ref 2000002), some (.int v2), some (.int v3)], [.int ((mm_Y 2).getD (ix v3) 0), .int (gI s 167 (ix ((gI s 116 83) + v3)))], mT s)) rfl ?_
        refine w_ine K rfl (fun _ => ?_) (fun _ => ?_)
        · refine w_go K 5 (c' := (24, [some (.ref 116), some (.ref 2000002), some (.int 1), some (.int (v3 + 1))], [], mT s)) rfl ?_
          exact fun a b => ih (1 : Int32) (v3 + 1) a b
        · refine w_go K 4 (c' := (24, [some (.ref 116), some (.ref 2000002), some (.int 0), some (.int (v3 + 1))], [], mT s)) rfl ?_
          exact fun a b => ih (0 : Int32) (v3 + 1) a b
def f_M_is_2000002  (s : mS) : Int32 := (mq_let (if ((gI s 116 81) - (gI s 116 83)) = 5 then (1 : Int32) else (0 : Int32)) (fun (x10 : Int32) => (mq_let (lp_M_is_2000002_24 s mm_N x10 (0 : Int32)) (fun (x11 : Int32 × Int32) => x11.1))))
def ok_M_is_2000002  (s : mS) : Prop := (True ∧ mq_letP (if ((gI s 116 81) - (gI s 116 83)) = 5 then (1 : Int32) else (0 : Int32)) (fun (x10 : Int32) => (okl_M_is_2000002_24 s mm_N x10 (0 : Int32) ∧ mq_letP (lp_M_is_2000002_24 s mm_N x10 (0 : Int32)) (fun (x11 : Int32 × Int32) => mm_bit x11.1 = true))))
set_option maxRecDepth 4000 in
theorem t_M_is_2000002 {len : Nat} {xs : Nat → Int32}  (d : Nat)  (s : mS) {T : Option mm_R} (K : Int32 → Prop) (hK : ∀ t, K t → some (some (.int t), mT s) = T) : ok_M_is_2000002 s → K (f_M_is_2000002 s) → mm_fix (mm_X len xs) mm_Y (mm_call (mm_X len xs) mm_Y (d + 0)) (mm_look mc_M_is) (0, [some (.ref 116), some (.ref 2000002), none, none], [], mT s) = T := by
  unfold ok_M_is_2000002 f_M_is_2000002
  refine w_go K 7 (c' := (13, [some (.ref 116), some (.ref 2000002), none, none], [.int 5, .int ((gI s 116 81) - (gI s 116 83))], mT s)) rfl ?_
  refine w_join K (fun (x10 : Int32) => mm_fix (mm_X len xs) mm_Y (mm_call (mm_X len xs) mm_Y (d + 0)) (mm_look mc_M_is) (21, [some (.ref 116), some (.ref 2000002), none, none], [.int x10], mT s) = T) (fun K hJ => ?_) (fun x10 h1 h2 => ?_)
  · refine w_go K 0 (c' := (13, [some (.ref 116), some (.ref 2000002), none, none], [.int 5, .int ((gI s 116 81) - (gI s 116 83))], mT s)) rfl ?_
    refine w_ineT K rfl (fun _ => ?_) (fun _ => ?_)
    · refine w_go K 2 (c' := (21, [some (.ref 116), some (.ref 2000002), none, none], [.int 1], mT s)) rfl ?_
      exact fun _ h => hJ _ h
    · refine w_go K 1 (c' := (21, [some (.ref 116), some (.ref 2000002), none, none], [.int 0], mT s)) rfl ?_
      exact fun _ h => hJ _ h
  · revert h1 h2
    refine w_go K 3 (c' := (24, [some (.ref 116), some (.ref 2000002), some (.int x10), some (.int 0)], [], mT s)) rfl ?_
    refine w_join K (fun (x11 : Int32 × Int32) => mm_fix (mm_X len xs) mm_Y (mm_call (mm_X len xs) mm_Y (d + 0)) (mm_look mc_M_is) (67, [some (.ref 116), some (.ref 2000002), some (.int x11.1), some (.int x11.2)], [], mT s) = T) (fun K hJ => tl_M_is_2000002_24 (len := len) (xs := xs) d s (T := T) K hJ mm_N x10 (0 : Int32)) (fun x11 h1 h2 => ?_)
    revert h1 h2
    refine w_go K 1 (c' := (68, [some (.ref 116), some (.ref 2000002), some (.int x11.1), some (.int x11.2)], [.int x11.1], mT s)) rfl ?_
    exact w_retb K rfl (hK _)
theorem m_M_is_2000002 {len : Nat} {xs : Nat → Int32}  (d : Nat)  (s : mS) : ok_M_is_2000002 s → mm_call (mm_X len xs) mm_Y (d + 1) 211 [.ref 116, .ref 2000002] (mT s) = some (some (.int (f_M_is_2000002 s)), mT s) := fun h => t_M_is_2000002 (len := len) (xs := xs) d s (fun t => (some (some (.int t), mT s) : Option mm_R) = some (some (.int (f_M_is_2000002 s)), mT s)) (fun _ h => h) h rfl
def lp_M_is_2000003_24 (s : mS) : Nat → Int32 → Int32 → Int32 × Int32
  | 0, v2, v3 => (v2, v3)
  | n + 1, v2, v3 => (if (4 : Int32) ≤ v3 then (v2, v3) else (if v2 = 0 then (v2, v3) else (if (gI s 167 (ix ((gI s 116 83) + v3))) = ((mm_Y 3).getD (ix v3) 0) then (lp_M_is_2000003_24 s n (1 : Int32) (v3 + 1)) else (lp_M_is_2000003_24 s n (0 : Int32) (v3 + 1)))))
def okl_M_is_2000003_24 (s : mS) : Nat → Int32 → Int32 → Prop
  | 0, v2, v3 => False
  | n + 1, v2, v3 => (if (4 : Int32) ≤ v3 then True else (if v2 = 0 then True else (mm_inb ((gI s 116 83) + v3) 600 = true ∧ (mm_inb v3 4 = true ∧ (if (gI s 167 (ix ((gI s 116 83) + v3))) = ((mm_Y 3).getD (ix v3) 0) then (okl_M_is_2000003_24 s n (1 : Int32) (v3 + 1)) else (okl_M_is_2000003_24 s n (0 : Int32) (v3 + 1)))))))
set_option maxRecDepth 4000 in
theorem tl_M_is_2000003_24 {len : Nat} {xs : Nat → Int32}  (d : Nat)  (s : mS) {T : Option mm_R} (K : Int32 × Int32 → Prop) (hX : ∀ r, K r → mm_fix (mm_X len xs) mm_Y (mm_call (mm_X len xs) mm_Y (d + 0)) (mm_look mc_M_is) (67, [some (.ref 116), some (.ref 2000003), some (.int r.1), some (.int r.2)], [], mT s) = T) : ∀ (n : Nat), ∀ (v2 : Int32) (v3 : Int32), okl_M_is_2000003_24 s n v2 v3 → K (lp_M_is_2000003_24 s n v2 v3) → mm_fix (mm_X len xs) mm_Y (mm_call (mm_X len xs) mm_Y (d + 0)) (mm_look mc_M_is) (24, [some (.ref 116), some (.ref 2000003), some (.int v2), some (.int v3)], [], mT s) = T := by
  intro n
  induction n with
  | zero => intro v2 v3; exact fun h => h.elim
  | succ n ih =>
    intro v2 v3
    rw [okl_M_is_2000003_24, lp_M_is_2000003_24]
    refine w_go K 3 (c' := (29, [some (.ref 116), some (.ref 2000003), some (.int v2), some (.int v3)], [.int 4, .int v3], mT s)) rfl ?_
    refine w_ige K rfl (fun _ => ?_) (fun _ => ?_)
    · refine w_go K 0 (c' := (67, [some (.ref 116), some (.ref 2000003), some (.int v2), some (.int v3)], [], mT s)) rfl ?_
      exact fun _ b => hX _ b
    · refine w_go K 1 (c' := (33, [some (.ref 116), some (.ref 2000003), some (.int v2), some (.int v3)], [.int v2], mT s)) rfl ?_
      refine w_zeq K rfl (fun _ => ?_) (fun _ => ?_)
      · refine w_go K 0 (c' := (67, [some (.ref 116), some (.ref 2000003), some (.int v2), some (.int v3)], [], mT s)) rfl ?_
        exact fun _ b => hX _ b
      · refine w_go K 6 (c' := (46, [some (.ref 116), some (.ref 2000003), some (.int v2), some (.int v3)], [.int ((gI s 116 83) + v3), .ref 167], mT s)) rfl ?_
        refine w_ck K (st_iL rfl rfl) ?_
        refine w_go K 2 (c' := (49, [some (.ref 116), some (.ref 2000003), some (.int v2), some (.int v3)], [.int v3, .ref 2000003, .int (gI s 167 (ix ((gI s 116 83) + v3)))], mT s)) rfl ?_
        refine w_ck K (mm_xc rfl rfl rfl rfl rfl rfl) ?_
        refine w_go K 0 (c' := (52, [some (.ref 116), some (.ref 2000003), some (.int v2), some (.int v3)], [.int ((mm_Y 3).getD (ix v3) 0), .int (gI s 167 (ix ((gI s 116 83) + v3)))], mT s)) rfl ?_
        refine w_ine K rfl (fun _ => ?_) (fun _ => ?_)
        · refine w_go K 5 (c' := (24, [some (.ref 116), some (.ref 2000003), some (.int 1), some (.int (v3 + 1))], [], mT s)) rfl ?_
          exact fun a b => ih (1 : Int32) (v3 + 1) a b
        · refine w_go K 4 (c' := (24, [some (.ref 116), some (.ref 2000003), some (.int 0), some (.int (v3 + 1))], [], mT s)) rfl ?_
          exact fun a b => ih (0 : Int32) (v3 + 1) a b
def f_M_is_2000003  (s : mS) : Int32 := (mq_let (if ((gI s 116 81) - (gI s 116 83)) = 4 then (1 : Int32) else (0 : Int32)) (fun (x10 : Int32) => (mq_let (lp_M_is_2000003_24 s mm_N x10 (0 : Int32)) (fun (x11 : Int32 × Int32) => x11.1))))
def ok_M_is_2000003  (s : mS) : Prop := (True ∧ mq_letP (if ((gI s 116 81) - (gI s 116 83)) = 4 then (1 : Int32) else (0 : Int32)) (fun (x10 : Int32) => (okl_M_is_2000003_24 s mm_N x10 (0 : Int32) ∧ mq_letP (lp_M_is_2000003_24 s mm_N x10 (0 : Int32)) (fun (x11 : Int32 × Int32) => mm_bit x11.1 = true))))
set_option maxRecDepth 4000 in
theorem t_M_is_2000003 {len : Nat} {xs : Nat → Int32}  (d : Nat)  (s : mS) {T : Option mm_R} (K : Int32 → Prop) (hK : ∀ t, K t → some (some (.int t), mT s) = T) : ok_M_is_2000003 s → K (f_M_is_2000003 s) → mm_fix (mm_X len xs) mm_Y (mm_call (mm_X len xs) mm_Y (d + 0)) (mm_look mc_M_is) (0, [some (.ref 116), some (.ref 2000003), none, none], [], mT s) = T := by
  unfold ok_M_is_2000003 f_M_is_2000003
  refine w_go K 7 (c' := (13, [some (.ref 116), some (.ref 2000003), none, none], [.int 4, .int ((gI s 116 81) - (gI s 116 83))], mT s)) rfl ?_
  refine w_join K (fun (x10 : Int32) => mm_fix (mm_X len xs) mm_Y (mm_call (mm_X len xs) mm_Y (d + 0)) (mm_look mc_M_is) (21, [some (.ref 116), some (.ref 2000003), none, none], [.int x10], mT s) = T) (fun K hJ => ?_) (fun x10 h1 h2 => ?_)
  · refine w_go K 0 (c' := (13, [some (.ref 116), some (.ref 2000003), none, none], [.int 4, .int ((gI s 116 81) - (gI s 116 83))], mT s)) rfl ?_
    refine w_ineT K rfl (fun _ => ?_) (fun _ => ?_)
    · refine w_go K 2 (c' := (21, [some (.ref 116), some (.ref 2000003), none, none], [.int 1], mT s)) rfl ?_
      exact fun _ h => hJ _ h
    · refine w_go K 1 (c' := (21, [some (.ref 116), some (.ref 2000003), none, none], [.int 0], mT s)) rfl ?_
      exact fun _ h => hJ _ h
  · revert h1 h2
    refine w_go K 3 (c' := (24, [some (.ref 116), some (.ref 2000003), some (.int x10), some (.int 0)], [], mT s)) rfl ?_
    refine w_join K (fun (x11 : Int32 × Int32) => mm_fix (mm_X len xs) mm_Y (mm_call (mm_X len xs) mm_Y (d + 0)) (mm_look mc_M_is) (67, [some (.ref 116), some (.ref 2000003), some (.int x11.1), some (.int x11.2)], [], mT s) = T) (fun K hJ => tl_M_is_2000003_24 (len := len) (xs := xs) d s (T := T) K hJ mm_N x10 (0 : Int32)) (fun x11 h1 h2 => ?_)
    revert h1 h2
    refine w_go K 1 (c' := (68, [some (.ref 116), some (.ref 2000003), some (.int x11.1), some (.int x11.2)], [.int x11.1], mT s)) rfl ?_
    exact w_retb K rfl (hK _)
theorem m_M_is_2000003 {len : Nat} {xs : Nat → Int32}  (d : Nat)  (s : mS) : ok_M_is_2000003 s → mm_call (mm_X len xs) mm_Y (d + 1) 211 [.ref 116, .ref 2000003] (mT s) = some (some (.int (f_M_is_2000003 s)), mT s) := fun h => t_M_is_2000003 (len := len) (xs := xs) d s (fun t => (some (some (.int t), mT s) : Option mm_R) = some (some (.int (f_M_is_2000003 s)), mT s)) (fun _ h => h) h rfl
def lp_M_is_2000004_24 (s : mS) : Nat → Int32 → Int32 → Int32 × Int32
  | 0, v2, v3 => (v2, v3)
  | n + 1, v2, v3 => (if (8 : Int32) ≤ v3 then (v2, v3) else (if v2 = 0 then (v2, v3) else (if (gI s 167 (ix ((gI s 116 83) + v3))) = ((mm_Y 4).getD (ix v3) 0) then (lp_M_is_2000004_24 s n (1 : Int32) (v3 + 1)) else (lp_M_is_2000004_24 s n (0 : Int32) (v3 + 1)))))
def okl_M_is_2000004_24 (s : mS) : Nat → Int32 → Int32 → Prop
  | 0, v2, v3 => False
  | n + 1, v2, v3 => (if (8 : Int32) ≤ v3 then True else (if v2 = 0 then True else (mm_inb ((gI s 116 83) + v3) 600 = true ∧ (mm_inb v3 8 = true ∧ (if (gI s 167 (ix ((gI s 116 83) + v3))) = ((mm_Y 4).getD (ix v3) 0) then (okl_M_is_2000004_24 s n (1 : Int32) (v3 + 1)) else (okl_M_is_2000004_24 s n (0 : Int32) (v3 + 1)))))))
set_option maxRecDepth 4000 in
theorem tl_M_is_2000004_24 {len : Nat} {xs : Nat → Int32}  (d : Nat)  (s : mS) {T : Option mm_R} (K : Int32 × Int32 → Prop) (hX : ∀ r, K r → mm_fix (mm_X len xs) mm_Y (mm_call (mm_X len xs) mm_Y (d + 0)) (mm_look mc_M_is) (67, [some (.ref 116), some (.ref 2000004), some (.int r.1), some (.int r.2)], [], mT s) = T) : ∀ (n : Nat), ∀ (v2 : Int32) (v3 : Int32), okl_M_is_2000004_24 s n v2 v3 → K (lp_M_is_2000004_24 s n v2 v3) → mm_fix (mm_X len xs) mm_Y (mm_call (mm_X len xs) mm_Y (d + 0)) (mm_look mc_M_is) (24, [some (.ref 116), some (.ref 2000004), some (.int v2), some (.int v3)], [], mT s) = T := by
  intro n
  induction n with
  | zero => intro v2 v3; exact fun h => h.elim
  | succ n ih =>
    intro v2 v3
    rw [okl_M_is_2000004_24, lp_M_is_2000004_24]
    refine w_go K 3 (c' := (29, [some (.ref 116), some (.ref 2000004), some (.int v2), some (.int v3)], [.int 8, .int v3], mT s)) rfl ?_
    refine w_ige K rfl (fun _ => ?_) (fun _ => ?_)
    · refine w_go K 0 (c' := (67, [some (.ref 116), some (.ref 2000004), some (.int v2), some (.int v3)], [], mT s)) rfl ?_
      exact fun _ b => hX _ b
    · refine w_go K 1 (c' := (33, [some (.ref 116), some (.ref 2000004), some (.int v2), some (.int v3)], [.int v2], mT s)) rfl ?_
      refine w_zeq K rfl (fun _ => ?_) (fun _ => ?_)
      · refine w_go K 0 (c' := (67, [some (.ref 116), some (.ref 2000004), some (.int v2), some (.int v3)], [], mT s)) rfl ?_
        exact fun _ b => hX _ b
      · refine w_go K 6 (c' := (46, [some (.ref 116), some (.ref 2000004), some (.int v2), some (.int v3)], [.int ((gI s 116 83) + v3), .ref 167], mT s)) rfl ?_
        refine w_ck K (st_iL rfl rfl) ?_
        refine w_go K 2 (c' := (49, [some (.ref 116), some (.ref 2000004), some (.int v2), some (.int v3)], [.int v3, .ref 2000004, .int (gI s 167 (ix ((gI s 116 83) + v3)))], mT s)) rfl ?_
        refine w_ck K (mm_xc rfl rfl rfl rfl rfl rfl) ?_
        refine w_go K 0 (c' := (52, [some (.ref 116), some (.ref 2000004), some (.int v2), some (.int v3)], [.int ((mm_Y 4).getD (ix v3) 0), .int (gI s 167 (ix ((gI s 116 83) + v3)))], mT s)) rfl ?_
        refine w_ine K rfl (fun _ => ?_) (fun _ => ?_)
        · refine w_go K 5 (c' := (24, [some (.ref 116), some (.ref 2000004), some (.int 1), some (.int (v3 + 1))], [], mT s)) rfl ?_
          exact fun a b => ih (1 : Int32) (v3 + 1) a b
        · refine w_go K 4 (c' := (24, [some (.ref 116), some (.ref 2000004), some (.int 0), some (.int (v3 + 1))], [], mT s)) rfl ?_
          exact fun a b => ih (0 : Int32) (v3 + 1) a b
def f_M_is_2000004  (s : mS) : Int32 := (mq_let (if ((gI s 116 81) - (gI s 116 83)) = 8 then (1 : Int32) else (0 : Int32)) (fun (x10 : Int32) => (mq_let (lp_M_is_2000004_24 s mm_N x10 (0 : Int32)) (fun (x11 : Int32 × Int32) => x11.1))))
def ok_M_is_2000004  (s : mS) : Prop := (True ∧ mq_letP (if ((gI s 116 81) - (gI s 116 83)) = 8 then (1 : Int32) else (0 : Int32)) (fun (x10 : Int32) => (okl_M_is_2000004_24 s mm_N x10 (0 : Int32) ∧ mq_letP (lp_M_is_2000004_24 s mm_N x10 (0 : Int32)) (fun (x11 : Int32 × Int32) => mm_bit x11.1 = true))))
set_option maxRecDepth 4000 in
theorem t_M_is_2000004 {len : Nat} {xs : Nat → Int32}  (d : Nat)  (s : mS) {T : Option mm_R} (K : Int32 → Prop) (hK : ∀ t, K t → some (some (.int t), mT s) = T) : ok_M_is_2000004 s → K (f_M_is_2000004 s) → mm_fix (mm_X len xs) mm_Y (mm_call (mm_X len xs) mm_Y (d + 0)) (mm_look mc_M_is) (0, [some (.ref 116), some (.ref 2000004), none, none], [], mT s) = T := by
  unfold ok_M_is_2000004 f_M_is_2000004
  refine w_go K 7 (c' := (13, [some (.ref 116), some (.ref 2000004), none, none], [.int 8, .int ((gI s 116 81) - (gI s 116 83))], mT s)) rfl ?_
  refine w_join K (fun (x10 : Int32) => mm_fix (mm_X len xs) mm_Y (mm_call (mm_X len xs) mm_Y (d + 0)) (mm_look mc_M_is) (21, [some (.ref 116), some (.ref 2000004), none, none], [.int x10], mT s) = T) (fun K hJ => ?_) (fun x10 h1 h2 => ?_)
  · refine w_go K 0 (c' := (13, [some (.ref 116), some (.ref 2000004), none, none], [.int 8, .int ((gI s 116 81) - (gI s 116 83))], mT s)) rfl ?_
    refine w_ineT K rfl (fun _ => ?_) (fun _ => ?_)
    · refine w_go K 2 (c' := (21, [some (.ref 116), some (.ref 2000004), none, none], [.int 1], mT s)) rfl ?_
      exact fun _ h => hJ _ h
    · refine w_go K 1 (c' := (21, [some (.ref 116), some (.ref 2000004), none, none], [.int 0], mT s)) rfl ?_
      exact fun _ h => hJ _ h
  · revert h1 h2
    refine w_go K 3 (c' := (24, [some (.ref 116), some (.ref 2000004), some (.int x10), some (.int 0)], [], mT s)) rfl ?_
    refine w_join K (fun (x11 : Int32 × Int32) => mm_fix (mm_X len xs) mm_Y (mm_call (mm_X len xs) mm_Y (d + 0)) (mm_look mc_M_is) (67, [some (.ref 116), some (.ref 2000004), some (.int x11.1), some (.int x11.2)], [], mT s) = T) (fun K hJ => tl_M_is_2000004_24 (len := len) (xs := xs) d s (T := T) K hJ mm_N x10 (0 : Int32)) (fun x11 h1 h2 => ?_)
    revert h1 h2
    refine w_go K 1 (c' := (68, [some (.ref 116), some (.ref 2000004), some (.int x11.1), some (.int x11.2)], [.int x11.1], mT s)) rfl ?_
    exact w_retb K rfl (hK _)
theorem m_M_is_2000004 {len : Nat} {xs : Nat → Int32}  (d : Nat)  (s : mS) : ok_M_is_2000004 s → mm_call (mm_X len xs) mm_Y (d + 1) 211 [.ref 116, .ref 2000004] (mT s) = some (some (.int (f_M_is_2000004 s)), mT s) := fun h => t_M_is_2000004 (len := len) (xs := xs) d s (fun t => (some (some (.int t), mT s) : Option mm_R) = some (some (.int (f_M_is_2000004 s)), mT s)) (fun _ h => h) h rfl
def lp_M_is_2000009_24 (s : mS) : Nat → Int32 → Int32 → Int32 × Int32
  | 0, v2, v3 => (v2, v3)
  | n + 1, v2, v3 => (if (4 : Int32) ≤ v3 then (v2, v3) else (if v2 = 0 then (v2, v3) else (if (gI s 167 (ix ((gI s 116 83) + v3))) = ((mm_Y 9).getD (ix v3) 0) then (lp_M_is_2000009_24 s n (1 : Int32) (v3 + 1)) else (lp_M_is_2000009_24 s n (0 : Int32) (v3 + 1)))))
def okl_M_is_2000009_24 (s : mS) : Nat → Int32 → Int32 → Prop
  | 0, v2, v3 => False
  | n + 1, v2, v3 => (if (4 : Int32) ≤ v3 then True else (if v2 = 0 then True else (mm_inb ((gI s 116 83) + v3) 600 = true ∧ (mm_inb v3 4 = true ∧ (if (gI s 167 (ix ((gI s 116 83) + v3))) = ((mm_Y 9).getD (ix v3) 0) then (okl_M_is_2000009_24 s n (1 : Int32) (v3 + 1)) else (okl_M_is_2000009_24 s n (0 : Int32) (v3 + 1)))))))
set_option maxRecDepth 4000 in
theorem tl_M_is_2000009_24 {len : Nat} {xs : Nat → Int32}  (d : Nat)  (s : mS) {T : Option mm_R} (K : Int32 × Int32 → Prop) (hX : ∀ r, K r → mm_fix (mm_X len xs) mm_Y (mm_call (mm_X len xs) mm_Y (d + 0)) (mm_look mc_M_is) (67, [some (.ref 116), some (.ref 2000009), some (.int r.1), some (.int r.2)], [], mT s) = T) : ∀ (n : Nat), ∀ (v2 : Int32) (v3 : Int32), okl_M_is_2000009_24 s n v2 v3 → K (lp_M_is_2000009_24 s n v2 v3) → mm_fix (mm_X len xs) mm_Y (mm_call (mm_X len xs) mm_Y (d + 0)) (mm_look mc_M_is) (24, [some (.ref 116), some (.ref 2000009), some (.int v2), some (.int v3)], [], mT s) = T := by
  intro n
  induction n with
  | zero => intro v2 v3; exact fun h => h.elim
  | succ n ih =>
    intro v2 v3
    rw [okl_M_is_2000009_24, lp_M_is_2000009_24]
    refine w_go K 3 (c' := (29, [some (.ref 116), some (.ref 2000009), some (.int v2), some (.int v3)], [.int 4, .int v3], mT s)) rfl ?_
    refine w_ige K rfl (fun _ => ?_) (fun _ => ?_)
    · refine w_go K 0 (c' := (67, [some (.ref 116), some (.ref 2000009), some (.int v2), some (.int v3)], [], mT s)) rfl ?_
      exact fun _ b => hX _ b
    · refine w_go K 1 (c' := (33, [some (.ref 116), some (.ref 2000009), some (.int v2), some (.int v3)], [.int v2], mT s)) rfl ?_
      refine w_zeq K rfl (fun _ => ?_) (fun _ => ?_)
      · refine w_go K 0 (c' := (67, [some (.ref 116), some (.ref 2000009), some (.int v2), some (.int v3)], [], mT s)) rfl ?_
        exact fun _ b => hX _ b
      · refine w_go K 6 (c' := (46, [some (.ref 116), some (.ref 2000009), some (.int v2), some (.int v3)], [.int ((gI s 116 83) + v3), .ref 167], mT s)) rfl ?_
        refine w_ck K (st_iL rfl rfl) ?_
        refine w_go K 2 (c' := (49, [some (.ref 116), some (.ref 2000009), some (.int v2), some (.int v3)], [.int v3, .ref 2000009, .int (gI s 167 (ix ((gI s 116 83) + v3)))], mT s)) rfl ?_
        refine w_ck K (mm_xc rfl rfl rfl rfl rfl rfl) ?_
        refine w_go K 0 (c' := (52, [some (.ref 116), some (.ref 2000009), some (.int v2), some (.int v3)], [.int ((mm_Y 9).getD (ix v3) 0), .int (gI s 167 (ix ((gI s 116 83) + v3)))], mT s)) rfl ?_
        refine w_ine K rfl (fun _ => ?_) (fun _ => ?_)
        · refine w_go K 5 (c' := (24, [some (.ref 116), some (.ref 2000009), some (.int 1), some (.int (v3 + 1))], [], mT s)) rfl ?_
          exact fun a b => ih (1 : Int32) (v3 + 1) a b
        · refine w_go K 4 (c' := (24, [some (.ref 116), some (.ref 2000009), some (.int 0), some (.int (v3 + 1))], [], mT s)) rfl ?_
          exact fun a b => ih (0 : Int32) (v3 + 1) a b
def f_M_is_2000009  (s : mS) : Int32 := (mq_let (if ((gI s 116 81) - (gI s 116 83)) = 4 then (1 : Int32) else (0 : Int32)) (fun (x10 : Int32) => (mq_let (lp_M_is_2000009_24 s mm_N x10 (0 : Int32)) (fun (x11 : Int32 × Int32) => x11.1))))
def ok_M_is_2000009  (s : mS) : Prop := (True ∧ mq_letP (if ((gI s 116 81) - (gI s 116 83)) = 4 then (1 : Int32) else (0 : Int32)) (fun (x10 : Int32) => (okl_M_is_2000009_24 s mm_N x10 (0 : Int32) ∧ mq_letP (lp_M_is_2000009_24 s mm_N x10 (0 : Int32)) (fun (x11 : Int32 × Int32) => mm_bit x11.1 = true))))
set_option maxRecDepth 4000 in
theorem t_M_is_2000009 {len : Nat} {xs : Nat → Int32}  (d : Nat)  (s : mS) {T : Option mm_R} (K : Int32 → Prop) (hK : ∀ t, K t → some (some (.int t), mT s) = T) : ok_M_is_2000009 s → K (f_M_is_2000009 s) → mm_fix (mm_X len xs) mm_Y (mm_call (mm_X len xs) mm_Y (d + 0)) (mm_look mc_M_is) (0, [some (.ref 116), some (.ref 2000009), none, none], [], mT s) = T := by
  unfold ok_M_is_2000009 f_M_is_2000009
  refine w_go K 7 (c' := (13, [some (.ref 116), some (.ref 2000009), none, none], [.int 4, .int ((gI s 116 81) - (gI s 116 83))], mT s)) rfl ?_
  refine w_join K (fun (x10 : Int32) => mm_fix (mm_X len xs) mm_Y (mm_call (mm_X len xs) mm_Y (d + 0)) (mm_look mc_M_is) (21, [some (.ref 116), some (.ref 2000009), none, none], [.int x10], mT s) = T) (fun K hJ => ?_) (fun x10 h1 h2 => ?_)
  · refine w_go K 0 (c' := (13, [some (.ref 116), some (.ref 2000009), none, none], [.int 4, .int ((gI s 116 81) - (gI s 116 83))], mT s)) rfl ?_
    refine w_ineT K rfl (fun _ => ?_) (fun _ => ?_)
    · refine w_go K 2 (c' := (21, [some (.ref 116), some (.ref 2000009), none, none], [.int 1], mT s)) rfl ?_
      exact fun _ h => hJ _ h
    · refine w_go K 1 (c' := (21, [some (.ref 116), some (.ref 2000009), none, none], [.int 0], mT s)) rfl ?_
      exact fun _ h => hJ _ h
  · revert h1 h2
    refine w_go K 3 (c' := (24, [some (.ref 116), some (.ref 2000009), some (.int x10), some (.int 0)], [], mT s)) rfl ?_
    refine w_join K (fun (x11 : Int32 × Int32) => mm_fix (mm_X len xs) mm_Y (mm_call (mm_X len xs) mm_Y (d + 0)) (mm_look mc_M_is) (67, [some (.ref 116), some (.ref 2000009), some (.int x11.1), some (.int x11.2)], [], mT s) = T) (fun K hJ => tl_M_is_2000009_24 (len := len) (xs := xs) d s (T := T) K hJ mm_N x10 (0 : Int32)) (fun x11 h1 h2 => ?_)
    revert h1 h2
    refine w_go K 1 (c' := (68, [some (.ref 116), some (.ref 2000009), some (.int x11.1), some (.int x11.2)], [.int x11.1], mT s)) rfl ?_
    exact w_retb K rfl (hK _)
theorem m_M_is_2000009 {len : Nat} {xs : Nat → Int32}  (d : Nat)  (s : mS) : ok_M_is_2000009 s → mm_call (mm_X len xs) mm_Y (d + 1) 211 [.ref 116, .ref 2000009] (mT s) = some (some (.int (f_M_is_2000009 s)), mT s) := fun h => t_M_is_2000009 (len := len) (xs := xs) d s (fun t => (some (some (.int t), mT s) : Option mm_R) = some (some (.int (f_M_is_2000009 s)), mT s)) (fun _ h => h) h rfl
def lp_M_is_2000010_24 (s : mS) : Nat → Int32 → Int32 → Int32 × Int32
  | 0, v2, v3 => (v2, v3)
  | n + 1, v2, v3 => (if (2 : Int32) ≤ v3 then (v2, v3) else (if v2 = 0 then (v2, v3) else (if (gI s 167 (ix ((gI s 116 83) + v3))) = ((mm_Y 10).getD (ix v3) 0) then (lp_M_is_2000010_24 s n (1 : Int32) (v3 + 1)) else (lp_M_is_2000010_24 s n (0 : Int32) (v3 + 1)))))
def okl_M_is_2000010_24 (s : mS) : Nat → Int32 → Int32 → Prop
  | 0, v2, v3 => False
  | n + 1, v2, v3 => (if (2 : Int32) ≤ v3 then True else (if v2 = 0 then True else (mm_inb ((gI s 116 83) + v3) 600 = true ∧ (mm_inb v3 2 = true ∧ (if (gI s 167 (ix ((gI s 116 83) + v3))) = ((mm_Y 10).getD (ix v3) 0) then (okl_M_is_2000010_24 s n (1 : Int32) (v3 + 1)) else (okl_M_is_2000010_24 s n (0 : Int32) (v3 + 1)))))))
set_option maxRecDepth 4000 in
theorem tl_M_is_2000010_24 {len : Nat} {xs : Nat → Int32}  (d : Nat)  (s : mS) {T : Option mm_R} (K : Int32 × Int32 → Prop) (hX : ∀ r, K r → mm_fix (mm_X len xs) mm_Y (mm_call (mm_X len xs) mm_Y (d + 0)) (mm_look mc_M_is) (67, [some (.ref 116), some (.ref 2000010), some (.int r.1), some (.int r.2)], [], mT s) = T) : ∀ (n : Nat), ∀ (v2 : Int32) (v3 : Int32), okl_M_is_2000010_24 s n v2 v3 → K (lp_M_is_2000010_24 s n v2 v3) → mm_fix (mm_X len xs) mm_Y (mm_call (mm_X len xs) mm_Y (d + 0)) (mm_look mc_M_is) (24, [some (.ref 116), some (.ref 2000010), some (.int v2), some (.int v3)], [], mT s) = T := by
  intro n
  induction n with
  | zero => intro v2 v3; exact fun h => h.elim
  | succ n ih =>
    intro v2 v3
    rw [okl_M_is_2000010_24, lp_M_is_2000010_24]
    refine w_go K 3 (c' := (29, [some (.ref 116), some (.ref 2000010), some (.int v2), some (.int v3)], [.int 2, .int v3], mT s)) rfl ?_
    refine w_ige K rfl (fun _ => ?_) (fun _ => ?_)
    · refine w_go K 0 (c' := (67, [some (.ref 116), some (.ref 2000010), some (.int v2), some (.int v3)], [], mT s)) rfl ?_
      exact fun _ b => hX _ b
    · refine w_go K 1 (c' := (33, [some (.ref 116), some (.ref 2000010), some (.int v2), some (.int v3)], [.int v2], mT s)) rfl ?_
      refine w_zeq K rfl (fun _ => ?_) (fun _ => ?_)
      · refine w_go K 0 (c' := (67, [some (.ref 116), some (.ref 2000010), some (.int v2), some (.int v3)], [], mT s)) rfl ?_
        exact fun _ b => hX _ b
      · refine w_go K 6 (c' := (46, [some (.ref 116), some (.ref 2000010), some (.int v2), some (.int v3)], [.int ((gI s 116 83) + v3), .ref 167], mT s)) rfl ?_
        refine w_ck K (st_iL rfl rfl) ?_
        refine w_go K 2 (c' := (49, [some (.ref 116), some (.ref 2000010), some (.int v2), some (.int v3)], [.int v3, .ref 2000010, .int (gI s 167 (ix ((gI s 116 83) + v3)))], mT s)) rfl ?_
        refine w_ck K (mm_xc rfl rfl rfl rfl rfl rfl) ?_
        refine w_go K 0 (c' := (52, [some (.ref 116), some (.ref 2000010), some (.int v2), some (.int v3)], [.int ((mm_Y 10).getD (ix v3) 0), .int (gI s 167 (ix ((gI s 116 83) + v3)))], mT s)) rfl ?_
        refine w_ine K rfl (fun _ => ?_) (fun _ => ?_)
        · refine w_go K 5 (c' := (24, [some (.ref 116), some (.ref 2000010), some (.int 1), some (.int (v3 + 1))], [], mT s)) rfl ?_
          exact fun a b => ih (1 : Int32) (v3 + 1) a b
        · refine w_go K 4 (c' := (24, [some (.ref 116), some (.ref 2000010), some (.int 0), some (.int (v3 + 1))], [], mT s)) rfl ?_
          exact fun a b => ih (0 : Int32) (v3 + 1) a b
def f_M_is_2000010  (s : mS) : Int32 := (mq_let (if ((gI s 116 81) - (gI s 116 83)) = 2 then (1 : Int32) else (0 : Int32)) (fun (x10 : Int32) => (mq_let (lp_M_is_2000010_24 s mm_N x10 (0 : Int32)) (fun (x11 : Int32 × Int32) => x11.1))))
def ok_M_is_2000010  (s : mS) : Prop := (True ∧ mq_letP (if ((gI s 116 81) - (gI s 116 83)) = 2 then (1 : Int32) else (0 : Int32)) (fun (x10 : Int32) => (okl_M_is_2000010_24 s mm_N x10 (0 : Int32) ∧ mq_letP (lp_M_is_2000010_24 s mm_N x10 (0 : Int32)) (fun (x11 : Int32 × Int32) => mm_bit x11.1 = true))))
set_option maxRecDepth 4000 in
theorem t_M_is_2000010 {len : Nat} {xs : Nat → Int32}  (d : Nat)  (s : mS) {T : Option mm_R} (K : Int32 → Prop) (hK : ∀ t, K t → some (some (.int t), mT s) = T) : ok_M_is_2000010 s → K (f_M_is_2000010 s) → mm_fix (mm_X len xs) mm_Y (mm_call (mm_X len xs) mm_Y (d + 0)) (mm_look mc_M_is) (0, [some (.ref 116), some (.ref 2000010), none, none], [], mT s) = T := by
  unfold ok_M_is_2000010 f_M_is_2000010
  refine w_go K 7 (c' := (13, [some (.ref 116), some (.ref 2000010), none, none], [.int 2, .int ((gI s 116 81) - (gI s 116 83))], mT s)) rfl ?_
  refine w_join K (fun (x10 : Int32) => mm_fix (mm_X len xs) mm_Y (mm_call (mm_X len xs) mm_Y (d + 0)) (mm_look mc_M_is) (21, [some (.ref 116), some (.ref 2000010), none, none], [.int x10], mT s) = T) (fun K hJ => ?_) (fun x10 h1 h2 => ?_)
  · refine w_go K 0 (c' := (13, [some (.ref 116), some (.ref 2000010), none, none], [.int 2, .int ((gI s 116 81) - (gI s 116 83))], mT s)) rfl ?_
    refine w_ineT K rfl (fun _ => ?_) (fun _ => ?_)
    · refine w_go K 2 (c' := (21, [some (.ref 116), some (.ref 2000010), none, none], [.int 1], mT s)) rfl ?_
      exact fun _ h => hJ _ h
    · refine w_go K 1 (c' := (21, [some (.ref 116), some (.ref 2000010), none, none], [.int 0], mT s)) rfl ?_
      exact fun _ h => hJ _ h
  · revert h1 h2
    refine w_go K 3 (c' := (24, [some (.ref 116), some (.ref 2000010), some (.int x10), some (.int 0)], [], mT s)) rfl ?_
    refine w_join K (fun (x11 : Int32 × Int32) => mm_fix (mm_X len xs) mm_Y (mm_call (mm_X len xs) mm_Y (d + 0)) (mm_look mc_M_is) (67, [some (.ref 116), some (.ref 2000010), some (.int x11.1), some (.int x11.2)], [], mT s) = T) (fun K hJ => tl_M_is_2000010_24 (len := len) (xs := xs) d s (T := T) K hJ mm_N x10 (0 : Int32)) (fun x11 h1 h2 => ?_)
    revert h1 h2
    refine w_go K 1 (c' := (68, [some (.ref 116), some (.ref 2000010), some (.int x11.1), some (.int x11.2)], [.int x11.1], mT s)) rfl ?_
    exact w_retb K rfl (hK _)
theorem m_M_is_2000010 {len : Nat} {xs : Nat → Int32}  (d : Nat)  (s : mS) : ok_M_is_2000010 s → mm_call (mm_X len xs) mm_Y (d + 1) 211 [.ref 116, .ref 2000010] (mT s) = some (some (.int (f_M_is_2000010 s)), mT s) := fun h => t_M_is_2000010 (len := len) (xs := xs) d s (fun t => (some (some (.int t), mT s) : Option mm_R) = some (some (.int (f_M_is_2000010 s)), mT s)) (fun _ h => h) h rfl
def lp_M_is_2000011_24 (s : mS) : Nat → Int32 → Int32 → Int32 × Int32
  | 0, v2, v3 => (v2, v3)
  | n + 1, v2, v3 => (if (3 : Int32) ≤ v3 then (v2, v3) else (if v2 = 0 then (v2, v3) else (if (gI s 167 (ix ((gI s 116 83) + v3))) = ((mm_Y 11).getD (ix v3) 0) then (lp_M_is_2000011_24 s n (1 : Int32) (v3 + 1)) else (lp_M_is_2000011_24 s n (0 : Int32) (v3 + 1)))))
def okl_M_is_2000011_24 (s : mS) : Nat → Int32 → Int32 → Prop
  | 0, v2, v3 => False
  | n + 1, v2, v3 => (if (3 : Int32) ≤ v3 then True else (if v2 = 0 then True else (mm_inb ((gI s 116 83) + v3) 600 = true ∧ (mm_inb v3 3 = true ∧ (if (gI s 167 (ix ((gI s 116 83) + v3))) = ((mm_Y 11).getD (ix v3) 0) then (okl_M_is_2000011_24 s n (1 : Int32) (v3 + 1)) else (okl_M_is_2000011_24 s n (0 : Int32) (v3 + 1)))))))
set_option maxRecDepth 4000 in
theorem tl_M_is_2000011_24 {len : Nat} {xs : Nat → Int32}  (d : Nat)  (s : mS) {T : Option mm_R} (K : Int32 × Int32 → Prop) (hX : ∀ r, K r → mm_fix (mm_X len xs) mm_Y (mm_call (mm_X len xs) mm_Y (d + 0)) (mm_look mc_M_is) (67, [some (.ref 116), some (.ref 2000011), some (.int r.1), some (.int r.2)], [], mT s) = T) : ∀ (n : Nat), ∀ (v2 : Int32) (v3 : Int32), okl_M_is_2000011_24 s n v2 v3 → K (lp_M_is_2000011_24 s n v2 v3) → mm_fix (mm_X len xs) mm_Y (mm_call (mm_X len xs) mm_Y (d + 0)) (mm_look mc_M_is) (24, [some (.ref 116), some (.ref 2000011), some (.int v2), some (.int v3)], [], mT s) = T := by
  intro n
  induction n with
  | zero => intro v2 v3; exact fun h => h.elim
  | succ n ih =>
    intro v2 v3
    rw [okl_M_is_2000011_24, lp_M_is_2000011_24]
    refine w_go K 3 (c' := (29, [some (.ref 116), some (.ref 2000011), some (.int v2), some (.int v3)], [.int 3, .int v3], mT s)) rfl ?_
    refine w_ige K rfl (fun _ => ?_) (fun _ => ?_)
    · refine w_go K 0 (c' := (67, [some (.ref 116), some (.ref 2000011), some (.int v2), some (.int v3)], [], mT s)) rfl ?_
      exact fun _ b => hX _ b
    · refine w_go K 1 (c' := (33, [some (.ref 116), some (.ref 2000011), some (.int v2), some (.int v3)], [.int v2], mT s)) rfl ?_
      refine w_zeq K rfl (fun _ => ?_) (fun _ => ?_)
      · refine w_go K 0 (c' := (67, [some (.ref 116), some (.ref 2000011), some (.int v2), some (.int v3)], [], mT s)) rfl ?_
        exact fun _ b => hX _ b
      · refine w_go K 6 (c' := (46, [some (.ref 116), some (.ref 2000011), some (.int v2), some (.int v3)], [.int ((gI s 116 83) + v3), .ref 167], mT s)) rfl ?_
        refine w_ck K (st_iL rfl rfl) ?_
        refine w_go K 2 (c' := (49, [some (.ref 116), some (.ref 2000011), some (.int v2), some (.int v3)], [.int v3, .ref 2000011, .int (gI s 167 (ix ((gI s 116 83) + v3)))], mT s)) rfl ?_
        refine w_ck K (mm_xc rfl rfl rfl rfl rfl rfl) ?_
        refine w_go K 0 (c' := (52, [some (.ref 116), some (.ref 2000011), some (.int v2), some (.int v3)], [.int ((mm_Y 11).getD (ix v3) 0), .int (gI s 167 (ix ((gI s 116 83) + v3)))], mT s)) rfl ?_
        refine w_ine K rfl (fun _ => ?_) (fun _ => ?_)
        · refine w_go K 5 (c' := (24, [some (.ref 116), some (.ref 2000011), some (.int 1), some (.int (v3 + 1))], [], mT s)) rfl ?_
          exact fun a b => ih (1 : Int32) (v3 + 1) a b
        · refine w_go K 4 (c' := (24, [some (.ref 116), some (.ref 2000011), some (.int 0), some (.int (v3 + 1))], [], mT s)) rfl ?_
          exact fun a b => ih (0 : Int32) (v3 + 1) a b
def f_M_is_2000011  (s : mS) : Int32 := (mq_let (if ((gI s 116 81) - (gI s 116 83)) = 3 then (1 : Int32) else (0 : Int32)) (fun (x10 : Int32) => (mq_let (lp_M_is_2000011_24 s mm_N x10 (0 : Int32)) (fun (x11 : Int32 × Int32) => x11.1))))
def ok_M_is_2000011  (s : mS) : Prop := (True ∧ mq_letP (if ((gI s 116 81) - (gI s 116 83)) = 3 then (1 : Int32) else (0 : Int32)) (fun (x10 : Int32) => (okl_M_is_2000011_24 s mm_N x10 (0 : Int32) ∧ mq_letP (lp_M_is_2000011_24 s mm_N x10 (0 : Int32)) (fun (x11 : Int32 × Int32) => mm_bit x11.1 = true))))
set_option maxRecDepth 4000 in
theorem t_M_is_2000011 {len : Nat} {xs : Nat → Int32}  (d : Nat)  (s : mS) {T : Option mm_R} (K : Int32 → Prop) (hK : ∀ t, K t → some (some (.int t), mT s) = T) : ok_M_is_2000011 s → K (f_M_is_2000011 s) → mm_fix (mm_X len xs) mm_Y (mm_call (mm_X len xs) mm_Y (d + 0)) (mm_look mc_M_is) (0, [some (.ref 116), some (.ref 2000011), none, none], [], mT s) = T := by
  unfold ok_M_is_2000011 f_M_is_2000011
  refine w_go K 7 (c' := (13, [some (.ref 116), some (.ref 2000011), none, none], [.int 3, .int ((gI s 116 81) - (gI s 116 83))], mT s)) rfl ?_
  refine w_join K (fun (x10 : Int32) => mm_fix (mm_X len xs) mm_Y (mm_call (mm_X len xs) mm_Y (d + 0)) (mm_look mc_M_is) (21, [some (.ref 116), some (.ref 2000011), none, none], [.int x10], mT s) = T) (fun K hJ => ?_) (fun x10 h1 h2 => ?_)
  · refine w_go K 0 (c' := (13, [some (.ref 116), some (.ref 2000011), none, none], [.int 3, .int ((gI s 116 81) - (gI s 116 83))], mT s)) rfl ?_
    refine w_ineT K rfl (fun _ => ?_) (fun _ => ?_)
    · refine w_go K 2 (c' := (21, [some (.ref 116), some (.ref 2000011), none, none], [.int 1], mT s)) rfl ?_
      exact fun _ h => hJ _ h
    · refine w_go K 1 (c' := (21, [some (.ref 116), some (.ref 2000011), none, none], [.int 0], mT s)) rfl ?_
      exact fun _ h => hJ _ h
  · revert h1 h2
    refine w_go K 3 (c' := (24, [some (.ref 116), some (.ref 2000011), some (.int x10), some (.int 0)], [], mT s)) rfl ?_
    refine w_join K (fun (x11 : Int32 × Int32) => mm_fix (mm_X len xs) mm_Y (mm_call (mm_X len xs) mm_Y (d + 0)) (mm_look mc_M_is) (67, [some (.ref 116), some (.ref 2000011), some (.int x11.1), some (.int x11.2)], [], mT s) = T) (fun K hJ => tl_M_is_2000011_24 (len := len) (xs := xs) d s (T := T) K hJ mm_N x10 (0 : Int32)) (fun x11 h1 h2 => ?_)
    revert h1 h2
    refine w_go K 1 (c' := (68, [some (.ref 116), some (.ref 2000011), some (.int x11.1), some (.int x11.2)], [.int x11.1], mT s)) rfl ?_
    exact w_retb K rfl (hK _)
theorem m_M_is_2000011 {len : Nat} {xs : Nat → Int32}  (d : Nat)  (s : mS) : ok_M_is_2000011 s → mm_call (mm_X len xs) mm_Y (d + 1) 211 [.ref 116, .ref 2000011] (mT s) = some (some (.int (f_M_is_2000011 s)), mT s) := fun h => t_M_is_2000011 (len := len) (xs := xs) d s (fun t => (some (some (.int t), mT s) : Option mm_R) = some (some (.int (f_M_is_2000011 s)), mT s)) (fun _ h => h) h rfl
def lp_M_is_2000012_24 (s : mS) : Nat → Int32 → Int32 → Int32 × Int32
  | 0, v2, v3 => (v2, v3)
  | n + 1, v2, v3 => (if (3 : Int32) ≤ v3 then (v2, v3) else (if v2 = 0 then (v2, v3) else (if (gI s 167 (ix ((gI s 116 83) + v3))) = ((mm_Y 12).getD (ix v3) 0) then (lp_M_is_2000012_24 s n (1 : Int32) (v3 + 1)) else (lp_M_is_2000012_24 s n (0 : Int32) (v3 + 1)))))
def okl_M_is_2000012_24 (s : mS) : Nat → Int32 → Int32 → Prop
  | 0, v2, v3 => False
  | n + 1, v2, v3 => (if (3 : Int32) ≤ v3 then True else (if v2 = 0 then True else (mm_inb ((gI s 116 83) + v3) 600 = true ∧ (mm_inb v3 3 = true ∧ (if (gI s 167 (ix ((gI s 116 83) + v3))) = ((mm_Y 12).getD (ix v3) 0) then (okl_M_is_2000012_24 s n (1 : Int32) (v3 + 1)) else (okl_M_is_2000012_24 s n (0 : Int32) (v3 + 1)))))))
set_option maxRecDepth 4000 in
theorem tl_M_is_2000012_24 {len : Nat} {xs : Nat → Int32}  (d : Nat)  (s : mS) {T : Option mm_R} (K : Int32 × Int32 → Prop) (hX : ∀ r, K r → mm_fix (mm_X len xs) mm_Y (mm_call (mm_X len xs) mm_Y (d + 0)) (mm_look mc_M_is) (67, [some (.ref 116), some (.ref 2000012), some (.int r.1), some (.int r.2)], [], mT s) = T) : ∀ (n : Nat), ∀ (v2 : Int32) (v3 : Int32), okl_M_is_2000012_24 s n v2 v3 → K (lp_M_is_2000012_24 s n v2 v3) → mm_fix (mm_X len xs) mm_Y (mm_call (mm_X len xs) mm_Y (d + 0)) (mm_look mc_M_is) (24, [some (.ref 116), some (.ref 2000012), some (.int v2), some (.int v3)], [], mT s) = T := by
  intro n
  induction n with
  | zero => intro v2 v3; exact fun h => h.elim
  | succ n ih =>
    intro v2 v3
    rw [okl_M_is_2000012_24, lp_M_is_2000012_24]
    refine w_go K 3 (c' := (29, [some (.ref 116), some (.ref 2000012), some (.int v2), some (.int v3)], [.int 3, .int v3], mT s)) rfl ?_
    refine w_ige K rfl (fun _ => ?_) (fun _ => ?_)
    · refine w_go K 0 (c' := (67, [some (.ref 116), some (.ref 2000012), some (.int v2), some (.int v3)], [], mT s)) rfl ?_
      exact fun _ b => hX _ b
    · refine w_go K 1 (c' := (33, [some (.ref 116), some (.ref 2000012), some (.int v2), some (.int v3)], [.int v2], mT s)) rfl ?_
      refine w_zeq K rfl (fun _ => ?_) (fun _ => ?_)
      · refine w_go K 0 (c' := (67, [some (.ref 116), some (.ref 2000012), some (.int v2), some (.int v3)], [], mT s)) rfl ?_
        exact fun _ b => hX _ b
      · refine w_go K 6 (c' := (46, [some (.ref 116), some (.ref 2000012), some (.int v2), some (.int v3)], [.int ((gI s 116 83) + v3), .ref 167], mT s)) rfl ?_
        refine w_ck K (st_iL rfl rfl) ?_
        refine w_go K 2 (c' := (49, [some (.ref 116), some (.ref 2000012), some (.int v2), some (.int v3)], [.int v3, .ref 2000012, .int (gI s 167 (ix ((gI s 116 83) + v3)))], mT s)) rfl ?_
        refine w_ck K (mm_xc rfl rfl rfl rfl rfl rfl) ?_
        refine w_go K 0 (c' := (52, [some (.ref 116), some (.ref 2000012), some (.int v2), some (.int v3)], [.int ((mm_Y 12).getD (ix v3) 0), .int (gI s 167 (ix ((gI s 116 83) + v3)))], mT s)) rfl ?_
        refine w_ine K rfl (fun _ => ?_) (fun _ => ?_)
        · refine w_go K 5 (c' := (24, [some (.ref 116), some (.ref 2000012), some (.int 1), some (.int (v3 + 1))], [], mT s)) rfl ?_
          exact fun a b => ih (1 : Int32) (v3 + 1) a b
        · refine w_go K 4 (c' := (24, [some (.ref 116), some (.ref 2000012), some (.int 0), some (.int (v3 + 1))], [], mT s)) rfl ?_
          exact fun a b => ih (0 : Int32) (v3 + 1) a b
def f_M_is_2000012  (s : mS) : Int32 := (mq_let (if ((gI s 116 81) - (gI s 116 83)) = 3 then (1 : Int32) else (0 : Int32)) (fun (x10 : Int32) => (mq_let (lp_M_is_2000012_24 s mm_N x10 (0 : Int32)) (fun (x11 : Int32 × Int32) => x11.1))))
def ok_M_is_2000012  (s : mS) : Prop := (True ∧ mq_letP (if ((gI s 116 81) - (gI s 116 83)) = 3 then (1 : Int32) else (0 : Int32)) (fun (x10 : Int32) => (okl_M_is_2000012_24 s mm_N x10 (0 : Int32) ∧ mq_letP (lp_M_is_2000012_24 s mm_N x10 (0 : Int32)) (fun (x11 : Int32 × Int32) => mm_bit x11.1 = true))))
set_option maxRecDepth 4000 in
theorem t_M_is_2000012 {len : Nat} {xs : Nat → Int32}  (d : Nat)  (s : mS) {T : Option mm_R} (K : Int32 → Prop) (hK : ∀ t, K t → some (some (.int t), mT s) = T) : ok_M_is_2000012 s → K (f_M_is_2000012 s) → mm_fix (mm_X len xs) mm_Y (mm_call (mm_X len xs) mm_Y (d + 0)) (mm_look mc_M_is) (0, [some (.ref 116), some (.ref 2000012), none, none], [], mT s) = T := by
  unfold ok_M_is_2000012 f_M_is_2000012
  refine w_go K 7 (c' := (13, [some (.ref 116), some (.ref 2000012), none, none], [.int 3, .int ((gI s 116 81) - (gI s 116 83))], mT s)) rfl ?_
  refine w_join K (fun (x10 : Int32) => mm_fix (mm_X len xs) mm_Y (mm_call (mm_X len xs) mm_Y (d + 0)) (mm_look mc_M_is) (21, [some (.ref 116), some (.ref 2000012), none, none], [.int x10], mT s) = T) (fun K hJ => ?_) (fun x10 h1 h2 => ?_)
  · refine w_go K 0 (c' := (13, [some (.ref 116), some (.ref 2000012), none, none], [.int 3, .int ((gI s 116 81) - (gI s 116 83))], mT s)) rfl ?_
    refine w_ineT K rfl (fun _ => ?_) (fun _ => ?_)
    · refine w_go K 2 (c' := (21, [some (.ref 116), some (.ref 2000012), none, none], [.int 1], mT s)) rfl ?_
      exact fun _ h => hJ _ h
    · refine w_go K 1 (c' := (21, [some (.ref 116), some (.ref 2000012), none, none], [.int 0], mT s)) rfl ?_
      exact fun _ h => hJ _ h
  · revert h1 h2
    refine w_go K 3 (c' := (24, [some (.ref 116), some (.ref 2000012), some (.int x10), some (.int 0)], [], mT s)) rfl ?_
    refine w_join K (fun (x11 : Int32 × Int32) => mm_fix (mm_X len xs) mm_Y (mm_call (mm_X len xs) mm_Y (d + 0)) (mm_look mc_M_is) (67, [some (.ref 116), some (.ref 2000012), some (.int x11.1), some (.int x11.2)], [], mT s) = T) (fun K hJ => tl_M_is_2000012_24 (len := len) (xs := xs) d s (T := T) K hJ mm_N x10 (0 : Int32)) (fun x11 h1 h2 => ?_)
    revert h1 h2
    refine w_go K 1 (c' := (68, [some (.ref 116), some (.ref 2000012), some (.int x11.1), some (.int x11.2)], [.int x11.1], mT s)) rfl ?_
    exact w_retb K rfl (hK _)
theorem m_M_is_2000012 {len : Nat} {xs : Nat → Int32}  (d : Nat)  (s : mS) : ok_M_is_2000012 s → mm_call (mm_X len xs) mm_Y (d + 1) 211 [.ref 116, .ref 2000012] (mT s) = some (some (.int (f_M_is_2000012 s)), mT s) := fun h => t_M_is_2000012 (len := len) (xs := xs) d s (fun t => (some (some (.int t), mT s) : Option mm_R) = some (some (.int (f_M_is_2000012 s)), mT s)) (fun _ h => h) h rfl
def lp_M_is_2000005_24 (s : mS) : Nat → Int32 → Int32 → Int32 × Int32
  | 0, v2, v3 => (v2, v3)
  | n + 1, v2, v3 => (if (4 : Int32) ≤ v3 then (v2, v3) else (if v2 = 0 then (v2, v3) else (if (gI s 167 (ix ((gI s 116 83) + v3))) = ((mm_Y 5).getD (ix v3) 0) then (lp_M_is_2000005_24 s n (1 : Int32) (v3 + 1)) else (lp_M_is_2000005_24 s n (0 : Int32) (v3 + 1)))))
def okl_M_is_2000005_24 (s : mS) : Nat → Int32 → Int32 → Prop
  | 0, v2, v3 => False
  | n + 1, v2, v3 => (if (4 : Int32) ≤ v3 then True else (if v2 = 0 then True else (mm_inb ((gI s 116 83) + v3) 600 = true ∧ (mm_inb v3 4 = true ∧ (if (gI s 167 (ix ((gI s 116 83) + v3))) = ((mm_Y 5).getD (ix v3) 0) then (okl_M_is_2000005_24 s n (1 : Int32) (v3 + 1)) else (okl_M_is_2000005_24 s n (0 : Int32) (v3 + 1)))))))
set_option maxRecDepth 4000 in
theorem tl_M_is_2000005_24 {len : Nat} {xs : Nat → Int32}  (d : Nat)  (s : mS) {T : Option mm_R} (K : Int32 × Int32 → Prop) (hX : ∀ r, K r → mm_fix (mm_X len xs) mm_Y (mm_call (mm_X len xs) mm_Y (d + 0)) (mm_look mc_M_is) (67, [some (.ref 116), some (.ref 2000005), some (.int r.1), some (.int r.2)], [], mT s) = T) : ∀ (n : Nat), ∀ (v2 : Int32) (v3 : Int32), okl_M_is_2000005_24 s n v2 v3 → K (lp_M_is_2000005_24 s n v2 v3) → mm_fix (mm_X len xs) mm_Y (mm_call (mm_X len xs) mm_Y (d + 0)) (mm_look mc_M_is) (24, [some (.ref 116), some (.ref 2000005), some (.int v2), some (.int v3)], [], mT s) = T := by
  intro n
  induction n with
  | zero => intro v2 v3; exact fun h => h.elim
  | succ n ih =>
    intro v2 v3
    rw [okl_M_is_2000005_24, lp_M_is_2000005_24]
    refine w_go K 3 (c' := (29, [some (.ref 116), some (.ref 2000005), some (.int v2), some (.int v3)], [.int 4, .int v3], mT s)) rfl ?_
    refine w_ige K rfl (fun _ => ?_) (fun _ => ?_)
    · refine w_go K 0 (c' := (67, [some (.ref 116), some (.ref 2000005), some (.int v2), some (.int v3)], [], mT s)) rfl ?_
      exact fun _ b => hX _ b
    · refine w_go K 1 (c' := (33, [some (.ref 116), some (.ref 2000005), some (.int v2), some (.int v3)], [.int v2], mT s)) rfl ?_
      refine w_zeq K rfl (fun _ => ?_) (fun _ => ?_)
      · refine w_go K 0 (c' := (67, [some (.ref 116), some (.ref 2000005), some (.int v2), some (.int v3)], [], mT s)) rfl ?_
        exact fun _ b => hX _ b
      · refine w_go K 6 (c' := (46, [some (.ref 116), some (.ref 2000005), some (.int v2), some (.int v3)], [.int ((gI s 116 83) + v3), .ref 167], mT s)) rfl ?_
        refine w_ck K (st_iL rfl rfl) ?_
        refine w_go K 2 (c' := (49, [some (.ref 116), some (.ref 2000005), some (.int v2), some (.int v3)], [.int v3, .ref 2000005, .int (gI s 167 (ix ((gI s 116 83) + v3)))], mT s)) rfl ?_
        refine w_ck K (mm_xc rfl rfl rfl rfl rfl rfl) ?_
        refine w_go K 0 (c' := (52, [some (.ref 116), some (.ref 2000005), some (.int v2), some (.int v3)], [.int ((mm_Y 5).getD (ix v3) 0), .int (gI s 167 (ix ((gI s 116 83) + v3)))], mT s)) rfl ?_
        refine w_ine K rfl (fun _ => ?_) (fun _ => ?_)
        · refine w_go K 5 (c' := (24, [some (.ref 116), some (.ref 2000005), some (.int 1), some (.int (v3 + 1))], [], mT s)) rfl ?_
          exact fun a b => ih (1 : Int32) (v3 + 1) a b
        · refine w_go K 4 (c' := (24, [some (.ref 116), some (.ref 2000005), some (.int 0), some (.int (v3 + 1))], [], mT s)) rfl ?_
          exact fun a b => ih (0 : Int32) (v3 + 1) a b
def f_M_is_2000005  (s : mS) : Int32 := (mq_let (if ((gI s 116 81) - (gI s 116 83)) = 4 then (1 : Int32) else (0 : Int32)) (fun (x10 : Int32) => (mq_let (lp_M_is_2000005_24 s mm_N x10 (0 : Int32)) (fun (x11 : Int32 × Int32) => x11.1))))
def ok_M_is_2000005  (s : mS) : Prop := (True ∧ mq_letP (if ((gI s 116 81) - (gI s 116 83)) = 4 then (1 : Int32) else (0 : Int32)) (fun (x10 : Int32) => (okl_M_is_2000005_24 s mm_N x10 (0 : Int32) ∧ mq_letP (lp_M_is_2000005_24 s mm_N x10 (0 : Int32)) (fun (x11 : Int32 × Int32) => mm_bit x11.1 = true))))
set_option maxRecDepth 4000 in
theorem t_M_is_2000005 {len : Nat} {xs : Nat → Int32}  (d : Nat)  (s : mS) {T : Option mm_R} (K : Int32 → Prop) (hK : ∀ t, K t → some (some (.int t), mT s) = T) : ok_M_is_2000005 s → K (f_M_is_2000005 s) → mm_fix (mm_X len xs) mm_Y (mm_call (mm_X len xs) mm_Y (d + 0)) (mm_look mc_M_is) (0, [some (.ref 116), some (.ref 2000005), none, none], [], mT s) = T := by
  unfold ok_M_is_2000005 f_M_is_2000005
  refine w_go K 7 (c' := (13, [some (.ref 116), some (.ref 2000005), none, none], [.int 4, .int ((gI s 116 81) - (gI s 116 83))], mT s)) rfl ?_
  refine w_join K (fun (x10 : Int32) => mm_fix (mm_X len xs) mm_Y (mm_call (mm_X len xs) mm_Y (d + 0)) (mm_look mc_M_is) (21, [some (.ref 116), some (.ref 2000005), none, none], [.int x10], mT s) = T) (fun K hJ => ?_) (fun x10 h1 h2 => ?_)
  · refine w_go K 0 (c' := (13, [some (.ref 116), some (.ref 2000005), none, none], [.int 4, .int ((gI s 116 81) - (gI s 116 83))], mT s)) rfl ?_
    refine w_ineT K rfl (fun _ => ?_) (fun _ => ?_)
    · refine w_go K 2 (c' := (21, [some (.ref 116), some (.ref 2000005), none, none], [.int 1], mT s)) rfl ?_
      exact fun _ h => hJ _ h
    · refine w_go K 1 (c' := (21, [some (.ref 116), some (.ref 2000005), none, none], [.int 0], mT s)) rfl ?_
      exact fun _ h => hJ _ h
  · revert h1 h2
    refine w_go K 3 (c' := (24, [some (.ref 116), some (.ref 2000005), some (.int x10), some (.int 0)], [], mT s)) rfl ?_
    refine w_join K (fun (x11 : Int32 × Int32) => mm_fix (mm_X len xs) mm_Y (mm_call (mm_X len xs) mm_Y (d + 0)) (mm_look mc_M_is) (67, [some (.ref 116), some (.ref 2000005), some (.int x11.1), some (.int x11.2)], [], mT s) = T) (fun K hJ => tl_M_is_2000005_24 (len := len) (xs := xs) d s (T := T) K hJ mm_N x10 (0 : Int32)) (fun x11 h1 h2 => ?_)
    revert h1 h2
    refine w_go K 1 (c' := (68, [some (.ref 116), some (.ref 2000005), some (.int x11.1), some (.int x11.2)], [.int x11.1], mT s)) rfl ?_
    exact w_retb K rfl (hK _)
theorem m_M_is_2000005 {len : Nat} {xs : Nat → Int32}  (d : Nat)  (s : mS) : ok_M_is_2000005 s → mm_call (mm_X len xs) mm_Y (d + 1) 211 [.ref 116, .ref 2000005] (mT s) = some (some (.int (f_M_is_2000005 s)), mT s) := fun h => t_M_is_2000005 (len := len) (xs := xs) d s (fun t => (some (some (.int t), mT s) : Option mm_R) = some (some (.int (f_M_is_2000005 s)), mT s)) (fun _ h => h) h rfl
def lp_M_is_2000006_24 (s : mS) : Nat → Int32 → Int32 → Int32 × Int32
  | 0, v2, v3 => (v2, v3)
  | n + 1, v2, v3 => (if (3 : Int32) ≤ v3 then (v2, v3) else (if v2 = 0 then (v2, v3) else (if (gI s 167 (ix ((gI s 116 83) + v3))) = ((mm_Y 6).getD (ix v3) 0) then (lp_M_is_2000006_24 s n (1 : Int32) (v3 + 1)) else (lp_M_is_2000006_24 s n (0 : Int32) (v3 + 1)))))
def okl_M_is_2000006_24 (s : mS) : Nat → Int32 → Int32 → Prop
  | 0, v2, v3 => False
  | n + 1, v2, v3 => (if (3 : Int32) ≤ v3 then True else (if v2 = 0 then True else (mm_inb ((gI s 116 83) + v3) 600 = true ∧ (mm_inb v3 3 = true ∧ (if (gI s 167 (ix ((gI s 116 83) + v3))) = ((mm_Y 6).getD (ix v3) 0) then (okl_M_is_2000006_24 s n (1 : Int32) (v3 + 1)) else (okl_M_is_2000006_24 s n (0 : Int32) (v3 + 1)))))))
set_option maxRecDepth 4000 in
theorem tl_M_is_2000006_24 {len : Nat} {xs : Nat → Int32}  (d : Nat)  (s : mS) {T : Option mm_R} (K : Int32 × Int32 → Prop) (hX : ∀ r, K r → mm_fix (mm_X len xs) mm_Y (mm_call (mm_X len xs) mm_Y (d + 0)) (mm_look mc_M_is) (67, [some (.ref 116), some (.ref 2000006), some (.int r.1), some (.int r.2)], [], mT s) = T) : ∀ (n : Nat), ∀ (v2 : Int32) (v3 : Int32), okl_M_is_2000006_24 s n v2 v3 → K (lp_M_is_2000006_24 s n v2 v3) → mm_fix (mm_X len xs) mm_Y (mm_call (mm_X len xs) mm_Y (d + 0)) (mm_look mc_M_is) (24, [some (.ref 116), some (.ref 2000006), some (.int v2), some (.int v3)], [], mT s) = T := by
  intro n
  induction n with
  | zero => intro v2 v3; exact fun h => h.elim
  | succ n ih =>
    intro v2 v3
    rw [okl_M_is_2000006_24, lp_M_is_2000006_24]
    refine w_go K 3 (c' := (29, [some (.ref 116), some (.ref 2000006), some (.int v2), some (.int v3)], [.int 3, .int v3], mT s)) rfl ?_
    refine w_ige K rfl (fun _ => ?_) (fun _ => ?_)
    · refine w_go K 0 (c' := (67, [some (.ref 116), some (.ref 2000006), some (.int v2), some (.int v3)], [], mT s)) rfl ?_
      exact fun _ b => hX _ b
    · refine w_go K 1 (c' := (33, [some (.ref 116), some (.ref 2000006), some (.int v2), some (.int v3)], [.int v2], mT s)) rfl ?_
      refine w_zeq K rfl (fun _ => ?_) (fun _ => ?_)
      · refine w_go K 0 (c' := (67, [some (.ref 116), some (.ref 2000006), some (.int v2), some (.int v3)], [], mT s)) rfl ?_
        exact fun _ b => hX _ b
      · refine w_go K 6 (c' := (46, [some (.ref 116), some (.ref 2000006), some (.int v2), some (.int v3)], [.int ((gI s 116 83) + v3), .ref 167], mT s)) rfl ?_
        refine w_ck K (st_iL rfl rfl) ?_
        refine w_go K 2 (c' := (49, [some (.ref 116), some (.ref 2000006), some (.int v2), some (.int v3)], [.int v3, .ref 2000006, .int (gI s 167 (ix ((gI s 116 83) + v3)))], mT s)) rfl ?_
        refine w_ck K (mm_xc rfl rfl rfl rfl rfl rfl) ?_
        refine w_go K 0 (c' := (52, [some (.ref 116), some (.ref 2000006), some (.int v2), some (.int v3)], [.int ((mm_Y 6).getD (ix v3) 0), .int (gI s 167 (ix ((gI s 116 83) + v3)))], mT s)) rfl ?_
        refine w_ine K rfl (fun _ => ?_) (fun _ => ?_)
        · refine w_go K 5 (c' := (24, [some (.ref 116), some (.ref 2000006), some (.int 1), some (.int (v3 + 1))], [], mT s)) rfl ?_
          exact fun a b => ih (1 : Int32) (v3 + 1) a b
        · refine w_go K 4 (c' := (24, [some (.ref 116), some (.ref 2000006), some (.int 0), some (.int (v3 + 1))], [], mT s)) rfl ?_
          exact fun a b => ih (0 : Int32) (v3 + 1) a b
def f_M_is_2000006  (s : mS) : Int32 := (mq_let (if ((gI s 116 81) - (gI s 116 83)) = 3 then (1 : Int32) else (0 : Int32)) (fun (x10 : Int32) => (mq_let (lp_M_is_2000006_24 s mm_N x10 (0 : Int32)) (fun (x11 : Int32 × Int32) => x11.1))))
def ok_M_is_2000006  (s : mS) : Prop := (True ∧ mq_letP (if ((gI s 116 81) - (gI s 116 83)) = 3 then (1 : Int32) else (0 : Int32)) (fun (x10 : Int32) => (okl_M_is_2000006_24 s mm_N x10 (0 : Int32) ∧ mq_letP (lp_M_is_2000006_24 s mm_N x10 (0 : Int32)) (fun (x11 : Int32 × Int32) => mm_bit x11.1 = true))))
set_option maxRecDepth 4000 in
theorem t_M_is_2000006 {len : Nat} {xs : Nat → Int32}  (d : Nat)  (s : mS) {T : Option mm_R} (K : Int32 → Prop) (hK : ∀ t, K t → some (some (.int t), mT s) = T) : ok_M_is_2000006 s → K (f_M_is_2000006 s) → mm_fix (mm_X len xs) mm_Y (mm_call (mm_X len xs) mm_Y (d + 0)) (mm_look mc_M_is) (0, [some (.ref 116), some (.ref 2000006), none, none], [], mT s) = T := by
  unfold ok_M_is_2000006 f_M_is_2000006
  refine w_go K 7 (c' := (13, [some (.ref 116), some (.ref 2000006), none, none], [.int 3, .int ((gI s 116 81) - (gI s 116 83))], mT s)) rfl ?_
  refine w_join K (fun (x10 : Int32) => mm_fix (mm_X len xs) mm_Y (mm_call (mm_X len xs) mm_Y (d + 0)) (mm_look mc_M_is) (21, [some (.ref 116), some (.ref 2000006), none, none], [.int x10], mT s) = T) (fun K hJ => ?_) (fun x10 h1 h2 => ?_)
  · refine w_go K 0 (c' := (13, [some (.ref 116), some (.ref 2000006), none, none], [.int 3, .int ((gI s 116 81) - (gI s 116 83))], mT s)) rfl ?_
    refine w_ineT K rfl (fun _ => ?_) (fun _ => ?_)
    · refine w_go K 2 (c' := (21, [some (.ref 116), some (.ref 2000006), none, none], [.int 1], mT s)) rfl ?_
      exact fun _ h => hJ _ h
    · refine w_go K 1 (c' := (21, [some (.ref 116), some (.ref 2000006), none, none], [.int 0], mT s)) rfl ?_
      exact fun _ h => hJ _ h
  · revert h1 h2
    refine w_go K 3 (c' := (24, [some (.ref 116), some (.ref 2000006), some (.int x10), some (.int 0)], [], mT s)) rfl ?_
    refine w_join K (fun (x11 : Int32 × Int32) => mm_fix (mm_X len xs) mm_Y (mm_call (mm_X len xs) mm_Y (d + 0)) (mm_look mc_M_is) (67, [some (.ref 116), some (.ref 2000006), some (.int x11.1), some (.int x11.2)], [], mT s) = T) (fun K hJ => tl_M_is_2000006_24 (len := len) (xs := xs) d s (T := T) K hJ mm_N x10 (0 : Int32)) (fun x11 h1 h2 => ?_)
    revert h1 h2
    refine w_go K 1 (c' := (68, [some (.ref 116), some (.ref 2000006), some (.int x11.1), some (.int x11.2)], [.int x11.1], mT s)) rfl ?_
    exact w_retb K rfl (hK _)
theorem m_M_is_2000006 {len : Nat} {xs : Nat → Int32}  (d : Nat)  (s : mS) : ok_M_is_2000006 s → mm_call (mm_X len xs) mm_Y (d + 1) 211 [.ref 116, .ref 2000006] (mT s) = some (some (.int (f_M_is_2000006 s)), mT s) := fun h => t_M_is_2000006 (len := len) (xs := xs) d s (fun t => (some (some (.int t), mT s) : Option mm_R) = some (some (.int (f_M_is_2000006 s)), mT s)) (fun _ h => h) h rfl
def lp_M_is_2000007_24 (s : mS) : Nat → Int32 → Int32 → Int32 × Int32
  | 0, v2, v3 => (v2, v3)
  | n + 1, v2, v3 => (if (3 : Int32) ≤ v3 then (v2, v3) else (if v2 = 0 then (v2, v3) else (if (gI s 167 (ix ((gI s 116 83) + v3))) = ((mm_Y 7).getD (ix v3) 0) then (lp_M_is_2000007_24 s n (1 : Int32) (v3 + 1)) else (lp_M_is_2000007_24 s n (0 : Int32) (v3 + 1)))))
def okl_M_is_2000007_24 (s : mS) : Nat → Int32 → Int32 → Prop
  | 0, v2, v3 => False
  | n + 1, v2, v3 => (if (3 : Int32) ≤ v3 then True else (if v2 = 0 then True else (mm_inb ((gI s 116 83) + v3) 600 = true ∧ (mm_inb v3 3 = true ∧ (if (gI s 167 (ix ((gI s 116 83) + v3))) = ((mm_Y 7).getD (ix v3) 0) then (okl_M_is_2000007_24 s n (1 : Int32) (v3 + 1)) else (okl_M_is_2000007_24 s n (0 : Int32) (v3 + 1)))))))
set_option maxRecDepth 4000 in
theorem tl_M_is_2000007_24 {len : Nat} {xs : Nat → Int32}  (d : Nat)  (s : mS) {T : Option mm_R} (K : Int32 × Int32 → Prop) (hX : ∀ r, K r → mm_fix (mm_X len xs) mm_Y (mm_call (mm_X len xs) mm_Y (d + 0)) (mm_look mc_M_is) (67, [some (.ref 116), some (.ref 2000007), some (.int r.1), some (.int r.2)], [], mT s) = T) : ∀ (n : Nat), ∀ (v2 : Int32) (v3 : Int32), okl_M_is_2000007_24 s n v2 v3 → K (lp_M_is_2000007_24 s n v2 v3) → mm_fix (mm_X len xs) mm_Y (mm_call (mm_X len xs) mm_Y (d + 0)) (mm_look mc_M_is) (24, [some (.ref 116), some (.ref 2000007), some (.int v2), some (.int v3)], [], mT s) = T := by
  intro n
  induction n with
  | zero => intro v2 v3; exact fun h => h.elim
  | succ n ih =>
    intro v2 v3
    rw [okl_M_is_2000007_24, lp_M_is_2000007_24]
    refine w_go K 3 (c' := (29, [some (.ref 116), some (.ref 2000007), some (.int v2), some (.int v3)], [.int 3, .int v3], mT s)) rfl ?_
    refine w_ige K rfl (fun _ => ?_) (fun _ => ?_)
    · refine w_go K 0 (c' := (67, [some (.ref 116), some (.ref 2000007), some (.int v2), some (.int v3)], [], mT s)) rfl ?_
      exact fun _ b => hX _ b
    · refine w_go K 1 (c' := (33, [some (.ref 116), some (.ref 2000007), some (.int v2), some (.int v3)], [.int v2], mT s)) rfl ?_
      refine w_zeq K rfl (fun _ => ?_) (fun _ => ?_)
      · refine w_go K 0 (c' := (67, [some (.ref 116), some (.ref 2000007), some (.int v2), some (.int v3)], [], mT s)) rfl ?_
        exact fun _ b => hX _ b
      · refine w_go K 6 (c' := (46, [some (.ref 116), some (.ref 2000007), some (.int v2), some (.int v3)], [.int ((gI s 116 83) + v3), .ref 167], mT s)) rfl ?_
        refine w_ck K (st_iL rfl rfl) ?_
        refine w_go K 2 (c' := (49, [some (.ref 116), some (.ref 2000007), some (.int v2), some (.int v3)], [.int v3, .ref 2000007, .int (gI s 167 (ix ((gI s 116 83) + v3)))], mT s)) rfl ?_
        refine w_ck K (mm_xc rfl rfl rfl rfl rfl rfl) ?_
        refine w_go K 0 (c' := (52, [some (.ref 116), some (.ref 2000007), some (.int v2), some (.int v3)], [.int ((mm_Y 7).getD (ix v3) 0), .int (gI s 167 (ix ((gI s 116 83) + v3)))], mT s)) rfl ?_
        refine w_ine K rfl (fun _ => ?_) (fun _ => ?_)
        · refine w_go K 5 (c' := (24, [some (.ref 116), some (.ref 2000007), some (.int 1), some (.int (v3 + 1))], [], mT s)) rfl ?_
          exact fun a b => ih (1 : Int32) (v3 + 1) a b
        · refine w_go K 4 (c' := (24, [some (.ref 116), some (.ref 2000007), some (.int 0), some (.int (v3 + 1))], [], mT s)) rfl ?_
          exact fun a b => ih (0 : Int32) (v3 + 1) a b
def f_M_is_2000007  (s : mS) : Int32 := (mq_let (if ((gI s 116 81) - (gI s 116 83)) = 3 then (1 : Int32) else (0 : Int32)) (fun (x10 : Int32) => (mq_let (lp_M_is_2000007_24 s mm_N x10 (0 : Int32)) (fun (x11 : Int32 × Int32) => x11.1))))
def ok_M_is_2000007  (s : mS) : Prop := (True ∧ mq_letP (if ((gI s 116 81) - (gI s 116 83)) = 3 then (1 : Int32) else (0 : Int32)) (fun (x10 : Int32) => (okl_M_is_2000007_24 s mm_N x10 (0 : Int32) ∧ mq_letP (lp_M_is_2000007_24 s mm_N x10 (0 : Int32)) (fun (x11 : Int32 × Int32) => mm_bit x11.1 = true))))
set_option maxRecDepth 4000 in
theorem t_M_is_2000007 {len : Nat} {xs : Nat → Int32}  (d : Nat)  (s : mS) {T : Option mm_R} (K : Int32 → Prop) (hK : ∀ t, K t → some (some (.int t), mT s) = T) : ok_M_is_2000007 s → K (f_M_is_2000007 s) → mm_fix (mm_X len xs) mm_Y (mm_call (mm_X len xs) mm_Y (d + 0)) (mm_look mc_M_is) (0, [some (.ref 116), some (.ref 2000007), none, none], [], mT s) = T := by
  unfold ok_M_is_2000007 f_M_is_2000007
  refine w_go K 7 (c' := (13, [some (.ref 116), some (.ref 2000007), none, none], [.int 3, .int ((gI s 116 81) - (gI s 116 83))], mT s)) rfl ?_
  refine w_join K (fun (x10 : Int32) => mm_fix (mm_X len xs) mm_Y (mm_call (mm_X len xs) mm_Y (d + 0)) (mm_look mc_M_is) (21, [some (.ref 116), some (.ref 2000007), none, none], [.int x10], mT s) = T) (fun K hJ => ?_) (fun x10 h1 h2 => ?_)
  · refine w_go K 0 (c' := (13, [some (.ref 116), some (.ref 2000007), none, none], [.int 3, .int ((gI s 116 81) - (gI s 116 83))], mT s)) rfl ?_
    refine w_ineT K rfl (fun _ => ?_) (fun _ => ?_)
    · refine w_go K 2 (c' := (21, [some (.ref 116), some (.ref 2000007), none, none], [.int 1], mT s)) rfl ?_
      exact fun _ h => hJ _ h
    · refine w_go K 1 (c' := (21, [some (.ref 116), some (.ref 2000007), none, none], [.int 0], mT s)) rfl ?_
      exact fun _ h => hJ _ h
  · revert h1 h2
    refine w_go K 3 (c' := (24, [some (.ref 116), some (.ref 2000007), some (.int x10), some (.int 0)], [], mT s)) rfl ?_
    refine w_join K (fun (x11 : Int32 × Int32) => mm_fix (mm_X len xs) mm_Y (mm_call (mm_X len xs) mm_Y (d + 0)) (mm_look mc_M_is) (67, [some (.ref 116), some (.ref 2000007), some (.int x11.1), some (.int x11.2)], [], mT s) = T) (fun K hJ => tl_M_is_2000007_24 (len := len) (xs := xs) d s (T := T) K hJ mm_N x10 (0 : Int32)) (fun x11 h1 h2 => ?_)
    revert h1 h2
    refine w_go K 1 (c' := (68, [some (.ref 116), some (.ref 2000007), some (.int x11.1), some (.int x11.2)], [.int x11.1], mT s)) rfl ?_
    exact w_retb K rfl (hK _)
theorem m_M_is_2000007 {len : Nat} {xs : Nat → Int32}  (d : Nat)  (s : mS) : ok_M_is_2000007 s → mm_call (mm_X len xs) mm_Y (d + 1) 211 [.ref 116, .ref 2000007] (mT s) = some (some (.int (f_M_is_2000007 s)), mT s) := fun h => t_M_is_2000007 (len := len) (xs := xs) d s (fun t => (some (some (.int t), mT s) : Option mm_R) = some (some (.int (f_M_is_2000007 s)), mT s)) (fun _ h => h) h rfl
