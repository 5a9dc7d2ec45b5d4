/-! FUNCTIONS OF METHODS, by program: f_ what it does, ok_ that no row fails, m_ the small machine does so. -/
def lp_Parser_advance_2  : Nat → Int32 → mS → Int32 × mS
  | 0, v1, s => (v1, s)
  | n + 1, v1, s => (if (600 : Int32) ≤ v1 then (v1, s) else (mq_let (f_Parser_signAt (gI s 80 2) s) (fun (x10 : Int32) => (mq_let (f_Parser_isBlank x10 s) (fun (x11 : Int32) => (if x11 = 0 then (v1, s) else (lp_Parser_advance_2 n (v1 + 1) (sI s 80 2 ((gI s 80 2) + 1)))))))))
def okl_Parser_advance_2  : Nat → Int32 → mS → Prop
  | 0, v1, s => False
  | n + 1, v1, s => (if (600 : Int32) ≤ v1 then True else (ok_Parser_signAt (gI s 80 2) s ∧ mq_letP (f_Parser_signAt (gI s 80 2) s) (fun (x10 : Int32) => (True ∧ mq_letP (f_Parser_isBlank x10 s) (fun (x11 : Int32) => (if x11 = 0 then True else (okl_Parser_advance_2 n (v1 + 1) (sI s 80 2 ((gI s 80 2) + 1)))))))))
set_option maxRecDepth 4000 in
theorem tl_Parser_advance_2 {len : Nat} {xs : Nat → Int32}  (d : Nat)   {T : Option mm_R} (K : Int32 × mS → Prop) (hX : ∀ r, K r → mm_fix (mm_X len xs) mm_Y (mm_call (mm_X len xs) mm_Y (d + 4)) (mm_look mc_Parser_advance) (39, [some (.ref 80), some (.int r.1)], [], mT r.2) = T) : ∀ (n : Nat), ∀ (v1 : Int32) (s : mS), okl_Parser_advance_2 n v1 s → K (lp_Parser_advance_2 n v1 s) → mm_fix (mm_X len xs) mm_Y (mm_call (mm_X len xs) mm_Y (d + 4)) (mm_look mc_Parser_advance) (2, [some (.ref 80), some (.int v1)], [], mT s) = T := by
  intro n
  induction n with
  | zero => intro v1 s; exact fun h => h.elim
  | succ n ih =>
    intro v1 s
    rw [okl_Parser_advance_2, lp_Parser_advance_2]
    refine w_go K 2 (c' := (6, [some (.ref 80), some (.int v1)], [.int 600, .int v1], mT s)) rfl ?_
    refine w_ige K rfl (fun _ => ?_) (fun _ => ?_)
    · refine w_go K 0 (c' := (39, [some (.ref 80), some (.int v1)], [], mT s)) rfl ?_
      exact fun _ b => hX _ b
    · refine w_go K 3 (c' := (14, [some (.ref 80), some (.int v1)], [.int (gI s 80 2), .ref 80], mT s)) rfl ?_
      refine w_callL K (E := f_Parser_signAt (gI s 80 2) s) (g := fun (x10 : Int32) => (some (.int x10), mT s)) rfl (m_Parser_signAt (len := len) (xs := xs) (d + 3) (gI s 80 2) s) (fun x10 => ?_)
      refine w_go K 0 (c' := (17, [some (.ref 80), some (.int v1)], [.int x10], mT s)) rfl ?_
      refine w_callL K (E := f_Parser_isBlank x10 s) (g := fun (x11 : Int32) => (some (.int x11), mT s)) rfl (m_Parser_isBlank (len := len) (xs := xs) (d + 3) x10 s) (fun x11 => ?_)
      refine w_go K 0 (c' := (20, [some (.ref 80), some (.int v1)], [.int x11], mT s)) rfl ?_
      refine w_zeq K rfl (fun _ => ?_) (fun _ => ?_)
      · refine w_go K 0 (c' := (39, [some (.ref 80), some (.int v1)], [], mT s)) rfl ?_
        exact fun _ b => hX _ b
      · refine w_go K 8 (c' := (2, [some (.ref 80), some (.int (v1 + 1))], [], mT (sI s 80 2 ((gI s 80 2) + 1)))) rfl ?_
        exact fun a b => ih (v1 + 1) (sI s 80 2 ((gI s 80 2) + 1)) a b
def f_Parser_advance  (s : mS) : mS := (mq_let (lp_Parser_advance_2 mm_N (0 : Int32) s) (fun (x12 : Int32 × mS) => (mq_let (f_Parser_signAt (gI x12.2 80 2) (sI (sI x12.2 80 5 (gI x12.2 80 2)) 80 4 0)) (fun (x13 : Int32) => (if x13 = (-1) then sI (sI (sI x12.2 80 5 (gI x12.2 80 2)) 80 4 0) 80 3 0 else (mq_let (f_Parser_isLetter x13 (sI (sI x12.2 80 5 (gI x12.2 80 2)) 80 4 0)) (fun (x14 : Int32) => (if x14 = 0 then (mq_let (f_Parser_isDigit x13 (sI (sI x12.2 80 5 (gI x12.2 80 2)) 80 4 0)) (fun (x15 : Int32) => (if x15 = 0 then (mq_let (f_Parser_kindOfSign x13 (sI (sI (sI x12.2 80 5 (gI x12.2 80 2)) 80 4 0) 80 2 ((gI x12.2 80 2) + 1))) (fun (x16 : Int32) => sI (sI (sI (sI x12.2 80 5 (gI x12.2 80 2)) 80 4 0) 80 2 ((gI x12.2 80 2) + 1)) 80 3 x16)) else (mq_let (f_Parser_readNumber (sI (sI x12.2 80 5 (gI x12.2 80 2)) 80 4 0)) (fun (x17 : mS) => x17))))) else (mq_let (f_Parser_readWord (sI (sI x12.2 80 5 (gI x12.2 80 2)) 80 4 0)) (fun (x18 : mS) => x18))))))))))
def ok_Parser_advance  (s : mS) : Prop := (okl_Parser_advance_2 mm_N (0 : Int32) s ∧ mq_letP (lp_Parser_advance_2 mm_N (0 : Int32) s) (fun (x12 : Int32 × mS) => (ok_Parser_signAt (gI x12.2 80 2) (sI (sI x12.2 80 5 (gI x12.2 80 2)) 80 4 0) ∧ mq_letP (f_Parser_signAt (gI x12.2 80 2) (sI (sI x12.2 80 5 (gI x12.2 80 2)) 80 4 0)) (fun (x13 : Int32) => (if x13 = (-1) then True else (True ∧ mq_letP (f_Parser_isLetter x13 (sI (sI x12.2 80 5 (gI x12.2 80 2)) 80 4 0)) (fun (x14 : Int32) => (if x14 = 0 then (True ∧ mq_letP (f_Parser_isDigit x13 (sI (sI x12.2 80 5 (gI x12.2 80 2)) 80 4 0)) (fun (x15 : Int32) => (if x15 = 0 then True else (ok_Parser_readNumber (sI (sI x12.2 80 5 (gI x12.2 80 2)) 80 4 0) ∧ mq_letP (f_Parser_readNumber (sI (sI x12.2 80 5 (gI x12.2 80 2)) 80 4 0)) (fun (x17 : mS) => True))))) else (ok_Parser_readWord (sI (sI x12.2 80 5 (gI x12.2 80 2)) 80 4 0) ∧ mq_letP (f_Parser_readWord (sI (sI x12.2 80 5 (gI x12.2 80 2)) 80 4 0)) (fun (x18 : mS) => True))))))))))
set_option maxRecDepth 4000 in
theorem t_Parser_advance {len : Nat} {xs : Nat → Int32}  (d : Nat)  (s : mS) {T : Option mm_R} (K : mS → Prop) (hK : ∀ t, K t → some (none, mT t) = T) : ok_Parser_advance s → K (f_Parser_advance s) → mm_fix (mm_X len xs) mm_Y (mm_call (mm_X len xs) mm_Y (d + 4)) (mm_look mc_Parser_advance) (0, [some (.ref 80), none], [], mT s) = T := by
  unfold ok_Parser_advance f_Parser_advance
  refine w_go K 2 (c' := (2, [some (.ref 80), some (.int 0)], [], mT s)) rfl ?_
  refine w_join K (fun (x12 : Int32 × mS) => mm_fix (mm_X len xs) mm_Y (mm_call (mm_X len xs) mm_Y (d + 4)) (mm_look mc_Parser_advance) (39, [some (.ref 80), some (.int x12.1)], [], mT x12.2) = T) (fun K hJ => tl_Parser_advance_2 (len := len) (xs := xs) d (T := T) K hJ mm_N (0 : Int32) s) (fun x12 h1 h2 => ?_)
  revert h1 h2
  refine w_go K 10 (c' := (57, [some (.ref 80), some (.int x12.1)], [.int (gI x12.2 80 2), .ref 80], mT (sI (sI x12.2 80 5 (gI x12.2 80 2)) 80 4 0))) rfl ?_
  refine w_callL K (E := f_Parser_signAt (gI x12.2 80 2) (sI (sI x12.2 80 5 (gI x12.2 80 2)) 80 4 0)) (g := fun (x13 : Int32) => (some (.int x13), mT (sI (sI x12.2 80 5 (gI x12.2 80 2)) 80 4 0))) rfl (m_Parser_signAt (len := len) (xs := xs) (d + 3) (gI x12.2 80 2) (sI (sI x12.2 80 5 (gI x12.2 80 2)) 80 4 0)) (fun x13 => ?_)
  refine w_go K 3 (c' := (63, [some (.ref 80), some (.int x13)], [.int (-1), .int x13], mT (sI (sI x12.2 80 5 (gI x12.2 80 2)) 80 4 0))) rfl ?_
  refine w_ine K rfl (fun _ => ?_) (fun _ => ?_)
  · refine w_go K 4 (c' := (120, [some (.ref 80), some (.int x13)], [], mT (sI (sI (sI x12.2 80 5 (gI x12.2 80 2)) 80 4 0) 80 3 0))) rfl ?_
    exact w_ret K rfl (hK _)
  · refine w_go K 1 (c' := (75, [some (.ref 80), some (.int x13)], [.int x13], mT (sI (sI x12.2 80 5 (gI x12.2 80 2)) 80 4 0))) rfl ?_
    refine w_callL K (E := f_Parser_isLetter x13 (sI (sI x12.2 80 5 (gI x12.2 80 2)) 80 4 0)) (g := fun (x14 : Int32) => (some (.int x14), mT (sI (sI x12.2 80 5 (gI x12.2 80 2)) 80 4 0))) rfl (m_Parser_isLetter (len := len) (xs := xs) (d + 3) x13 (sI (sI x12.2 80 5 (gI x12.2 80 2)) 80 4 0)) (fun x14 => ?_)
    refine w_go K 0 (c' := (78, [some (.ref 80), some (.int x13)], [.int x14], mT (sI (sI x12.2 80 5 (gI x12.2 80 2)) 80 4 0))) rfl ?_
    refine w_zeq K rfl (fun _ => ?_) (fun _ => ?_)
    · refine w_go K 1 (c' := (89, [some (.ref 80), some (.int x13)], [.int x13], mT (sI (sI x12.2 80 5 (gI x12.2 80 2)) 80 4 0))) rfl ?_
      refine w_callL K (E := f_Parser_isDigit x13 (sI (sI x12.2 80 5 (gI x12.2 80 2)) 80 4 0)) (g := fun (x15 : Int32) => (some (.int x15), mT (sI (sI x12.2 80 5 (gI x12.2 80 2)) 80 4 0))) rfl (m_Parser_isDigit (len := len) (xs := xs) (d + 3) x13 (sI (sI x12.2 80 5 (gI x12.2 80 2)) 80 4 0)) (fun x15 => ?_)
      refine w_go K 0 (c' := (92, [some (.ref 80), some (.int x13)], [.int x15], mT (sI (sI x12.2 80 5 (gI x12.2 80 2)) 80 4 0))) rfl ?_
      refine w_zeq K rfl (fun _ => ?_) (fun _ => ?_)
      · refine w_go K 8 (c' := (114, [some (.ref 80), some (.int x13)], [.int x13, .ref 80], mT (sI (sI (sI x12.2 80 5 (gI x12.2 80 2)) 80 4 0) 80 2 ((gI x12.2 80 2) + 1)))) rfl ?_
        refine w_callLT K (E := f_Parser_kindOfSign x13 (sI (sI (sI x12.2 80 5 (gI x12.2 80 2)) 80 4 0) 80 2 ((gI x12.2 80 2) + 1))) (g := fun (x16 : Int32) => (some (.int x16), mT (sI (sI (sI x12.2 80 5 (gI x12.2 80 2)) 80 4 0) 80 2 ((gI x12.2 80 2) + 1)))) rfl (m_Parser_kindOfSign (len := len) (xs := xs) (d + 3) x13 (sI (sI (sI x12.2 80 5 (gI x12.2 80 2)) 80 4 0) 80 2 ((gI x12.2 80 2) + 1))) (fun x16 => ?_)
        refine w_go K 1 (c' := (120, [some (.ref 80), some (.int x13)], [], mT (sI (sI (sI (sI x12.2 80 5 (gI x12.2 80 2)) 80 4 0) 80 2 ((gI x12.2 80 2) + 1)) 80 3 x16))) rfl ?_
        exact w_ret K rfl (hK _)
      · refine w_go K 1 (c' := (96, [some (.ref 80), some (.int x13)], [.ref 80], mT (sI (sI x12.2 80 5 (gI x12.2 80 2)) 80 4 0))) rfl ?_
        refine w_callL K (E := f_Parser_readNumber (sI (sI x12.2 80 5 (gI x12.2 80 2)) 80 4 0)) (g := fun (x17 : mS) => (none, mT x17)) rfl (m_Parser_readNumber (len := len) (xs := xs) (d + 2) (sI (sI x12.2 80 5 (gI x12.2 80 2)) 80 4 0)) (fun x17 => ?_)
        refine w_go K 1 (c' := (120, [some (.ref 80), some (.int x13)], [], mT x17)) rfl ?_
        exact w_ret K rfl (hK _)
    · refine w_go K 1 (c' := (82, [some (.ref 80), some (.int x13)], [.ref 80], mT (sI (sI x12.2 80 5 (gI x12.2 80 2)) 80 4 0))) rfl ?_
      refine w_callL K (E := f_Parser_readWord (sI (sI x12.2 80 5 (gI x12.2 80 2)) 80 4 0)) (g := fun (x18 : mS) => (none, mT x18)) rfl (m_Parser_readWord (len := len) (xs := xs) (d + 0) (sI (sI x12.2 80 5 (gI x12.2 80 2)) 80 4 0)) (fun x18 => ?_)
      refine w_go K 1 (c' := (120, [some (.ref 80), some (.int x13)], [], mT x18)) rfl ?_
      exact w_ret K rfl (hK _)
theorem m_Parser_advance {len : Nat} {xs : Nat → Int32}  (d : Nat)  (s : mS) : ok_Parser_advance s → mm_call (mm_X len xs) mm_Y (d + 5) 87 [.ref 80] (mT s) = some (none, mT (f_Parser_advance s)) := fun h => t_Parser_advance (len := len) (xs := xs) d s (fun t => (some (none, mT t) : Option mm_R) = some (none, mT (f_Parser_advance s))) (fun _ h => h) h rfl
def f_Parser_fail (a1 : Int32) (s : mS) : mS := (if (gI s 80 12) = 0 then sI (sI s 80 12 a1) 80 13 (gI s 80 5) else s)
set_option maxRecDepth 4000 in
theorem t_Parser_fail {len : Nat} {xs : Nat → Int32}  (d : Nat) (a1 : Int32) (s : mS) {T : Option mm_R} (K : mS → Prop) (hK : ∀ t, K t → some (none, mT t) = T) : True → K (f_Parser_fail a1 s) → mm_fix (mm_X len xs) mm_Y (mm_call (mm_X len xs) mm_Y (d + 0)) (mm_look mc_Parser_fail) (0, [some (.ref 80), some (.int a1)], [], mT s) = T := by
  unfold f_Parser_fail
  refine w_go K 2 (c' := (4, [some (.ref 80), some (.int a1)], [.int (gI s 80 12)], mT s)) rfl ?_
  refine w_zneT K rfl (fun _ => ?_) (fun _ => ?_)
  · refine w_go K 7 (c' := (20, [some (.ref 80), some (.int a1)], [], mT (sI (sI s 80 12 a1) 80 13 (gI s 80 5)))) rfl ?_
    exact w_ret K rfl (hK _)
  · refine w_go K 0 (c' := (20, [some (.ref 80), some (.int a1)], [], mT s)) rfl ?_
    exact w_ret K rfl (hK _)
theorem m_Parser_fail {len : Nat} {xs : Nat → Int32}  (d : Nat) (a1 : Int32) (s : mS) : True → mm_call (mm_X len xs) mm_Y (d + 1) 99 [.ref 80, .int a1] (mT s) = some (none, mT (f_Parser_fail a1 s)) := fun h => t_Parser_fail (len := len) (xs := xs) d a1 s (fun t => (some (none, mT t) : Option mm_R) = some (none, mT (f_Parser_fail a1 s))) (fun _ h => h) h rfl
def f_Act_beginLine (r0 : Nat) (a1 : Int32) (s : mS) : mS := (if (24 : Int32) ≤ (gI s r0 8) then s else sI (sI s (r0 + 1) (ix (gI s r0 8)) a1) (r0 + 2) (ix (gI (sI s (r0 + 1) (ix (gI s r0 8)) a1) r0 8)) (gI (sI s (r0 + 1) (ix (gI s r0 8)) a1) r0 7))
def ok_Act_beginLine (r0 : Nat) (a1 : Int32) (s : mS) : Prop := (if (24 : Int32) ≤ (gI s r0 8) then True else (mm_inb (gI s r0 8) 24 = true ∧ (mm_inb (gI (sI s (r0 + 1) (ix (gI s r0 8)) a1) r0 8) 24 = true ∧ True)))
set_option maxRecDepth 4000 in
theorem t_Act_beginLine {len : Nat} {xs : Nat → Int32} (r0 : Nat) (hr0 : mq_A r0) (d : Nat) (a1 : Int32) (s : mS) {T : Option mm_R} (K : mS → Prop) (hK : ∀ t, K t → some (none, mT t) = T) : ok_Act_beginLine r0 a1 s → K (f_Act_beginLine r0 a1 s) → mm_fix (mm_X len xs) mm_Y (mm_call (mm_X len xs) mm_Y (d + 0)) (mm_look mc_Act_beginLine) (0, [some (.ref r0), some (.int a1)], [], mT s) = T := by
  unfold ok_Act_beginLine f_Act_beginLine
  refine w_go K 1 (c' := (1, [some (.ref r0), some (.int a1)], [.ref r0], mT s)) rfl ?_
  refine w_st K (c' := (4, [some (.ref r0), some (.int a1)], [.int (gI s r0 8)], mT s)) (st_gI (len := 3) (b := 8) rfl hr0) ?_
  refine w_go K 1 (c' := (6, [some (.ref r0), some (.int a1)], [.int 24, .int (gI s r0 8)], mT s)) rfl ?_
  refine w_ige K rfl (fun _ => ?_) (fun _ => ?_)
  · refine w_go K 0 (c' := (32, [some (.ref r0), some (.int a1)], [], mT s)) rfl ?_
    exact w_ret K rfl (hK _)
  · refine w_go K 1 (c' := (10, [some (.ref r0), some (.int a1)], [.ref r0], mT s)) rfl ?_
    refine w_st K (c' := (13, [some (.ref r0), some (.int a1)], [.ref (r0 + 1)], mT s)) (st_gR (len := 3) (b := 0) rfl hr0 (by decide)) ?_
    refine w_go K 1 (c' := (14, [some (.ref r0), some (.int a1)], [.ref r0, .ref (r0 + 1)], mT s)) rfl ?_
    refine w_st K (c' := (17, [some (.ref r0), some (.int a1)], [.int (gI s r0 8), .ref (r0 + 1)], mT s)) (st_gI (len := 3) (b := 8) rfl hr0) ?_
    refine w_go K 1 (c' := (18, [some (.ref r0), some (.int a1)], [.int a1, .int (gI s r0 8), .ref (r0 + 1)], mT s)) rfl ?_
    refine w_ck K (st_iS rfl (mq_a1 hr0)) ?_
    refine w_go K 1 (c' := (20, [some (.ref r0), some (.int a1)], [.ref r0], mT (sI s (r0 + 1) (ix (gI s r0 8)) a1))) rfl ?_
    refine w_st K (c' := (23, [some (.ref r0), some (.int a1)], [.ref (r0 + 2)], mT (sI s (r0 + 1) (ix (gI s r0 8)) a1))) (st_gR (len := 3) (b := 1) rfl hr0 (by decide)) ?_
    refine w_go K 1 (c' := (24, [some (.ref r0), some (.int a1)], [.ref r0, .ref (r0 + 2)], mT (sI s (r0 + 1) (ix (gI s r0 8)) a1))) rfl ?_
    refine w_st K (c' := (27, [some (.ref r0), some (.int a1)], [.int (gI (sI s (r0 + 1) (ix (gI s r0 8)) a1) r0 8), .ref (r0 + 2)], mT (sI s (r0 + 1) (ix (gI s r0 8)) a1))) (st_gI (len := 3) (b := 8) rfl hr0) ?_
    refine w_go K 1 (c' := (28, [some (.ref r0), some (.int a1)], [.ref r0, .int (gI (sI s (r0 + 1) (ix (gI s r0 8)) a1) r0 8), .ref (r0 + 2)], mT (sI s (r0 + 1) (ix (gI s r0 8)) a1))) rfl ?_
    refine w_st K (c' := (31, [some (.ref r0), some (.int a1)], [.int (gI (sI s (r0 + 1) (ix (gI s r0 8)) a1) r0 7), .int (gI (sI s (r0 + 1) (ix (gI s r0 8)) a1) r0 8), .ref (r0 + 2)], mT (sI s (r0 + 1) (ix (gI s r0 8)) a1))) (st_gI (len := 3) (b := 7) rfl hr0) ?_
    refine w_go K 0 (c' := (31, [some (.ref r0), some (.int a1)], [.int (gI (sI s (r0 + 1) (ix (gI s r0 8)) a1) r0 7), .int (gI (sI s (r0 + 1) (ix (gI s r0 8)) a1) r0 8), .ref (r0 + 2)], mT (sI s (r0 + 1) (ix (gI s r0 8)) a1))) rfl ?_
    refine w_ck K (st_iS rfl (mq_a2 hr0)) ?_
    refine w_go K 0 (c' := (32, [some (.ref r0), some (.int a1)], [], mT (sI (sI s (r0 + 1) (ix (gI s r0 8)) a1) (r0 + 2) (ix (gI (sI s (r0 + 1) (ix (gI s r0 8)) a1) r0 8)) (gI (sI s (r0 + 1) (ix (gI s r0 8)) a1) r0 7)))) rfl ?_
    exact w_ret K rfl (hK _)
theorem m_Act_beginLine {len : Nat} {xs : Nat → Int32} (r0 : Nat) (hr0 : mq_A r0) (d : Nat) (a1 : Int32) (s : mS) : ok_Act_beginLine r0 a1 s → mm_call (mm_X len xs) mm_Y (d + 1) 100 [.ref r0, .int a1] (mT s) = some (none, mT (f_Act_beginLine r0 a1 s)) := fun h => t_Act_beginLine (len := len) (xs := xs) r0 hr0 d a1 s (fun t => (some (none, mT t) : Option mm_R) = some (none, mT (f_Act_beginLine r0 a1 s))) (fun _ h => h) h rfl
def f_Parser_takeSubject  (s : mS) : mS := (if (gI s 80 3) < 3 then (mq_let (f_Parser_fail (1 : Int32) s) (fun (x10 : mS) => x10)) else (if (gI s 80 3) ≤ 7 then (mq_let (gP s 4) (fun (r11 : Nat) => (if (gI s r11 8) < 24 then (mq_let (gP s 4) (fun (r12 : Nat) => (mq_let (f_Act_beginLine r12 ((gI s 80 3) - 3) s) (fun (x13 : mS) => sI (sI (sI (sI x13 80 10 0) 80 11 0) 80 8 0) 80 7 1)))) else (mq_let (f_Parser_fail (3 : Int32) s) (fun (x14 : mS) => x14))))) else (mq_let (f_Parser_fail (1 : Int32) s) (fun (x15 : mS) => x15))))
def ok_Parser_takeSubject  (s : mS) : Prop := (if (gI s 80 3) < 3 then True else (if (gI s 80 3) ≤ 7 then (mq_A (gP s 4) ∧ mq_letP (gP s 4) (fun (r11 : Nat) => (if (gI s r11 8) < 24 then (mq_A (gP s 4) ∧ mq_letP (gP s 4) (fun (r12 : Nat) => (ok_Act_beginLine r12 ((gI s 80 3) - 3) s ∧ mq_letP (f_Act_beginLine r12 ((gI s 80 3) - 3) s) (fun (x13 : mS) => True)))) else True))) else True))
set_option maxRecDepth 4000 in
theorem t_Parser_takeSubject {len : Nat} {xs : Nat → Int32}  (d : Nat)  (s : mS) {T : Option mm_R} (K : mS → Prop) (hK : ∀ t, K t → some (none, mT t) = T) : ok_Parser_takeSubject s → K (f_Parser_takeSubject s) → mm_fix (mm_X len xs) mm_Y (mm_call (mm_X len xs) mm_Y (d + 1)) (mm_look mc_Parser_takeSubject) (0, [some (.ref 80)], [], mT s) = T := by
  unfold ok_Parser_takeSubject f_Parser_takeSubject
  refine w_go K 3 (c' := (5, [some (.ref 80)], [.int 3, .int (gI s 80 3)], mT s)) rfl ?_
  refine w_ilt K rfl (fun _ => ?_) (fun _ => ?_)
  · refine w_go K 2 (c' := (19, [some (.ref 80)], [.int 1, .ref 80], mT s)) rfl ?_
    refine w_callLT K (E := f_Parser_fail (1 : Int32) s) (g := fun (x10 : mS) => (none, mT x10)) rfl (m_Parser_fail (len := len) (xs := xs) (d + 0) (1 : Int32) s) (fun x10 => ?_)
    refine w_go K 1 (c' := (78, [some (.ref 80)], [], mT x10)) rfl ?_
    exact w_ret K rfl (hK _)
  · refine w_go K 3 (c' := (14, [some (.ref 80)], [.int 7, .int (gI s 80 3)], mT s)) rfl ?_
    refine w_ile K rfl (fun _ => ?_) (fun _ => ?_)
    · refine w_go K 1 (c' := (26, [some (.ref 80)], [.ref 80], mT s)) rfl ?_
      refine w_gP4 K rfl (fun r11 hr11 => ?_)
      refine w_go K 0 (c' := (29, [some (.ref 80)], [.ref r11], mT s)) rfl ?_
      refine w_st K (c' := (32, [some (.ref 80)], [.int (gI s r11 8)], mT s)) (st_gI (len := 3) (b := 8) rfl hr11) ?_
      refine w_go K 1 (c' := (34, [some (.ref 80)], [.int 24, .int (gI s r11 8)], mT s)) rfl ?_
      refine w_ilt K rfl (fun _ => ?_) (fun _ => ?_)
      · refine w_go K 1 (c' := (46, [some (.ref 80)], [.ref 80], mT s)) rfl ?_
        refine w_gP4 K rfl (fun r12 hr12 => ?_)
        refine w_go K 4 (c' := (55, [some (.ref 80)], [.int ((gI s 80 3) - 3), .ref r12], mT s)) rfl ?_
        refine w_callL K (E := f_Act_beginLine r12 ((gI s 80 3) - 3) s) (g := fun (x13 : mS) => (none, mT x13)) (st_c (b := 2) (st := [.int ((gI s 80 3) - 3), .ref r12]) (args := [.int ((gI s 80 3) - 3)]) (rest := []) rfl rfl rfl hr12) (m_Act_beginLine (len := len) (xs := xs) r12 hr12 (d + 0) ((gI s 80 3) - 3) s) (fun x13 => ?_)
        refine w_go K 12 (c' := (78, [some (.ref 80)], [], mT (sI (sI (sI (sI x13 80 10 0) 80 11 0) 80 8 0) 80 7 1))) rfl ?_
        exact w_ret K rfl (hK _)
      · refine w_go K 2 (c' := (39, [some (.ref 80)], [.int 3, .ref 80], mT s)) rfl ?_
        refine w_callLT K (E := f_Parser_fail (3 : Int32) s) (g := fun (x14 : mS) => (none, mT x14)) rfl (m_Parser_fail (len := len) (xs := xs) (d + 0) (3 : Int32) s) (fun x14 => ?_)
        refine w_go K 1 (c' := (78, [some (.ref 80)], [], mT x14)) rfl ?_
        exact w_ret K rfl (hK _)
    · refine w_go K 2 (c' := (19, [some (.ref 80)], [.int 1, .ref 80], mT s)) rfl ?_
      refine w_callLT K (E := f_Parser_fail (1 : Int32) s) (g := fun (x15 : mS) => (none, mT x15)) rfl (m_Parser_fail (len := len) (xs := xs) (d + 0) (1 : Int32) s) (fun x15 => ?_)
      refine w_go K 1 (c' := (78, [some (.ref 80)], [], mT x15)) rfl ?_
      exact w_ret K rfl (hK _)
theorem m_Parser_takeSubject {len : Nat} {xs : Nat → Int32}  (d : Nat)  (s : mS) : ok_Parser_takeSubject s → mm_call (mm_X len xs) mm_Y (d + 2) 98 [.ref 80] (mT s) = some (none, mT (f_Parser_takeSubject s)) := fun h => t_Parser_takeSubject (len := len) (xs := xs) d s (fun t => (some (none, mT t) : Option mm_R) = some (none, mT (f_Parser_takeSubject s))) (fun _ h => h) h rfl
def f_Act_emit (r0 : Nat) (a1 : Int32) (a2 : Int32) (s : mS) : mS := (if (600 : Int32) ≤ (gI s r0 7) then s else sI (sI (sI s (r0 + 5) (ix (gI s r0 7)) a1) (r0 + 6) (ix (gI (sI s (r0 + 5) (ix (gI s r0 7)) a1) r0 7)) a2) r0 7 ((gI (sI (sI s (r0 + 5) (ix (gI s r0 7)) a1) (r0 + 6) (ix (gI (sI s (r0 + 5) (ix (gI s r0 7)) a1) r0 7)) a2) r0 7) + 1))
def ok_Act_emit (r0 : Nat) (a1 : Int32) (a2 : Int32) (s : mS) : Prop := (if (600 : Int32) ≤ (gI s r0 7) then True else (mm_inb (gI s r0 7) 600 = true ∧ (mm_inb (gI (sI s (r0 + 5) (ix (gI s r0 7)) a1) r0 7) 600 = true ∧ True)))
set_option maxRecDepth 4000 in
theorem t_Act_emit {len : Nat} {xs : Nat → Int32} (r0 : Nat) (hr0 : mq_A r0) (d : Nat) (a1 : Int32) (a2 : Int32) (s : mS) {T : Option mm_R} (K : mS → Prop) (hK : ∀ t, K t → some (none, mT t) = T) : ok_Act_emit r0 a1 a2 s → K (f_Act_emit r0 a1 a2 s) → mm_fix (mm_X len xs) mm_Y (mm_call (mm_X len xs) mm_Y (d + 0)) (mm_look mc_Act_emit) (0, [some (.ref r0), some (.int a1), some (.int a2)], [], mT s) = T := by
  unfold ok_Act_emit f_Act_emit
  refine w_go K 1 (c' := (1, [some (.ref r0), some (.int a1), some (.int a2)], [.ref r0], mT s)) rfl ?_
  refine w_st K (c' := (4, [some (.ref r0), some (.int a1), some (.int a2)], [.int (gI s r0 7)], mT s)) (st_gI (len := 3) (b := 7) rfl hr0) ?_
  refine w_go K 1 (c' := (7, [some (.ref r0), some (.int a1), some (.int a2)], [.int 600, .int (gI s r0 7)], mT s)) rfl ?_
  refine w_ige K rfl (fun _ => ?_) (fun _ => ?_)
  · refine w_go K 0 (c' := (40, [some (.ref r0), some (.int a1), some (.int a2)], [], mT s)) rfl ?_
    exact w_ret K rfl (hK _)
  · refine w_go K 1 (c' := (11, [some (.ref r0), some (.int a1), some (.int a2)], [.ref r0], mT s)) rfl ?_
    refine w_st K (c' := (14, [some (.ref r0), some (.int a1), some (.int a2)], [.ref (r0 + 5)], mT s)) (st_gR (len := 3) (b := 4) rfl hr0 (by decide)) ?_
    refine w_go K 1 (c' := (15, [some (.ref r0), some (.int a1), some (.int a2)], [.ref r0, .ref (r0 + 5)], mT s)) rfl ?_
    refine w_st K (c' := (18, [some (.ref r0), some (.int a1), some (.int a2)], [.int (gI s r0 7), .ref (r0 + 5)], mT s)) (st_gI (len := 3) (b := 7) rfl hr0) ?_
    refine w_go K 1 (c' := (19, [some (.ref r0), some (.int a1), some (.int a2)], [.int a1, .int (gI s r0 7), .ref (r0 + 5)], mT s)) rfl ?_
    refine w_ck K (st_iS rfl (mq_a5 hr0)) ?_
    refine w_go K 1 (c' := (21, [some (.ref r0), some (.int a1), some (.int a2)], [.ref r0], mT (sI s (r0 + 5) (ix (gI s r0 7)) a1))) rfl ?_
    refine w_st K (c' := (24, [some (.ref r0), some (.int a1), some (.int a2)], [.ref (r0 + 6)], mT (sI s (r0 + 5) (ix (gI s r0 7)) a1))) (st_gR (len := 3) (b := 5) rfl hr0 (by decide)) ?_
    refine w_go K 1 (c' := (25, [some (.ref r0), some (.int a1), some (.int a2)], [.ref r0, .ref (r0 + 6)], mT (sI s (r0 + 5) (ix (gI s r0 7)) a1))) rfl ?_
    refine w_st K (c' := (28, [some (.ref r0), some (.int a1), some (.int a2)], [.int (gI (sI s (r0 + 5) (ix (gI s r0 7)) a1) r0 7), .ref (r0 + 6)], mT (sI s (r0 + 5) (ix (gI s r0 7)) a1))) (st_gI (len := 3) (b := 7) rfl hr0) ?_
    refine w_go K 1 (c' := (29, [some (.ref r0), some (.int a1), some (.int a2)], [.int a2, .int (gI (sI s (r0 + 5) (ix (gI s r0 7)) a1) r0 7), .ref (r0 + 6)], mT (sI s (r0 + 5) (ix (gI s r0 7)) a1))) rfl ?_
    refine w_ck K (st_iS rfl (mq_a6 hr0)) ?_
    refine w_go K 2 (c' := (32, [some (.ref r0), some (.int a1), some (.int a2)], [.ref r0, .ref r0], mT (sI (sI s (r0 + 5) (ix (gI s r0 7)) a1) (r0 + 6) (ix (gI (sI s (r0 + 5) (ix (gI s r0 7)) a1) r0 7)) a2))) rfl ?_
    refine w_st K (c' := (35, [some (.ref r0), some (.int a1), some (.int a2)], [.int (gI (sI (sI s (r0 + 5) (ix (gI s r0 7)) a1) (r0 + 6) (ix (gI (sI s (r0 + 5) (ix (gI s r0 7)) a1) r0 7)) a2) r0 7), .ref r0], mT (sI (sI s (r0 + 5) (ix (gI s r0 7)) a1) (r0 + 6) (ix (gI (sI s (r0 + 5) (ix (gI s r0 7)) a1) r0 7)) a2))) (st_gI (len := 3) (b := 7) rfl hr0) ?_
    refine w_go K 2 (c' := (37, [some (.ref r0), some (.int a1), some (.int a2)], [.int ((gI (sI (sI s (r0 + 5) (ix (gI s r0 7)) a1) (r0 + 6) (ix (gI (sI s (r0 + 5) (ix (gI s r0 7)) a1) r0 7)) a2) r0 7) + 1), .ref r0], mT (sI (sI s (r0 + 5) (ix (gI s r0 7)) a1) (r0 + 6) (ix (gI (sI s (r0 + 5) (ix (gI s r0 7)) a1) r0 7)) a2))) rfl ?_
    refine w_st K (c' := (40, [some (.ref r0), some (.int a1), some (.int a2)], [], mT (sI (sI (sI s (r0 + 5) (ix (gI s r0 7)) a1) (r0 + 6) (ix (gI (sI s (r0 + 5) (ix (gI s r0 7)) a1) r0 7)) a2) r0 7 ((gI (sI (sI s (r0 + 5) (ix (gI s r0 7)) a1) (r0 + 6) (ix (gI (sI s (r0 + 5) (ix (gI s r0 7)) a1) r0 7)) a2) r0 7) + 1)))) (st_pI (len := 3) (b := 7) rfl hr0) ?_
    refine w_go K 0 (c' := (40, [some (.ref r0), some (.int a1), some (.int a2)], [], mT (sI (sI (sI s (r0 + 5) (ix (gI s r0 7)) a1) (r0 + 6) (ix (gI (sI s (r0 + 5) (ix (gI s r0 7)) a1) r0 7)) a2) r0 7 ((gI (sI (sI s (r0 + 5) (ix (gI s r0 7)) a1) (r0 + 6) (ix (gI (sI s (r0 + 5) (ix (gI s r0 7)) a1) r0 7)) a2) r0 7) + 1)))) rfl ?_
    exact w_ret K rfl (hK _)
theorem m_Act_emit {len : Nat} {xs : Nat → Int32} (r0 : Nat) (hr0 : mq_A r0) (d : Nat) (a1 : Int32) (a2 : Int32) (s : mS) : ok_Act_emit r0 a1 a2 s → mm_call (mm_X len xs) mm_Y (d + 1) 102 [.ref r0, .int a1, .int a2] (mT s) = some (none, mT (f_Act_emit r0 a1 a2 s)) := fun h => t_Act_emit (len := len) (xs := xs) r0 hr0 d a1 a2 s (fun t => (some (none, mT t) : Option mm_R) = some (none, mT (f_Act_emit r0 a1 a2 s))) (fun _ h => h) h rfl
def f_Parser_takePart  (s : mS) : mS := (mq_let (f_Act_isLeaf (gI s 80 3) s) (fun (x10 : Int32) => (if x10 = 0 then (mq_let (f_Parser_fail (1 : Int32) s) (fun (x11 : mS) => x11)) else (mq_let (gP s 4) (fun (r12 : Nat) => (mq_let (f_Act_emit r12 (gI s 80 3) (gI s 80 4) s) (fun (x13 : mS) => sI x13 80 7 4)))))))
def ok_Parser_takePart  (s : mS) : Prop := (True ∧ mq_letP (f_Act_isLeaf (gI s 80 3) s) (fun (x10 : Int32) => (if x10 = 0 then True else (mq_A (gP s 4) ∧ mq_letP (gP s 4) (fun (r12 : Nat) => (ok_Act_emit r12 (gI s 80 3) (gI s 80 4) s ∧ mq_letP (f_Act_emit r12 (gI s 80 3) (gI s 80 4) s) (fun (x13 : mS) => True)))))))
set_option maxRecDepth 4000 in
theorem t_Parser_takePart {len : Nat} {xs : Nat → Int32}  (d : Nat)  (s : mS) {T : Option mm_R} (K : mS → Prop) (hK : ∀ t, K t → some (none, mT t) = T) : ok_Parser_takePart s → K (f_Parser_takePart s) → mm_fix (mm_X len xs) mm_Y (mm_call (mm_X len xs) mm_Y (d + 1)) (mm_look mc_Parser_takePart) (0, [some (.ref 80)], [], mT s) = T := by
  unfold ok_Parser_takePart f_Parser_takePart
  refine w_go K 2 (c' := (4, [some (.ref 80)], [.int (gI s 80 3)], mT s)) rfl ?_
  refine w_callL K (E := f_Act_isLeaf (gI s 80 3) s) (g := fun (x10 : Int32) => (some (.int x10), mT s)) rfl (m_Act_isLeaf (len := len) (xs := xs) (d + 0) (gI s 80 3) s) (fun x10 => ?_)
  refine w_go K 0 (c' := (7, [some (.ref 80)], [.int x10], mT s)) rfl ?_
  refine w_zne K rfl (fun _ => ?_) (fun _ => ?_)
  · refine w_go K 2 (c' := (12, [some (.ref 80)], [.int 1, .ref 80], mT s)) rfl ?_
    refine w_callLT K (E := f_Parser_fail (1 : Int32) s) (g := fun (x11 : mS) => (none, mT x11)) rfl (m_Parser_fail (len := len) (xs := xs) (d + 0) (1 : Int32) s) (fun x11 => ?_)
    refine w_go K 0 (c' := (15, [some (.ref 80)], [], mT x11)) rfl ?_
    exact w_ret K rfl (hK _)
  · refine w_go K 1 (c' := (17, [some (.ref 80)], [.ref 80], mT s)) rfl ?_
    refine w_gP4 K rfl (fun r12 hr12 => ?_)
    refine w_go K 4 (c' := (28, [some (.ref 80)], [.int (gI s 80 4), .int (gI s 80 3), .ref r12], mT s)) rfl ?_
    refine w_callL K (E := f_Act_emit r12 (gI s 80 3) (gI s 80 4) s) (g := fun (x13 : mS) => (none, mT x13)) (st_c (b := 3) (st := [.int (gI s 80 4), .int (gI s 80 3), .ref r12]) (args := [.int (gI s 80 3), .int (gI s 80 4)]) (rest := []) rfl rfl rfl hr12) (m_Act_emit (len := len) (xs := xs) r12 hr12 (d + 0) (gI s 80 3) (gI s 80 4) s) (fun x13 => ?_)
    refine w_go K 3 (c' := (36, [some (.ref 80)], [], mT (sI x13 80 7 4))) rfl ?_
    exact w_ret K rfl (hK _)
theorem m_Parser_takePart {len : Nat} {xs : Nat → Int32}  (d : Nat)  (s : mS) : ok_Parser_takePart s → mm_call (mm_X len xs) mm_Y (d + 2) 101 [.ref 80] (mT s) = some (none, mT (f_Parser_takePart s)) := fun h => t_Parser_takePart (len := len) (xs := xs) d s (fun t => (some (none, mT t) : Option mm_R) = some (none, mT (f_Parser_takePart s))) (fun _ h => h) h rfl
def f_Parser_takeDivisor  (s : mS) : mS := (if (gI s 80 3) = 2 then (if (gI s 80 4) = 0 then (mq_let (f_Parser_fail (2 : Int32) s) (fun (x10 : mS) => x10)) else (mq_let (f_Parser_takePart s) (fun (x11 : mS) => x11))) else (mq_let (f_Parser_fail (1 : Int32) s) (fun (x12 : mS) => x12)))
def ok_Parser_takeDivisor  (s : mS) : Prop := (if (gI s 80 3) = 2 then (if (gI s 80 4) = 0 then True else (ok_Parser_takePart s ∧ mq_letP (f_Parser_takePart s) (fun (x11 : mS) => True))) else True)
set_option maxRecDepth 4000 in
theorem t_Parser_takeDivisor {len : Nat} {xs : Nat → Int32}  (d : Nat)  (s : mS) {T : Option mm_R} (K : mS → Prop) (hK : ∀ t, K t → some (none, mT t) = T) : ok_Parser_takeDivisor s → K (f_Parser_takeDivisor s) → mm_fix (mm_X len xs) mm_Y (mm_call (mm_X len xs) mm_Y (d + 2)) (mm_look mc_Parser_takeDivisor) (0, [some (.ref 80)], [], mT s) = T := by
  unfold ok_Parser_takeDivisor f_Parser_takeDivisor
  refine w_go K 3 (c' := (5, [some (.ref 80)], [.int 2, .int (gI s 80 3)], mT s)) rfl ?_
  refine w_ieq K rfl (fun _ => ?_) (fun _ => ?_)
  · refine w_go K 2 (c' := (20, [some (.ref 80)], [.int (gI s 80 4)], mT s)) rfl ?_
    refine w_zne K rfl (fun _ => ?_) (fun _ => ?_)
    · refine w_go K 2 (c' := (25, [some (.ref 80)], [.int 2, .ref 80], mT s)) rfl ?_
      refine w_callLT K (E := f_Parser_fail (2 : Int32) s) (g := fun (x10 : mS) => (none, mT x10)) rfl (m_Parser_fail (len := len) (xs := xs) (d + 1) (2 : Int32) s) (fun x10 => ?_)
      refine w_go K 1 (c' := (35, [some (.ref 80)], [], mT x10)) rfl ?_
      exact w_ret K rfl (hK _)
    · refine w_go K 1 (c' := (32, [some (.ref 80)], [.ref 80], mT s)) rfl ?_
      refine w_callL K (E := f_Parser_takePart s) (g := fun (x11 : mS) => (none, mT x11)) rfl (m_Parser_takePart (len := len) (xs := xs) (d + 0) s) (fun x11 => ?_)
      refine w_go K 0 (c' := (35, [some (.ref 80)], [], mT x11)) rfl ?_
      exact w_ret K rfl (hK _)
  · refine w_go K 2 (c' := (10, [some (.ref 80)], [.int 1, .ref 80], mT s)) rfl ?_
    refine w_callLT K (E := f_Parser_fail (1 : Int32) s) (g := fun (x12 : mS) => (none, mT x12)) rfl (m_Parser_fail (len := len) (xs := xs) (d + 1) (1 : Int32) s) (fun x12 => ?_)
    refine w_go K 1 (c' := (35, [some (.ref 80)], [], mT x12)) rfl ?_
    exact w_ret K rfl (hK _)
theorem m_Parser_takeDivisor {len : Nat} {xs : Nat → Int32}  (d : Nat)  (s : mS) : ok_Parser_takeDivisor s → mm_call (mm_X len xs) mm_Y (d + 3) 103 [.ref 80] (mT s) = some (none, mT (f_Parser_takeDivisor s)) := fun h => t_Parser_takeDivisor (len := len) (xs := xs) d s (fun t => (some (none, mT t) : Option mm_R) = some (none, mT (f_Parser_takeDivisor s))) (fun _ h => h) h rfl
def f_Parser_putAside  (s : mS) : mS := (if (64 : Int32) ≤ (gI s 80 10) then s else sI (sI s 80 10 ((gI s 80 10) + 1)) 81 (ix (gI s 80 10)) (gI s 80 3))
def ok_Parser_putAside  (s : mS) : Prop := (if (64 : Int32) ≤ (gI s 80 10) then True else (mm_inb (gI s 80 10) 64 = true ∧ True))
set_option maxRecDepth 4000 in
theorem t_Parser_putAside {len : Nat} {xs : Nat → Int32}  (d : Nat)  (s : mS) {T : Option mm_R} (K : mS → Prop) (hK : ∀ t, K t → some (none, mT t) = T) : ok_Parser_putAside s → K (f_Parser_putAside s) → mm_fix (mm_X len xs) mm_Y (mm_call (mm_X len xs) mm_Y (d + 0)) (mm_look mc_Parser_putAside) (0, [some (.ref 80)], [], mT s) = T := by
  unfold ok_Parser_putAside f_Parser_putAside
  refine w_go K 5 (c' := (9, [some (.ref 80)], [.int 64, .int (gI s 80 10)], mT s)) rfl ?_
  refine w_ige K rfl (fun _ => ?_) (fun _ => ?_)
  · refine w_go K 0 (c' := (32, [some (.ref 80)], [], mT s)) rfl ?_
    exact w_ret K rfl (hK _)
  · refine w_go K 11 (c' := (31, [some (.ref 80)], [.int (gI s 80 3), .int (gI s 80 10), .ref 81], mT (sI s 80 10 ((gI s 80 10) + 1)))) rfl ?_
    refine w_ck K (st_iS rfl rfl) ?_
    refine w_go K 0 (c' := (32, [some (.ref 80)], [], mT (sI (sI s 80 10 ((gI s 80 10) + 1)) 81 (ix (gI s 80 10)) (gI s 80 3)))) rfl ?_
    exact w_ret K rfl (hK _)
theorem m_Parser_putAside {len : Nat} {xs : Nat → Int32}  (d : Nat)  (s : mS) : ok_Parser_putAside s → mm_call (mm_X len xs) mm_Y (d + 1) 105 [.ref 80] (mT s) = some (none, mT (f_Parser_putAside s)) := fun h => t_Parser_putAside (len := len) (xs := xs) d s (fun t => (some (none, mT t) : Option mm_R) = some (none, mT (f_Parser_putAside s))) (fun _ h => h) h rfl
def f_Parser_takeTest  (s : mS) : mS := (if (gI s 80 3) = 15 then (if (gI s 80 11) < 8 then (mq_let (f_Parser_putAside (sI s 80 11 ((gI s 80 11) + 1))) (fun (x10 : mS) => x10)) else (mq_let (f_Parser_fail (3 : Int32) s) (fun (x11 : mS) => x11))) else (if (gI s 80 3) = 21 then (if (gI s 80 11) < 8 then (mq_let (f_Parser_putAside (sI s 80 11 ((gI s 80 11) + 1))) (fun (x12 : mS) => x12)) else (mq_let (f_Parser_fail (3 : Int32) s) (fun (x13 : mS) => x13))) else (mq_let (f_Parser_takePart (sI s 80 8 1)) (fun (x14 : mS) => x14))))
def ok_Parser_takeTest  (s : mS) : Prop := (if (gI s 80 3) = 15 then (if (gI s 80 11) < 8 then (ok_Parser_putAside (sI s 80 11 ((gI s 80 11) + 1)) ∧ mq_letP (f_Parser_putAside (sI s 80 11 ((gI s 80 11) + 1))) (fun (x10 : mS) => True)) else True) else (if (gI s 80 3) = 21 then (if (gI s 80 11) < 8 then (ok_Parser_putAside (sI s 80 11 ((gI s 80 11) + 1)) ∧ mq_letP (f_Parser_putAside (sI s 80 11 ((gI s 80 11) + 1))) (fun (x12 : mS) => True)) else True) else (ok_Parser_takePart (sI s 80 8 1) ∧ mq_letP (f_Parser_takePart (sI s 80 8 1)) (fun (x14 : mS) => True))))
set_option maxRecDepth 4000 in
theorem t_Parser_takeTest {len : Nat} {xs : Nat → Int32}  (d : Nat)  (s : mS) {T : Option mm_R} (K : mS → Prop) (hK : ∀ t, K t → some (none, mT t) = T) : ok_Parser_takeTest s → K (f_Parser_takeTest s) → mm_fix (mm_X len xs) mm_Y (mm_call (mm_X len xs) mm_Y (d + 2)) (mm_look mc_Parser_takeTest) (0, [some (.ref 80)], [], mT s) = T := by
  unfold ok_Parser_takeTest f_Parser_takeTest
  refine w_go K 3 (c' := (6, [some (.ref 80)], [.int 15, .int (gI s 80 3)], mT s)) rfl ?_
  refine w_ieq K rfl (fun _ => ?_) (fun _ => ?_)
  · refine w_go K 3 (c' := (36, [some (.ref 80)], [.int 8, .int (gI s 80 11)], mT s)) rfl ?_
    refine w_ilt K rfl (fun _ => ?_) (fun _ => ?_)
    · refine w_go K 7 (c' := (58, [some (.ref 80)], [.ref 80], mT (sI s 80 11 ((gI s 80 11) + 1)))) rfl ?_
      refine w_callL K (E := f_Parser_putAside (sI s 80 11 ((gI s 80 11) + 1))) (g := fun (x10 : mS) => (none, mT x10)) rfl (m_Parser_putAside (len := len) (xs := xs) (d + 1) (sI s 80 11 ((gI s 80 11) + 1))) (fun x10 => ?_)
      refine w_go K 0 (c' := (61, [some (.ref 80)], [], mT x10)) rfl ?_
      exact w_ret K rfl (hK _)
    · refine w_go K 2 (c' := (41, [some (.ref 80)], [.int 3, .ref 80], mT s)) rfl ?_
      refine w_callLT K (E := f_Parser_fail (3 : Int32) s) (g := fun (x11 : mS) => (none, mT x11)) rfl (m_Parser_fail (len := len) (xs := xs) (d + 1) (3 : Int32) s) (fun x11 => ?_)
      refine w_go K 1 (c' := (61, [some (.ref 80)], [], mT x11)) rfl ?_
      exact w_ret K rfl (hK _)
  · refine w_go K 3 (c' := (15, [some (.ref 80)], [.int 21, .int (gI s 80 3)], mT s)) rfl ?_
    refine w_ieq K rfl (fun _ => ?_) (fun _ => ?_)
    · refine w_go K 3 (c' := (36, [some (.ref 80)], [.int 8, .int (gI s 80 11)], mT s)) rfl ?_
      refine w_ilt K rfl (fun _ => ?_) (fun _ => ?_)
      · refine w_go K 7 (c' := (58, [some (.ref 80)], [.ref 80], mT (sI s 80 11 ((gI s 80 11) + 1)))) rfl ?_
        refine w_callL K (E := f_Parser_putAside (sI s 80 11 ((gI s 80 11) + 1))) (g := fun (x12 : mS) => (none, mT x12)) rfl (m_Parser_putAside (len := len) (xs := xs) (d + 1) (sI s 80 11 ((gI s 80 11) + 1))) (fun x12 => ?_)
        refine w_go K 0 (c' := (61, [some (.ref 80)], [], mT x12)) rfl ?_
        exact w_ret K rfl (hK _)
      · refine w_go K 2 (c' := (41, [some (.ref 80)], [.int 3, .ref 80], mT s)) rfl ?_
        refine w_callLT K (E := f_Parser_fail (3 : Int32) s) (g := fun (x13 : mS) => (none, mT x13)) rfl (m_Parser_fail (len := len) (xs := xs) (d + 1) (3 : Int32) s) (fun x13 => ?_)
        refine w_go K 1 (c' := (61, [some (.ref 80)], [], mT x13)) rfl ?_
        exact w_ret K rfl (hK _)
    · refine w_go K 4 (c' := (24, [some (.ref 80)], [.ref 80], mT (sI s 80 8 1))) rfl ?_
      refine w_callL K (E := f_Parser_takePart (sI s 80 8 1)) (g := fun (x14 : mS) => (none, mT x14)) rfl (m_Parser_takePart (len := len) (xs := xs) (d + 0) (sI s 80 8 1)) (fun x14 => ?_)
      refine w_go K 1 (c' := (61, [some (.ref 80)], [], mT x14)) rfl ?_
      exact w_ret K rfl (hK _)
theorem m_Parser_takeTest {len : Nat} {xs : Nat → Int32}  (d : Nat)  (s : mS) : ok_Parser_takeTest s → mm_call (mm_X len xs) mm_Y (d + 3) 104 [.ref 80] (mT s) = some (none, mT (f_Parser_takeTest s)) := fun h => t_Parser_takeTest (len := len) (xs := xs) d s (fun t => (some (none, mT t) : Option mm_R) = some (none, mT (f_Parser_takeTest s))) (fun _ h => h) h rfl
def f_Parser_rankOf (a0 : Int32) (s : mS) : Int32 := (if a0 = 13 then 1 else (if a0 = 14 then 2 else (if a0 = 15 then 3 else (if a0 = 16 then 6 else (if a0 = 17 then 5 else (if a0 = 18 then 5 else (if a0 = 19 then 6 else (if a0 = 20 then 6 else (if a0 = 21 then 0 else (if a0 = 22 then 6 else (if a0 = 23 then 4 else (if a0 = 24 then 4 else (if a0 = 25 then 4 else 6)))))))))))))
set_option maxRecDepth 4000 in
theorem t_Parser_rankOf {len : Nat} {xs : Nat → Int32}  (d : Nat) (a0 : Int32) (s : mS) {T : Option mm_R} (K : Int32 → Prop) (hK : ∀ t, K t → some (some (.int t), mT s) = T) : True → K (f_Parser_rankOf a0 s) → mm_fix (mm_X len xs) mm_Y (mm_call (mm_X len xs) mm_Y (d + 0)) (mm_look mc_Parser_rankOf) (0, [some (.int a0)], [], mT s) = T := by
  unfold f_Parser_rankOf
  refine w_go K 1 (c' := (1, [some (.int a0)], [.int a0], mT s)) rfl ?_
  refine w_go K 1 (c' := (mm_sw [(13, 70), (14, 72), (15, 74), (16, 80), (17, 78), (18, 78), (19, 80), (20, 80), (21, 68), (22, 80), (23, 76), (24, 76), (25, 76)] 80 a0, [some (.int a0)], [], mT s)) rfl ?_
  refine w_swT K (fun _ => ?_) (fun _ => ?_)
  · refine w_go K 1 (c' := (71, [some (.int a0)], [.int 1], mT s)) rfl ?_
    exact w_ret K rfl (hK _)
  · refine w_swT K (fun _ => ?_) (fun _ => ?_)
    · refine w_go K 1 (c' := (73, [some (.int a0)], [.int 2], mT s)) rfl ?_
      exact w_ret K rfl (hK _)
    · refine w_swT K (fun _ => ?_) (fun _ => ?_)
      · refine w_go K 1 (c' := (75, [some (.int a0)], [.int 3], mT s)) rfl ?_
        exact w_ret K rfl (hK _)
      · refine w_swT K (fun _ => ?_) (fun _ => ?_)
        · refine w_go K 1 (c' := (82, [some (.int a0)], [.int 6], mT s)) rfl ?_
          exact w_ret K rfl (hK _)
        · refine w_swT K (fun _ => ?_) (fun _ => ?_)
          · refine w_go K 1 (c' := (79, [some (.int a0)], [.int 5], mT s)) rfl ?_
            exact w_ret K rfl (hK _)
          · refine w_swT K (fun _ => ?_) (fun _ => ?_)
            · refine w_go K 1 (c' := (79, [some (.int a0)], [.int 5], mT s)) rfl ?_
              exact w_ret K rfl (hK _)
            · refine w_swT K (fun _ => ?_) (fun _ => ?_)
              · refine w_go K 1 (c' := (82, [some (.int a0)], [.int 6], mT s)) rfl ?_
                exact w_ret K rfl (hK _)
              · refine w_swT K (fun _ => ?_) (fun _ => ?_)
                · refine w_go K 1 (c' := (82, [some (.int a0)], [.int 6], mT s)) rfl ?_
                  exact w_ret K rfl (hK _)
                · refine w_swT K (fun _ => ?_) (fun _ => ?_)
                  · refine w_go K 1 (c' := (69, [some (.int a0)], [.int 0], mT s)) rfl ?_
                    exact w_ret K rfl (hK _)
                  · refine w_swT K (fun _ => ?_) (fun _ => ?_)
                    · refine w_go K 1 (c' := (82, [some (.int a0)], [.int 6], mT s)) rfl ?_
                      exact w_ret K rfl (hK _)
                    · refine w_swT K (fun _ => ?_) (fun _ => ?_)
                      · refine w_go K 1 (c' := (77, [some (.int a0)], [.int 4], mT s)) rfl ?_
                        exact w_ret K rfl (hK _)
                      · refine w_swT K (fun _ => ?_) (fun _ => ?_)
                        · refine w_go K 1 (c' := (77, [some (.int a0)], [.int 4], mT s)) rfl ?_
                          exact w_ret K rfl (hK _)
                        · refine w_swT K (fun _ => ?_) (fun _ => ?_)
                          · refine w_go K 1 (c' := (77, [some (.int a0)], [.int 4], mT s)) rfl ?_
                            exact w_ret K rfl (hK _)
                          · refine w_go K 0 (c' := (80, [some (.int a0)], [], mT s)) rfl ?_
                            refine w_go K 1 (c' := (82, [some (.int a0)], [.int 6], mT s)) rfl ?_
                            exact w_ret K rfl (hK _)
theorem m_Parser_rankOf {len : Nat} {xs : Nat → Int32}  (d : Nat) (a0 : Int32) (s : mS) : True → mm_call (mm_X len xs) mm_Y (d + 1) 108 [.int a0] (mT s) = some (some (.int (f_Parser_rankOf a0 s)), mT s) := fun h => t_Parser_rankOf (len := len) (xs := xs) d a0 s (fun t => (some (some (.int t), mT s) : Option mm_R) = some (some (.int (f_Parser_rankOf a0 s)), mT s)) (fun _ h => h) h rfl
def lp_Parser_unwind_15 (a1 : Int32) : Nat → Int32 → mS → Int32 × mS
  | 0, v2, s => (v2, s)
  | n + 1, v2, s => (if v2 < 0 then (v2, s) else (mq_let (f_Parser_rankOf (gI s 81 (ix v2)) s) (fun (x10 : Int32) => (if x10 < a1 then (v2, s) else (mq_let (gP s 4) (fun (r11 : Nat) => (mq_let (f_Act_emit r11 (gI s 81 (ix v2)) (0 : Int32) s) (fun (x12 : mS) => (mq_let (if (gI x12 81 (ix v2)) = 15 then sI x12 80 11 ((gI x12 80 11) - 1) else x12) (fun (x13 : mS) => (lp_Parser_unwind_15 a1 n (v2 + (-1)) (sI x13 80 10 v2))))))))))))
def okl_Parser_unwind_15 (a1 : Int32) : Nat → Int32 → mS → Prop
  | 0, v2, s => False
  | n + 1, v2, s => (if v2 < 0 then True else (mm_inb v2 64 = true ∧ (True ∧ mq_letP (f_Parser_rankOf (gI s 81 (ix v2)) s) (fun (x10 : Int32) => (if x10 < a1 then True else (mq_A (gP s 4) ∧ mq_letP (gP s 4) (fun (r11 : Nat) => (mm_inb v2 64 = true ∧ (ok_Act_emit r11 (gI s 81 (ix v2)) (0 : Int32) s ∧ mq_letP (f_Act_emit r11 (gI s 81 (ix v2)) (0 : Int32) s) (fun (x12 : mS) => (mm_inb v2 64 = true ∧ (True ∧ mq_letP (if (gI x12 81 (ix v2)) = 15 then sI x12 80 11 ((gI x12 80 11) - 1) else x12) (fun (x13 : mS) => (okl_Parser_unwind_15 a1 n (v2 + (-1)) (sI x13 80 10 v2)))))))))))))))
set_option maxRecDepth 4000 in
theorem tl_Parser_unwind_15 {len : Nat} {xs : Nat → Int32}  (d : Nat) (a1 : Int32)  {T : Option mm_R} (K : Int32 × mS → Prop) (hX : ∀ r, K r → mm_fix (mm_X len xs) mm_Y (mm_call (mm_X len xs) mm_Y (d + 1)) (mm_look mc_Parser_unwind) (78, [some (.ref 80), some (.int a1), some (.int r.1)], [], mT r.2) = T) : ∀ (n : Nat), ∀ (v2 : Int32) (s : mS), okl_Parser_unwind_15 a1 n v2 s → K (lp_Parser_unwind_15 a1 n v2 s) → mm_fix (mm_X len xs) mm_Y (mm_call (mm_X len xs) mm_Y (d + 1)) (mm_look mc_Parser_unwind) (15, [some (.ref 80), some (.int a1), some (.int v2)], [], mT s) = T := by
  intro n
  induction n with
  | zero => intro v2 s; exact fun h => h.elim
  | succ n ih =>
    intro v2 s
    rw [okl_Parser_unwind_15, lp_Parser_unwind_15]
    refine w_go K 1 (c' := (16, [some (.ref 80), some (.int a1), some (.int v2)], [.int v2], mT s)) rfl ?_
    refine w_zlt K rfl (fun _ => ?_) (fun _ => ?_)
    · refine w_go K 0 (c' := (78, [some (.ref 80), some (.int a1), some (.int v2)], [], mT s)) rfl ?_
      exact fun _ b => hX _ b
    · refine w_go K 3 (c' := (24, [some (.ref 80), some (.int a1), some (.int v2)], [.int v2, .ref 81], mT s)) rfl ?_
      refine w_ck K (st_iL rfl rfl) ?_
      refine w_go K 0 (c' := (25, [some (.ref 80), some (.int a1), some (.int v2)], [.int (gI s 81 (ix v2))], mT s)) rfl ?_
      refine w_callL K (E := f_Parser_rankOf (gI s 81 (ix v2)) s) (g := fun (x10 : Int32) => (some (.int x10), mT s)) rfl (m_Parser_rankOf (len := len) (xs := xs) (d + 0) (gI s 81 (ix v2)) s) (fun x10 => ?_)
      refine w_go K 1 (c' := (29, [some (.ref 80), some (.int a1), some (.int v2)], [.int a1, .int x10], mT s)) rfl ?_
      refine w_ilt K rfl (fun _ => ?_) (fun _ => ?_)
      · refine w_go K 0 (c' := (78, [some (.ref 80), some (.int a1), some (.int v2)], [], mT s)) rfl ?_
        exact fun _ b => hX _ b
      · refine w_go K 1 (c' := (33, [some (.ref 80), some (.int a1), some (.int v2)], [.ref 80], mT s)) rfl ?_
        refine w_gP4 K rfl (fun r11 hr11 => ?_)
        refine w_go K 3 (c' := (41, [some (.ref 80), some (.int a1), some (.int v2)], [.int v2, .ref 81, .ref r11], mT s)) rfl ?_
        refine w_ck K (st_iL rfl rfl) ?_
        refine w_go K 1 (c' := (43, [some (.ref 80), some (.int a1), some (.int v2)], [.int 0, .int (gI s 81 (ix v2)), .ref r11], mT s)) rfl ?_
        refine w_callL K (E := f_Act_emit r11 (gI s 81 (ix v2)) (0 : Int32) s) (g := fun (x12 : mS) => (none, mT x12)) (st_c (b := 3) (st := [.int 0, .int (gI s 81 (ix v2)), .ref r11]) (args := [.int (gI s 81 (ix v2)), .int 0]) (rest := []) rfl rfl rfl hr11) (m_Act_emit (len := len) (xs := xs) r11 hr11 (d + 0) (gI s 81 (ix v2)) (0 : Int32) s) (fun x12 => ?_)
        refine w_go K 3 (c' := (51, [some (.ref 80), some (.int a1), some (.int v2)], [.int v2, .ref 81], mT x12)) rfl ?_
        refine w_ck K (st_iL rfl rfl) ?_
        refine w_go K 1 (c' := (54, [some (.ref 80), some (.int a1), some (.int v2)], [.int 15, .int (gI x12 81 (ix v2))], mT x12)) rfl ?_
        refine w_join K (fun (x13 : mS) => mm_fix (mm_X len xs) mm_Y (mm_call (mm_X len xs) mm_Y (d + 1)) (mm_look mc_Parser_unwind) (67, [some (.ref 80), some (.int a1), some (.int v2)], [], mT x13) = T) (fun K hJ => ?_) (fun x13 h1 h2 => ?_)
        · refine w_go K 0 (c' := (54, [some (.ref 80), some (.int a1), some (.int v2)], [.int 15, .int (gI x12 81 (ix v2))], mT x12)) rfl ?_
          refine w_ineT K rfl (fun _ => ?_) (fun _ => ?_)
          · refine w_go K 6 (c' := (67, [some (.ref 80), some (.int a1), some (.int v2)], [], mT (sI x12 80 11 ((gI x12 80 11) - 1)))) rfl ?_
            exact fun _ h => hJ _ h
          · refine w_go K 0 (c' := (67, [some (.ref 80), some (.int a1), some (.int v2)], [], mT x12)) rfl ?_
            exact fun _ h => hJ _ h
        · revert h1 h2
          refine w_go K 5 (c' := (15, [some (.ref 80), some (.int a1), some (.int (v2 + (-1)))], [], mT (sI x13 80 10 v2))) rfl ?_
          exact fun a b => ih (v2 + (-1)) (sI x13 80 10 v2) a b
def f_Parser_unwind (a1 : Int32) (s : mS) : mS := (mq_let (lp_Parser_unwind_15 a1 mm_N ((if (64 : Int32) < (gI s 80 10) then (64 : Int32) else (gI s 80 10)) - 1) s) (fun (x14 : Int32 × mS) => x14.2))
def ok_Parser_unwind (a1 : Int32) (s : mS) : Prop := (okl_Parser_unwind_15 a1 mm_N ((if (64 : Int32) < (gI s 80 10) then (64 : Int32) else (gI s 80 10)) - 1) s ∧ mq_letP (lp_Parser_unwind_15 a1 mm_N ((if (64 : Int32) < (gI s 80 10) then (64 : Int32) else (gI s 80 10)) - 1) s) (fun (x14 : Int32 × mS) => True))
set_option maxRecDepth 4000 in
theorem t_Parser_unwind {len : Nat} {xs : Nat → Int32}  (d : Nat) (a1 : Int32) (s : mS) {T : Option mm_R} (K : mS → Prop) (hK : ∀ t, K t → some (none, mT t) = T) : ok_Parser_unwind a1 s → K (f_Parser_unwind a1 s) → mm_fix (mm_X len xs) mm_Y (mm_call (mm_X len xs) mm_Y (d + 1)) (mm_look mc_Parser_unwind) (0, [some (.ref 80), some (.int a1), none], [], mT s) = T := by
  unfold ok_Parser_unwind f_Parser_unwind
  refine w_go K 9 (c' := (15, [some (.ref 80), some (.int a1), some (.int ((if (64 : Int32) < (gI s 80 10) then (64 : Int32) else (gI s 80 10)) - 1))], [], mT s)) rfl ?_
  refine w_join K (fun (x14 : Int32 × mS) => mm_fix (mm_X len xs) mm_Y (mm_call (mm_X len xs) mm_Y (d + 1)) (mm_look mc_Parser_unwind) (78, [some (.ref 80), some (.int a1), some (.int x14.1)], [], mT x14.2) = T) (fun K hJ => tl_Parser_unwind_15 (len := len) (xs := xs) d a1 (T := T) K hJ mm_N ((if (64 : Int32) < (gI s 80 10) then (64 : Int32) else (gI s 80 10)) - 1) s) (fun x14 h1 h2 => ?_)
  revert h1 h2
  refine w_go K 0 (c' := (78, [some (.ref 80), some (.int a1), some (.int x14.1)], [], mT x14.2)) rfl ?_
  exact w_ret K rfl (hK _)
theorem m_Parser_unwind {len : Nat} {xs : Nat → Int32}  (d : Nat) (a1 : Int32) (s : mS) : ok_Parser_unwind a1 s → mm_call (mm_X len xs) mm_Y (d + 2) 109 [.ref 80, .int a1] (mT s) = some (none, mT (f_Parser_unwind a1 s)) := fun h => t_Parser_unwind (len := len) (xs := xs) d a1 s (fun t => (some (none, mT t) : Option mm_R) = some (none, mT (f_Parser_unwind a1 s))) (fun _ h => h) h rfl
def f_Act_beginCondition (r0 : Nat) (s : mS) : mS := (if (24 : Int32) ≤ (gI s r0 8) then s else sI s (r0 + 3) (ix (gI s r0 8)) (gI s r0 7))
def ok_Act_beginCondition (r0 : Nat) (s : mS) : Prop := (if (24 : Int32) ≤ (gI s r0 8) then True else (mm_inb (gI s r0 8) 24 = true ∧ True))
set_option maxRecDepth 4000 in
theorem t_Act_beginCondition {len : Nat} {xs : Nat → Int32} (r0 : Nat) (hr0 : mq_A r0) (d : Nat)  (s : mS) {T : Option mm_R} (K : mS → Prop) (hK : ∀ t, K t → some (none, mT t) = T) : ok_Act_beginCondition r0 s → K (f_Act_beginCondition r0 s) → mm_fix (mm_X len xs) mm_Y (mm_call (mm_X len xs) mm_Y (d + 0)) (mm_look mc_Act_beginCondition) (0, [some (.ref r0)], [], mT s) = T := by
  unfold ok_Act_beginCondition f_Act_beginCondition
  refine w_go K 1 (c' := (1, [some (.ref r0)], [.ref r0], mT s)) rfl ?_
  refine w_st K (c' := (4, [some (.ref r0)], [.int (gI s r0 8)], mT s)) (st_gI (len := 3) (b := 8) rfl hr0) ?_
  refine w_go K 1 (c' := (6, [some (.ref r0)], [.int 24, .int (gI s r0 8)], mT s)) rfl ?_
  refine w_ige K rfl (fun _ => ?_) (fun _ => ?_)
  · refine w_go K 0 (c' := (22, [some (.ref r0)], [], mT s)) rfl ?_
    exact w_ret K rfl (hK _)
  · refine w_go K 1 (c' := (10, [some (.ref r0)], [.ref r0], mT s)) rfl ?_
    refine w_st K (c' := (13, [some (.ref r0)], [.ref (r0 + 3)], mT s)) (st_gR (len := 3) (b := 2) rfl hr0 (by decide)) ?_
    refine w_go K 1 (c' := (14, [some (.ref r0)], [.ref r0, .ref (r0 + 3)], mT s)) rfl ?_
    refine w_st K (c' := (17, [some (.ref r0)], [.int (gI s r0 8), .ref (r0 + 3)], mT s)) (st_gI (len := 3) (b := 8) rfl hr0) ?_
    refine w_go K 1 (c' := (18, [some (.ref r0)], [.ref r0, .int (gI s r0 8), .ref (r0 + 3)], mT s)) rfl ?_
    refine w_st K (c' := (21, [some (.ref r0)], [.int (gI s r0 7), .int (gI s r0 8), .ref (r0 + 3)], mT s)) (st_gI (len := 3) (b := 7) rfl hr0) ?_
    refine w_go K 0 (c' := (21, [some (.ref r0)], [.int (gI s r0 7), .int (gI s r0 8), .ref (r0 + 3)], mT s)) rfl ?_
    refine w_ck K (st_iS rfl (mq_a3 hr0)) ?_
    refine w_go K 0 (c' := (22, [some (.ref r0)], [], mT (sI s (r0 + 3) (ix (gI s r0 8)) (gI s r0 7)))) rfl ?_
    exact w_ret K rfl (hK _)
theorem m_Act_beginCondition {len : Nat} {xs : Nat → Int32} (r0 : Nat) (hr0 : mq_A r0) (d : Nat)  (s : mS) : ok_Act_beginCondition r0 s → mm_call (mm_X len xs) mm_Y (d + 1) 111 [.ref r0] (mT s) = some (none, mT (f_Act_beginCondition r0 s)) := fun h => t_Act_beginCondition (len := len) (xs := xs) r0 hr0 d s (fun t => (some (none, mT t) : Option mm_R) = some (none, mT (f_Act_beginCondition r0 s))) (fun _ h => h) h rfl
def f_Act_closeLine (r0 : Nat) (s : mS) : mS := (if (24 : Int32) ≤ (gI s r0 8) then s else sI (sI s (r0 + 4) (ix (gI s r0 8)) (gI s r0 7)) r0 8 ((gI (sI s (r0 + 4) (ix (gI s r0 8)) (gI s r0 7)) r0 8) + 1))
def ok_Act_closeLine (r0 : Nat) (s : mS) : Prop := (if (24 : Int32) ≤ (gI s r0 8) then True else (mm_inb (gI s r0 8) 24 = true ∧ True))
set_option maxRecDepth 4000 in
theorem t_Act_closeLine {len : Nat} {xs : Nat → Int32} (r0 : Nat) (hr0 : mq_A r0) (d : Nat)  (s : mS) {T : Option mm_R} (K : mS → Prop) (hK : ∀ t, K t → some (none, mT t) = T) : ok_Act_closeLine r0 s → K (f_Act_closeLine r0 s) → mm_fix (mm_X len xs) mm_Y (mm_call (mm_X len xs) mm_Y (d + 0)) (mm_look mc_Act_closeLine) (0, [some (.ref r0)], [], mT s) = T := by
  unfold ok_Act_closeLine f_Act_closeLine
  refine w_go K 1 (c' := (1, [some (.ref r0)], [.ref r0], mT s)) rfl ?_
  refine w_st K (c' := (4, [some (.ref r0)], [.int (gI s r0 8)], mT s)) (st_gI (len := 3) (b := 8) rfl hr0) ?_
  refine w_go K 1 (c' := (6, [some (.ref r0)], [.int 24, .int (gI s r0 8)], mT s)) rfl ?_
  refine w_ige K rfl (fun _ => ?_) (fun _ => ?_)
  · refine w_go K 0 (c' := (32, [some (.ref r0)], [], mT s)) rfl ?_
    exact w_ret K rfl (hK _)
  · refine w_go K 1 (c' := (10, [some (.ref r0)], [.ref r0], mT s)) rfl ?_
    refine w_st K (c' := (13, [some (.ref r0)], [.ref (r0 + 4)], mT s)) (st_gR (len := 3) (b := 3) rfl hr0 (by decide)) ?_
    refine w_go K 1 (c' := (14, [some (.ref r0)], [.ref r0, .ref (r0 + 4)], mT s)) rfl ?_
    refine w_st K (c' := (17, [some (.ref r0)], [.int (gI s r0 8), .ref (r0 + 4)], mT s)) (st_gI (len := 3) (b := 8) rfl hr0) ?_
    refine w_go K 1 (c' := (18, [some (.ref r0)], [.ref r0, .int (gI s r0 8), .ref (r0 + 4)], mT s)) rfl ?_
    refine w_st K (c' := (21, [some (.ref r0)], [.int (gI s r0 7), .int (gI s r0 8), .ref (r0 + 4)], mT s)) (st_gI (len := 3) (b := 7) rfl hr0) ?_
    refine w_go K 0 (c' := (21, [some (.ref r0)], [.int (gI s r0 7), .int (gI s r0 8), .ref (r0 + 4)], mT s)) rfl ?_
    refine w_ck K (st_iS rfl (mq_a4 hr0)) ?_
    refine w_go K 2 (c' := (24, [some (.ref r0)], [.ref r0, .ref r0], mT (sI s (r0 + 4) (ix (gI s r0 8)) (gI s r0 7)))) rfl ?_
    refine w_st K (c' := (27, [some (.ref r0)], [.int (gI (sI s (r0 + 4) (ix (gI s r0 8)) (gI s r0 7)) r0 8), .ref r0], mT (sI s (r0 + 4) (ix (gI s r0 8)) (gI s r0 7)))) (st_gI (len := 3) (b := 8) rfl hr0) ?_
    refine w_go K 2 (c' := (29, [some (.ref r0)], [.int ((gI (sI s (r0 + 4) (ix (gI s r0 8)) (gI s r0 7)) r0 8) + 1), .ref r0], mT (sI s (r0 + 4) (ix (gI s r0 8)) (gI s r0 7)))) rfl ?_
    refine w_st K (c' := (32, [some (.ref r0)], [], mT (sI (sI s (r0 + 4) (ix (gI s r0 8)) (gI s r0 7)) r0 8 ((gI (sI s (r0 + 4) (ix (gI s r0 8)) (gI s r0 7)) r0 8) + 1)))) (st_pI (len := 3) (b := 8) rfl hr0) ?_
    refine w_go K 0 (c' := (32, [some (.ref r0)], [], mT (sI (sI s (r0 + 4) (ix (gI s r0 8)) (gI s r0 7)) r0 8 ((gI (sI s (r0 + 4) (ix (gI s r0 8)) (gI s r0 7)) r0 8) + 1)))) rfl ?_
    exact w_ret K rfl (hK _)
theorem m_Act_closeLine {len : Nat} {xs : Nat → Int32} (r0 : Nat) (hr0 : mq_A r0) (d : Nat)  (s : mS) : ok_Act_closeLine r0 s → mm_call (mm_X len xs) mm_Y (d + 1) 113 [.ref r0] (mT s) = some (none, mT (f_Act_closeLine r0 s)) := fun h => t_Act_closeLine (len := len) (xs := xs) r0 hr0 d s (fun t => (some (none, mT t) : Option mm_R) = some (none, mT (f_Act_closeLine r0 s))) (fun _ h => h) h rfl
def f_Parser_closeLine  (s : mS) : mS := (mq_let (f_Parser_unwind (1 : Int32) s) (fun (x10 : mS) => (if (gI x10 80 10) ≤ 0 then (mq_let (if (gI x10 80 8) = 0 then (mq_let (gP x10 4) (fun (r14 : Nat) => (mq_let (f_Act_beginCondition r14 x10) (fun (x15 : mS) => x15)))) else x10) (fun (x13 : mS) => (mq_let (gP x13 4) (fun (r16 : Nat) => (mq_let (f_Act_closeLine r16 x13) (fun (x17 : mS) => sI x17 80 7 0)))))) else (mq_let (f_Parser_fail (1 : Int32) x10) (fun (x18 : mS) => x18)))))
def ok_Parser_closeLine  (s : mS) : Prop := (ok_Parser_unwind (1 : Int32) s ∧ mq_letP (f_Parser_unwind (1 : Int32) s) (fun (x10 : mS) => (if (gI x10 80 10) ≤ 0 then ((if (gI x10 80 8) = 0 then (mq_A (gP x10 4) ∧ mq_letP (gP x10 4) (fun (r14 : Nat) => (ok_Act_beginCondition r14 x10 ∧ mq_letP (f_Act_beginCondition r14 x10) (fun (x15 : mS) => True)))) else True) ∧ mq_letP (if (gI x10 80 8) = 0 then (mq_let (gP x10 4) (fun (r14 : Nat) => (mq_let (f_Act_beginCondition r14 x10) (fun (x15 : mS) => x15)))) else x10) (fun (x13 : mS) => (mq_A (gP x13 4) ∧ mq_letP (gP x13 4) (fun (r16 : Nat) => (ok_Act_closeLine r16 x13 ∧ mq_letP (f_Act_closeLine r16 x13) (fun (x17 : mS) => True)))))) else True)))
set_option maxRecDepth 4000 in
theorem t_Parser_closeLine {len : Nat} {xs : Nat → Int32}  (d : Nat)  (s : mS) {T : Option mm_R} (K : mS → Prop) (hK : ∀ t, K t → some (none, mT t) = T) : ok_Parser_closeLine s → K (f_Parser_closeLine s) → mm_fix (mm_X len xs) mm_Y (mm_call (mm_X len xs) mm_Y (d + 2)) (mm_look mc_Parser_closeLine) (0, [some (.ref 80)], [], mT s) = T := by
  unfold ok_Parser_closeLine f_Parser_closeLine
  refine w_go K 2 (c' := (2, [some (.ref 80)], [.int 1, .ref 80], mT s)) rfl ?_
  refine w_callL K (E := f_Parser_unwind (1 : Int32) s) (g := fun (x10 : mS) => (none, mT x10)) rfl (m_Parser_unwind (len := len) (xs := xs) (d + 0) (1 : Int32) s) (fun x10 => ?_)
  refine w_go K 2 (c' := (9, [some (.ref 80)], [.int (gI x10 80 10)], mT x10)) rfl ?_
  refine w_zle K rfl (fun _ => ?_) (fun _ => ?_)
  · refine w_go K 2 (c' := (22, [some (.ref 80)], [.int (gI x10 80 8)], mT x10)) rfl ?_
    refine w_join K (fun (x13 : mS) => mm_fix (mm_X len xs) mm_Y (mm_call (mm_X len xs) mm_Y (d + 2)) (mm_look mc_Parser_closeLine) (32, [some (.ref 80)], [], mT x13) = T) (fun K hJ => ?_) (fun x13 h1 h2 => ?_)
    · refine w_go K 0 (c' := (22, [some (.ref 80)], [.int (gI x10 80 8)], mT x10)) rfl ?_
      refine w_zne K rfl (fun _ => ?_) (fun _ => ?_)
      · refine w_go K 1 (c' := (26, [some (.ref 80)], [.ref 80], mT x10)) rfl ?_
        refine w_gP4 K rfl (fun r14 hr14 => ?_)
        refine w_go K 0 (c' := (29, [some (.ref 80)], [.ref r14], mT x10)) rfl ?_
        refine w_callL K (E := f_Act_beginCondition r14 x10) (g := fun (x15 : mS) => (none, mT x15)) (st_c (b := 1) (st := [.ref r14]) (args := []) (rest := []) rfl rfl rfl hr14) (m_Act_beginCondition (len := len) (xs := xs) r14 hr14 (d + 1) x10) (fun x15 => ?_)
        refine w_go K 0 (c' := (32, [some (.ref 80)], [], mT x15)) rfl ?_
        exact fun _ h => hJ _ h
      · refine w_go K 0 (c' := (32, [some (.ref 80)], [], mT x10)) rfl ?_
        exact fun _ h => hJ _ h
    · revert h1 h2
      refine w_go K 1 (c' := (33, [some (.ref 80)], [.ref 80], mT x13)) rfl ?_
      refine w_gP4 K rfl (fun r16 hr16 => ?_)
      refine w_go K 0 (c' := (36, [some (.ref 80)], [.ref r16], mT x13)) rfl ?_
      refine w_callL K (E := f_Act_closeLine r16 x13) (g := fun (x17 : mS) => (none, mT x17)) (st_c (b := 1) (st := [.ref r16]) (args := []) (rest := []) rfl rfl rfl hr16) (m_Act_closeLine (len := len) (xs := xs) r16 hr16 (d + 1) x13) (fun x17 => ?_)
      refine w_go K 3 (c' := (44, [some (.ref 80)], [], mT (sI x17 80 7 0))) rfl ?_
      exact w_ret K rfl (hK _)
  · refine w_go K 2 (c' := (14, [some (.ref 80)], [.int 1, .ref 80], mT x10)) rfl ?_
    refine w_callLT K (E := f_Parser_fail (1 : Int32) x10) (g := fun (x18 : mS) => (none, mT x18)) rfl (m_Parser_fail (len := len) (xs := xs) (d + 1) (1 : Int32) x10) (fun x18 => ?_)
    refine w_go K 0 (c' := (17, [some (.ref 80)], [], mT x18)) rfl ?_
    exact w_ret K rfl (hK _)
theorem m_Parser_closeLine {len : Nat} {xs : Nat → Int32}  (d : Nat)  (s : mS) : ok_Parser_closeLine s → mm_call (mm_X len xs) mm_Y (d + 3) 112 [.ref 80] (mT s) = some (none, mT (f_Parser_closeLine s)) := fun h => t_Parser_closeLine (len := len) (xs := xs) d s (fun t => (some (none, mT t) : Option mm_R) = some (none, mT (f_Parser_closeLine s))) (fun _ h => h) h rfl
def f_Parser_closeBracket  (s : mS) : mS := (mq_let (f_Parser_unwind (1 : Int32) s) (fun (x10 : mS) => (if (gI x10 80 10) = 0 then (mq_let (f_Parser_fail (1 : Int32) x10) (fun (x11 : mS) => x11)) else sI (sI (sI x10 80 10 ((gI x10 80 10) - 1)) 80 11 ((gI x10 80 11) - 1)) 80 8 3)))
def ok_Parser_closeBracket  (s : mS) : Prop := (ok_Parser_unwind (1 : Int32) s ∧ mq_letP (f_Parser_unwind (1 : Int32) s) (fun (x10 : mS) => True))
set_option maxRecDepth 4000 in
theorem t_Parser_closeBracket {len : Nat} {xs : Nat → Int32}  (d : Nat)  (s : mS) {T : Option mm_R} (K : mS → Prop) (hK : ∀ t, K t → some (none, mT t) = T) : ok_Parser_closeBracket s → K (f_Parser_closeBracket s) → mm_fix (mm_X len xs) mm_Y (mm_call (mm_X len xs) mm_Y (d + 2)) (mm_look mc_Parser_closeBracket) (0, [some (.ref 80)], [], mT s) = T := by
  unfold ok_Parser_closeBracket f_Parser_closeBracket
  refine w_go K 2 (c' := (2, [some (.ref 80)], [.int 1, .ref 80], mT s)) rfl ?_
  refine w_callL K (E := f_Parser_unwind (1 : Int32) s) (g := fun (x10 : mS) => (none, mT x10)) rfl (m_Parser_unwind (len := len) (xs := xs) (d + 0) (1 : Int32) s) (fun x10 => ?_)
  refine w_go K 2 (c' := (9, [some (.ref 80)], [.int (gI x10 80 10)], mT x10)) rfl ?_
  refine w_zneT K rfl (fun _ => ?_) (fun _ => ?_)
  · refine w_go K 2 (c' := (14, [some (.ref 80)], [.int 1, .ref 80], mT x10)) rfl ?_
    refine w_callLT K (E := f_Parser_fail (1 : Int32) x10) (g := fun (x11 : mS) => (none, mT x11)) rfl (m_Parser_fail (len := len) (xs := xs) (d + 1) (1 : Int32) x10) (fun x11 => ?_)
    refine w_go K 0 (c' := (17, [some (.ref 80)], [], mT x11)) rfl ?_
    exact w_ret K rfl (hK _)
  · refine w_go K 15 (c' := (43, [some (.ref 80)], [], mT (sI (sI (sI x10 80 10 ((gI x10 80 10) - 1)) 80 11 ((gI x10 80 11) - 1)) 80 8 3))) rfl ?_
    exact w_ret K rfl (hK _)
theorem m_Parser_closeBracket {len : Nat} {xs : Nat → Int32}  (d : Nat)  (s : mS) : ok_Parser_closeBracket s → mm_call (mm_X len xs) mm_Y (d + 3) 110 [.ref 80] (mT s) = some (none, mT (f_Parser_closeBracket s)) := fun h => t_Parser_closeBracket (len := len) (xs := xs) d s (fun t => (some (none, mT t) : Option mm_R) = some (none, mT (f_Parser_closeBracket s))) (fun _ h => h) h rfl
def f_Parser_operate (a1 : Int32) (s : mS) : mS := (mq_let (f_Parser_rankOf (gI s 80 3) s) (fun (x10 : Int32) => (mq_let (f_Parser_unwind x10 s) (fun (x11 : mS) => (mq_let (f_Parser_putAside x11) (fun (x12 : mS) => sI x12 80 7 a1))))))
def ok_Parser_operate (a1 : Int32) (s : mS) : Prop := (True ∧ mq_letP (f_Parser_rankOf (gI s 80 3) s) (fun (x10 : Int32) => (ok_Parser_unwind x10 s ∧ mq_letP (f_Parser_unwind x10 s) (fun (x11 : mS) => (ok_Parser_putAside x11 ∧ mq_letP (f_Parser_putAside x11) (fun (x12 : mS) => True))))))
set_option maxRecDepth 4000 in
theorem t_Parser_operate {len : Nat} {xs : Nat → Int32}  (d : Nat) (a1 : Int32) (s : mS) {T : Option mm_R} (K : mS → Prop) (hK : ∀ t, K t → some (none, mT t) = T) : ok_Parser_operate a1 s → K (f_Parser_operate a1 s) → mm_fix (mm_X len xs) mm_Y (mm_call (mm_X len xs) mm_Y (d + 2)) (mm_look mc_Parser_operate) (0, [some (.ref 80), some (.int a1)], [], mT s) = T := by
  unfold ok_Parser_operate f_Parser_operate
  refine w_go K 3 (c' := (5, [some (.ref 80), some (.int a1)], [.int (gI s 80 3), .ref 80], mT s)) rfl ?_
  refine w_callL K (E := f_Parser_rankOf (gI s 80 3) s) (g := fun (x10 : Int32) => (some (.int x10), mT s)) rfl (m_Parser_rankOf (len := len) (xs := xs) (d + 1) (gI s 80 3) s) (fun x10 => ?_)
  refine w_go K 0 (c' := (8, [some (.ref 80), some (.int a1)], [.int x10, .ref 80], mT s)) rfl ?_
  refine w_callL K (E := f_Parser_unwind x10 s) (g := fun (x11 : mS) => (none, mT x11)) rfl (m_Parser_unwind (len := len) (xs := xs) (d + 0) x10 s) (fun x11 => ?_)
  refine w_go K 1 (c' := (12, [some (.ref 80), some (.int a1)], [.ref 80], mT x11)) rfl ?_
  refine w_callL K (E := f_Parser_putAside x11) (g := fun (x12 : mS) => (none, mT x12)) rfl (m_Parser_putAside (len := len) (xs := xs) (d + 1) x11) (fun x12 => ?_)
  refine w_go K 3 (c' := (20, [some (.ref 80), some (.int a1)], [], mT (sI x12 80 7 a1))) rfl ?_
  exact w_ret K rfl (hK _)
theorem m_Parser_operate {len : Nat} {xs : Nat → Int32}  (d : Nat) (a1 : Int32) (s : mS) : ok_Parser_operate a1 s → mm_call (mm_X len xs) mm_Y (d + 3) 107 [.ref 80, .int a1] (mT s) = some (none, mT (f_Parser_operate a1 s)) := fun h => t_Parser_operate (len := len) (xs := xs) d a1 s (fun t => (some (none, mT t) : Option mm_R) = some (none, mT (f_Parser_operate a1 s))) (fun _ h => h) h rfl
