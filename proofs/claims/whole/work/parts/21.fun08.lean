/-! FUNCTIONS OF METHODS, by program: f_ what it does, ok_ that no row fails, m_ the small machine does so. -/
def f_Parser_isLetter (a0 : Int32) (s : mS) : Int32 := (if a0 < 97 then (if a0 < 65 then 0 else (if (90 : Int32) < a0 then 0 else 1)) else (if a0 ≤ 122 then 1 else (if a0 < 65 then 0 else (if (90 : Int32) < a0 then 0 else 1))))
set_option maxRecDepth 4000 in
theorem t_Parser_isLetter {len : Nat} {xs : Nat → Int32}  (d : Nat) (a0 : Int32) (s : mS) {T : Option mm_R} (K : Int32 → Prop) (hK : ∀ t, K t → some (some (.int t), mT s) = T) : True → K (f_Parser_isLetter a0 s) → mm_fix (mm_X len xs) mm_Y (mm_call (mm_X len xs) mm_Y (d + 0)) (mm_look mc_Parser_isLetter) (0, [some (.int a0)], [], mT s) = T := by
  unfold f_Parser_isLetter
  refine w_go K 2 (c' := (3, [some (.int a0)], [.int 97, .int a0], mT s)) rfl ?_
  refine w_iltT K rfl (fun _ => ?_) (fun _ => ?_)
  · refine w_go K 2 (c' := (15, [some (.int a0)], [.int 65, .int a0], mT s)) rfl ?_
    refine w_iltT K rfl (fun _ => ?_) (fun _ => ?_)
    · refine w_go K 1 (c' := (29, [some (.int a0)], [.int 0], mT s)) rfl ?_
      exact w_ret K rfl (hK _)
    · refine w_go K 2 (c' := (21, [some (.int a0)], [.int 90, .int a0], mT s)) rfl ?_
      refine w_igtT K rfl (fun _ => ?_) (fun _ => ?_)
      · refine w_go K 1 (c' := (29, [some (.int a0)], [.int 0], mT s)) rfl ?_
        exact w_ret K rfl (hK _)
      · refine w_go K 2 (c' := (29, [some (.int a0)], [.int 1], mT s)) rfl ?_
        exact w_ret K rfl (hK _)
  · refine w_go K 2 (c' := (9, [some (.int a0)], [.int 122, .int a0], mT s)) rfl ?_
    refine w_ileT K rfl (fun _ => ?_) (fun _ => ?_)
    · refine w_go K 2 (c' := (29, [some (.int a0)], [.int 1], mT s)) rfl ?_
      exact w_ret K rfl (hK _)
    · refine w_go K 2 (c' := (15, [some (.int a0)], [.int 65, .int a0], mT s)) rfl ?_
      refine w_iltT K rfl (fun _ => ?_) (fun _ => ?_)
      · refine w_go K 1 (c' := (29, [some (.int a0)], [.int 0], mT s)) rfl ?_
        exact w_ret K rfl (hK _)
      · refine w_go K 2 (c' := (21, [some (.int a0)], [.int 90, .int a0], mT s)) rfl ?_
        refine w_igtT K rfl (fun _ => ?_) (fun _ => ?_)
        · refine w_go K 1 (c' := (29, [some (.int a0)], [.int 0], mT s)) rfl ?_
          exact w_ret K rfl (hK _)
        · refine w_go K 2 (c' := (29, [some (.int a0)], [.int 1], mT s)) rfl ?_
          exact w_ret K rfl (hK _)
theorem m_Parser_isLetter {len : Nat} {xs : Nat → Int32}  (d : Nat) (a0 : Int32) (s : mS) : True → mm_call (mm_X len xs) mm_Y (d + 1) 90 [.int a0] (mT s) = some (some (.int (f_Parser_isLetter a0 s)), mT s) := fun h => t_Parser_isLetter (len := len) (xs := xs) d a0 s (fun t => (some (some (.int t), mT s) : Option mm_R) = some (some (.int (f_Parser_isLetter a0 s)), mT s)) (fun _ h => h) h rfl
def f_Parser_isDigit (a0 : Int32) (s : mS) : Int32 := (if a0 < 48 then 0 else (if (57 : Int32) < a0 then 0 else 1))
set_option maxRecDepth 4000 in
theorem t_Parser_isDigit {len : Nat} {xs : Nat → Int32}  (d : Nat) (a0 : Int32) (s : mS) {T : Option mm_R} (K : Int32 → Prop) (hK : ∀ t, K t → some (some (.int t), mT s) = T) : True → K (f_Parser_isDigit a0 s) → mm_fix (mm_X len xs) mm_Y (mm_call (mm_X len xs) mm_Y (d + 0)) (mm_look mc_Parser_isDigit) (0, [some (.int a0)], [], mT s) = T := by
  unfold f_Parser_isDigit
  refine w_go K 2 (c' := (3, [some (.int a0)], [.int 48, .int a0], mT s)) rfl ?_
  refine w_iltT K rfl (fun _ => ?_) (fun _ => ?_)
  · refine w_go K 1 (c' := (17, [some (.int a0)], [.int 0], mT s)) rfl ?_
    exact w_ret K rfl (hK _)
  · refine w_go K 2 (c' := (9, [some (.int a0)], [.int 57, .int a0], mT s)) rfl ?_
    refine w_igtT K rfl (fun _ => ?_) (fun _ => ?_)
    · refine w_go K 1 (c' := (17, [some (.int a0)], [.int 0], mT s)) rfl ?_
      exact w_ret K rfl (hK _)
    · refine w_go K 2 (c' := (17, [some (.int a0)], [.int 1], mT s)) rfl ?_
      exact w_ret K rfl (hK _)
theorem m_Parser_isDigit {len : Nat} {xs : Nat → Int32}  (d : Nat) (a0 : Int32) (s : mS) : True → mm_call (mm_X len xs) mm_Y (d + 1) 94 [.int a0] (mT s) = some (some (.int (f_Parser_isDigit a0 s)), mT s) := fun h => t_Parser_isDigit (len := len) (xs := xs) d a0 s (fun t => (some (some (.int t), mT s) : Option mm_R) = some (some (.int (f_Parser_isDigit a0 s)), mT s)) (fun _ h => h) h rfl
def f_Parser_kindOfSign (a0 : Int32) (s : mS) : Int32 := (if a0 = 40 then 21 else (if a0 = 41 then 22 else (if a0 = 42 then 19 else (if a0 = 43 then 17 else (if a0 = 44 then 1 else (if a0 = 45 then 18 else (if a0 = 46 then 1 else (if a0 = 47 then 20 else (if a0 = 48 then 1 else (if a0 = 49 then 1 else (if a0 = 50 then 1 else (if a0 = 51 then 1 else (if a0 = 52 then 1 else (if a0 = 53 then 1 else (if a0 = 54 then 1 else (if a0 = 55 then 1 else (if a0 = 56 then 1 else (if a0 = 57 then 1 else (if a0 = 58 then 1 else (if a0 = 59 then 16 else (if a0 = 60 then 23 else (if a0 = 61 then 24 else (if a0 = 62 then 25 else 1)))))))))))))))))))))))
set_option maxRecDepth 4000 in
theorem t_Parser_kindOfSign {len : Nat} {xs : Nat → Int32}  (d : Nat) (a0 : Int32) (s : mS) {T : Option mm_R} (K : Int32 → Prop) (hK : ∀ t, K t → some (some (.int t), mT s) = T) : True → K (f_Parser_kindOfSign a0 s) → mm_fix (mm_X len xs) mm_Y (mm_call (mm_X len xs) mm_Y (d + 0)) (mm_look mc_Parser_kindOfSign) (0, [some (.int a0)], [], mT s) = T := by
  unfold f_Parser_kindOfSign
  refine w_go K 1 (c' := (1, [some (.int a0)], [.int a0], mT s)) rfl ?_
  refine w_go K 1 (c' := (mm_sw [(40, 123), (41, 126), (42, 117), (43, 111), (44, 138), (45, 114), (46, 138), (47, 120), (48, 138), (49, 138), (50, 138), (51, 138), (52, 138), (53, 138), (54, 138), (55, 138), (56, 138), (57, 138), (58, 138), (59, 108), (60, 129), (61, 132), (62, 135)] 138 a0, [some (.int a0)], [], mT s)) rfl ?_
  refine w_swT K (fun _ => ?_) (fun _ => ?_)
  · refine w_go K 1 (c' := (125, [some (.int a0)], [.int 21], mT s)) rfl ?_
    exact w_ret K rfl (hK _)
  · refine w_swT K (fun _ => ?_) (fun _ => ?_)
    · refine w_go K 1 (c' := (128, [some (.int a0)], [.int 22], mT s)) rfl ?_
      exact w_ret K rfl (hK _)
    · refine w_swT K (fun _ => ?_) (fun _ => ?_)
      · refine w_go K 1 (c' := (119, [some (.int a0)], [.int 19], mT s)) rfl ?_
        exact w_ret K rfl (hK _)
      · refine w_swT K (fun _ => ?_) (fun _ => ?_)
        · refine w_go K 1 (c' := (113, [some (.int a0)], [.int 17], mT s)) rfl ?_
          exact w_ret K rfl (hK _)
        · refine w_swT K (fun _ => ?_) (fun _ => ?_)
          · refine w_go K 1 (c' := (139, [some (.int a0)], [.int 1], mT s)) rfl ?_
            exact w_ret K rfl (hK _)
          · refine w_swT K (fun _ => ?_) (fun _ => ?_)
            · refine w_go K 1 (c' := (116, [some (.int a0)], [.int 18], mT s)) rfl ?_
              exact w_ret K rfl (hK _)
            · refine w_swT K (fun _ => ?_) (fun _ => ?_)
              · refine w_go K 1 (c' := (139, [some (.int a0)], [.int 1], mT s)) rfl ?_
                exact w_ret K rfl (hK _)
              · refine w_swT K (fun _ => ?_) (fun _ => ?_)
                · refine w_go K 1 (c' := (122, [some (.int a0)], [.int 20], mT s)) rfl ?_
                  exact w_ret K rfl (hK _)
                · refine w_swT K (fun _ => ?_) (fun _ => ?_)
                  · refine w_go K 1 (c' := (139, [some (.int a0)], [.int 1], mT s)) rfl ?_
                    exact w_ret K rfl (hK _)
                  · refine w_swT K (fun _ => ?_) (fun _ => ?_)
                    · refine w_go K 1 (c' := (139, [some (.int a0)], [.int 1], mT s)) rfl ?_
                      exact w_ret K rfl (hK _)
                    · refine w_swT K (fun _ => ?_) (fun _ => ?_)
                      · refine w_go K 1 (c' := (139, [some (.int a0)], [.int 1], mT s)) rfl ?_
                        exact w_ret K rfl (hK _)
                      · refine w_swT K (fun _ => ?_) (fun _ => ?_)
                        · refine w_go K 1 (c' := (139, [some (.int a0)], [.int 1], mT s)) rfl ?_
                          exact w_ret K rfl (hK _)
                        · refine w_swT K (fun _ => ?_) (fun _ => ?_)
                          · refine w_go K 1 (c' := (139, [some (.int a0)], [.int 1], mT s)) rfl ?_
                            exact w_ret K rfl (hK _)
                          · refine w_swT K (fun _ => ?_) (fun _ => ?_)
                            · refine w_go K 1 (c' := (139, [some (.int a0)], [.int 1], mT s)) rfl ?_
                              exact w_ret K rfl (hK _)
                            · refine w_swT K (fun _ => ?_) (fun _ => ?_)
                              · refine w_go K 1 (c' := (139, [some (.int a0)], [.int 1], mT s)) rfl ?_
                                exact w_ret K rfl (hK _)
                              · refine w_swT K (fun _ => ?_) (fun _ => ?_)
                                · refine w_go K 1 (c' := (139, [some (.int a0)], [.int 1], mT s)) rfl ?_
                                  exact w_ret K rfl (hK _)
                                · refine w_swT K (fun _ => ?_) (fun _ => ?_)
                                  · refine w_go K 1 (c' := (139, [some (.int a0)], [.int 1], mT s)) rfl ?_
                                    exact w_ret K rfl (hK _)
                                  · refine w_swT K (fun _ => ?_) (fun _ => ?_)
                                    · refine w_go K 1 (c' := (139, [some (.int a0)], [.int 1], mT s)) rfl ?_
                                      exact w_ret K rfl (hK _)
                                    · refine w_swT K (fun _ => ?_) (fun _ => ?_)
                                      · refine w_go K 1 (c' := (139, [some (.int a0)], [.int 1], mT s)) rfl ?_
                                        exact w_ret K rfl (hK _)
                                      · refine w_swT K (fun _ => ?_) (fun _ => ?_)
                                        · refine w_go K 1 (c' := (110, [some (.int a0)], [.int 16], mT s)) rfl ?_
                                          exact w_ret K rfl (hK _)
                                        · refine w_swT K (fun _ => ?_) (fun _ => ?_)
                                          · refine w_go K 1 (c' := (131, [some (.int a0)], [.int 23], mT s)) rfl ?_
                                            exact w_ret K rfl (hK _)
                                          · refine w_swT K (fun _ => ?_) (fun _ => ?_)
                                            · refine w_go K 1 (c' := (134, [some (.int a0)], [.int 24], mT s)) rfl ?_
                                              exact w_ret K rfl (hK _)
                                            · refine w_swT K (fun _ => ?_) (fun _ => ?_)
                                              · refine w_go K 1 (c' := (137, [some (.int a0)], [.int 25], mT s)) rfl ?_
                                                exact w_ret K rfl (hK _)
                                              · refine w_go K 0 (c' := (138, [some (.int a0)], [], mT s)) rfl ?_
                                                refine w_go K 1 (c' := (139, [some (.int a0)], [.int 1], mT s)) rfl ?_
                                                exact w_ret K rfl (hK _)
theorem m_Parser_kindOfSign {len : Nat} {xs : Nat → Int32}  (d : Nat) (a0 : Int32) (s : mS) : True → mm_call (mm_X len xs) mm_Y (d + 1) 96 [.int a0] (mT s) = some (some (.int (f_Parser_kindOfSign a0 s)), mT s) := fun h => t_Parser_kindOfSign (len := len) (xs := xs) d a0 s (fun t => (some (some (.int t), mT s) : Option mm_R) = some (some (.int (f_Parser_kindOfSign a0 s)), mT s)) (fun _ h => h) h rfl
def lp_Parser_readNumber_2  : Nat → Int32 → mS → Int32 × mS
  | 0, v1, s => (v1, s)
  | n + 1, v1, s => (if (600 : Int32) ≤ v1 then (v1, s) else (mq_let (f_Parser_signAt (gI s 80 2) s) (fun (x10 : Int32) => (mq_let (f_Parser_isDigit x10 s) (fun (x11 : Int32) => (if x11 = 0 then (v1, s) else (mq_let (if (5 : Int32) ≤ v1 then s else (mq_let (f_Parser_signAt (gI s 80 2) s) (fun (x14 : Int32) => sI s 80 4 ((((gI s 80 4) * 10) + x14) - 48)))) (fun (x13 : mS) => (lp_Parser_readNumber_2 n (v1 + 1) (sI x13 80 2 ((gI x13 80 2) + 1)))))))))))
def okl_Parser_readNumber_2  : Nat → Int32 → mS → Prop
  | 0, v1, s => False
  | n + 1, v1, s => (if (600 : Int32) ≤ v1 then True else (ok_Parser_signAt (gI s 80 2) s ∧ mq_letP (f_Parser_signAt (gI s 80 2) s) (fun (x10 : Int32) => (True ∧ mq_letP (f_Parser_isDigit x10 s) (fun (x11 : Int32) => (if x11 = 0 then True else ((if (5 : Int32) ≤ v1 then True else (ok_Parser_signAt (gI s 80 2) s ∧ mq_letP (f_Parser_signAt (gI s 80 2) s) (fun (x14 : Int32) => True))) ∧ mq_letP (if (5 : Int32) ≤ v1 then s else (mq_let (f_Parser_signAt (gI s 80 2) s) (fun (x14 : Int32) => sI s 80 4 ((((gI s 80 4) * 10) + x14) - 48)))) (fun (x13 : mS) => (okl_Parser_readNumber_2 n (v1 + 1) (sI x13 80 2 ((gI x13 80 2) + 1)))))))))))
set_option maxRecDepth 4000 in
theorem tl_Parser_readNumber_2 {len : Nat} {xs : Nat → Int32}  (d : Nat)   {T : Option mm_R} (K : Int32 × mS → Prop) (hX : ∀ r, K r → mm_fix (mm_X len xs) mm_Y (mm_call (mm_X len xs) mm_Y (d + 1)) (mm_look mc_Parser_readNumber) (67, [some (.ref 80), some (.int r.1)], [], mT r.2) = T) : ∀ (n : Nat), ∀ (v1 : Int32) (s : mS), okl_Parser_readNumber_2 n v1 s → K (lp_Parser_readNumber_2 n v1 s) → mm_fix (mm_X len xs) mm_Y (mm_call (mm_X len xs) mm_Y (d + 1)) (mm_look mc_Parser_readNumber) (2, [some (.ref 80), some (.int v1)], [], mT s) = T := by
  intro n
  induction n with
  | zero => intro v1 s; exact fun h => h.elim
  | succ n ih =>
    intro v1 s
    rw [okl_Parser_readNumber_2, lp_Parser_readNumber_2]
    refine w_go K 2 (c' := (6, [some (.ref 80), some (.int v1)], [.int 600, .int v1], mT s)) rfl ?_
    refine w_ige K rfl (fun _ => ?_) (fun _ => ?_)
    · refine w_go K 0 (c' := (67, [some (.ref 80), some (.int v1)], [], mT s)) rfl ?_
      exact fun _ b => hX _ b
    · refine w_go K 3 (c' := (14, [some (.ref 80), some (.int v1)], [.int (gI s 80 2), .ref 80], mT s)) rfl ?_
      refine w_callL K (E := f_Parser_signAt (gI s 80 2) s) (g := fun (x10 : Int32) => (some (.int x10), mT s)) rfl (m_Parser_signAt (len := len) (xs := xs) (d + 0) (gI s 80 2) s) (fun x10 => ?_)
      refine w_go K 0 (c' := (17, [some (.ref 80), some (.int v1)], [.int x10], mT s)) rfl ?_
      refine w_callL K (E := f_Parser_isDigit x10 s) (g := fun (x11 : Int32) => (some (.int x11), mT s)) rfl (m_Parser_isDigit (len := len) (xs := xs) (d + 0) x10 s) (fun x11 => ?_)
      refine w_go K 0 (c' := (20, [some (.ref 80), some (.int v1)], [.int x11], mT s)) rfl ?_
      refine w_zeq K rfl (fun _ => ?_) (fun _ => ?_)
      · refine w_go K 0 (c' := (67, [some (.ref 80), some (.int v1)], [], mT s)) rfl ?_
        exact fun _ b => hX _ b
      · refine w_go K 2 (c' := (25, [some (.ref 80), some (.int v1)], [.int 5, .int v1], mT s)) rfl ?_
        refine w_join K (fun (x13 : mS) => mm_fix (mm_X len xs) mm_Y (mm_call (mm_X len xs) mm_Y (d + 1)) (mm_look mc_Parser_readNumber) (51, [some (.ref 80), some (.int v1)], [], mT x13) = T) (fun K hJ => ?_) (fun x13 h1 h2 => ?_)
        · refine w_go K 0 (c' := (25, [some (.ref 80), some (.int v1)], [.int 5, .int v1], mT s)) rfl ?_
          refine w_ige K rfl (fun _ => ?_) (fun _ => ?_)
          · refine w_go K 0 (c' := (51, [some (.ref 80), some (.int v1)], [], mT s)) rfl ?_
            exact fun _ h => hJ _ h
          · refine w_go K 8 (c' := (41, [some (.ref 80), some (.int v1)], [.int (gI s 80 2), .ref 80, .int ((gI s 80 4) * 10), .ref 80], mT s)) rfl ?_
            refine w_callL K (E := f_Parser_signAt (gI s 80 2) s) (g := fun (x14 : Int32) => (some (.int x14), mT s)) rfl (m_Parser_signAt (len := len) (xs := xs) (d + 0) (gI s 80 2) s) (fun x14 => ?_)
            refine w_go K 4 (c' := (51, [some (.ref 80), some (.int v1)], [], mT (sI s 80 4 ((((gI s 80 4) * 10) + x14) - 48)))) rfl ?_
            exact fun _ h => hJ _ h
        · revert h1 h2
          refine w_go K 8 (c' := (2, [some (.ref 80), some (.int (v1 + 1))], [], mT (sI x13 80 2 ((gI x13 80 2) + 1)))) rfl ?_
          exact fun a b => ih (v1 + 1) (sI x13 80 2 ((gI x13 80 2) + 1)) a b
def f_Parser_readNumber  (s : mS) : mS := (mq_let (lp_Parser_readNumber_2 mm_N (0 : Int32) s) (fun (x15 : Int32 × mS) => (mq_let (if ((gI x15.2 80 2) - (gI x15.2 80 5)) ≤ 5 then (2 : Int32) else (1 : Int32)) (fun (x16 : Int32) => sI x15.2 80 3 x16))))
def ok_Parser_readNumber  (s : mS) : Prop := (okl_Parser_readNumber_2 mm_N (0 : Int32) s ∧ mq_letP (lp_Parser_readNumber_2 mm_N (0 : Int32) s) (fun (x15 : Int32 × mS) => True))
set_option maxRecDepth 4000 in
theorem t_Parser_readNumber {len : Nat} {xs : Nat → Int32}  (d : Nat)  (s : mS) {T : Option mm_R} (K : mS → Prop) (hK : ∀ t, K t → some (none, mT t) = T) : ok_Parser_readNumber s → K (f_Parser_readNumber s) → mm_fix (mm_X len xs) mm_Y (mm_call (mm_X len xs) mm_Y (d + 1)) (mm_look mc_Parser_readNumber) (0, [some (.ref 80), none], [], mT s) = T := by
  unfold ok_Parser_readNumber f_Parser_readNumber
  refine w_go K 2 (c' := (2, [some (.ref 80), some (.int 0)], [], mT s)) rfl ?_
  refine w_join K (fun (x15 : Int32 × mS) => mm_fix (mm_X len xs) mm_Y (mm_call (mm_X len xs) mm_Y (d + 1)) (mm_look mc_Parser_readNumber) (67, [some (.ref 80), some (.int x15.1)], [], mT x15.2) = T) (fun K hJ => tl_Parser_readNumber_2 (len := len) (xs := xs) d (T := T) K hJ mm_N (0 : Int32) s) (fun x15 h1 h2 => ?_)
  revert h1 h2
  refine w_go K 7 (c' := (78, [some (.ref 80), some (.int x15.1)], [.int 5, .int ((gI x15.2 80 2) - (gI x15.2 80 5)), .ref 80], mT x15.2)) rfl ?_
  refine w_joinT K (fun (x16 : Int32) => mm_fix (mm_X len xs) mm_Y (mm_call (mm_X len xs) mm_Y (d + 1)) (mm_look mc_Parser_readNumber) (86, [some (.ref 80), some (.int x15.1)], [.int x16, .ref 80], mT x15.2) = T) (fun K hJ => ?_) (fun x16 h1 h2 => ?_)
  · refine w_go K 0 (c' := (78, [some (.ref 80), some (.int x15.1)], [.int 5, .int ((gI x15.2 80 2) - (gI x15.2 80 5)), .ref 80], mT x15.2)) rfl ?_
    refine w_ileT K rfl (fun _ => ?_) (fun _ => ?_)
    · refine w_go K 1 (c' := (86, [some (.ref 80), some (.int x15.1)], [.int 2, .ref 80], mT x15.2)) rfl ?_
      exact fun _ h => hJ _ h
    · refine w_go K 2 (c' := (86, [some (.ref 80), some (.int x15.1)], [.int 1, .ref 80], mT x15.2)) rfl ?_
      exact fun _ h => hJ _ h
  · revert h1 h2
    refine w_go K 1 (c' := (89, [some (.ref 80), some (.int x15.1)], [], mT (sI x15.2 80 3 x16))) rfl ?_
    exact w_ret K rfl (hK _)
theorem m_Parser_readNumber {len : Nat} {xs : Nat → Int32}  (d : Nat)  (s : mS) : ok_Parser_readNumber s → mm_call (mm_X len xs) mm_Y (d + 2) 95 [.ref 80] (mT s) = some (none, mT (f_Parser_readNumber s)) := fun h => t_Parser_readNumber (len := len) (xs := xs) d s (fun t => (some (none, mT t) : Option mm_R) = some (none, mT (f_Parser_readNumber s))) (fun _ h => h) h rfl
def lp_Parser_isWord_2000000_20 (s : mS) : Nat → Int32 → Option Int32 × Int32
  | 0, v2 => (none, v2)
  | n + 1, v2 => (if (8 : Int32) ≤ v2 then (none, v2) else (mq_let (f_Parser_signAt ((gI s 80 5) + v2) s) (fun (x10 : Int32) => (if x10 = ((mm_Y 0).getD (ix v2) 0) then (lp_Parser_isWord_2000000_20 s n (v2 + 1)) else (some (0 : Int32), v2)))))
def okl_Parser_isWord_2000000_20 (s : mS) : Nat → Int32 → Prop
  | 0, v2 => False
  | n + 1, v2 => (if (8 : Int32) ≤ v2 then True else (ok_Parser_signAt ((gI s 80 5) + v2) s ∧ mq_letP (f_Parser_signAt ((gI s 80 5) + v2) s) (fun (x10 : Int32) => (mm_inb v2 8 = true ∧ (if x10 = ((mm_Y 0).getD (ix v2) 0) then (okl_Parser_isWord_2000000_20 s n (v2 + 1)) else True)))))
set_option maxRecDepth 4000 in
theorem tl_Parser_isWord_2000000_20 {len : Nat} {xs : Nat → Int32}  (d : Nat)  (s : mS) {T : Option mm_R} (K : Option Int32 × Int32 → Prop) (hX : ∀ r, K r → r.1 = none → mm_fix (mm_X len xs) mm_Y (mm_call (mm_X len xs) mm_Y (d + 1)) (mm_look mc_Parser_isWord) (54, [some (.ref 80), some (.ref 2000000), some (.int r.2)], [], mT s) = T) (hR : ∀ r, K r → ∀ v, r.1 = some v → some (some (.int v), mT s) = T) : ∀ (n : Nat), ∀ (v2 : Int32), okl_Parser_isWord_2000000_20 s n v2 → K (lp_Parser_isWord_2000000_20 s n v2) → mm_fix (mm_X len xs) mm_Y (mm_call (mm_X len xs) mm_Y (d + 1)) (mm_look mc_Parser_isWord) (20, [some (.ref 80), some (.ref 2000000), some (.int v2)], [], mT s) = T := by
  intro n
  induction n with
  | zero => intro v2; exact fun h => h.elim
  | succ n ih =>
    intro v2
    rw [okl_Parser_isWord_2000000_20, lp_Parser_isWord_2000000_20]
    refine w_go K 3 (c' := (25, [some (.ref 80), some (.ref 2000000), some (.int v2)], [.int 8, .int v2], mT s)) rfl ?_
    refine w_ige K rfl (fun _ => ?_) (fun _ => ?_)
    · refine w_go K 0 (c' := (54, [some (.ref 80), some (.ref 2000000), some (.int v2)], [], mT s)) rfl ?_
      exact fun _ b => hX _ b rfl
    · refine w_go K 5 (c' := (35, [some (.ref 80), some (.ref 2000000), some (.int v2)], [.int ((gI s 80 5) + v2), .ref 80], mT s)) rfl ?_
      refine w_callL K (E := f_Parser_signAt ((gI s 80 5) + v2) s) (g := fun (x10 : Int32) => (some (.int x10), mT s)) rfl (m_Parser_signAt (len := len) (xs := xs) (d + 0) ((gI s 80 5) + v2) s) (fun x10 => ?_)
      refine w_go K 2 (c' := (40, [some (.ref 80), some (.ref 2000000), some (.int v2)], [.int v2, .ref 2000000, .int x10], mT s)) rfl ?_
      refine w_ck K (mm_xc rfl rfl rfl rfl rfl rfl) ?_
      refine w_go K 0 (c' := (43, [some (.ref 80), some (.ref 2000000), some (.int v2)], [.int ((mm_Y 0).getD (ix v2) 0), .int x10], mT s)) rfl ?_
      refine w_ieq K rfl (fun _ => ?_) (fun _ => ?_)
      · refine w_go K 2 (c' := (20, [some (.ref 80), some (.ref 2000000), some (.int (v2 + 1))], [], mT s)) rfl ?_
        exact fun a b => ih (v2 + 1) a b
      · refine w_go K 1 (c' := (47, [some (.ref 80), some (.ref 2000000), some (.int v2)], [.int 0], mT s)) rfl ?_
        exact w_ret K rfl (fun h => hR _ h _ rfl)
def f_Parser_isWord_2000000  (s : mS) : Int32 := (if ((gI s 80 2) - (gI s 80 5)) = 8 then (mq_let (lp_Parser_isWord_2000000_20 s mm_N (0 : Int32)) (fun (x11 : Option Int32 × Int32) => mq_el x11.1 (fun v => v) 1)) else 0)
def ok_Parser_isWord_2000000  (s : mS) : Prop := (if ((gI s 80 2) - (gI s 80 5)) = 8 then (okl_Parser_isWord_2000000_20 s mm_N (0 : Int32) ∧ mq_letP (lp_Parser_isWord_2000000_20 s mm_N (0 : Int32)) (fun (x11 : Option Int32 × Int32) => mq_elP x11.1 True)) else True)
set_option maxRecDepth 4000 in
theorem t_Parser_isWord_2000000 {len : Nat} {xs : Nat → Int32}  (d : Nat)  (s : mS) {T : Option mm_R} (K : Int32 → Prop) (hK : ∀ t, K t → some (some (.int t), mT s) = T) : ok_Parser_isWord_2000000 s → K (f_Parser_isWord_2000000 s) → mm_fix (mm_X len xs) mm_Y (mm_call (mm_X len xs) mm_Y (d + 1)) (mm_look mc_Parser_isWord) (0, [some (.ref 80), some (.ref 2000000), none], [], mT s) = T := by
  unfold ok_Parser_isWord_2000000 f_Parser_isWord_2000000
  refine w_go K 7 (c' := (13, [some (.ref 80), some (.ref 2000000), none], [.int 8, .int ((gI s 80 2) - (gI s 80 5))], mT s)) rfl ?_
  refine w_ieq K rfl (fun _ => ?_) (fun _ => ?_)
  · refine w_go K 2 (c' := (20, [some (.ref 80), some (.ref 2000000), some (.int 0)], [], mT s)) rfl ?_
    refine w_join K (fun (x11 : Option Int32 × Int32) => (x11.1 = none → mm_fix (mm_X len xs) mm_Y (mm_call (mm_X len xs) mm_Y (d + 1)) (mm_look mc_Parser_isWord) (54, [some (.ref 80), some (.ref 2000000), some (.int x11.2)], [], mT s) = T) ∧ (∀ v, x11.1 = some v → some (some (.int v), mT s) = T)) (fun K hJ => tl_Parser_isWord_2000000_20 (len := len) (xs := xs) d s (T := T) K (fun r hr => (hJ r hr).1) (fun r hr => (hJ r hr).2) mm_N (0 : Int32)) (fun x11 h1 h2 => w_el K (fun v hv h => hK _ h) (fun h1 h2 => ?_) h1 h2)
    revert h1 h2
    refine w_go K 1 (c' := (55, [some (.ref 80), some (.ref 2000000), some (.int x11.2)], [.int 1], mT s)) rfl ?_
    exact w_ret K rfl (hK _)
  · refine w_go K 1 (c' := (17, [some (.ref 80), some (.ref 2000000), none], [.int 0], mT s)) rfl ?_
    exact w_ret K rfl (hK _)
theorem m_Parser_isWord_2000000 {len : Nat} {xs : Nat → Int32}  (d : Nat)  (s : mS) : ok_Parser_isWord_2000000 s → mm_call (mm_X len xs) mm_Y (d + 2) 93 [.ref 80, .ref 2000000] (mT s) = some (some (.int (f_Parser_isWord_2000000 s)), mT s) := fun h => t_Parser_isWord_2000000 (len := len) (xs := xs) d s (fun t => (some (some (.int t), mT s) : Option mm_R) = some (some (.int (f_Parser_isWord_2000000 s)), mT s)) (fun _ h => h) h rfl
def lp_Parser_isWord_2000001_20 (s : mS) : Nat → Int32 → Option Int32 × Int32
  | 0, v2 => (none, v2)
  | n + 1, v2 => (if (7 : Int32) ≤ v2 then (none, v2) else (mq_let (f_Parser_signAt ((gI s 80 5) + v2) s) (fun (x10 : Int32) => (if x10 = ((mm_Y 1).getD (ix v2) 0) then (lp_Parser_isWord_2000001_20 s n (v2 + 1)) else (some (0 : Int32), v2)))))
def okl_Parser_isWord_2000001_20 (s : mS) : Nat → Int32 → Prop
  | 0, v2 => False
  | n + 1, v2 => (if (7 : Int32) ≤ v2 then True else (ok_Parser_signAt ((gI s 80 5) + v2) s ∧ mq_letP (f_Parser_signAt ((gI s 80 5) + v2) s) (fun (x10 : Int32) => (mm_inb v2 7 = true ∧ (if x10 = ((mm_Y 1).getD (ix v2) 0) then (okl_Parser_isWord_2000001_20 s n (v2 + 1)) else True)))))
set_option maxRecDepth 4000 in
theorem tl_Parser_isWord_2000001_20 {len : Nat} {xs : Nat → Int32}  (d : Nat)  (s : mS) {T : Option mm_R} (K : Option Int32 × Int32 → Prop) (hX : ∀ r, K r → r.1 = none → mm_fix (mm_X len xs) mm_Y (mm_call (mm_X len xs) mm_Y (d + 1)) (mm_look mc_Parser_isWord) (54, [some (.ref 80), some (.ref 2000001), some (.int r.2)], [], mT s) = T) (hR : ∀ r, K r → ∀ v, r.1 = some v → some (some (.int v), mT s) = T) : ∀ (n : Nat), ∀ (v2 : Int32), okl_Parser_isWord_2000001_20 s n v2 → K (lp_Parser_isWord_2000001_20 s n v2) → mm_fix (mm_X len xs) mm_Y (mm_call (mm_X len xs) mm_Y (d + 1)) (mm_look mc_Parser_isWord) (20, [some (.ref 80), some (.ref 2000001), some (.int v2)], [], mT s) = T := by
  intro n
  induction n with
  | zero => intro v2; exact fun h => h.elim
  | succ n ih =>
    intro v2
    rw [okl_Parser_isWord_2000001_20, lp_Parser_isWord_2000001_20]
    refine w_go K 3 (c' := (25, [some (.ref 80), some (.ref 2000001), some (.int v2)], [.int 7, .int v2], mT s)) rfl ?_
    refine w_ige K rfl (fun _ => ?_) (fun _ => ?_)
    · refine w_go K 0 (c' := (54, [some (.ref 80), some (.ref 2000001), some (.int v2)], [], mT s)) rfl ?_
      exact fun _ b => hX _ b rfl
    · refine w_go K 5 (c' := (35, [some (.ref 80), some (.ref 2000001), some (.int v2)], [.int ((gI s 80 5) + v2), .ref 80], mT s)) rfl ?_
      refine w_callL K (E := f_Parser_signAt ((gI s 80 5) + v2) s) (g := fun (x10 : Int32) => (some (.int x10), mT s)) rfl (m_Parser_signAt (len := len) (xs := xs) (d + 0) ((gI s 80 5) + v2) s) (fun x10 => ?_)
      refine w_go K 2 (c' := (40, [some (.ref 80), some (.ref 2000001), some (.int v2)], [.int v2, .ref 2000001, .int x10], mT s)) rfl ?_
      refine w_ck K (mm_xc rfl rfl rfl rfl rfl rfl) ?_
      refine w_go K 0 (c' := (43, [some (.ref 80), some (.ref 2000001), some (.int v2)], [.int ((mm_Y 1).getD (ix v2) 0), .int x10], mT s)) rfl ?_
      refine w_ieq K rfl (fun _ => ?_) (fun _ => ?_)
      · refine w_go K 2 (c' := (20, [some (.ref 80), some (.ref 2000001), some (.int (v2 + 1))], [], mT s)) rfl ?_
        exact fun a b => ih (v2 + 1) a b
      · refine w_go K 1 (c' := (47, [some (.ref 80), some (.ref 2000001), some (.int v2)], [.int 0], mT s)) rfl ?_
        exact w_ret K rfl (fun h => hR _ h _ rfl)
def f_Parser_isWord_2000001  (s : mS) : Int32 := (if ((gI s 80 2) - (gI s 80 5)) = 7 then (mq_let (lp_Parser_isWord_2000001_20 s mm_N (0 : Int32)) (fun (x11 : Option Int32 × Int32) => mq_el x11.1 (fun v => v) 1)) else 0)
def ok_Parser_isWord_2000001  (s : mS) : Prop := (if ((gI s 80 2) - (gI s 80 5)) = 7 then (okl_Parser_isWord_2000001_20 s mm_N (0 : Int32) ∧ mq_letP (lp_Parser_isWord_2000001_20 s mm_N (0 : Int32)) (fun (x11 : Option Int32 × Int32) => mq_elP x11.1 True)) else True)
set_option maxRecDepth 4000 in
theorem t_Parser_isWord_2000001 {len : Nat} {xs : Nat → Int32}  (d : Nat)  (s : mS) {T : Option mm_R} (K : Int32 → Prop) (hK : ∀ t, K t → some (some (.int t), mT s) = T) : ok_Parser_isWord_2000001 s → K (f_Parser_isWord_2000001 s) → mm_fix (mm_X len xs) mm_Y (mm_call (mm_X len xs) mm_Y (d + 1)) (mm_look mc_Parser_isWord) (0, [some (.ref 80), some (.ref 2000001), none], [], mT s) = T := by
  unfold ok_Parser_isWord_2000001 f_Parser_isWord_2000001
  refine w_go K 7 (c' := (13, [some (.ref 80), some (.ref 2000001), none], [.int 7, .int ((gI s 80 2) - (gI s 80 5))], mT s)) rfl ?_
  refine w_ieq K rfl (fun _ => ?_) (fun _ => ?_)
  · refine w_go K 2 (c' := (20, [some (.ref 80), some (.ref 2000001), some (.int 0)], [], mT s)) rfl ?_
    refine w_join K (fun (x11 : Option Int32 × Int32) => (x11.1 = none → mm_fix (mm_X len xs) mm_Y (mm_call (mm_X len xs) mm_Y (d + 1)) (mm_look mc_Parser_isWord) (54, [some (.ref 80), some (.ref 2000001), some (.int x11.2)], [], mT s) = T) ∧ (∀ v, x11.1 = some v → some (some (.int v), mT s) = T)) (fun K hJ => tl_Parser_isWord_2000001_20 (len := len) (xs := xs) d s (T := T) K (fun r hr => (hJ r hr).1) (fun r hr => (hJ r hr).2) mm_N (0 : Int32)) (fun x11 h1 h2 => w_el K (fun v hv h => hK _ h) (fun h1 h2 => ?_) h1 h2)
    revert h1 h2
    refine w_go K 1 (c' := (55, [some (.ref 80), some (.ref 2000001), some (.int x11.2)], [.int 1], mT s)) rfl ?_
    exact w_ret K rfl (hK _)
  · refine w_go K 1 (c' := (17, [some (.ref 80), some (.ref 2000001), none], [.int 0], mT s)) rfl ?_
    exact w_ret K rfl (hK _)
theorem m_Parser_isWord_2000001 {len : Nat} {xs : Nat → Int32}  (d : Nat)  (s : mS) : ok_Parser_isWord_2000001 s → mm_call (mm_X len xs) mm_Y (d + 2) 93 [.ref 80, .ref 2000001] (mT s) = some (some (.int (f_Parser_isWord_2000001 s)), mT s) := fun h => t_Parser_isWord_2000001 (len := len) (xs := xs) d s (fun t => (some (some (.int t), mT s) : Option mm_R) = some (some (.int (f_Parser_isWord_2000001 s)), mT s)) (fun _ h => h) h rfl
def lp_Parser_isWord_2000002_20 (s : mS) : Nat → Int32 → Option Int32 × Int32
  | 0, v2 => (none, v2)
  | n + 1, v2 => (if (5 : Int32) ≤ v2 then (none, v2) else (mq_let (f_Parser_signAt ((gI s 80 5) + v2) s) (fun (x10 : Int32) => (if x10 = ((mm_Y 2).getD (ix v2) 0) then (lp_Parser_isWord_2000002_20 s n (v2 + 1)) else (some (0 : Int32), v2)))))
def okl_Parser_isWord_2000002_20 (s : mS) : Nat → Int32 → Prop
  | 0, v2 => False
  | n + 1, v2 => (if (5 : Int32) ≤ v2 then True else (ok_Parser_signAt ((gI s 80 5) + v2) s ∧ mq_letP (f_Parser_signAt ((gI s 80 5) + v2) s) (fun (x10 : Int32) => (mm_inb v2 5 = true ∧ (if x10 = ((mm_Y 2).getD (ix v2) 0) then (okl_Parser_isWord_2000002_20 s n (v2 + 1)) else True)))))
set_option maxRecDepth 4000 in
theorem tl_Parser_isWord_2000002_20 {len : Nat} {xs : Nat → Int32}  (d : Nat)  (s : mS) {T : Option mm_R} (K : Option Int32 × Int32 → Prop) (hX : ∀ r, K r → r.1 = none → mm_fix (mm_X len xs) mm_Y (mm_call (mm_X len xs) mm_Y (d + 1)) (mm_look mc_Parser_isWord) (54, [some (.ref 80), some (.ref 2000002), some (.int r.2)], [], mT s) = T) (hR : ∀ r, K r → ∀ v, r.1 = some v → some (some (.int v), mT s) = T) : ∀ (n : Nat), ∀ (v2 : Int32), okl_Parser_isWord_2000002_20 s n v2 → K (lp_Parser_isWord_2000002_20 s n v2) → mm_fix (mm_X len xs) mm_Y (mm_call (mm_X len xs) mm_Y (d + 1)) (mm_look mc_Parser_isWord) (20, [some (.ref 80), some (.ref 2000002), some (.int v2)], [], mT s) = T := by
  intro n
  induction n with
  | zero => intro v2; exact fun h => h.elim
  | succ n ih =>
    intro v2
    rw [okl_Parser_isWord_2000002_20, lp_Parser_isWord_2000002_20]
    refine w_go K 3 (c' := (25, [some (.ref 80), some (.ref 2000002), some (.int v2)], [.int 5, .int v2], mT s)) rfl ?_
    refine w_ige K rfl (fun _ => ?_) (fun _ => ?_)
    · refine w_go K 0 (c' := (54, [some (.ref 80), some (.ref 2000002), some (.int v2)], [], mT s)) rfl ?_
      exact fun _ b => hX _ b rfl
    · refine w_go K 5 (c' := (35, [some (.ref 80), some (.ref 2000002), some (.int v2)], [.int ((gI s 80 5) + v2), .ref 80], mT s)) rfl ?_
      refine w_callL K (E := f_Parser_signAt ((gI s 80 5) + v2) s) (g := fun (x10 : Int32) => (some (.int x10), mT s)) rfl (m_Parser_signAt (len := len) (xs := xs) (d + 0) ((gI s 80 5) + v2) s) (fun x10 => ?_)
      refine w_go K 2 (c' := (40, [some (.ref 80), some (.ref 2000002), some (.int v2)], [.int v2, .ref 2000002, .int x10], mT s)) rfl ?_
      refine w_ck K (mm_xc rfl rfl rfl rfl rfl rfl) ?_
      refine w_go K 0 (c' := (43, [some (.ref 80), some (.ref 2000002), some (.int v2)], [.int ((mm_Y 2).getD (ix v2) 0), .int x10], mT s)) rfl ?_
      refine w_ieq K rfl (fun _ => ?_) (fun _ => ?_)
      · refine w_go K 2 (c' := (20, [some (.ref 80), some (.ref 2000002), some (.int (v2 + 1))], [], mT s)) rfl ?_
        exact fun a b => ih (v2 + 1) a b
      · refine w_go K 1 (c' := (47, [some (.ref 80), some (.ref 2000002), some (.int v2)], [.int 0], mT s)) rfl ?_
        exact w_ret K rfl (fun h => hR _ h _ rfl)
def f_Parser_isWord_2000002  (s : mS) : Int32 := (if ((gI s 80 2) - (gI s 80 5)) = 5 then (mq_let (lp_Parser_isWord_2000002_20 s mm_N (0 : Int32)) (fun (x11 : Option Int32 × Int32) => mq_el x11.1 (fun v => v) 1)) else 0)
def ok_Parser_isWord_2000002  (s : mS) : Prop := (if ((gI s 80 2) - (gI s 80 5)) = 5 then (okl_Parser_isWord_2000002_20 s mm_N (0 : Int32) ∧ mq_letP (lp_Parser_isWord_2000002_20 s mm_N (0 : Int32)) (fun (x11 : Option Int32 × Int32) => mq_elP x11.1 True)) else True)
set_option maxRecDepth 4000 in
theorem t_Parser_isWord_2000002 {len : Nat} {xs : Nat → Int32}  (d : Nat)  (s : mS) {T : Option mm_R} (K : Int32 → Prop) (hK : ∀ t, K t → some (some (.int t), mT s) = T) : ok_Parser_isWord_2000002 s → K (f_Parser_isWord_2000002 s) → mm_fix (mm_X len xs) mm_Y (mm_call (mm_X len xs) mm_Y (d + 1)) (mm_look mc_Parser_isWord) (0, [some (.ref 80), some (.ref 2000002), none], [], mT s) = T := by
  unfold ok_Parser_isWord_2000002 f_Parser_isWord_2000002
  refine w_go K 7 (c' := (13, [some (.ref 80), some (.ref 2000002), none], [.int 5, .int ((gI s 80 2) - (gI s 80 5))], mT s)) rfl ?_
  refine w_ieq K rfl (fun _ => ?_) (fun _ => ?_)
  · refine w_go K 2 (c' := (20, [some (.ref 80), some (.ref 2000002), some (.int 0)], [], mT s)) rfl ?_
    refine w_join K (fun (x11 : Option Int32 × Int32) => (x11.1 = none → mm_fix (mm_X len xs) mm_Y (mm_call (mm_X len xs) mm_Y (d + 1)) (mm_look mc_Parser_isWord) (54, [some (.ref 80), some (.ref 2000002), some (.int x11.2)], [], mT s) = T) ∧ (∀ v, x11.1 = some v → some (some (.int v), mT s) = T)) (fun K hJ => tl_Parser_isWord_2000002_20 (len := len) (xs := xs) d s (T := T) K (fun r hr => (hJ r hr).1) (fun r hr => (hJ r hr).2) mm_N (0 : Int32)) (fun x11 h1 h2 => w_el K (fun v hv h => hK _ h) (fun h1 h2 => ?_) h1 h2)
    revert h1 h2
    refine w_go K 1 (c' := (55, [some (.ref 80), some (.ref 2000002), some (.int x11.2)], [.int 1], mT s)) rfl ?_
    exact w_ret K rfl (hK _)
  · refine w_go K 1 (c' := (17, [some (.ref 80), some (.ref 2000002), none], [.int 0], mT s)) rfl ?_
    exact w_ret K rfl (hK _)
theorem m_Parser_isWord_2000002 {len : Nat} {xs : Nat → Int32}  (d : Nat)  (s : mS) : ok_Parser_isWord_2000002 s → mm_call (mm_X len xs) mm_Y (d + 2) 93 [.ref 80, .ref 2000002] (mT s) = some (some (.int (f_Parser_isWord_2000002 s)), mT s) := fun h => t_Parser_isWord_2000002 (len := len) (xs := xs) d s (fun t => (some (some (.int t), mT s) : Option mm_R) = some (some (.int (f_Parser_isWord_2000002 s)), mT s)) (fun _ h => h) h rfl
def lp_Parser_isWord_2000003_20 (s : mS) : Nat → Int32 → Option Int32 × Int32
  | 0, v2 => (none, v2)
  | n + 1, v2 => (if (4 : Int32) ≤ v2 then (none, v2) else (mq_let (f_Parser_signAt ((gI s 80 5) + v2) s) (fun (x10 : Int32) => (if x10 = ((mm_Y 3).getD (ix v2) 0) then (lp_Parser_isWord_2000003_20 s n (v2 + 1)) else (some (0 : Int32), v2)))))
def okl_Parser_isWord_2000003_20 (s : mS) : Nat → Int32 → Prop
  | 0, v2 => False
  | n + 1, v2 => (if (4 : Int32) ≤ v2 then True else (ok_Parser_signAt ((gI s 80 5) + v2) s ∧ mq_letP (f_Parser_signAt ((gI s 80 5) + v2) s) (fun (x10 : Int32) => (mm_inb v2 4 = true ∧ (if x10 = ((mm_Y 3).getD (ix v2) 0) then (okl_Parser_isWord_2000003_20 s n (v2 + 1)) else True)))))
set_option maxRecDepth 4000 in
theorem tl_Parser_isWord_2000003_20 {len : Nat} {xs : Nat → Int32}  (d : Nat)  (s : mS) {T : Option mm_R} (K : Option Int32 × Int32 → Prop) (hX : ∀ r, K r → r.1 = none → mm_fix (mm_X len xs) mm_Y (mm_call (mm_X len xs) mm_Y (d + 1)) (mm_look mc_Parser_isWord) (54, [some (.ref 80), some (.ref 2000003), some (.int r.2)], [], mT s) = T) (hR : ∀ r, K r → ∀ v, r.1 = some v → some (some (.int v), mT s) = T) : ∀ (n : Nat), ∀ (v2 : Int32), okl_Parser_isWord_2000003_20 s n v2 → K (lp_Parser_isWord_2000003_20 s n v2) → mm_fix (mm_X len xs) mm_Y (mm_call (mm_X len xs) mm_Y (d + 1)) (mm_look mc_Parser_isWord) (20, [some (.ref 80), some (.ref 2000003), some (.int v2)], [], mT s) = T := by
  intro n
  induction n with
  | zero => intro v2; exact fun h => h.elim
  | succ n ih =>
    intro v2
    rw [okl_Parser_isWord_2000003_20, lp_Parser_isWord_2000003_20]
    refine w_go K 3 (c' := (25, [some (.ref 80), some (.ref 2000003), some (.int v2)], [.int 4, .int v2], mT s)) rfl ?_
    refine w_ige K rfl (fun _ => ?_) (fun _ => ?_)
    · refine w_go K 0 (c' := (54, [some (.ref 80), some (.ref 2000003), some (.int v2)], [], mT s)) rfl ?_
      exact fun _ b => hX _ b rfl
    · refine w_go K 5 (c' := (35, [some (.ref 80), some (.ref 2000003), some (.int v2)], [.int ((gI s 80 5) + v2), .ref 80], mT s)) rfl ?_
      refine w_callL K (E := f_Parser_signAt ((gI s 80 5) + v2) s) (g := fun (x10 : Int32) => (some (.int x10), mT s)) rfl (m_Parser_signAt (len := len) (xs := xs) (d + 0) ((gI s 80 5) + v2) s) (fun x10 => ?_)
      refine w_go K 2 (c' := (40, [some (.ref 80), some (.ref 2000003), some (.int v2)], [.int v2, .ref 2000003, .int x10], mT s)) rfl ?_
      refine w_ck K (mm_xc rfl rfl rfl rfl rfl rfl) ?_
      refine w_go K 0 (c' := (43, [some (.ref 80), some (.ref 2000003), some (.int v2)], [.int ((mm_Y 3).getD (ix v2) 0), .int x10], mT s)) rfl ?_
      refine w_ieq K rfl (fun _ => ?_) (fun _ => ?_)
      · refine w_go K 2 (c' := (20, [some (.ref 80), some (.ref 2000003), some (.int (v2 + 1))], [], mT s)) rfl ?_
        exact fun a b => ih (v2 + 1) a b
      · refine w_go K 1 (c' := (47, [some (.ref 80), some (.ref 2000003), some (.int v2)], [.int 0], mT s)) rfl ?_
        exact w_ret K rfl (fun h => hR _ h _ rfl)
def f_Parser_isWord_2000003  (s : mS) : Int32 := (if ((gI s 80 2) - (gI s 80 5)) = 4 then (mq_let (lp_Parser_isWord_2000003_20 s mm_N (0 : Int32)) (fun (x11 : Option Int32 × Int32) => mq_el x11.1 (fun v => v) 1)) else 0)
def ok_Parser_isWord_2000003  (s : mS) : Prop := (if ((gI s 80 2) - (gI s 80 5)) = 4 then (okl_Parser_isWord_2000003_20 s mm_N (0 : Int32) ∧ mq_letP (lp_Parser_isWord_2000003_20 s mm_N (0 : Int32)) (fun (x11 : Option Int32 × Int32) => mq_elP x11.1 True)) else True)
set_option maxRecDepth 4000 in
theorem t_Parser_isWord_2000003 {len : Nat} {xs : Nat → Int32}  (d : Nat)  (s : mS) {T : Option mm_R} (K : Int32 → Prop) (hK : ∀ t, K t → some (some (.int t), mT s) = T) : ok_Parser_isWord_2000003 s → K (f_Parser_isWord_2000003 s) → mm_fix (mm_X len xs) mm_Y (mm_call (mm_X len xs) mm_Y (d + 1)) (mm_look mc_Parser_isWord) (0, [some (.ref 80), some (.ref 2000003), none], [], mT s) = T := by
  unfold ok_Parser_isWord_2000003 f_Parser_isWord_2000003
  refine w_go K 7 (c' := (13, [some (.ref 80), some (.ref 2000003), none], [.int 4, .int ((gI s 80 2) - (gI s 80 5))], mT s)) rfl ?_
  refine w_ieq K rfl (fun _ => ?_) (fun _ => ?_)
  · refine w_go K 2 (c' := (20, [some (.ref 80), some (.ref 2000003), some (.int 0)], [], mT s)) rfl ?_
    refine w_join K (fun (x11 : Option Int32 × Int32) => (x11.1 = none → mm_fix (mm_X len xs) mm_Y (mm_call (mm_X len xs) mm_Y (d + 1)) (mm_look mc_Parser_isWord) (54, [some (.ref 80), some (.ref 2000003), some (.int x11.2)], [], mT s) = T) ∧ (∀ v, x11.1 = some v → some (some (.int v), mT s) = T)) (fun K hJ => tl_Parser_isWord_2000003_20 (len := len) (xs := xs) d s (T := T) K (fun r hr => (hJ r hr).1) (fun r hr => (hJ r hr).2) mm_N (0 : Int32)) (fun x11 h1 h2 => w_el K (fun v hv h => hK _ h) (fun h1 h2 => ?_) h1 h2)
    revert h1 h2
    refine w_go K 1 (c' := (55, [some (.ref 80), some (.ref 2000003), some (.int x11.2)], [.int 1], mT s)) rfl ?_
    exact w_ret K rfl (hK _)
  · refine w_go K 1 (c' := (17, [some (.ref 80), some (.ref 2000003), none], [.int 0], mT s)) rfl ?_
    exact w_ret K rfl (hK _)
theorem m_Parser_isWord_2000003 {len : Nat} {xs : Nat → Int32}  (d : Nat)  (s : mS) : ok_Parser_isWord_2000003 s → mm_call (mm_X len xs) mm_Y (d + 2) 93 [.ref 80, .ref 2000003] (mT s) = some (some (.int (f_Parser_isWord_2000003 s)), mT s) := fun h => t_Parser_isWord_2000003 (len := len) (xs := xs) d s (fun t => (some (some (.int t), mT s) : Option mm_R) = some (some (.int (f_Parser_isWord_2000003 s)), mT s)) (fun _ h => h) h rfl
def lp_Parser_isWord_2000004_20 (s : mS) : Nat → Int32 → Option Int32 × Int32
  | 0, v2 => (none, v2)
  | n + 1, v2 => (if (8 : Int32) ≤ v2 then (none, v2) else (mq_let (f_Parser_signAt ((gI s 80 5) + v2) s) (fun (x10 : Int32) => (if x10 = ((mm_Y 4).getD (ix v2) 0) then (lp_Parser_isWord_2000004_20 s n (v2 + 1)) else (some (0 : Int32), v2)))))
def okl_Parser_isWord_2000004_20 (s : mS) : Nat → Int32 → Prop
  | 0, v2 => False
  | n + 1, v2 => (if (8 : Int32) ≤ v2 then True else (ok_Parser_signAt ((gI s 80 5) + v2) s ∧ mq_letP (f_Parser_signAt ((gI s 80 5) + v2) s) (fun (x10 : Int32) => (mm_inb v2 8 = true ∧ (if x10 = ((mm_Y 4).getD (ix v2) 0) then (okl_Parser_isWord_2000004_20 s n (v2 + 1)) else True)))))
set_option maxRecDepth 4000 in
theorem tl_Parser_isWord_2000004_20 {len : Nat} {xs : Nat → Int32}  (d : Nat)  (s : mS) {T : Option mm_R} (K : Option Int32 × Int32 → Prop) (hX : ∀ r, K r → r.1 = none → mm_fix (mm_X len xs) mm_Y (mm_call (mm_X len xs) mm_Y (d + 1)) (mm_look mc_Parser_isWord) (54, [some (.ref 80), some (.ref 2000004), some (.int r.2)], [], mT s) = T) (hR : ∀ r, K r → ∀ v, r.1 = some v → some (some (.int v), mT s) = T) : ∀ (n : Nat), ∀ (v2 : Int32), okl_Parser_isWord_2000004_20 s n v2 → K (lp_Parser_isWord_2000004_20 s n v2) → mm_fix (mm_X len xs) mm_Y (mm_call (mm_X len xs) mm_Y (d + 1)) (mm_look mc_Parser_isWord) (20, [some (.ref 80), some (.ref 2000004), some (.int v2)], [], mT s) = T := by
  intro n
  induction n with
  | zero => intro v2; exact fun h => h.elim
  | succ n ih =>
    intro v2
    rw [okl_Parser_isWord_2000004_20, lp_Parser_isWord_2000004_20]
    refine w_go K 3 (c' := (25, [some (.ref 80), some (.ref 2000004), some (.int v2)], [.int 8, .int v2], mT s)) rfl ?_
    refine w_ige K rfl (fun _ => ?_) (fun _ => ?_)
    · refine w_go K 0 (c' := (54, [some (.ref 80), some (.ref 2000004), some (.int v2)], [], mT s)) rfl ?_
      exact fun _ b => hX _ b rfl
    · refine w_go K 5 (c' := (35, [some (.ref 80), some (.ref 2000004), some (.int v2)], [.int ((gI s 80 5) + v2), .ref 80], mT s)) rfl ?_
      refine w_callL K (E := f_Parser_signAt ((gI s 80 5) + v2) s) (g := fun (x10 : Int32) => (some (.int x10), mT s)) rfl (m_Parser_signAt (len := len) (xs := xs) (d + 0) ((gI s 80 5) + v2) s) (fun x10 => ?_)
      refine w_go K 2 (c' := (40, [some (.ref 80), some (.ref 2000004), some (.int v2)], [.int v2, .ref 2000004, .int x10], mT s)) rfl ?_
      refine w_ck K (mm_xc rfl rfl rfl rfl rfl rfl) ?_
      refine w_go K 0 (c' := (43, [some (.ref 80), some (.ref 2000004), some (.int v2)], [.int ((mm_Y 4).getD (ix v2) 0), .int x10], mT s)) rfl ?_
      refine w_ieq K rfl (fun _ => ?_) (fun _ => ?_)
      · refine w_go K 2 (c' := (20, [some (.ref 80), some (.ref 2000004), some (.int (v2 + 1))], [], mT s)) rfl ?_
        exact fun a b => ih (v2 + 1) a b
      · refine w_go K 1 (c' := (47, [some (.ref 80), some (.ref 2000004), some (.int v2)], [.int 0], mT s)) rfl ?_
        exact w_ret K rfl (fun h => hR _ h _ rfl)
def f_Parser_isWord_2000004  (s : mS) : Int32 := (if ((gI s 80 2) - (gI s 80 5)) = 8 then (mq_let (lp_Parser_isWord_2000004_20 s mm_N (0 : Int32)) (fun (x11 : Option Int32 × Int32) => mq_el x11.1 (fun v => v) 1)) else 0)
def ok_Parser_isWord_2000004  (s : mS) : Prop := (if ((gI s 80 2) - (gI s 80 5)) = 8 then (okl_Parser_isWord_2000004_20 s mm_N (0 : Int32) ∧ mq_letP (lp_Parser_isWord_2000004_20 s mm_N (0 : Int32)) (fun (x11 : Option Int32 × Int32) => mq_elP x11.1 True)) else True)
set_option maxRecDepth 4000 in
theorem t_Parser_isWord_2000004 {len : Nat} {xs : Nat → Int32}  (d : Nat)  (s : mS) {T : Option mm_R} (K : Int32 → Prop) (hK : ∀ t, K t → some (some (.int t), mT s) = T) : ok_Parser_isWord_2000004 s → K (f_Parser_isWord_2000004 s) → mm_fix (mm_X len xs) mm_Y (mm_call (mm_X len xs) mm_Y (d + 1)) (mm_look mc_Parser_isWord) (0, [some (.ref 80), some (.ref 2000004), none], [], mT s) = T := by
  unfold ok_Parser_isWord_2000004 f_Parser_isWord_2000004
  refine w_go K 7 (c' := (13, [some (.ref 80), some (.ref 2000004), none], [.int 8, .int ((gI s 80 2) - (gI s 80 5))], mT s)) rfl ?_
  refine w_ieq K rfl (fun _ => ?_) (fun _ => ?_)
  · refine w_go K 2 (c' := (20, [some (.ref 80), some (.ref 2000004), some (.int 0)], [], mT s)) rfl ?_
    refine w_join K (fun (x11 : Option Int32 × Int32) => (x11.1 = none → mm_fix (mm_X len xs) mm_Y (mm_call (mm_X len xs) mm_Y (d + 1)) (mm_look mc_Parser_isWord) (54, [some (.ref 80), some (.ref 2000004), some (.int x11.2)], [], mT s) = T) ∧ (∀ v, x11.1 = some v → some (some (.int v), mT s) = T)) (fun K hJ => tl_Parser_isWord_2000004_20 (len := len) (xs := xs) d s (T := T) K (fun r hr => (hJ r hr).1) (fun r hr => (hJ r hr).2) mm_N (0 : Int32)) (fun x11 h1 h2 => w_el K (fun v hv h => hK _ h) (fun h1 h2 => ?_) h1 h2)
    revert h1 h2
    refine w_go K 1 (c' := (55, [some (.ref 80), some (.ref 2000004), some (.int x11.2)], [.int 1], mT s)) rfl ?_
    exact w_ret K rfl (hK _)
  · refine w_go K 1 (c' := (17, [some (.ref 80), some (.ref 2000004), none], [.int 0], mT s)) rfl ?_
    exact w_ret K rfl (hK _)
theorem m_Parser_isWord_2000004 {len : Nat} {xs : Nat → Int32}  (d : Nat)  (s : mS) : ok_Parser_isWord_2000004 s → mm_call (mm_X len xs) mm_Y (d + 2) 93 [.ref 80, .ref 2000004] (mT s) = some (some (.int (f_Parser_isWord_2000004 s)), mT s) := fun h => t_Parser_isWord_2000004 (len := len) (xs := xs) d s (fun t => (some (some (.int t), mT s) : Option mm_R) = some (some (.int (f_Parser_isWord_2000004 s)), mT s)) (fun _ h => h) h rfl
def lp_Parser_isWord_2000005_20 (s : mS) : Nat → Int32 → Option Int32 × Int32
  | 0, v2 => (none, v2)
  | n + 1, v2 => (if (4 : Int32) ≤ v2 then (none, v2) else (mq_let (f_Parser_signAt ((gI s 80 5) + v2) s) (fun (x10 : Int32) => (if x10 = ((mm_Y 5).getD (ix v2) 0) then (lp_Parser_isWord_2000005_20 s n (v2 + 1)) else (some (0 : Int32), v2)))))
def okl_Parser_isWord_2000005_20 (s : mS) : Nat → Int32 → Prop
  | 0, v2 => False
  | n + 1, v2 => (if (4 : Int32) ≤ v2 then True else (ok_Parser_signAt ((gI s 80 5) + v2) s ∧ mq_letP (f_Parser_signAt ((gI s 80 5) + v2) s) (fun (x10 : Int32) => (mm_inb v2 4 = true ∧ (if x10 = ((mm_Y 5).getD (ix v2) 0) then (okl_Parser_isWord_2000005_20 s n (v2 + 1)) else True)))))
set_option maxRecDepth 4000 in
theorem tl_Parser_isWord_2000005_20 {len : Nat} {xs : Nat → Int32}  (d : Nat)  (s : mS) {T : Option mm_R} (K : Option Int32 × Int32 → Prop) (hX : ∀ r, K r → r.1 = none → mm_fix (mm_X len xs) mm_Y (mm_call (mm_X len xs) mm_Y (d + 1)) (mm_look mc_Parser_isWord) (54, [some (.ref 80), some (.ref 2000005), some (.int r.2)], [], mT s) = T) (hR : ∀ r, K r → ∀ v, r.1 = some v → some (some (.int v), mT s) = T) : ∀ (n : Nat), ∀ (v2 : Int32), okl_Parser_isWord_2000005_20 s n v2 → K (lp_Parser_isWord_2000005_20 s n v2) → mm_fix (mm_X len xs) mm_Y (mm_call (mm_X len xs) mm_Y (d + 1)) (mm_look mc_Parser_isWord) (20, [some (.ref 80), some (.ref 2000005), some (.int v2)], [], mT s) = T := by
  intro n
  induction n with
  | zero => intro v2; exact fun h => h.elim
  | succ n ih =>
    intro v2
    rw [okl_Parser_isWord_2000005_20, lp_Parser_isWord_2000005_20]
    refine w_go K 3 (c' := (25, [some (.ref 80), some (.ref 2000005), some (.int v2)], [.int 4, .int v2], mT s)) rfl ?_
    refine w_ige K rfl (fun _ => ?_) (fun _ => ?_)
    · refine w_go K 0 (c' := (54, [some (.ref 80), some (.ref 2000005), some (.int v2)], [], mT s)) rfl ?_
      exact fun _ b => hX _ b rfl
    · refine w_go K 5 (c' := (35, [some (.ref 80), some (.ref 2000005), some (.int v2)], [.int ((gI s 80 5) + v2), .ref 80], mT s)) rfl ?_
      refine w_callL K (E := f_Parser_signAt ((gI s 80 5) + v2) s) (g := fun (x10 : Int32) => (some (.int x10), mT s)) rfl (m_Parser_signAt (len := len) (xs := xs) (d + 0) ((gI s 80 5) + v2) s) (fun x10 => ?_)
      refine w_go K 2 (c' := (40, [some (.ref 80), some (.ref 2000005), some (.int v2)], [.int v2, .ref 2000005, .int x10], mT s)) rfl ?_
      refine w_ck K (mm_xc rfl rfl rfl rfl rfl rfl) ?_
      refine w_go K 0 (c' := (43, [some (.ref 80), some (.ref 2000005), some (.int v2)], [.int ((mm_Y 5).getD (ix v2) 0), .int x10], mT s)) rfl ?_
      refine w_ieq K rfl (fun _ => ?_) (fun _ => ?_)
      · refine w_go K 2 (c' := (20, [some (.ref 80), some (.ref 2000005), some (.int (v2 + 1))], [], mT s)) rfl ?_
        exact fun a b => ih (v2 + 1) a b
      · refine w_go K 1 (c' := (47, [some (.ref 80), some (.ref 2000005), some (.int v2)], [.int 0], mT s)) rfl ?_
        exact w_ret K rfl (fun h => hR _ h _ rfl)
def f_Parser_isWord_2000005  (s : mS) : Int32 := (if ((gI s 80 2) - (gI s 80 5)) = 4 then (mq_let (lp_Parser_isWord_2000005_20 s mm_N (0 : Int32)) (fun (x11 : Option Int32 × Int32) => mq_el x11.1 (fun v => v) 1)) else 0)
def ok_Parser_isWord_2000005  (s : mS) : Prop := (if ((gI s 80 2) - (gI s 80 5)) = 4 then (okl_Parser_isWord_2000005_20 s mm_N (0 : Int32) ∧ mq_letP (lp_Parser_isWord_2000005_20 s mm_N (0 : Int32)) (fun (x11 : Option Int32 × Int32) => mq_elP x11.1 True)) else True)
set_option maxRecDepth 4000 in
theorem t_Parser_isWord_2000005 {len : Nat} {xs : Nat → Int32}  (d : Nat)  (s : mS) {T : Option mm_R} (K : Int32 → Prop) (hK : ∀ t, K t → some (some (.int t), mT s) = T) : ok_Parser_isWord_2000005 s → K (f_Parser_isWord_2000005 s) → mm_fix (mm_X len xs) mm_Y (mm_call (mm_X len xs) mm_Y (d + 1)) (mm_look mc_Parser_isWord) (0, [some (.ref 80), some (.ref 2000005), none], [], mT s) = T := by
  unfold ok_Parser_isWord_2000005 f_Parser_isWord_2000005
  refine w_go K 7 (c' := (13, [some (.ref 80), some (.ref 2000005), none], [.int 4, .int ((gI s 80 2) - (gI s 80 5))], mT s)) rfl ?_
  refine w_ieq K rfl (fun _ => ?_) (fun _ => ?_)
  · refine w_go K 2 (c' := (20, [some (.ref 80), some (.ref 2000005), some (.int 0)], [], mT s)) rfl ?_
    refine w_join K (fun (x11 : Option Int32 × Int32) => (x11.1 = none → mm_fix (mm_X len xs) mm_Y (mm_call (mm_X len xs) mm_Y (d + 1)) (mm_look mc_Parser_isWord) (54, [some (.ref 80), some (.ref 2000005), some (.int x11.2)], [], mT s) = T) ∧ (∀ v, x11.1 = some v → some (some (.int v), mT s) = T)) (fun K hJ => tl_Parser_isWord_2000005_20 (len := len) (xs := xs) d s (T := T) K (fun r hr => (hJ r hr).1) (fun r hr => (hJ r hr).2) mm_N (0 : Int32)) (fun x11 h1 h2 => w_el K (fun v hv h => hK _ h) (fun h1 h2 => ?_) h1 h2)
    revert h1 h2
    refine w_go K 1 (c' := (55, [some (.ref 80), some (.ref 2000005), some (.int x11.2)], [.int 1], mT s)) rfl ?_
    exact w_ret K rfl (hK _)
  · refine w_go K 1 (c' := (17, [some (.ref 80), some (.ref 2000005), none], [.int 0], mT s)) rfl ?_
    exact w_ret K rfl (hK _)
theorem m_Parser_isWord_2000005 {len : Nat} {xs : Nat → Int32}  (d : Nat)  (s : mS) : ok_Parser_isWord_2000005 s → mm_call (mm_X len xs) mm_Y (d + 2) 93 [.ref 80, .ref 2000005] (mT s) = some (some (.int (f_Parser_isWord_2000005 s)), mT s) := fun h => t_Parser_isWord_2000005 (len := len) (xs := xs) d s (fun t => (some (some (.int t), mT s) : Option mm_R) = some (some (.int (f_Parser_isWord_2000005 s)), mT s)) (fun _ h => h) h rfl
def lp_Parser_isWord_2000006_20 (s : mS) : Nat → Int32 → Option Int32 × Int32
  | 0, v2 => (none, v2)
  | n + 1, v2 => (if (3 : Int32) ≤ v2 then (none, v2) else (mq_let (f_Parser_signAt ((gI s 80 5) + v2) s) (fun (x10 : Int32) => (if x10 = ((mm_Y 6).getD (ix v2) 0) then (lp_Parser_isWord_2000006_20 s n (v2 + 1)) else (some (0 : Int32), v2)))))
def okl_Parser_isWord_2000006_20 (s : mS) : Nat → Int32 → Prop
  | 0, v2 => False
  | n + 1, v2 => (if (3 : Int32) ≤ v2 then True else (ok_Parser_signAt ((gI s 80 5) + v2) s ∧ mq_letP (f_Parser_signAt ((gI s 80 5) + v2) s) (fun (x10 : Int32) => (mm_inb v2 3 = true ∧ (if x10 = ((mm_Y 6).getD (ix v2) 0) then (okl_Parser_isWord_2000006_20 s n (v2 + 1)) else True)))))
set_option maxRecDepth 4000 in
theorem tl_Parser_isWord_2000006_20 {len : Nat} {xs : Nat → Int32}  (d : Nat)  (s : mS) {T : Option mm_R} (K : Option Int32 × Int32 → Prop) (hX : ∀ r, K r → r.1 = none → mm_fix (mm_X len xs) mm_Y (mm_call (mm_X len xs) mm_Y (d + 1)) (mm_look mc_Parser_isWord) (54, [some (.ref 80), some (.ref 2000006), some (.int r.2)], [], mT s) = T) (hR : ∀ r, K r → ∀ v, r.1 = some v → some (some (.int v), mT s) = T) : ∀ (n : Nat), ∀ (v2 : Int32), okl_Parser_isWord_2000006_20 s n v2 → K (lp_Parser_isWord_2000006_20 s n v2) → mm_fix (mm_X len xs) mm_Y (mm_call (mm_X len xs) mm_Y (d + 1)) (mm_look mc_Parser_isWord) (20, [some (.ref 80), some (.ref 2000006), some (.int v2)], [], mT s) = T := by
  intro n
  induction n with
  | zero => intro v2; exact fun h => h.elim
  | succ n ih =>
    intro v2
    rw [okl_Parser_isWord_2000006_20, lp_Parser_isWord_2000006_20]
    refine w_go K 3 (c' := (25, [some (.ref 80), some (.ref 2000006), some (.int v2)], [.int 3, .int v2], mT s)) rfl ?_
    refine w_ige K rfl (fun _ => ?_) (fun _ => ?_)
    · refine w_go K 0 (c' := (54, [some (.ref 80), some (.ref 2000006), some (.int v2)], [], mT s)) rfl ?_
      exact fun _ b => hX _ b rfl
    · refine w_go K 5 (c' := (35, [some (.ref 80), some (.ref 2000006), some (.int v2)], [.int ((gI s 80 5) + v2), .ref 80], mT s)) rfl ?_
      refine w_callL K (E := f_Parser_signAt ((gI s 80 5) + v2) s) (g := fun (x10 : Int32) => (some (.int x10), mT s)) rfl (m_Parser_signAt (len := len) (xs := xs) (d + 0) ((gI s 80 5) + v2) s) (fun x10 => ?_)
      refine w_go K 2 (c' := (40, [some (.ref 80), some (.ref 2000006), some (.int v2)], [.int v2, .ref 2000006, .int x10], mT s)) rfl ?_
      refine w_ck K (mm_xc rfl rfl rfl rfl rfl rfl) ?_
      refine w_go K 0 (c' := (43, [some (.ref 80), some (.ref 2000006), some (.int v2)], [.int ((mm_Y 6).getD (ix v2) 0), .int x10], mT s)) rfl ?_
      refine w_ieq K rfl (fun _ => ?_) (fun _ => ?_)
      · refine w_go K 2 (c' := (20, [some (.ref 80), some (.ref 2000006), some (.int (v2 + 1))], [], mT s)) rfl ?_
        exact fun a b => ih (v2 + 1) a b
      · refine w_go K 1 (c' := (47, [some (.ref 80), some (.ref 2000006), some (.int v2)], [.int 0], mT s)) rfl ?_
        exact w_ret K rfl (fun h => hR _ h _ rfl)
def f_Parser_isWord_2000006  (s : mS) : Int32 := (if ((gI s 80 2) - (gI s 80 5)) = 3 then (mq_let (lp_Parser_isWord_2000006_20 s mm_N (0 : Int32)) (fun (x11 : Option Int32 × Int32) => mq_el x11.1 (fun v => v) 1)) else 0)
def ok_Parser_isWord_2000006  (s : mS) : Prop := (if ((gI s 80 2) - (gI s 80 5)) = 3 then (okl_Parser_isWord_2000006_20 s mm_N (0 : Int32) ∧ mq_letP (lp_Parser_isWord_2000006_20 s mm_N (0 : Int32)) (fun (x11 : Option Int32 × Int32) => mq_elP x11.1 True)) else True)
set_option maxRecDepth 4000 in
theorem t_Parser_isWord_2000006 {len : Nat} {xs : Nat → Int32}  (d : Nat)  (s : mS) {T : Option mm_R} (K : Int32 → Prop) (hK : ∀ t, K t → some (some (.int t), mT s) = T) : ok_Parser_isWord_2000006 s → K (f_Parser_isWord_2000006 s) → mm_fix (mm_X len xs) mm_Y (mm_call (mm_X len xs) mm_Y (d + 1)) (mm_look mc_Parser_isWord) (0, [some (.ref 80), some (.ref 2000006), none], [], mT s) = T := by
  unfold ok_Parser_isWord_2000006 f_Parser_isWord_2000006
  refine w_go K 7 (c' := (13, [some (.ref 80), some (.ref 2000006), none], [.int 3, .int ((gI s 80 2) - (gI s 80 5))], mT s)) rfl ?_
  refine w_ieq K rfl (fun _ => ?_) (fun _ => ?_)
  · refine w_go K 2 (c' := (20, [some (.ref 80), some (.ref 2000006), some (.int 0)], [], mT s)) rfl ?_
    refine w_join K (fun (x11 : Option Int32 × Int32) => (x11.1 = none → mm_fix (mm_X len xs) mm_Y (mm_call (mm_X len xs) mm_Y (d + 1)) (mm_look mc_Parser_isWord) (54, [some (.ref 80), some (.ref 2000006), some (.int x11.2)], [], mT s) = T) ∧ (∀ v, x11.1 = some v → some (some (.int v), mT s) = T)) (fun K hJ => tl_Parser_isWord_2000006_20 (len := len) (xs := xs) d s (T := T) K (fun r hr => (hJ r hr).1) (fun r hr => (hJ r hr).2) mm_N (0 : Int32)) (fun x11 h1 h2 => w_el K (fun v hv h => hK _ h) (fun h1 h2 => ?_) h1 h2)
    revert h1 h2
    refine w_go K 1 (c' := (55, [some (.ref 80), some (.ref 2000006), some (.int x11.2)], [.int 1], mT s)) rfl ?_
    exact w_ret K rfl (hK _)
  · refine w_go K 1 (c' := (17, [some (.ref 80), some (.ref 2000006), none], [.int 0], mT s)) rfl ?_
    exact w_ret K rfl (hK _)
theorem m_Parser_isWord_2000006 {len : Nat} {xs : Nat → Int32}  (d : Nat)  (s : mS) : ok_Parser_isWord_2000006 s → mm_call (mm_X len xs) mm_Y (d + 2) 93 [.ref 80, .ref 2000006] (mT s) = some (some (.int (f_Parser_isWord_2000006 s)), mT s) := fun h => t_Parser_isWord_2000006 (len := len) (xs := xs) d s (fun t => (some (some (.int t), mT s) : Option mm_R) = some (some (.int (f_Parser_isWord_2000006 s)), mT s)) (fun _ h => h) h rfl
def lp_Parser_isWord_2000007_20 (s : mS) : Nat → Int32 → Option Int32 × Int32
  | 0, v2 => (none, v2)
  | n + 1, v2 => (if (3 : Int32) ≤ v2 then (none, v2) else (mq_let (f_Parser_signAt ((gI s 80 5) + v2) s) (fun (x10 : Int32) => (if x10 = ((mm_Y 7).getD (ix v2) 0) then (lp_Parser_isWord_2000007_20 s n (v2 + 1)) else (some (0 : Int32), v2)))))
def okl_Parser_isWord_2000007_20 (s : mS) : Nat → Int32 → Prop
  | 0, v2 => False
  | n + 1, v2 => (if (3 : Int32) ≤ v2 then True else (ok_Parser_signAt ((gI s 80 5) + v2) s ∧ mq_letP (f_Parser_signAt ((gI s 80 5) + v2) s) (fun (x10 : Int32) => (mm_inb v2 3 = true ∧ (if x10 = ((mm_Y 7).getD (ix v2) 0) then (okl_Parser_isWord_2000007_20 s n (v2 + 1)) else True)))))
set_option maxRecDepth 4000 in
theorem tl_Parser_isWord_2000007_20 {len : Nat} {xs : Nat → Int32}  (d : Nat)  (s : mS) {T : Option mm_R} (K : Option Int32 × Int32 → Prop) (hX : ∀ r, K r → r.1 = none → mm_fix (mm_X len xs) mm_Y (mm_call (mm_X len xs) mm_Y (d + 1)) (mm_look mc_Parser_isWord) (54, [some (.ref 80), some (.ref 2000007), some (.int r.2)], [], mT s) = T) (hR : ∀ r, K r → ∀ v, r.1 = some v → some (some (.int v), mT s) = T) : ∀ (n : Nat), ∀ (v2 : Int32), okl_Parser_isWord_2000007_20 s n v2 → K (lp_Parser_isWord_2000007_20 s n v2) → mm_fix (mm_X len xs) mm_Y (mm_call (mm_X len xs) mm_Y (d + 1)) (mm_look mc_Parser_isWord) (20, [some (.ref 80), some (.ref 2000007), some (.int v2)], [], mT s) = T := by
  intro n
  induction n with
  | zero => intro v2; exact fun h => h.elim
  | succ n ih =>
    intro v2
    rw [okl_Parser_isWord_2000007_20, lp_Parser_isWord_2000007_20]
    refine w_go K 3 (c' := (25, [some (.ref 80), some (.ref 2000007), some (.int v2)], [.int 3, .int v2], mT s)) rfl ?_
    refine w_ige K rfl (fun _ => ?_) (fun _ => ?_)
    · refine w_go K 0 (c' := (54, [some (.ref 80), some (.ref 2000007), some (.int v2)], [], mT s)) rfl ?_
      exact fun _ b => hX _ b rfl
    · refine w_go K 5 (c' := (35, [some (.ref 80), some (.ref 2000007), some (.int v2)], [.int ((gI s 80 5) + v2), .ref 80], mT s)) rfl ?_
      refine w_callL K (E := f_Parser_signAt ((gI s 80 5) + v2) s) (g := fun (x10 : Int32) => (some (.int x10), mT s)) rfl (m_Parser_signAt (len := len) (xs := xs) (d + 0) ((gI s 80 5) + v2) s) (fun x10 => ?_)
      refine w_go K 2 (c' := (40, [some (.ref 80), some (.ref 2000007), some (.int v2)], [.int v2, .ref 2000007, .int x10], mT s)) rfl ?_
      refine w_ck K (mm_xc rfl rfl rfl rfl rfl rfl) ?_
      refine w_go K 0 (c' := (43, [some (.ref 80), some (.ref 2000007), some (.int v2)], [.int ((mm_Y 7).getD (ix v2) 0), .int x10], mT s)) rfl ?_
      refine w_ieq K rfl (fun _ => ?_) (fun _ => ?_)
      · refine w_go K 2 (c' := (20, [some (.ref 80), some (.ref 2000007), some (.int (v2 + 1))], [], mT s)) rfl ?_
        exact fun a b => ih (v2 + 1) a b
      · refine w_go K 1 (c' := (47, [some (.ref 80), some (.ref 2000007), some (.int v2)], [.int 0], mT s)) rfl ?_
        exact w_ret K rfl (fun h => hR _ h _ rfl)
def f_Parser_isWord_2000007  (s : mS) : Int32 := (if ((gI s 80 2) - (gI s 80 5)) = 3 then (mq_let (lp_Parser_isWord_2000007_20 s mm_N (0 : Int32)) (fun (x11 : Option Int32 × Int32) => mq_el x11.1 (fun v => v) 1)) else 0)
def ok_Parser_isWord_2000007  (s : mS) : Prop := (if ((gI s 80 2) - (gI s 80 5)) = 3 then (okl_Parser_isWord_2000007_20 s mm_N (0 : Int32) ∧ mq_letP (lp_Parser_isWord_2000007_20 s mm_N (0 : Int32)) (fun (x11 : Option Int32 × Int32) => mq_elP x11.1 True)) else True)
set_option maxRecDepth 4000 in
theorem t_Parser_isWord_2000007 {len : Nat} {xs : Nat → Int32}  (d : Nat)  (s : mS) {T : Option mm_R} (K : Int32 → Prop) (hK : ∀ t, K t → some (some (.int t), mT s) = T) : ok_Parser_isWord_2000007 s → K (f_Parser_isWord_2000007 s) → mm_fix (mm_X len xs) mm_Y (mm_call (mm_X len xs) mm_Y (d + 1)) (mm_look mc_Parser_isWord) (0, [some (.ref 80), some (.ref 2000007), none], [], mT s) = T := by
  unfold ok_Parser_isWord_2000007 f_Parser_isWord_2000007
  refine w_go K 7 (c' := (13, [some (.ref 80), some (.ref 2000007), none], [.int 3, .int ((gI s 80 2) - (gI s 80 5))], mT s)) rfl ?_
  refine w_ieq K rfl (fun _ => ?_) (fun _ => ?_)
  · refine w_go K 2 (c' := (20, [some (.ref 80), some (.ref 2000007), some (.int 0)], [], mT s)) rfl ?_
    refine w_join K (fun (x11 : Option Int32 × Int32) => (x11.1 = none → mm_fix (mm_X len xs) mm_Y (mm_call (mm_X len xs) mm_Y (d + 1)) (mm_look mc_Parser_isWord) (54, [some (.ref 80), some (.ref 2000007), some (.int x11.2)], [], mT s) = T) ∧ (∀ v, x11.1 = some v → some (some (.int v), mT s) = T)) (fun K hJ => tl_Parser_isWord_2000007_20 (len := len) (xs := xs) d s (T := T) K (fun r hr => (hJ r hr).1) (fun r hr => (hJ r hr).2) mm_N (0 : Int32)) (fun x11 h1 h2 => w_el K (fun v hv h => hK _ h) (fun h1 h2 => ?_) h1 h2)
    revert h1 h2
    refine w_go K 1 (c' := (55, [some (.ref 80), some (.ref 2000007), some (.int x11.2)], [.int 1], mT s)) rfl ?_
    exact w_ret K rfl (hK _)
  · refine w_go K 1 (c' := (17, [some (.ref 80), some (.ref 2000007), none], [.int 0], mT s)) rfl ?_
    exact w_ret K rfl (hK _)
theorem m_Parser_isWord_2000007 {len : Nat} {xs : Nat → Int32}  (d : Nat)  (s : mS) : ok_Parser_isWord_2000007 s → mm_call (mm_X len xs) mm_Y (d + 2) 93 [.ref 80, .ref 2000007] (mT s) = some (some (.int (f_Parser_isWord_2000007 s)), mT s) := fun h => t_Parser_isWord_2000007 (len := len) (xs := xs) d s (fun t => (some (some (.int t), mT s) : Option mm_R) = some (some (.int (f_Parser_isWord_2000007 s)), mT s)) (fun _ h => h) h rfl
def lp_Parser_isWord_2000008_20 (s : mS) : Nat → Int32 → Option Int32 × Int32
  | 0, v2 => (none, v2)
  | n + 1, v2 => (if (5 : Int32) ≤ v2 then (none, v2) else (mq_let (f_Parser_signAt ((gI s 80 5) + v2) s) (fun (x10 : Int32) => (if x10 = ((mm_Y 8).getD (ix v2) 0) then (lp_Parser_isWord_2000008_20 s n (v2 + 1)) else (some (0 : Int32), v2)))))
def okl_Parser_isWord_2000008_20 (s : mS) : Nat → Int32 → Prop
  | 0, v2 => False
  | n + 1, v2 => (if (5 : Int32) ≤ v2 then True else (ok_Parser_signAt ((gI s 80 5) + v2) s ∧ mq_letP (f_Parser_signAt ((gI s 80 5) + v2) s) (fun (x10 : Int32) => (mm_inb v2 5 = true ∧ (if x10 = ((mm_Y 8).getD (ix v2) 0) then (okl_Parser_isWord_2000008_20 s n (v2 + 1)) else True)))))
set_option maxRecDepth 4000 in
theorem tl_Parser_isWord_2000008_20 {len : Nat} {xs : Nat → Int32}  (d : Nat)  (s : mS) {T : Option mm_R} (K : Option Int32 × Int32 → Prop) (hX : ∀ r, K r → r.1 = none → mm_fix (mm_X len xs) mm_Y (mm_call (mm_X len xs) mm_Y (d + 1)) (mm_look mc_Parser_isWord) (54, [some (.ref 80), some (.ref 2000008), some (.int r.2)], [], mT s) = T) (hR : ∀ r, K r → ∀ v, r.1 = some v → some (some (.int v), mT s) = T) : ∀ (n : Nat), ∀ (v2 : Int32), okl_Parser_isWord_2000008_20 s n v2 → K (lp_Parser_isWord_2000008_20 s n v2) → mm_fix (mm_X len xs) mm_Y (mm_call (mm_X len xs) mm_Y (d + 1)) (mm_look mc_Parser_isWord) (20, [some (.ref 80), some (.ref 2000008), some (.int v2)], [], mT s) = T := by
  intro n
  induction n with
  | zero => intro v2; exact fun h => h.elim
  | succ n ih =>
    intro v2
    rw [okl_Parser_isWord_2000008_20, lp_Parser_isWord_2000008_20]
    refine w_go K 3 (c' := (25, [some (.ref 80), some (.ref 2000008), some (.int v2)], [.int 5, .int v2], mT s)) rfl ?_
    refine w_ige K rfl (fun _ => ?_) (fun _ => ?_)
    · refine w_go K 0 (c' := (54, [some (.ref 80), some (.ref 2000008), some (.int v2)], [], mT s)) rfl ?_
      exact fun _ b => hX _ b rfl
    · refine w_go K 5 (c' := (35, [some (.ref 80), some (.ref 2000008), some (.int v2)], [.int ((gI s 80 5) + v2), .ref 80], mT s)) rfl ?_
      refine w_callL K (E := f_Parser_signAt ((gI s 80 5) + v2) s) (g := fun (x10 : Int32) => (some (.int x10), mT s)) rfl (m_Parser_signAt (len := len) (xs := xs) (d + 0) ((gI s 80 5) + v2) s) (fun x10 => ?_)
      refine w_go K 2 (c' := (40, [some (.ref 80), some (.ref 2000008), some (.int v2)], [.int v2, .ref 2000008, .int x10], mT s)) rfl ?_
      refine w_ck K (mm_xc rfl rfl rfl rfl rfl rfl) ?_
      refine w_go K 0 (c' := (43, [some (.ref 80), some (.ref 2000008), some (.int v2)], [.int ((mm_Y 8).getD (ix v2) 0), .int x10], mT s)) rfl ?_
      refine w_ieq K rfl (fun _ => ?_) (fun _ => ?_)
      · refine w_go K 2 (c' := (20, [some (.ref 80), some (.ref 2000008), some (.int (v2 + 1))], [], mT s)) rfl ?_
        exact fun a b => ih (v2 + 1) a b
      · refine w_go K 1 (c' := (47, [some (.ref 80), some (.ref 2000008), some (.int v2)], [.int 0], mT s)) rfl ?_
        exact w_ret K rfl (fun h => hR _ h _ rfl)
def f_Parser_isWord_2000008  (s : mS) : Int32 := (if ((gI s 80 2) - (gI s 80 5)) = 5 then (mq_let (lp_Parser_isWord_2000008_20 s mm_N (0 : Int32)) (fun (x11 : Option Int32 × Int32) => mq_el x11.1 (fun v => v) 1)) else 0)
def ok_Parser_isWord_2000008  (s : mS) : Prop := (if ((gI s 80 2) - (gI s 80 5)) = 5 then (okl_Parser_isWord_2000008_20 s mm_N (0 : Int32) ∧ mq_letP (lp_Parser_isWord_2000008_20 s mm_N (0 : Int32)) (fun (x11 : Option Int32 × Int32) => mq_elP x11.1 True)) else True)
set_option maxRecDepth 4000 in
theorem t_Parser_isWord_2000008 {len : Nat} {xs : Nat → Int32}  (d : Nat)  (s : mS) {T : Option mm_R} (K : Int32 → Prop) (hK : ∀ t, K t → some (some (.int t), mT s) = T) : ok_Parser_isWord_2000008 s → K (f_Parser_isWord_2000008 s) → mm_fix (mm_X len xs) mm_Y (mm_call (mm_X len xs) mm_Y (d + 1)) (mm_look mc_Parser_isWord) (0, [some (.ref 80), some (.ref 2000008), none], [], mT s) = T := by
  unfold ok_Parser_isWord_2000008 f_Parser_isWord_2000008
  refine w_go K 7 (c' := (13, [some (.ref 80), some (.ref 2000008), none], [.int 5, .int ((gI s 80 2) - (gI s 80 5))], mT s)) rfl ?_
  refine w_ieq K rfl (fun _ => ?_) (fun _ => ?_)
  · refine w_go K 2 (c' := (20, [some (.ref 80), some (.ref 2000008), some (.int 0)], [], mT s)) rfl ?_
    refine w_join K (fun (x11 : Option Int32 × Int32) => (x11.1 = none → mm_fix (mm_X len xs) mm_Y (mm_call (mm_X len xs) mm_Y (d + 1)) (mm_look mc_Parser_isWord) (54, [some (.ref 80), some (.ref 2000008), some (.int x11.2)], [], mT s) = T) ∧ (∀ v, x11.1 = some v → some (some (.int v), mT s) = T)) (fun K hJ => tl_Parser_isWord_2000008_20 (len := len) (xs := xs) d s (T := T) K (fun r hr => (hJ r hr).1) (fun r hr => (hJ r hr).2) mm_N (0 : Int32)) (fun x11 h1 h2 => w_el K (fun v hv h => hK _ h) (fun h1 h2 => ?_) h1 h2)
    revert h1 h2
    refine w_go K 1 (c' := (55, [some (.ref 80), some (.ref 2000008), some (.int x11.2)], [.int 1], mT s)) rfl ?_
    exact w_ret K rfl (hK _)
  · refine w_go K 1 (c' := (17, [some (.ref 80), some (.ref 2000008), none], [.int 0], mT s)) rfl ?_
    exact w_ret K rfl (hK _)
theorem m_Parser_isWord_2000008 {len : Nat} {xs : Nat → Int32}  (d : Nat)  (s : mS) : ok_Parser_isWord_2000008 s → mm_call (mm_X len xs) mm_Y (d + 2) 93 [.ref 80, .ref 2000008] (mT s) = some (some (.int (f_Parser_isWord_2000008 s)), mT s) := fun h => t_Parser_isWord_2000008 (len := len) (xs := xs) d s (fun t => (some (some (.int t), mT s) : Option mm_R) = some (some (.int (f_Parser_isWord_2000008 s)), mT s)) (fun _ h => h) h rfl
def lp_Parser_isWord_2000009_20 (s : mS) : Nat → Int32 → Option Int32 × Int32
  | 0, v2 => (none, v2)
  | n + 1, v2 => (if (4 : Int32) ≤ v2 then (none, v2) else (mq_let (f_Parser_signAt ((gI s 80 5) + v2) s) (fun (x10 : Int32) => (if x10 = ((mm_Y 9).getD (ix v2) 0) then (lp_Parser_isWord_2000009_20 s n (v2 + 1)) else (some (0 : Int32), v2)))))
def okl_Parser_isWord_2000009_20 (s : mS) : Nat → Int32 → Prop
  | 0, v2 => False
  | n + 1, v2 => (if (4 : Int32) ≤ v2 then True else (ok_Parser_signAt ((gI s 80 5) + v2) s ∧ mq_letP (f_Parser_signAt ((gI s 80 5) + v2) s) (fun (x10 : Int32) => (mm_inb v2 4 = true ∧ (if x10 = ((mm_Y 9).getD (ix v2) 0) then (okl_Parser_isWord_2000009_20 s n (v2 + 1)) else True)))))
set_option maxRecDepth 4000 in
theorem tl_Parser_isWord_2000009_20 {len : Nat} {xs : Nat → Int32}  (d : Nat)  (s : mS) {T : Option mm_R} (K : Option Int32 × Int32 → Prop) (hX : ∀ r, K r → r.1 = none → mm_fix (mm_X len xs) mm_Y (mm_call (mm_X len xs) mm_Y (d + 1)) (mm_look mc_Parser_isWord) (54, [some (.ref 80), some (.ref 2000009), some (.int r.2)], [], mT s) = T) (hR : ∀ r, K r → ∀ v, r.1 = some v → some (some (.int v), mT s) = T) : ∀ (n : Nat), ∀ (v2 : Int32), okl_Parser_isWord_2000009_20 s n v2 → K (lp_Parser_isWord_2000009_20 s n v2) → mm_fix (mm_X len xs) mm_Y (mm_call (mm_X len xs) mm_Y (d + 1)) (mm_look mc_Parser_isWord) (20, [some (.ref 80), some (.ref 2000009), some (.int v2)], [], mT s) = T := by
  intro n
  induction n with
  | zero => intro v2; exact fun h => h.elim
  | succ n ih =>
    intro v2
    rw [okl_Parser_isWord_2000009_20, lp_Parser_isWord_2000009_20]
    refine w_go K 3 (c' := (25, [some (.ref 80), some (.ref 2000009), some (.int v2)], [.int 4, .int v2], mT s)) rfl ?_
    refine w_ige K rfl (fun _ => ?_) (fun _ => ?_)
    · refine w_go K 0 (c' := (54, [some (.ref 80), some (.ref 2000009), some (.int v2)], [], mT s)) rfl ?_
      exact fun _ b => hX _ b rfl
    · refine w_go K 5 (c' := (35, [some (.ref 80), some (.ref 2000009), some (.int v2)], [.int ((gI s 80 5) + v2), .ref 80], mT s)) rfl ?_
      refine w_callL K (E := f_Parser_signAt ((gI s 80 5) + v2) s) (g := fun (x10 : Int32) => (some (.int x10), mT s)) rfl (m_Parser_signAt (len := len) (xs := xs) (d + 0) ((gI s 80 5) + v2) s) (fun x10 => ?_)
      refine w_go K 2 (c' := (40, [some (.ref 80), some (.ref 2000009), some (.int v2)], [.int v2, .ref 2000009, .int x10], mT s)) rfl ?_
      refine w_ck K (mm_xc rfl rfl rfl rfl rfl rfl) ?_
      refine w_go K 0 (c' := (43, [some (.ref 80), some (.ref 2000009), some (.int v2)], [.int ((mm_Y 9).getD (ix v2) 0), .int x10], mT s)) rfl ?_
      refine w_ieq K rfl (fun _ => ?_) (fun _ => ?_)
      · refine w_go K 2 (c' := (20, [some (.ref 80), some (.ref 2000009), some (.int (v2 + 1))], [], mT s)) rfl ?_
        exact fun a b => ih (v2 + 1) a b
      · refine w_go K 1 (c' := (47, [some (.ref 80), some (.ref 2000009), some (.int v2)], [.int 0], mT s)) rfl ?_
        exact w_ret K rfl (fun h => hR _ h _ rfl)
def f_Parser_isWord_2000009  (s : mS) : Int32 := (if ((gI s 80 2) - (gI s 80 5)) = 4 then (mq_let (lp_Parser_isWord_2000009_20 s mm_N (0 : Int32)) (fun (x11 : Option Int32 × Int32) => mq_el x11.1 (fun v => v) 1)) else 0)
def ok_Parser_isWord_2000009  (s : mS) : Prop := (if ((gI s 80 2) - (gI s 80 5)) = 4 then (okl_Parser_isWord_2000009_20 s mm_N (0 : Int32) ∧ mq_letP (lp_Parser_isWord_2000009_20 s mm_N (0 : Int32)) (fun (x11 : Option Int32 × Int32) => mq_elP x11.1 True)) else True)
set_option maxRecDepth 4000 in
theorem t_Parser_isWord_2000009 {len : Nat} {xs : Nat → Int32}  (d : Nat)  (s : mS) {T : Option mm_R} (K : Int32 → Prop) (hK : ∀ t, K t → some (some (.int t), mT s) = T) : ok_Parser_isWord_2000009 s → K (f_Parser_isWord_2000009 s) → mm_fix (mm_X len xs) mm_Y (mm_call (mm_X len xs) mm_Y (d + 1)) (mm_look mc_Parser_isWord) (0, [some (.ref 80), some (.ref 2000009), none], [], mT s) = T := by
  unfold ok_Parser_isWord_2000009 f_Parser_isWord_2000009
  refine w_go K 7 (c' := (13, [some (.ref 80), some (.ref 2000009), none], [.int 4, .int ((gI s 80 2) - (gI s 80 5))], mT s)) rfl ?_
  refine w_ieq K rfl (fun _ => ?_) (fun _ => ?_)
  · refine w_go K 2 (c' := (20, [some (.ref 80), some (.ref 2000009), some (.int 0)], [], mT s)) rfl ?_
    refine w_join K (fun (x11 : Option Int32 × Int32) => (x11.1 = none → mm_fix (mm_X len xs) mm_Y (mm_call (mm_X len xs) mm_Y (d + 1)) (mm_look mc_Parser_isWord) (54, [some (.ref 80), some (.ref 2000009), some (.int x11.2)], [], mT s) = T) ∧ (∀ v, x11.1 = some v → some (some (.int v), mT s) = T)) (fun K hJ => tl_Parser_isWord_2000009_20 (len := len) (xs := xs) d s (T := T) K (fun r hr => (hJ r hr).1) (fun r hr => (hJ r hr).2) mm_N (0 : Int32)) (fun x11 h1 h2 => w_el K (fun v hv h => hK _ h) (fun h1 h2 => ?_) h1 h2)
    revert h1 h2
    refine w_go K 1 (c' := (55, [some (.ref 80), some (.ref 2000009), some (.int x11.2)], [.int 1], mT s)) rfl ?_
    exact w_ret K rfl (hK _)
  · refine w_go K 1 (c' := (17, [some (.ref 80), some (.ref 2000009), none], [.int 0], mT s)) rfl ?_
    exact w_ret K rfl (hK _)
theorem m_Parser_isWord_2000009 {len : Nat} {xs : Nat → Int32}  (d : Nat)  (s : mS) : ok_Parser_isWord_2000009 s → mm_call (mm_X len xs) mm_Y (d + 2) 93 [.ref 80, .ref 2000009] (mT s) = some (some (.int (f_Parser_isWord_2000009 s)), mT s) := fun h => t_Parser_isWord_2000009 (len := len) (xs := xs) d s (fun t => (some (some (.int t), mT s) : Option mm_R) = some (some (.int (f_Parser_isWord_2000009 s)), mT s)) (fun _ h => h) h rfl
def lp_Parser_isWord_2000010_20 (s : mS) : Nat → Int32 → Option Int32 × Int32
  | 0, v2 => (none, v2)
  | n + 1, v2 => (if (2 : Int32) ≤ v2 then (none, v2) else (mq_let (f_Parser_signAt ((gI s 80 5) + v2) s) (fun (x10 : Int32) => (if x10 = ((mm_Y 10).getD (ix v2) 0) then (lp_Parser_isWord_2000010_20 s n (v2 + 1)) else (some (0 : Int32), v2)))))
def okl_Parser_isWord_2000010_20 (s : mS) : Nat → Int32 → Prop
  | 0, v2 => False
  | n + 1, v2 => (if (2 : Int32) ≤ v2 then True else (ok_Parser_signAt ((gI s 80 5) + v2) s ∧ mq_letP (f_Parser_signAt ((gI s 80 5) + v2) s) (fun (x10 : Int32) => (mm_inb v2 2 = true ∧ (if x10 = ((mm_Y 10).getD (ix v2) 0) then (okl_Parser_isWord_2000010_20 s n (v2 + 1)) else True)))))
set_option maxRecDepth 4000 in
theorem tl_Parser_isWord_2000010_20 {len : Nat} {xs : Nat → Int32}  (d : Nat)  (s : mS) {T : Option mm_R} (K : Option Int32 × Int32 → Prop) (hX : ∀ r, K r → r.1 = none → mm_fix (mm_X len xs) mm_Y (mm_call (mm_X len xs) mm_Y (d + 1)) (mm_look mc_Parser_isWord) (54, [some (.ref 80), some (.ref 2000010), some (.int r.2)], [], mT s) = T) (hR : ∀ r, K r → ∀ v, r.1 = some v → some (some (.int v), mT s) = T) : ∀ (n : Nat), ∀ (v2 : Int32), okl_Parser_isWord_2000010_20 s n v2 → K (lp_Parser_isWord_2000010_20 s n v2) → mm_fix (mm_X len xs) mm_Y (mm_call (mm_X len xs) mm_Y (d + 1)) (mm_look mc_Parser_isWord) (20, [some (.ref 80), some (.ref 2000010), some (.int v2)], [], mT s) = T := by
  intro n
  induction n with
  | zero => intro v2; exact fun h => h.elim
  | succ n ih =>
    intro v2
    rw [okl_Parser_isWord_2000010_20, lp_Parser_isWord_2000010_20]
    refine w_go K 3 (c' := (25, [some (.ref 80), some (.ref 2000010), some (.int v2)], [.int 2, .int v2], mT s)) rfl ?_
    refine w_ige K rfl (fun _ => ?_) (fun _ => ?_)
    · refine w_go K 0 (c' := (54, [some (.ref 80), some (.ref 2000010), some (.int v2)], [], mT s)) rfl ?_
      exact fun _ b => hX _ b rfl
    · refine w_go K 5 (c' := (35, [some (.ref 80), some (.ref 2000010), some (.int v2)], [.int ((gI s 80 5) + v2), .ref 80], mT s)) rfl ?_
      refine w_callL K (E := f_Parser_signAt ((gI s 80 5) + v2) s) (g := fun (x10 : Int32) => (some (.int x10), mT s)) rfl (m_Parser_signAt (len := len) (xs := xs) (d + 0) ((gI s 80 5) + v2) s) (fun x10 => ?_)
      refine w_go K 2 (c' := (40, [some (.ref 80), some (.ref 2000010), some (.int v2)], [.int v2, .ref 2000010, .int x10], mT s)) rfl ?_
      refine w_ck K (mm_xc rfl rfl rfl rfl rfl rfl) ?_
      refine w_go K 0 (c' := (43, [some (.ref 80), some (.ref 2000010), some (.int v2)], [.int ((mm_Y 10).getD (ix v2) 0), .int x10], mT s)) rfl ?_
      refine w_ieq K rfl (fun _ => ?_) (fun _ => ?_)
      · refine w_go K 2 (c' := (20, [some (.ref 80), some (.ref 2000010), some (.int (v2 + 1))], [], mT s)) rfl ?_
        exact fun a b => ih (v2 + 1) a b
      · refine w_go K 1 (c' := (47, [some (.ref 80), some (.ref 2000010), some (.int v2)], [.int 0], mT s)) rfl ?_
        exact w_ret K rfl (fun h => hR _ h _ rfl)
def f_Parser_isWord_2000010  (s : mS) : Int32 := (if ((gI s 80 2) - (gI s 80 5)) = 2 then (mq_let (lp_Parser_isWord_2000010_20 s mm_N (0 : Int32)) (fun (x11 : Option Int32 × Int32) => mq_el x11.1 (fun v => v) 1)) else 0)
def ok_Parser_isWord_2000010  (s : mS) : Prop := (if ((gI s 80 2) - (gI s 80 5)) = 2 then (okl_Parser_isWord_2000010_20 s mm_N (0 : Int32) ∧ mq_letP (lp_Parser_isWord_2000010_20 s mm_N (0 : Int32)) (fun (x11 : Option Int32 × Int32) => mq_elP x11.1 True)) else True)
set_option maxRecDepth 4000 in
theorem t_Parser_isWord_2000010 {len : Nat} {xs : Nat → Int32}  (d : Nat)  (s : mS) {T : Option mm_R} (K : Int32 → Prop) (hK : ∀ t, K t → some (some (.int t), mT s) = T) : ok_Parser_isWord_2000010 s → K (f_Parser_isWord_2000010 s) → mm_fix (mm_X len xs) mm_Y (mm_call (mm_X len xs) mm_Y (d + 1)) (mm_look mc_Parser_isWord) (0, [some (.ref 80), some (.ref 2000010), none], [], mT s) = T := by
  unfold ok_Parser_isWord_2000010 f_Parser_isWord_2000010
  refine w_go K 7 (c' := (13, [some (.ref 80), some (.ref 2000010), none], [.int 2, .int ((gI s 80 2) - (gI s 80 5))], mT s)) rfl ?_
  refine w_ieq K rfl (fun _ => ?_) (fun _ => ?_)
  · refine w_go K 2 (c' := (20, [some (.ref 80), some (.ref 2000010), some (.int 0)], [], mT s)) rfl ?_
    refine w_join K (fun (x11 : Option Int32 × Int32) => (x11.1 = none → mm_fix (mm_X len xs) mm_Y (mm_call (mm_X len xs) mm_Y (d + 1)) (mm_look mc_Parser_isWord) (54, [some (.ref 80), some (.ref 2000010), some (.int x11.2)], [], mT s) = T) ∧ (∀ v, x11.1 = some v → some (some (.int v), mT s) = T)) (fun K hJ => tl_Parser_isWord_2000010_20 (len := len) (xs := xs) d s (T := T) K (fun r hr => (hJ r hr).1) (fun r hr => (hJ r hr).2) mm_N (0 : Int32)) (fun x11 h1 h2 => w_el K (fun v hv h => hK _ h) (fun h1 h2 => ?_) h1 h2)
    revert h1 h2
    refine w_go K 1 (c' := (55, [some (.ref 80), some (.ref 2000010), some (.int x11.2)], [.int 1], mT s)) rfl ?_
    exact w_ret K rfl (hK _)
  · refine w_go K 1 (c' := (17, [some (.ref 80), some (.ref 2000010), none], [.int 0], mT s)) rfl ?_
    exact w_ret K rfl (hK _)
theorem m_Parser_isWord_2000010 {len : Nat} {xs : Nat → Int32}  (d : Nat)  (s : mS) : ok_Parser_isWord_2000010 s → mm_call (mm_X len xs) mm_Y (d + 2) 93 [.ref 80, .ref 2000010] (mT s) = some (some (.int (f_Parser_isWord_2000010 s)), mT s) := fun h => t_Parser_isWord_2000010 (len := len) (xs := xs) d s (fun t => (some (some (.int t), mT s) : Option mm_R) = some (some (.int (f_Parser_isWord_2000010 s)), mT s)) (fun _ h => h) h rfl
def lp_Parser_isWord_2000011_20 (s : mS) : Nat → Int32 → Option Int32 × Int32
  | 0, v2 => (none, v2)
  | n + 1, v2 => (if (3 : Int32) ≤ v2 then (none, v2) else (mq_let (f_Parser_signAt ((gI s 80 5) + v2) s) (fun (x10 : Int32) => (if x10 = ((mm_Y 11).getD (ix v2) 0) then (lp_Parser_isWord_2000011_20 s n (v2 + 1)) else (some (0 : Int32), v2)))))
def okl_Parser_isWord_2000011_20 (s : mS) : Nat → Int32 → Prop
  | 0, v2 => False
  | n + 1, v2 => (if (3 : Int32) ≤ v2 then True else (ok_Parser_signAt ((gI s 80 5) + v2) s ∧ mq_letP (f_Parser_signAt ((gI s 80 5) + v2) s) (fun (x10 : Int32) => (mm_inb v2 3 = true ∧ (if x10 = ((mm_Y 11).getD (ix v2) 0) then (okl_Parser_isWord_2000011_20 s n (v2 + 1)) else True)))))
set_option maxRecDepth 4000 in
theorem tl_Parser_isWord_2000011_20 {len : Nat} {xs : Nat → Int32}  (d : Nat)  (s : mS) {T : Option mm_R} (K : Option Int32 × Int32 → Prop) (hX : ∀ r, K r → r.1 = none → mm_fix (mm_X len xs) mm_Y (mm_call (mm_X len xs) mm_Y (d + 1)) (mm_look mc_Parser_isWord) (54, [some (.ref 80), some (.ref 2000011), some (.int r.2)], [], mT s) = T) (hR : ∀ r, K r → ∀ v, r.1 = some v → some (some (.int v), mT s) = T) : ∀ (n : Nat), ∀ (v2 : Int32), okl_Parser_isWord_2000011_20 s n v2 → K (lp_Parser_isWord_2000011_20 s n v2) → mm_fix (mm_X len xs) mm_Y (mm_call (mm_X len xs) mm_Y (d + 1)) (mm_look mc_Parser_isWord) (20, [some (.ref 80), some (.ref 2000011), some (.int v2)], [], mT s) = T := by
  intro n
  induction n with
  | zero => intro v2; exact fun h => h.elim
  | succ n ih =>
    intro v2
    rw [okl_Parser_isWord_2000011_20, lp_Parser_isWord_2000011_20]
    refine w_go K 3 (c' := (25, [some (.ref 80), some (.ref 2000011), some (.int v2)], [.int 3, .int v2], mT s)) rfl ?_
    refine w_ige K rfl (fun _ => ?_) (fun _ => ?_)
    · refine w_go K 0 (c' := (54, [some (.ref 80), some (.ref 2000011), some (.int v2)], [], mT s)) rfl ?_
      exact fun _ b => hX _ b rfl
    · refine w_go K 5 (c' := (35, [some (.ref 80), some (.ref 2000011), some (.int v2)], [.int ((gI s 80 5) + v2), .ref 80], mT s)) rfl ?_
      refine w_callL K (E := f_Parser_signAt ((gI s 80 5) + v2) s) (g := fun (x10 : Int32) => (some (.int x10), mT s)) rfl (m_Parser_signAt (len := len) (xs := xs) (d + 0) ((gI s 80 5) + v2) s) (fun x10 => ?_)
      refine w_go K 2 (c' := (40, [some (.ref 80), some (.ref 2000011), some (.int v2)], [.int v2, .ref 2000011, .int x10], mT s)) rfl ?_
      refine w_ck K (mm_xc rfl rfl rfl rfl rfl rfl) ?_
      refine w_go K 0 (c' := (43, [some (.ref 80), some (.ref 2000011), some (.int v2)], [.int ((mm_Y 11).getD (ix v2) 0), .int x10], mT s)) rfl ?_
      refine w_ieq K rfl (fun _ => ?_) (fun _ => ?_)
      · refine w_go K 2 (c' := (20, [some (.ref 80), some (.ref 2000011), some (.int (v2 + 1))], [], mT s)) rfl ?_
        exact fun a b => ih (v2 + 1) a b
      · refine w_go K 1 (c' := (47, [some (.ref 80), some (.ref 2000011), some (.int v2)], [.int 0], mT s)) rfl ?_
        exact w_ret K rfl (fun h => hR _ h _ rfl)
def f_Parser_isWord_2000011  (s : mS) : Int32 := (if ((gI s 80 2) - (gI s 80 5)) = 3 then (mq_let (lp_Parser_isWord_2000011_20 s mm_N (0 : Int32)) (fun (x11 : Option Int32 × Int32) => mq_el x11.1 (fun v => v) 1)) else 0)
def ok_Parser_isWord_2000011  (s : mS) : Prop := (if ((gI s 80 2) - (gI s 80 5)) = 3 then (okl_Parser_isWord_2000011_20 s mm_N (0 : Int32) ∧ mq_letP (lp_Parser_isWord_2000011_20 s mm_N (0 : Int32)) (fun (x11 : Option Int32 × Int32) => mq_elP x11.1 True)) else True)
set_option maxRecDepth 4000 in
theorem t_Parser_isWord_2000011 {len : Nat} {xs : Nat → Int32}  (d : Nat)  (s : mS) {T : Option mm_R} (K : Int32 → Prop) (hK : ∀ t, K t → some (some (.int t), mT s) = T) : ok_Parser_isWord_2000011 s → K (f_Parser_isWord_2000011 s) → mm_fix (mm_X len xs) mm_Y (mm_call (mm_X len xs) mm_Y (d + 1)) (mm_look mc_Parser_isWord) (0, [some (.ref 80), some (.ref 2000011), none], [], mT s) = T := by
  unfold ok_Parser_isWord_2000011 f_Parser_isWord_2000011
  refine w_go K 7 (c' := (13, [some (.ref 80), some (.ref 2000011), none], [.int 3, .int ((gI s 80 2) - (gI s 80 5))], mT s)) rfl ?_
  refine w_ieq K rfl (fun _ => ?_) (fun _ => ?_)
  · refine w_go K 2 (c' := (20, [some (.ref 80), some (.ref 2000011), some (.int 0)], [], mT s)) rfl ?_
    refine w_join K (fun (x11 : Option Int32 × Int32) => (x11.1 = none → mm_fix (mm_X len xs) mm_Y (mm_call (mm_X len xs) mm_Y (d + 1)) (mm_look mc_Parser_isWord) (54, [some (.ref 80), some (.ref 2000011), some (.int x11.2)], [], mT s) = T) ∧ (∀ v, x11.1 = some v → some (some (.int v), mT s) = T)) (fun K hJ => tl_Parser_isWord_2000011_20 (len := len) (xs := xs) d s (T := T) K (fun r hr => (hJ r hr).1) (fun r hr => (hJ r hr).2) mm_N (0 : Int32)) (fun x11 h1 h2 => w_el K (fun v hv h => hK _ h) (fun h1 h2 => ?_) h1 h2)
    revert h1 h2
    refine w_go K 1 (c' := (55, [some (.ref 80), some (.ref 2000011), some (.int x11.2)], [.int 1], mT s)) rfl ?_
    exact w_ret K rfl (hK _)
  · refine w_go K 1 (c' := (17, [some (.ref 80), some (.ref 2000011), none], [.int 0], mT s)) rfl ?_
    exact w_ret K rfl (hK _)
theorem m_Parser_isWord_2000011 {len : Nat} {xs : Nat → Int32}  (d : Nat)  (s : mS) : ok_Parser_isWord_2000011 s → mm_call (mm_X len xs) mm_Y (d + 2) 93 [.ref 80, .ref 2000011] (mT s) = some (some (.int (f_Parser_isWord_2000011 s)), mT s) := fun h => t_Parser_isWord_2000011 (len := len) (xs := xs) d s (fun t => (some (some (.int t), mT s) : Option mm_R) = some (some (.int (f_Parser_isWord_2000011 s)), mT s)) (fun _ h => h) h rfl
def lp_Parser_isWord_2000012_20 (s : mS) : Nat → Int32 → Option Int32 × Int32
  | 0, v2 => (none, v2)
  | n + 1, v2 => (if (3 : Int32) ≤ v2 then (none, v2) else (mq_let (f_Parser_signAt ((gI s 80 5) + v2) s) (fun (x10 : Int32) => (if x10 = ((mm_Y 12).getD (ix v2) 0) then (lp_Parser_isWord_2000012_20 s n (v2 + 1)) else (some (0 : Int32), v2)))))
def okl_Parser_isWord_2000012_20 (s : mS) : Nat → Int32 → Prop
  | 0, v2 => False
  | n + 1, v2 => (if (3 : Int32) ≤ v2 then True else (ok_Parser_signAt ((gI s 80 5) + v2) s ∧ mq_letP (f_Parser_signAt ((gI s 80 5) + v2) s) (fun (x10 : Int32) => (mm_inb v2 3 = true ∧ (if x10 = ((mm_Y 12).getD (ix v2) 0) then (okl_Parser_isWord_2000012_20 s n (v2 + 1)) else True)))))
set_option maxRecDepth 4000 in
theorem tl_Parser_isWord_2000012_20 {len : Nat} {xs : Nat → Int32}  (d : Nat)  (s : mS) {T : Option mm_R} (K : Option Int32 × Int32 → Prop) (hX : ∀ r, K r → r.1 = none → mm_fix (mm_X len xs) mm_Y (mm_call (mm_X len xs) mm_Y (d + 1)) (mm_look mc_Parser_isWord) (54, [some (.ref 80), some (.ref 2000012), some (.int r.2)], [], mT s) = T) (hR : ∀ r, K r → ∀ v, r.1 = some v → some (some (.int v), mT s) = T) : ∀ (n : Nat), ∀ (v2 : Int32), okl_Parser_isWord_2000012_20 s n v2 → K (lp_Parser_isWord_2000012_20 s n v2) → mm_fix (mm_X len xs) mm_Y (mm_call (mm_X len xs) mm_Y (d + 1)) (mm_look mc_Parser_isWord) (20, [some (.ref 80), some (.ref 2000012), some (.int v2)], [], mT s) = T := by
  intro n
  induction n with
  | zero => intro v2; exact fun h => h.elim
  | succ n ih =>
    intro v2
    rw [okl_Parser_isWord_2000012_20, lp_Parser_isWord_2000012_20]
    refine w_go K 3 (c' := (25, [some (.ref 80), some (.ref 2000012), some (.int v2)], [.int 3, .int v2], mT s)) rfl ?_
    refine w_ige K rfl (fun _ => ?_) (fun _ => ?_)
    · refine w_go K 0 (c' := (54, [some (.ref 80), some (.ref 2000012), some (.int v2)], [], mT s)) rfl ?_
      exact fun _ b => hX _ b rfl
    · refine w_go K 5 (c' := (35, [some (.ref 80), some (.ref 2000012), some (.int v2)], [.int ((gI s 80 5) + v2), .ref 80], mT s)) rfl ?_
      refine w_callL K (E := f_Parser_signAt ((gI s 80 5) + v2) s) (g := fun (x10 : Int32) => (some (.int x10), mT s)) rfl (m_Parser_signAt (len := len) (xs := xs) (d + 0) ((gI s 80 5) + v2) s) (fun x10 => ?_)
      refine w_go K 2 (c' := (40, [some (.ref 80), some (.ref 2000012), some (.int v2)], [.int v2, .ref 2000012, .int x10], mT s)) rfl ?_
      refine w_ck K (mm_xc rfl rfl rfl rfl rfl rfl) ?_
      refine w_go K 0 (c' := (43, [some (.ref 80), some (.ref 2000012), some (.int v2)], [.int ((mm_Y 12).getD (ix v2) 0), .int x10], mT s)) rfl ?_
      refine w_ieq K rfl (fun _ => ?_) (fun _ => ?_)
      · refine w_go K 2 (c' := (20, [some (.ref 80), some (.ref 2000012), some (.int (v2 + 1))], [], mT s)) rfl ?_
        exact fun a b => ih (v2 + 1) a b
      · refine w_go K 1 (c' := (47, [some (.ref 80), some (.ref 2000012), some (.int v2)], [.int 0], mT s)) rfl ?_
        exact w_ret K rfl (fun h => hR _ h _ rfl)
def f_Parser_isWord_2000012  (s : mS) : Int32 := (if ((gI s 80 2) - (gI s 80 5)) = 3 then (mq_let (lp_Parser_isWord_2000012_20 s mm_N (0 : Int32)) (fun (x11 : Option Int32 × Int32) => mq_el x11.1 (fun v => v) 1)) else 0)
def ok_Parser_isWord_2000012  (s : mS) : Prop := (if ((gI s 80 2) - (gI s 80 5)) = 3 then (okl_Parser_isWord_2000012_20 s mm_N (0 : Int32) ∧ mq_letP (lp_Parser_isWord_2000012_20 s mm_N (0 : Int32)) (fun (x11 : Option Int32 × Int32) => mq_elP x11.1 True)) else True)
set_option maxRecDepth 4000 in
theorem t_Parser_isWord_2000012 {len : Nat} {xs : Nat → Int32}  (d : Nat)  (s : mS) {T : Option mm_R} (K : Int32 → Prop) (hK : ∀ t, K t → some (some (.int t), mT s) = T) : ok_Parser_isWord_2000012 s → K (f_Parser_isWord_2000012 s) → mm_fix (mm_X len xs) mm_Y (mm_call (mm_X len xs) mm_Y (d + 1)) (mm_look mc_Parser_isWord) (0, [some (.ref 80), some (.ref 2000012), none], [], mT s) = T := by
  unfold ok_Parser_isWord_2000012 f_Parser_isWord_2000012
  refine w_go K 7 (c' := (13, [some (.ref 80), some (.ref 2000012), none], [.int 3, .int ((gI s 80 2) - (gI s 80 5))], mT s)) rfl ?_
  refine w_ieq K rfl (fun _ => ?_) (fun _ => ?_)
  · refine w_go K 2 (c' := (20, [some (.ref 80), some (.ref 2000012), some (.int 0)], [], mT s)) rfl ?_
    refine w_join K (fun (x11 : Option Int32 × Int32) => (x11.1 = none → mm_fix (mm_X len xs) mm_Y (mm_call (mm_X len xs) mm_Y (d + 1)) (mm_look mc_Parser_isWord) (54, [some (.ref 80), some (.ref 2000012), some (.int x11.2)], [], mT s) = T) ∧ (∀ v, x11.1 = some v → some (some (.int v), mT s) = T)) (fun K hJ => tl_Parser_isWord_2000012_20 (len := len) (xs := xs) d s (T := T) K (fun r hr => (hJ r hr).1) (fun r hr => (hJ r hr).2) mm_N (0 : Int32)) (fun x11 h1 h2 => w_el K (fun v hv h => hK _ h) (fun h1 h2 => ?_) h1 h2)
    revert h1 h2
    refine w_go K 1 (c' := (55, [some (.ref 80), some (.ref 2000012), some (.int x11.2)], [.int 1], mT s)) rfl ?_
    exact w_ret K rfl (hK _)
  · refine w_go K 1 (c' := (17, [some (.ref 80), some (.ref 2000012), none], [.int 0], mT s)) rfl ?_
    exact w_ret K rfl (hK _)
theorem m_Parser_isWord_2000012 {len : Nat} {xs : Nat → Int32}  (d : Nat)  (s : mS) : ok_Parser_isWord_2000012 s → mm_call (mm_X len xs) mm_Y (d + 2) 93 [.ref 80, .ref 2000012] (mT s) = some (some (.int (f_Parser_isWord_2000012 s)), mT s) := fun h => t_Parser_isWord_2000012 (len := len) (xs := xs) d s (fun t => (some (some (.int t), mT s) : Option mm_R) = some (some (.int (f_Parser_isWord_2000012 s)), mT s)) (fun _ h => h) h rfl
def f_Parser_kindOfWord  (s : mS) : Int32 := (mq_let (f_Parser_isWord_2000000 s) (fun (x10 : Int32) => (if x10 = 0 then (mq_let (f_Parser_isWord_2000001 s) (fun (x11 : Int32) => (if x11 = 0 then (mq_let (f_Parser_isWord_2000002 s) (fun (x12 : Int32) => (if x12 = 0 then (mq_let (f_Parser_isWord_2000003 s) (fun (x13 : Int32) => (if x13 = 0 then (mq_let (f_Parser_isWord_2000004 s) (fun (x14 : Int32) => (if x14 = 0 then (mq_let (f_Parser_isWord_2000005 s) (fun (x15 : Int32) => (if x15 = 0 then (mq_let (f_Parser_isWord_2000006 s) (fun (x16 : Int32) => (if x16 = 0 then (mq_let (f_Parser_isWord_2000007 s) (fun (x17 : Int32) => (if x17 = 0 then (mq_let (f_Parser_isWord_2000008 s) (fun (x18 : Int32) => (if x18 = 0 then (mq_let (f_Parser_isWord_2000009 s) (fun (x19 : Int32) => (if x19 = 0 then (mq_let (f_Parser_isWord_2000010 s) (fun (x20 : Int32) => (if x20 = 0 then (mq_let (f_Parser_isWord_2000011 s) (fun (x21 : Int32) => (if x21 = 0 then (mq_let (f_Parser_isWord_2000012 s) (fun (x22 : Int32) => (if x22 = 0 then 1 else 15))) else 14))) else 13))) else 12))) else 11))) else 10))) else 9))) else 8))) else 7))) else 6))) else 5))) else 4))) else 3)))
def ok_Parser_kindOfWord  (s : mS) : Prop := (ok_Parser_isWord_2000000 s ∧ mq_letP (f_Parser_isWord_2000000 s) (fun (x10 : Int32) => (if x10 = 0 then (ok_Parser_isWord_2000001 s ∧ mq_letP (f_Parser_isWord_2000001 s) (fun (x11 : Int32) => (if x11 = 0 then (ok_Parser_isWord_2000002 s ∧ mq_letP (f_Parser_isWord_2000002 s) (fun (x12 : Int32) => (if x12 = 0 then (ok_Parser_isWord_2000003 s ∧ mq_letP (f_Parser_isWord_2000003 s) (fun (x13 : Int32) => (if x13 = 0 then (ok_Parser_isWord_2000004 s ∧ mq_letP (f_Parser_isWord_2000004 s) (fun (x14 : Int32) => (if x14 = 0 then (ok_Parser_isWord_2000005 s ∧ mq_letP (f_Parser_isWord_2000005 s) (fun (x15 : Int32) => (if x15 = 0 then (ok_Parser_isWord_2000006 s ∧ mq_letP (f_Parser_isWord_2000006 s) (fun (x16 : Int32) => (if x16 = 0 then (ok_Parser_isWord_2000007 s ∧ mq_letP (f_Parser_isWord_2000007 s) (fun (x17 : Int32) => (if x17 = 0 then (ok_Parser_isWord_2000008 s ∧ mq_letP (f_Parser_isWord_2000008 s) (fun (x18 : Int32) => (if x18 = 0 then (ok_Parser_isWord_2000009 s ∧ mq_letP (f_Parser_isWord_2000009 s) (fun (x19 : Int32) => (if x19 = 0 then (ok_Parser_isWord_2000010 s ∧ mq_letP (f_Parser_isWord_2000010 s) (fun (x20 : Int32) => (if x20 = 0 then (ok_Parser_isWord_2000011 s ∧ mq_letP (f_Parser_isWord_2000011 s) (fun (x21 : Int32) => (if x21 = 0 then (ok_Parser_isWord_2000012 s ∧ mq_letP (f_Parser_isWord_2000012 s) (fun (x22 : Int32) => True)) else True))) else True))) else True))) else True))) else True))) else True))) else True))) else True))) else True))) else True))) else True))) else True)))
set_option maxRecDepth 4000 in
theorem t_Parser_kindOfWord {len : Nat} {xs : Nat → Int32}  (d : Nat)  (s : mS) {T : Option mm_R} (K : Int32 → Prop) (hK : ∀ t, K t → some (some (.int t), mT s) = T) : ok_Parser_kindOfWord s → K (f_Parser_kindOfWord s) → mm_fix (mm_X len xs) mm_Y (mm_call (mm_X len xs) mm_Y (d + 2)) (mm_look mc_Parser_kindOfWord) (0, [some (.ref 80)], [], mT s) = T := by
  unfold ok_Parser_kindOfWord f_Parser_kindOfWord
  refine w_go K 2 (c' := (3, [some (.ref 80)], [.ref 2000000, .ref 80], mT s)) rfl ?_
  refine w_callL K (E := f_Parser_isWord_2000000 s) (g := fun (x10 : Int32) => (some (.int x10), mT s)) rfl (m_Parser_isWord_2000000 (len := len) (xs := xs) (d + 0) s) (fun x10 => ?_)
  refine w_go K 0 (c' := (6, [some (.ref 80)], [.int x10], mT s)) rfl ?_
  refine w_zeq K rfl (fun _ => ?_) (fun _ => ?_)
  · refine w_go K 2 (c' := (14, [some (.ref 80)], [.ref 2000001, .ref 80], mT s)) rfl ?_
    refine w_callL K (E := f_Parser_isWord_2000001 s) (g := fun (x11 : Int32) => (some (.int x11), mT s)) rfl (m_Parser_isWord_2000001 (len := len) (xs := xs) (d + 0) s) (fun x11 => ?_)
    refine w_go K 0 (c' := (17, [some (.ref 80)], [.int x11], mT s)) rfl ?_
    refine w_zeq K rfl (fun _ => ?_) (fun _ => ?_)
    · refine w_go K 2 (c' := (25, [some (.ref 80)], [.ref 2000002, .ref 80], mT s)) rfl ?_
      refine w_callL K (E := f_Parser_isWord_2000002 s) (g := fun (x12 : Int32) => (some (.int x12), mT s)) rfl (m_Parser_isWord_2000002 (len := len) (xs := xs) (d + 0) s) (fun x12 => ?_)
      refine w_go K 0 (c' := (28, [some (.ref 80)], [.int x12], mT s)) rfl ?_
      refine w_zeq K rfl (fun _ => ?_) (fun _ => ?_)
      · refine w_go K 2 (c' := (36, [some (.ref 80)], [.ref 2000003, .ref 80], mT s)) rfl ?_
        refine w_callL K (E := f_Parser_isWord_2000003 s) (g := fun (x13 : Int32) => (some (.int x13), mT s)) rfl (m_Parser_isWord_2000003 (len := len) (xs := xs) (d + 0) s) (fun x13 => ?_)
        refine w_go K 0 (c' := (39, [some (.ref 80)], [.int x13], mT s)) rfl ?_
        refine w_zeq K rfl (fun _ => ?_) (fun _ => ?_)
        · refine w_go K 2 (c' := (48, [some (.ref 80)], [.ref 2000004, .ref 80], mT s)) rfl ?_
          refine w_callL K (E := f_Parser_isWord_2000004 s) (g := fun (x14 : Int32) => (some (.int x14), mT s)) rfl (m_Parser_isWord_2000004 (len := len) (xs := xs) (d + 0) s) (fun x14 => ?_)
          refine w_go K 0 (c' := (51, [some (.ref 80)], [.int x14], mT s)) rfl ?_
          refine w_zeq K rfl (fun _ => ?_) (fun _ => ?_)
          · refine w_go K 2 (c' := (60, [some (.ref 80)], [.ref 2000005, .ref 80], mT s)) rfl ?_
            refine w_callL K (E := f_Parser_isWord_2000005 s) (g := fun (x15 : Int32) => (some (.int x15), mT s)) rfl (m_Parser_isWord_2000005 (len := len) (xs := xs) (d + 0) s) (fun x15 => ?_)
            refine w_go K 0 (c' := (63, [some (.ref 80)], [.int x15], mT s)) rfl ?_
            refine w_zeq K rfl (fun _ => ?_) (fun _ => ?_)
            · refine w_go K 2 (c' := (72, [some (.ref 80)], [.ref 2000006, .ref 80], mT s)) rfl ?_
              refine w_callL K (E := f_Parser_isWord_2000006 s) (g := fun (x16 : Int32) => (some (.int x16), mT s)) rfl (m_Parser_isWord_2000006 (len := len) (xs := xs) (d + 0) s) (fun x16 => ?_)
              refine w_go K 0 (c' := (75, [some (.ref 80)], [.int x16], mT s)) rfl ?_
              refine w_zeq K rfl (fun _ => ?_) (fun _ => ?_)
              · refine w_go K 2 (c' := (84, [some (.ref 80)], [.ref 2000007, .ref 80], mT s)) rfl ?_
                refine w_callL K (E := f_Parser_isWord_2000007 s) (g := fun (x17 : Int32) => (some (.int x17), mT s)) rfl (m_Parser_isWord_2000007 (len := len) (xs := xs) (d + 0) s) (fun x17 => ?_)
                refine w_go K 0 (c' := (87, [some (.ref 80)], [.int x17], mT s)) rfl ?_
                refine w_zeq K rfl (fun _ => ?_) (fun _ => ?_)
                · refine w_go K 2 (c' := (96, [some (.ref 80)], [.ref 2000008, .ref 80], mT s)) rfl ?_
                  refine w_callL K (E := f_Parser_isWord_2000008 s) (g := fun (x18 : Int32) => (some (.int x18), mT s)) rfl (m_Parser_isWord_2000008 (len := len) (xs := xs) (d + 0) s) (fun x18 => ?_)
                  refine w_go K 0 (c' := (99, [some (.ref 80)], [.int x18], mT s)) rfl ?_
                  refine w_zeq K rfl (fun _ => ?_) (fun _ => ?_)
                  · refine w_go K 2 (c' := (108, [some (.ref 80)], [.ref 2000009, .ref 80], mT s)) rfl ?_
                    refine w_callL K (E := f_Parser_isWord_2000009 s) (g := fun (x19 : Int32) => (some (.int x19), mT s)) rfl (m_Parser_isWord_2000009 (len := len) (xs := xs) (d + 0) s) (fun x19 => ?_)
                    refine w_go K 0 (c' := (111, [some (.ref 80)], [.int x19], mT s)) rfl ?_
                    refine w_zeq K rfl (fun _ => ?_) (fun _ => ?_)
                    · refine w_go K 2 (c' := (120, [some (.ref 80)], [.ref 2000010, .ref 80], mT s)) rfl ?_
                      refine w_callL K (E := f_Parser_isWord_2000010 s) (g := fun (x20 : Int32) => (some (.int x20), mT s)) rfl (m_Parser_isWord_2000010 (len := len) (xs := xs) (d + 0) s) (fun x20 => ?_)
                      refine w_go K 0 (c' := (123, [some (.ref 80)], [.int x20], mT s)) rfl ?_
                      refine w_zeq K rfl (fun _ => ?_) (fun _ => ?_)
                      · refine w_go K 2 (c' := (132, [some (.ref 80)], [.ref 2000011, .ref 80], mT s)) rfl ?_
                        refine w_callL K (E := f_Parser_isWord_2000011 s) (g := fun (x21 : Int32) => (some (.int x21), mT s)) rfl (m_Parser_isWord_2000011 (len := len) (xs := xs) (d + 0) s) (fun x21 => ?_)
                        refine w_go K 0 (c' := (135, [some (.ref 80)], [.int x21], mT s)) rfl ?_
                        refine w_zeq K rfl (fun _ => ?_) (fun _ => ?_)
                        · refine w_go K 2 (c' := (144, [some (.ref 80)], [.ref 2000012, .ref 80], mT s)) rfl ?_
                          refine w_callL K (E := f_Parser_isWord_2000012 s) (g := fun (x22 : Int32) => (some (.int x22), mT s)) rfl (m_Parser_isWord_2000012 (len := len) (xs := xs) (d + 0) s) (fun x22 => ?_)
                          refine w_go K 0 (c' := (147, [some (.ref 80)], [.int x22], mT s)) rfl ?_
                          refine w_zeqT K rfl (fun _ => ?_) (fun _ => ?_)
                          · refine w_go K 1 (c' := (156, [some (.ref 80)], [.int 1], mT s)) rfl ?_
                            exact w_ret K rfl (hK _)
                          · refine w_go K 2 (c' := (156, [some (.ref 80)], [.int 15], mT s)) rfl ?_
                            exact w_ret K rfl (hK _)
                        · refine w_go K 1 (c' := (140, [some (.ref 80)], [.int 14], mT s)) rfl ?_
                          exact w_ret K rfl (hK _)
                      · refine w_go K 1 (c' := (128, [some (.ref 80)], [.int 13], mT s)) rfl ?_
                        exact w_ret K rfl (hK _)
                    · refine w_go K 1 (c' := (116, [some (.ref 80)], [.int 12], mT s)) rfl ?_
                      exact w_ret K rfl (hK _)
                  · refine w_go K 1 (c' := (104, [some (.ref 80)], [.int 11], mT s)) rfl ?_
                    exact w_ret K rfl (hK _)
                · refine w_go K 1 (c' := (92, [some (.ref 80)], [.int 10], mT s)) rfl ?_
                  exact w_ret K rfl (hK _)
              · refine w_go K 1 (c' := (80, [some (.ref 80)], [.int 9], mT s)) rfl ?_
                exact w_ret K rfl (hK _)
            · refine w_go K 1 (c' := (68, [some (.ref 80)], [.int 8], mT s)) rfl ?_
              exact w_ret K rfl (hK _)
          · refine w_go K 1 (c' := (56, [some (.ref 80)], [.int 7], mT s)) rfl ?_
            exact w_ret K rfl (hK _)
        · refine w_go K 1 (c' := (44, [some (.ref 80)], [.int 6], mT s)) rfl ?_
          exact w_ret K rfl (hK _)
      · refine w_go K 1 (c' := (32, [some (.ref 80)], [.int 5], mT s)) rfl ?_
        exact w_ret K rfl (hK _)
    · refine w_go K 1 (c' := (21, [some (.ref 80)], [.int 4], mT s)) rfl ?_
      exact w_ret K rfl (hK _)
  · refine w_go K 1 (c' := (10, [some (.ref 80)], [.int 3], mT s)) rfl ?_
    exact w_ret K rfl (hK _)
theorem m_Parser_kindOfWord {len : Nat} {xs : Nat → Int32}  (d : Nat)  (s : mS) : ok_Parser_kindOfWord s → mm_call (mm_X len xs) mm_Y (d + 3) 92 [.ref 80] (mT s) = some (some (.int (f_Parser_kindOfWord s)), mT s) := fun h => t_Parser_kindOfWord (len := len) (xs := xs) d s (fun t => (some (some (.int t), mT s) : Option mm_R) = some (some (.int (f_Parser_kindOfWord s)), mT s)) (fun _ h => h) h rfl
def lp_Parser_readWord_2  : Nat → Int32 → mS → Int32 × mS
  | 0, v1, s => (v1, s)
  | n + 1, v1, s => (if (600 : Int32) ≤ v1 then (v1, s) else (mq_let (f_Parser_signAt (gI s 80 2) s) (fun (x10 : Int32) => (mq_let (f_Parser_isLetter x10 s) (fun (x11 : Int32) => (if x11 = 0 then (v1, s) else (lp_Parser_readWord_2 n (v1 + 1) (sI s 80 2 ((gI s 80 2) + 1)))))))))
def okl_Parser_readWord_2  : Nat → Int32 → mS → Prop
  | 0, v1, s => False
  | n + 1, v1, s => (if (600 : Int32) ≤ v1 then True else (ok_Parser_signAt (gI s 80 2) s ∧ mq_letP (f_Parser_signAt (gI s 80 2) s) (fun (x10 : Int32) => (True ∧ mq_letP (f_Parser_isLetter x10 s) (fun (x11 : Int32) => (if x11 = 0 then True else (okl_Parser_readWord_2 n (v1 + 1) (sI s 80 2 ((gI s 80 2) + 1)))))))))
set_option maxRecDepth 4000 in
theorem tl_Parser_readWord_2 {len : Nat} {xs : Nat → Int32}  (d : Nat)   {T : Option mm_R} (K : Int32 × mS → Prop) (hX : ∀ r, K r → mm_fix (mm_X len xs) mm_Y (mm_call (mm_X len xs) mm_Y (d + 3)) (mm_look mc_Parser_readWord) (39, [some (.ref 80), some (.int r.1)], [], mT r.2) = T) : ∀ (n : Nat), ∀ (v1 : Int32) (s : mS), okl_Parser_readWord_2 n v1 s → K (lp_Parser_readWord_2 n v1 s) → mm_fix (mm_X len xs) mm_Y (mm_call (mm_X len xs) mm_Y (d + 3)) (mm_look mc_Parser_readWord) (2, [some (.ref 80), some (.int v1)], [], mT s) = T := by
  intro n
  induction n with
  | zero => intro v1 s; exact fun h => h.elim
  | succ n ih =>
    intro v1 s
    rw [okl_Parser_readWord_2, lp_Parser_readWord_2]
    refine w_go K 2 (c' := (6, [some (.ref 80), some (.int v1)], [.int 600, .int v1], mT s)) rfl ?_
    refine w_ige K rfl (fun _ => ?_) (fun _ => ?_)
    · refine w_go K 0 (c' := (39, [some (.ref 80), some (.int v1)], [], mT s)) rfl ?_
      exact fun _ b => hX _ b
    · refine w_go K 3 (c' := (14, [some (.ref 80), some (.int v1)], [.int (gI s 80 2), .ref 80], mT s)) rfl ?_
      refine w_callL K (E := f_Parser_signAt (gI s 80 2) s) (g := fun (x10 : Int32) => (some (.int x10), mT s)) rfl (m_Parser_signAt (len := len) (xs := xs) (d + 2) (gI s 80 2) s) (fun x10 => ?_)
      refine w_go K 0 (c' := (17, [some (.ref 80), some (.int v1)], [.int x10], mT s)) rfl ?_
      refine w_callL K (E := f_Parser_isLetter x10 s) (g := fun (x11 : Int32) => (some (.int x11), mT s)) rfl (m_Parser_isLetter (len := len) (xs := xs) (d + 2) x10 s) (fun x11 => ?_)
      refine w_go K 0 (c' := (20, [some (.ref 80), some (.int v1)], [.int x11], mT s)) rfl ?_
      refine w_zeq K rfl (fun _ => ?_) (fun _ => ?_)
      · refine w_go K 0 (c' := (39, [some (.ref 80), some (.int v1)], [], mT s)) rfl ?_
        exact fun _ b => hX _ b
      · refine w_go K 8 (c' := (2, [some (.ref 80), some (.int (v1 + 1))], [], mT (sI s 80 2 ((gI s 80 2) + 1)))) rfl ?_
        exact fun a b => ih (v1 + 1) (sI s 80 2 ((gI s 80 2) + 1)) a b
def f_Parser_readWord  (s : mS) : mS := (mq_let (lp_Parser_readWord_2 mm_N (0 : Int32) s) (fun (x12 : Int32 × mS) => (mq_let (f_Parser_kindOfWord x12.2) (fun (x13 : Int32) => sI x12.2 80 3 x13))))
def ok_Parser_readWord  (s : mS) : Prop := (okl_Parser_readWord_2 mm_N (0 : Int32) s ∧ mq_letP (lp_Parser_readWord_2 mm_N (0 : Int32) s) (fun (x12 : Int32 × mS) => (ok_Parser_kindOfWord x12.2 ∧ mq_letP (f_Parser_kindOfWord x12.2) (fun (x13 : Int32) => True))))
set_option maxRecDepth 4000 in
theorem t_Parser_readWord {len : Nat} {xs : Nat → Int32}  (d : Nat)  (s : mS) {T : Option mm_R} (K : mS → Prop) (hK : ∀ t, K t → some (none, mT t) = T) : ok_Parser_readWord s → K (f_Parser_readWord s) → mm_fix (mm_X len xs) mm_Y (mm_call (mm_X len xs) mm_Y (d + 3)) (mm_look mc_Parser_readWord) (0, [some (.ref 80), none], [], mT s) = T := by
  unfold ok_Parser_readWord f_Parser_readWord
  refine w_go K 2 (c' := (2, [some (.ref 80), some (.int 0)], [], mT s)) rfl ?_
  refine w_join K (fun (x12 : Int32 × mS) => mm_fix (mm_X len xs) mm_Y (mm_call (mm_X len xs) mm_Y (d + 3)) (mm_look mc_Parser_readWord) (39, [some (.ref 80), some (.int x12.1)], [], mT x12.2) = T) (fun K hJ => tl_Parser_readWord_2 (len := len) (xs := xs) d (T := T) K hJ mm_N (0 : Int32) s) (fun x12 h1 h2 => ?_)
  revert h1 h2
  refine w_go K 2 (c' := (41, [some (.ref 80), some (.int x12.1)], [.ref 80, .ref 80], mT x12.2)) rfl ?_
  refine w_callL K (E := f_Parser_kindOfWord x12.2) (g := fun (x13 : Int32) => (some (.int x13), mT x12.2)) rfl (m_Parser_kindOfWord (len := len) (xs := xs) (d + 0) x12.2) (fun x13 => ?_)
  refine w_go K 1 (c' := (47, [some (.ref 80), some (.int x12.1)], [], mT (sI x12.2 80 3 x13))) rfl ?_
  exact w_ret K rfl (hK _)
theorem m_Parser_readWord {len : Nat} {xs : Nat → Int32}  (d : Nat)  (s : mS) : ok_Parser_readWord s → mm_call (mm_X len xs) mm_Y (d + 4) 91 [.ref 80] (mT s) = some (none, mT (f_Parser_readWord s)) := fun h => t_Parser_readWord (len := len) (xs := xs) d s (fun t => (some (none, mT t) : Option mm_R) = some (none, mT (f_Parser_readWord s))) (fun _ h => h) h rfl
