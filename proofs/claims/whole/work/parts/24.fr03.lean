/-! WHAT A METHOD LEAVES AS IT WAS, by program. -/
def aw_lp_M_sumUp_9 : List Nat := [166]
def fw_lp_M_sumUp_9 : List (Nat × Nat) := [(116, 79), (116, 81), (116, 82), (116, 83), (116, 84), (116, 85), (116, 86)]
theorem fr_lp_M_sumUp_9   : ∀ (n : Nat)  (s : mS), fp aw_lp_M_sumUp_9 fw_lp_M_sumUp_9 false s (lp_M_sumUp_9 n s).2 := by
  intro n
  induction n with
  | zero => intro s; exact fp_r
  | succ n ih =>
    intro s
    refine (fun (Q : Option Int32 × mS → Prop) (hQ : ∀ r, fp aw_lp_M_sumUp_9 fw_lp_M_sumUp_9 false s r.2 → Q r) => ?_ : ∀ Q : Option Int32 × mS → Prop, (∀ r, fp aw_lp_M_sumUp_9 fw_lp_M_sumUp_9 false s r.2 → Q r) → Q (lp_M_sumUp_9 (n + 1) s)) (fun r => fp aw_lp_M_sumUp_9 fw_lp_M_sumUp_9 false s r.2) (fun _ h => h)
    rw [lp_M_sumUp_9]
    refine q_if Q (fun _ => ?_) (fun _ => ?_)
    · refine q_let0 Q (fun x11 => ?_)
      refine q_call Q (R := fun (x12 : mS) => fp aw_lp_M_sumUp_9 fw_lp_M_sumUp_9 false s x12) (fp_t fp_r (fp_m (fr_M_next0 s) (by decide) (by decide) (by decide))) (fun x12 gx12 => ?_)
      refine q_call Q (R := fun (x13 : Int32 × mS) => fp aw_lp_M_sumUp_9 fw_lp_M_sumUp_9 false s x13.2) (fp_t gx12 (fp_m (fr_M_product x12) (by decide) (by decide) (by decide))) (fun x13 gx13 => ?_)
      refine q_if Q (fun _ => ?_) (fun _ => ?_)
      · exact hQ _ gx13
      · refine q_call Q (R := fun (x14 : mS) => fp aw_lp_M_sumUp_9 fw_lp_M_sumUp_9 false s x14) (fp_t gx13 (fp_m (fr_M_lay x11 (0 : Int32) x13.2) (by decide) (by decide) (by decide))) (fun x14 gx14 => ?_)
        exact hQ _ (fp_t gx14 (ih x14))
    · refine q_if Q (fun _ => ?_) (fun _ => ?_)
      · refine q_let0 Q (fun x15 => ?_)
        refine q_call Q (R := fun (x16 : mS) => fp aw_lp_M_sumUp_9 fw_lp_M_sumUp_9 false s x16) (fp_t fp_r (fp_m (fr_M_next0 s) (by decide) (by decide) (by decide))) (fun x16 gx16 => ?_)
        refine q_call Q (R := fun (x17 : Int32 × mS) => fp aw_lp_M_sumUp_9 fw_lp_M_sumUp_9 false s x17.2) (fp_t gx16 (fp_m (fr_M_product x16) (by decide) (by decide) (by decide))) (fun x17 gx17 => ?_)
        refine q_if Q (fun _ => ?_) (fun _ => ?_)
        · exact hQ _ gx17
        · refine q_call Q (R := fun (x18 : mS) => fp aw_lp_M_sumUp_9 fw_lp_M_sumUp_9 false s x18) (fp_t gx17 (fp_m (fr_M_lay x15 (0 : Int32) x17.2) (by decide) (by decide) (by decide))) (fun x18 gx18 => ?_)
          exact hQ _ (fp_t gx18 (ih x18))
      · exact hQ _ fp_r
def aw_M_sumUp : List Nat := [166]
def fw_M_sumUp : List (Nat × Nat) := [(116, 79), (116, 81), (116, 82), (116, 83), (116, 84), (116, 85), (116, 86)]
theorem fr_M_sumUp   (s : mS) : fp aw_M_sumUp fw_M_sumUp false s (f_M_sumUp s).2 := by
  refine (fun (Q : Int32 × mS → Prop) (hQ : ∀ r, fp aw_M_sumUp fw_M_sumUp false s r.2 → Q r) => ?_ : ∀ Q : Int32 × mS → Prop, (∀ r, fp aw_M_sumUp fw_M_sumUp false s r.2 → Q r) → Q (f_M_sumUp s)) (fun r => fp aw_M_sumUp fw_M_sumUp false s r.2) (fun _ h => h)
  unfold f_M_sumUp
  refine q_call Q (R := fun (x10 : Int32 × mS) => fp aw_M_sumUp fw_M_sumUp false s x10.2) (fp_t fp_r (fp_m (fr_M_product s) (by decide) (by decide) (by decide))) (fun x10 gx10 => ?_)
  refine q_if Q (fun _ => ?_) (fun _ => ?_)
  · exact hQ _ gx10
  · refine q_call Q (R := fun (x19 : Option Int32 × mS) => fp aw_M_sumUp fw_M_sumUp false s x19.2) (fp_t gx10 (fp_m (fr_lp_M_sumUp_9 mm_N x10.2) (by decide) (by decide) (by decide))) (fun x19 gx19 => ?_)
    refine q_el Q (fun v => ?_) ?_
    · exact hQ _ gx19
    exact hQ _ gx19
def aw_M_opens : List Nat := []
def fw_M_opens : List (Nat × Nat) := [(116, 81), (116, 82), (116, 83), (116, 84), (116, 85), (116, 86), (116, 88)]
theorem fr_M_opens   (s : mS) : fp aw_M_opens fw_M_opens false s (f_M_opens s).2 := by
  refine (fun (Q : Int32 × mS → Prop) (hQ : ∀ r, fp aw_M_opens fw_M_opens false s r.2 → Q r) => ?_ : ∀ Q : Int32 × mS → Prop, (∀ r, fp aw_M_opens fw_M_opens false s r.2 → Q r) → Q (f_M_opens s)) (fun r => fp aw_M_opens fw_M_opens false s r.2) (fun _ h => h)
  unfold f_M_opens
  refine q_if Q (fun _ => ?_) (fun _ => ?_)
  · refine q_call Q (R := fun (x10 : Int32 × mS) => fp aw_M_opens fw_M_opens false s x10.2) (fp_t fp_r (fp_m (fr_M_bad (3 : Int32) s) (by decide) (by decide) (by decide))) (fun x10 gx10 => ?_)
    exact hQ _ gx10
  · refine q_call Q (R := fun (x11 : mS) => fp aw_M_opens fw_M_opens false s x11) (fp_t (fp_IF fp_r (by decide)) (fp_m (fr_M_next0 (sI s 116 88 ((gI s 116 88) + 1))) (by decide) (by decide) (by decide))) (fun x11 gx11 => ?_)
    exact hQ _ gx11
def aw_lp_M_every_9 : List Nat := [166]
def fw_lp_M_every_9 : List (Nat × Nat) := [(116, 79), (116, 81), (116, 82), (116, 83), (116, 84), (116, 85), (116, 86), (116, 88)]
theorem fr_lp_M_every_9 (rf : mS → Int32 × mS) (hfr : ∀  (s : mS), fp aw_REC_M_one fw_REC_M_one false s (rf  s).2)  : ∀ (n : Nat)  (s : mS), fp aw_lp_M_every_9 fw_lp_M_every_9 false s (lp_M_every_9 rf n s).2 := by
  intro n
  induction n with
  | zero => intro s; exact fp_r
  | succ n ih =>
    intro s
    refine (fun (Q : Option Int32 × mS → Prop) (hQ : ∀ r, fp aw_lp_M_every_9 fw_lp_M_every_9 false s r.2 → Q r) => ?_ : ∀ Q : Option Int32 × mS → Prop, (∀ r, fp aw_lp_M_every_9 fw_lp_M_every_9 false s r.2 → Q r) → Q (lp_M_every_9 rf (n + 1) s)) (fun r => fp aw_lp_M_every_9 fw_lp_M_every_9 false s r.2) (fun _ h => h)
    rw [lp_M_every_9]
    refine q_if Q (fun _ => ?_) (fun _ => ?_)
    · refine q_call Q (R := fun (x11 : mS) => fp aw_lp_M_every_9 fw_lp_M_every_9 false s x11) (fp_t fp_r (fp_m (fr_M_next0 s) (by decide) (by decide) (by decide))) (fun x11 gx11 => ?_)
      refine q_call Q (R := fun (x12 : Int32 × mS) => fp aw_lp_M_every_9 fw_lp_M_every_9 false s x12.2) (fp_t gx11 (fp_m (hfr x11) (by decide) (by decide) (by decide))) (fun x12 gx12 => ?_)
      refine q_if Q (fun _ => ?_) (fun _ => ?_)
      · exact hQ _ gx12
      · refine q_call Q (R := fun (x13 : mS) => fp aw_lp_M_every_9 fw_lp_M_every_9 false s x13) (fp_t gx12 (fp_m (fr_M_lay (14 : Int32) (0 : Int32) x12.2) (by decide) (by decide) (by decide))) (fun x13 gx13 => ?_)
        exact hQ _ (fp_t gx13 (ih x13))
    · exact hQ _ fp_r
def aw_M_every : List Nat := [166]
def fw_M_every : List (Nat × Nat) := [(116, 79), (116, 81), (116, 82), (116, 83), (116, 84), (116, 85), (116, 86), (116, 88)]
theorem fr_M_every (rf : mS → Int32 × mS) (hfr : ∀  (s : mS), fp aw_REC_M_one fw_REC_M_one false s (rf  s).2)  (s : mS) : fp aw_M_every fw_M_every false s (f_M_every rf s).2 := by
  refine (fun (Q : Int32 × mS → Prop) (hQ : ∀ r, fp aw_M_every fw_M_every false s r.2 → Q r) => ?_ : ∀ Q : Int32 × mS → Prop, (∀ r, fp aw_M_every fw_M_every false s r.2 → Q r) → Q (f_M_every rf s)) (fun r => fp aw_M_every fw_M_every false s r.2) (fun _ h => h)
  unfold f_M_every
  refine q_call Q (R := fun (x10 : Int32 × mS) => fp aw_M_every fw_M_every false s x10.2) (fp_t fp_r (fp_m (hfr s) (by decide) (by decide) (by decide))) (fun x10 gx10 => ?_)
  refine q_if Q (fun _ => ?_) (fun _ => ?_)
  · exact hQ _ gx10
  · refine q_call Q (R := fun (x14 : Option Int32 × mS) => fp aw_M_every fw_M_every false s x14.2) (fp_t gx10 (fp_m (fr_lp_M_every_9 rf hfr mm_N x10.2) (by decide) (by decide) (by decide))) (fun x14 gx14 => ?_)
    refine q_el Q (fun v => ?_) ?_
    · exact hQ _ gx14
    exact hQ _ gx14
def aw_lp_M_any_9 : List Nat := [166]
def fw_lp_M_any_9 : List (Nat × Nat) := [(116, 79), (116, 81), (116, 82), (116, 83), (116, 84), (116, 85), (116, 86), (116, 88)]
theorem fr_lp_M_any_9 (rf : mS → Int32 × mS) (hfr : ∀  (s : mS), fp aw_REC_M_one fw_REC_M_one false s (rf  s).2)  : ∀ (n : Nat)  (s : mS), fp aw_lp_M_any_9 fw_lp_M_any_9 false s (lp_M_any_9 rf n s).2 := by
  intro n
  induction n with
  | zero => intro s; exact fp_r
  | succ n ih =>
    intro s
    refine (fun (Q : Option Int32 × mS → Prop) (hQ : ∀ r, fp aw_lp_M_any_9 fw_lp_M_any_9 false s r.2 → Q r) => ?_ : ∀ Q : Option Int32 × mS → Prop, (∀ r, fp aw_lp_M_any_9 fw_lp_M_any_9 false s r.2 → Q r) → Q (lp_M_any_9 rf (n + 1) s)) (fun r => fp aw_lp_M_any_9 fw_lp_M_any_9 false s r.2) (fun _ h => h)
    rw [lp_M_any_9]
    refine q_if Q (fun _ => ?_) (fun _ => ?_)
    · refine q_call Q (R := fun (x11 : mS) => fp aw_lp_M_any_9 fw_lp_M_any_9 false s x11) (fp_t fp_r (fp_m (fr_M_next0 s) (by decide) (by decide) (by decide))) (fun x11 gx11 => ?_)
      refine q_call Q (R := fun (x12 : Int32 × mS) => fp aw_lp_M_any_9 fw_lp_M_any_9 false s x12.2) (fp_t gx11 (fp_m (fr_M_every rf hfr x11) (by decide) (by decide) (by decide))) (fun x12 gx12 => ?_)
      refine q_if Q (fun _ => ?_) (fun _ => ?_)
      · exact hQ _ gx12
      · refine q_call Q (R := fun (x13 : mS) => fp aw_lp_M_any_9 fw_lp_M_any_9 false s x13) (fp_t gx12 (fp_m (fr_M_lay (15 : Int32) (0 : Int32) x12.2) (by decide) (by decide) (by decide))) (fun x13 gx13 => ?_)
        exact hQ _ (fp_t gx13 (ih x13))
    · exact hQ _ fp_r
def aw_M_any : List Nat := [166]
def fw_M_any : List (Nat × Nat) := [(116, 79), (116, 81), (116, 82), (116, 83), (116, 84), (116, 85), (116, 86), (116, 88)]
theorem fr_M_any (rf : mS → Int32 × mS) (hfr : ∀  (s : mS), fp aw_REC_M_one fw_REC_M_one false s (rf  s).2)  (s : mS) : fp aw_M_any fw_M_any false s (f_M_any rf s).2 := by
  refine (fun (Q : Int32 × mS → Prop) (hQ : ∀ r, fp aw_M_any fw_M_any false s r.2 → Q r) => ?_ : ∀ Q : Int32 × mS → Prop, (∀ r, fp aw_M_any fw_M_any false s r.2 → Q r) → Q (f_M_any rf s)) (fun r => fp aw_M_any fw_M_any false s r.2) (fun _ h => h)
  unfold f_M_any
  refine q_call Q (R := fun (x10 : Int32 × mS) => fp aw_M_any fw_M_any false s x10.2) (fp_t fp_r (fp_m (fr_M_every rf hfr s) (by decide) (by decide) (by decide))) (fun x10 gx10 => ?_)
  refine q_if Q (fun _ => ?_) (fun _ => ?_)
  · exact hQ _ gx10
  · refine q_call Q (R := fun (x14 : Option Int32 × mS) => fp aw_M_any fw_M_any false s x14.2) (fp_t gx10 (fp_m (fr_lp_M_any_9 rf hfr mm_N x10.2) (by decide) (by decide) (by decide))) (fun x14 gx14 => ?_)
    refine q_el Q (fun v => ?_) ?_
    · exact hQ _ gx14
    exact hQ _ gx14
def aw_M_need : List Nat := []
def fw_M_need : List (Nat × Nat) := [(116, 81), (116, 82), (116, 83), (116, 84), (116, 85), (116, 86)]
theorem fr_M_need  (a1 : Int32) (s : mS) : fp aw_M_need fw_M_need false s (f_M_need a1 s).2 := by
  refine (fun (Q : Int32 × mS → Prop) (hQ : ∀ r, fp aw_M_need fw_M_need false s r.2 → Q r) => ?_ : ∀ Q : Int32 × mS → Prop, (∀ r, fp aw_M_need fw_M_need false s r.2 → Q r) → Q (f_M_need a1 s)) (fun r => fp aw_M_need fw_M_need false s r.2) (fun _ h => h)
  unfold f_M_need
  refine q_if Q (fun _ => ?_) (fun _ => ?_)
  · refine q_call Q (R := fun (x10 : mS) => fp aw_M_need fw_M_need false s x10) (fp_t fp_r (fp_m (fr_M_next0 s) (by decide) (by decide) (by decide))) (fun x10 gx10 => ?_)
    exact hQ _ gx10
  · refine q_call Q (R := fun (x11 : Int32 × mS) => fp aw_M_need fw_M_need false s x11.2) (fp_t fp_r (fp_m (fr_M_bad (1 : Int32) s) (by decide) (by decide) (by decide))) (fun x11 gx11 => ?_)
    exact hQ _ gx11
def aw_M_one : List Nat := [166]
def fw_M_one : List (Nat × Nat) := [(116, 79), (116, 81), (116, 82), (116, 83), (116, 84), (116, 85), (116, 86), (116, 88)]
theorem fr_M_one (rf : mS → Int32 × mS) (hfr : ∀  (s : mS), fp aw_REC_M_one fw_REC_M_one false s (rf  s).2)  (s : mS) : fp aw_M_one fw_M_one false s (f_M_one rf s).2 := by
  refine (fun (Q : Int32 × mS → Prop) (hQ : ∀ r, fp aw_M_one fw_M_one false s r.2 → Q r) => ?_ : ∀ Q : Int32 × mS → Prop, (∀ r, fp aw_M_one fw_M_one false s r.2 → Q r) → Q (f_M_one rf s)) (fun r => fp aw_M_one fw_M_one false s r.2) (fun _ h => h)
  unfold f_M_one
  refine q_if Q (fun _ => ?_) (fun _ => ?_)
  · refine q_call Q (R := fun (x10 : Int32 × mS) => fp aw_M_one fw_M_one false s x10.2) (fp_t fp_r (fp_m (fr_M_opens s) (by decide) (by decide) (by decide))) (fun x10 gx10 => ?_)
    refine q_if Q (fun _ => ?_) (fun _ => ?_)
    · exact hQ _ gx10
    · refine q_call Q (R := fun (x11 : Int32 × mS) => fp aw_M_one fw_M_one false s x11.2) (fp_t gx10 (fp_m (hfr x10.2) (by decide) (by decide) (by decide))) (fun x11 gx11 => ?_)
      refine q_if Q (fun _ => ?_) (fun _ => ?_)
      · exact hQ _ gx11
      · refine q_call Q (R := fun (x12 : mS) => fp aw_M_one fw_M_one false s x12) (fp_t (fp_IF gx11 (by decide)) (fp_m (fr_M_lay (13 : Int32) (0 : Int32) (sI x11.2 116 88 ((gI x11.2 116 88) - 1))) (by decide) (by decide) (by decide))) (fun x12 gx12 => ?_)
        exact hQ _ gx12
  · refine q_if Q (fun _ => ?_) (fun _ => ?_)
    · refine q_call Q (R := fun (x13 : Int32 × mS) => fp aw_M_one fw_M_one false s x13.2) (fp_t fp_r (fp_m (fr_M_opens s) (by decide) (by decide) (by decide))) (fun x13 gx13 => ?_)
      refine q_if Q (fun _ => ?_) (fun _ => ?_)
      · exact hQ _ gx13
      · refine q_call Q (R := fun (x14 : Int32 × mS) => fp aw_M_one fw_M_one false s x14.2) (fp_t gx13 (fp_m (fr_M_any rf hfr x13.2) (by decide) (by decide) (by decide))) (fun x14 gx14 => ?_)
        refine q_if Q (fun _ => ?_) (fun _ => ?_)
        · exact hQ _ gx14
        · refine q_call Q (R := fun (x15 : Int32 × mS) => fp aw_M_one fw_M_one false s x15.2) (fp_t gx14 (fp_m (fr_M_need (41 : Int32) x14.2) (by decide) (by decide) (by decide))) (fun x15 gx15 => ?_)
          refine q_if Q (fun _ => ?_) (fun _ => ?_)
          · exact hQ _ gx15
          · exact hQ _ (fp_IF gx15 (by decide))
    · refine q_call Q (R := fun (x16 : Int32 × mS) => fp aw_M_one fw_M_one false s x16.2) (fp_t fp_r (fp_m (fr_M_sumUp s) (by decide) (by decide) (by decide))) (fun x16 gx16 => ?_)
      refine q_if Q (fun _ => ?_) (fun _ => ?_)
      · exact hQ _ gx16
      · refine q_let0 Q (fun x17 => ?_)
        refine q_if Q (fun _ => ?_) (fun _ => ?_)
        · refine q_call Q (R := fun (x18 : Int32 × mS) => fp aw_M_one fw_M_one false s x18.2) (fp_t gx16 (fp_m (fr_M_bad (1 : Int32) x16.2) (by decide) (by decide) (by decide))) (fun x18 gx18 => ?_)
          exact hQ _ gx18
        · refine q_call Q (R := fun (x19 : mS) => fp aw_M_one fw_M_one false s x19) (fp_t gx16 (fp_m (fr_M_next0 x16.2) (by decide) (by decide) (by decide))) (fun x19 gx19 => ?_)
          refine q_call Q (R := fun (x20 : Int32 × mS) => fp aw_M_one fw_M_one false s x20.2) (fp_t gx19 (fp_m (fr_M_sumUp x19) (by decide) (by decide) (by decide))) (fun x20 gx20 => ?_)
          refine q_if Q (fun _ => ?_) (fun _ => ?_)
          · exact hQ _ gx20
          · refine q_call Q (R := fun (x21 : mS) => fp aw_M_one fw_M_one false s x21) (fp_t gx20 (fp_m (fr_M_lay x17 (0 : Int32) x20.2) (by decide) (by decide) (by decide))) (fun x21 gx21 => ?_)
            exact hQ _ gx21
theorem fr_F_M_one : ∀ (n : Nat)  (s : mS), fp aw_REC_M_one fw_REC_M_one false s (F_M_one n s).2
  | 0, s => fp_r
  | n + 1, s => fr_M_one (F_M_one n) (fr_F_M_one n) s
theorem fr_M_oneT  (s : mS) : fp aw_REC_M_one fw_REC_M_one false s (f_M_oneT s).2 := fr_F_M_one 9 s
theorem fr_M_anyT (s : mS) : fp aw_M_any fw_M_any false s (f_M_anyT s).2 := fr_M_any (F_M_one 9) (fr_F_M_one 9) s
def aw_M_aLine : List Nat := [163, 164, 165, 166]
def fw_M_aLine : List (Nat × Nat) := [(116, 78), (116, 79), (116, 81), (116, 82), (116, 83), (116, 84), (116, 85), (116, 86), (116, 88)]
theorem fr_M_aLine   (s : mS) : fp aw_M_aLine fw_M_aLine false s (f_M_aLine s).2 := by
  refine (fun (Q : Int32 × mS → Prop) (hQ : ∀ r, fp aw_M_aLine fw_M_aLine false s r.2 → Q r) => ?_ : ∀ Q : Int32 × mS → Prop, (∀ r, fp aw_M_aLine fw_M_aLine false s r.2 → Q r) → Q (f_M_aLine s)) (fun r => fp aw_M_aLine fw_M_aLine false s r.2) (fun _ h => h)
  unfold f_M_aLine
  refine q_let0 Q (fun x10 => ?_)
  refine q_if Q (fun _ => ?_) (fun _ => ?_)
  · refine q_call Q (R := fun (x11 : Int32 × mS) => fp aw_M_aLine fw_M_aLine false s x11.2) (fp_t fp_r (fp_m (fr_M_bad (1 : Int32) s) (by decide) (by decide) (by decide))) (fun x11 gx11 => ?_)
    exact hQ _ gx11
  · refine q_if Q (fun _ => ?_) (fun _ => ?_)
    · refine q_call Q (R := fun (x12 : Int32 × mS) => fp aw_M_aLine fw_M_aLine false s x12.2) (fp_t fp_r (fp_m (fr_M_bad (3 : Int32) s) (by decide) (by decide) (by decide))) (fun x12 gx12 => ?_)
      exact hQ _ gx12
    · refine q_call Q (R := fun (x13 : mS) => fp aw_M_aLine fw_M_aLine false s x13) (fp_t (fp_IF (fp_IA (fp_IA fp_r (by decide)) (by decide)) (by decide)) (fp_m (fr_M_next0 (sI (sI (sI s 163 (ix (gI s 116 78)) ((gI s 116 82) - 301)) 164 (ix (gI s 116 78)) (gI s 116 79)) 116 88 0)) (by decide) (by decide) (by decide))) (fun x13 gx13 => ?_)
      refine q_call Q (R := fun (x14 : Int32 × mS) => fp aw_M_aLine fw_M_aLine false s x14.2) (fp_t gx13 (fp_m (fr_M_sumUp x13) (by decide) (by decide) (by decide))) (fun x14 gx14 => ?_)
      refine q_if Q (fun _ => ?_) (fun _ => ?_)
      · exact hQ _ gx14
      · refine q_if Q (fun _ => ?_) (fun _ => ?_)
        · refine q_call Q (R := fun (x15 : mS) => fp aw_M_aLine fw_M_aLine false s x15) (fp_t (fp_IA gx14 (by decide)) (fp_m (fr_M_next0 (sI x14.2 165 (ix (gI s 116 78)) (gI x14.2 116 79))) (by decide) (by decide) (by decide))) (fun x15 gx15 => ?_)
          refine q_call Q (R := fun (x16 : Int32 × mS) => fp aw_M_aLine fw_M_aLine false s x16.2) (fp_t gx15 (fp_m (fr_M_anyT x15) (by decide) (by decide) (by decide))) (fun x16 gx16 => ?_)
          refine q_if Q (fun _ => ?_) (fun _ => ?_)
          · exact hQ _ gx16
          · refine q_call Q (R := fun (x17 : Int32 × mS) => fp aw_M_aLine fw_M_aLine false s x17.2) (fp_t (fp_IF gx16 (by decide)) (fp_m (fr_M_need (59 : Int32) (sI x16.2 116 78 ((gI x16.2 116 78) + 1))) (by decide) (by decide) (by decide))) (fun x17 gx17 => ?_)
            exact hQ _ gx17
        · refine q_call Q (R := fun (x18 : Int32 × mS) => fp aw_M_aLine fw_M_aLine false s x18.2) (fp_t (fp_IF (fp_IA gx14 (by decide)) (by decide)) (fp_m (fr_M_need (59 : Int32) (sI (sI x14.2 165 (ix (gI s 116 78)) (gI x14.2 116 79)) 116 78 ((gI x14.2 116 78) + 1))) (by decide) (by decide) (by decide))) (fun x18 gx18 => ?_)
          exact hQ _ gx18
def aw_lp_M_act_62 : List Nat := [163, 164, 165, 166]
def fw_lp_M_act_62 : List (Nat × Nat) := [(116, 78), (116, 79), (116, 81), (116, 82), (116, 83), (116, 84), (116, 85), (116, 86), (116, 88)]
theorem fr_lp_M_act_62  (a1 : Int32) (a2 : Int32) : ∀ (n : Nat) (v3 : Int32) (s : mS), fp aw_lp_M_act_62 fw_lp_M_act_62 false s (lp_M_act_62 a1 a2 n v3 s).2 := by
  intro n
  induction n with
  | zero => intro v3 s; exact fp_r
  | succ n ih =>
    intro v3 s
    refine (fun (Q : Int32 × mS → Prop) (hQ : ∀ r, fp aw_lp_M_act_62 fw_lp_M_act_62 false s r.2 → Q r) => ?_ : ∀ Q : Int32 × mS → Prop, (∀ r, fp aw_lp_M_act_62 fw_lp_M_act_62 false s r.2 → Q r) → Q (lp_M_act_62 a1 a2 (n + 1) v3 s)) (fun r => fp aw_lp_M_act_62 fw_lp_M_act_62 false s r.2) (fun _ h => h)
    rw [lp_M_act_62]
    refine q_if Q (fun _ => ?_) (fun _ => ?_)
    · exact hQ _ fp_r
    · refine q_if Q (fun _ => ?_) (fun _ => ?_)
      · exact hQ _ fp_r
      · refine q_call Q (R := fun (x13 : Int32 × mS) => fp aw_lp_M_act_62 fw_lp_M_act_62 false s x13.2) (fp_t fp_r (fp_m (fr_M_aLine s) (by decide) (by decide) (by decide))) (fun x13 gx13 => ?_)
        exact hQ _ (fp_t gx13 (ih x13.1 x13.2))
def aw_lp_M_act_136 : List Nat := [159, 160, 161]
def fw_lp_M_act_136 : List (Nat × Nat) := []
theorem fr_lp_M_act_136  (a1 : Int32) : ∀ (n : Nat) (v4 : Int32) (s : mS), fp aw_lp_M_act_136 fw_lp_M_act_136 false s (lp_M_act_136 a1 n v4 s).2 := by
  intro n
  induction n with
  | zero => intro v4 s; exact fp_r
  | succ n ih =>
    intro v4 s
    refine (fun (Q : Int32 × mS → Prop) (hQ : ∀ r, fp aw_lp_M_act_136 fw_lp_M_act_136 false s r.2 → Q r) => ?_ : ∀ Q : Int32 × mS → Prop, (∀ r, fp aw_lp_M_act_136 fw_lp_M_act_136 false s r.2 → Q r) → Q (lp_M_act_136 a1 (n + 1) v4 s)) (fun r => fp aw_lp_M_act_136 fw_lp_M_act_136 false s r.2) (fun _ h => h)
    rw [lp_M_act_136]
    refine q_if Q (fun _ => ?_) (fun _ => ?_)
    · exact hQ _ fp_r
    · exact hQ _ (fp_t (fp_IA (fp_IA (fp_IA fp_r (by decide)) (by decide)) (by decide)) (ih (v4 + 1) (sI (sI (sI s 159 (ix ((24 * a1) + v4)) (gI s 163 (ix v4))) 160 (ix ((25 * a1) + v4)) (gI s 164 (ix v4))) 161 (ix ((24 * a1) + v4)) (gI s 165 (ix v4)))))
def aw_lp_M_act_229 : List Nat := [162]
def fw_lp_M_act_229 : List (Nat × Nat) := []
theorem fr_lp_M_act_229  (a1 : Int32) : ∀ (n : Nat) (v4 : Int32) (s : mS), fp aw_lp_M_act_229 fw_lp_M_act_229 false s (lp_M_act_229 a1 n v4 s).2 := by
  intro n
  induction n with
  | zero => intro v4 s; exact fp_r
  | succ n ih =>
    intro v4 s
    refine (fun (Q : Int32 × mS → Prop) (hQ : ∀ r, fp aw_lp_M_act_229 fw_lp_M_act_229 false s r.2 → Q r) => ?_ : ∀ Q : Int32 × mS → Prop, (∀ r, fp aw_lp_M_act_229 fw_lp_M_act_229 false s r.2 → Q r) → Q (lp_M_act_229 a1 (n + 1) v4 s)) (fun r => fp aw_lp_M_act_229 fw_lp_M_act_229 false s r.2) (fun _ h => h)
    rw [lp_M_act_229]
    refine q_if Q (fun _ => ?_) (fun _ => ?_)
    · exact hQ _ fp_r
    · exact hQ _ (fp_t (fp_IA fp_r (by decide)) (ih (v4 + 1) (sI s 162 (ix ((1220 * a1) + v4)) (gI s 166 (ix v4)))))
def aw_M_act : List Nat := [157, 158, 159, 160, 161, 162, 163, 164, 165, 166]
def fw_M_act : List (Nat × Nat) := [(116, 78), (116, 79), (116, 80), (116, 81), (116, 82), (116, 83), (116, 84), (116, 85), (116, 86), (116, 87), (116, 88), (116, 89)]
theorem fr_M_act  (a1 : Int32) (a2 : Int32) (s : mS) : fp aw_M_act fw_M_act false s (f_M_act a1 a2 s).2 := by
  refine (fun (Q : Int32 × mS → Prop) (hQ : ∀ r, fp aw_M_act fw_M_act false s r.2 → Q r) => ?_ : ∀ Q : Int32 × mS → Prop, (∀ r, fp aw_M_act fw_M_act false s r.2 → Q r) → Q (f_M_act a1 a2 s)) (fun r => fp aw_M_act fw_M_act false s r.2) (fun _ h => h)
  unfold f_M_act
  refine q_let0 Q (fun x10 => ?_)
  refine q_if Q (fun _ => ?_) (fun _ => ?_)
  · exact hQ _ (fp_IF (fp_IF (fp_IF fp_r (by decide)) (by decide)) (by decide))
  · refine q_let0 Q (fun x11 => ?_)
    refine q_if Q (fun _ => ?_) (fun _ => ?_)
    · exact hQ _ (fp_IF (fp_IF (fp_IF fp_r (by decide)) (by decide)) (by decide))
    · refine q_call Q (R := fun (x12 : mS) => fp aw_M_act fw_M_act false s x12) (fp_t (fp_IF (fp_IF (fp_IF (fp_IF (fp_IF (fp_IF fp_r (by decide)) (by decide)) (by decide)) (by decide)) (by decide)) (by decide)) (fp_m (fr_M_next0 (sI (sI (sI (sI (sI (sI s 116 87 0) 116 89 (-1)) 116 85 0) 116 81 0) 116 78 0) 116 79 0)) (by decide) (by decide) (by decide))) (fun x12 gx12 => ?_)
      refine q_call Q (R := fun (x14 : Int32 × mS) => fp aw_M_act fw_M_act false s x14.2) (fp_t gx12 (fp_m (fr_lp_M_act_62 a1 a2 mm_N (1 : Int32) x12) (by decide) (by decide) (by decide))) (fun x14 gx14 => ?_)
      refine q_let0 Q (fun x16 => ?_)
      refine q_if Q (fun _ => ?_) (fun _ => ?_)
      · exact hQ _ (fp_IF (fp_IF (fp_IF gx14 (by decide)) (by decide)) (by decide))
      · refine q_call Q (R := fun (x17 : Int32 × mS) => fp aw_M_act fw_M_act false s x17.2) (fp_t (fp_IA (fp_IA (fp_IF (fp_IF (fp_IF gx14 (by decide)) (by decide)) (by decide)) (by decide)) (by decide)) (fp_m (fr_lp_M_act_136 a1 mm_N (0 : Int32) (sI (sI (sI (sI (sI x14.2 116 80 0) 116 87 (gI x14.2 116 85)) 116 89 x16) 157 (ix a1) a2) 158 (ix a1) (gI x14.2 116 78))) (by decide) (by decide) (by decide))) (fun x17 gx17 => ?_)
        refine q_call Q (R := fun (x20 : Int32 × mS) => fp aw_M_act fw_M_act false s x20.2) (fp_t (fp_IA gx17 (by decide)) (fp_m (fr_lp_M_act_229 a1 mm_N (0 : Int32) (sI x17.2 160 (ix ((25 * a1) + (gI x17.2 116 78))) (gI x17.2 116 79))) (by decide) (by decide) (by decide))) (fun x20 gx20 => ?_)
        exact hQ _ gx20
def aw_G_due : List Nat := [39]
def fw_G_due : List (Nat × Nat) := [(36, 3), (36, 8), (36, 9)]
theorem fr_G_due  (a1 : Int32) (a2 : Int32) (a3 : Int32) (a4 : Int32) (s : mS) (hP : ∀ j, mq_A (gP s j)) : fp aw_G_due fw_G_due true s (f_G_due a1 a2 a3 a4 s).2 := by
  refine (fun (Q : Int32 × mS → Prop) (hQ : ∀ r, fp aw_G_due fw_G_due true s r.2 → Q r) => ?_ : ∀ Q : Int32 × mS → Prop, (∀ r, fp aw_G_due fw_G_due true s r.2 → Q r) → Q (f_G_due a1 a2 a3 a4 s)) (fun r => fp aw_G_due fw_G_due true s r.2) (fun _ h => h)
  unfold f_G_due
  refine q_let0 Q (fun x10 => ?_)
  refine q_if Q (fun _ => ?_) (fun _ => ?_)
  · exact hQ _ fp_r
  · refine q_let0 Q (fun x11 => ?_)
    refine q_if Q (fun _ => ?_) (fun _ => ?_)
    · exact hQ _ fp_r
    · refine q_call Q (R := fun (x12 : mS) => fp aw_G_due fw_G_due true s x12) (fp_t fp_r (fp_m (fr_Laws_judge a1 a2 a3 s (fp_P (show fp aw_G_due fw_G_due true s s from fp_r) hP)) (by decide) (by decide) (by decide))) (fun x12 gx12 => ?_)
      refine q_if Q (fun _ => ?_) (fun _ => ?_)
      · exact hQ _ gx12
      · refine q_if Q (fun _ => ?_) (fun _ => ?_)
        · exact hQ _ gx12
        · refine q_if Q (fun _ => ?_) (fun _ => ?_)
          · refine q_if Q (fun _ => ?_) (fun _ => ?_)
            · exact hQ _ gx12
            · exact hQ _ gx12
          · exact hQ _ gx12
def aw_M_due : List Nat := [168, 169]
def fw_M_due : List (Nat × Nat) := [(116, 91), (116, 92), (116, 93)]
theorem fr_M_due  (a1 : Int32) (a2 : Int32) (a3 : Int32) (a4 : Int32) (s : mS) : fp aw_M_due fw_M_due false s (f_M_due a1 a2 a3 a4 s).2 := by
  refine (fun (Q : Int32 × mS → Prop) (hQ : ∀ r, fp aw_M_due fw_M_due false s r.2 → Q r) => ?_ : ∀ Q : Int32 × mS → Prop, (∀ r, fp aw_M_due fw_M_due false s r.2 → Q r) → Q (f_M_due a1 a2 a3 a4 s)) (fun r => fp aw_M_due fw_M_due false s r.2) (fun _ h => h)
  unfold f_M_due
  refine q_let0 Q (fun x10 => ?_)
  refine q_if Q (fun _ => ?_) (fun _ => ?_)
  · exact hQ _ fp_r
  · refine q_let0 Q (fun x11 => ?_)
    refine q_if Q (fun _ => ?_) (fun _ => ?_)
    · exact hQ _ fp_r
    · refine q_let0 Q (fun x12 => ?_)
      refine q_if Q (fun _ => ?_) (fun _ => ?_)
      · exact hQ _ fp_r
      · refine q_call Q (R := fun (x13 : Int32 × mS) => fp aw_M_due fw_M_due false s x13.2) (fp_t fp_r (fp_m (fr_M_dueOf a1 a2 a3 s) (by decide) (by decide) (by decide))) (fun x13 gx13 => ?_)
        refine q_if Q (fun _ => ?_) (fun _ => ?_)
        · exact hQ _ gx13
        · refine q_if Q (fun _ => ?_) (fun _ => ?_)
          · exact hQ _ gx13
          · refine q_if Q (fun _ => ?_) (fun _ => ?_)
            · exact hQ _ gx13
            · exact hQ _ gx13
def aw_G_tries : List Nat := [39]
def fw_G_tries : List (Nat × Nat) := [(36, 3), (36, 8), (36, 9), (82, 15)]
theorem fr_G_tries  (a1 : Int32) (s : mS) (hP : ∀ j, mq_A (gP s j)) : fp aw_G_tries fw_G_tries true s (f_G_tries a1 s).2 := by
  refine (fun (Q : Int32 × mS → Prop) (hQ : ∀ r, fp aw_G_tries fw_G_tries true s r.2 → Q r) => ?_ : ∀ Q : Int32 × mS → Prop, (∀ r, fp aw_G_tries fw_G_tries true s r.2 → Q r) → Q (f_G_tries a1 s)) (fun r => fp aw_G_tries fw_G_tries true s r.2) (fun _ h => h)
  unfold f_G_tries
  refine q_let0 Q (fun x10 => ?_)
  refine q_if Q (fun _ => ?_) (fun _ => ?_)
  · exact hQ _ fp_r
  · refine q_call Q (R := fun (x11 : mS) => fp aw_G_tries fw_G_tries true s x11) (fp_t fp_r (fp_m (fr_Laws_judge (1 : Int32) (gI s 0 9) (0 : Int32) s (fp_P (show fp aw_G_tries fw_G_tries true s s from fp_r) hP)) (by decide) (by decide) (by decide))) (fun x11 gx11 => ?_)
    refine q_if Q (fun _ => ?_) (fun _ => ?_)
    · refine q_call Q (R := fun (x12 : mS) => fp aw_G_tries fw_G_tries true s x12) (fp_t gx11 (fp_m (fr_Laws_judge (3 : Int32) (gI x11 0 9) ((gI x11 36 8) - a1) x11 (fp_P (show fp aw_G_tries fw_G_tries true s x11 from gx11) hP)) (by decide) (by decide) (by decide))) (fun x12 gx12 => ?_)
      exact hQ _ (fp_LF gx12 (by decide))
    · exact hQ _ gx11
def aw_M_tries : List Nat := [168, 169]
def fw_M_tries : List (Nat × Nat) := [(116, 41), (116, 91), (116, 92), (116, 93)]
theorem fr_M_tries  (a1 : Int32) (s : mS) : fp aw_M_tries fw_M_tries false s (f_M_tries a1 s).2 := by
  refine (fun (Q : Int32 × mS → Prop) (hQ : ∀ r, fp aw_M_tries fw_M_tries false s r.2 → Q r) => ?_ : ∀ Q : Int32 × mS → Prop, (∀ r, fp aw_M_tries fw_M_tries false s r.2 → Q r) → Q (f_M_tries a1 s)) (fun r => fp aw_M_tries fw_M_tries false s r.2) (fun _ h => h)
  unfold f_M_tries
  refine q_let0 Q (fun x10 => ?_)
  refine q_if Q (fun _ => ?_) (fun _ => ?_)
  · exact hQ _ fp_r
  · refine q_call Q (R := fun (x11 : Int32 × mS) => fp aw_M_tries fw_M_tries false s x11.2) (fp_t fp_r (fp_m (fr_M_dueOf (1 : Int32) (gI s 116 1) (0 : Int32) s) (by decide) (by decide) (by decide))) (fun x11 gx11 => ?_)
    refine q_if Q (fun _ => ?_) (fun _ => ?_)
    · exact hQ _ gx11
    · refine q_if Q (fun _ => ?_) (fun _ => ?_)
      · refine q_call Q (R := fun (x12 : Int32 × mS) => fp aw_M_tries fw_M_tries false s x12.2) (fp_t gx11 (fp_m (fr_M_dueOf (3 : Int32) (gI x11.2 116 1) (x11.1 - a1) x11.2) (by decide) (by decide) (by decide))) (fun x12 gx12 => ?_)
        refine q_let0 Q (fun x13 => ?_)
        exact hQ _ (fp_LF gx12 (by decide))
      · exact hQ _ gx11
def aw_lp_G_gain_37 : List Nat := [39]
def fw_lp_G_gain_37 : List (Nat × Nat) := [(36, 3), (36, 8), (36, 9)]
theorem fr_lp_G_gain_37   : ∀ (n : Nat) (v1 : Int64) (v3 : Int32) (s : mS), (∀ j, mq_A (gP s j)) → fp aw_lp_G_gain_37 fw_lp_G_gain_37 true s (lp_G_gain_37 n v1 v3 s).2.2 := by
  intro n
  induction n with
  | zero => intro v1 v3 s _; exact fp_r
  | succ n ih =>
    intro v1 v3 s hP
    refine (fun (Q : Int64 × Int32 × mS → Prop) (hQ : ∀ r, fp aw_lp_G_gain_37 fw_lp_G_gain_37 true s r.2.2 → Q r) => ?_ : ∀ Q : Int64 × Int32 × mS → Prop, (∀ r, fp aw_lp_G_gain_37 fw_lp_G_gain_37 true s r.2.2 → Q r) → Q (lp_G_gain_37 (n + 1) v1 v3 s)) (fun r => fp aw_lp_G_gain_37 fw_lp_G_gain_37 true s r.2.2) (fun _ h => h)
    rw [lp_G_gain_37]
    refine q_if Q (fun _ => ?_) (fun _ => ?_)
    · exact hQ _ fp_r
    · refine q_if Q (fun _ => ?_) (fun _ => ?_)
      · exact hQ _ fp_r
      · refine q_call Q (R := fun (x11 : Int64 × mS) => fp aw_lp_G_gain_37 fw_lp_G_gain_37 true s x11.2) (fp_t fp_r (fp_m (fr_G_billOf v3 s (fp_P (show fp aw_lp_G_gain_37 fw_lp_G_gain_37 true s s from fp_r) hP)) (by decide) (by decide) (by decide))) (fun x11 gx11 => ?_)
        exact hQ _ (fp_t gx11 (ih (v1 + x11.1) (v3 + 1) x11.2 (fp_P (show fp aw_lp_G_gain_37 fw_lp_G_gain_37 true s x11.2 from gx11) hP)))
def aw_G_gain : List Nat := [39, 89, 90]
def fw_G_gain : List (Nat × Nat) := [(36, 3), (36, 8), (36, 9)]
theorem fr_G_gain   (s : mS) (hP : ∀ j, mq_A (gP s j)) : fp aw_G_gain fw_G_gain true s (f_G_gain s).2 := by
  refine (fun (Q : Int64 × mS → Prop) (hQ : ∀ r, fp aw_G_gain fw_G_gain true s r.2 → Q r) => ?_ : ∀ Q : Int64 × mS → Prop, (∀ r, fp aw_G_gain fw_G_gain true s r.2 → Q r) → Q (f_G_gain s)) (fun r => fp aw_G_gain fw_G_gain true s r.2) (fun _ h => h)
  unfold f_G_gain
  refine q_call Q (R := fun (x10 : mS) => fp aw_G_gain fw_G_gain true s x10) (fp_t fp_r (fp_m (fr_Books_know (gI s 0 9) s) (by decide) (by decide) (by decide))) (fun x10 gx10 => ?_)
  refine q_call Q (R := fun (x12 : Int64 × Int32 × mS) => fp aw_G_gain fw_G_gain true s x12.2.2) (fp_t gx10 (fp_m (fr_lp_G_gain_37 mm_N (((gL x10 82 14) - (gL x10 82 13)) - (gL x10 82 15)) (0 : Int32) x10 (fp_P (show fp aw_G_gain fw_G_gain true s x10 from gx10) hP)) (by decide) (by decide) (by decide))) (fun x12 gx12 => ?_)
  exact hQ _ gx12
def aw_G_mayBePaid : List Nat := [39]
def fw_G_mayBePaid : List (Nat × Nat) := [(36, 3), (36, 8), (36, 9)]
theorem fr_G_mayBePaid   (s : mS) (hP : ∀ j, mq_A (gP s j)) : fp aw_G_mayBePaid fw_G_mayBePaid true s (f_G_mayBePaid s).2 := by
  refine (fun (Q : Int64 × mS → Prop) (hQ : ∀ r, fp aw_G_mayBePaid fw_G_mayBePaid true s r.2 → Q r) => ?_ : ∀ Q : Int64 × mS → Prop, (∀ r, fp aw_G_mayBePaid fw_G_mayBePaid true s r.2 → Q r) → Q (f_G_mayBePaid s)) (fun r => fp aw_G_mayBePaid fw_G_mayBePaid true s r.2) (fun _ h => h)
  unfold f_G_mayBePaid
  refine q_call Q (R := fun (x10 : mS) => fp aw_G_mayBePaid fw_G_mayBePaid true s x10) (fp_t fp_r (fp_m (fr_Laws_judge (4 : Int32) (gI s 0 9) (0 : Int32) s (fp_P (show fp aw_G_mayBePaid fw_G_mayBePaid true s s from fp_r) hP)) (by decide) (by decide) (by decide))) (fun x10 gx10 => ?_)
  exact hQ _ gx10
def aw_G_share : List Nat := [39, 89, 90]
def fw_G_share : List (Nat × Nat) := [(36, 3), (36, 8), (36, 9)]
theorem fr_G_share  (a1 : Int32) (s : mS) (hP : ∀ j, mq_A (gP s j)) : fp aw_G_share fw_G_share true s (f_G_share a1 s).2 := by
  refine (fun (Q : Int64 × mS → Prop) (hQ : ∀ r, fp aw_G_share fw_G_share true s r.2 → Q r) => ?_ : ∀ Q : Int64 × mS → Prop, (∀ r, fp aw_G_share fw_G_share true s r.2 → Q r) → Q (f_G_share a1 s)) (fun r => fp aw_G_share fw_G_share true s r.2) (fun _ h => h)
  unfold f_G_share
  refine q_if Q (fun _ => ?_) (fun _ => ?_)
  · refine q_call Q (R := fun (x10 : Int64 × mS) => fp aw_G_share fw_G_share true s x10.2) (fp_t fp_r (fp_m (fr_G_gain s (fp_P (show fp aw_G_share fw_G_share true s s from fp_r) hP)) (by decide) (by decide) (by decide))) (fun x10 gx10 => ?_)
    exact hQ _ gx10
  · refine q_if Q (fun _ => ?_) (fun _ => ?_)
    · refine q_call Q (R := fun (x11 : Int64 × mS) => fp aw_G_share fw_G_share true s x11.2) (fp_t fp_r (fp_m (fr_G_mayBePaid s (fp_P (show fp aw_G_share fw_G_share true s s from fp_r) hP)) (by decide) (by decide) (by decide))) (fun x11 gx11 => ?_)
      exact hQ _ gx11
    · refine q_if Q (fun _ => ?_) (fun _ => ?_)
      · refine q_call Q (R := fun (x12 : Int64 × mS) => fp aw_G_share fw_G_share true s x12.2) (fp_t fp_r (fp_m (fr_G_gain s (fp_P (show fp aw_G_share fw_G_share true s s from fp_r) hP)) (by decide) (by decide) (by decide))) (fun x12 gx12 => ?_)
        exact hQ _ gx12
      · refine q_if Q (fun _ => ?_) (fun _ => ?_)
        · refine q_call Q (R := fun (x13 : Int64 × mS) => fp aw_G_share fw_G_share true s x13.2) (fp_t fp_r (fp_m (fr_G_mayBePaid s (fp_P (show fp aw_G_share fw_G_share true s s from fp_r) hP)) (by decide) (by decide) (by decide))) (fun x13 gx13 => ?_)
          refine q_call Q (R := fun (x14 : Int64 × mS) => fp aw_G_share fw_G_share true s x14.2) (fp_t gx13 (fp_m (fr_G_gain x13.2 (fp_P (show fp aw_G_share fw_G_share true s x13.2 from gx13) hP)) (by decide) (by decide) (by decide))) (fun x14 gx14 => ?_)
          exact hQ _ gx14
        · exact hQ _ fp_r
def aw_lp_M_gain_40 : List Nat := [168, 169]
def fw_lp_M_gain_40 : List (Nat × Nat) := [(116, 91), (116, 92), (116, 93)]
theorem fr_lp_M_gain_40  (a3 : Int32) : ∀ (n : Nat) (v1 : Int64) (v4 : Int32) (s : mS), fp aw_lp_M_gain_40 fw_lp_M_gain_40 false s (lp_M_gain_40 a3 n v1 v4 s).2.2 := by
  intro n
  induction n with
  | zero => intro v1 v4 s; exact fp_r
  | succ n ih =>
    intro v1 v4 s
    refine (fun (Q : Int64 × Int32 × mS → Prop) (hQ : ∀ r, fp aw_lp_M_gain_40 fw_lp_M_gain_40 false s r.2.2 → Q r) => ?_ : ∀ Q : Int64 × Int32 × mS → Prop, (∀ r, fp aw_lp_M_gain_40 fw_lp_M_gain_40 false s r.2.2 → Q r) → Q (lp_M_gain_40 a3 (n + 1) v1 v4 s)) (fun r => fp aw_lp_M_gain_40 fw_lp_M_gain_40 false s r.2.2) (fun _ h => h)
    rw [lp_M_gain_40]
    refine q_let0 Q (fun x10 => ?_)
    refine q_if Q (fun _ => ?_) (fun _ => ?_)
    · exact hQ _ fp_r
    · refine q_call Q (R := fun (x11 : Int64 × mS) => fp aw_lp_M_gain_40 fw_lp_M_gain_40 false s x11.2) (fp_t fp_r (fp_m (fr_M_billOf a3 v4 (gI s 116 1) s) (by decide) (by decide) (by decide))) (fun x11 gx11 => ?_)
      exact hQ _ (fp_t gx11 (ih (v1 + x11.1) (v4 + 1) x11.2))
def aw_lp_M_gain_17 : List Nat := [168, 169]
def fw_lp_M_gain_17 : List (Nat × Nat) := [(116, 91), (116, 92), (116, 93)]
theorem fr_lp_M_gain_17   : ∀ (n : Nat) (v1 : Int64) (v3 : Int32) (s : mS), fp aw_lp_M_gain_17 fw_lp_M_gain_17 false s (lp_M_gain_17 n v1 v3 s).2.2 := by
  intro n
  induction n with
  | zero => intro v1 v3 s; exact fp_r
  | succ n ih =>
    intro v1 v3 s
    refine (fun (Q : Int64 × Int32 × mS → Prop) (hQ : ∀ r, fp aw_lp_M_gain_17 fw_lp_M_gain_17 false s r.2.2 → Q r) => ?_ : ∀ Q : Int64 × Int32 × mS → Prop, (∀ r, fp aw_lp_M_gain_17 fw_lp_M_gain_17 false s r.2.2 → Q r) → Q (lp_M_gain_17 (n + 1) v1 v3 s)) (fun r => fp aw_lp_M_gain_17 fw_lp_M_gain_17 false s r.2.2) (fun _ h => h)
    rw [lp_M_gain_17]
    refine q_if Q (fun _ => ?_) (fun _ => ?_)
    · exact hQ _ fp_r
    · refine q_if Q (fun _ => ?_) (fun _ => ?_)
      · refine q_call Q (R := fun (x12 : Int64 × Int32 × mS) => fp aw_lp_M_gain_17 fw_lp_M_gain_17 false s x12.2.2) (fp_t fp_r (fp_m (fr_lp_M_gain_40 v3 mm_N v1 (1 : Int32) s) (by decide) (by decide) (by decide))) (fun x12 gx12 => ?_)
        exact hQ _ (fp_t gx12 (ih x12.1 (v3 + 1) x12.2.2))
      · exact hQ _ (fp_t fp_r (ih v1 (v3 + 1) s))
def aw_M_gain : List Nat := [168, 169]
def fw_M_gain : List (Nat × Nat) := [(116, 91), (116, 92), (116, 93)]
theorem fr_M_gain   (s : mS) : fp aw_M_gain fw_M_gain false s (f_M_gain s).2 := by
  refine (fun (Q : Int64 × mS → Prop) (hQ : ∀ r, fp aw_M_gain fw_M_gain false s r.2 → Q r) => ?_ : ∀ Q : Int64 × mS → Prop, (∀ r, fp aw_M_gain fw_M_gain false s r.2 → Q r) → Q (f_M_gain s)) (fun r => fp aw_M_gain fw_M_gain false s r.2) (fun _ h => h)
  unfold f_M_gain
  refine q_call Q (R := fun (x13 : Int64 × Int32 × mS) => fp aw_M_gain fw_M_gain false s x13.2.2) (fp_t fp_r (fp_m (fr_lp_M_gain_17 mm_N (((gL s 116 40) - (gL s 116 39)) - (gL s 116 41)) (0 : Int32) s) (by decide) (by decide) (by decide))) (fun x13 gx13 => ?_)
  exact hQ _ gx13
def aw_M_share : List Nat := [168, 169]
def fw_M_share : List (Nat × Nat) := [(116, 91), (116, 92), (116, 93)]
theorem fr_M_share  (a1 : Int32) (s : mS) : fp aw_M_share fw_M_share false s (f_M_share a1 s).2 := by
  refine (fun (Q : Int64 × mS → Prop) (hQ : ∀ r, fp aw_M_share fw_M_share false s r.2 → Q r) => ?_ : ∀ Q : Int64 × mS → Prop, (∀ r, fp aw_M_share fw_M_share false s r.2 → Q r) → Q (f_M_share a1 s)) (fun r => fp aw_M_share fw_M_share false s r.2) (fun _ h => h)
  unfold f_M_share
  refine q_let0 Q (fun x10 => ?_)
  refine q_if Q (fun _ => ?_) (fun _ => ?_)
  · exact hQ _ fp_r
  · refine q_call Q (R := fun (x11 : Int64 × mS) => fp aw_M_share fw_M_share false s x11.2) (fp_t fp_r (fp_m (fr_M_gain s) (by decide) (by decide) (by decide))) (fun x11 gx11 => ?_)
    refine q_if Q (fun _ => ?_) (fun _ => ?_)
    · exact hQ _ gx11
    · refine q_call Q (R := fun (x12 : Int32 × mS) => fp aw_M_share fw_M_share false s x12.2) (fp_t gx11 (fp_m (fr_M_dueOf (4 : Int32) (gI x11.2 116 1) (0 : Int32) x11.2) (by decide) (by decide) (by decide))) (fun x12 gx12 => ?_)
      refine q_let0 Q (fun x13 => ?_)
      refine q_let0 Q (fun x14 => ?_)
      refine q_let0 Q (fun x15 => ?_)
      refine q_if Q (fun _ => ?_) (fun _ => ?_)
      · exact hQ _ gx12
      · refine q_if Q (fun _ => ?_) (fun _ => ?_)
        · exact hQ _ gx12
        · refine q_if Q (fun _ => ?_) (fun _ => ?_)
          · exact hQ _ gx12
          · exact hQ _ gx12
def aw_lp_Net_walkTo_45 : List Nat := [35]
def fw_lp_Net_walkTo_45 : List (Nat × Nat) := []
theorem fr_lp_Net_walkTo_45  (a2 : Int32) : ∀ (n : Nat) (v3 : Int32) (v4 : Int32) (s : mS), fp aw_lp_Net_walkTo_45 fw_lp_Net_walkTo_45 false s (lp_Net_walkTo_45 a2 n v3 v4 s).2.2 := by
  intro n
  induction n with
  | zero => intro v3 v4 s; exact fp_r
  | succ n ih =>
    intro v3 v4 s
    refine (fun (Q : Int32 × Int32 × mS → Prop) (hQ : ∀ r, fp aw_lp_Net_walkTo_45 fw_lp_Net_walkTo_45 false s r.2.2 → Q r) => ?_ : ∀ Q : Int32 × Int32 × mS → Prop, (∀ r, fp aw_lp_Net_walkTo_45 fw_lp_Net_walkTo_45 false s r.2.2 → Q r) → Q (lp_Net_walkTo_45 a2 (n + 1) v3 v4 s)) (fun r => fp aw_lp_Net_walkTo_45 fw_lp_Net_walkTo_45 false s r.2.2) (fun _ h => h)
    rw [lp_Net_walkTo_45]
    refine q_if Q (fun _ => ?_) (fun _ => ?_)
    · exact hQ _ fp_r
    · refine q_let0 Q (fun x12 => ?_)
      refine q_if Q (fun _ => ?_) (fun _ => ?_)
      · exact hQ _ fp_r
      · exact hQ _ (fp_t (fp_IA fp_r (by decide)) (ih (gI s 26 (ix v3)) (v4 + (-1)) (sI s 35 (ix v4) v3)))
def aw_Net_walkTo : List Nat := [35]
def fw_Net_walkTo : List (Nat × Nat) := []
theorem fr_Net_walkTo  (a1 : Int32) (s : mS) : fp aw_Net_walkTo fw_Net_walkTo false s (f_Net_walkTo a1 s).2 := by
  refine (fun (Q : Int32 × mS → Prop) (hQ : ∀ r, fp aw_Net_walkTo fw_Net_walkTo false s r.2 → Q r) => ?_ : ∀ Q : Int32 × mS → Prop, (∀ r, fp aw_Net_walkTo fw_Net_walkTo false s r.2 → Q r) → Q (f_Net_walkTo a1 s)) (fun r => fp aw_Net_walkTo fw_Net_walkTo false s r.2) (fun _ h => h)
  unfold f_Net_walkTo
  refine q_let0 Q (fun x11 => ?_)
  refine q_call Q (R := fun (x13 : Int32 × Int32 × mS) => fp aw_Net_walkTo fw_Net_walkTo false s x13.2.2) (fp_t fp_r (fp_m (fr_lp_Net_walkTo_45 x11.1 mm_N a1 (x11.1 - 1) s) (by decide) (by decide) (by decide))) (fun x13 gx13 => ?_)
  exact hQ _ gx13
def aw_Net_firstWetOnWay : List Nat := [35]
def fw_Net_firstWetOnWay : List (Nat × Nat) := []
theorem fr_Net_firstWetOnWay  (a1 : Int32) (s : mS) : fp aw_Net_firstWetOnWay fw_Net_firstWetOnWay false s (f_Net_firstWetOnWay a1 s).2 := by
  refine (fun (Q : Int32 × mS → Prop) (hQ : ∀ r, fp aw_Net_firstWetOnWay fw_Net_firstWetOnWay false s r.2 → Q r) => ?_ : ∀ Q : Int32 × mS → Prop, (∀ r, fp aw_Net_firstWetOnWay fw_Net_firstWetOnWay false s r.2 → Q r) → Q (f_Net_firstWetOnWay a1 s)) (fun r => fp aw_Net_firstWetOnWay fw_Net_firstWetOnWay false s r.2) (fun _ h => h)
  unfold f_Net_firstWetOnWay
  refine q_call Q (R := fun (x10 : Int32 × mS) => fp aw_Net_firstWetOnWay fw_Net_firstWetOnWay false s x10.2) (fp_t fp_r (fp_m (fr_Net_walkTo a1 s) (by decide) (by decide) (by decide))) (fun x10 gx10 => ?_)
  refine q_let0 Q (fun x12 => ?_)
  refine q_el Q (fun v => ?_) ?_
  · exact hQ _ gx10
  exact hQ _ gx10
def aw_Net_greatestLossOnWay : List Nat := [35]
def fw_Net_greatestLossOnWay : List (Nat × Nat) := []
theorem fr_Net_greatestLossOnWay  (a1 : Int32) (s : mS) : fp aw_Net_greatestLossOnWay fw_Net_greatestLossOnWay false s (f_Net_greatestLossOnWay a1 s).2 := by
  refine (fun (Q : Int32 × mS → Prop) (hQ : ∀ r, fp aw_Net_greatestLossOnWay fw_Net_greatestLossOnWay false s r.2 → Q r) => ?_ : ∀ Q : Int32 × mS → Prop, (∀ r, fp aw_Net_greatestLossOnWay fw_Net_greatestLossOnWay false s r.2 → Q r) → Q (f_Net_greatestLossOnWay a1 s)) (fun r => fp aw_Net_greatestLossOnWay fw_Net_greatestLossOnWay false s r.2) (fun _ h => h)
  unfold f_Net_greatestLossOnWay
  refine q_call Q (R := fun (x10 : Int32 × mS) => fp aw_Net_greatestLossOnWay fw_Net_greatestLossOnWay false s x10.2) (fp_t fp_r (fp_m (fr_Net_walkTo a1 s) (by decide) (by decide) (by decide))) (fun x10 gx10 => ?_)
  refine q_let0 Q (fun x13 => ?_)
  exact hQ _ gx10
def aw_G_why : List Nat := [35]
def fw_G_why : List (Nat × Nat) := []
theorem fr_G_why  (a1 : Int32) (a2 : Int32) (s : mS) : fp aw_G_why fw_G_why false s (f_G_why a1 a2 s).2 := by
  refine (fun (Q : Int32 × mS → Prop) (hQ : ∀ r, fp aw_G_why fw_G_why false s r.2 → Q r) => ?_ : ∀ Q : Int32 × mS → Prop, (∀ r, fp aw_G_why fw_G_why false s r.2 → Q r) → Q (f_G_why a1 a2 s)) (fun r => fp aw_G_why fw_G_why false s r.2) (fun _ h => h)
  unfold f_G_why
  refine q_if Q (fun _ => ?_) (fun _ => ?_)
  · exact hQ _ fp_r
  · refine q_let0 Q (fun x10 => ?_)
    refine q_if Q (fun _ => ?_) (fun _ => ?_)
    · exact hQ _ fp_r
    · refine q_let0 Q (fun x11 => ?_)
      refine q_if Q (fun _ => ?_) (fun _ => ?_)
      · exact hQ _ fp_r
      · refine q_if Q (fun _ => ?_) (fun _ => ?_)
        · refine q_if Q (fun _ => ?_) (fun _ => ?_)
          · refine q_call Q (R := fun (x12 : Int32 × mS) => fp aw_G_why fw_G_why false s x12.2) (fp_t fp_r (fp_m (fr_Net_firstWetOnWay a1 s) (by decide) (by decide) (by decide))) (fun x12 gx12 => ?_)
            refine q_if Q (fun _ => ?_) (fun _ => ?_)
            · refine q_if Q (fun _ => ?_) (fun _ => ?_)
              · exact hQ _ gx12
              · refine q_call Q (R := fun (x13 : Int32 × mS) => fp aw_G_why fw_G_why false s x13.2) (fp_t gx12 (fp_m (fr_Net_greatestLossOnWay a1 x12.2) (by decide) (by decide) (by decide))) (fun x13 gx13 => ?_)
                exact hQ _ gx13
            · refine q_if Q (fun _ => ?_) (fun _ => ?_)
              · exact hQ _ gx12
              · exact hQ _ gx12
          · refine q_if Q (fun _ => ?_) (fun _ => ?_)
            · exact hQ _ fp_r
            · exact hQ _ fp_r
        · refine q_if Q (fun _ => ?_) (fun _ => ?_)
          · exact hQ _ fp_r
          · exact hQ _ fp_r
def aw_lp_Night_foresee_3 : List Nat := [95, 96]
def fw_lp_Night_foresee_3 : List (Nat × Nat) := []
theorem fr_lp_Night_foresee_3  (a1 : Int32) : ∀ (n : Nat) (v5 : Int32) (s : mS), fp aw_lp_Night_foresee_3 fw_lp_Night_foresee_3 false s (lp_Night_foresee_3 a1 n v5 s).2 := by
  intro n
  induction n with
  | zero => intro v5 s; exact fp_r
  | succ n ih =>
    intro v5 s
    refine (fun (Q : Int32 × mS → Prop) (hQ : ∀ r, fp aw_lp_Night_foresee_3 fw_lp_Night_foresee_3 false s r.2 → Q r) => ?_ : ∀ Q : Int32 × mS → Prop, (∀ r, fp aw_lp_Night_foresee_3 fw_lp_Night_foresee_3 false s r.2 → Q r) → Q (lp_Night_foresee_3 a1 (n + 1) v5 s)) (fun r => fp aw_lp_Night_foresee_3 fw_lp_Night_foresee_3 false s r.2) (fun _ h => h)
    rw [lp_Night_foresee_3]
    refine q_if Q (fun _ => ?_) (fun _ => ?_)
    · exact hQ _ fp_r
    · refine q_let0 Q (fun x10 => ?_)
      refine q_let0 Q (fun x11 => ?_)
      exact hQ _ (fp_t (fp_IA (fp_IA fp_r (by decide)) (by decide)) (ih (v5 + 1) (sI (sI s 95 (ix v5) x10) 96 (ix v5) x11)))
def aw_Night_foresee : List Nat := [95, 96]
def fw_Night_foresee : List (Nat × Nat) := []
theorem fr_Night_foresee  (a1 : Int32) (s : mS) : fp aw_Night_foresee fw_Night_foresee false s (f_Night_foresee a1 s) := by
  refine (fun (Q : mS → Prop) (hQ : ∀ r, fp aw_Night_foresee fw_Night_foresee false s r → Q r) => ?_ : ∀ Q : mS → Prop, (∀ r, fp aw_Night_foresee fw_Night_foresee false s r → Q r) → Q (f_Night_foresee a1 s)) (fun r => fp aw_Night_foresee fw_Night_foresee false s r) (fun _ h => h)
  unfold f_Night_foresee
  refine q_call Q (R := fun (x12 : Int32 × mS) => fp aw_Night_foresee fw_Night_foresee false s x12.2) (fp_t fp_r (fp_m (fr_lp_Night_foresee_3 a1 mm_N (0 : Int32) s) (by decide) (by decide) (by decide))) (fun x12 gx12 => ?_)
  exact hQ _ gx12
def aw_lp_Night_keepTried_7 : List Nat := [101]
def fw_lp_Night_keepTried_7 : List (Nat × Nat) := []
theorem fr_lp_Night_keepTried_7   : ∀ (n : Nat) (v2 : Int32) (s : mS), fp aw_lp_Night_keepTried_7 fw_lp_Night_keepTried_7 false s (lp_Night_keepTried_7 n v2 s).2 := by
  intro n
  induction n with
  | zero => intro v2 s; exact fp_r
  | succ n ih =>
    intro v2 s
    refine (fun (Q : Int32 × mS → Prop) (hQ : ∀ r, fp aw_lp_Night_keepTried_7 fw_lp_Night_keepTried_7 false s r.2 → Q r) => ?_ : ∀ Q : Int32 × mS → Prop, (∀ r, fp aw_lp_Night_keepTried_7 fw_lp_Night_keepTried_7 false s r.2 → Q r) → Q (lp_Night_keepTried_7 (n + 1) v2 s)) (fun r => fp aw_lp_Night_keepTried_7 fw_lp_Night_keepTried_7 false s r.2) (fun _ h => h)
    rw [lp_Night_keepTried_7]
    refine q_if Q (fun _ => ?_) (fun _ => ?_)
    · exact hQ _ fp_r
    · exact hQ _ (fp_t (fp_IA fp_r (by decide)) (ih (v2 + 1) (sI s 101 (ix v2) (gI s 100 (ix v2)))))
def aw_Night_keepTried : List Nat := [101]
def fw_Night_keepTried : List (Nat × Nat) := [(94, 9)]
theorem fr_Night_keepTried  (a1 : Int32) (s : mS) : fp aw_Night_keepTried fw_Night_keepTried false s (f_Night_keepTried a1 s) := by
  refine (fun (Q : mS → Prop) (hQ : ∀ r, fp aw_Night_keepTried fw_Night_keepTried false s r → Q r) => ?_ : ∀ Q : mS → Prop, (∀ r, fp aw_Night_keepTried fw_Night_keepTried false s r → Q r) → Q (f_Night_keepTried a1 s)) (fun r => fp aw_Night_keepTried fw_Night_keepTried false s r) (fun _ h => h)
  unfold f_Night_keepTried
  refine q_call Q (R := fun (x10 : Int32 × mS) => fp aw_Night_keepTried fw_Night_keepTried false s x10.2) (fp_t (fp_IF fp_r (by decide)) (fp_m (fr_lp_Night_keepTried_7 mm_N (0 : Int32) (sI s 94 9 a1)) (by decide) (by decide) (by decide))) (fun x10 gx10 => ?_)
  exact hQ _ gx10
def aw_lp_Night_seek_36 : List Nat := [100, 101]
def fw_lp_Night_seek_36 : List (Nat × Nat) := [(94, 9)]
theorem fr_lp_Night_seek_36 (rf : Int32 → Int32 → Int32 → mS → mS) (hfr : ∀ (b0 : Int32) (b1 : Int32) (b2 : Int32) (s : mS), fp aw_REC_Night_seek fw_REC_Night_seek false s (rf b0 b1 b2 s)) (a1 : Int32) (a2 : Int32) (a3 : Int32) (a4 : Int32) : ∀ (n : Nat) (v5 : Int32) (s : mS), fp aw_lp_Night_seek_36 fw_lp_Night_seek_36 false s (lp_Night_seek_36 rf a1 a2 a3 a4 n v5 s).2 := by
  intro n
  induction n with
  | zero => intro v5 s; exact fp_r
  | succ n ih =>
    intro v5 s
    refine (fun (Q : Int32 × mS → Prop) (hQ : ∀ r, fp aw_lp_Night_seek_36 fw_lp_Night_seek_36 false s r.2 → Q r) => ?_ : ∀ Q : Int32 × mS → Prop, (∀ r, fp aw_lp_Night_seek_36 fw_lp_Night_seek_36 false s r.2 → Q r) → Q (lp_Night_seek_36 rf a1 a2 a3 a4 (n + 1) v5 s)) (fun r => fp aw_lp_Night_seek_36 fw_lp_Night_seek_36 false s r.2) (fun _ h => h)
    rw [lp_Night_seek_36]
    refine q_if Q (fun _ => ?_) (fun _ => ?_)
    · exact hQ _ fp_r
    · refine q_let0 Q (fun x12 => ?_)
      refine q_if Q (fun _ => ?_) (fun _ => ?_)
      · exact hQ _ (fp_t (fp_IA fp_r (by decide)) (ih (v5 + 1) (sI s 100 (ix a1) v5)))
      · refine q_call Q (R := fun (x13 : mS) => fp aw_lp_Night_seek_36 fw_lp_Night_seek_36 false s x13) (fp_t (fp_IA fp_r (by decide)) (fp_m (hfr (a1 + 1) (a2 + v5) x12 (sI s 100 (ix a1) v5)) (by decide) (by decide) (by decide))) (fun x13 gx13 => ?_)
        exact hQ _ (fp_t gx13 (ih (v5 + 1) x13))
def aw_Night_seek : List Nat := [100, 101]
def fw_Night_seek : List (Nat × Nat) := [(94, 9)]
theorem fr_Night_seek (rf : Int32 → Int32 → Int32 → mS → mS) (hfr : ∀ (b0 : Int32) (b1 : Int32) (b2 : Int32) (s : mS), fp aw_REC_Night_seek fw_REC_Night_seek false s (rf b0 b1 b2 s)) (a1 : Int32) (a2 : Int32) (a3 : Int32) (s : mS) : fp aw_Night_seek fw_Night_seek false s (f_Night_seek rf a1 a2 a3 s) := by
  refine (fun (Q : mS → Prop) (hQ : ∀ r, fp aw_Night_seek fw_Night_seek false s r → Q r) => ?_ : ∀ Q : mS → Prop, (∀ r, fp aw_Night_seek fw_Night_seek false s r → Q r) → Q (f_Night_seek rf a1 a2 a3 s)) (fun r => fp aw_Night_seek fw_Night_seek false s r) (fun _ h => h)
  unfold f_Night_seek
  refine q_if Q (fun _ => ?_) (fun _ => ?_)
  · refine q_if Q (fun _ => ?_) (fun _ => ?_)
    · refine q_call Q (R := fun (x10 : mS) => fp aw_Night_seek fw_Night_seek false s x10) (fp_t fp_r (fp_m (fr_Night_keepTried a2 s) (by decide) (by decide) (by decide))) (fun x10 gx10 => ?_)
      exact hQ _ gx10
    · refine q_if Q (fun _ => ?_) (fun _ => ?_)
      · refine q_let0 Q (fun x11 => ?_)
        refine q_call Q (R := fun (x14 : Int32 × mS) => fp aw_Night_seek fw_Night_seek false s x14.2) (fp_t fp_r (fp_m (fr_lp_Night_seek_36 rf hfr a1 a2 a3 x11 mm_N (0 : Int32) s) (by decide) (by decide) (by decide))) (fun x14 gx14 => ?_)
        exact hQ _ gx14
      · refine q_call Q (R := fun (x16 : mS) => fp aw_Night_seek fw_Night_seek false s x16) (fp_t fp_r (fp_m (fr_Night_keepTried a2 s) (by decide) (by decide) (by decide))) (fun x16 gx16 => ?_)
        exact hQ _ gx16
  · exact hQ _ fp_r
theorem fr_F_Night_seek : ∀ (n : Nat) (b0 : Int32) (b1 : Int32) (b2 : Int32) (s : mS), fp aw_REC_Night_seek fw_REC_Night_seek false s (F_Night_seek n b0 b1 b2 s)
  | 0, b0, b1, b2, s => fp_r
  | n + 1, b0, b1, b2, s => fr_Night_seek (F_Night_seek n) (fr_F_Night_seek n) b0 b1 b2 s
theorem fr_Night_seekT (b0 : Int32) (b1 : Int32) (b2 : Int32) (s : mS) : fp aw_REC_Night_seek fw_REC_Night_seek false s (f_Night_seekT b0 b1 b2 s) := fr_F_Night_seek 9 b0 b1 b2 s
def aw_lp_Night_plan_18 : List Nat := [97]
def fw_lp_Night_plan_18 : List (Nat × Nat) := []
theorem fr_lp_Night_plan_18  (a2 : Int32) (a3 : Int32) : ∀ (n : Nat) (v4 : Int32) (s : mS), fp aw_lp_Night_plan_18 fw_lp_Night_plan_18 false s (lp_Night_plan_18 a2 a3 n v4 s).2 := by
  intro n
  induction n with
  | zero => intro v4 s; exact fp_r
  | succ n ih =>
    intro v4 s
    refine (fun (Q : Int32 × mS → Prop) (hQ : ∀ r, fp aw_lp_Night_plan_18 fw_lp_Night_plan_18 false s r.2 → Q r) => ?_ : ∀ Q : Int32 × mS → Prop, (∀ r, fp aw_lp_Night_plan_18 fw_lp_Night_plan_18 false s r.2 → Q r) → Q (lp_Night_plan_18 a2 a3 (n + 1) v4 s)) (fun r => fp aw_lp_Night_plan_18 fw_lp_Night_plan_18 false s r.2) (fun _ h => h)
    rw [lp_Night_plan_18]
    refine q_if Q (fun _ => ?_) (fun _ => ?_)
    · exact hQ _ fp_r
    · refine q_let0 Q (fun x11 => ?_)
      exact hQ _ (fp_t (fp_IA fp_r (by decide)) (ih (v4 + 1) (sI s 97 (ix v4) x11)))
def aw_lp_Night_plan_62 : List Nat := [98, 99]
def fw_lp_Night_plan_62 : List (Nat × Nat) := []
theorem fr_lp_Night_plan_62  (a2 : Int32) (a3 : Int32) (a4 : Int32) : ∀ (n : Nat) (v5 : Int32) (s : mS), fp aw_lp_Night_plan_62 fw_lp_Night_plan_62 false s (lp_Night_plan_62 a2 a3 a4 n v5 s).2 := by
  intro n
  induction n with
  | zero => intro v5 s; exact fp_r
  | succ n ih =>
    intro v5 s
    refine (fun (Q : Int32 × mS → Prop) (hQ : ∀ r, fp aw_lp_Night_plan_62 fw_lp_Night_plan_62 false s r.2 → Q r) => ?_ : ∀ Q : Int32 × mS → Prop, (∀ r, fp aw_lp_Night_plan_62 fw_lp_Night_plan_62 false s r.2 → Q r) → Q (lp_Night_plan_62 a2 a3 a4 (n + 1) v5 s)) (fun r => fp aw_lp_Night_plan_62 fw_lp_Night_plan_62 false s r.2) (fun _ h => h)
    rw [lp_Night_plan_62]
    refine q_if Q (fun _ => ?_) (fun _ => ?_)
    · exact hQ _ fp_r
    · refine q_let0 Q (fun x14 => ?_)
      refine q_let0 Q (fun x15 => ?_)
      exact hQ _ (fp_t (fp_IA (fp_IA fp_r (by decide)) (by decide)) (ih (v5 + 1) (sI (sI s 98 (ix v5) x14) 99 (ix v5) x15)))
def aw_Night_plan : List Nat := [97, 98, 99, 100, 101]
def fw_Night_plan : List (Nat × Nat) := [(94, 7), (94, 8), (94, 9)]
theorem fr_Night_plan  (a2 : Int32) (a3 : Int32) (s : mS) : fp aw_Night_plan fw_Night_plan false s (f_Night_plan a2 a3 s).2 := by
  refine (fun (Q : Int32 × mS → Prop) (hQ : ∀ r, fp aw_Night_plan fw_Night_plan false s r.2 → Q r) => ?_ : ∀ Q : Int32 × mS → Prop, (∀ r, fp aw_Night_plan fw_Night_plan false s r.2 → Q r) → Q (f_Night_plan a2 a3 s)) (fun r => fp aw_Night_plan fw_Night_plan false s r.2) (fun _ h => h)
  unfold f_Night_plan
  refine q_let0 Q (fun x10 => ?_)
  refine q_if Q (fun _ => ?_) (fun _ => ?_)
  · exact hQ _ fp_r
  · refine q_if Q (fun _ => ?_) (fun _ => ?_)
    · refine q_call Q (R := fun (x12 : Int32 × mS) => fp aw_Night_plan fw_Night_plan false s x12.2) (fp_t fp_r (fp_m (fr_lp_Night_plan_18 a2 a3 mm_N (0 : Int32) s) (by decide) (by decide) (by decide))) (fun x12 gx12 => ?_)
      refine q_call Q (R := fun (x16 : Int32 × mS) => fp aw_Night_plan fw_Night_plan false s x16.2) (fp_t gx12 (fp_m (fr_lp_Night_plan_62 a2 a3 ((gI x12.2 3 9) / 3) mm_N (0 : Int32) x12.2) (by decide) (by decide) (by decide))) (fun x16 gx16 => ?_)
      refine q_call Q (R := fun (x17 : mS) => fp aw_Night_plan fw_Night_plan false s x17) (fp_t (fp_IF (fp_IF (fp_IF gx16 (by decide)) (by decide)) (by decide)) (fp_m (fr_Night_seekT (0 : Int32) (0 : Int32) (gI x16.2 3 12) (sI (sI (sI x16.2 94 7 ((gI x16.2 7 (ix a2)) / a3)) 94 8 (gI x16.2 3 11)) 94 9 1000)) (by decide) (by decide) (by decide))) (fun x17 gx17 => ?_)
      refine q_if Q (fun _ => ?_) (fun _ => ?_)
      · exact hQ _ gx17
      · exact hQ _ gx17
    · exact hQ _ fp_r
def aw_G_best : List Nat := [95, 96, 97, 98, 99, 100, 101]
def fw_G_best : List (Nat × Nat) := [(94, 7), (94, 8), (94, 9)]
theorem fr_G_best  (a1 : Int32) (a2 : Int32) (a3 : Int32) (s : mS) : fp aw_G_best fw_G_best false s (f_G_best a1 a2 a3 s).2 := by
  refine (fun (Q : Int32 × mS → Prop) (hQ : ∀ r, fp aw_G_best fw_G_best false s r.2 → Q r) => ?_ : ∀ Q : Int32 × mS → Prop, (∀ r, fp aw_G_best fw_G_best false s r.2 → Q r) → Q (f_G_best a1 a2 a3 s)) (fun r => fp aw_G_best fw_G_best false s r.2) (fun _ h => h)
  unfold f_G_best
  refine q_let0 Q (fun x10 => ?_)
  refine q_if Q (fun _ => ?_) (fun _ => ?_)
  · exact hQ _ fp_r
  · refine q_let0 Q (fun x11 => ?_)
    refine q_if Q (fun _ => ?_) (fun _ => ?_)
    · exact hQ _ fp_r
    · refine q_let0 Q (fun x12 => ?_)
      refine q_if Q (fun _ => ?_) (fun _ => ?_)
      · exact hQ _ fp_r
      · refine q_call Q (R := fun (x13 : mS) => fp aw_G_best fw_G_best false s x13) (fp_t fp_r (fp_m (fr_Night_foresee (gI s 0 9) s) (by decide) (by decide) (by decide))) (fun x13 gx13 => ?_)
        refine q_call Q (R := fun (x14 : Int32 × mS) => fp aw_G_best fw_G_best false s x14.2) (fp_t gx13 (fp_m (fr_Night_plan a1 a2 x13) (by decide) (by decide) (by decide))) (fun x14 gx14 => ?_)
        refine q_if Q (fun _ => ?_) (fun _ => ?_)
        · exact hQ _ gx14
        · refine q_if Q (fun _ => ?_) (fun _ => ?_)
          · exact hQ _ gx14
          · exact hQ _ gx14
def aw_lp_M_plans_88 : List Nat := [170]
def fw_lp_M_plans_88 : List (Nat × Nat) := []
theorem fr_lp_M_plans_88 (rf : Int32 → Int32 → Int32 → mS → Int32 × mS) (hfr : ∀ (b0 : Int32) (b1 : Int32) (b2 : Int32) (s : mS), fp aw_REC_M_plans fw_REC_M_plans false s (rf b0 b1 b2 s).2) (a1 : Int32) (a2 : Int32) (a3 : Int32) (a4 : Int32) : ∀ (n : Nat) (v6 : Int32) (s : mS), fp aw_lp_M_plans_88 fw_lp_M_plans_88 false s (lp_M_plans_88 rf a1 a2 a3 a4 n v6 s).2.2 := by
  intro n
  induction n with
  | zero => intro v6 s; exact fp_r
  | succ n ih =>
    intro v6 s
    refine (fun (Q : Option Int32 × Int32 × mS → Prop) (hQ : ∀ r, fp aw_lp_M_plans_88 fw_lp_M_plans_88 false s r.2.2 → Q r) => ?_ : ∀ Q : Option Int32 × Int32 × mS → Prop, (∀ r, fp aw_lp_M_plans_88 fw_lp_M_plans_88 false s r.2.2 → Q r) → Q (lp_M_plans_88 rf a1 a2 a3 a4 (n + 1) v6 s)) (fun r => fp aw_lp_M_plans_88 fw_lp_M_plans_88 false s r.2.2) (fun _ h => h)
    rw [lp_M_plans_88]
    refine q_if Q (fun _ => ?_) (fun _ => ?_)
    · exact hQ _ fp_r
    · refine q_call Q (R := fun (x16 : Int32 × mS) => fp aw_lp_M_plans_88 fw_lp_M_plans_88 false s x16.2) (fp_t (fp_IA fp_r (by decide)) (fp_m (hfr (a1 + 1) (a2 - v6) a3 (sI s 170 (ix a1) v6)) (by decide) (by decide) (by decide))) (fun x16 gx16 => ?_)
      refine q_if Q (fun _ => ?_) (fun _ => ?_)
      · exact hQ _ (fp_t gx16 (ih (v6 + 1) x16.2))
      · exact hQ _ gx16
def aw_M_plans : List Nat := [170]
def fw_M_plans : List (Nat × Nat) := []
theorem fr_M_plans (rf : Int32 → Int32 → Int32 → mS → Int32 × mS) (hfr : ∀ (b0 : Int32) (b1 : Int32) (b2 : Int32) (s : mS), fp aw_REC_M_plans fw_REC_M_plans false s (rf b0 b1 b2 s).2) (a1 : Int32) (a2 : Int32) (a3 : Int32) (s : mS) : fp aw_M_plans fw_M_plans false s (f_M_plans rf a1 a2 a3 s).2 := by
  refine (fun (Q : Int32 × mS → Prop) (hQ : ∀ r, fp aw_M_plans fw_M_plans false s r.2 → Q r) => ?_ : ∀ Q : Int32 × mS → Prop, (∀ r, fp aw_M_plans fw_M_plans false s r.2 → Q r) → Q (f_M_plans rf a1 a2 a3 s)) (fun r => fp aw_M_plans fw_M_plans false s r.2) (fun _ h => h)
  unfold f_M_plans
  refine q_if Q (fun _ => ?_) (fun _ => ?_)
  · refine q_if Q (fun _ => ?_) (fun _ => ?_)
    · refine q_let0 Q (fun x10 => ?_)
      refine q_if Q (fun _ => ?_) (fun _ => ?_)
      · exact hQ _ fp_r
      · exact hQ _ fp_r
    · exact hQ _ fp_r
  · refine q_let0 Q (fun x11 => ?_)
    refine q_let0 Q (fun x12 => ?_)
    refine q_let0 Q (fun x13 => ?_)
    refine q_let0 Q (fun x14 => ?_)
    refine q_let0 Q (fun x15 => ?_)
    refine q_call Q (R := fun (x17 : Option Int32 × Int32 × mS) => fp aw_M_plans fw_M_plans false s x17.2.2) (fp_t fp_r (fp_m (fr_lp_M_plans_88 rf hfr a1 a2 a3 x15 mm_N (0 : Int32) s) (by decide) (by decide) (by decide))) (fun x17 gx17 => ?_)
    refine q_el Q (fun v => ?_) ?_
    · exact hQ _ gx17
    exact hQ _ (fp_IA gx17 (by decide))
theorem fr_F_M_plans : ∀ (n : Nat) (b0 : Int32) (b1 : Int32) (b2 : Int32) (s : mS), fp aw_REC_M_plans fw_REC_M_plans false s (F_M_plans n b0 b1 b2 s).2
  | 0, b0, b1, b2, s => fp_r
  | n + 1, b0, b1, b2, s => fr_M_plans (F_M_plans n) (fr_F_M_plans n) b0 b1 b2 s
theorem fr_M_plansT (b0 : Int32) (b1 : Int32) (b2 : Int32) (s : mS) : fp aw_REC_M_plans fw_REC_M_plans false s (f_M_plansT b0 b1 b2 s).2 := fr_F_M_plans 9 b0 b1 b2 s
def aw_lp_M_best_53 : List Nat := [172, 173]
def fw_lp_M_best_53 : List (Nat × Nat) := []
theorem fr_lp_M_best_53  (a1 : Int32) (a2 : Int32) (a3 : Int32) (a4 : Int32) : ∀ (n : Nat) (v5 : Int32) (s : mS), fp aw_lp_M_best_53 fw_lp_M_best_53 false s (lp_M_best_53 a1 a2 a3 a4 n v5 s).2 := by
  intro n
  induction n with
  | zero => intro v5 s; exact fp_r
  | succ n ih =>
    intro v5 s
    refine (fun (Q : Int32 × mS → Prop) (hQ : ∀ r, fp aw_lp_M_best_53 fw_lp_M_best_53 false s r.2 → Q r) => ?_ : ∀ Q : Int32 × mS → Prop, (∀ r, fp aw_lp_M_best_53 fw_lp_M_best_53 false s r.2 → Q r) → Q (lp_M_best_53 a1 a2 a3 a4 (n + 1) v5 s)) (fun r => fp aw_lp_M_best_53 fw_lp_M_best_53 false s r.2) (fun _ h => h)
    rw [lp_M_best_53]
    refine q_if Q (fun _ => ?_) (fun _ => ?_)
    · exact hQ _ fp_r
    · refine q_let0 Q (fun x14 => ?_)
      refine q_let0 Q (fun x15 => ?_)
      exact hQ _ (fp_t (fp_IA (fp_IA fp_r (by decide)) (by decide)) (ih (v5 + 1) (sI (sI s 172 (ix v5) x14) 173 (ix v5) x15)))
def aw_lp_M_best_110 : List Nat := [170]
def fw_lp_M_best_110 : List (Nat × Nat) := []
theorem fr_lp_M_best_110  (a1 : Int32) (a2 : Int32) (a3 : Int32) (a4 : Int32) (a5 : Int32) : ∀ (n : Nat) (v6 : Int32) (s : mS), fp aw_lp_M_best_110 fw_lp_M_best_110 false s (lp_M_best_110 a1 a2 a3 a4 a5 n v6 s).2 := by
  intro n
  induction n with
  | zero => intro v6 s; exact fp_r
  | succ n ih =>
    intro v6 s
    refine (fun (Q : Int32 × mS → Prop) (hQ : ∀ r, fp aw_lp_M_best_110 fw_lp_M_best_110 false s r.2 → Q r) => ?_ : ∀ Q : Int32 × mS → Prop, (∀ r, fp aw_lp_M_best_110 fw_lp_M_best_110 false s r.2 → Q r) → Q (lp_M_best_110 a1 a2 a3 a4 a5 (n + 1) v6 s)) (fun r => fp aw_lp_M_best_110 fw_lp_M_best_110 false s r.2) (fun _ h => h)
    rw [lp_M_best_110]
    refine q_if Q (fun _ => ?_) (fun _ => ?_)
    · exact hQ _ fp_r
    · exact hQ _ (fp_t (fp_IA fp_r (by decide)) (ih (v6 + 1) (sI s 170 (ix v6) 0)))
def aw_lp_M_best_100 : List Nat := [170]
def fw_lp_M_best_100 : List (Nat × Nat) := []
theorem fr_lp_M_best_100  (a1 : Int32) (a2 : Int32) (a3 : Int32) (a4 : Int32) : ∀ (n : Nat) (v5 : Int32) (s : mS), fp aw_lp_M_best_100 fw_lp_M_best_100 false s (lp_M_best_100 a1 a2 a3 a4 n v5 s).2.2 := by
  intro n
  induction n with
  | zero => intro v5 s; exact fp_r
  | succ n ih =>
    intro v5 s
    refine (fun (Q : Option Int32 × Int32 × mS → Prop) (hQ : ∀ r, fp aw_lp_M_best_100 fw_lp_M_best_100 false s r.2.2 → Q r) => ?_ : ∀ Q : Option Int32 × Int32 × mS → Prop, (∀ r, fp aw_lp_M_best_100 fw_lp_M_best_100 false s r.2.2 → Q r) → Q (lp_M_best_100 a1 a2 a3 a4 (n + 1) v5 s)) (fun r => fp aw_lp_M_best_100 fw_lp_M_best_100 false s r.2.2) (fun _ h => h)
    rw [lp_M_best_100]
    refine q_if Q (fun _ => ?_) (fun _ => ?_)
    · exact hQ _ fp_r
    · refine q_call Q (R := fun (x18 : Int32 × mS) => fp aw_lp_M_best_100 fw_lp_M_best_100 false s x18.2) (fp_t fp_r (fp_m (fr_lp_M_best_110 a1 a2 a3 a4 v5 mm_N (0 : Int32) s) (by decide) (by decide) (by decide))) (fun x18 gx18 => ?_)
      refine q_call Q (R := fun (x19 : Int32 × mS) => fp aw_lp_M_best_100 fw_lp_M_best_100 false s x19.2) (fp_t gx18 (fp_m (fr_M_plansT (0 : Int32) v5 (a2 * (gI x18.2 118 (ix a1))) x18.2) (by decide) (by decide) (by decide))) (fun x19 gx19 => ?_)
      refine q_if Q (fun _ => ?_) (fun _ => ?_)
      · exact hQ _ (fp_t gx19 (ih (v5 + 1) x19.2))
      · refine q_if Q (fun _ => ?_) (fun _ => ?_)
        · exact hQ _ gx19
        · exact hQ _ gx19
def aw_M_best : List Nat := [170, 172, 173]
def fw_M_best : List (Nat × Nat) := []
theorem fr_M_best  (a1 : Int32) (a2 : Int32) (a3 : Int32) (s : mS) : fp aw_M_best fw_M_best false s (f_M_best a1 a2 a3 s).2 := by
  refine (fun (Q : Int32 × mS → Prop) (hQ : ∀ r, fp aw_M_best fw_M_best false s r.2 → Q r) => ?_ : ∀ Q : Int32 × mS → Prop, (∀ r, fp aw_M_best fw_M_best false s r.2 → Q r) → Q (f_M_best a1 a2 a3 s)) (fun r => fp aw_M_best fw_M_best false s r.2) (fun _ h => h)
  unfold f_M_best
  refine q_let0 Q (fun x10 => ?_)
  refine q_if Q (fun _ => ?_) (fun _ => ?_)
  · exact hQ _ fp_r
  · refine q_let0 Q (fun x11 => ?_)
    refine q_if Q (fun _ => ?_) (fun _ => ?_)
    · exact hQ _ fp_r
    · refine q_let0 Q (fun x12 => ?_)
      refine q_if Q (fun _ => ?_) (fun _ => ?_)
      · exact hQ _ fp_r
      · refine q_let0 Q (fun x13 => ?_)
        refine q_call Q (R := fun (x16 : Int32 × mS) => fp aw_M_best fw_M_best false s x16.2) (fp_t fp_r (fp_m (fr_lp_M_best_53 a1 a2 a3 x13 mm_N (0 : Int32) s) (by decide) (by decide) (by decide))) (fun x16 gx16 => ?_)
        refine q_call Q (R := fun (x20 : Option Int32 × Int32 × mS) => fp aw_M_best fw_M_best false s x20.2.2) (fp_t gx16 (fp_m (fr_lp_M_best_100 a1 a2 a3 x13 mm_N (0 : Int32) x16.2) (by decide) (by decide) (by decide))) (fun x20 gx20 => ?_)
        refine q_el Q (fun v => ?_) ?_
        · exact hQ _ gx20
        exact hQ _ gx20
def aw_G_sees : List Nat := [103]
def fw_G_sees : List (Nat × Nat) := []
theorem fr_G_sees  (a1 : Int32) (a2 : Int32) (s : mS) : fp aw_G_sees fw_G_sees false s (f_G_sees a1 a2 s).2 := by
  refine (fun (Q : Int32 × mS → Prop) (hQ : ∀ r, fp aw_G_sees fw_G_sees false s r.2 → Q r) => ?_ : ∀ Q : Int32 × mS → Prop, (∀ r, fp aw_G_sees fw_G_sees false s r.2 → Q r) → Q (f_G_sees a1 a2 s)) (fun r => fp aw_G_sees fw_G_sees false s r.2) (fun _ h => h)
  unfold f_G_sees
  refine q_let0 Q (fun x10 => ?_)
  refine q_if Q (fun _ => ?_) (fun _ => ?_)
  · exact hQ _ fp_r
  · refine q_let0 Q (fun x11 => ?_)
    refine q_if Q (fun _ => ?_) (fun _ => ?_)
    · exact hQ _ fp_r
    · exact hQ _ (fp_IA fp_r (by decide))
def aw_M_sees : List Nat := [174]
def fw_M_sees : List (Nat × Nat) := [(116, 102)]
theorem fr_M_sees  (a1 : Int32) (a2 : Int32) (s : mS) : fp aw_M_sees fw_M_sees false s (f_M_sees a1 a2 s).2 := by
  refine (fun (Q : Int32 × mS → Prop) (hQ : ∀ r, fp aw_M_sees fw_M_sees false s r.2 → Q r) => ?_ : ∀ Q : Int32 × mS → Prop, (∀ r, fp aw_M_sees fw_M_sees false s r.2 → Q r) → Q (f_M_sees a1 a2 s)) (fun r => fp aw_M_sees fw_M_sees false s r.2) (fun _ h => h)
  unfold f_M_sees
  refine q_let0 Q (fun x10 => ?_)
  refine q_if Q (fun _ => ?_) (fun _ => ?_)
  · exact hQ _ fp_r
  · refine q_let0 Q (fun x11 => ?_)
    refine q_if Q (fun _ => ?_) (fun _ => ?_)
    · exact hQ _ fp_r
    · exact hQ _ (fp_IF (fp_IA fp_r (by decide)) (by decide))
def aw_Eyes_weigh : List Nat := [108, 109]
def fw_Eyes_weigh : List (Nat × Nat) := []
theorem fr_Eyes_weigh  (a1 : Int32) (s : mS) : fp aw_Eyes_weigh fw_Eyes_weigh false s (f_Eyes_weigh a1 s) := by
  refine (fun (Q : mS → Prop) (hQ : ∀ r, fp aw_Eyes_weigh fw_Eyes_weigh false s r → Q r) => ?_ : ∀ Q : mS → Prop, (∀ r, fp aw_Eyes_weigh fw_Eyes_weigh false s r → Q r) → Q (f_Eyes_weigh a1 s)) (fun r => fp aw_Eyes_weigh fw_Eyes_weigh false s r) (fun _ h => h)
  unfold f_Eyes_weigh
  refine q_let0 Q (fun x10 => ?_)
  refine q_let0 Q (fun x11 => ?_)
  refine q_if Q (fun _ => ?_) (fun _ => ?_)
  · exact hQ _ (fp_IA (fp_IA fp_r (by decide)) (by decide))
  · refine q_let0 Q (fun x12 => ?_)
    refine q_let0 Q (fun x13 => ?_)
    exact hQ _ (fp_IA (fp_IA (fp_IA fp_r (by decide)) (by decide)) (by decide))
def aw_lp_Eyes_reach_9 : List Nat := [110]
def fw_lp_Eyes_reach_9 : List (Nat × Nat) := []
theorem fr_lp_Eyes_reach_9   : ∀ (n : Nat) (v2 : Int32) (s : mS), fp aw_lp_Eyes_reach_9 fw_lp_Eyes_reach_9 false s (lp_Eyes_reach_9 n v2 s).2 := by
  intro n
  induction n with
  | zero => intro v2 s; exact fp_r
  | succ n ih =>
    intro v2 s
    refine (fun (Q : Int32 × mS → Prop) (hQ : ∀ r, fp aw_lp_Eyes_reach_9 fw_lp_Eyes_reach_9 false s r.2 → Q r) => ?_ : ∀ Q : Int32 × mS → Prop, (∀ r, fp aw_lp_Eyes_reach_9 fw_lp_Eyes_reach_9 false s r.2 → Q r) → Q (lp_Eyes_reach_9 (n + 1) v2 s)) (fun r => fp aw_lp_Eyes_reach_9 fw_lp_Eyes_reach_9 false s r.2) (fun _ h => h)
    rw [lp_Eyes_reach_9]
    refine q_if Q (fun _ => ?_) (fun _ => ?_)
    · exact hQ _ fp_r
    · refine q_let0 Q (fun x10 => ?_)
      refine q_if Q (fun _ => ?_) (fun _ => ?_)
      · exact hQ _ (fp_t (fp_IA fp_r (by decide)) (ih (v2 + 1) (sI s 110 (ix v2) 0)))
      · refine q_let0 Q (fun x11 => ?_)
        refine q_if Q (fun _ => ?_) (fun _ => ?_)
        · exact hQ _ (fp_t (fp_IA fp_r (by decide)) (ih (v2 + 1) (sI s 110 (ix v2) 0)))
        · refine q_if Q (fun _ => ?_) (fun _ => ?_)
          · exact hQ _ (fp_t (fp_IA fp_r (by decide)) (ih (v2 + 1) (sI s 110 (ix v2) 0)))
          · refine q_let0 Q (fun x12 => ?_)
            refine q_let0 Q (fun x13 => ?_)
            exact hQ _ (fp_t (fp_IA (fp_IA fp_r (by decide)) (by decide)) (ih (v2 + 1) (sI (sI s 110 (ix v2) 0) 110 (ix v2) x13)))
def aw_Eyes_reach : List Nat := [110]
def fw_Eyes_reach : List (Nat × Nat) := []
theorem fr_Eyes_reach   (s : mS) : fp aw_Eyes_reach fw_Eyes_reach false s (f_Eyes_reach s) := by
  refine (fun (Q : mS → Prop) (hQ : ∀ r, fp aw_Eyes_reach fw_Eyes_reach false s r → Q r) => ?_ : ∀ Q : mS → Prop, (∀ r, fp aw_Eyes_reach fw_Eyes_reach false s r → Q r) → Q (f_Eyes_reach s)) (fun r => fp aw_Eyes_reach fw_Eyes_reach false s r) (fun _ h => h)
  unfold f_Eyes_reach
  refine q_call Q (R := fun (x14 : Int32 × mS) => fp aw_Eyes_reach fw_Eyes_reach false s x14.2) (fp_t (fp_IA fp_r (by decide)) (fp_m (fr_lp_Eyes_reach_9 mm_N (1 : Int32) (sI s 110 0 1)) (by decide) (by decide) (by decide))) (fun x14 gx14 => ?_)
  exact hQ _ gx14
def aw_lp_Eyes_explain_2 : List Nat := [104, 105, 106, 107]
def fw_lp_Eyes_explain_2 : List (Nat × Nat) := []
theorem fr_lp_Eyes_explain_2   : ∀ (n : Nat) (v2 : Int32) (s : mS), fp aw_lp_Eyes_explain_2 fw_lp_Eyes_explain_2 false s (lp_Eyes_explain_2 n v2 s).2 := by
  intro n
  induction n with
  | zero => intro v2 s; exact fp_r
  | succ n ih =>
    intro v2 s
    refine (fun (Q : Int32 × mS → Prop) (hQ : ∀ r, fp aw_lp_Eyes_explain_2 fw_lp_Eyes_explain_2 false s r.2 → Q r) => ?_ : ∀ Q : Int32 × mS → Prop, (∀ r, fp aw_lp_Eyes_explain_2 fw_lp_Eyes_explain_2 false s r.2 → Q r) → Q (lp_Eyes_explain_2 (n + 1) v2 s)) (fun r => fp aw_lp_Eyes_explain_2 fw_lp_Eyes_explain_2 false s r.2) (fun _ h => h)
    rw [lp_Eyes_explain_2]
    refine q_if Q (fun _ => ?_) (fun _ => ?_)
    · exact hQ _ fp_r
    · refine q_let0 Q (fun x10 => ?_)
      refine q_let0 Q (fun x11 => ?_)
      exact hQ _ (fp_t (fp_IA (fp_IA (fp_IA (fp_IA fp_r (by decide)) (by decide)) (by decide)) (by decide)) (ih (v2 + 1) (sI (sI (sI (sI s 104 (ix v2) x10) 105 (ix v2) x11) 106 (ix v2) 0) 107 (ix v2) 1)))
def aw_lp_Eyes_explain_72 : List Nat := [104, 105, 106, 107, 108, 109]
def fw_lp_Eyes_explain_72 : List (Nat × Nat) := []
theorem fr_lp_Eyes_explain_72   : ∀ (n : Nat) (v2 : Int32) (s : mS), fp aw_lp_Eyes_explain_72 fw_lp_Eyes_explain_72 false s (lp_Eyes_explain_72 n v2 s).2 := by
  intro n
  induction n with
  | zero => intro v2 s; exact fp_r
  | succ n ih =>
    intro v2 s
    refine (fun (Q : Int32 × mS → Prop) (hQ : ∀ r, fp aw_lp_Eyes_explain_72 fw_lp_Eyes_explain_72 false s r.2 → Q r) => ?_ : ∀ Q : Int32 × mS → Prop, (∀ r, fp aw_lp_Eyes_explain_72 fw_lp_Eyes_explain_72 false s r.2 → Q r) → Q (lp_Eyes_explain_72 (n + 1) v2 s)) (fun r => fp aw_lp_Eyes_explain_72 fw_lp_Eyes_explain_72 false s r.2) (fun _ h => h)
    rw [lp_Eyes_explain_72]
    refine q_if Q (fun _ => ?_) (fun _ => ?_)
    · exact hQ _ fp_r
    · refine q_let0 Q (fun x14 => ?_)
      refine q_if Q (fun _ => ?_) (fun _ => ?_)
      · exact hQ _ (fp_t fp_r (ih (v2 + (-1)) s))
      · refine q_let0 Q (fun x15 => ?_)
        refine q_if Q (fun _ => ?_) (fun _ => ?_)
        · exact hQ _ (fp_t fp_r (ih (v2 + (-1)) s))
        · refine q_call Q (R := fun (x16 : mS) => fp aw_lp_Eyes_explain_72 fw_lp_Eyes_explain_72 false s x16) (fp_t fp_r (fp_m (fr_Eyes_weigh v2 s) (by decide) (by decide) (by decide))) (fun x16 gx16 => ?_)
          refine q_let0 Q (fun x17 => ?_)
          refine q_let0 Q (fun x18 => ?_)
          exact hQ _ (fp_t (fp_IA (fp_IA (fp_IA (fp_IA gx16 (by decide)) (by decide)) (by decide)) (by decide)) (ih (v2 + (-1)) (sI (sI (sI (sI x16 104 (ix (gI s 26 (ix v2))) x17) 105 (ix (gI s 26 (ix v2))) x18) 106 (ix (gI s 26 (ix v2))) (if ((gI x16 106 (ix (gI s 26 (ix v2)))) + (gI x16 108 (ix v2))) < (1000 : Int32) then ((gI x16 106 (ix (gI s 26 (ix v2)))) + (gI x16 108 (ix v2))) else (1000 : Int32))) 107 (ix (gI s 26 (ix v2))) ((gI x16 107 (ix (gI s 26 (ix v2)))) * (gI x16 109 (ix v2))))))
def aw_Eyes_explain : List Nat := [104, 105, 106, 107, 108, 109, 110]
def fw_Eyes_explain : List (Nat × Nat) := []
theorem fr_Eyes_explain   (s : mS) : fp aw_Eyes_explain fw_Eyes_explain false s (f_Eyes_explain s).2 := by
  refine (fun (Q : Int32 × mS → Prop) (hQ : ∀ r, fp aw_Eyes_explain fw_Eyes_explain false s r.2 → Q r) => ?_ : ∀ Q : Int32 × mS → Prop, (∀ r, fp aw_Eyes_explain fw_Eyes_explain false s r.2 → Q r) → Q (f_Eyes_explain s)) (fun r => fp aw_Eyes_explain fw_Eyes_explain false s r.2) (fun _ h => h)
  unfold f_Eyes_explain
  refine q_call Q (R := fun (x12 : Int32 × mS) => fp aw_Eyes_explain fw_Eyes_explain false s x12.2) (fp_t fp_r (fp_m (fr_lp_Eyes_explain_2 mm_N (0 : Int32) s) (by decide) (by decide) (by decide))) (fun x12 gx12 => ?_)
  refine q_call Q (R := fun (x19 : Int32 × mS) => fp aw_Eyes_explain fw_Eyes_explain false s x19.2) (fp_t gx12 (fp_m (fr_lp_Eyes_explain_72 mm_N (15 : Int32) x12.2) (by decide) (by decide) (by decide))) (fun x19 gx19 => ?_)
  refine q_if Q (fun _ => ?_) (fun _ => ?_)
  · refine q_call Q (R := fun (x21 : mS) => fp aw_Eyes_explain fw_Eyes_explain false s x21) (fp_t gx19 (fp_m (fr_Eyes_reach x19.2) (by decide) (by decide) (by decide))) (fun x21 gx21 => ?_)
    exact hQ _ gx21
  · exact hQ _ gx19
def aw_G_find : List Nat := [104, 105, 106, 107, 108, 109, 110]
def fw_G_find : List (Nat × Nat) := []
theorem fr_G_find  (a1 : Int32) (s : mS) : fp aw_G_find fw_G_find false s (f_G_find a1 s).2 := by
  refine (fun (Q : Int32 × mS → Prop) (hQ : ∀ r, fp aw_G_find fw_G_find false s r.2 → Q r) => ?_ : ∀ Q : Int32 × mS → Prop, (∀ r, fp aw_G_find fw_G_find false s r.2 → Q r) → Q (f_G_find a1 s)) (fun r => fp aw_G_find fw_G_find false s r.2) (fun _ h => h)
  unfold f_G_find
  refine q_let0 Q (fun x10 => ?_)
  refine q_if Q (fun _ => ?_) (fun _ => ?_)
  · refine q_let0 Q (fun x11 => ?_)
    refine q_let0 Q (fun x12 => ?_)
    refine q_if Q (fun _ => ?_) (fun _ => ?_)
    · exact hQ _ fp_r
    · refine q_call Q (R := fun (x13 : Int32 × mS) => fp aw_G_find fw_G_find false s x13.2) (fp_t fp_r (fp_m (fr_Eyes_explain s) (by decide) (by decide) (by decide))) (fun x13 gx13 => ?_)
      refine q_if Q (fun _ => ?_) (fun _ => ?_)
      · exact hQ _ gx13
      · refine q_if Q (fun _ => ?_) (fun _ => ?_)
        · refine q_let0 Q (fun x14 => ?_)
          exact hQ _ gx13
        · refine q_if Q (fun _ => ?_) (fun _ => ?_)
          · refine q_let0 Q (fun x15 => ?_)
            exact hQ _ gx13
          · refine q_let0 Q (fun x16 => ?_)
            exact hQ _ gx13
  · refine q_call Q (R := fun (x17 : Int32 × mS) => fp aw_G_find fw_G_find false s x17.2) (fp_t fp_r (fp_m (fr_Eyes_explain s) (by decide) (by decide) (by decide))) (fun x17 gx17 => ?_)
    refine q_if Q (fun _ => ?_) (fun _ => ?_)
    · exact hQ _ gx17
    · refine q_if Q (fun _ => ?_) (fun _ => ?_)
      · refine q_let0 Q (fun x18 => ?_)
        exact hQ _ gx17
      · refine q_if Q (fun _ => ?_) (fun _ => ?_)
        · refine q_let0 Q (fun x19 => ?_)
          exact hQ _ gx17
        · refine q_let0 Q (fun x20 => ?_)
          exact hQ _ gx17
def aw_lp_M_searches_95 : List Nat := [175]
def fw_lp_M_searches_95 : List (Nat × Nat) := []
theorem fr_lp_M_searches_95  (a1 : Int32) : ∀ (n : Nat) (v3 : Int32) (s : mS), fp aw_lp_M_searches_95 fw_lp_M_searches_95 false s (lp_M_searches_95 a1 n v3 s).2 := by
  intro n
  induction n with
  | zero => intro v3 s; exact fp_r
  | succ n ih =>
    intro v3 s
    refine (fun (Q : Int32 × mS → Prop) (hQ : ∀ r, fp aw_lp_M_searches_95 fw_lp_M_searches_95 false s r.2 → Q r) => ?_ : ∀ Q : Int32 × mS → Prop, (∀ r, fp aw_lp_M_searches_95 fw_lp_M_searches_95 false s r.2 → Q r) → Q (lp_M_searches_95 a1 (n + 1) v3 s)) (fun r => fp aw_lp_M_searches_95 fw_lp_M_searches_95 false s r.2) (fun _ h => h)
    rw [lp_M_searches_95]
    refine q_if Q (fun _ => ?_) (fun _ => ?_)
    · exact hQ _ fp_r
    · exact hQ _ (fp_t (fp_IA fp_r (by decide)) (ih (v3 + 1) (sI s 175 (ix v3) 0)))
def aw_lp_M_searches_126 : List Nat := [175]
def fw_lp_M_searches_126 : List (Nat × Nat) := []
theorem fr_lp_M_searches_126  (a1 : Int32) : ∀ (n : Nat) (v3 : Int32) (s : mS), fp aw_lp_M_searches_126 fw_lp_M_searches_126 false s (lp_M_searches_126 a1 n v3 s).2 := by
  intro n
  induction n with
  | zero => intro v3 s; exact fp_r
  | succ n ih =>
    intro v3 s
    refine (fun (Q : Int32 × mS → Prop) (hQ : ∀ r, fp aw_lp_M_searches_126 fw_lp_M_searches_126 false s r.2 → Q r) => ?_ : ∀ Q : Int32 × mS → Prop, (∀ r, fp aw_lp_M_searches_126 fw_lp_M_searches_126 false s r.2 → Q r) → Q (lp_M_searches_126 a1 (n + 1) v3 s)) (fun r => fp aw_lp_M_searches_126 fw_lp_M_searches_126 false s r.2) (fun _ h => h)
    rw [lp_M_searches_126]
    refine q_if Q (fun _ => ?_) (fun _ => ?_)
    · exact hQ _ fp_r
    · exact hQ _ (fp_t (fp_IA fp_r (by decide)) (ih (v3 + 1) (sI s 175 (ix v3) ((gI s 175 (ix v3)) + ((a1 >>> (v3 &&& 31)) &&& 1)))))
def aw_lp_M_searches_25 : List Nat := [175]
def fw_lp_M_searches_25 : List (Nat × Nat) := [(116, 100), (116, 101)]
theorem fr_lp_M_searches_25   : ∀ (n : Nat) (v1 : Int32) (s : mS), fp aw_lp_M_searches_25 fw_lp_M_searches_25 false s (lp_M_searches_25 n v1 s).2 := by
  intro n
  induction n with
  | zero => intro v1 s; exact fp_r
  | succ n ih =>
    intro v1 s
    refine (fun (Q : Int32 × mS → Prop) (hQ : ∀ r, fp aw_lp_M_searches_25 fw_lp_M_searches_25 false s r.2 → Q r) => ?_ : ∀ Q : Int32 × mS → Prop, (∀ r, fp aw_lp_M_searches_25 fw_lp_M_searches_25 false s r.2 → Q r) → Q (lp_M_searches_25 (n + 1) v1 s)) (fun r => fp aw_lp_M_searches_25 fw_lp_M_searches_25 false s r.2) (fun _ h => h)
    rw [lp_M_searches_25]
    refine q_if Q (fun _ => ?_) (fun _ => ?_)
    · exact hQ _ fp_r
    · refine q_let0 Q (fun x10 => ?_)
      refine q_if Q (fun _ => ?_) (fun _ => ?_)
      · refine q_let0 Q (fun x11 => ?_)
        refine q_if Q (fun _ => ?_) (fun _ => ?_)
        · exact hQ _ (fp_t fp_r (ih (v1 + 2) s))
        · refine q_if Q (fun _ => ?_) (fun _ => ?_)
          · refine q_call Q (R := fun (x12 : Int32 × mS) => fp aw_lp_M_searches_25 fw_lp_M_searches_25 false s x12.2) (fp_t (fp_IF (fp_IF fp_r (by decide)) (by decide)) (fp_m (fr_lp_M_searches_95 v1 mm_N (0 : Int32) (sI (sI s 116 100 x10) 116 101 0)) (by decide) (by decide) (by decide))) (fun x12 gx12 => ?_)
            refine q_call Q (R := fun (x14 : Int32 × mS) => fp aw_lp_M_searches_25 fw_lp_M_searches_25 false s x14.2) (fp_t (fp_IF gx12 (by decide)) (fp_m (fr_lp_M_searches_126 v1 mm_N (0 : Int32) (sI x12.2 116 101 ((gI x12.2 116 101) + 1))) (by decide) (by decide) (by decide))) (fun x14 gx14 => ?_)
            exact hQ _ (fp_t gx14 (ih (v1 + 2) x14.2))
          · refine q_if Q (fun _ => ?_) (fun _ => ?_)
            · refine q_call Q (R := fun (x16 : Int32 × mS) => fp aw_lp_M_searches_25 fw_lp_M_searches_25 false s x16.2) (fp_t (fp_IF fp_r (by decide)) (fp_m (fr_lp_M_searches_126 v1 mm_N (0 : Int32) (sI s 116 101 ((gI s 116 101) + 1))) (by decide) (by decide) (by decide))) (fun x16 gx16 => ?_)
              exact hQ _ (fp_t gx16 (ih (v1 + 2) x16.2))
            · refine q_call Q (R := fun (x18 : Int32 × mS) => fp aw_lp_M_searches_25 fw_lp_M_searches_25 false s x18.2) (fp_t (fp_IF (fp_IF fp_r (by decide)) (by decide)) (fp_m (fr_lp_M_searches_95 v1 mm_N (0 : Int32) (sI (sI s 116 100 x10) 116 101 0)) (by decide) (by decide) (by decide))) (fun x18 gx18 => ?_)
              refine q_call Q (R := fun (x20 : Int32 × mS) => fp aw_lp_M_searches_25 fw_lp_M_searches_25 false s x20.2) (fp_t (fp_IF gx18 (by decide)) (fp_m (fr_lp_M_searches_126 v1 mm_N (0 : Int32) (sI x18.2 116 101 ((gI x18.2 116 101) + 1))) (by decide) (by decide) (by decide))) (fun x20 gx20 => ?_)
              exact hQ _ (fp_t gx20 (ih (v1 + 2) x20.2))
      · refine q_if Q (fun _ => ?_) (fun _ => ?_)
        · exact hQ _ (fp_t fp_r (ih (v1 + 2) s))
        · refine q_let0 Q (fun x22 => ?_)
          refine q_if Q (fun _ => ?_) (fun _ => ?_)
          · exact hQ _ (fp_t fp_r (ih (v1 + 2) s))
          · refine q_if Q (fun _ => ?_) (fun _ => ?_)
            · refine q_call Q (R := fun (x23 : Int32 × mS) => fp aw_lp_M_searches_25 fw_lp_M_searches_25 false s x23.2) (fp_t (fp_IF (fp_IF fp_r (by decide)) (by decide)) (fp_m (fr_lp_M_searches_95 v1 mm_N (0 : Int32) (sI (sI s 116 100 x10) 116 101 0)) (by decide) (by decide) (by decide))) (fun x23 gx23 => ?_)
              refine q_call Q (R := fun (x25 : Int32 × mS) => fp aw_lp_M_searches_25 fw_lp_M_searches_25 false s x25.2) (fp_t (fp_IF gx23 (by decide)) (fp_m (fr_lp_M_searches_126 v1 mm_N (0 : Int32) (sI x23.2 116 101 ((gI x23.2 116 101) + 1))) (by decide) (by decide) (by decide))) (fun x25 gx25 => ?_)
              exact hQ _ (fp_t gx25 (ih (v1 + 2) x25.2))
            · refine q_if Q (fun _ => ?_) (fun _ => ?_)
              · refine q_call Q (R := fun (x27 : Int32 × mS) => fp aw_lp_M_searches_25 fw_lp_M_searches_25 false s x27.2) (fp_t (fp_IF fp_r (by decide)) (fp_m (fr_lp_M_searches_126 v1 mm_N (0 : Int32) (sI s 116 101 ((gI s 116 101) + 1))) (by decide) (by decide) (by decide))) (fun x27 gx27 => ?_)
                exact hQ _ (fp_t gx27 (ih (v1 + 2) x27.2))
              · refine q_call Q (R := fun (x29 : Int32 × mS) => fp aw_lp_M_searches_25 fw_lp_M_searches_25 false s x29.2) (fp_t (fp_IF (fp_IF fp_r (by decide)) (by decide)) (fp_m (fr_lp_M_searches_95 v1 mm_N (0 : Int32) (sI (sI s 116 100 x10) 116 101 0)) (by decide) (by decide) (by decide))) (fun x29 gx29 => ?_)
                refine q_call Q (R := fun (x31 : Int32 × mS) => fp aw_lp_M_searches_25 fw_lp_M_searches_25 false s x31.2) (fp_t (fp_IF gx29 (by decide)) (fp_m (fr_lp_M_searches_126 v1 mm_N (0 : Int32) (sI x29.2 116 101 ((gI x29.2 116 101) + 1))) (by decide) (by decide) (by decide))) (fun x31 gx31 => ?_)
                exact hQ _ (fp_t gx31 (ih (v1 + 2) x31.2))
def aw_M_searches : List Nat := [175]
def fw_M_searches : List (Nat × Nat) := [(116, 100), (116, 101), (116, 102)]
theorem fr_M_searches   (s : mS) : fp aw_M_searches fw_M_searches false s (f_M_searches s) := by
  refine (fun (Q : mS → Prop) (hQ : ∀ r, fp aw_M_searches fw_M_searches false s r → Q r) => ?_ : ∀ Q : mS → Prop, (∀ r, fp aw_M_searches fw_M_searches false s r → Q r) → Q (f_M_searches s)) (fun r => fp aw_M_searches fw_M_searches false s r) (fun _ h => h)
  unfold f_M_searches
  refine q_if Q (fun _ => ?_) (fun _ => ?_)
  · refine q_call Q (R := fun (x33 : Int32 × mS) => fp aw_M_searches fw_M_searches false s x33.2) (fp_t (fp_IF (fp_IF (fp_IF fp_r (by decide)) (by decide)) (by decide)) (fp_m (fr_lp_M_searches_25 mm_N (0 : Int32) (sI (sI (sI s 116 102 1) 116 100 (-1)) 116 101 0)) (by decide) (by decide) (by decide))) (fun x33 gx33 => ?_)
    exact hQ _ gx33
  · exact hQ _ fp_r
def aw_M_find : List Nat := [175]
def fw_M_find : List (Nat × Nat) := [(116, 100), (116, 101), (116, 102)]
theorem fr_M_find  (a1 : Int32) (s : mS) : fp aw_M_find fw_M_find false s (f_M_find a1 s).2 := by
  refine (fun (Q : Int32 × mS → Prop) (hQ : ∀ r, fp aw_M_find fw_M_find false s r.2 → Q r) => ?_ : ∀ Q : Int32 × mS → Prop, (∀ r, fp aw_M_find fw_M_find false s r.2 → Q r) → Q (f_M_find a1 s)) (fun r => fp aw_M_find fw_M_find false s r.2) (fun _ h => h)
  unfold f_M_find
  refine q_let0 Q (fun x10 => ?_)
  refine q_if Q (fun _ => ?_) (fun _ => ?_)
  · refine q_let0 Q (fun x11 => ?_)
    refine q_if Q (fun _ => ?_) (fun _ => ?_)
    · exact hQ _ fp_r
    · refine q_call Q (R := fun (x12 : mS) => fp aw_M_find fw_M_find false s x12) (fp_t fp_r (fp_m (fr_M_searches s) (by decide) (by decide) (by decide))) (fun x12 gx12 => ?_)
      refine q_if Q (fun _ => ?_) (fun _ => ?_)
      · exact hQ _ gx12
      · refine q_if Q (fun _ => ?_) (fun _ => ?_)
        · exact hQ _ gx12
        · refine q_if Q (fun _ => ?_) (fun _ => ?_)
          · exact hQ _ gx12
          · refine q_if Q (fun _ => ?_) (fun _ => ?_)
            · exact hQ _ gx12
            · refine q_if Q (fun _ => ?_) (fun _ => ?_)
              · exact hQ _ gx12
              · exact hQ _ gx12
  · refine q_call Q (R := fun (x13 : mS) => fp aw_M_find fw_M_find false s x13) (fp_t fp_r (fp_m (fr_M_searches s) (by decide) (by decide) (by decide))) (fun x13 gx13 => ?_)
    refine q_if Q (fun _ => ?_) (fun _ => ?_)
    · exact hQ _ gx13
    · refine q_if Q (fun _ => ?_) (fun _ => ?_)
      · exact hQ _ gx13
      · refine q_if Q (fun _ => ?_) (fun _ => ?_)
        · exact hQ _ gx13
        · refine q_if Q (fun _ => ?_) (fun _ => ?_)
          · exact hQ _ gx13
          · refine q_if Q (fun _ => ?_) (fun _ => ?_)
            · exact hQ _ gx13
            · exact hQ _ gx13
def aw_Improvements_offer : List Nat := [112, 113, 114]
def fw_Improvements_offer : List (Nat × Nat) := [(111, 4)]
theorem fr_Improvements_offer  (a1 : Int32) (a2 : Int32) (a3 : Int32) (s : mS) : fp aw_Improvements_offer fw_Improvements_offer false s (f_Improvements_offer a1 a2 a3 s).2 := by
  refine (fun (Q : Int32 × mS → Prop) (hQ : ∀ r, fp aw_Improvements_offer fw_Improvements_offer false s r.2 → Q r) => ?_ : ∀ Q : Int32 × mS → Prop, (∀ r, fp aw_Improvements_offer fw_Improvements_offer false s r.2 → Q r) → Q (f_Improvements_offer a1 a2 a3 s)) (fun r => fp aw_Improvements_offer fw_Improvements_offer false s r.2) (fun _ h => h)
  unfold f_Improvements_offer
  refine q_if Q (fun _ => ?_) (fun _ => ?_)
  · exact hQ _ (fp_IF (fp_IA (fp_IA (fp_IA fp_r (by decide)) (by decide)) (by decide)) (by decide))
  · exact hQ _ fp_r
def aw_G_work : List Nat := [112, 113, 114]
def fw_G_work : List (Nat × Nat) := [(111, 4)]
theorem fr_G_work  (a1 : Int32) (a2 : Int32) (a3 : Int32) (s : mS) : fp aw_G_work fw_G_work false s (f_G_work a1 a2 a3 s).2 := by
  refine (fun (Q : Int32 × mS → Prop) (hQ : ∀ r, fp aw_G_work fw_G_work false s r.2 → Q r) => ?_ : ∀ Q : Int32 × mS → Prop, (∀ r, fp aw_G_work fw_G_work false s r.2 → Q r) → Q (f_G_work a1 a2 a3 s)) (fun r => fp aw_G_work fw_G_work false s r.2) (fun _ h => h)
  unfold f_G_work
  refine q_let0 Q (fun x10 => ?_)
  refine q_if Q (fun _ => ?_) (fun _ => ?_)
  · exact hQ _ fp_r
  · refine q_let0 Q (fun x11 => ?_)
    refine q_if Q (fun _ => ?_) (fun _ => ?_)
    · exact hQ _ fp_r
    · refine q_let0 Q (fun x12 => ?_)
      refine q_if Q (fun _ => ?_) (fun _ => ?_)
      · exact hQ _ fp_r
      · refine q_call Q (R := fun (x13 : Int32 × mS) => fp aw_G_work fw_G_work false s x13.2) (fp_t fp_r (fp_m (fr_Improvements_offer a1 a2 a3 s) (by decide) (by decide) (by decide))) (fun x13 gx13 => ?_)
        exact hQ _ gx13
def aw_M_work : List Nat := [176, 177, 178]
def fw_M_work : List (Nat × Nat) := [(116, 103)]
theorem fr_M_work  (a1 : Int32) (a2 : Int32) (a3 : Int32) (s : mS) : fp aw_M_work fw_M_work false s (f_M_work a1 a2 a3 s).2 := by
  refine (fun (Q : Int32 × mS → Prop) (hQ : ∀ r, fp aw_M_work fw_M_work false s r.2 → Q r) => ?_ : ∀ Q : Int32 × mS → Prop, (∀ r, fp aw_M_work fw_M_work false s r.2 → Q r) → Q (f_M_work a1 a2 a3 s)) (fun r => fp aw_M_work fw_M_work false s r.2) (fun _ h => h)
  unfold f_M_work
  refine q_let0 Q (fun x10 => ?_)
  refine q_if Q (fun _ => ?_) (fun _ => ?_)
  · exact hQ _ fp_r
  · refine q_let0 Q (fun x11 => ?_)
    refine q_if Q (fun _ => ?_) (fun _ => ?_)
    · exact hQ _ fp_r
    · refine q_let0 Q (fun x12 => ?_)
      refine q_if Q (fun _ => ?_) (fun _ => ?_)
      · exact hQ _ fp_r
      · refine q_if Q (fun _ => ?_) (fun _ => ?_)
        · exact hQ _ fp_r
        · exact hQ _ (fp_IF (fp_IA (fp_IA (fp_IA fp_r (by decide)) (by decide)) (by decide)) (by decide))
def aw_lp_Improvements_putIn_2 : List Nat := [115]
def fw_lp_Improvements_putIn_2 : List (Nat × Nat) := []
theorem fr_lp_Improvements_putIn_2  (a1 : Int32) : ∀ (n : Nat) (v3 : Int32) (s : mS), fp aw_lp_Improvements_putIn_2 fw_lp_Improvements_putIn_2 false s (lp_Improvements_putIn_2 a1 n v3 s).2 := by
  intro n
  induction n with
  | zero => intro v3 s; exact fp_r
  | succ n ih =>
    intro v3 s
    refine (fun (Q : Int32 × mS → Prop) (hQ : ∀ r, fp aw_lp_Improvements_putIn_2 fw_lp_Improvements_putIn_2 false s r.2 → Q r) => ?_ : ∀ Q : Int32 × mS → Prop, (∀ r, fp aw_lp_Improvements_putIn_2 fw_lp_Improvements_putIn_2 false s r.2 → Q r) → Q (lp_Improvements_putIn_2 a1 (n + 1) v3 s)) (fun r => fp aw_lp_Improvements_putIn_2 fw_lp_Improvements_putIn_2 false s r.2) (fun _ h => h)
    rw [lp_Improvements_putIn_2]
    refine q_if Q (fun _ => ?_) (fun _ => ?_)
    · exact hQ _ fp_r
    · exact hQ _ (fp_t (fp_IA fp_r (by decide)) (ih (v3 + 1) (sI s 115 (ix v3) (gI s 27 (ix v3)))))
def aw_lp_Improvements_putIn_28 : List Nat := [115]
def fw_lp_Improvements_putIn_28 : List (Nat × Nat) := []
theorem fr_lp_Improvements_putIn_28  (a1 : Int32) : ∀ (n : Nat) (v3 : Int32) (s : mS), fp aw_lp_Improvements_putIn_28 fw_lp_Improvements_putIn_28 false s (lp_Improvements_putIn_28 a1 n v3 s).2 := by
  intro n
  induction n with
  | zero => intro v3 s; exact fp_r
  | succ n ih =>
    intro v3 s
    refine (fun (Q : Int32 × mS → Prop) (hQ : ∀ r, fp aw_lp_Improvements_putIn_28 fw_lp_Improvements_putIn_28 false s r.2 → Q r) => ?_ : ∀ Q : Int32 × mS → Prop, (∀ r, fp aw_lp_Improvements_putIn_28 fw_lp_Improvements_putIn_28 false s r.2 → Q r) → Q (lp_Improvements_putIn_28 a1 (n + 1) v3 s)) (fun r => fp aw_lp_Improvements_putIn_28 fw_lp_Improvements_putIn_28 false s r.2) (fun _ h => h)
    rw [lp_Improvements_putIn_28]
    refine q_if Q (fun _ => ?_) (fun _ => ?_)
    · exact hQ _ fp_r
    · refine q_if Q (fun _ => ?_) (fun _ => ?_)
      · exact hQ _ fp_r
      · refine q_if Q (fun _ => ?_) (fun _ => ?_)
        · refine q_if Q (fun _ => ?_) (fun _ => ?_)
          · exact hQ _ (fp_t fp_r (ih (v3 + 1) s))
          · refine q_if Q (fun _ => ?_) (fun _ => ?_)
            · exact hQ _ (fp_t fp_r (ih (v3 + 1) s))
            · exact hQ _ (fp_t (fp_IA fp_r (by decide)) (ih (v3 + 1) (sI s 115 (ix (gI s 112 (ix v3))) (gI s 113 (ix v3)))))
        · exact hQ _ (fp_t fp_r (ih (v3 + 1) s))
def aw_Improvements_putIn : List Nat := [115]
def fw_Improvements_putIn : List (Nat × Nat) := []
theorem fr_Improvements_putIn  (a1 : Int32) (s : mS) : fp aw_Improvements_putIn fw_Improvements_putIn false s (f_Improvements_putIn a1 s) := by
  refine (fun (Q : mS → Prop) (hQ : ∀ r, fp aw_Improvements_putIn fw_Improvements_putIn false s r → Q r) => ?_ : ∀ Q : mS → Prop, (∀ r, fp aw_Improvements_putIn fw_Improvements_putIn false s r → Q r) → Q (f_Improvements_putIn a1 s)) (fun r => fp aw_Improvements_putIn fw_Improvements_putIn false s r) (fun _ h => h)
  unfold f_Improvements_putIn
  refine q_call Q (R := fun (x10 : Int32 × mS) => fp aw_Improvements_putIn fw_Improvements_putIn false s x10.2) (fp_t fp_r (fp_m (fr_lp_Improvements_putIn_2 a1 mm_N (0 : Int32) s) (by decide) (by decide) (by decide))) (fun x10 gx10 => ?_)
  refine q_call Q (R := fun (x12 : Int32 × mS) => fp aw_Improvements_putIn fw_Improvements_putIn false s x12.2) (fp_t gx10 (fp_m (fr_lp_Improvements_putIn_28 a1 mm_N (0 : Int32) x10.2) (by decide) (by decide) (by decide))) (fun x12 gx12 => ?_)
  exact hQ _ gx12
def aw_lp_Net_press_115_31 : List Nat := [30]
def fw_lp_Net_press_115_31 : List (Nat × Nat) := []
theorem fr_lp_Net_press_115_31   : ∀ (n : Nat) (v2 : Int32) (v3 : Int32) (s : mS), fp aw_lp_Net_press_115_31 fw_lp_Net_press_115_31 false s (lp_Net_press_115_31 n v2 v3 s).2.2 := by
  intro n
  induction n with
  | zero => intro v2 v3 s; exact fp_r
  | succ n ih =>
    intro v2 v3 s
    refine (fun (Q : Int32 × Int32 × mS → Prop) (hQ : ∀ r, fp aw_lp_Net_press_115_31 fw_lp_Net_press_115_31 false s r.2.2 → Q r) => ?_ : ∀ Q : Int32 × Int32 × mS → Prop, (∀ r, fp aw_lp_Net_press_115_31 fw_lp_Net_press_115_31 false s r.2.2 → Q r) → Q (lp_Net_press_115_31 (n + 1) v2 v3 s)) (fun r => fp aw_lp_Net_press_115_31 fw_lp_Net_press_115_31 false s r.2.2) (fun _ h => h)
    rw [lp_Net_press_115_31]
    refine q_if Q (fun _ => ?_) (fun _ => ?_)
    · exact hQ _ fp_r
    · refine q_if Q (fun _ => ?_) (fun _ => ?_)
      · exact hQ _ fp_r
      · refine q_let0 Q (fun x11 => ?_)
        refine q_let0 Q (fun x12 => ?_)
        refine q_let0 Q (fun x13 => ?_)
        exact hQ _ (fp_t (fp_IA fp_r (by decide)) (ih x13 (v3 + 1) (sI s 30 (ix v3) x12)))
def aw_Net_press_115 : List Nat := [30]
def fw_Net_press_115 : List (Nat × Nat) := []
theorem fr_Net_press_115   (s : mS) : fp aw_Net_press_115 fw_Net_press_115 false s (f_Net_press_115 s).2 := by
  refine (fun (Q : Int32 × mS → Prop) (hQ : ∀ r, fp aw_Net_press_115 fw_Net_press_115 false s r.2 → Q r) => ?_ : ∀ Q : Int32 × mS → Prop, (∀ r, fp aw_Net_press_115 fw_Net_press_115 false s r.2 → Q r) → Q (f_Net_press_115 s)) (fun r => fp aw_Net_press_115 fw_Net_press_115 false s r.2) (fun _ h => h)
  unfold f_Net_press_115
  refine q_let0 Q (fun x10 => ?_)
  refine q_call Q (R := fun (x14 : Int32 × Int32 × mS) => fp aw_Net_press_115 fw_Net_press_115 false s x14.2.2) (fp_t (fp_IA fp_r (by decide)) (fp_m (fr_lp_Net_press_115_31 mm_N x10 (1 : Int32) (sI s 30 0 (gI s 25 11))) (by decide) (by decide) (by decide))) (fun x14 gx14 => ?_)
  exact hQ _ gx14
def aw_lp_Net_settle_115_9 : List Nat := [24, 30, 31]
def fw_lp_Net_settle_115_9 : List (Nat × Nat) := []
theorem fr_lp_Net_settle_115_9   : ∀ (n : Nat) (v3 : Int32) (v4 : Int32) (s : mS), fp aw_lp_Net_settle_115_9 fw_lp_Net_settle_115_9 false s (lp_Net_settle_115_9 n v3 v4 s).2.2 := by
  intro n
  induction n with
  | zero => intro v3 v4 s; exact fp_r
  | succ n ih =>
    intro v3 v4 s
    refine (fun (Q : Int32 × Int32 × mS → Prop) (hQ : ∀ r, fp aw_lp_Net_settle_115_9 fw_lp_Net_settle_115_9 false s r.2.2 → Q r) => ?_ : ∀ Q : Int32 × Int32 × mS → Prop, (∀ r, fp aw_lp_Net_settle_115_9 fw_lp_Net_settle_115_9 false s r.2.2 → Q r) → Q (lp_Net_settle_115_9 (n + 1) v3 v4 s)) (fun r => fp aw_lp_Net_settle_115_9 fw_lp_Net_settle_115_9 false s r.2.2) (fun _ h => h)
    rw [lp_Net_settle_115_9]
    refine q_if Q (fun _ => ?_) (fun _ => ?_)
    · exact hQ _ fp_r
    · refine q_if Q (fun _ => ?_) (fun _ => ?_)
      · refine q_call Q (R := fun (x11 : mS) => fp aw_lp_Net_settle_115_9 fw_lp_Net_settle_115_9 false s x11) (fp_t fp_r (fp_m (fr_Net_gatherFlow s) (by decide) (by decide) (by decide))) (fun x11 gx11 => ?_)
        refine q_call Q (R := fun (x12 : Int32 × mS) => fp aw_lp_Net_settle_115_9 fw_lp_Net_settle_115_9 false s x12.2) (fp_t gx11 (fp_m (fr_Net_press_115 x11) (by decide) (by decide) (by decide))) (fun x12 gx12 => ?_)
        refine q_let0 Q (fun x13 => ?_)
        refine q_call Q (R := fun (x14 : mS) => fp aw_lp_Net_settle_115_9 fw_lp_Net_settle_115_9 false s x14) (fp_t gx12 (fp_m (fr_Things_takeBy_30 x12.2) (by decide) (by decide) (by decide))) (fun x14 gx14 => ?_)
        exact hQ _ (fp_t gx14 (ih x13 (v4 + 1) x14))
      · exact hQ _ fp_r
def aw_Net_settle_115 : List Nat := [24, 30, 31]
def fw_Net_settle_115 : List (Nat × Nat) := []
theorem fr_Net_settle_115   (s : mS) : fp aw_Net_settle_115 fw_Net_settle_115 false s (f_Net_settle_115 s).2 := by
  refine (fun (Q : Int32 × mS → Prop) (hQ : ∀ r, fp aw_Net_settle_115 fw_Net_settle_115 false s r.2 → Q r) => ?_ : ∀ Q : Int32 × mS → Prop, (∀ r, fp aw_Net_settle_115 fw_Net_settle_115 false s r.2 → Q r) → Q (f_Net_settle_115 s)) (fun r => fp aw_Net_settle_115 fw_Net_settle_115 false s r.2) (fun _ h => h)
  unfold f_Net_settle_115
  refine q_call Q (R := fun (x10 : mS) => fp aw_Net_settle_115 fw_Net_settle_115 false s x10) (fp_t fp_r (fp_m (fr_Things_takeWants s) (by decide) (by decide) (by decide))) (fun x10 gx10 => ?_)
  refine q_call Q (R := fun (x15 : Int32 × Int32 × mS) => fp aw_Net_settle_115 fw_Net_settle_115 false s x15.2.2) (fp_t gx10 (fp_m (fr_lp_Net_settle_115_9 mm_N (0 : Int32) (0 : Int32) x10) (by decide) (by decide) (by decide))) (fun x15 gx15 => ?_)
  exact hQ _ gx15
def aw_lp_Improvements_choose_8 : List Nat := [24, 30, 31, 115]
def fw_lp_Improvements_choose_8 : List (Nat × Nat) := [(111, 5), (111, 6), (111, 7)]
theorem fr_lp_Improvements_choose_8  (a1 : Int32) : ∀ (n : Nat) (v4 : Int32) (s : mS), fp aw_lp_Improvements_choose_8 fw_lp_Improvements_choose_8 false s (lp_Improvements_choose_8 a1 n v4 s).2 := by
  intro n
  induction n with
  | zero => intro v4 s; exact fp_r
  | succ n ih =>
    intro v4 s
    refine (fun (Q : Int32 × mS → Prop) (hQ : ∀ r, fp aw_lp_Improvements_choose_8 fw_lp_Improvements_choose_8 false s r.2 → Q r) => ?_ : ∀ Q : Int32 × mS → Prop, (∀ r, fp aw_lp_Improvements_choose_8 fw_lp_Improvements_choose_8 false s r.2 → Q r) → Q (lp_Improvements_choose_8 a1 (n + 1) v4 s)) (fun r => fp aw_lp_Improvements_choose_8 fw_lp_Improvements_choose_8 false s r.2) (fun _ h => h)
    rw [lp_Improvements_choose_8]
    refine q_if Q (fun _ => ?_) (fun _ => ?_)
    · exact hQ _ fp_r
    · refine q_let0 Q (fun x10 => ?_)
      refine q_if Q (fun _ => ?_) (fun _ => ?_)
      · refine q_call Q (R := fun (x11 : mS) => fp aw_lp_Improvements_choose_8 fw_lp_Improvements_choose_8 false s x11) (fp_t fp_r (fp_m (fr_Improvements_putIn v4 s) (by decide) (by decide) (by decide))) (fun x11 gx11 => ?_)
        refine q_call Q (R := fun (x12 : Int32 × mS) => fp aw_lp_Improvements_choose_8 fw_lp_Improvements_choose_8 false s x12.2) (fp_t gx11 (fp_m (fr_Net_settle_115 x11) (by decide) (by decide) (by decide))) (fun x12 gx12 => ?_)
        refine q_let0 Q (fun x13 => ?_)
        refine q_if Q (fun _ => ?_) (fun _ => ?_)
        · exact hQ _ (fp_t (fp_IF (fp_IF (fp_IF gx12 (by decide)) (by decide)) (by decide)) (ih (v4 + 1) (sI (sI (sI x12.2 111 5 v4) 111 6 x13) 111 7 x10)))
        · refine q_if Q (fun _ => ?_) (fun _ => ?_)
          · refine q_if Q (fun _ => ?_) (fun _ => ?_)
            · exact hQ _ (fp_t gx12 (ih (v4 + 1) x12.2))
            · exact hQ _ (fp_t (fp_IF (fp_IF (fp_IF gx12 (by decide)) (by decide)) (by decide)) (ih (v4 + 1) (sI (sI (sI x12.2 111 5 v4) 111 6 x13) 111 7 x10)))
          · exact hQ _ (fp_t gx12 (ih (v4 + 1) x12.2))
      · exact hQ _ (fp_t fp_r (ih (v4 + 1) s))
def aw_Improvements_choose : List Nat := [24, 30, 31, 115]
def fw_Improvements_choose : List (Nat × Nat) := [(111, 5), (111, 6), (111, 7)]
theorem fr_Improvements_choose  (a1 : Int32) (s : mS) : fp aw_Improvements_choose fw_Improvements_choose false s (f_Improvements_choose a1 s) := by
  refine (fun (Q : mS → Prop) (hQ : ∀ r, fp aw_Improvements_choose fw_Improvements_choose false s r → Q r) => ?_ : ∀ Q : mS → Prop, (∀ r, fp aw_Improvements_choose fw_Improvements_choose false s r → Q r) → Q (f_Improvements_choose a1 s)) (fun r => fp aw_Improvements_choose fw_Improvements_choose false s r) (fun _ h => h)
  unfold f_Improvements_choose
  refine q_call Q (R := fun (x14 : Int32 × mS) => fp aw_Improvements_choose fw_Improvements_choose false s x14.2) (fp_t (fp_IF fp_r (by decide)) (fp_m (fr_lp_Improvements_choose_8 a1 mm_N (0 : Int32) (sI s 111 6 (-1))) (by decide) (by decide) (by decide))) (fun x14 gx14 => ?_)
  exact hQ _ gx14
def aw_G_choice : List Nat := [23, 24, 30, 31, 115]
def fw_G_choice : List (Nat × Nat) := [(111, 5), (111, 6), (111, 7)]
theorem fr_G_choice  (a1 : Int32) (a2 : Int32) (a3 : Int32) (s : mS) : fp aw_G_choice fw_G_choice false s (f_G_choice a1 a2 a3 s).2 := by
  refine (fun (Q : Int32 × mS → Prop) (hQ : ∀ r, fp aw_G_choice fw_G_choice false s r.2 → Q r) => ?_ : ∀ Q : Int32 × mS → Prop, (∀ r, fp aw_G_choice fw_G_choice false s r.2 → Q r) → Q (f_G_choice a1 a2 a3 s)) (fun r => fp aw_G_choice fw_G_choice false s r.2) (fun _ h => h)
  unfold f_G_choice
  refine q_let0 Q (fun x10 => ?_)
  refine q_if Q (fun _ => ?_) (fun _ => ?_)
  · exact hQ _ fp_r
  · refine q_let0 Q (fun x11 => ?_)
    refine q_if Q (fun _ => ?_) (fun _ => ?_)
    · exact hQ _ fp_r
    · refine q_let0 Q (fun x12 => ?_)
      refine q_if Q (fun _ => ?_) (fun _ => ?_)
      · exact hQ _ fp_r
      · refine q_call Q (R := fun (x13 : mS) => fp aw_G_choice fw_G_choice false s x13) (fp_t fp_r (fp_m (fr_Things_askAll a2 s) (by decide) (by decide) (by decide))) (fun x13 gx13 => ?_)
        refine q_call Q (R := fun (x14 : mS) => fp aw_G_choice fw_G_choice false s x14) (fp_t gx13 (fp_m (fr_Improvements_choose a1 x13) (by decide) (by decide) (by decide))) (fun x14 gx14 => ?_)
        refine q_if Q (fun _ => ?_) (fun _ => ?_)
        · exact hQ _ gx14
        · refine q_if Q (fun _ => ?_) (fun _ => ?_)
          · exact hQ _ gx14
          · exact hQ _ gx14
def aw_lp_M_burning_2 : List Nat := [147]
def fw_lp_M_burning_2 : List (Nat × Nat) := []
theorem fr_lp_M_burning_2  (a1 : Int32) (a2 : Int32) : ∀ (n : Nat) (v3 : Int32) (s : mS), fp aw_lp_M_burning_2 fw_lp_M_burning_2 false s (lp_M_burning_2 a1 a2 n v3 s).2 := by
  intro n
  induction n with
  | zero => intro v3 s; exact fp_r
  | succ n ih =>
    intro v3 s
    refine (fun (Q : Int32 × mS → Prop) (hQ : ∀ r, fp aw_lp_M_burning_2 fw_lp_M_burning_2 false s r.2 → Q r) => ?_ : ∀ Q : Int32 × mS → Prop, (∀ r, fp aw_lp_M_burning_2 fw_lp_M_burning_2 false s r.2 → Q r) → Q (lp_M_burning_2 a1 a2 (n + 1) v3 s)) (fun r => fp aw_lp_M_burning_2 fw_lp_M_burning_2 false s r.2) (fun _ h => h)
    rw [lp_M_burning_2]
    refine q_if Q (fun _ => ?_) (fun _ => ?_)
    · exact hQ _ fp_r
    · exact hQ _ (fp_t (fp_IA fp_r (by decide)) (ih (v3 + 1) (sI s 147 (ix v3) (gI s 128 (ix v3)))))
def aw_lp_M_burning_30 : List Nat := [147]
def fw_lp_M_burning_30 : List (Nat × Nat) := []
theorem fr_lp_M_burning_30  (a1 : Int32) (a2 : Int32) : ∀ (n : Nat) (v3 : Int32) (s : mS), fp aw_lp_M_burning_30 fw_lp_M_burning_30 false s (lp_M_burning_30 a1 a2 n v3 s).2 := by
  intro n
  induction n with
  | zero => intro v3 s; exact fp_r
  | succ n ih =>
    intro v3 s
    refine (fun (Q : Int32 × mS → Prop) (hQ : ∀ r, fp aw_lp_M_burning_30 fw_lp_M_burning_30 false s r.2 → Q r) => ?_ : ∀ Q : Int32 × mS → Prop, (∀ r, fp aw_lp_M_burning_30 fw_lp_M_burning_30 false s r.2 → Q r) → Q (lp_M_burning_30 a1 a2 (n + 1) v3 s)) (fun r => fp aw_lp_M_burning_30 fw_lp_M_burning_30 false s r.2) (fun _ h => h)
    rw [lp_M_burning_30]
    refine q_if Q (fun _ => ?_) (fun _ => ?_)
    · exact hQ _ fp_r
    · refine q_if Q (fun _ => ?_) (fun _ => ?_)
      · exact hQ _ (fp_t (fp_IA fp_r (by decide)) (ih (v3 + 1) (sI s 147 (ix (gI s 176 (ix v3))) (gI s 177 (ix v3)))))
      · exact hQ _ (fp_t fp_r (ih (v3 + 1) s))
def aw_M_burning : List Nat := [142, 143, 144, 145, 146, 147]
def fw_M_burning : List (Nat × Nat) := []
theorem fr_M_burning  (a1 : Int32) (a2 : Int32) (s : mS) : fp aw_M_burning fw_M_burning false s (f_M_burning a1 a2 s).2 := by
  refine (fun (Q : Int32 × mS → Prop) (hQ : ∀ r, fp aw_M_burning fw_M_burning false s r.2 → Q r) => ?_ : ∀ Q : Int32 × mS → Prop, (∀ r, fp aw_M_burning fw_M_burning false s r.2 → Q r) → Q (f_M_burning a1 a2 s)) (fun r => fp aw_M_burning fw_M_burning false s r.2) (fun _ h => h)
  unfold f_M_burning
  refine q_call Q (R := fun (x10 : Int32 × mS) => fp aw_M_burning fw_M_burning false s x10.2) (fp_t fp_r (fp_m (fr_lp_M_burning_2 a1 a2 mm_N (0 : Int32) s) (by decide) (by decide) (by decide))) (fun x10 gx10 => ?_)
  refine q_call Q (R := fun (x12 : Int32 × mS) => fp aw_M_burning fw_M_burning false s x12.2) (fp_t gx10 (fp_m (fr_lp_M_burning_30 a1 a2 mm_N (0 : Int32) x10.2) (by decide) (by decide) (by decide))) (fun x12 gx12 => ?_)
  refine q_call Q (R := fun (x14 : Int32 × mS) => fp aw_M_burning fw_M_burning false s x14.2) (fp_t gx12 (fp_m (fr_M_settles a2 x12.2) (by decide) (by decide) (by decide))) (fun x14 gx14 => ?_)
  refine q_let0 Q (fun x15 => ?_)
  exact hQ _ gx14
def aw_lp_M_choice_42 : List Nat := [142, 143, 144, 145, 146, 147]
def fw_lp_M_choice_42 : List (Nat × Nat) := []
theorem fr_lp_M_choice_42  (a1 : Int32) (a2 : Int32) (a3 : Int32) : ∀ (n : Nat) (v4 : Int32) (v5 : Int32) (v6 : Int32) (s : mS), fp aw_lp_M_choice_42 fw_lp_M_choice_42 false s (lp_M_choice_42 a1 a2 a3 n v4 v5 v6 s).2.2.2 := by
  intro n
  induction n with
  | zero => intro v4 v5 v6 s; exact fp_r
  | succ n ih =>
    intro v4 v5 v6 s
    refine (fun (Q : Int32 × Int32 × Int32 × mS → Prop) (hQ : ∀ r, fp aw_lp_M_choice_42 fw_lp_M_choice_42 false s r.2.2.2 → Q r) => ?_ : ∀ Q : Int32 × Int32 × Int32 × mS → Prop, (∀ r, fp aw_lp_M_choice_42 fw_lp_M_choice_42 false s r.2.2.2 → Q r) → Q (lp_M_choice_42 a1 a2 a3 (n + 1) v4 v5 v6 s)) (fun r => fp aw_lp_M_choice_42 fw_lp_M_choice_42 false s r.2.2.2) (fun _ h => h)
    rw [lp_M_choice_42]
    refine q_if Q (fun _ => ?_) (fun _ => ?_)
    · exact hQ _ fp_r
    · refine q_let0 Q (fun x13 => ?_)
      refine q_if Q (fun _ => ?_) (fun _ => ?_)
      · refine q_call Q (R := fun (x14 : Int32 × mS) => fp aw_lp_M_choice_42 fw_lp_M_choice_42 false s x14.2) (fp_t fp_r (fp_m (fr_M_burning v6 a2 s) (by decide) (by decide) (by decide))) (fun x14 gx14 => ?_)
        refine q_if Q (fun _ => ?_) (fun _ => ?_)
        · exact hQ _ (fp_t gx14 (ih v6 x14.1 (v6 + 1) x14.2))
        · refine q_if Q (fun _ => ?_) (fun _ => ?_)
          · exact hQ _ (fp_t gx14 (ih v4 v5 (v6 + 1) x14.2))
          · refine q_if Q (fun _ => ?_) (fun _ => ?_)
            · refine q_let0 Q (fun x15 => ?_)
              refine q_let0 Q (fun x16 => ?_)
              refine q_if Q (fun _ => ?_) (fun _ => ?_)
              · exact hQ _ (fp_t gx14 (ih v6 x14.1 (v6 + 1) x14.2))
              · exact hQ _ (fp_t gx14 (ih v4 v5 (v6 + 1) x14.2))
            · exact hQ _ (fp_t gx14 (ih v6 x14.1 (v6 + 1) x14.2))
      · exact hQ _ (fp_t fp_r (ih v4 v5 (v6 + 1) s))
def aw_M_choice : List Nat := [142, 143, 144, 145, 146, 147]
def fw_M_choice : List (Nat × Nat) := []
theorem fr_M_choice  (a1 : Int32) (a2 : Int32) (a3 : Int32) (s : mS) : fp aw_M_choice fw_M_choice false s (f_M_choice a1 a2 a3 s).2 := by
  refine (fun (Q : Int32 × mS → Prop) (hQ : ∀ r, fp aw_M_choice fw_M_choice false s r.2 → Q r) => ?_ : ∀ Q : Int32 × mS → Prop, (∀ r, fp aw_M_choice fw_M_choice false s r.2 → Q r) → Q (f_M_choice a1 a2 a3 s)) (fun r => fp aw_M_choice fw_M_choice false s r.2) (fun _ h => h)
  unfold f_M_choice
  refine q_let0 Q (fun x10 => ?_)
  refine q_if Q (fun _ => ?_) (fun _ => ?_)
  · exact hQ _ fp_r
  · refine q_let0 Q (fun x11 => ?_)
    refine q_if Q (fun _ => ?_) (fun _ => ?_)
    · exact hQ _ fp_r
    · refine q_let0 Q (fun x12 => ?_)
      refine q_if Q (fun _ => ?_) (fun _ => ?_)
      · exact hQ _ fp_r
      · refine q_call Q (R := fun (x17 : Int32 × Int32 × Int32 × mS) => fp aw_M_choice fw_M_choice false s x17.2.2.2) (fp_t fp_r (fp_m (fr_lp_M_choice_42 a1 a2 a3 mm_N ((-1) : Int32) (0 : Int32) (0 : Int32) s) (by decide) (by decide) (by decide))) (fun x17 gx17 => ?_)
        refine q_if Q (fun _ => ?_) (fun _ => ?_)
        · exact hQ _ gx17
        · refine q_if Q (fun _ => ?_) (fun _ => ?_)
          · exact hQ _ gx17
          · refine q_let0 Q (fun x19 => ?_)
            exact hQ _ gx17
