/-! WHAT A METHOD LEAVES AS IT WAS, by program. -/
def aw_Parser_takeBehind : List Nat := [81]
def fw_Parser_takeBehind : List (Nat × Nat) := [(80, 7), (80, 8), (80, 10), (80, 11), (80, 12), (80, 13)]
theorem fr_Parser_takeBehind   (s : mS) (hP : ∀ j, mq_A (gP s j)) : fp aw_Parser_takeBehind fw_Parser_takeBehind true s (f_Parser_takeBehind s) := by
  refine (fun (Q : mS → Prop) (hQ : ∀ r, fp aw_Parser_takeBehind fw_Parser_takeBehind true s r → Q r) => ?_ : ∀ Q : mS → Prop, (∀ r, fp aw_Parser_takeBehind fw_Parser_takeBehind true s r → Q r) → Q (f_Parser_takeBehind s)) (fun r => fp aw_Parser_takeBehind fw_Parser_takeBehind true s r) (fun _ h => h)
  unfold f_Parser_takeBehind
  refine q_let0 Q (fun x10 => ?_)
  refine q_if Q (fun _ => ?_) (fun _ => ?_)
  · refine q_if Q (fun _ => ?_) (fun _ => ?_)
    · refine q_if Q (fun _ => ?_) (fun _ => ?_)
      · refine q_if Q (fun _ => ?_) (fun _ => ?_)
        · refine q_if Q (fun _ => ?_) (fun _ => ?_)
          · refine q_if Q (fun _ => ?_) (fun _ => ?_)
            · refine q_if Q (fun _ => ?_) (fun _ => ?_)
              · refine q_if Q (fun _ => ?_) (fun _ => ?_)
                · refine q_call Q (R := fun (x11 : mS) => fp aw_Parser_takeBehind fw_Parser_takeBehind true s x11) (fp_t fp_r (fp_m (fr_Parser_unwind (1 : Int32) s (fp_P (show fp aw_Parser_takeBehind fw_Parser_takeBehind true s s from fp_r) hP)) (by decide) (by decide) (by decide))) (fun x11 gx11 => ?_)
                  refine q_call Q (R := mq_A) (fp_P (show fp aw_Parser_takeBehind fw_Parser_takeBehind true s x11 from gx11) hP _) (fun r12 hr12 => ?_)
                  refine q_call Q (R := fun (x13 : mS) => fp aw_Parser_takeBehind fw_Parser_takeBehind true s x13) (fp_t gx11 (fp_m (fr_Act_beginCondition r12 hr12 x11) (by decide) (by decide) (by decide))) (fun x13 gx13 => ?_)
                  exact hQ _ (fp_IF gx13 (by decide))
                · refine q_if Q (fun _ => ?_) (fun _ => ?_)
                  · refine q_if Q (fun _ => ?_) (fun _ => ?_)
                    · refine q_call Q (R := fun (x14 : mS) => fp aw_Parser_takeBehind fw_Parser_takeBehind true s x14) (fp_t fp_r (fp_m (fr_Parser_fail (1 : Int32) s) (by decide) (by decide) (by decide))) (fun x14 gx14 => ?_)
                      exact hQ _ gx14
                    · refine q_call Q (R := fun (x15 : mS) => fp aw_Parser_takeBehind fw_Parser_takeBehind true s x15) (fp_t fp_r (fp_m (fr_Parser_closeLine s (fp_P (show fp aw_Parser_takeBehind fw_Parser_takeBehind true s s from fp_r) hP)) (by decide) (by decide) (by decide))) (fun x15 gx15 => ?_)
                      exact hQ _ gx15
                  · refine q_call Q (R := fun (x16 : mS) => fp aw_Parser_takeBehind fw_Parser_takeBehind true s x16) (fp_t fp_r (fp_m (fr_Parser_fail (1 : Int32) s) (by decide) (by decide) (by decide))) (fun x16 gx16 => ?_)
                    exact hQ _ gx16
              · refine q_if Q (fun _ => ?_) (fun _ => ?_)
                · refine q_if Q (fun _ => ?_) (fun _ => ?_)
                  · refine q_call Q (R := fun (x17 : mS) => fp aw_Parser_takeBehind fw_Parser_takeBehind true s x17) (fp_t fp_r (fp_m (fr_Parser_fail (1 : Int32) s) (by decide) (by decide) (by decide))) (fun x17 gx17 => ?_)
                    exact hQ _ gx17
                  · refine q_call Q (R := fun (x18 : mS) => fp aw_Parser_takeBehind fw_Parser_takeBehind true s x18) (fp_t fp_r (fp_m (fr_Parser_closeLine s (fp_P (show fp aw_Parser_takeBehind fw_Parser_takeBehind true s s from fp_r) hP)) (by decide) (by decide) (by decide))) (fun x18 gx18 => ?_)
                    exact hQ _ gx18
                · refine q_call Q (R := fun (x19 : mS) => fp aw_Parser_takeBehind fw_Parser_takeBehind true s x19) (fp_t fp_r (fp_m (fr_Parser_fail (1 : Int32) s) (by decide) (by decide) (by decide))) (fun x19 gx19 => ?_)
                  exact hQ _ gx19
            · refine q_call Q (R := fun (x20 : mS) => fp aw_Parser_takeBehind fw_Parser_takeBehind true s x20) (fp_t fp_r (fp_m (fr_Parser_closeBracket s (fp_P (show fp aw_Parser_takeBehind fw_Parser_takeBehind true s s from fp_r) hP)) (by decide) (by decide) (by decide))) (fun x20 gx20 => ?_)
              exact hQ _ gx20
          · refine q_if Q (fun _ => ?_) (fun _ => ?_)
            · refine q_if Q (fun _ => ?_) (fun _ => ?_)
              · refine q_call Q (R := fun (x21 : mS) => fp aw_Parser_takeBehind fw_Parser_takeBehind true s x21) (fp_t fp_r (fp_m (fr_Parser_unwind (1 : Int32) s (fp_P (show fp aw_Parser_takeBehind fw_Parser_takeBehind true s s from fp_r) hP)) (by decide) (by decide) (by decide))) (fun x21 gx21 => ?_)
                refine q_call Q (R := mq_A) (fp_P (show fp aw_Parser_takeBehind fw_Parser_takeBehind true s x21 from gx21) hP _) (fun r22 hr22 => ?_)
                refine q_call Q (R := fun (x23 : mS) => fp aw_Parser_takeBehind fw_Parser_takeBehind true s x23) (fp_t gx21 (fp_m (fr_Act_beginCondition r22 hr22 x21) (by decide) (by decide) (by decide))) (fun x23 gx23 => ?_)
                exact hQ _ (fp_IF gx23 (by decide))
              · refine q_if Q (fun _ => ?_) (fun _ => ?_)
                · refine q_if Q (fun _ => ?_) (fun _ => ?_)
                  · refine q_call Q (R := fun (x24 : mS) => fp aw_Parser_takeBehind fw_Parser_takeBehind true s x24) (fp_t fp_r (fp_m (fr_Parser_fail (1 : Int32) s) (by decide) (by decide) (by decide))) (fun x24 gx24 => ?_)
                    exact hQ _ gx24
                  · refine q_call Q (R := fun (x25 : mS) => fp aw_Parser_takeBehind fw_Parser_takeBehind true s x25) (fp_t fp_r (fp_m (fr_Parser_closeLine s (fp_P (show fp aw_Parser_takeBehind fw_Parser_takeBehind true s s from fp_r) hP)) (by decide) (by decide) (by decide))) (fun x25 gx25 => ?_)
                    exact hQ _ gx25
                · refine q_call Q (R := fun (x26 : mS) => fp aw_Parser_takeBehind fw_Parser_takeBehind true s x26) (fp_t fp_r (fp_m (fr_Parser_fail (1 : Int32) s) (by decide) (by decide) (by decide))) (fun x26 gx26 => ?_)
                  exact hQ _ gx26
            · refine q_if Q (fun _ => ?_) (fun _ => ?_)
              · refine q_if Q (fun _ => ?_) (fun _ => ?_)
                · refine q_call Q (R := fun (x27 : mS) => fp aw_Parser_takeBehind fw_Parser_takeBehind true s x27) (fp_t fp_r (fp_m (fr_Parser_fail (1 : Int32) s) (by decide) (by decide) (by decide))) (fun x27 gx27 => ?_)
                  exact hQ _ gx27
                · refine q_call Q (R := fun (x28 : mS) => fp aw_Parser_takeBehind fw_Parser_takeBehind true s x28) (fp_t fp_r (fp_m (fr_Parser_closeLine s (fp_P (show fp aw_Parser_takeBehind fw_Parser_takeBehind true s s from fp_r) hP)) (by decide) (by decide) (by decide))) (fun x28 gx28 => ?_)
                  exact hQ _ gx28
              · refine q_call Q (R := fun (x29 : mS) => fp aw_Parser_takeBehind fw_Parser_takeBehind true s x29) (fp_t fp_r (fp_m (fr_Parser_fail (1 : Int32) s) (by decide) (by decide) (by decide))) (fun x29 gx29 => ?_)
                exact hQ _ gx29
        · refine q_call Q (R := fun (x30 : mS) => fp aw_Parser_takeBehind fw_Parser_takeBehind true s x30) (fp_t fp_r (fp_m (fr_Parser_operate (3 : Int32) s (fp_P (show fp aw_Parser_takeBehind fw_Parser_takeBehind true s s from fp_r) hP)) (by decide) (by decide) (by decide))) (fun x30 gx30 => ?_)
          exact hQ _ gx30
      · refine q_if Q (fun _ => ?_) (fun _ => ?_)
        · refine q_if Q (fun _ => ?_) (fun _ => ?_)
          · refine q_if Q (fun _ => ?_) (fun _ => ?_)
            · refine q_if Q (fun _ => ?_) (fun _ => ?_)
              · refine q_if Q (fun _ => ?_) (fun _ => ?_)
                · refine q_if Q (fun _ => ?_) (fun _ => ?_)
                  · refine q_call Q (R := fun (x31 : mS) => fp aw_Parser_takeBehind fw_Parser_takeBehind true s x31) (fp_t fp_r (fp_m (fr_Parser_unwind (1 : Int32) s (fp_P (show fp aw_Parser_takeBehind fw_Parser_takeBehind true s s from fp_r) hP)) (by decide) (by decide) (by decide))) (fun x31 gx31 => ?_)
                    refine q_call Q (R := mq_A) (fp_P (show fp aw_Parser_takeBehind fw_Parser_takeBehind true s x31 from gx31) hP _) (fun r32 hr32 => ?_)
                    refine q_call Q (R := fun (x33 : mS) => fp aw_Parser_takeBehind fw_Parser_takeBehind true s x33) (fp_t gx31 (fp_m (fr_Act_beginCondition r32 hr32 x31) (by decide) (by decide) (by decide))) (fun x33 gx33 => ?_)
                    exact hQ _ (fp_IF gx33 (by decide))
                  · refine q_if Q (fun _ => ?_) (fun _ => ?_)
                    · refine q_if Q (fun _ => ?_) (fun _ => ?_)
                      · refine q_call Q (R := fun (x34 : mS) => fp aw_Parser_takeBehind fw_Parser_takeBehind true s x34) (fp_t fp_r (fp_m (fr_Parser_fail (1 : Int32) s) (by decide) (by decide) (by decide))) (fun x34 gx34 => ?_)
                        exact hQ _ gx34
                      · refine q_call Q (R := fun (x35 : mS) => fp aw_Parser_takeBehind fw_Parser_takeBehind true s x35) (fp_t fp_r (fp_m (fr_Parser_closeLine s (fp_P (show fp aw_Parser_takeBehind fw_Parser_takeBehind true s s from fp_r) hP)) (by decide) (by decide) (by decide))) (fun x35 gx35 => ?_)
                        exact hQ _ gx35
                    · refine q_call Q (R := fun (x36 : mS) => fp aw_Parser_takeBehind fw_Parser_takeBehind true s x36) (fp_t fp_r (fp_m (fr_Parser_fail (1 : Int32) s) (by decide) (by decide) (by decide))) (fun x36 gx36 => ?_)
                      exact hQ _ gx36
                · refine q_if Q (fun _ => ?_) (fun _ => ?_)
                  · refine q_if Q (fun _ => ?_) (fun _ => ?_)
                    · refine q_call Q (R := fun (x37 : mS) => fp aw_Parser_takeBehind fw_Parser_takeBehind true s x37) (fp_t fp_r (fp_m (fr_Parser_fail (1 : Int32) s) (by decide) (by decide) (by decide))) (fun x37 gx37 => ?_)
                      exact hQ _ gx37
                    · refine q_call Q (R := fun (x38 : mS) => fp aw_Parser_takeBehind fw_Parser_takeBehind true s x38) (fp_t fp_r (fp_m (fr_Parser_closeLine s (fp_P (show fp aw_Parser_takeBehind fw_Parser_takeBehind true s s from fp_r) hP)) (by decide) (by decide) (by decide))) (fun x38 gx38 => ?_)
                      exact hQ _ gx38
                  · refine q_call Q (R := fun (x39 : mS) => fp aw_Parser_takeBehind fw_Parser_takeBehind true s x39) (fp_t fp_r (fp_m (fr_Parser_fail (1 : Int32) s) (by decide) (by decide) (by decide))) (fun x39 gx39 => ?_)
                    exact hQ _ gx39
              · refine q_call Q (R := fun (x40 : mS) => fp aw_Parser_takeBehind fw_Parser_takeBehind true s x40) (fp_t fp_r (fp_m (fr_Parser_closeBracket s (fp_P (show fp aw_Parser_takeBehind fw_Parser_takeBehind true s s from fp_r) hP)) (by decide) (by decide) (by decide))) (fun x40 gx40 => ?_)
                exact hQ _ gx40
            · refine q_if Q (fun _ => ?_) (fun _ => ?_)
              · refine q_if Q (fun _ => ?_) (fun _ => ?_)
                · refine q_call Q (R := fun (x41 : mS) => fp aw_Parser_takeBehind fw_Parser_takeBehind true s x41) (fp_t fp_r (fp_m (fr_Parser_unwind (1 : Int32) s (fp_P (show fp aw_Parser_takeBehind fw_Parser_takeBehind true s s from fp_r) hP)) (by decide) (by decide) (by decide))) (fun x41 gx41 => ?_)
                  refine q_call Q (R := mq_A) (fp_P (show fp aw_Parser_takeBehind fw_Parser_takeBehind true s x41 from gx41) hP _) (fun r42 hr42 => ?_)
                  refine q_call Q (R := fun (x43 : mS) => fp aw_Parser_takeBehind fw_Parser_takeBehind true s x43) (fp_t gx41 (fp_m (fr_Act_beginCondition r42 hr42 x41) (by decide) (by decide) (by decide))) (fun x43 gx43 => ?_)
                  exact hQ _ (fp_IF gx43 (by decide))
                · refine q_if Q (fun _ => ?_) (fun _ => ?_)
                  · refine q_if Q (fun _ => ?_) (fun _ => ?_)
                    · refine q_call Q (R := fun (x44 : mS) => fp aw_Parser_takeBehind fw_Parser_takeBehind true s x44) (fp_t fp_r (fp_m (fr_Parser_fail (1 : Int32) s) (by decide) (by decide) (by decide))) (fun x44 gx44 => ?_)
                      exact hQ _ gx44
                    · refine q_call Q (R := fun (x45 : mS) => fp aw_Parser_takeBehind fw_Parser_takeBehind true s x45) (fp_t fp_r (fp_m (fr_Parser_closeLine s (fp_P (show fp aw_Parser_takeBehind fw_Parser_takeBehind true s s from fp_r) hP)) (by decide) (by decide) (by decide))) (fun x45 gx45 => ?_)
                      exact hQ _ gx45
                  · refine q_call Q (R := fun (x46 : mS) => fp aw_Parser_takeBehind fw_Parser_takeBehind true s x46) (fp_t fp_r (fp_m (fr_Parser_fail (1 : Int32) s) (by decide) (by decide) (by decide))) (fun x46 gx46 => ?_)
                    exact hQ _ gx46
              · refine q_if Q (fun _ => ?_) (fun _ => ?_)
                · refine q_if Q (fun _ => ?_) (fun _ => ?_)
                  · refine q_call Q (R := fun (x47 : mS) => fp aw_Parser_takeBehind fw_Parser_takeBehind true s x47) (fp_t fp_r (fp_m (fr_Parser_fail (1 : Int32) s) (by decide) (by decide) (by decide))) (fun x47 gx47 => ?_)
                    exact hQ _ gx47
                  · refine q_call Q (R := fun (x48 : mS) => fp aw_Parser_takeBehind fw_Parser_takeBehind true s x48) (fp_t fp_r (fp_m (fr_Parser_closeLine s (fp_P (show fp aw_Parser_takeBehind fw_Parser_takeBehind true s s from fp_r) hP)) (by decide) (by decide) (by decide))) (fun x48 gx48 => ?_)
                    exact hQ _ gx48
                · refine q_call Q (R := fun (x49 : mS) => fp aw_Parser_takeBehind fw_Parser_takeBehind true s x49) (fp_t fp_r (fp_m (fr_Parser_fail (1 : Int32) s) (by decide) (by decide) (by decide))) (fun x49 gx49 => ?_)
                  exact hQ _ gx49
          · refine q_call Q (R := fun (x50 : mS) => fp aw_Parser_takeBehind fw_Parser_takeBehind true s x50) (fp_t fp_r (fp_m (fr_Parser_operate (3 : Int32) s (fp_P (show fp aw_Parser_takeBehind fw_Parser_takeBehind true s s from fp_r) hP)) (by decide) (by decide) (by decide))) (fun x50 gx50 => ?_)
            exact hQ _ gx50
        · refine q_if Q (fun _ => ?_) (fun _ => ?_)
          · refine q_if Q (fun _ => ?_) (fun _ => ?_)
            · refine q_if Q (fun _ => ?_) (fun _ => ?_)
              · refine q_if Q (fun _ => ?_) (fun _ => ?_)
                · refine q_call Q (R := fun (x51 : mS) => fp aw_Parser_takeBehind fw_Parser_takeBehind true s x51) (fp_t fp_r (fp_m (fr_Parser_unwind (1 : Int32) s (fp_P (show fp aw_Parser_takeBehind fw_Parser_takeBehind true s s from fp_r) hP)) (by decide) (by decide) (by decide))) (fun x51 gx51 => ?_)
                  refine q_call Q (R := mq_A) (fp_P (show fp aw_Parser_takeBehind fw_Parser_takeBehind true s x51 from gx51) hP _) (fun r52 hr52 => ?_)
                  refine q_call Q (R := fun (x53 : mS) => fp aw_Parser_takeBehind fw_Parser_takeBehind true s x53) (fp_t gx51 (fp_m (fr_Act_beginCondition r52 hr52 x51) (by decide) (by decide) (by decide))) (fun x53 gx53 => ?_)
                  exact hQ _ (fp_IF gx53 (by decide))
                · refine q_if Q (fun _ => ?_) (fun _ => ?_)
                  · refine q_if Q (fun _ => ?_) (fun _ => ?_)
                    · refine q_call Q (R := fun (x54 : mS) => fp aw_Parser_takeBehind fw_Parser_takeBehind true s x54) (fp_t fp_r (fp_m (fr_Parser_fail (1 : Int32) s) (by decide) (by decide) (by decide))) (fun x54 gx54 => ?_)
                      exact hQ _ gx54
                    · refine q_call Q (R := fun (x55 : mS) => fp aw_Parser_takeBehind fw_Parser_takeBehind true s x55) (fp_t fp_r (fp_m (fr_Parser_closeLine s (fp_P (show fp aw_Parser_takeBehind fw_Parser_takeBehind true s s from fp_r) hP)) (by decide) (by decide) (by decide))) (fun x55 gx55 => ?_)
                      exact hQ _ gx55
                  · refine q_call Q (R := fun (x56 : mS) => fp aw_Parser_takeBehind fw_Parser_takeBehind true s x56) (fp_t fp_r (fp_m (fr_Parser_fail (1 : Int32) s) (by decide) (by decide) (by decide))) (fun x56 gx56 => ?_)
                    exact hQ _ gx56
              · refine q_if Q (fun _ => ?_) (fun _ => ?_)
                · refine q_if Q (fun _ => ?_) (fun _ => ?_)
                  · refine q_call Q (R := fun (x57 : mS) => fp aw_Parser_takeBehind fw_Parser_takeBehind true s x57) (fp_t fp_r (fp_m (fr_Parser_fail (1 : Int32) s) (by decide) (by decide) (by decide))) (fun x57 gx57 => ?_)
                    exact hQ _ gx57
                  · refine q_call Q (R := fun (x58 : mS) => fp aw_Parser_takeBehind fw_Parser_takeBehind true s x58) (fp_t fp_r (fp_m (fr_Parser_closeLine s (fp_P (show fp aw_Parser_takeBehind fw_Parser_takeBehind true s s from fp_r) hP)) (by decide) (by decide) (by decide))) (fun x58 gx58 => ?_)
                    exact hQ _ gx58
                · refine q_call Q (R := fun (x59 : mS) => fp aw_Parser_takeBehind fw_Parser_takeBehind true s x59) (fp_t fp_r (fp_m (fr_Parser_fail (1 : Int32) s) (by decide) (by decide) (by decide))) (fun x59 gx59 => ?_)
                  exact hQ _ gx59
            · refine q_call Q (R := fun (x60 : mS) => fp aw_Parser_takeBehind fw_Parser_takeBehind true s x60) (fp_t fp_r (fp_m (fr_Parser_closeBracket s (fp_P (show fp aw_Parser_takeBehind fw_Parser_takeBehind true s s from fp_r) hP)) (by decide) (by decide) (by decide))) (fun x60 gx60 => ?_)
              exact hQ _ gx60
          · refine q_if Q (fun _ => ?_) (fun _ => ?_)
            · refine q_if Q (fun _ => ?_) (fun _ => ?_)
              · refine q_call Q (R := fun (x61 : mS) => fp aw_Parser_takeBehind fw_Parser_takeBehind true s x61) (fp_t fp_r (fp_m (fr_Parser_unwind (1 : Int32) s (fp_P (show fp aw_Parser_takeBehind fw_Parser_takeBehind true s s from fp_r) hP)) (by decide) (by decide) (by decide))) (fun x61 gx61 => ?_)
                refine q_call Q (R := mq_A) (fp_P (show fp aw_Parser_takeBehind fw_Parser_takeBehind true s x61 from gx61) hP _) (fun r62 hr62 => ?_)
                refine q_call Q (R := fun (x63 : mS) => fp aw_Parser_takeBehind fw_Parser_takeBehind true s x63) (fp_t gx61 (fp_m (fr_Act_beginCondition r62 hr62 x61) (by decide) (by decide) (by decide))) (fun x63 gx63 => ?_)
                exact hQ _ (fp_IF gx63 (by decide))
              · refine q_if Q (fun _ => ?_) (fun _ => ?_)
                · refine q_if Q (fun _ => ?_) (fun _ => ?_)
                  · refine q_call Q (R := fun (x64 : mS) => fp aw_Parser_takeBehind fw_Parser_takeBehind true s x64) (fp_t fp_r (fp_m (fr_Parser_fail (1 : Int32) s) (by decide) (by decide) (by decide))) (fun x64 gx64 => ?_)
                    exact hQ _ gx64
                  · refine q_call Q (R := fun (x65 : mS) => fp aw_Parser_takeBehind fw_Parser_takeBehind true s x65) (fp_t fp_r (fp_m (fr_Parser_closeLine s (fp_P (show fp aw_Parser_takeBehind fw_Parser_takeBehind true s s from fp_r) hP)) (by decide) (by decide) (by decide))) (fun x65 gx65 => ?_)
                    exact hQ _ gx65
                · refine q_call Q (R := fun (x66 : mS) => fp aw_Parser_takeBehind fw_Parser_takeBehind true s x66) (fp_t fp_r (fp_m (fr_Parser_fail (1 : Int32) s) (by decide) (by decide) (by decide))) (fun x66 gx66 => ?_)
                  exact hQ _ gx66
            · refine q_if Q (fun _ => ?_) (fun _ => ?_)
              · refine q_if Q (fun _ => ?_) (fun _ => ?_)
                · refine q_call Q (R := fun (x67 : mS) => fp aw_Parser_takeBehind fw_Parser_takeBehind true s x67) (fp_t fp_r (fp_m (fr_Parser_fail (1 : Int32) s) (by decide) (by decide) (by decide))) (fun x67 gx67 => ?_)
                  exact hQ _ gx67
                · refine q_call Q (R := fun (x68 : mS) => fp aw_Parser_takeBehind fw_Parser_takeBehind true s x68) (fp_t fp_r (fp_m (fr_Parser_closeLine s (fp_P (show fp aw_Parser_takeBehind fw_Parser_takeBehind true s s from fp_r) hP)) (by decide) (by decide) (by decide))) (fun x68 gx68 => ?_)
                  exact hQ _ gx68
              · refine q_call Q (R := fun (x69 : mS) => fp aw_Parser_takeBehind fw_Parser_takeBehind true s x69) (fp_t fp_r (fp_m (fr_Parser_fail (1 : Int32) s) (by decide) (by decide) (by decide))) (fun x69 gx69 => ?_)
                exact hQ _ gx69
    · refine q_if Q (fun _ => ?_) (fun _ => ?_)
      · refine q_if Q (fun _ => ?_) (fun _ => ?_)
        · refine q_if Q (fun _ => ?_) (fun _ => ?_)
          · refine q_if Q (fun _ => ?_) (fun _ => ?_)
            · refine q_if Q (fun _ => ?_) (fun _ => ?_)
              · refine q_if Q (fun _ => ?_) (fun _ => ?_)
                · refine q_if Q (fun _ => ?_) (fun _ => ?_)
                  · refine q_call Q (R := fun (x70 : mS) => fp aw_Parser_takeBehind fw_Parser_takeBehind true s x70) (fp_t fp_r (fp_m (fr_Parser_unwind (1 : Int32) s (fp_P (show fp aw_Parser_takeBehind fw_Parser_takeBehind true s s from fp_r) hP)) (by decide) (by decide) (by decide))) (fun x70 gx70 => ?_)
                    refine q_call Q (R := mq_A) (fp_P (show fp aw_Parser_takeBehind fw_Parser_takeBehind true s x70 from gx70) hP _) (fun r71 hr71 => ?_)
                    refine q_call Q (R := fun (x72 : mS) => fp aw_Parser_takeBehind fw_Parser_takeBehind true s x72) (fp_t gx70 (fp_m (fr_Act_beginCondition r71 hr71 x70) (by decide) (by decide) (by decide))) (fun x72 gx72 => ?_)
                    exact hQ _ (fp_IF gx72 (by decide))
                  · refine q_if Q (fun _ => ?_) (fun _ => ?_)
                    · refine q_if Q (fun _ => ?_) (fun _ => ?_)
                      · refine q_call Q (R := fun (x73 : mS) => fp aw_Parser_takeBehind fw_Parser_takeBehind true s x73) (fp_t fp_r (fp_m (fr_Parser_fail (1 : Int32) s) (by decide) (by decide) (by decide))) (fun x73 gx73 => ?_)
                        exact hQ _ gx73
                      · refine q_call Q (R := fun (x74 : mS) => fp aw_Parser_takeBehind fw_Parser_takeBehind true s x74) (fp_t fp_r (fp_m (fr_Parser_closeLine s (fp_P (show fp aw_Parser_takeBehind fw_Parser_takeBehind true s s from fp_r) hP)) (by decide) (by decide) (by decide))) (fun x74 gx74 => ?_)
                        exact hQ _ gx74
                    · refine q_call Q (R := fun (x75 : mS) => fp aw_Parser_takeBehind fw_Parser_takeBehind true s x75) (fp_t fp_r (fp_m (fr_Parser_fail (1 : Int32) s) (by decide) (by decide) (by decide))) (fun x75 gx75 => ?_)
                      exact hQ _ gx75
                · refine q_if Q (fun _ => ?_) (fun _ => ?_)
                  · refine q_if Q (fun _ => ?_) (fun _ => ?_)
                    · refine q_call Q (R := fun (x76 : mS) => fp aw_Parser_takeBehind fw_Parser_takeBehind true s x76) (fp_t fp_r (fp_m (fr_Parser_fail (1 : Int32) s) (by decide) (by decide) (by decide))) (fun x76 gx76 => ?_)
                      exact hQ _ gx76
                    · refine q_call Q (R := fun (x77 : mS) => fp aw_Parser_takeBehind fw_Parser_takeBehind true s x77) (fp_t fp_r (fp_m (fr_Parser_closeLine s (fp_P (show fp aw_Parser_takeBehind fw_Parser_takeBehind true s s from fp_r) hP)) (by decide) (by decide) (by decide))) (fun x77 gx77 => ?_)
                      exact hQ _ gx77
                  · refine q_call Q (R := fun (x78 : mS) => fp aw_Parser_takeBehind fw_Parser_takeBehind true s x78) (fp_t fp_r (fp_m (fr_Parser_fail (1 : Int32) s) (by decide) (by decide) (by decide))) (fun x78 gx78 => ?_)
                    exact hQ _ gx78
              · refine q_call Q (R := fun (x79 : mS) => fp aw_Parser_takeBehind fw_Parser_takeBehind true s x79) (fp_t fp_r (fp_m (fr_Parser_closeBracket s (fp_P (show fp aw_Parser_takeBehind fw_Parser_takeBehind true s s from fp_r) hP)) (by decide) (by decide) (by decide))) (fun x79 gx79 => ?_)
                exact hQ _ gx79
            · refine q_if Q (fun _ => ?_) (fun _ => ?_)
              · refine q_if Q (fun _ => ?_) (fun _ => ?_)
                · refine q_call Q (R := fun (x80 : mS) => fp aw_Parser_takeBehind fw_Parser_takeBehind true s x80) (fp_t fp_r (fp_m (fr_Parser_unwind (1 : Int32) s (fp_P (show fp aw_Parser_takeBehind fw_Parser_takeBehind true s s from fp_r) hP)) (by decide) (by decide) (by decide))) (fun x80 gx80 => ?_)
                  refine q_call Q (R := mq_A) (fp_P (show fp aw_Parser_takeBehind fw_Parser_takeBehind true s x80 from gx80) hP _) (fun r81 hr81 => ?_)
                  refine q_call Q (R := fun (x82 : mS) => fp aw_Parser_takeBehind fw_Parser_takeBehind true s x82) (fp_t gx80 (fp_m (fr_Act_beginCondition r81 hr81 x80) (by decide) (by decide) (by decide))) (fun x82 gx82 => ?_)
                  exact hQ _ (fp_IF gx82 (by decide))
                · refine q_if Q (fun _ => ?_) (fun _ => ?_)
                  · refine q_if Q (fun _ => ?_) (fun _ => ?_)
                    · refine q_call Q (R := fun (x83 : mS) => fp aw_Parser_takeBehind fw_Parser_takeBehind true s x83) (fp_t fp_r (fp_m (fr_Parser_fail (1 : Int32) s) (by decide) (by decide) (by decide))) (fun x83 gx83 => ?_)
                      exact hQ _ gx83
                    · refine q_call Q (R := fun (x84 : mS) => fp aw_Parser_takeBehind fw_Parser_takeBehind true s x84) (fp_t fp_r (fp_m (fr_Parser_closeLine s (fp_P (show fp aw_Parser_takeBehind fw_Parser_takeBehind true s s from fp_r) hP)) (by decide) (by decide) (by decide))) (fun x84 gx84 => ?_)
                      exact hQ _ gx84
                  · refine q_call Q (R := fun (x85 : mS) => fp aw_Parser_takeBehind fw_Parser_takeBehind true s x85) (fp_t fp_r (fp_m (fr_Parser_fail (1 : Int32) s) (by decide) (by decide) (by decide))) (fun x85 gx85 => ?_)
                    exact hQ _ gx85
              · refine q_if Q (fun _ => ?_) (fun _ => ?_)
                · refine q_if Q (fun _ => ?_) (fun _ => ?_)
                  · refine q_call Q (R := fun (x86 : mS) => fp aw_Parser_takeBehind fw_Parser_takeBehind true s x86) (fp_t fp_r (fp_m (fr_Parser_fail (1 : Int32) s) (by decide) (by decide) (by decide))) (fun x86 gx86 => ?_)
                    exact hQ _ gx86
                  · refine q_call Q (R := fun (x87 : mS) => fp aw_Parser_takeBehind fw_Parser_takeBehind true s x87) (fp_t fp_r (fp_m (fr_Parser_closeLine s (fp_P (show fp aw_Parser_takeBehind fw_Parser_takeBehind true s s from fp_r) hP)) (by decide) (by decide) (by decide))) (fun x87 gx87 => ?_)
                    exact hQ _ gx87
                · refine q_call Q (R := fun (x88 : mS) => fp aw_Parser_takeBehind fw_Parser_takeBehind true s x88) (fp_t fp_r (fp_m (fr_Parser_fail (1 : Int32) s) (by decide) (by decide) (by decide))) (fun x88 gx88 => ?_)
                  exact hQ _ gx88
          · refine q_call Q (R := fun (x89 : mS) => fp aw_Parser_takeBehind fw_Parser_takeBehind true s x89) (fp_t fp_r (fp_m (fr_Parser_operate (3 : Int32) s (fp_P (show fp aw_Parser_takeBehind fw_Parser_takeBehind true s s from fp_r) hP)) (by decide) (by decide) (by decide))) (fun x89 gx89 => ?_)
            exact hQ _ gx89
        · refine q_if Q (fun _ => ?_) (fun _ => ?_)
          · refine q_if Q (fun _ => ?_) (fun _ => ?_)
            · refine q_if Q (fun _ => ?_) (fun _ => ?_)
              · refine q_if Q (fun _ => ?_) (fun _ => ?_)
                · refine q_if Q (fun _ => ?_) (fun _ => ?_)
                  · refine q_if Q (fun _ => ?_) (fun _ => ?_)
                    · refine q_call Q (R := fun (x90 : mS) => fp aw_Parser_takeBehind fw_Parser_takeBehind true s x90) (fp_t fp_r (fp_m (fr_Parser_unwind (1 : Int32) s (fp_P (show fp aw_Parser_takeBehind fw_Parser_takeBehind true s s from fp_r) hP)) (by decide) (by decide) (by decide))) (fun x90 gx90 => ?_)
                      refine q_call Q (R := mq_A) (fp_P (show fp aw_Parser_takeBehind fw_Parser_takeBehind true s x90 from gx90) hP _) (fun r91 hr91 => ?_)
                      refine q_call Q (R := fun (x92 : mS) => fp aw_Parser_takeBehind fw_Parser_takeBehind true s x92) (fp_t gx90 (fp_m (fr_Act_beginCondition r91 hr91 x90) (by decide) (by decide) (by decide))) (fun x92 gx92 => ?_)
                      exact hQ _ (fp_IF gx92 (by decide))
                    · refine q_if Q (fun _ => ?_) (fun _ => ?_)
                      · refine q_if Q (fun _ => ?_) (fun _ => ?_)
                        · refine q_call Q (R := fun (x93 : mS) => fp aw_Parser_takeBehind fw_Parser_takeBehind true s x93) (fp_t fp_r (fp_m (fr_Parser_fail (1 : Int32) s) (by decide) (by decide) (by decide))) (fun x93 gx93 => ?_)
                          exact hQ _ gx93
                        · refine q_call Q (R := fun (x94 : mS) => fp aw_Parser_takeBehind fw_Parser_takeBehind true s x94) (fp_t fp_r (fp_m (fr_Parser_closeLine s (fp_P (show fp aw_Parser_takeBehind fw_Parser_takeBehind true s s from fp_r) hP)) (by decide) (by decide) (by decide))) (fun x94 gx94 => ?_)
                          exact hQ _ gx94
                      · refine q_call Q (R := fun (x95 : mS) => fp aw_Parser_takeBehind fw_Parser_takeBehind true s x95) (fp_t fp_r (fp_m (fr_Parser_fail (1 : Int32) s) (by decide) (by decide) (by decide))) (fun x95 gx95 => ?_)
                        exact hQ _ gx95
                  · refine q_if Q (fun _ => ?_) (fun _ => ?_)
                    · refine q_if Q (fun _ => ?_) (fun _ => ?_)
                      · refine q_call Q (R := fun (x96 : mS) => fp aw_Parser_takeBehind fw_Parser_takeBehind true s x96) (fp_t fp_r (fp_m (fr_Parser_fail (1 : Int32) s) (by decide) (by decide) (by decide))) (fun x96 gx96 => ?_)
                        exact hQ _ gx96
                      · refine q_call Q (R := fun (x97 : mS) => fp aw_Parser_takeBehind fw_Parser_takeBehind true s x97) (fp_t fp_r (fp_m (fr_Parser_closeLine s (fp_P (show fp aw_Parser_takeBehind fw_Parser_takeBehind true s s from fp_r) hP)) (by decide) (by decide) (by decide))) (fun x97 gx97 => ?_)
                        exact hQ _ gx97
                    · refine q_call Q (R := fun (x98 : mS) => fp aw_Parser_takeBehind fw_Parser_takeBehind true s x98) (fp_t fp_r (fp_m (fr_Parser_fail (1 : Int32) s) (by decide) (by decide) (by decide))) (fun x98 gx98 => ?_)
                      exact hQ _ gx98
                · refine q_call Q (R := fun (x99 : mS) => fp aw_Parser_takeBehind fw_Parser_takeBehind true s x99) (fp_t fp_r (fp_m (fr_Parser_closeBracket s (fp_P (show fp aw_Parser_takeBehind fw_Parser_takeBehind true s s from fp_r) hP)) (by decide) (by decide) (by decide))) (fun x99 gx99 => ?_)
                  exact hQ _ gx99
              · refine q_if Q (fun _ => ?_) (fun _ => ?_)
                · refine q_if Q (fun _ => ?_) (fun _ => ?_)
                  · refine q_call Q (R := fun (x100 : mS) => fp aw_Parser_takeBehind fw_Parser_takeBehind true s x100) (fp_t fp_r (fp_m (fr_Parser_unwind (1 : Int32) s (fp_P (show fp aw_Parser_takeBehind fw_Parser_takeBehind true s s from fp_r) hP)) (by decide) (by decide) (by decide))) (fun x100 gx100 => ?_)
                    refine q_call Q (R := mq_A) (fp_P (show fp aw_Parser_takeBehind fw_Parser_takeBehind true s x100 from gx100) hP _) (fun r101 hr101 => ?_)
                    refine q_call Q (R := fun (x102 : mS) => fp aw_Parser_takeBehind fw_Parser_takeBehind true s x102) (fp_t gx100 (fp_m (fr_Act_beginCondition r101 hr101 x100) (by decide) (by decide) (by decide))) (fun x102 gx102 => ?_)
                    exact hQ _ (fp_IF gx102 (by decide))
                  · refine q_if Q (fun _ => ?_) (fun _ => ?_)
                    · refine q_if Q (fun _ => ?_) (fun _ => ?_)
                      · refine q_call Q (R := fun (x103 : mS) => fp aw_Parser_takeBehind fw_Parser_takeBehind true s x103) (fp_t fp_r (fp_m (fr_Parser_fail (1 : Int32) s) (by decide) (by decide) (by decide))) (fun x103 gx103 => ?_)
                        exact hQ _ gx103
                      · refine q_call Q (R := fun (x104 : mS) => fp aw_Parser_takeBehind fw_Parser_takeBehind true s x104) (fp_t fp_r (fp_m (fr_Parser_closeLine s (fp_P (show fp aw_Parser_takeBehind fw_Parser_takeBehind true s s from fp_r) hP)) (by decide) (by decide) (by decide))) (fun x104 gx104 => ?_)
                        exact hQ _ gx104
                    · refine q_call Q (R := fun (x105 : mS) => fp aw_Parser_takeBehind fw_Parser_takeBehind true s x105) (fp_t fp_r (fp_m (fr_Parser_fail (1 : Int32) s) (by decide) (by decide) (by decide))) (fun x105 gx105 => ?_)
                      exact hQ _ gx105
                · refine q_if Q (fun _ => ?_) (fun _ => ?_)
                  · refine q_if Q (fun _ => ?_) (fun _ => ?_)
                    · refine q_call Q (R := fun (x106 : mS) => fp aw_Parser_takeBehind fw_Parser_takeBehind true s x106) (fp_t fp_r (fp_m (fr_Parser_fail (1 : Int32) s) (by decide) (by decide) (by decide))) (fun x106 gx106 => ?_)
                      exact hQ _ gx106
                    · refine q_call Q (R := fun (x107 : mS) => fp aw_Parser_takeBehind fw_Parser_takeBehind true s x107) (fp_t fp_r (fp_m (fr_Parser_closeLine s (fp_P (show fp aw_Parser_takeBehind fw_Parser_takeBehind true s s from fp_r) hP)) (by decide) (by decide) (by decide))) (fun x107 gx107 => ?_)
                      exact hQ _ gx107
                  · refine q_call Q (R := fun (x108 : mS) => fp aw_Parser_takeBehind fw_Parser_takeBehind true s x108) (fp_t fp_r (fp_m (fr_Parser_fail (1 : Int32) s) (by decide) (by decide) (by decide))) (fun x108 gx108 => ?_)
                    exact hQ _ gx108
            · refine q_call Q (R := fun (x109 : mS) => fp aw_Parser_takeBehind fw_Parser_takeBehind true s x109) (fp_t fp_r (fp_m (fr_Parser_operate (3 : Int32) s (fp_P (show fp aw_Parser_takeBehind fw_Parser_takeBehind true s s from fp_r) hP)) (by decide) (by decide) (by decide))) (fun x109 gx109 => ?_)
              exact hQ _ gx109
          · refine q_if Q (fun _ => ?_) (fun _ => ?_)
            · refine q_if Q (fun _ => ?_) (fun _ => ?_)
              · refine q_if Q (fun _ => ?_) (fun _ => ?_)
                · refine q_if Q (fun _ => ?_) (fun _ => ?_)
                  · refine q_call Q (R := fun (x110 : mS) => fp aw_Parser_takeBehind fw_Parser_takeBehind true s x110) (fp_t fp_r (fp_m (fr_Parser_unwind (1 : Int32) s (fp_P (show fp aw_Parser_takeBehind fw_Parser_takeBehind true s s from fp_r) hP)) (by decide) (by decide) (by decide))) (fun x110 gx110 => ?_)
                    refine q_call Q (R := mq_A) (fp_P (show fp aw_Parser_takeBehind fw_Parser_takeBehind true s x110 from gx110) hP _) (fun r111 hr111 => ?_)
                    refine q_call Q (R := fun (x112 : mS) => fp aw_Parser_takeBehind fw_Parser_takeBehind true s x112) (fp_t gx110 (fp_m (fr_Act_beginCondition r111 hr111 x110) (by decide) (by decide) (by decide))) (fun x112 gx112 => ?_)
                    exact hQ _ (fp_IF gx112 (by decide))
                  · refine q_if Q (fun _ => ?_) (fun _ => ?_)
                    · refine q_if Q (fun _ => ?_) (fun _ => ?_)
                      · refine q_call Q (R := fun (x113 : mS) => fp aw_Parser_takeBehind fw_Parser_takeBehind true s x113) (fp_t fp_r (fp_m (fr_Parser_fail (1 : Int32) s) (by decide) (by decide) (by decide))) (fun x113 gx113 => ?_)
                        exact hQ _ gx113
                      · refine q_call Q (R := fun (x114 : mS) => fp aw_Parser_takeBehind fw_Parser_takeBehind true s x114) (fp_t fp_r (fp_m (fr_Parser_closeLine s (fp_P (show fp aw_Parser_takeBehind fw_Parser_takeBehind true s s from fp_r) hP)) (by decide) (by decide) (by decide))) (fun x114 gx114 => ?_)
                        exact hQ _ gx114
                    · refine q_call Q (R := fun (x115 : mS) => fp aw_Parser_takeBehind fw_Parser_takeBehind true s x115) (fp_t fp_r (fp_m (fr_Parser_fail (1 : Int32) s) (by decide) (by decide) (by decide))) (fun x115 gx115 => ?_)
                      exact hQ _ gx115
                · refine q_if Q (fun _ => ?_) (fun _ => ?_)
                  · refine q_if Q (fun _ => ?_) (fun _ => ?_)
                    · refine q_call Q (R := fun (x116 : mS) => fp aw_Parser_takeBehind fw_Parser_takeBehind true s x116) (fp_t fp_r (fp_m (fr_Parser_fail (1 : Int32) s) (by decide) (by decide) (by decide))) (fun x116 gx116 => ?_)
                      exact hQ _ gx116
                    · refine q_call Q (R := fun (x117 : mS) => fp aw_Parser_takeBehind fw_Parser_takeBehind true s x117) (fp_t fp_r (fp_m (fr_Parser_closeLine s (fp_P (show fp aw_Parser_takeBehind fw_Parser_takeBehind true s s from fp_r) hP)) (by decide) (by decide) (by decide))) (fun x117 gx117 => ?_)
                      exact hQ _ gx117
                  · refine q_call Q (R := fun (x118 : mS) => fp aw_Parser_takeBehind fw_Parser_takeBehind true s x118) (fp_t fp_r (fp_m (fr_Parser_fail (1 : Int32) s) (by decide) (by decide) (by decide))) (fun x118 gx118 => ?_)
                    exact hQ _ gx118
              · refine q_call Q (R := fun (x119 : mS) => fp aw_Parser_takeBehind fw_Parser_takeBehind true s x119) (fp_t fp_r (fp_m (fr_Parser_closeBracket s (fp_P (show fp aw_Parser_takeBehind fw_Parser_takeBehind true s s from fp_r) hP)) (by decide) (by decide) (by decide))) (fun x119 gx119 => ?_)
                exact hQ _ gx119
            · refine q_if Q (fun _ => ?_) (fun _ => ?_)
              · refine q_if Q (fun _ => ?_) (fun _ => ?_)
                · refine q_call Q (R := fun (x120 : mS) => fp aw_Parser_takeBehind fw_Parser_takeBehind true s x120) (fp_t fp_r (fp_m (fr_Parser_unwind (1 : Int32) s (fp_P (show fp aw_Parser_takeBehind fw_Parser_takeBehind true s s from fp_r) hP)) (by decide) (by decide) (by decide))) (fun x120 gx120 => ?_)
                  refine q_call Q (R := mq_A) (fp_P (show fp aw_Parser_takeBehind fw_Parser_takeBehind true s x120 from gx120) hP _) (fun r121 hr121 => ?_)
                  refine q_call Q (R := fun (x122 : mS) => fp aw_Parser_takeBehind fw_Parser_takeBehind true s x122) (fp_t gx120 (fp_m (fr_Act_beginCondition r121 hr121 x120) (by decide) (by decide) (by decide))) (fun x122 gx122 => ?_)
                  exact hQ _ (fp_IF gx122 (by decide))
                · refine q_if Q (fun _ => ?_) (fun _ => ?_)
                  · refine q_if Q (fun _ => ?_) (fun _ => ?_)
                    · refine q_call Q (R := fun (x123 : mS) => fp aw_Parser_takeBehind fw_Parser_takeBehind true s x123) (fp_t fp_r (fp_m (fr_Parser_fail (1 : Int32) s) (by decide) (by decide) (by decide))) (fun x123 gx123 => ?_)
                      exact hQ _ gx123
                    · refine q_call Q (R := fun (x124 : mS) => fp aw_Parser_takeBehind fw_Parser_takeBehind true s x124) (fp_t fp_r (fp_m (fr_Parser_closeLine s (fp_P (show fp aw_Parser_takeBehind fw_Parser_takeBehind true s s from fp_r) hP)) (by decide) (by decide) (by decide))) (fun x124 gx124 => ?_)
                      exact hQ _ gx124
                  · refine q_call Q (R := fun (x125 : mS) => fp aw_Parser_takeBehind fw_Parser_takeBehind true s x125) (fp_t fp_r (fp_m (fr_Parser_fail (1 : Int32) s) (by decide) (by decide) (by decide))) (fun x125 gx125 => ?_)
                    exact hQ _ gx125
              · refine q_if Q (fun _ => ?_) (fun _ => ?_)
                · refine q_if Q (fun _ => ?_) (fun _ => ?_)
                  · refine q_call Q (R := fun (x126 : mS) => fp aw_Parser_takeBehind fw_Parser_takeBehind true s x126) (fp_t fp_r (fp_m (fr_Parser_fail (1 : Int32) s) (by decide) (by decide) (by decide))) (fun x126 gx126 => ?_)
                    exact hQ _ gx126
                  · refine q_call Q (R := fun (x127 : mS) => fp aw_Parser_takeBehind fw_Parser_takeBehind true s x127) (fp_t fp_r (fp_m (fr_Parser_closeLine s (fp_P (show fp aw_Parser_takeBehind fw_Parser_takeBehind true s s from fp_r) hP)) (by decide) (by decide) (by decide))) (fun x127 gx127 => ?_)
                    exact hQ _ gx127
                · refine q_call Q (R := fun (x128 : mS) => fp aw_Parser_takeBehind fw_Parser_takeBehind true s x128) (fp_t fp_r (fp_m (fr_Parser_fail (1 : Int32) s) (by decide) (by decide) (by decide))) (fun x128 gx128 => ?_)
                  exact hQ _ gx128
      · refine q_if Q (fun _ => ?_) (fun _ => ?_)
        · refine q_call Q (R := fun (x129 : mS) => fp aw_Parser_takeBehind fw_Parser_takeBehind true s x129) (fp_t fp_r (fp_m (fr_Parser_operate (1 : Int32) s (fp_P (show fp aw_Parser_takeBehind fw_Parser_takeBehind true s s from fp_r) hP)) (by decide) (by decide) (by decide))) (fun x129 gx129 => ?_)
          exact hQ _ (fp_IF gx129 (by decide))
        · refine q_if Q (fun _ => ?_) (fun _ => ?_)
          · refine q_if Q (fun _ => ?_) (fun _ => ?_)
            · refine q_if Q (fun _ => ?_) (fun _ => ?_)
              · refine q_if Q (fun _ => ?_) (fun _ => ?_)
                · refine q_if Q (fun _ => ?_) (fun _ => ?_)
                  · refine q_if Q (fun _ => ?_) (fun _ => ?_)
                    · refine q_call Q (R := fun (x130 : mS) => fp aw_Parser_takeBehind fw_Parser_takeBehind true s x130) (fp_t fp_r (fp_m (fr_Parser_unwind (1 : Int32) s (fp_P (show fp aw_Parser_takeBehind fw_Parser_takeBehind true s s from fp_r) hP)) (by decide) (by decide) (by decide))) (fun x130 gx130 => ?_)
                      refine q_call Q (R := mq_A) (fp_P (show fp aw_Parser_takeBehind fw_Parser_takeBehind true s x130 from gx130) hP _) (fun r131 hr131 => ?_)
                      refine q_call Q (R := fun (x132 : mS) => fp aw_Parser_takeBehind fw_Parser_takeBehind true s x132) (fp_t gx130 (fp_m (fr_Act_beginCondition r131 hr131 x130) (by decide) (by decide) (by decide))) (fun x132 gx132 => ?_)
                      exact hQ _ (fp_IF gx132 (by decide))
                    · refine q_if Q (fun _ => ?_) (fun _ => ?_)
                      · refine q_if Q (fun _ => ?_) (fun _ => ?_)
                        · refine q_call Q (R := fun (x133 : mS) => fp aw_Parser_takeBehind fw_Parser_takeBehind true s x133) (fp_t fp_r (fp_m (fr_Parser_fail (1 : Int32) s) (by decide) (by decide) (by decide))) (fun x133 gx133 => ?_)
                          exact hQ _ gx133
                        · refine q_call Q (R := fun (x134 : mS) => fp aw_Parser_takeBehind fw_Parser_takeBehind true s x134) (fp_t fp_r (fp_m (fr_Parser_closeLine s (fp_P (show fp aw_Parser_takeBehind fw_Parser_takeBehind true s s from fp_r) hP)) (by decide) (by decide) (by decide))) (fun x134 gx134 => ?_)
                          exact hQ _ gx134
                      · refine q_call Q (R := fun (x135 : mS) => fp aw_Parser_takeBehind fw_Parser_takeBehind true s x135) (fp_t fp_r (fp_m (fr_Parser_fail (1 : Int32) s) (by decide) (by decide) (by decide))) (fun x135 gx135 => ?_)
                        exact hQ _ gx135
                  · refine q_if Q (fun _ => ?_) (fun _ => ?_)
                    · refine q_if Q (fun _ => ?_) (fun _ => ?_)
                      · refine q_call Q (R := fun (x136 : mS) => fp aw_Parser_takeBehind fw_Parser_takeBehind true s x136) (fp_t fp_r (fp_m (fr_Parser_fail (1 : Int32) s) (by decide) (by decide) (by decide))) (fun x136 gx136 => ?_)
                        exact hQ _ gx136
                      · refine q_call Q (R := fun (x137 : mS) => fp aw_Parser_takeBehind fw_Parser_takeBehind true s x137) (fp_t fp_r (fp_m (fr_Parser_closeLine s (fp_P (show fp aw_Parser_takeBehind fw_Parser_takeBehind true s s from fp_r) hP)) (by decide) (by decide) (by decide))) (fun x137 gx137 => ?_)
                        exact hQ _ gx137
                    · refine q_call Q (R := fun (x138 : mS) => fp aw_Parser_takeBehind fw_Parser_takeBehind true s x138) (fp_t fp_r (fp_m (fr_Parser_fail (1 : Int32) s) (by decide) (by decide) (by decide))) (fun x138 gx138 => ?_)
                      exact hQ _ gx138
                · refine q_call Q (R := fun (x139 : mS) => fp aw_Parser_takeBehind fw_Parser_takeBehind true s x139) (fp_t fp_r (fp_m (fr_Parser_closeBracket s (fp_P (show fp aw_Parser_takeBehind fw_Parser_takeBehind true s s from fp_r) hP)) (by decide) (by decide) (by decide))) (fun x139 gx139 => ?_)
                  exact hQ _ gx139
              · refine q_if Q (fun _ => ?_) (fun _ => ?_)
                · refine q_if Q (fun _ => ?_) (fun _ => ?_)
                  · refine q_call Q (R := fun (x140 : mS) => fp aw_Parser_takeBehind fw_Parser_takeBehind true s x140) (fp_t fp_r (fp_m (fr_Parser_unwind (1 : Int32) s (fp_P (show fp aw_Parser_takeBehind fw_Parser_takeBehind true s s from fp_r) hP)) (by decide) (by decide) (by decide))) (fun x140 gx140 => ?_)
                    refine q_call Q (R := mq_A) (fp_P (show fp aw_Parser_takeBehind fw_Parser_takeBehind true s x140 from gx140) hP _) (fun r141 hr141 => ?_)
                    refine q_call Q (R := fun (x142 : mS) => fp aw_Parser_takeBehind fw_Parser_takeBehind true s x142) (fp_t gx140 (fp_m (fr_Act_beginCondition r141 hr141 x140) (by decide) (by decide) (by decide))) (fun x142 gx142 => ?_)
                    exact hQ _ (fp_IF gx142 (by decide))
                  · refine q_if Q (fun _ => ?_) (fun _ => ?_)
                    · refine q_if Q (fun _ => ?_) (fun _ => ?_)
                      · refine q_call Q (R := fun (x143 : mS) => fp aw_Parser_takeBehind fw_Parser_takeBehind true s x143) (fp_t fp_r (fp_m (fr_Parser_fail (1 : Int32) s) (by decide) (by decide) (by decide))) (fun x143 gx143 => ?_)
                        exact hQ _ gx143
                      · refine q_call Q (R := fun (x144 : mS) => fp aw_Parser_takeBehind fw_Parser_takeBehind true s x144) (fp_t fp_r (fp_m (fr_Parser_closeLine s (fp_P (show fp aw_Parser_takeBehind fw_Parser_takeBehind true s s from fp_r) hP)) (by decide) (by decide) (by decide))) (fun x144 gx144 => ?_)
                        exact hQ _ gx144
                    · refine q_call Q (R := fun (x145 : mS) => fp aw_Parser_takeBehind fw_Parser_takeBehind true s x145) (fp_t fp_r (fp_m (fr_Parser_fail (1 : Int32) s) (by decide) (by decide) (by decide))) (fun x145 gx145 => ?_)
                      exact hQ _ gx145
                · refine q_if Q (fun _ => ?_) (fun _ => ?_)
                  · refine q_if Q (fun _ => ?_) (fun _ => ?_)
                    · refine q_call Q (R := fun (x146 : mS) => fp aw_Parser_takeBehind fw_Parser_takeBehind true s x146) (fp_t fp_r (fp_m (fr_Parser_fail (1 : Int32) s) (by decide) (by decide) (by decide))) (fun x146 gx146 => ?_)
                      exact hQ _ gx146
                    · refine q_call Q (R := fun (x147 : mS) => fp aw_Parser_takeBehind fw_Parser_takeBehind true s x147) (fp_t fp_r (fp_m (fr_Parser_closeLine s (fp_P (show fp aw_Parser_takeBehind fw_Parser_takeBehind true s s from fp_r) hP)) (by decide) (by decide) (by decide))) (fun x147 gx147 => ?_)
                      exact hQ _ gx147
                  · refine q_call Q (R := fun (x148 : mS) => fp aw_Parser_takeBehind fw_Parser_takeBehind true s x148) (fp_t fp_r (fp_m (fr_Parser_fail (1 : Int32) s) (by decide) (by decide) (by decide))) (fun x148 gx148 => ?_)
                    exact hQ _ gx148
            · refine q_call Q (R := fun (x149 : mS) => fp aw_Parser_takeBehind fw_Parser_takeBehind true s x149) (fp_t fp_r (fp_m (fr_Parser_operate (3 : Int32) s (fp_P (show fp aw_Parser_takeBehind fw_Parser_takeBehind true s s from fp_r) hP)) (by decide) (by decide) (by decide))) (fun x149 gx149 => ?_)
              exact hQ _ gx149
          · refine q_if Q (fun _ => ?_) (fun _ => ?_)
            · refine q_if Q (fun _ => ?_) (fun _ => ?_)
              · refine q_if Q (fun _ => ?_) (fun _ => ?_)
                · refine q_if Q (fun _ => ?_) (fun _ => ?_)
                  · refine q_if Q (fun _ => ?_) (fun _ => ?_)
                    · refine q_if Q (fun _ => ?_) (fun _ => ?_)
                      · refine q_call Q (R := fun (x150 : mS) => fp aw_Parser_takeBehind fw_Parser_takeBehind true s x150) (fp_t fp_r (fp_m (fr_Parser_unwind (1 : Int32) s (fp_P (show fp aw_Parser_takeBehind fw_Parser_takeBehind true s s from fp_r) hP)) (by decide) (by decide) (by decide))) (fun x150 gx150 => ?_)
                        refine q_call Q (R := mq_A) (fp_P (show fp aw_Parser_takeBehind fw_Parser_takeBehind true s x150 from gx150) hP _) (fun r151 hr151 => ?_)
                        refine q_call Q (R := fun (x152 : mS) => fp aw_Parser_takeBehind fw_Parser_takeBehind true s x152) (fp_t gx150 (fp_m (fr_Act_beginCondition r151 hr151 x150) (by decide) (by decide) (by decide))) (fun x152 gx152 => ?_)
                        exact hQ _ (fp_IF gx152 (by decide))
                      · refine q_if Q (fun _ => ?_) (fun _ => ?_)
                        · refine q_if Q (fun _ => ?_) (fun _ => ?_)
                          · refine q_call Q (R := fun (x153 : mS) => fp aw_Parser_takeBehind fw_Parser_takeBehind true s x153) (fp_t fp_r (fp_m (fr_Parser_fail (1 : Int32) s) (by decide) (by decide) (by decide))) (fun x153 gx153 => ?_)
                            exact hQ _ gx153
                          · refine q_call Q (R := fun (x154 : mS) => fp aw_Parser_takeBehind fw_Parser_takeBehind true s x154) (fp_t fp_r (fp_m (fr_Parser_closeLine s (fp_P (show fp aw_Parser_takeBehind fw_Parser_takeBehind true s s from fp_r) hP)) (by decide) (by decide) (by decide))) (fun x154 gx154 => ?_)
                            exact hQ _ gx154
                        · refine q_call Q (R := fun (x155 : mS) => fp aw_Parser_takeBehind fw_Parser_takeBehind true s x155) (fp_t fp_r (fp_m (fr_Parser_fail (1 : Int32) s) (by decide) (by decide) (by decide))) (fun x155 gx155 => ?_)
                          exact hQ _ gx155
                    · refine q_if Q (fun _ => ?_) (fun _ => ?_)
                      · refine q_if Q (fun _ => ?_) (fun _ => ?_)
                        · refine q_call Q (R := fun (x156 : mS) => fp aw_Parser_takeBehind fw_Parser_takeBehind true s x156) (fp_t fp_r (fp_m (fr_Parser_fail (1 : Int32) s) (by decide) (by decide) (by decide))) (fun x156 gx156 => ?_)
                          exact hQ _ gx156
                        · refine q_call Q (R := fun (x157 : mS) => fp aw_Parser_takeBehind fw_Parser_takeBehind true s x157) (fp_t fp_r (fp_m (fr_Parser_closeLine s (fp_P (show fp aw_Parser_takeBehind fw_Parser_takeBehind true s s from fp_r) hP)) (by decide) (by decide) (by decide))) (fun x157 gx157 => ?_)
                          exact hQ _ gx157
                      · refine q_call Q (R := fun (x158 : mS) => fp aw_Parser_takeBehind fw_Parser_takeBehind true s x158) (fp_t fp_r (fp_m (fr_Parser_fail (1 : Int32) s) (by decide) (by decide) (by decide))) (fun x158 gx158 => ?_)
                        exact hQ _ gx158
                  · refine q_call Q (R := fun (x159 : mS) => fp aw_Parser_takeBehind fw_Parser_takeBehind true s x159) (fp_t fp_r (fp_m (fr_Parser_closeBracket s (fp_P (show fp aw_Parser_takeBehind fw_Parser_takeBehind true s s from fp_r) hP)) (by decide) (by decide) (by decide))) (fun x159 gx159 => ?_)
                    exact hQ _ gx159
                · refine q_if Q (fun _ => ?_) (fun _ => ?_)
                  · refine q_if Q (fun _ => ?_) (fun _ => ?_)
                    · refine q_call Q (R := fun (x160 : mS) => fp aw_Parser_takeBehind fw_Parser_takeBehind true s x160) (fp_t fp_r (fp_m (fr_Parser_unwind (1 : Int32) s (fp_P (show fp aw_Parser_takeBehind fw_Parser_takeBehind true s s from fp_r) hP)) (by decide) (by decide) (by decide))) (fun x160 gx160 => ?_)
                      refine q_call Q (R := mq_A) (fp_P (show fp aw_Parser_takeBehind fw_Parser_takeBehind true s x160 from gx160) hP _) (fun r161 hr161 => ?_)
                      refine q_call Q (R := fun (x162 : mS) => fp aw_Parser_takeBehind fw_Parser_takeBehind true s x162) (fp_t gx160 (fp_m (fr_Act_beginCondition r161 hr161 x160) (by decide) (by decide) (by decide))) (fun x162 gx162 => ?_)
                      exact hQ _ (fp_IF gx162 (by decide))
                    · refine q_if Q (fun _ => ?_) (fun _ => ?_)
                      · refine q_if Q (fun _ => ?_) (fun _ => ?_)
                        · refine q_call Q (R := fun (x163 : mS) => fp aw_Parser_takeBehind fw_Parser_takeBehind true s x163) (fp_t fp_r (fp_m (fr_Parser_fail (1 : Int32) s) (by decide) (by decide) (by decide))) (fun x163 gx163 => ?_)
                          exact hQ _ gx163
                        · refine q_call Q (R := fun (x164 : mS) => fp aw_Parser_takeBehind fw_Parser_takeBehind true s x164) (fp_t fp_r (fp_m (fr_Parser_closeLine s (fp_P (show fp aw_Parser_takeBehind fw_Parser_takeBehind true s s from fp_r) hP)) (by decide) (by decide) (by decide))) (fun x164 gx164 => ?_)
                          exact hQ _ gx164
                      · refine q_call Q (R := fun (x165 : mS) => fp aw_Parser_takeBehind fw_Parser_takeBehind true s x165) (fp_t fp_r (fp_m (fr_Parser_fail (1 : Int32) s) (by decide) (by decide) (by decide))) (fun x165 gx165 => ?_)
                        exact hQ _ gx165
                  · refine q_if Q (fun _ => ?_) (fun _ => ?_)
                    · refine q_if Q (fun _ => ?_) (fun _ => ?_)
                      · refine q_call Q (R := fun (x166 : mS) => fp aw_Parser_takeBehind fw_Parser_takeBehind true s x166) (fp_t fp_r (fp_m (fr_Parser_fail (1 : Int32) s) (by decide) (by decide) (by decide))) (fun x166 gx166 => ?_)
                        exact hQ _ gx166
                      · refine q_call Q (R := fun (x167 : mS) => fp aw_Parser_takeBehind fw_Parser_takeBehind true s x167) (fp_t fp_r (fp_m (fr_Parser_closeLine s (fp_P (show fp aw_Parser_takeBehind fw_Parser_takeBehind true s s from fp_r) hP)) (by decide) (by decide) (by decide))) (fun x167 gx167 => ?_)
                        exact hQ _ gx167
                    · refine q_call Q (R := fun (x168 : mS) => fp aw_Parser_takeBehind fw_Parser_takeBehind true s x168) (fp_t fp_r (fp_m (fr_Parser_fail (1 : Int32) s) (by decide) (by decide) (by decide))) (fun x168 gx168 => ?_)
                      exact hQ _ gx168
              · refine q_call Q (R := fun (x169 : mS) => fp aw_Parser_takeBehind fw_Parser_takeBehind true s x169) (fp_t fp_r (fp_m (fr_Parser_operate (3 : Int32) s (fp_P (show fp aw_Parser_takeBehind fw_Parser_takeBehind true s s from fp_r) hP)) (by decide) (by decide) (by decide))) (fun x169 gx169 => ?_)
                exact hQ _ gx169
            · refine q_if Q (fun _ => ?_) (fun _ => ?_)
              · refine q_if Q (fun _ => ?_) (fun _ => ?_)
                · refine q_if Q (fun _ => ?_) (fun _ => ?_)
                  · refine q_if Q (fun _ => ?_) (fun _ => ?_)
                    · refine q_call Q (R := fun (x170 : mS) => fp aw_Parser_takeBehind fw_Parser_takeBehind true s x170) (fp_t fp_r (fp_m (fr_Parser_unwind (1 : Int32) s (fp_P (show fp aw_Parser_takeBehind fw_Parser_takeBehind true s s from fp_r) hP)) (by decide) (by decide) (by decide))) (fun x170 gx170 => ?_)
                      refine q_call Q (R := mq_A) (fp_P (show fp aw_Parser_takeBehind fw_Parser_takeBehind true s x170 from gx170) hP _) (fun r171 hr171 => ?_)
                      refine q_call Q (R := fun (x172 : mS) => fp aw_Parser_takeBehind fw_Parser_takeBehind true s x172) (fp_t gx170 (fp_m (fr_Act_beginCondition r171 hr171 x170) (by decide) (by decide) (by decide))) (fun x172 gx172 => ?_)
                      exact hQ _ (fp_IF gx172 (by decide))
                    · refine q_if Q (fun _ => ?_) (fun _ => ?_)
                      · refine q_if Q (fun _ => ?_) (fun _ => ?_)
                        · refine q_call Q (R := fun (x173 : mS) => fp aw_Parser_takeBehind fw_Parser_takeBehind true s x173) (fp_t fp_r (fp_m (fr_Parser_fail (1 : Int32) s) (by decide) (by decide) (by decide))) (fun x173 gx173 => ?_)
                          exact hQ _ gx173
                        · refine q_call Q (R := fun (x174 : mS) => fp aw_Parser_takeBehind fw_Parser_takeBehind true s x174) (fp_t fp_r (fp_m (fr_Parser_closeLine s (fp_P (show fp aw_Parser_takeBehind fw_Parser_takeBehind true s s from fp_r) hP)) (by decide) (by decide) (by decide))) (fun x174 gx174 => ?_)
                          exact hQ _ gx174
                      · refine q_call Q (R := fun (x175 : mS) => fp aw_Parser_takeBehind fw_Parser_takeBehind true s x175) (fp_t fp_r (fp_m (fr_Parser_fail (1 : Int32) s) (by decide) (by decide) (by decide))) (fun x175 gx175 => ?_)
                        exact hQ _ gx175
                  · refine q_if Q (fun _ => ?_) (fun _ => ?_)
                    · refine q_if Q (fun _ => ?_) (fun _ => ?_)
                      · refine q_call Q (R := fun (x176 : mS) => fp aw_Parser_takeBehind fw_Parser_takeBehind true s x176) (fp_t fp_r (fp_m (fr_Parser_fail (1 : Int32) s) (by decide) (by decide) (by decide))) (fun x176 gx176 => ?_)
                        exact hQ _ gx176
                      · refine q_call Q (R := fun (x177 : mS) => fp aw_Parser_takeBehind fw_Parser_takeBehind true s x177) (fp_t fp_r (fp_m (fr_Parser_closeLine s (fp_P (show fp aw_Parser_takeBehind fw_Parser_takeBehind true s s from fp_r) hP)) (by decide) (by decide) (by decide))) (fun x177 gx177 => ?_)
                        exact hQ _ gx177
                    · refine q_call Q (R := fun (x178 : mS) => fp aw_Parser_takeBehind fw_Parser_takeBehind true s x178) (fp_t fp_r (fp_m (fr_Parser_fail (1 : Int32) s) (by decide) (by decide) (by decide))) (fun x178 gx178 => ?_)
                      exact hQ _ gx178
                · refine q_call Q (R := fun (x179 : mS) => fp aw_Parser_takeBehind fw_Parser_takeBehind true s x179) (fp_t fp_r (fp_m (fr_Parser_closeBracket s (fp_P (show fp aw_Parser_takeBehind fw_Parser_takeBehind true s s from fp_r) hP)) (by decide) (by decide) (by decide))) (fun x179 gx179 => ?_)
                  exact hQ _ gx179
              · refine q_if Q (fun _ => ?_) (fun _ => ?_)
                · refine q_if Q (fun _ => ?_) (fun _ => ?_)
                  · refine q_call Q (R := fun (x180 : mS) => fp aw_Parser_takeBehind fw_Parser_takeBehind true s x180) (fp_t fp_r (fp_m (fr_Parser_unwind (1 : Int32) s (fp_P (show fp aw_Parser_takeBehind fw_Parser_takeBehind true s s from fp_r) hP)) (by decide) (by decide) (by decide))) (fun x180 gx180 => ?_)
                    refine q_call Q (R := mq_A) (fp_P (show fp aw_Parser_takeBehind fw_Parser_takeBehind true s x180 from gx180) hP _) (fun r181 hr181 => ?_)
                    refine q_call Q (R := fun (x182 : mS) => fp aw_Parser_takeBehind fw_Parser_takeBehind true s x182) (fp_t gx180 (fp_m (fr_Act_beginCondition r181 hr181 x180) (by decide) (by decide) (by decide))) (fun x182 gx182 => ?_)
                    exact hQ _ (fp_IF gx182 (by decide))
                  · refine q_if Q (fun _ => ?_) (fun _ => ?_)
                    · refine q_if Q (fun _ => ?_) (fun _ => ?_)
                      · refine q_call Q (R := fun (x183 : mS) => fp aw_Parser_takeBehind fw_Parser_takeBehind true s x183) (fp_t fp_r (fp_m (fr_Parser_fail (1 : Int32) s) (by decide) (by decide) (by decide))) (fun x183 gx183 => ?_)
                        exact hQ _ gx183
                      · refine q_call Q (R := fun (x184 : mS) => fp aw_Parser_takeBehind fw_Parser_takeBehind true s x184) (fp_t fp_r (fp_m (fr_Parser_closeLine s (fp_P (show fp aw_Parser_takeBehind fw_Parser_takeBehind true s s from fp_r) hP)) (by decide) (by decide) (by decide))) (fun x184 gx184 => ?_)
                        exact hQ _ gx184
                    · refine q_call Q (R := fun (x185 : mS) => fp aw_Parser_takeBehind fw_Parser_takeBehind true s x185) (fp_t fp_r (fp_m (fr_Parser_fail (1 : Int32) s) (by decide) (by decide) (by decide))) (fun x185 gx185 => ?_)
                      exact hQ _ gx185
                · refine q_if Q (fun _ => ?_) (fun _ => ?_)
                  · refine q_if Q (fun _ => ?_) (fun _ => ?_)
                    · refine q_call Q (R := fun (x186 : mS) => fp aw_Parser_takeBehind fw_Parser_takeBehind true s x186) (fp_t fp_r (fp_m (fr_Parser_fail (1 : Int32) s) (by decide) (by decide) (by decide))) (fun x186 gx186 => ?_)
                      exact hQ _ gx186
                    · refine q_call Q (R := fun (x187 : mS) => fp aw_Parser_takeBehind fw_Parser_takeBehind true s x187) (fp_t fp_r (fp_m (fr_Parser_closeLine s (fp_P (show fp aw_Parser_takeBehind fw_Parser_takeBehind true s s from fp_r) hP)) (by decide) (by decide) (by decide))) (fun x187 gx187 => ?_)
                      exact hQ _ gx187
                  · refine q_call Q (R := fun (x188 : mS) => fp aw_Parser_takeBehind fw_Parser_takeBehind true s x188) (fp_t fp_r (fp_m (fr_Parser_fail (1 : Int32) s) (by decide) (by decide) (by decide))) (fun x188 gx188 => ?_)
                    exact hQ _ gx188
  · refine q_if Q (fun _ => ?_) (fun _ => ?_)
    · refine q_if Q (fun _ => ?_) (fun _ => ?_)
      · refine q_if Q (fun _ => ?_) (fun _ => ?_)
        · refine q_if Q (fun _ => ?_) (fun _ => ?_)
          · refine q_if Q (fun _ => ?_) (fun _ => ?_)
            · refine q_if Q (fun _ => ?_) (fun _ => ?_)
              · refine q_if Q (fun _ => ?_) (fun _ => ?_)
                · refine q_if Q (fun _ => ?_) (fun _ => ?_)
                  · refine q_call Q (R := fun (x189 : mS) => fp aw_Parser_takeBehind fw_Parser_takeBehind true s x189) (fp_t fp_r (fp_m (fr_Parser_unwind (1 : Int32) s (fp_P (show fp aw_Parser_takeBehind fw_Parser_takeBehind true s s from fp_r) hP)) (by decide) (by decide) (by decide))) (fun x189 gx189 => ?_)
                    refine q_call Q (R := mq_A) (fp_P (show fp aw_Parser_takeBehind fw_Parser_takeBehind true s x189 from gx189) hP _) (fun r190 hr190 => ?_)
                    refine q_call Q (R := fun (x191 : mS) => fp aw_Parser_takeBehind fw_Parser_takeBehind true s x191) (fp_t gx189 (fp_m (fr_Act_beginCondition r190 hr190 x189) (by decide) (by decide) (by decide))) (fun x191 gx191 => ?_)
                    exact hQ _ (fp_IF gx191 (by decide))
                  · refine q_if Q (fun _ => ?_) (fun _ => ?_)
                    · refine q_if Q (fun _ => ?_) (fun _ => ?_)
                      · refine q_call Q (R := fun (x192 : mS) => fp aw_Parser_takeBehind fw_Parser_takeBehind true s x192) (fp_t fp_r (fp_m (fr_Parser_fail (1 : Int32) s) (by decide) (by decide) (by decide))) (fun x192 gx192 => ?_)
                        exact hQ _ gx192
                      · refine q_call Q (R := fun (x193 : mS) => fp aw_Parser_takeBehind fw_Parser_takeBehind true s x193) (fp_t fp_r (fp_m (fr_Parser_closeLine s (fp_P (show fp aw_Parser_takeBehind fw_Parser_takeBehind true s s from fp_r) hP)) (by decide) (by decide) (by decide))) (fun x193 gx193 => ?_)
                        exact hQ _ gx193
                    · refine q_call Q (R := fun (x194 : mS) => fp aw_Parser_takeBehind fw_Parser_takeBehind true s x194) (fp_t fp_r (fp_m (fr_Parser_fail (1 : Int32) s) (by decide) (by decide) (by decide))) (fun x194 gx194 => ?_)
                      exact hQ _ gx194
                · refine q_if Q (fun _ => ?_) (fun _ => ?_)
                  · refine q_if Q (fun _ => ?_) (fun _ => ?_)
                    · refine q_call Q (R := fun (x195 : mS) => fp aw_Parser_takeBehind fw_Parser_takeBehind true s x195) (fp_t fp_r (fp_m (fr_Parser_fail (1 : Int32) s) (by decide) (by decide) (by decide))) (fun x195 gx195 => ?_)
                      exact hQ _ gx195
                    · refine q_call Q (R := fun (x196 : mS) => fp aw_Parser_takeBehind fw_Parser_takeBehind true s x196) (fp_t fp_r (fp_m (fr_Parser_closeLine s (fp_P (show fp aw_Parser_takeBehind fw_Parser_takeBehind true s s from fp_r) hP)) (by decide) (by decide) (by decide))) (fun x196 gx196 => ?_)
                      exact hQ _ gx196
                  · refine q_call Q (R := fun (x197 : mS) => fp aw_Parser_takeBehind fw_Parser_takeBehind true s x197) (fp_t fp_r (fp_m (fr_Parser_fail (1 : Int32) s) (by decide) (by decide) (by decide))) (fun x197 gx197 => ?_)
                    exact hQ _ gx197
              · refine q_call Q (R := fun (x198 : mS) => fp aw_Parser_takeBehind fw_Parser_takeBehind true s x198) (fp_t fp_r (fp_m (fr_Parser_closeBracket s (fp_P (show fp aw_Parser_takeBehind fw_Parser_takeBehind true s s from fp_r) hP)) (by decide) (by decide) (by decide))) (fun x198 gx198 => ?_)
                exact hQ _ gx198
            · refine q_if Q (fun _ => ?_) (fun _ => ?_)
              · refine q_if Q (fun _ => ?_) (fun _ => ?_)
                · refine q_call Q (R := fun (x199 : mS) => fp aw_Parser_takeBehind fw_Parser_takeBehind true s x199) (fp_t fp_r (fp_m (fr_Parser_unwind (1 : Int32) s (fp_P (show fp aw_Parser_takeBehind fw_Parser_takeBehind true s s from fp_r) hP)) (by decide) (by decide) (by decide))) (fun x199 gx199 => ?_)
                  refine q_call Q (R := mq_A) (fp_P (show fp aw_Parser_takeBehind fw_Parser_takeBehind true s x199 from gx199) hP _) (fun r200 hr200 => ?_)
                  refine q_call Q (R := fun (x201 : mS) => fp aw_Parser_takeBehind fw_Parser_takeBehind true s x201) (fp_t gx199 (fp_m (fr_Act_beginCondition r200 hr200 x199) (by decide) (by decide) (by decide))) (fun x201 gx201 => ?_)
                  exact hQ _ (fp_IF gx201 (by decide))
                · refine q_if Q (fun _ => ?_) (fun _ => ?_)
                  · refine q_if Q (fun _ => ?_) (fun _ => ?_)
                    · refine q_call Q (R := fun (x202 : mS) => fp aw_Parser_takeBehind fw_Parser_takeBehind true s x202) (fp_t fp_r (fp_m (fr_Parser_fail (1 : Int32) s) (by decide) (by decide) (by decide))) (fun x202 gx202 => ?_)
                      exact hQ _ gx202
                    · refine q_call Q (R := fun (x203 : mS) => fp aw_Parser_takeBehind fw_Parser_takeBehind true s x203) (fp_t fp_r (fp_m (fr_Parser_closeLine s (fp_P (show fp aw_Parser_takeBehind fw_Parser_takeBehind true s s from fp_r) hP)) (by decide) (by decide) (by decide))) (fun x203 gx203 => ?_)
                      exact hQ _ gx203
                  · refine q_call Q (R := fun (x204 : mS) => fp aw_Parser_takeBehind fw_Parser_takeBehind true s x204) (fp_t fp_r (fp_m (fr_Parser_fail (1 : Int32) s) (by decide) (by decide) (by decide))) (fun x204 gx204 => ?_)
                    exact hQ _ gx204
              · refine q_if Q (fun _ => ?_) (fun _ => ?_)
                · refine q_if Q (fun _ => ?_) (fun _ => ?_)
                  · refine q_call Q (R := fun (x205 : mS) => fp aw_Parser_takeBehind fw_Parser_takeBehind true s x205) (fp_t fp_r (fp_m (fr_Parser_fail (1 : Int32) s) (by decide) (by decide) (by decide))) (fun x205 gx205 => ?_)
                    exact hQ _ gx205
                  · refine q_call Q (R := fun (x206 : mS) => fp aw_Parser_takeBehind fw_Parser_takeBehind true s x206) (fp_t fp_r (fp_m (fr_Parser_closeLine s (fp_P (show fp aw_Parser_takeBehind fw_Parser_takeBehind true s s from fp_r) hP)) (by decide) (by decide) (by decide))) (fun x206 gx206 => ?_)
                    exact hQ _ gx206
                · refine q_call Q (R := fun (x207 : mS) => fp aw_Parser_takeBehind fw_Parser_takeBehind true s x207) (fp_t fp_r (fp_m (fr_Parser_fail (1 : Int32) s) (by decide) (by decide) (by decide))) (fun x207 gx207 => ?_)
                  exact hQ _ gx207
          · refine q_call Q (R := fun (x208 : mS) => fp aw_Parser_takeBehind fw_Parser_takeBehind true s x208) (fp_t fp_r (fp_m (fr_Parser_operate (3 : Int32) s (fp_P (show fp aw_Parser_takeBehind fw_Parser_takeBehind true s s from fp_r) hP)) (by decide) (by decide) (by decide))) (fun x208 gx208 => ?_)
            exact hQ _ gx208
        · refine q_if Q (fun _ => ?_) (fun _ => ?_)
          · refine q_if Q (fun _ => ?_) (fun _ => ?_)
            · refine q_if Q (fun _ => ?_) (fun _ => ?_)
              · refine q_if Q (fun _ => ?_) (fun _ => ?_)
                · refine q_if Q (fun _ => ?_) (fun _ => ?_)
                  · refine q_if Q (fun _ => ?_) (fun _ => ?_)
                    · refine q_call Q (R := fun (x209 : mS) => fp aw_Parser_takeBehind fw_Parser_takeBehind true s x209) (fp_t fp_r (fp_m (fr_Parser_unwind (1 : Int32) s (fp_P (show fp aw_Parser_takeBehind fw_Parser_takeBehind true s s from fp_r) hP)) (by decide) (by decide) (by decide))) (fun x209 gx209 => ?_)
                      refine q_call Q (R := mq_A) (fp_P (show fp aw_Parser_takeBehind fw_Parser_takeBehind true s x209 from gx209) hP _) (fun r210 hr210 => ?_)
                      refine q_call Q (R := fun (x211 : mS) => fp aw_Parser_takeBehind fw_Parser_takeBehind true s x211) (fp_t gx209 (fp_m (fr_Act_beginCondition r210 hr210 x209) (by decide) (by decide) (by decide))) (fun x211 gx211 => ?_)
                      exact hQ _ (fp_IF gx211 (by decide))
                    · refine q_if Q (fun _ => ?_) (fun _ => ?_)
                      · refine q_if Q (fun _ => ?_) (fun _ => ?_)
                        · refine q_call Q (R := fun (x212 : mS) => fp aw_Parser_takeBehind fw_Parser_takeBehind true s x212) (fp_t fp_r (fp_m (fr_Parser_fail (1 : Int32) s) (by decide) (by decide) (by decide))) (fun x212 gx212 => ?_)
                          exact hQ _ gx212
                        · refine q_call Q (R := fun (x213 : mS) => fp aw_Parser_takeBehind fw_Parser_takeBehind true s x213) (fp_t fp_r (fp_m (fr_Parser_closeLine s (fp_P (show fp aw_Parser_takeBehind fw_Parser_takeBehind true s s from fp_r) hP)) (by decide) (by decide) (by decide))) (fun x213 gx213 => ?_)
                          exact hQ _ gx213
                      · refine q_call Q (R := fun (x214 : mS) => fp aw_Parser_takeBehind fw_Parser_takeBehind true s x214) (fp_t fp_r (fp_m (fr_Parser_fail (1 : Int32) s) (by decide) (by decide) (by decide))) (fun x214 gx214 => ?_)
                        exact hQ _ gx214
                  · refine q_if Q (fun _ => ?_) (fun _ => ?_)
                    · refine q_if Q (fun _ => ?_) (fun _ => ?_)
                      · refine q_call Q (R := fun (x215 : mS) => fp aw_Parser_takeBehind fw_Parser_takeBehind true s x215) (fp_t fp_r (fp_m (fr_Parser_fail (1 : Int32) s) (by decide) (by decide) (by decide))) (fun x215 gx215 => ?_)
                        exact hQ _ gx215
                      · refine q_call Q (R := fun (x216 : mS) => fp aw_Parser_takeBehind fw_Parser_takeBehind true s x216) (fp_t fp_r (fp_m (fr_Parser_closeLine s (fp_P (show fp aw_Parser_takeBehind fw_Parser_takeBehind true s s from fp_r) hP)) (by decide) (by decide) (by decide))) (fun x216 gx216 => ?_)
                        exact hQ _ gx216
                    · refine q_call Q (R := fun (x217 : mS) => fp aw_Parser_takeBehind fw_Parser_takeBehind true s x217) (fp_t fp_r (fp_m (fr_Parser_fail (1 : Int32) s) (by decide) (by decide) (by decide))) (fun x217 gx217 => ?_)
                      exact hQ _ gx217
                · refine q_call Q (R := fun (x218 : mS) => fp aw_Parser_takeBehind fw_Parser_takeBehind true s x218) (fp_t fp_r (fp_m (fr_Parser_closeBracket s (fp_P (show fp aw_Parser_takeBehind fw_Parser_takeBehind true s s from fp_r) hP)) (by decide) (by decide) (by decide))) (fun x218 gx218 => ?_)
                  exact hQ _ gx218
              · refine q_if Q (fun _ => ?_) (fun _ => ?_)
                · refine q_if Q (fun _ => ?_) (fun _ => ?_)
                  · refine q_call Q (R := fun (x219 : mS) => fp aw_Parser_takeBehind fw_Parser_takeBehind true s x219) (fp_t fp_r (fp_m (fr_Parser_unwind (1 : Int32) s (fp_P (show fp aw_Parser_takeBehind fw_Parser_takeBehind true s s from fp_r) hP)) (by decide) (by decide) (by decide))) (fun x219 gx219 => ?_)
                    refine q_call Q (R := mq_A) (fp_P (show fp aw_Parser_takeBehind fw_Parser_takeBehind true s x219 from gx219) hP _) (fun r220 hr220 => ?_)
                    refine q_call Q (R := fun (x221 : mS) => fp aw_Parser_takeBehind fw_Parser_takeBehind true s x221) (fp_t gx219 (fp_m (fr_Act_beginCondition r220 hr220 x219) (by decide) (by decide) (by decide))) (fun x221 gx221 => ?_)
                    exact hQ _ (fp_IF gx221 (by decide))
                  · refine q_if Q (fun _ => ?_) (fun _ => ?_)
                    · refine q_if Q (fun _ => ?_) (fun _ => ?_)
                      · refine q_call Q (R := fun (x222 : mS) => fp aw_Parser_takeBehind fw_Parser_takeBehind true s x222) (fp_t fp_r (fp_m (fr_Parser_fail (1 : Int32) s) (by decide) (by decide) (by decide))) (fun x222 gx222 => ?_)
                        exact hQ _ gx222
                      · refine q_call Q (R := fun (x223 : mS) => fp aw_Parser_takeBehind fw_Parser_takeBehind true s x223) (fp_t fp_r (fp_m (fr_Parser_closeLine s (fp_P (show fp aw_Parser_takeBehind fw_Parser_takeBehind true s s from fp_r) hP)) (by decide) (by decide) (by decide))) (fun x223 gx223 => ?_)
                        exact hQ _ gx223
                    · refine q_call Q (R := fun (x224 : mS) => fp aw_Parser_takeBehind fw_Parser_takeBehind true s x224) (fp_t fp_r (fp_m (fr_Parser_fail (1 : Int32) s) (by decide) (by decide) (by decide))) (fun x224 gx224 => ?_)
                      exact hQ _ gx224
                · refine q_if Q (fun _ => ?_) (fun _ => ?_)
                  · refine q_if Q (fun _ => ?_) (fun _ => ?_)
                    · refine q_call Q (R := fun (x225 : mS) => fp aw_Parser_takeBehind fw_Parser_takeBehind true s x225) (fp_t fp_r (fp_m (fr_Parser_fail (1 : Int32) s) (by decide) (by decide) (by decide))) (fun x225 gx225 => ?_)
                      exact hQ _ gx225
                    · refine q_call Q (R := fun (x226 : mS) => fp aw_Parser_takeBehind fw_Parser_takeBehind true s x226) (fp_t fp_r (fp_m (fr_Parser_closeLine s (fp_P (show fp aw_Parser_takeBehind fw_Parser_takeBehind true s s from fp_r) hP)) (by decide) (by decide) (by decide))) (fun x226 gx226 => ?_)
                      exact hQ _ gx226
                  · refine q_call Q (R := fun (x227 : mS) => fp aw_Parser_takeBehind fw_Parser_takeBehind true s x227) (fp_t fp_r (fp_m (fr_Parser_fail (1 : Int32) s) (by decide) (by decide) (by decide))) (fun x227 gx227 => ?_)
                    exact hQ _ gx227
            · refine q_call Q (R := fun (x228 : mS) => fp aw_Parser_takeBehind fw_Parser_takeBehind true s x228) (fp_t fp_r (fp_m (fr_Parser_operate (3 : Int32) s (fp_P (show fp aw_Parser_takeBehind fw_Parser_takeBehind true s s from fp_r) hP)) (by decide) (by decide) (by decide))) (fun x228 gx228 => ?_)
              exact hQ _ gx228
          · refine q_if Q (fun _ => ?_) (fun _ => ?_)
            · refine q_if Q (fun _ => ?_) (fun _ => ?_)
              · refine q_if Q (fun _ => ?_) (fun _ => ?_)
                · refine q_if Q (fun _ => ?_) (fun _ => ?_)
                  · refine q_call Q (R := fun (x229 : mS) => fp aw_Parser_takeBehind fw_Parser_takeBehind true s x229) (fp_t fp_r (fp_m (fr_Parser_unwind (1 : Int32) s (fp_P (show fp aw_Parser_takeBehind fw_Parser_takeBehind true s s from fp_r) hP)) (by decide) (by decide) (by decide))) (fun x229 gx229 => ?_)
                    refine q_call Q (R := mq_A) (fp_P (show fp aw_Parser_takeBehind fw_Parser_takeBehind true s x229 from gx229) hP _) (fun r230 hr230 => ?_)
                    refine q_call Q (R := fun (x231 : mS) => fp aw_Parser_takeBehind fw_Parser_takeBehind true s x231) (fp_t gx229 (fp_m (fr_Act_beginCondition r230 hr230 x229) (by decide) (by decide) (by decide))) (fun x231 gx231 => ?_)
                    exact hQ _ (fp_IF gx231 (by decide))
                  · refine q_if Q (fun _ => ?_) (fun _ => ?_)
                    · refine q_if Q (fun _ => ?_) (fun _ => ?_)
                      · refine q_call Q (R := fun (x232 : mS) => fp aw_Parser_takeBehind fw_Parser_takeBehind true s x232) (fp_t fp_r (fp_m (fr_Parser_fail (1 : Int32) s) (by decide) (by decide) (by decide))) (fun x232 gx232 => ?_)
                        exact hQ _ gx232
                      · refine q_call Q (R := fun (x233 : mS) => fp aw_Parser_takeBehind fw_Parser_takeBehind true s x233) (fp_t fp_r (fp_m (fr_Parser_closeLine s (fp_P (show fp aw_Parser_takeBehind fw_Parser_takeBehind true s s from fp_r) hP)) (by decide) (by decide) (by decide))) (fun x233 gx233 => ?_)
                        exact hQ _ gx233
                    · refine q_call Q (R := fun (x234 : mS) => fp aw_Parser_takeBehind fw_Parser_takeBehind true s x234) (fp_t fp_r (fp_m (fr_Parser_fail (1 : Int32) s) (by decide) (by decide) (by decide))) (fun x234 gx234 => ?_)
                      exact hQ _ gx234
                · refine q_if Q (fun _ => ?_) (fun _ => ?_)
                  · refine q_if Q (fun _ => ?_) (fun _ => ?_)
                    · refine q_call Q (R := fun (x235 : mS) => fp aw_Parser_takeBehind fw_Parser_takeBehind true s x235) (fp_t fp_r (fp_m (fr_Parser_fail (1 : Int32) s) (by decide) (by decide) (by decide))) (fun x235 gx235 => ?_)
                      exact hQ _ gx235
                    · refine q_call Q (R := fun (x236 : mS) => fp aw_Parser_takeBehind fw_Parser_takeBehind true s x236) (fp_t fp_r (fp_m (fr_Parser_closeLine s (fp_P (show fp aw_Parser_takeBehind fw_Parser_takeBehind true s s from fp_r) hP)) (by decide) (by decide) (by decide))) (fun x236 gx236 => ?_)
                      exact hQ _ gx236
                  · refine q_call Q (R := fun (x237 : mS) => fp aw_Parser_takeBehind fw_Parser_takeBehind true s x237) (fp_t fp_r (fp_m (fr_Parser_fail (1 : Int32) s) (by decide) (by decide) (by decide))) (fun x237 gx237 => ?_)
                    exact hQ _ gx237
              · refine q_call Q (R := fun (x238 : mS) => fp aw_Parser_takeBehind fw_Parser_takeBehind true s x238) (fp_t fp_r (fp_m (fr_Parser_closeBracket s (fp_P (show fp aw_Parser_takeBehind fw_Parser_takeBehind true s s from fp_r) hP)) (by decide) (by decide) (by decide))) (fun x238 gx238 => ?_)
                exact hQ _ gx238
            · refine q_if Q (fun _ => ?_) (fun _ => ?_)
              · refine q_if Q (fun _ => ?_) (fun _ => ?_)
                · refine q_call Q (R := fun (x239 : mS) => fp aw_Parser_takeBehind fw_Parser_takeBehind true s x239) (fp_t fp_r (fp_m (fr_Parser_unwind (1 : Int32) s (fp_P (show fp aw_Parser_takeBehind fw_Parser_takeBehind true s s from fp_r) hP)) (by decide) (by decide) (by decide))) (fun x239 gx239 => ?_)
                  refine q_call Q (R := mq_A) (fp_P (show fp aw_Parser_takeBehind fw_Parser_takeBehind true s x239 from gx239) hP _) (fun r240 hr240 => ?_)
                  refine q_call Q (R := fun (x241 : mS) => fp aw_Parser_takeBehind fw_Parser_takeBehind true s x241) (fp_t gx239 (fp_m (fr_Act_beginCondition r240 hr240 x239) (by decide) (by decide) (by decide))) (fun x241 gx241 => ?_)
                  exact hQ _ (fp_IF gx241 (by decide))
                · refine q_if Q (fun _ => ?_) (fun _ => ?_)
                  · refine q_if Q (fun _ => ?_) (fun _ => ?_)
                    · refine q_call Q (R := fun (x242 : mS) => fp aw_Parser_takeBehind fw_Parser_takeBehind true s x242) (fp_t fp_r (fp_m (fr_Parser_fail (1 : Int32) s) (by decide) (by decide) (by decide))) (fun x242 gx242 => ?_)
                      exact hQ _ gx242
                    · refine q_call Q (R := fun (x243 : mS) => fp aw_Parser_takeBehind fw_Parser_takeBehind true s x243) (fp_t fp_r (fp_m (fr_Parser_closeLine s (fp_P (show fp aw_Parser_takeBehind fw_Parser_takeBehind true s s from fp_r) hP)) (by decide) (by decide) (by decide))) (fun x243 gx243 => ?_)
                      exact hQ _ gx243
                  · refine q_call Q (R := fun (x244 : mS) => fp aw_Parser_takeBehind fw_Parser_takeBehind true s x244) (fp_t fp_r (fp_m (fr_Parser_fail (1 : Int32) s) (by decide) (by decide) (by decide))) (fun x244 gx244 => ?_)
                    exact hQ _ gx244
              · refine q_if Q (fun _ => ?_) (fun _ => ?_)
                · refine q_if Q (fun _ => ?_) (fun _ => ?_)
                  · refine q_call Q (R := fun (x245 : mS) => fp aw_Parser_takeBehind fw_Parser_takeBehind true s x245) (fp_t fp_r (fp_m (fr_Parser_fail (1 : Int32) s) (by decide) (by decide) (by decide))) (fun x245 gx245 => ?_)
                    exact hQ _ gx245
                  · refine q_call Q (R := fun (x246 : mS) => fp aw_Parser_takeBehind fw_Parser_takeBehind true s x246) (fp_t fp_r (fp_m (fr_Parser_closeLine s (fp_P (show fp aw_Parser_takeBehind fw_Parser_takeBehind true s s from fp_r) hP)) (by decide) (by decide) (by decide))) (fun x246 gx246 => ?_)
                    exact hQ _ gx246
                · refine q_call Q (R := fun (x247 : mS) => fp aw_Parser_takeBehind fw_Parser_takeBehind true s x247) (fp_t fp_r (fp_m (fr_Parser_fail (1 : Int32) s) (by decide) (by decide) (by decide))) (fun x247 gx247 => ?_)
                  exact hQ _ gx247
      · refine q_if Q (fun _ => ?_) (fun _ => ?_)
        · refine q_if Q (fun _ => ?_) (fun _ => ?_)
          · refine q_if Q (fun _ => ?_) (fun _ => ?_)
            · refine q_if Q (fun _ => ?_) (fun _ => ?_)
              · refine q_if Q (fun _ => ?_) (fun _ => ?_)
                · refine q_if Q (fun _ => ?_) (fun _ => ?_)
                  · refine q_if Q (fun _ => ?_) (fun _ => ?_)
                    · refine q_call Q (R := fun (x248 : mS) => fp aw_Parser_takeBehind fw_Parser_takeBehind true s x248) (fp_t fp_r (fp_m (fr_Parser_unwind (1 : Int32) s (fp_P (show fp aw_Parser_takeBehind fw_Parser_takeBehind true s s from fp_r) hP)) (by decide) (by decide) (by decide))) (fun x248 gx248 => ?_)
                      refine q_call Q (R := mq_A) (fp_P (show fp aw_Parser_takeBehind fw_Parser_takeBehind true s x248 from gx248) hP _) (fun r249 hr249 => ?_)
                      refine q_call Q (R := fun (x250 : mS) => fp aw_Parser_takeBehind fw_Parser_takeBehind true s x250) (fp_t gx248 (fp_m (fr_Act_beginCondition r249 hr249 x248) (by decide) (by decide) (by decide))) (fun x250 gx250 => ?_)
                      exact hQ _ (fp_IF gx250 (by decide))
                    · refine q_if Q (fun _ => ?_) (fun _ => ?_)
                      · refine q_if Q (fun _ => ?_) (fun _ => ?_)
                        · refine q_call Q (R := fun (x251 : mS) => fp aw_Parser_takeBehind fw_Parser_takeBehind true s x251) (fp_t fp_r (fp_m (fr_Parser_fail (1 : Int32) s) (by decide) (by decide) (by decide))) (fun x251 gx251 => ?_)
                          exact hQ _ gx251
                        · refine q_call Q (R := fun (x252 : mS) => fp aw_Parser_takeBehind fw_Parser_takeBehind true s x252) (fp_t fp_r (fp_m (fr_Parser_closeLine s (fp_P (show fp aw_Parser_takeBehind fw_Parser_takeBehind true s s from fp_r) hP)) (by decide) (by decide) (by decide))) (fun x252 gx252 => ?_)
                          exact hQ _ gx252
                      · refine q_call Q (R := fun (x253 : mS) => fp aw_Parser_takeBehind fw_Parser_takeBehind true s x253) (fp_t fp_r (fp_m (fr_Parser_fail (1 : Int32) s) (by decide) (by decide) (by decide))) (fun x253 gx253 => ?_)
                        exact hQ _ gx253
                  · refine q_if Q (fun _ => ?_) (fun _ => ?_)
                    · refine q_if Q (fun _ => ?_) (fun _ => ?_)
                      · refine q_call Q (R := fun (x254 : mS) => fp aw_Parser_takeBehind fw_Parser_takeBehind true s x254) (fp_t fp_r (fp_m (fr_Parser_fail (1 : Int32) s) (by decide) (by decide) (by decide))) (fun x254 gx254 => ?_)
                        exact hQ _ gx254
                      · refine q_call Q (R := fun (x255 : mS) => fp aw_Parser_takeBehind fw_Parser_takeBehind true s x255) (fp_t fp_r (fp_m (fr_Parser_closeLine s (fp_P (show fp aw_Parser_takeBehind fw_Parser_takeBehind true s s from fp_r) hP)) (by decide) (by decide) (by decide))) (fun x255 gx255 => ?_)
                        exact hQ _ gx255
                    · refine q_call Q (R := fun (x256 : mS) => fp aw_Parser_takeBehind fw_Parser_takeBehind true s x256) (fp_t fp_r (fp_m (fr_Parser_fail (1 : Int32) s) (by decide) (by decide) (by decide))) (fun x256 gx256 => ?_)
                      exact hQ _ gx256
                · refine q_call Q (R := fun (x257 : mS) => fp aw_Parser_takeBehind fw_Parser_takeBehind true s x257) (fp_t fp_r (fp_m (fr_Parser_closeBracket s (fp_P (show fp aw_Parser_takeBehind fw_Parser_takeBehind true s s from fp_r) hP)) (by decide) (by decide) (by decide))) (fun x257 gx257 => ?_)
                  exact hQ _ gx257
              · refine q_if Q (fun _ => ?_) (fun _ => ?_)
                · refine q_if Q (fun _ => ?_) (fun _ => ?_)
                  · refine q_call Q (R := fun (x258 : mS) => fp aw_Parser_takeBehind fw_Parser_takeBehind true s x258) (fp_t fp_r (fp_m (fr_Parser_unwind (1 : Int32) s (fp_P (show fp aw_Parser_takeBehind fw_Parser_takeBehind true s s from fp_r) hP)) (by decide) (by decide) (by decide))) (fun x258 gx258 => ?_)
                    refine q_call Q (R := mq_A) (fp_P (show fp aw_Parser_takeBehind fw_Parser_takeBehind true s x258 from gx258) hP _) (fun r259 hr259 => ?_)
                    refine q_call Q (R := fun (x260 : mS) => fp aw_Parser_takeBehind fw_Parser_takeBehind true s x260) (fp_t gx258 (fp_m (fr_Act_beginCondition r259 hr259 x258) (by decide) (by decide) (by decide))) (fun x260 gx260 => ?_)
                    exact hQ _ (fp_IF gx260 (by decide))
                  · refine q_if Q (fun _ => ?_) (fun _ => ?_)
                    · refine q_if Q (fun _ => ?_) (fun _ => ?_)
                      · refine q_call Q (R := fun (x261 : mS) => fp aw_Parser_takeBehind fw_Parser_takeBehind true s x261) (fp_t fp_r (fp_m (fr_Parser_fail (1 : Int32) s) (by decide) (by decide) (by decide))) (fun x261 gx261 => ?_)
                        exact hQ _ gx261
                      · refine q_call Q (R := fun (x262 : mS) => fp aw_Parser_takeBehind fw_Parser_takeBehind true s x262) (fp_t fp_r (fp_m (fr_Parser_closeLine s (fp_P (show fp aw_Parser_takeBehind fw_Parser_takeBehind true s s from fp_r) hP)) (by decide) (by decide) (by decide))) (fun x262 gx262 => ?_)
                        exact hQ _ gx262
                    · refine q_call Q (R := fun (x263 : mS) => fp aw_Parser_takeBehind fw_Parser_takeBehind true s x263) (fp_t fp_r (fp_m (fr_Parser_fail (1 : Int32) s) (by decide) (by decide) (by decide))) (fun x263 gx263 => ?_)
                      exact hQ _ gx263
                · refine q_if Q (fun _ => ?_) (fun _ => ?_)
                  · refine q_if Q (fun _ => ?_) (fun _ => ?_)
                    · refine q_call Q (R := fun (x264 : mS) => fp aw_Parser_takeBehind fw_Parser_takeBehind true s x264) (fp_t fp_r (fp_m (fr_Parser_fail (1 : Int32) s) (by decide) (by decide) (by decide))) (fun x264 gx264 => ?_)
                      exact hQ _ gx264
                    · refine q_call Q (R := fun (x265 : mS) => fp aw_Parser_takeBehind fw_Parser_takeBehind true s x265) (fp_t fp_r (fp_m (fr_Parser_closeLine s (fp_P (show fp aw_Parser_takeBehind fw_Parser_takeBehind true s s from fp_r) hP)) (by decide) (by decide) (by decide))) (fun x265 gx265 => ?_)
                      exact hQ _ gx265
                  · refine q_call Q (R := fun (x266 : mS) => fp aw_Parser_takeBehind fw_Parser_takeBehind true s x266) (fp_t fp_r (fp_m (fr_Parser_fail (1 : Int32) s) (by decide) (by decide) (by decide))) (fun x266 gx266 => ?_)
                    exact hQ _ gx266
            · refine q_call Q (R := fun (x267 : mS) => fp aw_Parser_takeBehind fw_Parser_takeBehind true s x267) (fp_t fp_r (fp_m (fr_Parser_operate (3 : Int32) s (fp_P (show fp aw_Parser_takeBehind fw_Parser_takeBehind true s s from fp_r) hP)) (by decide) (by decide) (by decide))) (fun x267 gx267 => ?_)
              exact hQ _ gx267
          · refine q_if Q (fun _ => ?_) (fun _ => ?_)
            · refine q_if Q (fun _ => ?_) (fun _ => ?_)
              · refine q_if Q (fun _ => ?_) (fun _ => ?_)
                · refine q_if Q (fun _ => ?_) (fun _ => ?_)
                  · refine q_if Q (fun _ => ?_) (fun _ => ?_)
                    · refine q_if Q (fun _ => ?_) (fun _ => ?_)
                      · refine q_call Q (R := fun (x268 : mS) => fp aw_Parser_takeBehind fw_Parser_takeBehind true s x268) (fp_t fp_r (fp_m (fr_Parser_unwind (1 : Int32) s (fp_P (show fp aw_Parser_takeBehind fw_Parser_takeBehind true s s from fp_r) hP)) (by decide) (by decide) (by decide))) (fun x268 gx268 => ?_)
                        refine q_call Q (R := mq_A) (fp_P (show fp aw_Parser_takeBehind fw_Parser_takeBehind true s x268 from gx268) hP _) (fun r269 hr269 => ?_)
                        refine q_call Q (R := fun (x270 : mS) => fp aw_Parser_takeBehind fw_Parser_takeBehind true s x270) (fp_t gx268 (fp_m (fr_Act_beginCondition r269 hr269 x268) (by decide) (by decide) (by decide))) (fun x270 gx270 => ?_)
                        exact hQ _ (fp_IF gx270 (by decide))
                      · refine q_if Q (fun _ => ?_) (fun _ => ?_)
                        · refine q_if Q (fun _ => ?_) (fun _ => ?_)
                          · refine q_call Q (R := fun (x271 : mS) => fp aw_Parser_takeBehind fw_Parser_takeBehind true s x271) (fp_t fp_r (fp_m (fr_Parser_fail (1 : Int32) s) (by decide) (by decide) (by decide))) (fun x271 gx271 => ?_)
                            exact hQ _ gx271
                          · refine q_call Q (R := fun (x272 : mS) => fp aw_Parser_takeBehind fw_Parser_takeBehind true s x272) (fp_t fp_r (fp_m (fr_Parser_closeLine s (fp_P (show fp aw_Parser_takeBehind fw_Parser_takeBehind true s s from fp_r) hP)) (by decide) (by decide) (by decide))) (fun x272 gx272 => ?_)
                            exact hQ _ gx272
                        · refine q_call Q (R := fun (x273 : mS) => fp aw_Parser_takeBehind fw_Parser_takeBehind true s x273) (fp_t fp_r (fp_m (fr_Parser_fail (1 : Int32) s) (by decide) (by decide) (by decide))) (fun x273 gx273 => ?_)
                          exact hQ _ gx273
                    · refine q_if Q (fun _ => ?_) (fun _ => ?_)
                      · refine q_if Q (fun _ => ?_) (fun _ => ?_)
                        · refine q_call Q (R := fun (x274 : mS) => fp aw_Parser_takeBehind fw_Parser_takeBehind true s x274) (fp_t fp_r (fp_m (fr_Parser_fail (1 : Int32) s) (by decide) (by decide) (by decide))) (fun x274 gx274 => ?_)
                          exact hQ _ gx274
                        · refine q_call Q (R := fun (x275 : mS) => fp aw_Parser_takeBehind fw_Parser_takeBehind true s x275) (fp_t fp_r (fp_m (fr_Parser_closeLine s (fp_P (show fp aw_Parser_takeBehind fw_Parser_takeBehind true s s from fp_r) hP)) (by decide) (by decide) (by decide))) (fun x275 gx275 => ?_)
                          exact hQ _ gx275
                      · refine q_call Q (R := fun (x276 : mS) => fp aw_Parser_takeBehind fw_Parser_takeBehind true s x276) (fp_t fp_r (fp_m (fr_Parser_fail (1 : Int32) s) (by decide) (by decide) (by decide))) (fun x276 gx276 => ?_)
                        exact hQ _ gx276
                  · refine q_call Q (R := fun (x277 : mS) => fp aw_Parser_takeBehind fw_Parser_takeBehind true s x277) (fp_t fp_r (fp_m (fr_Parser_closeBracket s (fp_P (show fp aw_Parser_takeBehind fw_Parser_takeBehind true s s from fp_r) hP)) (by decide) (by decide) (by decide))) (fun x277 gx277 => ?_)
                    exact hQ _ gx277
                · refine q_if Q (fun _ => ?_) (fun _ => ?_)
                  · refine q_if Q (fun _ => ?_) (fun _ => ?_)
                    · refine q_call Q (R := fun (x278 : mS) => fp aw_Parser_takeBehind fw_Parser_takeBehind true s x278) (fp_t fp_r (fp_m (fr_Parser_unwind (1 : Int32) s (fp_P (show fp aw_Parser_takeBehind fw_Parser_takeBehind true s s from fp_r) hP)) (by decide) (by decide) (by decide))) (fun x278 gx278 => ?_)
                      refine q_call Q (R := mq_A) (fp_P (show fp aw_Parser_takeBehind fw_Parser_takeBehind true s x278 from gx278) hP _) (fun r279 hr279 => ?_)
                      refine q_call Q (R := fun (x280 : mS) => fp aw_Parser_takeBehind fw_Parser_takeBehind true s x280) (fp_t gx278 (fp_m (fr_Act_beginCondition r279 hr279 x278) (by decide) (by decide) (by decide))) (fun x280 gx280 => ?_)
                      exact hQ _ (fp_IF gx280 (by decide))
                    · refine q_if Q (fun _ => ?_) (fun _ => ?_)
                      · refine q_if Q (fun _ => ?_) (fun _ => ?_)
                        · refine q_call Q (R := fun (x281 : mS) => fp aw_Parser_takeBehind fw_Parser_takeBehind true s x281) (fp_t fp_r (fp_m (fr_Parser_fail (1 : Int32) s) (by decide) (by decide) (by decide))) (fun x281 gx281 => ?_)
                          exact hQ _ gx281
                        · refine q_call Q (R := fun (x282 : mS) => fp aw_Parser_takeBehind fw_Parser_takeBehind true s x282) (fp_t fp_r (fp_m (fr_Parser_closeLine s (fp_P (show fp aw_Parser_takeBehind fw_Parser_takeBehind true s s from fp_r) hP)) (by decide) (by decide) (by decide))) (fun x282 gx282 => ?_)
                          exact hQ _ gx282
                      · refine q_call Q (R := fun (x283 : mS) => fp aw_Parser_takeBehind fw_Parser_takeBehind true s x283) (fp_t fp_r (fp_m (fr_Parser_fail (1 : Int32) s) (by decide) (by decide) (by decide))) (fun x283 gx283 => ?_)
                        exact hQ _ gx283
                  · refine q_if Q (fun _ => ?_) (fun _ => ?_)
                    · refine q_if Q (fun _ => ?_) (fun _ => ?_)
                      · refine q_call Q (R := fun (x284 : mS) => fp aw_Parser_takeBehind fw_Parser_takeBehind true s x284) (fp_t fp_r (fp_m (fr_Parser_fail (1 : Int32) s) (by decide) (by decide) (by decide))) (fun x284 gx284 => ?_)
                        exact hQ _ gx284
                      · refine q_call Q (R := fun (x285 : mS) => fp aw_Parser_takeBehind fw_Parser_takeBehind true s x285) (fp_t fp_r (fp_m (fr_Parser_closeLine s (fp_P (show fp aw_Parser_takeBehind fw_Parser_takeBehind true s s from fp_r) hP)) (by decide) (by decide) (by decide))) (fun x285 gx285 => ?_)
                        exact hQ _ gx285
                    · refine q_call Q (R := fun (x286 : mS) => fp aw_Parser_takeBehind fw_Parser_takeBehind true s x286) (fp_t fp_r (fp_m (fr_Parser_fail (1 : Int32) s) (by decide) (by decide) (by decide))) (fun x286 gx286 => ?_)
                      exact hQ _ gx286
              · refine q_call Q (R := fun (x287 : mS) => fp aw_Parser_takeBehind fw_Parser_takeBehind true s x287) (fp_t fp_r (fp_m (fr_Parser_operate (3 : Int32) s (fp_P (show fp aw_Parser_takeBehind fw_Parser_takeBehind true s s from fp_r) hP)) (by decide) (by decide) (by decide))) (fun x287 gx287 => ?_)
                exact hQ _ gx287
            · refine q_if Q (fun _ => ?_) (fun _ => ?_)
              · refine q_if Q (fun _ => ?_) (fun _ => ?_)
                · refine q_if Q (fun _ => ?_) (fun _ => ?_)
                  · refine q_if Q (fun _ => ?_) (fun _ => ?_)
                    · refine q_call Q (R := fun (x288 : mS) => fp aw_Parser_takeBehind fw_Parser_takeBehind true s x288) (fp_t fp_r (fp_m (fr_Parser_unwind (1 : Int32) s (fp_P (show fp aw_Parser_takeBehind fw_Parser_takeBehind true s s from fp_r) hP)) (by decide) (by decide) (by decide))) (fun x288 gx288 => ?_)
                      refine q_call Q (R := mq_A) (fp_P (show fp aw_Parser_takeBehind fw_Parser_takeBehind true s x288 from gx288) hP _) (fun r289 hr289 => ?_)
                      refine q_call Q (R := fun (x290 : mS) => fp aw_Parser_takeBehind fw_Parser_takeBehind true s x290) (fp_t gx288 (fp_m (fr_Act_beginCondition r289 hr289 x288) (by decide) (by decide) (by decide))) (fun x290 gx290 => ?_)
                      exact hQ _ (fp_IF gx290 (by decide))
                    · refine q_if Q (fun _ => ?_) (fun _ => ?_)
                      · refine q_if Q (fun _ => ?_) (fun _ => ?_)
                        · refine q_call Q (R := fun (x291 : mS) => fp aw_Parser_takeBehind fw_Parser_takeBehind true s x291) (fp_t fp_r (fp_m (fr_Parser_fail (1 : Int32) s) (by decide) (by decide) (by decide))) (fun x291 gx291 => ?_)
                          exact hQ _ gx291
                        · refine q_call Q (R := fun (x292 : mS) => fp aw_Parser_takeBehind fw_Parser_takeBehind true s x292) (fp_t fp_r (fp_m (fr_Parser_closeLine s (fp_P (show fp aw_Parser_takeBehind fw_Parser_takeBehind true s s from fp_r) hP)) (by decide) (by decide) (by decide))) (fun x292 gx292 => ?_)
                          exact hQ _ gx292
                      · refine q_call Q (R := fun (x293 : mS) => fp aw_Parser_takeBehind fw_Parser_takeBehind true s x293) (fp_t fp_r (fp_m (fr_Parser_fail (1 : Int32) s) (by decide) (by decide) (by decide))) (fun x293 gx293 => ?_)
                        exact hQ _ gx293
                  · refine q_if Q (fun _ => ?_) (fun _ => ?_)
                    · refine q_if Q (fun _ => ?_) (fun _ => ?_)
                      · refine q_call Q (R := fun (x294 : mS) => fp aw_Parser_takeBehind fw_Parser_takeBehind true s x294) (fp_t fp_r (fp_m (fr_Parser_fail (1 : Int32) s) (by decide) (by decide) (by decide))) (fun x294 gx294 => ?_)
                        exact hQ _ gx294
                      · refine q_call Q (R := fun (x295 : mS) => fp aw_Parser_takeBehind fw_Parser_takeBehind true s x295) (fp_t fp_r (fp_m (fr_Parser_closeLine s (fp_P (show fp aw_Parser_takeBehind fw_Parser_takeBehind true s s from fp_r) hP)) (by decide) (by decide) (by decide))) (fun x295 gx295 => ?_)
                        exact hQ _ gx295
                    · refine q_call Q (R := fun (x296 : mS) => fp aw_Parser_takeBehind fw_Parser_takeBehind true s x296) (fp_t fp_r (fp_m (fr_Parser_fail (1 : Int32) s) (by decide) (by decide) (by decide))) (fun x296 gx296 => ?_)
                      exact hQ _ gx296
                · refine q_call Q (R := fun (x297 : mS) => fp aw_Parser_takeBehind fw_Parser_takeBehind true s x297) (fp_t fp_r (fp_m (fr_Parser_closeBracket s (fp_P (show fp aw_Parser_takeBehind fw_Parser_takeBehind true s s from fp_r) hP)) (by decide) (by decide) (by decide))) (fun x297 gx297 => ?_)
                  exact hQ _ gx297
              · refine q_if Q (fun _ => ?_) (fun _ => ?_)
                · refine q_if Q (fun _ => ?_) (fun _ => ?_)
                  · refine q_call Q (R := fun (x298 : mS) => fp aw_Parser_takeBehind fw_Parser_takeBehind true s x298) (fp_t fp_r (fp_m (fr_Parser_unwind (1 : Int32) s (fp_P (show fp aw_Parser_takeBehind fw_Parser_takeBehind true s s from fp_r) hP)) (by decide) (by decide) (by decide))) (fun x298 gx298 => ?_)
                    refine q_call Q (R := mq_A) (fp_P (show fp aw_Parser_takeBehind fw_Parser_takeBehind true s x298 from gx298) hP _) (fun r299 hr299 => ?_)
                    refine q_call Q (R := fun (x300 : mS) => fp aw_Parser_takeBehind fw_Parser_takeBehind true s x300) (fp_t gx298 (fp_m (fr_Act_beginCondition r299 hr299 x298) (by decide) (by decide) (by decide))) (fun x300 gx300 => ?_)
                    exact hQ _ (fp_IF gx300 (by decide))
                  · refine q_if Q (fun _ => ?_) (fun _ => ?_)
                    · refine q_if Q (fun _ => ?_) (fun _ => ?_)
                      · refine q_call Q (R := fun (x301 : mS) => fp aw_Parser_takeBehind fw_Parser_takeBehind true s x301) (fp_t fp_r (fp_m (fr_Parser_fail (1 : Int32) s) (by decide) (by decide) (by decide))) (fun x301 gx301 => ?_)
                        exact hQ _ gx301
                      · refine q_call Q (R := fun (x302 : mS) => fp aw_Parser_takeBehind fw_Parser_takeBehind true s x302) (fp_t fp_r (fp_m (fr_Parser_closeLine s (fp_P (show fp aw_Parser_takeBehind fw_Parser_takeBehind true s s from fp_r) hP)) (by decide) (by decide) (by decide))) (fun x302 gx302 => ?_)
                        exact hQ _ gx302
                    · refine q_call Q (R := fun (x303 : mS) => fp aw_Parser_takeBehind fw_Parser_takeBehind true s x303) (fp_t fp_r (fp_m (fr_Parser_fail (1 : Int32) s) (by decide) (by decide) (by decide))) (fun x303 gx303 => ?_)
                      exact hQ _ gx303
                · refine q_if Q (fun _ => ?_) (fun _ => ?_)
                  · refine q_if Q (fun _ => ?_) (fun _ => ?_)
                    · refine q_call Q (R := fun (x304 : mS) => fp aw_Parser_takeBehind fw_Parser_takeBehind true s x304) (fp_t fp_r (fp_m (fr_Parser_fail (1 : Int32) s) (by decide) (by decide) (by decide))) (fun x304 gx304 => ?_)
                      exact hQ _ gx304
                    · refine q_call Q (R := fun (x305 : mS) => fp aw_Parser_takeBehind fw_Parser_takeBehind true s x305) (fp_t fp_r (fp_m (fr_Parser_closeLine s (fp_P (show fp aw_Parser_takeBehind fw_Parser_takeBehind true s s from fp_r) hP)) (by decide) (by decide) (by decide))) (fun x305 gx305 => ?_)
                      exact hQ _ gx305
                  · refine q_call Q (R := fun (x306 : mS) => fp aw_Parser_takeBehind fw_Parser_takeBehind true s x306) (fp_t fp_r (fp_m (fr_Parser_fail (1 : Int32) s) (by decide) (by decide) (by decide))) (fun x306 gx306 => ?_)
                    exact hQ _ gx306
        · refine q_if Q (fun _ => ?_) (fun _ => ?_)
          · refine q_call Q (R := fun (x307 : mS) => fp aw_Parser_takeBehind fw_Parser_takeBehind true s x307) (fp_t fp_r (fp_m (fr_Parser_operate (1 : Int32) s (fp_P (show fp aw_Parser_takeBehind fw_Parser_takeBehind true s s from fp_r) hP)) (by decide) (by decide) (by decide))) (fun x307 gx307 => ?_)
            exact hQ _ (fp_IF gx307 (by decide))
          · refine q_if Q (fun _ => ?_) (fun _ => ?_)
            · refine q_if Q (fun _ => ?_) (fun _ => ?_)
              · refine q_if Q (fun _ => ?_) (fun _ => ?_)
                · refine q_if Q (fun _ => ?_) (fun _ => ?_)
                  · refine q_if Q (fun _ => ?_) (fun _ => ?_)
                    · refine q_if Q (fun _ => ?_) (fun _ => ?_)
                      · refine q_call Q (R := fun (x308 : mS) => fp aw_Parser_takeBehind fw_Parser_takeBehind true s x308) (fp_t fp_r (fp_m (fr_Parser_unwind (1 : Int32) s (fp_P (show fp aw_Parser_takeBehind fw_Parser_takeBehind true s s from fp_r) hP)) (by decide) (by decide) (by decide))) (fun x308 gx308 => ?_)
                        refine q_call Q (R := mq_A) (fp_P (show fp aw_Parser_takeBehind fw_Parser_takeBehind true s x308 from gx308) hP _) (fun r309 hr309 => ?_)
                        refine q_call Q (R := fun (x310 : mS) => fp aw_Parser_takeBehind fw_Parser_takeBehind true s x310) (fp_t gx308 (fp_m (fr_Act_beginCondition r309 hr309 x308) (by decide) (by decide) (by decide))) (fun x310 gx310 => ?_)
                        exact hQ _ (fp_IF gx310 (by decide))
                      · refine q_if Q (fun _ => ?_) (fun _ => ?_)
                        · refine q_if Q (fun _ => ?_) (fun _ => ?_)
                          · refine q_call Q (R := fun (x311 : mS) => fp aw_Parser_takeBehind fw_Parser_takeBehind true s x311) (fp_t fp_r (fp_m (fr_Parser_fail (1 : Int32) s) (by decide) (by decide) (by decide))) (fun x311 gx311 => ?_)
                            exact hQ _ gx311
                          · refine q_call Q (R := fun (x312 : mS) => fp aw_Parser_takeBehind fw_Parser_takeBehind true s x312) (fp_t fp_r (fp_m (fr_Parser_closeLine s (fp_P (show fp aw_Parser_takeBehind fw_Parser_takeBehind true s s from fp_r) hP)) (by decide) (by decide) (by decide))) (fun x312 gx312 => ?_)
                            exact hQ _ gx312
                        · refine q_call Q (R := fun (x313 : mS) => fp aw_Parser_takeBehind fw_Parser_takeBehind true s x313) (fp_t fp_r (fp_m (fr_Parser_fail (1 : Int32) s) (by decide) (by decide) (by decide))) (fun x313 gx313 => ?_)
                          exact hQ _ gx313
                    · refine q_if Q (fun _ => ?_) (fun _ => ?_)
                      · refine q_if Q (fun _ => ?_) (fun _ => ?_)
                        · refine q_call Q (R := fun (x314 : mS) => fp aw_Parser_takeBehind fw_Parser_takeBehind true s x314) (fp_t fp_r (fp_m (fr_Parser_fail (1 : Int32) s) (by decide) (by decide) (by decide))) (fun x314 gx314 => ?_)
                          exact hQ _ gx314
                        · refine q_call Q (R := fun (x315 : mS) => fp aw_Parser_takeBehind fw_Parser_takeBehind true s x315) (fp_t fp_r (fp_m (fr_Parser_closeLine s (fp_P (show fp aw_Parser_takeBehind fw_Parser_takeBehind true s s from fp_r) hP)) (by decide) (by decide) (by decide))) (fun x315 gx315 => ?_)
                          exact hQ _ gx315
                      · refine q_call Q (R := fun (x316 : mS) => fp aw_Parser_takeBehind fw_Parser_takeBehind true s x316) (fp_t fp_r (fp_m (fr_Parser_fail (1 : Int32) s) (by decide) (by decide) (by decide))) (fun x316 gx316 => ?_)
                        exact hQ _ gx316
                  · refine q_call Q (R := fun (x317 : mS) => fp aw_Parser_takeBehind fw_Parser_takeBehind true s x317) (fp_t fp_r (fp_m (fr_Parser_closeBracket s (fp_P (show fp aw_Parser_takeBehind fw_Parser_takeBehind true s s from fp_r) hP)) (by decide) (by decide) (by decide))) (fun x317 gx317 => ?_)
                    exact hQ _ gx317
                · refine q_if Q (fun _ => ?_) (fun _ => ?_)
                  · refine q_if Q (fun _ => ?_) (fun _ => ?_)
                    · refine q_call Q (R := fun (x318 : mS) => fp aw_Parser_takeBehind fw_Parser_takeBehind true s x318) (fp_t fp_r (fp_m (fr_Parser_unwind (1 : Int32) s (fp_P (show fp aw_Parser_takeBehind fw_Parser_takeBehind true s s from fp_r) hP)) (by decide) (by decide) (by decide))) (fun x318 gx318 => ?_)
                      refine q_call Q (R := mq_A) (fp_P (show fp aw_Parser_takeBehind fw_Parser_takeBehind true s x318 from gx318) hP _) (fun r319 hr319 => ?_)
                      refine q_call Q (R := fun (x320 : mS) => fp aw_Parser_takeBehind fw_Parser_takeBehind true s x320) (fp_t gx318 (fp_m (fr_Act_beginCondition r319 hr319 x318) (by decide) (by decide) (by decide))) (fun x320 gx320 => ?_)
                      exact hQ _ (fp_IF gx320 (by decide))
                    · refine q_if Q (fun _ => ?_) (fun _ => ?_)
                      · refine q_if Q (fun _ => ?_) (fun _ => ?_)
                        · refine q_call Q (R := fun (x321 : mS) => fp aw_Parser_takeBehind fw_Parser_takeBehind true s x321) (fp_t fp_r (fp_m (fr_Parser_fail (1 : Int32) s) (by decide) (by decide) (by decide))) (fun x321 gx321 => ?_)
                          exact hQ _ gx321
                        · refine q_call Q (R := fun (x322 : mS) => fp aw_Parser_takeBehind fw_Parser_takeBehind true s x322) (fp_t fp_r (fp_m (fr_Parser_closeLine s (fp_P (show fp aw_Parser_takeBehind fw_Parser_takeBehind true s s from fp_r) hP)) (by decide) (by decide) (by decide))) (fun x322 gx322 => ?_)
                          exact hQ _ gx322
                      · refine q_call Q (R := fun (x323 : mS) => fp aw_Parser_takeBehind fw_Parser_takeBehind true s x323) (fp_t fp_r (fp_m (fr_Parser_fail (1 : Int32) s) (by decide) (by decide) (by decide))) (fun x323 gx323 => ?_)
                        exact hQ _ gx323
                  · refine q_if Q (fun _ => ?_) (fun _ => ?_)
                    · refine q_if Q (fun _ => ?_) (fun _ => ?_)
                      · refine q_call Q (R := fun (x324 : mS) => fp aw_Parser_takeBehind fw_Parser_takeBehind true s x324) (fp_t fp_r (fp_m (fr_Parser_fail (1 : Int32) s) (by decide) (by decide) (by decide))) (fun x324 gx324 => ?_)
                        exact hQ _ gx324
                      · refine q_call Q (R := fun (x325 : mS) => fp aw_Parser_takeBehind fw_Parser_takeBehind true s x325) (fp_t fp_r (fp_m (fr_Parser_closeLine s (fp_P (show fp aw_Parser_takeBehind fw_Parser_takeBehind true s s from fp_r) hP)) (by decide) (by decide) (by decide))) (fun x325 gx325 => ?_)
                        exact hQ _ gx325
                    · refine q_call Q (R := fun (x326 : mS) => fp aw_Parser_takeBehind fw_Parser_takeBehind true s x326) (fp_t fp_r (fp_m (fr_Parser_fail (1 : Int32) s) (by decide) (by decide) (by decide))) (fun x326 gx326 => ?_)
                      exact hQ _ gx326
              · refine q_call Q (R := fun (x327 : mS) => fp aw_Parser_takeBehind fw_Parser_takeBehind true s x327) (fp_t fp_r (fp_m (fr_Parser_operate (3 : Int32) s (fp_P (show fp aw_Parser_takeBehind fw_Parser_takeBehind true s s from fp_r) hP)) (by decide) (by decide) (by decide))) (fun x327 gx327 => ?_)
                exact hQ _ gx327
            · refine q_if Q (fun _ => ?_) (fun _ => ?_)
              · refine q_if Q (fun _ => ?_) (fun _ => ?_)
                · refine q_if Q (fun _ => ?_) (fun _ => ?_)
                  · refine q_if Q (fun _ => ?_) (fun _ => ?_)
                    · refine q_if Q (fun _ => ?_) (fun _ => ?_)
                      · refine q_if Q (fun _ => ?_) (fun _ => ?_)
                        · refine q_call Q (R := fun (x328 : mS) => fp aw_Parser_takeBehind fw_Parser_takeBehind true s x328) (fp_t fp_r (fp_m (fr_Parser_unwind (1 : Int32) s (fp_P (show fp aw_Parser_takeBehind fw_Parser_takeBehind true s s from fp_r) hP)) (by decide) (by decide) (by decide))) (fun x328 gx328 => ?_)
                          refine q_call Q (R := mq_A) (fp_P (show fp aw_Parser_takeBehind fw_Parser_takeBehind true s x328 from gx328) hP _) (fun r329 hr329 => ?_)
                          refine q_call Q (R := fun (x330 : mS) => fp aw_Parser_takeBehind fw_Parser_takeBehind true s x330) (fp_t gx328 (fp_m (fr_Act_beginCondition r329 hr329 x328) (by decide) (by decide) (by decide))) (fun x330 gx330 => ?_)
                          exact hQ _ (fp_IF gx330 (by decide))
                        · refine q_if Q (fun _ => ?_) (fun _ => ?_)
                          · refine q_if Q (fun _ => ?_) (fun _ => ?_)
                            · refine q_call Q (R := fun (x331 : mS) => fp aw_Parser_takeBehind fw_Parser_takeBehind true s x331) (fp_t fp_r (fp_m (fr_Parser_fail (1 : Int32) s) (by decide) (by decide) (by decide))) (fun x331 gx331 => ?_)
                              exact hQ _ gx331
                            · refine q_call Q (R := fun (x332 : mS) => fp aw_Parser_takeBehind fw_Parser_takeBehind true s x332) (fp_t fp_r (fp_m (fr_Parser_closeLine s (fp_P (show fp aw_Parser_takeBehind fw_Parser_takeBehind true s s from fp_r) hP)) (by decide) (by decide) (by decide))) (fun x332 gx332 => ?_)
                              exact hQ _ gx332
                          · refine q_call Q (R := fun (x333 : mS) => fp aw_Parser_takeBehind fw_Parser_takeBehind true s x333) (fp_t fp_r (fp_m (fr_Parser_fail (1 : Int32) s) (by decide) (by decide) (by decide))) (fun x333 gx333 => ?_)
                            exact hQ _ gx333
                      · refine q_if Q (fun _ => ?_) (fun _ => ?_)
                        · refine q_if Q (fun _ => ?_) (fun _ => ?_)
                          · refine q_call Q (R := fun (x334 : mS) => fp aw_Parser_takeBehind fw_Parser_takeBehind true s x334) (fp_t fp_r (fp_m (fr_Parser_fail (1 : Int32) s) (by decide) (by decide) (by decide))) (fun x334 gx334 => ?_)
                            exact hQ _ gx334
                          · refine q_call Q (R := fun (x335 : mS) => fp aw_Parser_takeBehind fw_Parser_takeBehind true s x335) (fp_t fp_r (fp_m (fr_Parser_closeLine s (fp_P (show fp aw_Parser_takeBehind fw_Parser_takeBehind true s s from fp_r) hP)) (by decide) (by decide) (by decide))) (fun x335 gx335 => ?_)
                            exact hQ _ gx335
                        · refine q_call Q (R := fun (x336 : mS) => fp aw_Parser_takeBehind fw_Parser_takeBehind true s x336) (fp_t fp_r (fp_m (fr_Parser_fail (1 : Int32) s) (by decide) (by decide) (by decide))) (fun x336 gx336 => ?_)
                          exact hQ _ gx336
                    · refine q_call Q (R := fun (x337 : mS) => fp aw_Parser_takeBehind fw_Parser_takeBehind true s x337) (fp_t fp_r (fp_m (fr_Parser_closeBracket s (fp_P (show fp aw_Parser_takeBehind fw_Parser_takeBehind true s s from fp_r) hP)) (by decide) (by decide) (by decide))) (fun x337 gx337 => ?_)
                      exact hQ _ gx337
                  · refine q_if Q (fun _ => ?_) (fun _ => ?_)
                    · refine q_if Q (fun _ => ?_) (fun _ => ?_)
                      · refine q_call Q (R := fun (x338 : mS) => fp aw_Parser_takeBehind fw_Parser_takeBehind true s x338) (fp_t fp_r (fp_m (fr_Parser_unwind (1 : Int32) s (fp_P (show fp aw_Parser_takeBehind fw_Parser_takeBehind true s s from fp_r) hP)) (by decide) (by decide) (by decide))) (fun x338 gx338 => ?_)
                        refine q_call Q (R := mq_A) (fp_P (show fp aw_Parser_takeBehind fw_Parser_takeBehind true s x338 from gx338) hP _) (fun r339 hr339 => ?_)
                        refine q_call Q (R := fun (x340 : mS) => fp aw_Parser_takeBehind fw_Parser_takeBehind true s x340) (fp_t gx338 (fp_m (fr_Act_beginCondition r339 hr339 x338) (by decide) (by decide) (by decide))) (fun x340 gx340 => ?_)
                        exact hQ _ (fp_IF gx340 (by decide))
                      · refine q_if Q (fun _ => ?_) (fun _ => ?_)
                        · refine q_if Q (fun _ => ?_) (fun _ => ?_)
                          · refine q_call Q (R := fun (x341 : mS) => fp aw_Parser_takeBehind fw_Parser_takeBehind true s x341) (fp_t fp_r (fp_m (fr_Parser_fail (1 : Int32) s) (by decide) (by decide) (by decide))) (fun x341 gx341 => ?_)
                            exact hQ _ gx341
                          · refine q_call Q (R := fun (x342 : mS) => fp aw_Parser_takeBehind fw_Parser_takeBehind true s x342) (fp_t fp_r (fp_m (fr_Parser_closeLine s (fp_P (show fp aw_Parser_takeBehind fw_Parser_takeBehind true s s from fp_r) hP)) (by decide) (by decide) (by decide))) (fun x342 gx342 => ?_)
                            exact hQ _ gx342
                        · refine q_call Q (R := fun (x343 : mS) => fp aw_Parser_takeBehind fw_Parser_takeBehind true s x343) (fp_t fp_r (fp_m (fr_Parser_fail (1 : Int32) s) (by decide) (by decide) (by decide))) (fun x343 gx343 => ?_)
                          exact hQ _ gx343
                    · refine q_if Q (fun _ => ?_) (fun _ => ?_)
                      · refine q_if Q (fun _ => ?_) (fun _ => ?_)
                        · refine q_call Q (R := fun (x344 : mS) => fp aw_Parser_takeBehind fw_Parser_takeBehind true s x344) (fp_t fp_r (fp_m (fr_Parser_fail (1 : Int32) s) (by decide) (by decide) (by decide))) (fun x344 gx344 => ?_)
                          exact hQ _ gx344
                        · refine q_call Q (R := fun (x345 : mS) => fp aw_Parser_takeBehind fw_Parser_takeBehind true s x345) (fp_t fp_r (fp_m (fr_Parser_closeLine s (fp_P (show fp aw_Parser_takeBehind fw_Parser_takeBehind true s s from fp_r) hP)) (by decide) (by decide) (by decide))) (fun x345 gx345 => ?_)
                          exact hQ _ gx345
                      · refine q_call Q (R := fun (x346 : mS) => fp aw_Parser_takeBehind fw_Parser_takeBehind true s x346) (fp_t fp_r (fp_m (fr_Parser_fail (1 : Int32) s) (by decide) (by decide) (by decide))) (fun x346 gx346 => ?_)
                        exact hQ _ gx346
                · refine q_call Q (R := fun (x347 : mS) => fp aw_Parser_takeBehind fw_Parser_takeBehind true s x347) (fp_t fp_r (fp_m (fr_Parser_operate (3 : Int32) s (fp_P (show fp aw_Parser_takeBehind fw_Parser_takeBehind true s s from fp_r) hP)) (by decide) (by decide) (by decide))) (fun x347 gx347 => ?_)
                  exact hQ _ gx347
              · refine q_if Q (fun _ => ?_) (fun _ => ?_)
                · refine q_if Q (fun _ => ?_) (fun _ => ?_)
                  · refine q_if Q (fun _ => ?_) (fun _ => ?_)
                    · refine q_if Q (fun _ => ?_) (fun _ => ?_)
                      · refine q_call Q (R := fun (x348 : mS) => fp aw_Parser_takeBehind fw_Parser_takeBehind true s x348) (fp_t fp_r (fp_m (fr_Parser_unwind (1 : Int32) s (fp_P (show fp aw_Parser_takeBehind fw_Parser_takeBehind true s s from fp_r) hP)) (by decide) (by decide) (by decide))) (fun x348 gx348 => ?_)
                        refine q_call Q (R := mq_A) (fp_P (show fp aw_Parser_takeBehind fw_Parser_takeBehind true s x348 from gx348) hP _) (fun r349 hr349 => ?_)
                        refine q_call Q (R := fun (x350 : mS) => fp aw_Parser_takeBehind fw_Parser_takeBehind true s x350) (fp_t gx348 (fp_m (fr_Act_beginCondition r349 hr349 x348) (by decide) (by decide) (by decide))) (fun x350 gx350 => ?_)
                        exact hQ _ (fp_IF gx350 (by decide))
                      · refine q_if Q (fun _ => ?_) (fun _ => ?_)
                        · refine q_if Q (fun _ => ?_) (fun _ => ?_)
                          · refine q_call Q (R := fun (x351 : mS) => fp aw_Parser_takeBehind fw_Parser_takeBehind true s x351) (fp_t fp_r (fp_m (fr_Parser_fail (1 : Int32) s) (by decide) (by decide) (by decide))) (fun x351 gx351 => ?_)
                            exact hQ _ gx351
                          · refine q_call Q (R := fun (x352 : mS) => fp aw_Parser_takeBehind fw_Parser_takeBehind true s x352) (fp_t fp_r (fp_m (fr_Parser_closeLine s (fp_P (show fp aw_Parser_takeBehind fw_Parser_takeBehind true s s from fp_r) hP)) (by decide) (by decide) (by decide))) (fun x352 gx352 => ?_)
                            exact hQ _ gx352
                        · refine q_call Q (R := fun (x353 : mS) => fp aw_Parser_takeBehind fw_Parser_takeBehind true s x353) (fp_t fp_r (fp_m (fr_Parser_fail (1 : Int32) s) (by decide) (by decide) (by decide))) (fun x353 gx353 => ?_)
                          exact hQ _ gx353
                    · refine q_if Q (fun _ => ?_) (fun _ => ?_)
                      · refine q_if Q (fun _ => ?_) (fun _ => ?_)
                        · refine q_call Q (R := fun (x354 : mS) => fp aw_Parser_takeBehind fw_Parser_takeBehind true s x354) (fp_t fp_r (fp_m (fr_Parser_fail (1 : Int32) s) (by decide) (by decide) (by decide))) (fun x354 gx354 => ?_)
                          exact hQ _ gx354
                        · refine q_call Q (R := fun (x355 : mS) => fp aw_Parser_takeBehind fw_Parser_takeBehind true s x355) (fp_t fp_r (fp_m (fr_Parser_closeLine s (fp_P (show fp aw_Parser_takeBehind fw_Parser_takeBehind true s s from fp_r) hP)) (by decide) (by decide) (by decide))) (fun x355 gx355 => ?_)
                          exact hQ _ gx355
                      · refine q_call Q (R := fun (x356 : mS) => fp aw_Parser_takeBehind fw_Parser_takeBehind true s x356) (fp_t fp_r (fp_m (fr_Parser_fail (1 : Int32) s) (by decide) (by decide) (by decide))) (fun x356 gx356 => ?_)
                        exact hQ _ gx356
                  · refine q_call Q (R := fun (x357 : mS) => fp aw_Parser_takeBehind fw_Parser_takeBehind true s x357) (fp_t fp_r (fp_m (fr_Parser_closeBracket s (fp_P (show fp aw_Parser_takeBehind fw_Parser_takeBehind true s s from fp_r) hP)) (by decide) (by decide) (by decide))) (fun x357 gx357 => ?_)
                    exact hQ _ gx357
                · refine q_if Q (fun _ => ?_) (fun _ => ?_)
                  · refine q_if Q (fun _ => ?_) (fun _ => ?_)
                    · refine q_call Q (R := fun (x358 : mS) => fp aw_Parser_takeBehind fw_Parser_takeBehind true s x358) (fp_t fp_r (fp_m (fr_Parser_unwind (1 : Int32) s (fp_P (show fp aw_Parser_takeBehind fw_Parser_takeBehind true s s from fp_r) hP)) (by decide) (by decide) (by decide))) (fun x358 gx358 => ?_)
                      refine q_call Q (R := mq_A) (fp_P (show fp aw_Parser_takeBehind fw_Parser_takeBehind true s x358 from gx358) hP _) (fun r359 hr359 => ?_)
                      refine q_call Q (R := fun (x360 : mS) => fp aw_Parser_takeBehind fw_Parser_takeBehind true s x360) (fp_t gx358 (fp_m (fr_Act_beginCondition r359 hr359 x358) (by decide) (by decide) (by decide))) (fun x360 gx360 => ?_)
                      exact hQ _ (fp_IF gx360 (by decide))
                    · refine q_if Q (fun _ => ?_) (fun _ => ?_)
                      · refine q_if Q (fun _ => ?_) (fun _ => ?_)
                        · refine q_call Q (R := fun (x361 : mS) => fp aw_Parser_takeBehind fw_Parser_takeBehind true s x361) (fp_t fp_r (fp_m (fr_Parser_fail (1 : Int32) s) (by decide) (by decide) (by decide))) (fun x361 gx361 => ?_)
                          exact hQ _ gx361
                        · refine q_call Q (R := fun (x362 : mS) => fp aw_Parser_takeBehind fw_Parser_takeBehind true s x362) (fp_t fp_r (fp_m (fr_Parser_closeLine s (fp_P (show fp aw_Parser_takeBehind fw_Parser_takeBehind true s s from fp_r) hP)) (by decide) (by decide) (by decide))) (fun x362 gx362 => ?_)
                          exact hQ _ gx362
                      · refine q_call Q (R := fun (x363 : mS) => fp aw_Parser_takeBehind fw_Parser_takeBehind true s x363) (fp_t fp_r (fp_m (fr_Parser_fail (1 : Int32) s) (by decide) (by decide) (by decide))) (fun x363 gx363 => ?_)
                        exact hQ _ gx363
                  · refine q_if Q (fun _ => ?_) (fun _ => ?_)
                    · refine q_if Q (fun _ => ?_) (fun _ => ?_)
                      · refine q_call Q (R := fun (x364 : mS) => fp aw_Parser_takeBehind fw_Parser_takeBehind true s x364) (fp_t fp_r (fp_m (fr_Parser_fail (1 : Int32) s) (by decide) (by decide) (by decide))) (fun x364 gx364 => ?_)
                        exact hQ _ gx364
                      · refine q_call Q (R := fun (x365 : mS) => fp aw_Parser_takeBehind fw_Parser_takeBehind true s x365) (fp_t fp_r (fp_m (fr_Parser_closeLine s (fp_P (show fp aw_Parser_takeBehind fw_Parser_takeBehind true s s from fp_r) hP)) (by decide) (by decide) (by decide))) (fun x365 gx365 => ?_)
                        exact hQ _ gx365
                    · refine q_call Q (R := fun (x366 : mS) => fp aw_Parser_takeBehind fw_Parser_takeBehind true s x366) (fp_t fp_r (fp_m (fr_Parser_fail (1 : Int32) s) (by decide) (by decide) (by decide))) (fun x366 gx366 => ?_)
                      exact hQ _ gx366
    · refine q_if Q (fun _ => ?_) (fun _ => ?_)
      · refine q_if Q (fun _ => ?_) (fun _ => ?_)
        · refine q_if Q (fun _ => ?_) (fun _ => ?_)
          · refine q_if Q (fun _ => ?_) (fun _ => ?_)
            · refine q_if Q (fun _ => ?_) (fun _ => ?_)
              · refine q_if Q (fun _ => ?_) (fun _ => ?_)
                · refine q_if Q (fun _ => ?_) (fun _ => ?_)
                  · refine q_if Q (fun _ => ?_) (fun _ => ?_)
                    · refine q_call Q (R := fun (x367 : mS) => fp aw_Parser_takeBehind fw_Parser_takeBehind true s x367) (fp_t fp_r (fp_m (fr_Parser_unwind (1 : Int32) s (fp_P (show fp aw_Parser_takeBehind fw_Parser_takeBehind true s s from fp_r) hP)) (by decide) (by decide) (by decide))) (fun x367 gx367 => ?_)
                      refine q_call Q (R := mq_A) (fp_P (show fp aw_Parser_takeBehind fw_Parser_takeBehind true s x367 from gx367) hP _) (fun r368 hr368 => ?_)
                      refine q_call Q (R := fun (x369 : mS) => fp aw_Parser_takeBehind fw_Parser_takeBehind true s x369) (fp_t gx367 (fp_m (fr_Act_beginCondition r368 hr368 x367) (by decide) (by decide) (by decide))) (fun x369 gx369 => ?_)
                      exact hQ _ (fp_IF gx369 (by decide))
                    · refine q_if Q (fun _ => ?_) (fun _ => ?_)
                      · refine q_if Q (fun _ => ?_) (fun _ => ?_)
                        · refine q_call Q (R := fun (x370 : mS) => fp aw_Parser_takeBehind fw_Parser_takeBehind true s x370) (fp_t fp_r (fp_m (fr_Parser_fail (1 : Int32) s) (by decide) (by decide) (by decide))) (fun x370 gx370 => ?_)
                          exact hQ _ gx370
                        · refine q_call Q (R := fun (x371 : mS) => fp aw_Parser_takeBehind fw_Parser_takeBehind true s x371) (fp_t fp_r (fp_m (fr_Parser_closeLine s (fp_P (show fp aw_Parser_takeBehind fw_Parser_takeBehind true s s from fp_r) hP)) (by decide) (by decide) (by decide))) (fun x371 gx371 => ?_)
                          exact hQ _ gx371
                      · refine q_call Q (R := fun (x372 : mS) => fp aw_Parser_takeBehind fw_Parser_takeBehind true s x372) (fp_t fp_r (fp_m (fr_Parser_fail (1 : Int32) s) (by decide) (by decide) (by decide))) (fun x372 gx372 => ?_)
                        exact hQ _ gx372
                  · refine q_if Q (fun _ => ?_) (fun _ => ?_)
                    · refine q_if Q (fun _ => ?_) (fun _ => ?_)
                      · refine q_call Q (R := fun (x373 : mS) => fp aw_Parser_takeBehind fw_Parser_takeBehind true s x373) (fp_t fp_r (fp_m (fr_Parser_fail (1 : Int32) s) (by decide) (by decide) (by decide))) (fun x373 gx373 => ?_)
                        exact hQ _ gx373
                      · refine q_call Q (R := fun (x374 : mS) => fp aw_Parser_takeBehind fw_Parser_takeBehind true s x374) (fp_t fp_r (fp_m (fr_Parser_closeLine s (fp_P (show fp aw_Parser_takeBehind fw_Parser_takeBehind true s s from fp_r) hP)) (by decide) (by decide) (by decide))) (fun x374 gx374 => ?_)
                        exact hQ _ gx374
                    · refine q_call Q (R := fun (x375 : mS) => fp aw_Parser_takeBehind fw_Parser_takeBehind true s x375) (fp_t fp_r (fp_m (fr_Parser_fail (1 : Int32) s) (by decide) (by decide) (by decide))) (fun x375 gx375 => ?_)
                      exact hQ _ gx375
                · refine q_call Q (R := fun (x376 : mS) => fp aw_Parser_takeBehind fw_Parser_takeBehind true s x376) (fp_t fp_r (fp_m (fr_Parser_closeBracket s (fp_P (show fp aw_Parser_takeBehind fw_Parser_takeBehind true s s from fp_r) hP)) (by decide) (by decide) (by decide))) (fun x376 gx376 => ?_)
                  exact hQ _ gx376
              · refine q_if Q (fun _ => ?_) (fun _ => ?_)
                · refine q_if Q (fun _ => ?_) (fun _ => ?_)
                  · refine q_call Q (R := fun (x377 : mS) => fp aw_Parser_takeBehind fw_Parser_takeBehind true s x377) (fp_t fp_r (fp_m (fr_Parser_unwind (1 : Int32) s (fp_P (show fp aw_Parser_takeBehind fw_Parser_takeBehind true s s from fp_r) hP)) (by decide) (by decide) (by decide))) (fun x377 gx377 => ?_)
                    refine q_call Q (R := mq_A) (fp_P (show fp aw_Parser_takeBehind fw_Parser_takeBehind true s x377 from gx377) hP _) (fun r378 hr378 => ?_)
                    refine q_call Q (R := fun (x379 : mS) => fp aw_Parser_takeBehind fw_Parser_takeBehind true s x379) (fp_t gx377 (fp_m (fr_Act_beginCondition r378 hr378 x377) (by decide) (by decide) (by decide))) (fun x379 gx379 => ?_)
                    exact hQ _ (fp_IF gx379 (by decide))
                  · refine q_if Q (fun _ => ?_) (fun _ => ?_)
                    · refine q_if Q (fun _ => ?_) (fun _ => ?_)
                      · refine q_call Q (R := fun (x380 : mS) => fp aw_Parser_takeBehind fw_Parser_takeBehind true s x380) (fp_t fp_r (fp_m (fr_Parser_fail (1 : Int32) s) (by decide) (by decide) (by decide))) (fun x380 gx380 => ?_)
                        exact hQ _ gx380
                      · refine q_call Q (R := fun (x381 : mS) => fp aw_Parser_takeBehind fw_Parser_takeBehind true s x381) (fp_t fp_r (fp_m (fr_Parser_closeLine s (fp_P (show fp aw_Parser_takeBehind fw_Parser_takeBehind true s s from fp_r) hP)) (by decide) (by decide) (by decide))) (fun x381 gx381 => ?_)
                        exact hQ _ gx381
                    · refine q_call Q (R := fun (x382 : mS) => fp aw_Parser_takeBehind fw_Parser_takeBehind true s x382) (fp_t fp_r (fp_m (fr_Parser_fail (1 : Int32) s) (by decide) (by decide) (by decide))) (fun x382 gx382 => ?_)
                      exact hQ _ gx382
                · refine q_if Q (fun _ => ?_) (fun _ => ?_)
                  · refine q_if Q (fun _ => ?_) (fun _ => ?_)
                    · refine q_call Q (R := fun (x383 : mS) => fp aw_Parser_takeBehind fw_Parser_takeBehind true s x383) (fp_t fp_r (fp_m (fr_Parser_fail (1 : Int32) s) (by decide) (by decide) (by decide))) (fun x383 gx383 => ?_)
                      exact hQ _ gx383
                    · refine q_call Q (R := fun (x384 : mS) => fp aw_Parser_takeBehind fw_Parser_takeBehind true s x384) (fp_t fp_r (fp_m (fr_Parser_closeLine s (fp_P (show fp aw_Parser_takeBehind fw_Parser_takeBehind true s s from fp_r) hP)) (by decide) (by decide) (by decide))) (fun x384 gx384 => ?_)
                      exact hQ _ gx384
                  · refine q_call Q (R := fun (x385 : mS) => fp aw_Parser_takeBehind fw_Parser_takeBehind true s x385) (fp_t fp_r (fp_m (fr_Parser_fail (1 : Int32) s) (by decide) (by decide) (by decide))) (fun x385 gx385 => ?_)
                    exact hQ _ gx385
            · refine q_call Q (R := fun (x386 : mS) => fp aw_Parser_takeBehind fw_Parser_takeBehind true s x386) (fp_t fp_r (fp_m (fr_Parser_operate (3 : Int32) s (fp_P (show fp aw_Parser_takeBehind fw_Parser_takeBehind true s s from fp_r) hP)) (by decide) (by decide) (by decide))) (fun x386 gx386 => ?_)
              exact hQ _ gx386
          · refine q_if Q (fun _ => ?_) (fun _ => ?_)
            · refine q_if Q (fun _ => ?_) (fun _ => ?_)
              · refine q_if Q (fun _ => ?_) (fun _ => ?_)
                · refine q_if Q (fun _ => ?_) (fun _ => ?_)
                  · refine q_if Q (fun _ => ?_) (fun _ => ?_)
                    · refine q_if Q (fun _ => ?_) (fun _ => ?_)
                      · refine q_call Q (R := fun (x387 : mS) => fp aw_Parser_takeBehind fw_Parser_takeBehind true s x387) (fp_t fp_r (fp_m (fr_Parser_unwind (1 : Int32) s (fp_P (show fp aw_Parser_takeBehind fw_Parser_takeBehind true s s from fp_r) hP)) (by decide) (by decide) (by decide))) (fun x387 gx387 => ?_)
                        refine q_call Q (R := mq_A) (fp_P (show fp aw_Parser_takeBehind fw_Parser_takeBehind true s x387 from gx387) hP _) (fun r388 hr388 => ?_)
                        refine q_call Q (R := fun (x389 : mS) => fp aw_Parser_takeBehind fw_Parser_takeBehind true s x389) (fp_t gx387 (fp_m (fr_Act_beginCondition r388 hr388 x387) (by decide) (by decide) (by decide))) (fun x389 gx389 => ?_)
                        exact hQ _ (fp_IF gx389 (by decide))
                      · refine q_if Q (fun _ => ?_) (fun _ => ?_)
                        · refine q_if Q (fun _ => ?_) (fun _ => ?_)
                          · refine q_call Q (R := fun (x390 : mS) => fp aw_Parser_takeBehind fw_Parser_takeBehind true s x390) (fp_t fp_r (fp_m (fr_Parser_fail (1 : Int32) s) (by decide) (by decide) (by decide))) (fun x390 gx390 => ?_)
                            exact hQ _ gx390
                          · refine q_call Q (R := fun (x391 : mS) => fp aw_Parser_takeBehind fw_Parser_takeBehind true s x391) (fp_t fp_r (fp_m (fr_Parser_closeLine s (fp_P (show fp aw_Parser_takeBehind fw_Parser_takeBehind true s s from fp_r) hP)) (by decide) (by decide) (by decide))) (fun x391 gx391 => ?_)
                            exact hQ _ gx391
                        · refine q_call Q (R := fun (x392 : mS) => fp aw_Parser_takeBehind fw_Parser_takeBehind true s x392) (fp_t fp_r (fp_m (fr_Parser_fail (1 : Int32) s) (by decide) (by decide) (by decide))) (fun x392 gx392 => ?_)
                          exact hQ _ gx392
                    · refine q_if Q (fun _ => ?_) (fun _ => ?_)
                      · refine q_if Q (fun _ => ?_) (fun _ => ?_)
                        · refine q_call Q (R := fun (x393 : mS) => fp aw_Parser_takeBehind fw_Parser_takeBehind true s x393) (fp_t fp_r (fp_m (fr_Parser_fail (1 : Int32) s) (by decide) (by decide) (by decide))) (fun x393 gx393 => ?_)
                          exact hQ _ gx393
                        · refine q_call Q (R := fun (x394 : mS) => fp aw_Parser_takeBehind fw_Parser_takeBehind true s x394) (fp_t fp_r (fp_m (fr_Parser_closeLine s (fp_P (show fp aw_Parser_takeBehind fw_Parser_takeBehind true s s from fp_r) hP)) (by decide) (by decide) (by decide))) (fun x394 gx394 => ?_)
                          exact hQ _ gx394
                      · refine q_call Q (R := fun (x395 : mS) => fp aw_Parser_takeBehind fw_Parser_takeBehind true s x395) (fp_t fp_r (fp_m (fr_Parser_fail (1 : Int32) s) (by decide) (by decide) (by decide))) (fun x395 gx395 => ?_)
                        exact hQ _ gx395
                  · refine q_call Q (R := fun (x396 : mS) => fp aw_Parser_takeBehind fw_Parser_takeBehind true s x396) (fp_t fp_r (fp_m (fr_Parser_closeBracket s (fp_P (show fp aw_Parser_takeBehind fw_Parser_takeBehind true s s from fp_r) hP)) (by decide) (by decide) (by decide))) (fun x396 gx396 => ?_)
                    exact hQ _ gx396
                · refine q_if Q (fun _ => ?_) (fun _ => ?_)
                  · refine q_if Q (fun _ => ?_) (fun _ => ?_)
                    · refine q_call Q (R := fun (x397 : mS) => fp aw_Parser_takeBehind fw_Parser_takeBehind true s x397) (fp_t fp_r (fp_m (fr_Parser_unwind (1 : Int32) s (fp_P (show fp aw_Parser_takeBehind fw_Parser_takeBehind true s s from fp_r) hP)) (by decide) (by decide) (by decide))) (fun x397 gx397 => ?_)
                      refine q_call Q (R := mq_A) (fp_P (show fp aw_Parser_takeBehind fw_Parser_takeBehind true s x397 from gx397) hP _) (fun r398 hr398 => ?_)
                      refine q_call Q (R := fun (x399 : mS) => fp aw_Parser_takeBehind fw_Parser_takeBehind true s x399) (fp_t gx397 (fp_m (fr_Act_beginCondition r398 hr398 x397) (by decide) (by decide) (by decide))) (fun x399 gx399 => ?_)
                      exact hQ _ (fp_IF gx399 (by decide))
                    · refine q_if Q (fun _ => ?_) (fun _ => ?_)
                      · refine q_if Q (fun _ => ?_) (fun _ => ?_)
                        · refine q_call Q (R := fun (x400 : mS) => fp aw_Parser_takeBehind fw_Parser_takeBehind true s x400) (fp_t fp_r (fp_m (fr_Parser_fail (1 : Int32) s) (by decide) (by decide) (by decide))) (fun x400 gx400 => ?_)
                          exact hQ _ gx400
                        · refine q_call Q (R := fun (x401 : mS) => fp aw_Parser_takeBehind fw_Parser_takeBehind true s x401) (fp_t fp_r (fp_m (fr_Parser_closeLine s (fp_P (show fp aw_Parser_takeBehind fw_Parser_takeBehind true s s from fp_r) hP)) (by decide) (by decide) (by decide))) (fun x401 gx401 => ?_)
                          exact hQ _ gx401
                      · refine q_call Q (R := fun (x402 : mS) => fp aw_Parser_takeBehind fw_Parser_takeBehind true s x402) (fp_t fp_r (fp_m (fr_Parser_fail (1 : Int32) s) (by decide) (by decide) (by decide))) (fun x402 gx402 => ?_)
                        exact hQ _ gx402
                  · refine q_if Q (fun _ => ?_) (fun _ => ?_)
                    · refine q_if Q (fun _ => ?_) (fun _ => ?_)
                      · refine q_call Q (R := fun (x403 : mS) => fp aw_Parser_takeBehind fw_Parser_takeBehind true s x403) (fp_t fp_r (fp_m (fr_Parser_fail (1 : Int32) s) (by decide) (by decide) (by decide))) (fun x403 gx403 => ?_)
                        exact hQ _ gx403
                      · refine q_call Q (R := fun (x404 : mS) => fp aw_Parser_takeBehind fw_Parser_takeBehind true s x404) (fp_t fp_r (fp_m (fr_Parser_closeLine s (fp_P (show fp aw_Parser_takeBehind fw_Parser_takeBehind true s s from fp_r) hP)) (by decide) (by decide) (by decide))) (fun x404 gx404 => ?_)
                        exact hQ _ gx404
                    · refine q_call Q (R := fun (x405 : mS) => fp aw_Parser_takeBehind fw_Parser_takeBehind true s x405) (fp_t fp_r (fp_m (fr_Parser_fail (1 : Int32) s) (by decide) (by decide) (by decide))) (fun x405 gx405 => ?_)
                      exact hQ _ gx405
              · refine q_call Q (R := fun (x406 : mS) => fp aw_Parser_takeBehind fw_Parser_takeBehind true s x406) (fp_t fp_r (fp_m (fr_Parser_operate (3 : Int32) s (fp_P (show fp aw_Parser_takeBehind fw_Parser_takeBehind true s s from fp_r) hP)) (by decide) (by decide) (by decide))) (fun x406 gx406 => ?_)
                exact hQ _ gx406
            · refine q_if Q (fun _ => ?_) (fun _ => ?_)
              · refine q_if Q (fun _ => ?_) (fun _ => ?_)
                · refine q_if Q (fun _ => ?_) (fun _ => ?_)
                  · refine q_if Q (fun _ => ?_) (fun _ => ?_)
                    · refine q_call Q (R := fun (x407 : mS) => fp aw_Parser_takeBehind fw_Parser_takeBehind true s x407) (fp_t fp_r (fp_m (fr_Parser_unwind (1 : Int32) s (fp_P (show fp aw_Parser_takeBehind fw_Parser_takeBehind true s s from fp_r) hP)) (by decide) (by decide) (by decide))) (fun x407 gx407 => ?_)
                      refine q_call Q (R := mq_A) (fp_P (show fp aw_Parser_takeBehind fw_Parser_takeBehind true s x407 from gx407) hP _) (fun r408 hr408 => ?_)
                      refine q_call Q (R := fun (x409 : mS) => fp aw_Parser_takeBehind fw_Parser_takeBehind true s x409) (fp_t gx407 (fp_m (fr_Act_beginCondition r408 hr408 x407) (by decide) (by decide) (by decide))) (fun x409 gx409 => ?_)
                      exact hQ _ (fp_IF gx409 (by decide))
                    · refine q_if Q (fun _ => ?_) (fun _ => ?_)
                      · refine q_if Q (fun _ => ?_) (fun _ => ?_)
                        · refine q_call Q (R := fun (x410 : mS) => fp aw_Parser_takeBehind fw_Parser_takeBehind true s x410) (fp_t fp_r (fp_m (fr_Parser_fail (1 : Int32) s) (by decide) (by decide) (by decide))) (fun x410 gx410 => ?_)
                          exact hQ _ gx410
                        · refine q_call Q (R := fun (x411 : mS) => fp aw_Parser_takeBehind fw_Parser_takeBehind true s x411) (fp_t fp_r (fp_m (fr_Parser_closeLine s (fp_P (show fp aw_Parser_takeBehind fw_Parser_takeBehind true s s from fp_r) hP)) (by decide) (by decide) (by decide))) (fun x411 gx411 => ?_)
                          exact hQ _ gx411
                      · refine q_call Q (R := fun (x412 : mS) => fp aw_Parser_takeBehind fw_Parser_takeBehind true s x412) (fp_t fp_r (fp_m (fr_Parser_fail (1 : Int32) s) (by decide) (by decide) (by decide))) (fun x412 gx412 => ?_)
                        exact hQ _ gx412
                  · refine q_if Q (fun _ => ?_) (fun _ => ?_)
                    · refine q_if Q (fun _ => ?_) (fun _ => ?_)
                      · refine q_call Q (R := fun (x413 : mS) => fp aw_Parser_takeBehind fw_Parser_takeBehind true s x413) (fp_t fp_r (fp_m (fr_Parser_fail (1 : Int32) s) (by decide) (by decide) (by decide))) (fun x413 gx413 => ?_)
                        exact hQ _ gx413
                      · refine q_call Q (R := fun (x414 : mS) => fp aw_Parser_takeBehind fw_Parser_takeBehind true s x414) (fp_t fp_r (fp_m (fr_Parser_closeLine s (fp_P (show fp aw_Parser_takeBehind fw_Parser_takeBehind true s s from fp_r) hP)) (by decide) (by decide) (by decide))) (fun x414 gx414 => ?_)
                        exact hQ _ gx414
                    · refine q_call Q (R := fun (x415 : mS) => fp aw_Parser_takeBehind fw_Parser_takeBehind true s x415) (fp_t fp_r (fp_m (fr_Parser_fail (1 : Int32) s) (by decide) (by decide) (by decide))) (fun x415 gx415 => ?_)
                      exact hQ _ gx415
                · refine q_call Q (R := fun (x416 : mS) => fp aw_Parser_takeBehind fw_Parser_takeBehind true s x416) (fp_t fp_r (fp_m (fr_Parser_closeBracket s (fp_P (show fp aw_Parser_takeBehind fw_Parser_takeBehind true s s from fp_r) hP)) (by decide) (by decide) (by decide))) (fun x416 gx416 => ?_)
                  exact hQ _ gx416
              · refine q_if Q (fun _ => ?_) (fun _ => ?_)
                · refine q_if Q (fun _ => ?_) (fun _ => ?_)
                  · refine q_call Q (R := fun (x417 : mS) => fp aw_Parser_takeBehind fw_Parser_takeBehind true s x417) (fp_t fp_r (fp_m (fr_Parser_unwind (1 : Int32) s (fp_P (show fp aw_Parser_takeBehind fw_Parser_takeBehind true s s from fp_r) hP)) (by decide) (by decide) (by decide))) (fun x417 gx417 => ?_)
                    refine q_call Q (R := mq_A) (fp_P (show fp aw_Parser_takeBehind fw_Parser_takeBehind true s x417 from gx417) hP _) (fun r418 hr418 => ?_)
                    refine q_call Q (R := fun (x419 : mS) => fp aw_Parser_takeBehind fw_Parser_takeBehind true s x419) (fp_t gx417 (fp_m (fr_Act_beginCondition r418 hr418 x417) (by decide) (by decide) (by decide))) (fun x419 gx419 => ?_)
                    exact hQ _ (fp_IF gx419 (by decide))
                  · refine q_if Q (fun _ => ?_) (fun _ => ?_)
                    · refine q_if Q (fun _ => ?_) (fun _ => ?_)
                      · refine q_call Q (R := fun (x420 : mS) => fp aw_Parser_takeBehind fw_Parser_takeBehind true s x420) (fp_t fp_r (fp_m (fr_Parser_fail (1 : Int32) s) (by decide) (by decide) (by decide))) (fun x420 gx420 => ?_)
                        exact hQ _ gx420
                      · refine q_call Q (R := fun (x421 : mS) => fp aw_Parser_takeBehind fw_Parser_takeBehind true s x421) (fp_t fp_r (fp_m (fr_Parser_closeLine s (fp_P (show fp aw_Parser_takeBehind fw_Parser_takeBehind true s s from fp_r) hP)) (by decide) (by decide) (by decide))) (fun x421 gx421 => ?_)
                        exact hQ _ gx421
                    · refine q_call Q (R := fun (x422 : mS) => fp aw_Parser_takeBehind fw_Parser_takeBehind true s x422) (fp_t fp_r (fp_m (fr_Parser_fail (1 : Int32) s) (by decide) (by decide) (by decide))) (fun x422 gx422 => ?_)
                      exact hQ _ gx422
                · refine q_if Q (fun _ => ?_) (fun _ => ?_)
                  · refine q_if Q (fun _ => ?_) (fun _ => ?_)
                    · refine q_call Q (R := fun (x423 : mS) => fp aw_Parser_takeBehind fw_Parser_takeBehind true s x423) (fp_t fp_r (fp_m (fr_Parser_fail (1 : Int32) s) (by decide) (by decide) (by decide))) (fun x423 gx423 => ?_)
                      exact hQ _ gx423
                    · refine q_call Q (R := fun (x424 : mS) => fp aw_Parser_takeBehind fw_Parser_takeBehind true s x424) (fp_t fp_r (fp_m (fr_Parser_closeLine s (fp_P (show fp aw_Parser_takeBehind fw_Parser_takeBehind true s s from fp_r) hP)) (by decide) (by decide) (by decide))) (fun x424 gx424 => ?_)
                      exact hQ _ gx424
                  · refine q_call Q (R := fun (x425 : mS) => fp aw_Parser_takeBehind fw_Parser_takeBehind true s x425) (fp_t fp_r (fp_m (fr_Parser_fail (1 : Int32) s) (by decide) (by decide) (by decide))) (fun x425 gx425 => ?_)
                    exact hQ _ gx425
        · refine q_if Q (fun _ => ?_) (fun _ => ?_)
          · refine q_if Q (fun _ => ?_) (fun _ => ?_)
            · refine q_if Q (fun _ => ?_) (fun _ => ?_)
              · refine q_if Q (fun _ => ?_) (fun _ => ?_)
                · refine q_if Q (fun _ => ?_) (fun _ => ?_)
                  · refine q_if Q (fun _ => ?_) (fun _ => ?_)
                    · refine q_if Q (fun _ => ?_) (fun _ => ?_)
                      · refine q_call Q (R := fun (x426 : mS) => fp aw_Parser_takeBehind fw_Parser_takeBehind true s x426) (fp_t fp_r (fp_m (fr_Parser_unwind (1 : Int32) s (fp_P (show fp aw_Parser_takeBehind fw_Parser_takeBehind true s s from fp_r) hP)) (by decide) (by decide) (by decide))) (fun x426 gx426 => ?_)
                        refine q_call Q (R := mq_A) (fp_P (show fp aw_Parser_takeBehind fw_Parser_takeBehind true s x426 from gx426) hP _) (fun r427 hr427 => ?_)
                        refine q_call Q (R := fun (x428 : mS) => fp aw_Parser_takeBehind fw_Parser_takeBehind true s x428) (fp_t gx426 (fp_m (fr_Act_beginCondition r427 hr427 x426) (by decide) (by decide) (by decide))) (fun x428 gx428 => ?_)
                        exact hQ _ (fp_IF gx428 (by decide))
                      · refine q_if Q (fun _ => ?_) (fun _ => ?_)
                        · refine q_if Q (fun _ => ?_) (fun _ => ?_)
                          · refine q_call Q (R := fun (x429 : mS) => fp aw_Parser_takeBehind fw_Parser_takeBehind true s x429) (fp_t fp_r (fp_m (fr_Parser_fail (1 : Int32) s) (by decide) (by decide) (by decide))) (fun x429 gx429 => ?_)
                            exact hQ _ gx429
                          · refine q_call Q (R := fun (x430 : mS) => fp aw_Parser_takeBehind fw_Parser_takeBehind true s x430) (fp_t fp_r (fp_m (fr_Parser_closeLine s (fp_P (show fp aw_Parser_takeBehind fw_Parser_takeBehind true s s from fp_r) hP)) (by decide) (by decide) (by decide))) (fun x430 gx430 => ?_)
                            exact hQ _ gx430
                        · refine q_call Q (R := fun (x431 : mS) => fp aw_Parser_takeBehind fw_Parser_takeBehind true s x431) (fp_t fp_r (fp_m (fr_Parser_fail (1 : Int32) s) (by decide) (by decide) (by decide))) (fun x431 gx431 => ?_)
                          exact hQ _ gx431
                    · refine q_if Q (fun _ => ?_) (fun _ => ?_)
                      · refine q_if Q (fun _ => ?_) (fun _ => ?_)
                        · refine q_call Q (R := fun (x432 : mS) => fp aw_Parser_takeBehind fw_Parser_takeBehind true s x432) (fp_t fp_r (fp_m (fr_Parser_fail (1 : Int32) s) (by decide) (by decide) (by decide))) (fun x432 gx432 => ?_)
                          exact hQ _ gx432
                        · refine q_call Q (R := fun (x433 : mS) => fp aw_Parser_takeBehind fw_Parser_takeBehind true s x433) (fp_t fp_r (fp_m (fr_Parser_closeLine s (fp_P (show fp aw_Parser_takeBehind fw_Parser_takeBehind true s s from fp_r) hP)) (by decide) (by decide) (by decide))) (fun x433 gx433 => ?_)
                          exact hQ _ gx433
                      · refine q_call Q (R := fun (x434 : mS) => fp aw_Parser_takeBehind fw_Parser_takeBehind true s x434) (fp_t fp_r (fp_m (fr_Parser_fail (1 : Int32) s) (by decide) (by decide) (by decide))) (fun x434 gx434 => ?_)
                        exact hQ _ gx434
                  · refine q_call Q (R := fun (x435 : mS) => fp aw_Parser_takeBehind fw_Parser_takeBehind true s x435) (fp_t fp_r (fp_m (fr_Parser_closeBracket s (fp_P (show fp aw_Parser_takeBehind fw_Parser_takeBehind true s s from fp_r) hP)) (by decide) (by decide) (by decide))) (fun x435 gx435 => ?_)
                    exact hQ _ gx435
                · refine q_if Q (fun _ => ?_) (fun _ => ?_)
                  · refine q_if Q (fun _ => ?_) (fun _ => ?_)
                    · refine q_call Q (R := fun (x436 : mS) => fp aw_Parser_takeBehind fw_Parser_takeBehind true s x436) (fp_t fp_r (fp_m (fr_Parser_unwind (1 : Int32) s (fp_P (show fp aw_Parser_takeBehind fw_Parser_takeBehind true s s from fp_r) hP)) (by decide) (by decide) (by decide))) (fun x436 gx436 => ?_)
                      refine q_call Q (R := mq_A) (fp_P (show fp aw_Parser_takeBehind fw_Parser_takeBehind true s x436 from gx436) hP _) (fun r437 hr437 => ?_)
                      refine q_call Q (R := fun (x438 : mS) => fp aw_Parser_takeBehind fw_Parser_takeBehind true s x438) (fp_t gx436 (fp_m (fr_Act_beginCondition r437 hr437 x436) (by decide) (by decide) (by decide))) (fun x438 gx438 => ?_)
                      exact hQ _ (fp_IF gx438 (by decide))
                    · refine q_if Q (fun _ => ?_) (fun _ => ?_)
                      · refine q_if Q (fun _ => ?_) (fun _ => ?_)
                        · refine q_call Q (R := fun (x439 : mS) => fp aw_Parser_takeBehind fw_Parser_takeBehind true s x439) (fp_t fp_r (fp_m (fr_Parser_fail (1 : Int32) s) (by decide) (by decide) (by decide))) (fun x439 gx439 => ?_)
                          exact hQ _ gx439
                        · refine q_call Q (R := fun (x440 : mS) => fp aw_Parser_takeBehind fw_Parser_takeBehind true s x440) (fp_t fp_r (fp_m (fr_Parser_closeLine s (fp_P (show fp aw_Parser_takeBehind fw_Parser_takeBehind true s s from fp_r) hP)) (by decide) (by decide) (by decide))) (fun x440 gx440 => ?_)
                          exact hQ _ gx440
                      · refine q_call Q (R := fun (x441 : mS) => fp aw_Parser_takeBehind fw_Parser_takeBehind true s x441) (fp_t fp_r (fp_m (fr_Parser_fail (1 : Int32) s) (by decide) (by decide) (by decide))) (fun x441 gx441 => ?_)
                        exact hQ _ gx441
                  · refine q_if Q (fun _ => ?_) (fun _ => ?_)
                    · refine q_if Q (fun _ => ?_) (fun _ => ?_)
                      · refine q_call Q (R := fun (x442 : mS) => fp aw_Parser_takeBehind fw_Parser_takeBehind true s x442) (fp_t fp_r (fp_m (fr_Parser_fail (1 : Int32) s) (by decide) (by decide) (by decide))) (fun x442 gx442 => ?_)
                        exact hQ _ gx442
                      · refine q_call Q (R := fun (x443 : mS) => fp aw_Parser_takeBehind fw_Parser_takeBehind true s x443) (fp_t fp_r (fp_m (fr_Parser_closeLine s (fp_P (show fp aw_Parser_takeBehind fw_Parser_takeBehind true s s from fp_r) hP)) (by decide) (by decide) (by decide))) (fun x443 gx443 => ?_)
                        exact hQ _ gx443
                    · refine q_call Q (R := fun (x444 : mS) => fp aw_Parser_takeBehind fw_Parser_takeBehind true s x444) (fp_t fp_r (fp_m (fr_Parser_fail (1 : Int32) s) (by decide) (by decide) (by decide))) (fun x444 gx444 => ?_)
                      exact hQ _ gx444
              · refine q_call Q (R := fun (x445 : mS) => fp aw_Parser_takeBehind fw_Parser_takeBehind true s x445) (fp_t fp_r (fp_m (fr_Parser_operate (3 : Int32) s (fp_P (show fp aw_Parser_takeBehind fw_Parser_takeBehind true s s from fp_r) hP)) (by decide) (by decide) (by decide))) (fun x445 gx445 => ?_)
                exact hQ _ gx445
            · refine q_if Q (fun _ => ?_) (fun _ => ?_)
              · refine q_if Q (fun _ => ?_) (fun _ => ?_)
                · refine q_if Q (fun _ => ?_) (fun _ => ?_)
                  · refine q_if Q (fun _ => ?_) (fun _ => ?_)
                    · refine q_if Q (fun _ => ?_) (fun _ => ?_)
                      · refine q_if Q (fun _ => ?_) (fun _ => ?_)
                        · refine q_call Q (R := fun (x446 : mS) => fp aw_Parser_takeBehind fw_Parser_takeBehind true s x446) (fp_t fp_r (fp_m (fr_Parser_unwind (1 : Int32) s (fp_P (show fp aw_Parser_takeBehind fw_Parser_takeBehind true s s from fp_r) hP)) (by decide) (by decide) (by decide))) (fun x446 gx446 => ?_)
                          refine q_call Q (R := mq_A) (fp_P (show fp aw_Parser_takeBehind fw_Parser_takeBehind true s x446 from gx446) hP _) (fun r447 hr447 => ?_)
                          refine q_call Q (R := fun (x448 : mS) => fp aw_Parser_takeBehind fw_Parser_takeBehind true s x448) (fp_t gx446 (fp_m (fr_Act_beginCondition r447 hr447 x446) (by decide) (by decide) (by decide))) (fun x448 gx448 => ?_)
                          exact hQ _ (fp_IF gx448 (by decide))
                        · refine q_if Q (fun _ => ?_) (fun _ => ?_)
                          · refine q_if Q (fun _ => ?_) (fun _ => ?_)
                            · refine q_call Q (R := fun (x449 : mS) => fp aw_Parser_takeBehind fw_Parser_takeBehind true s x449) (fp_t fp_r (fp_m (fr_Parser_fail (1 : Int32) s) (by decide) (by decide) (by decide))) (fun x449 gx449 => ?_)
                              exact hQ _ gx449
                            · refine q_call Q (R := fun (x450 : mS) => fp aw_Parser_takeBehind fw_Parser_takeBehind true s x450) (fp_t fp_r (fp_m (fr_Parser_closeLine s (fp_P (show fp aw_Parser_takeBehind fw_Parser_takeBehind true s s from fp_r) hP)) (by decide) (by decide) (by decide))) (fun x450 gx450 => ?_)
                              exact hQ _ gx450
                          · refine q_call Q (R := fun (x451 : mS) => fp aw_Parser_takeBehind fw_Parser_takeBehind true s x451) (fp_t fp_r (fp_m (fr_Parser_fail (1 : Int32) s) (by decide) (by decide) (by decide))) (fun x451 gx451 => ?_)
                            exact hQ _ gx451
                      · refine q_if Q (fun _ => ?_) (fun _ => ?_)
                        · refine q_if Q (fun _ => ?_) (fun _ => ?_)
                          · refine q_call Q (R := fun (x452 : mS) => fp aw_Parser_takeBehind fw_Parser_takeBehind true s x452) (fp_t fp_r (fp_m (fr_Parser_fail (1 : Int32) s) (by decide) (by decide) (by decide))) (fun x452 gx452 => ?_)
                            exact hQ _ gx452
                          · refine q_call Q (R := fun (x453 : mS) => fp aw_Parser_takeBehind fw_Parser_takeBehind true s x453) (fp_t fp_r (fp_m (fr_Parser_closeLine s (fp_P (show fp aw_Parser_takeBehind fw_Parser_takeBehind true s s from fp_r) hP)) (by decide) (by decide) (by decide))) (fun x453 gx453 => ?_)
                            exact hQ _ gx453
                        · refine q_call Q (R := fun (x454 : mS) => fp aw_Parser_takeBehind fw_Parser_takeBehind true s x454) (fp_t fp_r (fp_m (fr_Parser_fail (1 : Int32) s) (by decide) (by decide) (by decide))) (fun x454 gx454 => ?_)
                          exact hQ _ gx454
                    · refine q_call Q (R := fun (x455 : mS) => fp aw_Parser_takeBehind fw_Parser_takeBehind true s x455) (fp_t fp_r (fp_m (fr_Parser_closeBracket s (fp_P (show fp aw_Parser_takeBehind fw_Parser_takeBehind true s s from fp_r) hP)) (by decide) (by decide) (by decide))) (fun x455 gx455 => ?_)
                      exact hQ _ gx455
                  · refine q_if Q (fun _ => ?_) (fun _ => ?_)
                    · refine q_if Q (fun _ => ?_) (fun _ => ?_)
                      · refine q_call Q (R := fun (x456 : mS) => fp aw_Parser_takeBehind fw_Parser_takeBehind true s x456) (fp_t fp_r (fp_m (fr_Parser_unwind (1 : Int32) s (fp_P (show fp aw_Parser_takeBehind fw_Parser_takeBehind true s s from fp_r) hP)) (by decide) (by decide) (by decide))) (fun x456 gx456 => ?_)
                        refine q_call Q (R := mq_A) (fp_P (show fp aw_Parser_takeBehind fw_Parser_takeBehind true s x456 from gx456) hP _) (fun r457 hr457 => ?_)
                        refine q_call Q (R := fun (x458 : mS) => fp aw_Parser_takeBehind fw_Parser_takeBehind true s x458) (fp_t gx456 (fp_m (fr_Act_beginCondition r457 hr457 x456) (by decide) (by decide) (by decide))) (fun x458 gx458 => ?_)
                        exact hQ _ (fp_IF gx458 (by decide))
                      · refine q_if Q (fun _ => ?_) (fun _ => ?_)
                        · refine q_if Q (fun _ => ?_) (fun _ => ?_)
                          · refine q_call Q (R := fun (x459 : mS) => fp aw_Parser_takeBehind fw_Parser_takeBehind true s x459) (fp_t fp_r (fp_m (fr_Parser_fail (1 : Int32) s) (by decide) (by decide) (by decide))) (fun x459 gx459 => ?_)
                            exact hQ _ gx459
                          · refine q_call Q (R := fun (x460 : mS) => fp aw_Parser_takeBehind fw_Parser_takeBehind true s x460) (fp_t fp_r (fp_m (fr_Parser_closeLine s (fp_P (show fp aw_Parser_takeBehind fw_Parser_takeBehind true s s from fp_r) hP)) (by decide) (by decide) (by decide))) (fun x460 gx460 => ?_)
                            exact hQ _ gx460
                        · refine q_call Q (R := fun (x461 : mS) => fp aw_Parser_takeBehind fw_Parser_takeBehind true s x461) (fp_t fp_r (fp_m (fr_Parser_fail (1 : Int32) s) (by decide) (by decide) (by decide))) (fun x461 gx461 => ?_)
                          exact hQ _ gx461
                    · refine q_if Q (fun _ => ?_) (fun _ => ?_)
                      · refine q_if Q (fun _ => ?_) (fun _ => ?_)
                        · refine q_call Q (R := fun (x462 : mS) => fp aw_Parser_takeBehind fw_Parser_takeBehind true s x462) (fp_t fp_r (fp_m (fr_Parser_fail (1 : Int32) s) (by decide) (by decide) (by decide))) (fun x462 gx462 => ?_)
                          exact hQ _ gx462
                        · refine q_call Q (R := fun (x463 : mS) => fp aw_Parser_takeBehind fw_Parser_takeBehind true s x463) (fp_t fp_r (fp_m (fr_Parser_closeLine s (fp_P (show fp aw_Parser_takeBehind fw_Parser_takeBehind true s s from fp_r) hP)) (by decide) (by decide) (by decide))) (fun x463 gx463 => ?_)
                          exact hQ _ gx463
                      · refine q_call Q (R := fun (x464 : mS) => fp aw_Parser_takeBehind fw_Parser_takeBehind true s x464) (fp_t fp_r (fp_m (fr_Parser_fail (1 : Int32) s) (by decide) (by decide) (by decide))) (fun x464 gx464 => ?_)
                        exact hQ _ gx464
                · refine q_call Q (R := fun (x465 : mS) => fp aw_Parser_takeBehind fw_Parser_takeBehind true s x465) (fp_t fp_r (fp_m (fr_Parser_operate (3 : Int32) s (fp_P (show fp aw_Parser_takeBehind fw_Parser_takeBehind true s s from fp_r) hP)) (by decide) (by decide) (by decide))) (fun x465 gx465 => ?_)
                  exact hQ _ gx465
              · refine q_if Q (fun _ => ?_) (fun _ => ?_)
                · refine q_if Q (fun _ => ?_) (fun _ => ?_)
                  · refine q_if Q (fun _ => ?_) (fun _ => ?_)
                    · refine q_if Q (fun _ => ?_) (fun _ => ?_)
                      · refine q_call Q (R := fun (x466 : mS) => fp aw_Parser_takeBehind fw_Parser_takeBehind true s x466) (fp_t fp_r (fp_m (fr_Parser_unwind (1 : Int32) s (fp_P (show fp aw_Parser_takeBehind fw_Parser_takeBehind true s s from fp_r) hP)) (by decide) (by decide) (by decide))) (fun x466 gx466 => ?_)
                        refine q_call Q (R := mq_A) (fp_P (show fp aw_Parser_takeBehind fw_Parser_takeBehind true s x466 from gx466) hP _) (fun r467 hr467 => ?_)
                        refine q_call Q (R := fun (x468 : mS) => fp aw_Parser_takeBehind fw_Parser_takeBehind true s x468) (fp_t gx466 (fp_m (fr_Act_beginCondition r467 hr467 x466) (by decide) (by decide) (by decide))) (fun x468 gx468 => ?_)
                        exact hQ _ (fp_IF gx468 (by decide))
                      · refine q_if Q (fun _ => ?_) (fun _ => ?_)
                        · refine q_if Q (fun _ => ?_) (fun _ => ?_)
                          · refine q_call Q (R := fun (x469 : mS) => fp aw_Parser_takeBehind fw_Parser_takeBehind true s x469) (fp_t fp_r (fp_m (fr_Parser_fail (1 : Int32) s) (by decide) (by decide) (by decide))) (fun x469 gx469 => ?_)
                            exact hQ _ gx469
                          · refine q_call Q (R := fun (x470 : mS) => fp aw_Parser_takeBehind fw_Parser_takeBehind true s x470) (fp_t fp_r (fp_m (fr_Parser_closeLine s (fp_P (show fp aw_Parser_takeBehind fw_Parser_takeBehind true s s from fp_r) hP)) (by decide) (by decide) (by decide))) (fun x470 gx470 => ?_)
                            exact hQ _ gx470
                        · refine q_call Q (R := fun (x471 : mS) => fp aw_Parser_takeBehind fw_Parser_takeBehind true s x471) (fp_t fp_r (fp_m (fr_Parser_fail (1 : Int32) s) (by decide) (by decide) (by decide))) (fun x471 gx471 => ?_)
                          exact hQ _ gx471
                    · refine q_if Q (fun _ => ?_) (fun _ => ?_)
                      · refine q_if Q (fun _ => ?_) (fun _ => ?_)
                        · refine q_call Q (R := fun (x472 : mS) => fp aw_Parser_takeBehind fw_Parser_takeBehind true s x472) (fp_t fp_r (fp_m (fr_Parser_fail (1 : Int32) s) (by decide) (by decide) (by decide))) (fun x472 gx472 => ?_)
                          exact hQ _ gx472
                        · refine q_call Q (R := fun (x473 : mS) => fp aw_Parser_takeBehind fw_Parser_takeBehind true s x473) (fp_t fp_r (fp_m (fr_Parser_closeLine s (fp_P (show fp aw_Parser_takeBehind fw_Parser_takeBehind true s s from fp_r) hP)) (by decide) (by decide) (by decide))) (fun x473 gx473 => ?_)
                          exact hQ _ gx473
                      · refine q_call Q (R := fun (x474 : mS) => fp aw_Parser_takeBehind fw_Parser_takeBehind true s x474) (fp_t fp_r (fp_m (fr_Parser_fail (1 : Int32) s) (by decide) (by decide) (by decide))) (fun x474 gx474 => ?_)
                        exact hQ _ gx474
                  · refine q_call Q (R := fun (x475 : mS) => fp aw_Parser_takeBehind fw_Parser_takeBehind true s x475) (fp_t fp_r (fp_m (fr_Parser_closeBracket s (fp_P (show fp aw_Parser_takeBehind fw_Parser_takeBehind true s s from fp_r) hP)) (by decide) (by decide) (by decide))) (fun x475 gx475 => ?_)
                    exact hQ _ gx475
                · refine q_if Q (fun _ => ?_) (fun _ => ?_)
                  · refine q_if Q (fun _ => ?_) (fun _ => ?_)
                    · refine q_call Q (R := fun (x476 : mS) => fp aw_Parser_takeBehind fw_Parser_takeBehind true s x476) (fp_t fp_r (fp_m (fr_Parser_unwind (1 : Int32) s (fp_P (show fp aw_Parser_takeBehind fw_Parser_takeBehind true s s from fp_r) hP)) (by decide) (by decide) (by decide))) (fun x476 gx476 => ?_)
                      refine q_call Q (R := mq_A) (fp_P (show fp aw_Parser_takeBehind fw_Parser_takeBehind true s x476 from gx476) hP _) (fun r477 hr477 => ?_)
                      refine q_call Q (R := fun (x478 : mS) => fp aw_Parser_takeBehind fw_Parser_takeBehind true s x478) (fp_t gx476 (fp_m (fr_Act_beginCondition r477 hr477 x476) (by decide) (by decide) (by decide))) (fun x478 gx478 => ?_)
                      exact hQ _ (fp_IF gx478 (by decide))
                    · refine q_if Q (fun _ => ?_) (fun _ => ?_)
                      · refine q_if Q (fun _ => ?_) (fun _ => ?_)
                        · refine q_call Q (R := fun (x479 : mS) => fp aw_Parser_takeBehind fw_Parser_takeBehind true s x479) (fp_t fp_r (fp_m (fr_Parser_fail (1 : Int32) s) (by decide) (by decide) (by decide))) (fun x479 gx479 => ?_)
                          exact hQ _ gx479
                        · refine q_call Q (R := fun (x480 : mS) => fp aw_Parser_takeBehind fw_Parser_takeBehind true s x480) (fp_t fp_r (fp_m (fr_Parser_closeLine s (fp_P (show fp aw_Parser_takeBehind fw_Parser_takeBehind true s s from fp_r) hP)) (by decide) (by decide) (by decide))) (fun x480 gx480 => ?_)
                          exact hQ _ gx480
                      · refine q_call Q (R := fun (x481 : mS) => fp aw_Parser_takeBehind fw_Parser_takeBehind true s x481) (fp_t fp_r (fp_m (fr_Parser_fail (1 : Int32) s) (by decide) (by decide) (by decide))) (fun x481 gx481 => ?_)
                        exact hQ _ gx481
                  · refine q_if Q (fun _ => ?_) (fun _ => ?_)
                    · refine q_if Q (fun _ => ?_) (fun _ => ?_)
                      · refine q_call Q (R := fun (x482 : mS) => fp aw_Parser_takeBehind fw_Parser_takeBehind true s x482) (fp_t fp_r (fp_m (fr_Parser_fail (1 : Int32) s) (by decide) (by decide) (by decide))) (fun x482 gx482 => ?_)
                        exact hQ _ gx482
                      · refine q_call Q (R := fun (x483 : mS) => fp aw_Parser_takeBehind fw_Parser_takeBehind true s x483) (fp_t fp_r (fp_m (fr_Parser_closeLine s (fp_P (show fp aw_Parser_takeBehind fw_Parser_takeBehind true s s from fp_r) hP)) (by decide) (by decide) (by decide))) (fun x483 gx483 => ?_)
                        exact hQ _ gx483
                    · refine q_call Q (R := fun (x484 : mS) => fp aw_Parser_takeBehind fw_Parser_takeBehind true s x484) (fp_t fp_r (fp_m (fr_Parser_fail (1 : Int32) s) (by decide) (by decide) (by decide))) (fun x484 gx484 => ?_)
                      exact hQ _ gx484
          · refine q_if Q (fun _ => ?_) (fun _ => ?_)
            · refine q_call Q (R := fun (x485 : mS) => fp aw_Parser_takeBehind fw_Parser_takeBehind true s x485) (fp_t fp_r (fp_m (fr_Parser_operate (1 : Int32) s (fp_P (show fp aw_Parser_takeBehind fw_Parser_takeBehind true s s from fp_r) hP)) (by decide) (by decide) (by decide))) (fun x485 gx485 => ?_)
              exact hQ _ (fp_IF gx485 (by decide))
            · refine q_if Q (fun _ => ?_) (fun _ => ?_)
              · refine q_if Q (fun _ => ?_) (fun _ => ?_)
                · refine q_if Q (fun _ => ?_) (fun _ => ?_)
                  · refine q_if Q (fun _ => ?_) (fun _ => ?_)
                    · refine q_if Q (fun _ => ?_) (fun _ => ?_)
                      · refine q_if Q (fun _ => ?_) (fun _ => ?_)
                        · refine q_call Q (R := fun (x486 : mS) => fp aw_Parser_takeBehind fw_Parser_takeBehind true s x486) (fp_t fp_r (fp_m (fr_Parser_unwind (1 : Int32) s (fp_P (show fp aw_Parser_takeBehind fw_Parser_takeBehind true s s from fp_r) hP)) (by decide) (by decide) (by decide))) (fun x486 gx486 => ?_)
                          refine q_call Q (R := mq_A) (fp_P (show fp aw_Parser_takeBehind fw_Parser_takeBehind true s x486 from gx486) hP _) (fun r487 hr487 => ?_)
                          refine q_call Q (R := fun (x488 : mS) => fp aw_Parser_takeBehind fw_Parser_takeBehind true s x488) (fp_t gx486 (fp_m (fr_Act_beginCondition r487 hr487 x486) (by decide) (by decide) (by decide))) (fun x488 gx488 => ?_)
                          exact hQ _ (fp_IF gx488 (by decide))
                        · refine q_if Q (fun _ => ?_) (fun _ => ?_)
                          · refine q_if Q (fun _ => ?_) (fun _ => ?_)
                            · refine q_call Q (R := fun (x489 : mS) => fp aw_Parser_takeBehind fw_Parser_takeBehind true s x489) (fp_t fp_r (fp_m (fr_Parser_fail (1 : Int32) s) (by decide) (by decide) (by decide))) (fun x489 gx489 => ?_)
                              exact hQ _ gx489
                            · refine q_call Q (R := fun (x490 : mS) => fp aw_Parser_takeBehind fw_Parser_takeBehind true s x490) (fp_t fp_r (fp_m (fr_Parser_closeLine s (fp_P (show fp aw_Parser_takeBehind fw_Parser_takeBehind true s s from fp_r) hP)) (by decide) (by decide) (by decide))) (fun x490 gx490 => ?_)
                              exact hQ _ gx490
                          · refine q_call Q (R := fun (x491 : mS) => fp aw_Parser_takeBehind fw_Parser_takeBehind true s x491) (fp_t fp_r (fp_m (fr_Parser_fail (1 : Int32) s) (by decide) (by decide) (by decide))) (fun x491 gx491 => ?_)
                            exact hQ _ gx491
                      · refine q_if Q (fun _ => ?_) (fun _ => ?_)
                        · refine q_if Q (fun _ => ?_) (fun _ => ?_)
                          · refine q_call Q (R := fun (x492 : mS) => fp aw_Parser_takeBehind fw_Parser_takeBehind true s x492) (fp_t fp_r (fp_m (fr_Parser_fail (1 : Int32) s) (by decide) (by decide) (by decide))) (fun x492 gx492 => ?_)
                            exact hQ _ gx492
                          · refine q_call Q (R := fun (x493 : mS) => fp aw_Parser_takeBehind fw_Parser_takeBehind true s x493) (fp_t fp_r (fp_m (fr_Parser_closeLine s (fp_P (show fp aw_Parser_takeBehind fw_Parser_takeBehind true s s from fp_r) hP)) (by decide) (by decide) (by decide))) (fun x493 gx493 => ?_)
                            exact hQ _ gx493
                        · refine q_call Q (R := fun (x494 : mS) => fp aw_Parser_takeBehind fw_Parser_takeBehind true s x494) (fp_t fp_r (fp_m (fr_Parser_fail (1 : Int32) s) (by decide) (by decide) (by decide))) (fun x494 gx494 => ?_)
                          exact hQ _ gx494
                    · refine q_call Q (R := fun (x495 : mS) => fp aw_Parser_takeBehind fw_Parser_takeBehind true s x495) (fp_t fp_r (fp_m (fr_Parser_closeBracket s (fp_P (show fp aw_Parser_takeBehind fw_Parser_takeBehind true s s from fp_r) hP)) (by decide) (by decide) (by decide))) (fun x495 gx495 => ?_)
                      exact hQ _ gx495
                  · refine q_if Q (fun _ => ?_) (fun _ => ?_)
                    · refine q_if Q (fun _ => ?_) (fun _ => ?_)
                      · refine q_call Q (R := fun (x496 : mS) => fp aw_Parser_takeBehind fw_Parser_takeBehind true s x496) (fp_t fp_r (fp_m (fr_Parser_unwind (1 : Int32) s (fp_P (show fp aw_Parser_takeBehind fw_Parser_takeBehind true s s from fp_r) hP)) (by decide) (by decide) (by decide))) (fun x496 gx496 => ?_)
                        refine q_call Q (R := mq_A) (fp_P (show fp aw_Parser_takeBehind fw_Parser_takeBehind true s x496 from gx496) hP _) (fun r497 hr497 => ?_)
                        refine q_call Q (R := fun (x498 : mS) => fp aw_Parser_takeBehind fw_Parser_takeBehind true s x498) (fp_t gx496 (fp_m (fr_Act_beginCondition r497 hr497 x496) (by decide) (by decide) (by decide))) (fun x498 gx498 => ?_)
                        exact hQ _ (fp_IF gx498 (by decide))
                      · refine q_if Q (fun _ => ?_) (fun _ => ?_)
                        · refine q_if Q (fun _ => ?_) (fun _ => ?_)
                          · refine q_call Q (R := fun (x499 : mS) => fp aw_Parser_takeBehind fw_Parser_takeBehind true s x499) (fp_t fp_r (fp_m (fr_Parser_fail (1 : Int32) s) (by decide) (by decide) (by decide))) (fun x499 gx499 => ?_)
                            exact hQ _ gx499
                          · refine q_call Q (R := fun (x500 : mS) => fp aw_Parser_takeBehind fw_Parser_takeBehind true s x500) (fp_t fp_r (fp_m (fr_Parser_closeLine s (fp_P (show fp aw_Parser_takeBehind fw_Parser_takeBehind true s s from fp_r) hP)) (by decide) (by decide) (by decide))) (fun x500 gx500 => ?_)
                            exact hQ _ gx500
                        · refine q_call Q (R := fun (x501 : mS) => fp aw_Parser_takeBehind fw_Parser_takeBehind true s x501) (fp_t fp_r (fp_m (fr_Parser_fail (1 : Int32) s) (by decide) (by decide) (by decide))) (fun x501 gx501 => ?_)
                          exact hQ _ gx501
                    · refine q_if Q (fun _ => ?_) (fun _ => ?_)
                      · refine q_if Q (fun _ => ?_) (fun _ => ?_)
                        · refine q_call Q (R := fun (x502 : mS) => fp aw_Parser_takeBehind fw_Parser_takeBehind true s x502) (fp_t fp_r (fp_m (fr_Parser_fail (1 : Int32) s) (by decide) (by decide) (by decide))) (fun x502 gx502 => ?_)
                          exact hQ _ gx502
                        · refine q_call Q (R := fun (x503 : mS) => fp aw_Parser_takeBehind fw_Parser_takeBehind true s x503) (fp_t fp_r (fp_m (fr_Parser_closeLine s (fp_P (show fp aw_Parser_takeBehind fw_Parser_takeBehind true s s from fp_r) hP)) (by decide) (by decide) (by decide))) (fun x503 gx503 => ?_)
                          exact hQ _ gx503
                      · refine q_call Q (R := fun (x504 : mS) => fp aw_Parser_takeBehind fw_Parser_takeBehind true s x504) (fp_t fp_r (fp_m (fr_Parser_fail (1 : Int32) s) (by decide) (by decide) (by decide))) (fun x504 gx504 => ?_)
                        exact hQ _ gx504
                · refine q_call Q (R := fun (x505 : mS) => fp aw_Parser_takeBehind fw_Parser_takeBehind true s x505) (fp_t fp_r (fp_m (fr_Parser_operate (3 : Int32) s (fp_P (show fp aw_Parser_takeBehind fw_Parser_takeBehind true s s from fp_r) hP)) (by decide) (by decide) (by decide))) (fun x505 gx505 => ?_)
                  exact hQ _ gx505
              · refine q_if Q (fun _ => ?_) (fun _ => ?_)
                · refine q_if Q (fun _ => ?_) (fun _ => ?_)
                  · refine q_if Q (fun _ => ?_) (fun _ => ?_)
                    · refine q_if Q (fun _ => ?_) (fun _ => ?_)
                      · refine q_if Q (fun _ => ?_) (fun _ => ?_)
                        · refine q_if Q (fun _ => ?_) (fun _ => ?_)
                          · refine q_call Q (R := fun (x506 : mS) => fp aw_Parser_takeBehind fw_Parser_takeBehind true s x506) (fp_t fp_r (fp_m (fr_Parser_unwind (1 : Int32) s (fp_P (show fp aw_Parser_takeBehind fw_Parser_takeBehind true s s from fp_r) hP)) (by decide) (by decide) (by decide))) (fun x506 gx506 => ?_)
                            refine q_call Q (R := mq_A) (fp_P (show fp aw_Parser_takeBehind fw_Parser_takeBehind true s x506 from gx506) hP _) (fun r507 hr507 => ?_)
                            refine q_call Q (R := fun (x508 : mS) => fp aw_Parser_takeBehind fw_Parser_takeBehind true s x508) (fp_t gx506 (fp_m (fr_Act_beginCondition r507 hr507 x506) (by decide) (by decide) (by decide))) (fun x508 gx508 => ?_)
                            exact hQ _ (fp_IF gx508 (by decide))
                          · refine q_if Q (fun _ => ?_) (fun _ => ?_)
                            · refine q_if Q (fun _ => ?_) (fun _ => ?_)
                              · refine q_call Q (R := fun (x509 : mS) => fp aw_Parser_takeBehind fw_Parser_takeBehind true s x509) (fp_t fp_r (fp_m (fr_Parser_fail (1 : Int32) s) (by decide) (by decide) (by decide))) (fun x509 gx509 => ?_)
                                exact hQ _ gx509
                              · refine q_call Q (R := fun (x510 : mS) => fp aw_Parser_takeBehind fw_Parser_takeBehind true s x510) (fp_t fp_r (fp_m (fr_Parser_closeLine s (fp_P (show fp aw_Parser_takeBehind fw_Parser_takeBehind true s s from fp_r) hP)) (by decide) (by decide) (by decide))) (fun x510 gx510 => ?_)
                                exact hQ _ gx510
                            · refine q_call Q (R := fun (x511 : mS) => fp aw_Parser_takeBehind fw_Parser_takeBehind true s x511) (fp_t fp_r (fp_m (fr_Parser_fail (1 : Int32) s) (by decide) (by decide) (by decide))) (fun x511 gx511 => ?_)
                              exact hQ _ gx511
                        · refine q_if Q (fun _ => ?_) (fun _ => ?_)
                          · refine q_if Q (fun _ => ?_) (fun _ => ?_)
                            · refine q_call Q (R := fun (x512 : mS) => fp aw_Parser_takeBehind fw_Parser_takeBehind true s x512) (fp_t fp_r (fp_m (fr_Parser_fail (1 : Int32) s) (by decide) (by decide) (by decide))) (fun x512 gx512 => ?_)
                              exact hQ _ gx512
                            · refine q_call Q (R := fun (x513 : mS) => fp aw_Parser_takeBehind fw_Parser_takeBehind true s x513) (fp_t fp_r (fp_m (fr_Parser_closeLine s (fp_P (show fp aw_Parser_takeBehind fw_Parser_takeBehind true s s from fp_r) hP)) (by decide) (by decide) (by decide))) (fun x513 gx513 => ?_)
                              exact hQ _ gx513
                          · refine q_call Q (R := fun (x514 : mS) => fp aw_Parser_takeBehind fw_Parser_takeBehind true s x514) (fp_t fp_r (fp_m (fr_Parser_fail (1 : Int32) s) (by decide) (by decide) (by decide))) (fun x514 gx514 => ?_)
                            exact hQ _ gx514
                      · refine q_call Q (R := fun (x515 : mS) => fp aw_Parser_takeBehind fw_Parser_takeBehind true s x515) (fp_t fp_r (fp_m (fr_Parser_closeBracket s (fp_P (show fp aw_Parser_takeBehind fw_Parser_takeBehind true s s from fp_r) hP)) (by decide) (by decide) (by decide))) (fun x515 gx515 => ?_)
                        exact hQ _ gx515
                    · refine q_if Q (fun _ => ?_) (fun _ => ?_)
                      · refine q_if Q (fun _ => ?_) (fun _ => ?_)
                        · refine q_call Q (R := fun (x516 : mS) => fp aw_Parser_takeBehind fw_Parser_takeBehind true s x516) (fp_t fp_r (fp_m (fr_Parser_unwind (1 : Int32) s (fp_P (show fp aw_Parser_takeBehind fw_Parser_takeBehind true s s from fp_r) hP)) (by decide) (by decide) (by decide))) (fun x516 gx516 => ?_)
                          refine q_call Q (R := mq_A) (fp_P (show fp aw_Parser_takeBehind fw_Parser_takeBehind true s x516 from gx516) hP _) (fun r517 hr517 => ?_)
                          refine q_call Q (R := fun (x518 : mS) => fp aw_Parser_takeBehind fw_Parser_takeBehind true s x518) (fp_t gx516 (fp_m (fr_Act_beginCondition r517 hr517 x516) (by decide) (by decide) (by decide))) (fun x518 gx518 => ?_)
                          exact hQ _ (fp_IF gx518 (by decide))
                        · refine q_if Q (fun _ => ?_) (fun _ => ?_)
                          · refine q_if Q (fun _ => ?_) (fun _ => ?_)
                            · refine q_call Q (R := fun (x519 : mS) => fp aw_Parser_takeBehind fw_Parser_takeBehind true s x519) (fp_t fp_r (fp_m (fr_Parser_fail (1 : Int32) s) (by decide) (by decide) (by decide))) (fun x519 gx519 => ?_)
                              exact hQ _ gx519
                            · refine q_call Q (R := fun (x520 : mS) => fp aw_Parser_takeBehind fw_Parser_takeBehind true s x520) (fp_t fp_r (fp_m (fr_Parser_closeLine s (fp_P (show fp aw_Parser_takeBehind fw_Parser_takeBehind true s s from fp_r) hP)) (by decide) (by decide) (by decide))) (fun x520 gx520 => ?_)
                              exact hQ _ gx520
                          · refine q_call Q (R := fun (x521 : mS) => fp aw_Parser_takeBehind fw_Parser_takeBehind true s x521) (fp_t fp_r (fp_m (fr_Parser_fail (1 : Int32) s) (by decide) (by decide) (by decide))) (fun x521 gx521 => ?_)
                            exact hQ _ gx521
                      · refine q_if Q (fun _ => ?_) (fun _ => ?_)
                        · refine q_if Q (fun _ => ?_) (fun _ => ?_)
                          · refine q_call Q (R := fun (x522 : mS) => fp aw_Parser_takeBehind fw_Parser_takeBehind true s x522) (fp_t fp_r (fp_m (fr_Parser_fail (1 : Int32) s) (by decide) (by decide) (by decide))) (fun x522 gx522 => ?_)
                            exact hQ _ gx522
                          · refine q_call Q (R := fun (x523 : mS) => fp aw_Parser_takeBehind fw_Parser_takeBehind true s x523) (fp_t fp_r (fp_m (fr_Parser_closeLine s (fp_P (show fp aw_Parser_takeBehind fw_Parser_takeBehind true s s from fp_r) hP)) (by decide) (by decide) (by decide))) (fun x523 gx523 => ?_)
                            exact hQ _ gx523
                        · refine q_call Q (R := fun (x524 : mS) => fp aw_Parser_takeBehind fw_Parser_takeBehind true s x524) (fp_t fp_r (fp_m (fr_Parser_fail (1 : Int32) s) (by decide) (by decide) (by decide))) (fun x524 gx524 => ?_)
                          exact hQ _ gx524
                  · refine q_call Q (R := fun (x525 : mS) => fp aw_Parser_takeBehind fw_Parser_takeBehind true s x525) (fp_t fp_r (fp_m (fr_Parser_operate (3 : Int32) s (fp_P (show fp aw_Parser_takeBehind fw_Parser_takeBehind true s s from fp_r) hP)) (by decide) (by decide) (by decide))) (fun x525 gx525 => ?_)
                    exact hQ _ gx525
                · refine q_if Q (fun _ => ?_) (fun _ => ?_)
                  · refine q_if Q (fun _ => ?_) (fun _ => ?_)
                    · refine q_if Q (fun _ => ?_) (fun _ => ?_)
                      · refine q_if Q (fun _ => ?_) (fun _ => ?_)
                        · refine q_call Q (R := fun (x526 : mS) => fp aw_Parser_takeBehind fw_Parser_takeBehind true s x526) (fp_t fp_r (fp_m (fr_Parser_unwind (1 : Int32) s (fp_P (show fp aw_Parser_takeBehind fw_Parser_takeBehind true s s from fp_r) hP)) (by decide) (by decide) (by decide))) (fun x526 gx526 => ?_)
                          refine q_call Q (R := mq_A) (fp_P (show fp aw_Parser_takeBehind fw_Parser_takeBehind true s x526 from gx526) hP _) (fun r527 hr527 => ?_)
                          refine q_call Q (R := fun (x528 : mS) => fp aw_Parser_takeBehind fw_Parser_takeBehind true s x528) (fp_t gx526 (fp_m (fr_Act_beginCondition r527 hr527 x526) (by decide) (by decide) (by decide))) (fun x528 gx528 => ?_)
                          exact hQ _ (fp_IF gx528 (by decide))
                        · refine q_if Q (fun _ => ?_) (fun _ => ?_)
                          · refine q_if Q (fun _ => ?_) (fun _ => ?_)
                            · refine q_call Q (R := fun (x529 : mS) => fp aw_Parser_takeBehind fw_Parser_takeBehind true s x529) (fp_t fp_r (fp_m (fr_Parser_fail (1 : Int32) s) (by decide) (by decide) (by decide))) (fun x529 gx529 => ?_)
                              exact hQ _ gx529
                            · refine q_call Q (R := fun (x530 : mS) => fp aw_Parser_takeBehind fw_Parser_takeBehind true s x530) (fp_t fp_r (fp_m (fr_Parser_closeLine s (fp_P (show fp aw_Parser_takeBehind fw_Parser_takeBehind true s s from fp_r) hP)) (by decide) (by decide) (by decide))) (fun x530 gx530 => ?_)
                              exact hQ _ gx530
                          · refine q_call Q (R := fun (x531 : mS) => fp aw_Parser_takeBehind fw_Parser_takeBehind true s x531) (fp_t fp_r (fp_m (fr_Parser_fail (1 : Int32) s) (by decide) (by decide) (by decide))) (fun x531 gx531 => ?_)
                            exact hQ _ gx531
                      · refine q_if Q (fun _ => ?_) (fun _ => ?_)
                        · refine q_if Q (fun _ => ?_) (fun _ => ?_)
                          · refine q_call Q (R := fun (x532 : mS) => fp aw_Parser_takeBehind fw_Parser_takeBehind true s x532) (fp_t fp_r (fp_m (fr_Parser_fail (1 : Int32) s) (by decide) (by decide) (by decide))) (fun x532 gx532 => ?_)
                            exact hQ _ gx532
                          · refine q_call Q (R := fun (x533 : mS) => fp aw_Parser_takeBehind fw_Parser_takeBehind true s x533) (fp_t fp_r (fp_m (fr_Parser_closeLine s (fp_P (show fp aw_Parser_takeBehind fw_Parser_takeBehind true s s from fp_r) hP)) (by decide) (by decide) (by decide))) (fun x533 gx533 => ?_)
                            exact hQ _ gx533
                        · refine q_call Q (R := fun (x534 : mS) => fp aw_Parser_takeBehind fw_Parser_takeBehind true s x534) (fp_t fp_r (fp_m (fr_Parser_fail (1 : Int32) s) (by decide) (by decide) (by decide))) (fun x534 gx534 => ?_)
                          exact hQ _ gx534
                    · refine q_call Q (R := fun (x535 : mS) => fp aw_Parser_takeBehind fw_Parser_takeBehind true s x535) (fp_t fp_r (fp_m (fr_Parser_closeBracket s (fp_P (show fp aw_Parser_takeBehind fw_Parser_takeBehind true s s from fp_r) hP)) (by decide) (by decide) (by decide))) (fun x535 gx535 => ?_)
                      exact hQ _ gx535
                  · refine q_if Q (fun _ => ?_) (fun _ => ?_)
                    · refine q_if Q (fun _ => ?_) (fun _ => ?_)
                      · refine q_call Q (R := fun (x536 : mS) => fp aw_Parser_takeBehind fw_Parser_takeBehind true s x536) (fp_t fp_r (fp_m (fr_Parser_unwind (1 : Int32) s (fp_P (show fp aw_Parser_takeBehind fw_Parser_takeBehind true s s from fp_r) hP)) (by decide) (by decide) (by decide))) (fun x536 gx536 => ?_)
                        refine q_call Q (R := mq_A) (fp_P (show fp aw_Parser_takeBehind fw_Parser_takeBehind true s x536 from gx536) hP _) (fun r537 hr537 => ?_)
                        refine q_call Q (R := fun (x538 : mS) => fp aw_Parser_takeBehind fw_Parser_takeBehind true s x538) (fp_t gx536 (fp_m (fr_Act_beginCondition r537 hr537 x536) (by decide) (by decide) (by decide))) (fun x538 gx538 => ?_)
                        exact hQ _ (fp_IF gx538 (by decide))
                      · refine q_if Q (fun _ => ?_) (fun _ => ?_)
                        · refine q_if Q (fun _ => ?_) (fun _ => ?_)
                          · refine q_call Q (R := fun (x539 : mS) => fp aw_Parser_takeBehind fw_Parser_takeBehind true s x539) (fp_t fp_r (fp_m (fr_Parser_fail (1 : Int32) s) (by decide) (by decide) (by decide))) (fun x539 gx539 => ?_)
                            exact hQ _ gx539
                          · refine q_call Q (R := fun (x540 : mS) => fp aw_Parser_takeBehind fw_Parser_takeBehind true s x540) (fp_t fp_r (fp_m (fr_Parser_closeLine s (fp_P (show fp aw_Parser_takeBehind fw_Parser_takeBehind true s s from fp_r) hP)) (by decide) (by decide) (by decide))) (fun x540 gx540 => ?_)
                            exact hQ _ gx540
                        · refine q_call Q (R := fun (x541 : mS) => fp aw_Parser_takeBehind fw_Parser_takeBehind true s x541) (fp_t fp_r (fp_m (fr_Parser_fail (1 : Int32) s) (by decide) (by decide) (by decide))) (fun x541 gx541 => ?_)
                          exact hQ _ gx541
                    · refine q_if Q (fun _ => ?_) (fun _ => ?_)
                      · refine q_if Q (fun _ => ?_) (fun _ => ?_)
                        · refine q_call Q (R := fun (x542 : mS) => fp aw_Parser_takeBehind fw_Parser_takeBehind true s x542) (fp_t fp_r (fp_m (fr_Parser_fail (1 : Int32) s) (by decide) (by decide) (by decide))) (fun x542 gx542 => ?_)
                          exact hQ _ gx542
                        · refine q_call Q (R := fun (x543 : mS) => fp aw_Parser_takeBehind fw_Parser_takeBehind true s x543) (fp_t fp_r (fp_m (fr_Parser_closeLine s (fp_P (show fp aw_Parser_takeBehind fw_Parser_takeBehind true s s from fp_r) hP)) (by decide) (by decide) (by decide))) (fun x543 gx543 => ?_)
                          exact hQ _ gx543
                      · refine q_call Q (R := fun (x544 : mS) => fp aw_Parser_takeBehind fw_Parser_takeBehind true s x544) (fp_t fp_r (fp_m (fr_Parser_fail (1 : Int32) s) (by decide) (by decide) (by decide))) (fun x544 gx544 => ?_)
                        exact hQ _ gx544
      · refine q_let0 Q (fun x545 => ?_)
        refine q_call Q (R := fun (x546 : mS) => fp aw_Parser_takeBehind fw_Parser_takeBehind true s x546) (fp_t fp_r (fp_m (fr_Parser_operate x545 s (fp_P (show fp aw_Parser_takeBehind fw_Parser_takeBehind true s s from fp_r) hP)) (by decide) (by decide) (by decide))) (fun x546 gx546 => ?_)
        exact hQ _ gx546
def aw_Parser_take : List Nat := [81]
def fw_Parser_take : List (Nat × Nat) := [(80, 7), (80, 8), (80, 10), (80, 11), (80, 12), (80, 13)]
theorem fr_Parser_take   (s : mS) (hP : ∀ j, mq_A (gP s j)) : fp aw_Parser_take fw_Parser_take true s (f_Parser_take s) := by
  refine (fun (Q : mS → Prop) (hQ : ∀ r, fp aw_Parser_take fw_Parser_take true s r → Q r) => ?_ : ∀ Q : mS → Prop, (∀ r, fp aw_Parser_take fw_Parser_take true s r → Q r) → Q (f_Parser_take s)) (fun r => fp aw_Parser_take fw_Parser_take true s r) (fun _ h => h)
  unfold f_Parser_take
  refine q_if Q (fun _ => ?_) (fun _ => ?_)
  · refine q_call Q (R := fun (x10 : mS) => fp aw_Parser_take fw_Parser_take true s x10) (fp_t fp_r (fp_m (fr_Parser_takeSubject s (fp_P (show fp aw_Parser_take fw_Parser_take true s s from fp_r) hP)) (by decide) (by decide) (by decide))) (fun x10 gx10 => ?_)
    exact hQ _ gx10
  · refine q_if Q (fun _ => ?_) (fun _ => ?_)
    · refine q_call Q (R := fun (x11 : mS) => fp aw_Parser_take fw_Parser_take true s x11) (fp_t fp_r (fp_m (fr_Parser_takePart s (fp_P (show fp aw_Parser_take fw_Parser_take true s s from fp_r) hP)) (by decide) (by decide) (by decide))) (fun x11 gx11 => ?_)
      exact hQ _ gx11
    · refine q_if Q (fun _ => ?_) (fun _ => ?_)
      · refine q_call Q (R := fun (x12 : mS) => fp aw_Parser_take fw_Parser_take true s x12) (fp_t fp_r (fp_m (fr_Parser_takeDivisor s (fp_P (show fp aw_Parser_take fw_Parser_take true s s from fp_r) hP)) (by decide) (by decide) (by decide))) (fun x12 gx12 => ?_)
        exact hQ _ gx12
      · refine q_if Q (fun _ => ?_) (fun _ => ?_)
        · refine q_call Q (R := fun (x13 : mS) => fp aw_Parser_take fw_Parser_take true s x13) (fp_t fp_r (fp_m (fr_Parser_takeTest s (fp_P (show fp aw_Parser_take fw_Parser_take true s s from fp_r) hP)) (by decide) (by decide) (by decide))) (fun x13 gx13 => ?_)
          exact hQ _ gx13
        · refine q_call Q (R := fun (x14 : mS) => fp aw_Parser_take fw_Parser_take true s x14) (fp_t fp_r (fp_m (fr_Parser_takeBehind s (fp_P (show fp aw_Parser_take fw_Parser_take true s s from fp_r) hP)) (by decide) (by decide) (by decide))) (fun x14 gx14 => ?_)
          exact hQ _ gx14
def aw_lp_Parser_reads_37_51 : List Nat := [81]
def fw_lp_Parser_reads_37_51 : List (Nat × Nat) := [(80, 2), (80, 3), (80, 4), (80, 5), (80, 7), (80, 8), (80, 10), (80, 11), (80, 12), (80, 13)]
theorem fr_lp_Parser_reads_37_51   : ∀ (n : Nat) (v3 : Int32) (s : mS), (∀ j, mq_A (gP s j)) → fp aw_lp_Parser_reads_37_51 fw_lp_Parser_reads_37_51 true s (lp_Parser_reads_37_51 n v3 s).2 := by
  intro n
  induction n with
  | zero => intro v3 s _; exact fp_r
  | succ n ih =>
    intro v3 s hP
    refine (fun (Q : Int32 × mS → Prop) (hQ : ∀ r, fp aw_lp_Parser_reads_37_51 fw_lp_Parser_reads_37_51 true s r.2 → Q r) => ?_ : ∀ Q : Int32 × mS → Prop, (∀ r, fp aw_lp_Parser_reads_37_51 fw_lp_Parser_reads_37_51 true s r.2 → Q r) → Q (lp_Parser_reads_37_51 (n + 1) v3 s)) (fun r => fp aw_lp_Parser_reads_37_51 fw_lp_Parser_reads_37_51 true s r.2) (fun _ h => h)
    rw [lp_Parser_reads_37_51]
    refine q_if Q (fun _ => ?_) (fun _ => ?_)
    · exact hQ _ fp_r
    · refine q_if Q (fun _ => ?_) (fun _ => ?_)
      · refine q_if Q (fun _ => ?_) (fun _ => ?_)
        · exact hQ _ fp_r
        · refine q_call Q (R := fun (x13 : mS) => fp aw_lp_Parser_reads_37_51 fw_lp_Parser_reads_37_51 true s x13) (fp_t fp_r (fp_m (fr_Parser_take s (fp_P (show fp aw_lp_Parser_reads_37_51 fw_lp_Parser_reads_37_51 true s s from fp_r) hP)) (by decide) (by decide) (by decide))) (fun x13 gx13 => ?_)
          refine q_call Q (R := fun (x14 : mS) => fp aw_lp_Parser_reads_37_51 fw_lp_Parser_reads_37_51 true s x14) (fp_t gx13 (fp_m (fr_Parser_advance x13) (by decide) (by decide) (by decide))) (fun x14 gx14 => ?_)
          exact hQ _ (fp_t gx14 (ih (v3 + 1) x14 (fp_P (show fp aw_lp_Parser_reads_37_51 fw_lp_Parser_reads_37_51 true s x14 from gx14) hP)))
      · exact hQ _ fp_r
def aw_lp_M_next0_0 : List Nat := []
def fw_lp_M_next0_0 : List (Nat × Nat) := [(116, 81)]
theorem fr_lp_M_next0_0   : ∀ (n : Nat)  (s : mS), fp aw_lp_M_next0_0 fw_lp_M_next0_0 false s (lp_M_next0_0 n s) := by
  intro n
  induction n with
  | zero => intro s; exact fp_r
  | succ n ih =>
    intro s
    refine (fun (Q : mS → Prop) (hQ : ∀ r, fp aw_lp_M_next0_0 fw_lp_M_next0_0 false s r → Q r) => ?_ : ∀ Q : mS → Prop, (∀ r, fp aw_lp_M_next0_0 fw_lp_M_next0_0 false s r → Q r) → Q (lp_M_next0_0 (n + 1) s)) (fun r => fp aw_lp_M_next0_0 fw_lp_M_next0_0 false s r) (fun _ h => h)
    rw [lp_M_next0_0]
    refine q_let0 Q (fun x10 => ?_)
    refine q_if Q (fun _ => ?_) (fun _ => ?_)
    · exact hQ _ (fp_t (fp_IF fp_r (by decide)) (ih (sI s 116 81 ((gI s 116 81) + 1))))
    · refine q_let0 Q (fun x11 => ?_)
      refine q_if Q (fun _ => ?_) (fun _ => ?_)
      · exact hQ _ (fp_t (fp_IF fp_r (by decide)) (ih (sI s 116 81 ((gI s 116 81) + 1))))
      · exact hQ _ fp_r
def aw_lp_M_next0_126 : List Nat := []
def fw_lp_M_next0_126 : List (Nat × Nat) := [(116, 81), (116, 84)]
theorem fr_lp_M_next0_126   : ∀ (n : Nat)  (s : mS), fp aw_lp_M_next0_126 fw_lp_M_next0_126 false s (lp_M_next0_126 n s) := by
  intro n
  induction n with
  | zero => intro s; exact fp_r
  | succ n ih =>
    intro s
    refine (fun (Q : mS → Prop) (hQ : ∀ r, fp aw_lp_M_next0_126 fw_lp_M_next0_126 false s r → Q r) => ?_ : ∀ Q : mS → Prop, (∀ r, fp aw_lp_M_next0_126 fw_lp_M_next0_126 false s r → Q r) → Q (lp_M_next0_126 (n + 1) s)) (fun r => fp aw_lp_M_next0_126 fw_lp_M_next0_126 false s r) (fun _ h => h)
    rw [lp_M_next0_126]
    refine q_let0 Q (fun x20 => ?_)
    refine q_let0 Q (fun x21 => ?_)
    refine q_if Q (fun _ => ?_) (fun _ => ?_)
    · exact hQ _ fp_r
    · refine q_join Q (fun (x23 : mS) => fp aw_lp_M_next0_126 fw_lp_M_next0_126 false s x23) (fun Q hQ => ?_) (fun x23 gx23 => ?_)
      · refine q_if Q (fun _ => ?_) (fun _ => ?_)
        · exact hQ _ fp_r
        · refine q_let0 Q (fun x24 => ?_)
          exact hQ _ (fp_IF fp_r (by decide))
      · exact hQ _ (fp_t (fp_IF gx23 (by decide)) (ih (sI x23 116 81 ((gI x23 116 81) + 1))))
def aw_lp_M_next0_76 : List Nat := []
def fw_lp_M_next0_76 : List (Nat × Nat) := [(116, 81)]
theorem fr_lp_M_next0_76   : ∀ (n : Nat)  (s : mS), fp aw_lp_M_next0_76 fw_lp_M_next0_76 false s (lp_M_next0_76 n s) := by
  intro n
  induction n with
  | zero => intro s; exact fp_r
  | succ n ih =>
    intro s
    refine (fun (Q : mS → Prop) (hQ : ∀ r, fp aw_lp_M_next0_76 fw_lp_M_next0_76 false s r → Q r) => ?_ : ∀ Q : mS → Prop, (∀ r, fp aw_lp_M_next0_76 fw_lp_M_next0_76 false s r → Q r) → Q (lp_M_next0_76 (n + 1) s)) (fun r => fp aw_lp_M_next0_76 fw_lp_M_next0_76 false s r) (fun _ h => h)
    rw [lp_M_next0_76]
    refine q_let0 Q (fun x29 => ?_)
    refine q_let0 Q (fun x30 => ?_)
    refine q_if Q (fun _ => ?_) (fun _ => ?_)
    · exact hQ _ fp_r
    · exact hQ _ (fp_t (fp_IF fp_r (by decide)) (ih (sI s 116 81 ((gI s 116 81) + 1))))
def aw_M_next0 : List Nat := []
def fw_M_next0 : List (Nat × Nat) := [(116, 81), (116, 82), (116, 83), (116, 84)]
theorem fr_M_next0   (s : mS) : fp aw_M_next0 fw_M_next0 false s (f_M_next0 s) := by
  refine (fun (Q : mS → Prop) (hQ : ∀ r, fp aw_M_next0 fw_M_next0 false s r → Q r) => ?_ : ∀ Q : mS → Prop, (∀ r, fp aw_M_next0 fw_M_next0 false s r → Q r) → Q (f_M_next0 s)) (fun r => fp aw_M_next0 fw_M_next0 false s r) (fun _ h => h)
  unfold f_M_next0
  refine q_call Q (R := fun (x12 : mS) => fp aw_M_next0 fw_M_next0 false s x12) (fp_t fp_r (fp_m (fr_lp_M_next0_0 mm_N s) (by decide) (by decide) (by decide))) (fun x12 gx12 => ?_)
  refine q_let0 Q (fun x15 => ?_)
  refine q_if Q (fun _ => ?_) (fun _ => ?_)
  · exact hQ _ (fp_IF (fp_IF gx12 (by decide)) (by decide))
  · refine q_let0 Q (fun x16 => ?_)
    refine q_if Q (fun _ => ?_) (fun _ => ?_)
    · refine q_let0 Q (fun x17 => ?_)
      refine q_if Q (fun _ => ?_) (fun _ => ?_)
      · refine q_let0 Q (fun x18 => ?_)
        refine q_let0 Q (fun x19 => ?_)
        exact hQ _ (fp_IF (fp_IF (fp_IF gx12 (by decide)) (by decide)) (by decide))
      · refine q_call Q (R := fun (x25 : mS) => fp aw_M_next0 fw_M_next0 false s x25) (fp_t (fp_IF (fp_IF gx12 (by decide)) (by decide)) (fp_m (fr_lp_M_next0_126 mm_N (sI (sI x12 116 83 (gI x12 116 81)) 116 84 0)) (by decide) (by decide) (by decide))) (fun x25 gx25 => ?_)
        refine q_let0 Q (fun x28 => ?_)
        exact hQ _ (fp_IF gx25 (by decide))
    · refine q_call Q (R := fun (x31 : mS) => fp aw_M_next0 fw_M_next0 false s x31) (fp_t (fp_IF gx12 (by decide)) (fp_m (fr_lp_M_next0_76 mm_N (sI x12 116 83 (gI x12 116 81))) (by decide) (by decide) (by decide))) (fun x31 gx31 => ?_)
      refine q_let0 Q (fun x34 => ?_)
      exact hQ _ (fp_IF gx31 (by decide))
def aw_M_bad : List Nat := []
def fw_M_bad : List (Nat × Nat) := [(116, 85), (116, 86)]
theorem fr_M_bad  (a1 : Int32) (s : mS) : fp aw_M_bad fw_M_bad false s (f_M_bad a1 s).2 := by
  refine (fun (Q : Int32 × mS → Prop) (hQ : ∀ r, fp aw_M_bad fw_M_bad false s r.2 → Q r) => ?_ : ∀ Q : Int32 × mS → Prop, (∀ r, fp aw_M_bad fw_M_bad false s r.2 → Q r) → Q (f_M_bad a1 s)) (fun r => fp aw_M_bad fw_M_bad false s r.2) (fun _ h => h)
  unfold f_M_bad
  exact hQ _ (fp_IF (fp_IF fp_r (by decide)) (by decide))
def aw_M_lay : List Nat := [166]
def fw_M_lay : List (Nat × Nat) := [(116, 79)]
theorem fr_M_lay  (a1 : Int32) (a2 : Int32) (s : mS) : fp aw_M_lay fw_M_lay false s (f_M_lay a1 a2 s) := by
  refine (fun (Q : mS → Prop) (hQ : ∀ r, fp aw_M_lay fw_M_lay false s r → Q r) => ?_ : ∀ Q : mS → Prop, (∀ r, fp aw_M_lay fw_M_lay false s r → Q r) → Q (f_M_lay a1 a2 s)) (fun r => fp aw_M_lay fw_M_lay false s r) (fun _ h => h)
  unfold f_M_lay
  exact hQ _ (fp_IF (fp_IA (fp_IA fp_r (by decide)) (by decide)) (by decide))
def aw_M_unit : List Nat := [166]
def fw_M_unit : List (Nat × Nat) := [(116, 79), (116, 81), (116, 82), (116, 83), (116, 84), (116, 85), (116, 86)]
theorem fr_M_unit   (s : mS) : fp aw_M_unit fw_M_unit false s (f_M_unit s).2 := by
  refine (fun (Q : Int32 × mS → Prop) (hQ : ∀ r, fp aw_M_unit fw_M_unit false s r.2 → Q r) => ?_ : ∀ Q : Int32 × mS → Prop, (∀ r, fp aw_M_unit fw_M_unit false s r.2 → Q r) → Q (f_M_unit s)) (fun r => fp aw_M_unit fw_M_unit false s r.2) (fun _ h => h)
  unfold f_M_unit
  refine q_let0 Q (fun x10 => ?_)
  refine q_if Q (fun _ => ?_) (fun _ => ?_)
  · refine q_let0 Q (fun x11 => ?_)
    refine q_call Q (R := fun (x12 : mS) => fp aw_M_unit fw_M_unit false s x12) (fp_t fp_r (fp_m (fr_M_lay x11 (gI s 116 84) s) (by decide) (by decide) (by decide))) (fun x12 gx12 => ?_)
    refine q_call Q (R := fun (x13 : mS) => fp aw_M_unit fw_M_unit false s x13) (fp_t gx12 (fp_m (fr_M_next0 x12) (by decide) (by decide) (by decide))) (fun x13 gx13 => ?_)
    exact hQ _ gx13
  · refine q_if Q (fun _ => ?_) (fun _ => ?_)
    · refine q_call Q (R := fun (x14 : Int32 × mS) => fp aw_M_unit fw_M_unit false s x14.2) (fp_t fp_r (fp_m (fr_M_bad (1 : Int32) s) (by decide) (by decide) (by decide))) (fun x14 gx14 => ?_)
      exact hQ _ gx14
    · refine q_let0 Q (fun x15 => ?_)
      refine q_call Q (R := fun (x16 : mS) => fp aw_M_unit fw_M_unit false s x16) (fp_t fp_r (fp_m (fr_M_lay x15 (gI s 116 84) s) (by decide) (by decide) (by decide))) (fun x16 gx16 => ?_)
      refine q_call Q (R := fun (x17 : mS) => fp aw_M_unit fw_M_unit false s x17) (fp_t gx16 (fp_m (fr_M_next0 x16) (by decide) (by decide) (by decide))) (fun x17 gx17 => ?_)
      exact hQ _ gx17
def aw_lp_M_product_9 : List Nat := [166]
def fw_lp_M_product_9 : List (Nat × Nat) := [(116, 79), (116, 81), (116, 82), (116, 83), (116, 84), (116, 85), (116, 86)]
theorem fr_lp_M_product_9   : ∀ (n : Nat)  (s : mS), fp aw_lp_M_product_9 fw_lp_M_product_9 false s (lp_M_product_9 n s).2 := by
  intro n
  induction n with
  | zero => intro s; exact fp_r
  | succ n ih =>
    intro s
    refine (fun (Q : Option Int32 × mS → Prop) (hQ : ∀ r, fp aw_lp_M_product_9 fw_lp_M_product_9 false s r.2 → Q r) => ?_ : ∀ Q : Option Int32 × mS → Prop, (∀ r, fp aw_lp_M_product_9 fw_lp_M_product_9 false s r.2 → Q r) → Q (lp_M_product_9 (n + 1) s)) (fun r => fp aw_lp_M_product_9 fw_lp_M_product_9 false s r.2) (fun _ h => h)
    rw [lp_M_product_9]
    refine q_if Q (fun _ => ?_) (fun _ => ?_)
    · refine q_let0 Q (fun x11 => ?_)
      refine q_call Q (R := fun (x12 : mS) => fp aw_lp_M_product_9 fw_lp_M_product_9 false s x12) (fp_t fp_r (fp_m (fr_M_next0 s) (by decide) (by decide) (by decide))) (fun x12 gx12 => ?_)
      refine q_if Q (fun _ => ?_) (fun _ => ?_)
      · refine q_call Q (R := fun (x13 : Int32 × mS) => fp aw_lp_M_product_9 fw_lp_M_product_9 false s x13.2) (fp_t gx12 (fp_m (fr_M_unit x12) (by decide) (by decide) (by decide))) (fun x13 gx13 => ?_)
        refine q_if Q (fun _ => ?_) (fun _ => ?_)
        · exact hQ _ gx13
        · refine q_call Q (R := fun (x14 : mS) => fp aw_lp_M_product_9 fw_lp_M_product_9 false s x14) (fp_t gx13 (fp_m (fr_M_lay (8 : Int32) (0 : Int32) x13.2) (by decide) (by decide) (by decide))) (fun x14 gx14 => ?_)
          exact hQ _ (fp_t gx14 (ih x14))
      · refine q_if Q (fun _ => ?_) (fun _ => ?_)
        · refine q_if Q (fun _ => ?_) (fun _ => ?_)
          · refine q_call Q (R := fun (x15 : Int32 × mS) => fp aw_lp_M_product_9 fw_lp_M_product_9 false s x15.2) (fp_t gx12 (fp_m (fr_M_bad (2 : Int32) x12) (by decide) (by decide) (by decide))) (fun x15 gx15 => ?_)
            exact hQ _ gx15
          · refine q_call Q (R := fun (x16 : mS) => fp aw_lp_M_product_9 fw_lp_M_product_9 false s x16) (fp_t gx12 (fp_m (fr_M_lay (9 : Int32) (gI x12 116 84) x12) (by decide) (by decide) (by decide))) (fun x16 gx16 => ?_)
            refine q_call Q (R := fun (x17 : mS) => fp aw_lp_M_product_9 fw_lp_M_product_9 false s x17) (fp_t gx16 (fp_m (fr_M_next0 x16) (by decide) (by decide) (by decide))) (fun x17 gx17 => ?_)
            exact hQ _ (fp_t gx17 (ih x17))
        · refine q_call Q (R := fun (x18 : Int32 × mS) => fp aw_lp_M_product_9 fw_lp_M_product_9 false s x18.2) (fp_t gx12 (fp_m (fr_M_bad (1 : Int32) x12) (by decide) (by decide) (by decide))) (fun x18 gx18 => ?_)
          exact hQ _ gx18
    · refine q_if Q (fun _ => ?_) (fun _ => ?_)
      · refine q_let0 Q (fun x19 => ?_)
        refine q_call Q (R := fun (x20 : mS) => fp aw_lp_M_product_9 fw_lp_M_product_9 false s x20) (fp_t fp_r (fp_m (fr_M_next0 s) (by decide) (by decide) (by decide))) (fun x20 gx20 => ?_)
        refine q_if Q (fun _ => ?_) (fun _ => ?_)
        · refine q_call Q (R := fun (x21 : Int32 × mS) => fp aw_lp_M_product_9 fw_lp_M_product_9 false s x21.2) (fp_t gx20 (fp_m (fr_M_unit x20) (by decide) (by decide) (by decide))) (fun x21 gx21 => ?_)
          refine q_if Q (fun _ => ?_) (fun _ => ?_)
          · exact hQ _ gx21
          · refine q_call Q (R := fun (x22 : mS) => fp aw_lp_M_product_9 fw_lp_M_product_9 false s x22) (fp_t gx21 (fp_m (fr_M_lay (8 : Int32) (0 : Int32) x21.2) (by decide) (by decide) (by decide))) (fun x22 gx22 => ?_)
            exact hQ _ (fp_t gx22 (ih x22))
        · refine q_if Q (fun _ => ?_) (fun _ => ?_)
          · refine q_if Q (fun _ => ?_) (fun _ => ?_)
            · refine q_call Q (R := fun (x23 : Int32 × mS) => fp aw_lp_M_product_9 fw_lp_M_product_9 false s x23.2) (fp_t gx20 (fp_m (fr_M_bad (2 : Int32) x20) (by decide) (by decide) (by decide))) (fun x23 gx23 => ?_)
              exact hQ _ gx23
            · refine q_call Q (R := fun (x24 : mS) => fp aw_lp_M_product_9 fw_lp_M_product_9 false s x24) (fp_t gx20 (fp_m (fr_M_lay (9 : Int32) (gI x20 116 84) x20) (by decide) (by decide) (by decide))) (fun x24 gx24 => ?_)
              refine q_call Q (R := fun (x25 : mS) => fp aw_lp_M_product_9 fw_lp_M_product_9 false s x25) (fp_t gx24 (fp_m (fr_M_next0 x24) (by decide) (by decide) (by decide))) (fun x25 gx25 => ?_)
              exact hQ _ (fp_t gx25 (ih x25))
          · refine q_call Q (R := fun (x26 : Int32 × mS) => fp aw_lp_M_product_9 fw_lp_M_product_9 false s x26.2) (fp_t gx20 (fp_m (fr_M_bad (1 : Int32) x20) (by decide) (by decide) (by decide))) (fun x26 gx26 => ?_)
            exact hQ _ gx26
      · exact hQ _ fp_r
def aw_M_product : List Nat := [166]
def fw_M_product : List (Nat × Nat) := [(116, 79), (116, 81), (116, 82), (116, 83), (116, 84), (116, 85), (116, 86)]
theorem fr_M_product   (s : mS) : fp aw_M_product fw_M_product false s (f_M_product s).2 := by
  refine (fun (Q : Int32 × mS → Prop) (hQ : ∀ r, fp aw_M_product fw_M_product false s r.2 → Q r) => ?_ : ∀ Q : Int32 × mS → Prop, (∀ r, fp aw_M_product fw_M_product false s r.2 → Q r) → Q (f_M_product s)) (fun r => fp aw_M_product fw_M_product false s r.2) (fun _ h => h)
  unfold f_M_product
  refine q_call Q (R := fun (x10 : Int32 × mS) => fp aw_M_product fw_M_product false s x10.2) (fp_t fp_r (fp_m (fr_M_unit s) (by decide) (by decide) (by decide))) (fun x10 gx10 => ?_)
  refine q_if Q (fun _ => ?_) (fun _ => ?_)
  · exact hQ _ gx10
  · refine q_call Q (R := fun (x27 : Option Int32 × mS) => fp aw_M_product fw_M_product false s x27.2) (fp_t gx10 (fp_m (fr_lp_M_product_9 mm_N x10.2) (by decide) (by decide) (by decide))) (fun x27 gx27 => ?_)
    refine q_el Q (fun v => ?_) ?_
    · exact hQ _ gx27
    exact hQ _ gx27
