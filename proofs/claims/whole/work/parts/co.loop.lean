/-! THE LAW'S LOOP: one turn, by program; all turns; what it answers. -/
theorem la {a b c : Prop} (h : a) (q : b ∧ c) : (a ∧ b) ∧ c := ⟨⟨h, q.1⟩, q.2⟩
theorem lpeel {c : Prop} [Decidable c] {A B : Prop} {x y : Option Int32 × Int32 × mS} (h1 : c → A ∧ x.1 = none) (h2 : ¬ c → B ∧ y.1 = none) : (if c then A else B) ∧ (if c then x else y).1 = none := by
  by_cases h : c
  · rw [if_pos h, if_pos h]; exact h1 h
  · rw [if_neg h, if_neg h]; exact h2 h
theorem lm {α : Type} {e : α} {P : α → Prop} {k : α → Option Int32 × Int32 × mS} (h : P e ∧ (k e).1 = none) : mq_letP e P ∧ (mq_let e k).1 = none := h
theorem lq {c : Prop} [Decidable c] {A B : Prop} {x y : Option Int32 × Int32 × mS} (hc : c) (h : A ∧ x.1 = none) : (if c then A else B) ∧ (if c then x else y).1 = none := by
  rw [if_pos hc, if_pos hc]; exact h
theorem js_id {k : Nat} (hk : k < 600) (s : mS) (h : J_at k s) : J_at (k + 1) s := by
  obtain ⟨h1, h2, h3, h4, h5, h6, h7, h8, h9, h10, h11, h12, h13, h14, h15, h16, h17, h18⟩ := h
  exact ⟨h1, h2, h3, h4, h5, h6, h7, h8, h9, h10, h11, h12, h13, h14, h15, h16, h17, jc_up hk h18⟩
theorem lbit {x : Int32} : (if x = 0 then (0 : Int32) else 1) = 0 ∨ (if x = 0 then (0 : Int32) else 1) = 1 := by
  by_cases h : x = 0
  · rw [if_pos h]; exact Or.inl rfl
  · rw [if_neg h]; exact Or.inr rfl
set_option maxRecDepth 4000 in
theorem law_step {len : Nat} {xs : Nat → Int32} {n i : Nat} (hi : i < 600) {v : Int32} (nb : ¬ Int32.ofNat len - 6 < v) (b0 : mm_inb v len = true) (b1 : mm_inb (v + 1) len = true) (b2 : mm_inb (v + 2) len = true) (b3 : mm_inb (v + 3) len = true) (b4 : mm_inb (v + 4) len = true) (b5 : mm_inb (v + 5) len = true) (ih : ∀ s, J_at (i + 1) s → okl_law_18 len xs n (v + 6) s ∧ (lp_law_18 len xs n (v + 6) s).1 = none) (s : mS) (h : J_at i s) : okl_law_18 len xs (n + 1) v s ∧ (lp_law_18 len xs (n + 1) v s).1 = none := by
  rw [okl_law_18.eq_2, lp_law_18.eq_2, if_neg nb, if_neg nb]
  refine la b0 ?_
  refine lpeel (fun _ => ?_) (fun _ => ?_)
  · have q := (js_coal hi (xs (ix (v + 1))) (xs (ix (v + 2))) (xs (ix (v + 3))) (xs (ix (v + 4))) s h)
    exact la b1 (la b2 (la b3 (la b4 (la q.1 (lm (la b1 (la b2 (la b3 (la b4 (la q.2.1 (lm (lq q.2.2.1 (ih _ q.2.2.2)))))))))))))
  refine lpeel (fun _ => ?_) (fun _ => ?_)
  · have q := (js_buy hi (xs (ix (v + 1))) (xs (ix (v + 2))) (xs (ix (v + 3))) s h)
    exact la b1 (la b2 (la b3 (la q.1 (lm (la b1 (la b2 (la b3 (la q.2.1 (lm (lq q.2.2.1 (ih _ q.2.2.2)))))))))))
  refine lpeel (fun _ => ?_) (fun _ => ?_)
  · have q := (js_bench hi s h)
    exact la trivial (lm (la trivial (lm (lq q.2.2.1 (ih _ q.2.2.2)))))
  refine lpeel (fun _ => ?_) (fun _ => ?_)
  · have q := (js_charge hi (xs (ix (v + 1))) (xs (ix (v + 2))) (xs (ix (v + 3))) s h)
    exact la b1 (la b2 (la b3 (la q.1 (lm (la b1 (la b2 (la b3 (la q.2.1 (lm (lq q.2.2.1 (ih _ q.2.2.2)))))))))))
  refine lpeel (fun _ => ?_) (fun _ => ?_)
  · have q := (js_hands hi (xs (ix (v + 1))) s h)
    exact la b1 (la trivial (lm (la b1 (la trivial (lm (lq q.2.2.1 (ih _ q.2.2.2)))))))
  refine lpeel (fun _ => ?_) (fun _ => ?_)
  · have q := (js_holder hi (xs (ix (v + 1))) s h)
    exact la b1 (la trivial (lm (la b1 (la trivial (lm (lq q.2.2.1 (ih _ q.2.2.2)))))))
  refine lpeel (fun _ => ?_) (fun _ => ?_)
  · have q := (js_round hi (xs (ix (v + 1))) (xs (ix (v + 2))) s h)
    exact la b1 (la b2 (la trivial (lm (la b1 (la b2 (la trivial (lm (lq q.2.2.1 (ih _ q.2.2.2)))))))))
  refine lpeel (fun _ => ?_) (fun _ => ?_)
  · have q := (js_fog hi (xs (ix (v + 1))) (xs (ix (v + 2))) s h)
    exact la b1 (la b2 (la q.1 (lm (la b1 (la b2 (la q.2.1 (lm (lq q.2.2.1 (ih _ q.2.2.2)))))))))
  refine lpeel (fun _ => ?_) (fun _ => ?_)
  · have q := (js_gate hi (xs (ix (v + 1))) s h)
    exact la b1 (la trivial (lm (la b1 (la trivial (lm (lq q.2.2.1 (ih _ q.2.2.2)))))))
  refine lpeel (fun _ => ?_) (fun _ => ?_)
  · have q := (js_node hi (xs (ix (v + 1))) (xs (ix (v + 2))) (xs (ix (v + 3))) s h)
    exact la b1 (la b2 (la b3 (la q.1 (lm (la b1 (la b2 (la b3 (la q.2.1 (lm (lq q.2.2.1 (ih _ q.2.2.2)))))))))))
  refine lpeel (fun _ => ?_) (fun _ => ?_)
  · have q := (js_water hi (xs (ix (v + 1))) (if (xs (ix (v + 2))) = 0 then (0 : Int32) else (1 : Int32)) s h lbit)
    exact la b1 (la b2 (la trivial (lm (la q.1 (lm (la b1 (la b2 (la trivial (lm (la q.2.1 (lm (lq q.2.2.1 (ih _ q.2.2.2)))))))))))))
  refine lpeel (fun _ => ?_) (fun _ => ?_)
  · have q := (js_thing hi (xs (ix (v + 1))) (xs (ix (v + 2))) (xs (ix (v + 3))) (xs (ix (v + 4))) s h)
    exact la b1 (la b2 (la b3 (la b4 (la q.1 (lm (la b1 (la b2 (la b3 (la b4 (la q.2.1 (lm (lq q.2.2.1 (ih _ q.2.2.2)))))))))))))
  refine lpeel (fun _ => ?_) (fun _ => ?_)
  · have q := (js_cut hi (xs (ix (v + 1))) (if (xs (ix (v + 2))) = 0 then (0 : Int32) else (1 : Int32)) s h lbit)
    exact la b1 (la b2 (la trivial (lm (la q.1 (lm (la b1 (la b2 (la trivial (lm (la q.2.1 (lm (lq q.2.2.1 (ih _ q.2.2.2)))))))))))))
  refine lpeel (fun _ => ?_) (fun _ => ?_)
  · have q := (js_coin hi (xs (ix (v + 1))) (xs (ix (v + 2))) s h)
    exact la b1 (la b2 (la q.1 (lm (la b1 (la b2 (la q.2.1 (lm (lq q.2.2.1 (ih _ q.2.2.2)))))))))
  refine lpeel (fun _ => ?_) (fun _ => ?_)
  · have q := (js_frost hi (xs (ix (v + 1))) (if (xs (ix (v + 2))) = 0 then (0 : Int32) else (1 : Int32)) s h lbit)
    exact la b1 (la b2 (la trivial (lm (la q.1 (lm (la b1 (la b2 (la trivial (lm (la q.2.1 (lm (lq q.2.2.1 (ih _ q.2.2.2)))))))))))))
  refine lpeel (fun _ => ?_) (fun _ => ?_)
  · have q := (js_steps hi (xs (ix (v + 1))) s h)
    exact la b1 (la q.1 (lm (la b1 (la q.2.1 (lm (lq q.2.2.1 (ih _ q.2.2.2)))))))
  refine lpeel (fun _ => ?_) (fun _ => ?_)
  · have q := (js_read hi (xs (ix (v + 1))) s h)
    exact la b1 (la q.1 (lm (la b1 (la q.2.1 (lm (lq q.2.2.1 (ih _ q.2.2.2)))))))
  refine lpeel (fun _ => ?_) (fun _ => ?_)
  · have q := (js_right hi (xs (ix (v + 1))) (xs (ix (v + 2))) (xs (ix (v + 3))) s h)
    exact la b1 (la b2 (la b3 (la q.1 (lm (la b1 (la b2 (la b3 (la q.2.1 (lm (lq q.2.2.1 (ih _ q.2.2.2)))))))))))
  refine lpeel (fun _ => ?_) (fun _ => ?_)
  · have q := (js_bill hi (xs (ix (v + 1))) (xs (ix (v + 2))) (xs (ix (v + 3))) (xs (ix (v + 4))) s h)
    exact la b1 (la b2 (la b3 (la b4 (la q.1 (lm (la b1 (la b2 (la b3 (la b4 (la q.2.1 (lm (lq ((lg_eq _ _).mpr q.2.2.1) (ih _ q.2.2.2)))))))))))))
  refine lpeel (fun _ => ?_) (fun _ => ?_)
  · have q := (js_sell hi (xs (ix (v + 1))) (xs (ix (v + 2))) s h)
    exact la b1 (la b2 (la trivial (lm (la b1 (la b2 (la trivial (lm (lq q.2.2.1 (ih _ q.2.2.2)))))))))
  refine lpeel (fun _ => ?_) (fun _ => ?_)
  · have q := (js_feed hi (xs (ix (v + 1))) (xs (ix (v + 2))) (xs (ix (v + 3))) (xs (ix (v + 4))) (xs (ix (v + 5))) s h)
    exact la b1 (la b2 (la b3 (la b4 (la b5 (la q.1 (lm (la b1 (la b2 (la b3 (la b4 (la b5 (la q.2.1 (lm (lq q.2.2.1 (ih _ q.2.2.2)))))))))))))))
  refine lpeel (fun _ => ?_) (fun _ => ?_)
  · have q := (js_end hi (xs (ix (v + 1))) s h)
    exact la b1 (la trivial (lm (la b1 (la trivial (lm (lq q.2.2.1 (ih _ q.2.2.2)))))))
  refine lpeel (fun _ => ?_) (fun _ => ?_)
  · have q := (js_act hi (xs (ix (v + 1))) (xs (ix (v + 2))) s h)
    exact la b1 (la b2 (la q.1 (lm (la b1 (la b2 (la q.2.1 (lm (lq q.2.2.1 (ih _ q.2.2.2)))))))))
  refine lpeel (fun _ => ?_) (fun _ => ?_)
  · have q := (js_fault hi (xs (ix (v + 1))) s h)
    exact la b1 (la trivial (lm (la b1 (la trivial (lm (lq q.2.2.1 (ih _ q.2.2.2)))))))
  refine lpeel (fun _ => ?_) (fun _ => ?_)
  · have q := (js_due hi (xs (ix (v + 1))) (xs (ix (v + 2))) (xs (ix (v + 3))) (xs (ix (v + 4))) s h)
    exact la b1 (la b2 (la b3 (la b4 (la q.1 (lm (la b1 (la b2 (la b3 (la b4 (la q.2.1 (lm (lq q.2.2.1 (ih _ q.2.2.2)))))))))))))
  refine lpeel (fun _ => ?_) (fun _ => ?_)
  · have q := (js_tries hi (xs (ix (v + 1))) s h)
    exact la b1 (la q.1 (lm (la b1 (la q.2.1 (lm (lq q.2.2.1 (ih _ q.2.2.2)))))))
  refine lpeel (fun _ => ?_) (fun _ => ?_)
  · have q := (js_share hi (xs (ix (v + 1))) s h)
    exact la b1 (la q.1 (lm (la b1 (la q.2.1 (lm (lq ((lg_eq _ _).mpr q.2.2.1) (ih _ q.2.2.2)))))))
  refine lpeel (fun _ => ?_) (fun _ => ?_)
  · have q := (js_at hi (xs (ix (v + 1))) (xs (ix (v + 2))) s h)
    exact la b1 (la b2 (la q.1 (lm (la b1 (la b2 (la q.2.1 (lm (lq q.2.2.1 (ih _ q.2.2.2)))))))))
  refine lpeel (fun _ => ?_) (fun _ => ?_)
  · have q := (js_of hi (xs (ix (v + 1))) (xs (ix (v + 2))) s h)
    exact la b1 (la b2 (la q.1 (lm (la b1 (la b2 (la q.2.1 (lm (lq q.2.2.1 (ih _ q.2.2.2)))))))))
  refine lpeel (fun _ => ?_) (fun _ => ?_)
  · have q := (js_why hi (xs (ix (v + 1))) (xs (ix (v + 2))) s h)
    exact la b1 (la b2 (la q.1 (lm (la b1 (la b2 (la q.2.1 (lm (lq q.2.2.1 (ih _ q.2.2.2)))))))))
  refine lpeel (fun _ => ?_) (fun _ => ?_)
  · have q := (js_best hi (xs (ix (v + 1))) (xs (ix (v + 2))) (xs (ix (v + 3))) s h)
    exact la b1 (la b2 (la b3 (la q.1 (lm (la b1 (la b2 (la b3 (la q.2.1 (lm (lq q.2.2.1 (ih _ q.2.2.2)))))))))))
  refine lpeel (fun _ => ?_) (fun _ => ?_)
  · have q := (js_last hi s h)
    exact la q.1 (lm (la q.2.1 (lm (lq q.2.2.1 (ih _ q.2.2.2)))))
  refine lpeel (fun _ => ?_) (fun _ => ?_)
  · have q := (js_sees hi (xs (ix (v + 1))) (xs (ix (v + 2))) s h)
    exact la b1 (la b2 (la q.1 (lm (la b1 (la b2 (la q.2.1 (lm (lq q.2.2.1 (ih _ q.2.2.2)))))))))
  refine lpeel (fun _ => ?_) (fun _ => ?_)
  · have q := (js_find hi (xs (ix (v + 1))) s h)
    exact la b1 (la q.1 (lm (la b1 (la q.2.1 (lm (lq q.2.2.1 (ih _ q.2.2.2)))))))
  refine lpeel (fun _ => ?_) (fun _ => ?_)
  · have q := (js_work hi (xs (ix (v + 1))) (xs (ix (v + 2))) (xs (ix (v + 3))) s h)
    exact la b1 (la b2 (la b3 (la q.1 (lm (la b1 (la b2 (la b3 (la q.2.1 (lm (lq q.2.2.1 (ih _ q.2.2.2)))))))))))
  refine lpeel (fun _ => ?_) (fun _ => ?_)
  · have q := (js_choice hi (xs (ix (v + 1))) (xs (ix (v + 2))) (xs (ix (v + 3))) s h)
    exact la b1 (la b2 (la b3 (la q.1 (lm (la b1 (la b2 (la b3 (la q.2.1 (lm (lq q.2.2.1 (ih _ q.2.2.2)))))))))))
  refine lpeel (fun _ => ?_) (fun _ => ?_)
  · have q := (js_look hi (xs (ix (v + 1))) s h)
    exact la b1 (la q.1 (lm (la b1 (la q.2.1 (lm (lq ((lg_eq _ _).mpr q.2.2.1) (ih _ q.2.2.2)))))))
  exact ih s (js_id hi s h)
theorem law_cond {len j : Nat} (hl : len ≤ 3072) (hj : j ≤ 4000) : Int32.ofNat len - 6 < Int32.ofNat j ↔ len < j + 6 := by
  rw [lt_toInt, Int32.toInt_sub, toInt_ofNat (by omega), toInt_ofNat (by omega), show (6 : Int32).toInt = 6 from rfl, Int.bmod_eq_of_le (by omega) (by omega)]
  omega
theorem law_all {len : Nat} {xs : Nat → Int32} (hl : len ≤ 3072) : ∀ (m i n : Nat) (s : mS), i + m = 520 → m < n → J_at i s → okl_law_18 len xs n (Int32.ofNat (6 * i)) s ∧ (lp_law_18 len xs n (Int32.ofNat (6 * i)) s).1 = none := by
  intro m
  induction m with
  | zero =>
    intro i n s hi hn h
    obtain ⟨n', rfl⟩ : ∃ n', n = n' + 1 := ⟨n - 1, by omega⟩
    have hc := (law_cond (len := len) (j := 6 * i) hl (by omega)).mpr (by omega)
    rw [okl_law_18.eq_2, lp_law_18.eq_2, if_pos hc, if_pos hc]
    exact ⟨trivial, rfl⟩
  | succ m ih =>
    intro i n s hi hn h
    obtain ⟨n', rfl⟩ : ∃ n', n = n' + 1 := ⟨n - 1, by omega⟩
    by_cases hc : Int32.ofNat len - 6 < Int32.ofNat (6 * i)
    · rw [okl_law_18.eq_2, lp_law_18.eq_2, if_pos hc, if_pos hc]
      exact ⟨trivial, rfl⟩
    · have hq : ¬ len < 6 * i + 6 := fun q => hc ((law_cond (len := len) (j := 6 * i) hl (by omega)).mpr q)
      have ea : ∀ c : Nat, Int32.ofNat (6 * i) + Int32.ofNat c = Int32.ofNat (6 * i + c) := fun c => (Int32.ofNat_add _ _).symm
      have eb : ∀ c : Nat, c < 6 → mm_inb (Int32.ofNat (6 * i) + Int32.ofNat c) len = true := fun c hc => by
        rw [ea]
        exact inb_ofNat (by omega) (by omega)
      refine law_step (i := i) (by omega) hc (inb_ofNat (by omega) (by omega)) (eb 1 (by omega)) (eb 2 (by omega)) (eb 3 (by omega)) (eb 4 (by omega)) (eb 5 (by omega)) (fun s' h' => ?_) s h
      have := ih (i + 1) n' s' (by omega) (by omega) h'
      rw [show Int32.ofNat (6 * i) + 6 = Int32.ofNat (6 * (i + 1)) from (ea 6).trans (by rw [Nat.mul_add])]
      exact this
theorem law_ok {len : Nat} {xs : Nat → Int32} (hl : len ≤ 3072) (s : mS) (h : J_at 0 s) : ok_law len xs s ∧ (f_law len xs s).1 = 1 := by
  have q := law_all (xs := xs) hl 520 0 mm_N s rfl (by decide) h
  have e0 : Int32.ofNat (6 * 0) = 0 := rfl
  rw [e0] at q
  unfold ok_law f_law
  generalize lp_law_18 len xs mm_N 0 s = r at q ⊢
  obtain ⟨q1, q2⟩ := q
  obtain ⟨r1, r2⟩ := r
  dsimp only at q2
  subst q2
  exact ⟨⟨q1, trivial⟩, rfl⟩
