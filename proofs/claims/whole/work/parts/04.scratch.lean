def tK : List mm_Kd := [.inl 0, .inl 1, .inl 2, .inr (0, 3), .inr (0, 3), .inr (0, 3), .inr (0, 3), .inr (0, 3)]
def tR : Nat → Nat → Option Nat := fun k j => match Nat.beq k 2, Nat.beq j 3 with
  | true, true => some 7
  | _, _ => none
section
variable {X : Nat → Nat × (Nat → Int32)} {Y : Nat → List Int32}
theorem e_isCoal (d : Nat) (k : Int32) (I : Nat → Nat → Int32) (L : Nat → Nat → Int64) : mm_call X Y (d + 1) 13 [.ref 2, .int k] (tK, I, L, tR) = if k < 0 then some (some (.int 0), (tK, I, L, tR)) else if Int32.ofNat 3 ≤ k then some (some (.int 0), (tK, I, L, tR)) else some (some (.int 1), (tK, I, L, tR)) := by
  show mm_fix X Y (mm_call X Y d) (mm_look mc_Works_isCoal) (0, [some (.ref 2), some (.int k)], [], (tK, I, L, tR)) = _
  refine fx_go 1 (c' := (1, [some (.ref 2), some (.int k)], [.int k], (tK, I, L, tR))) rfl ?_
  refine fx_br rfl (fun h => ?_) (fun h => ?_)
  · refine fx_go 1 (c' := (18, [some (.ref 2), some (.int k)], [.int 0], (tK, I, L, tR))) rfl ?_
    exact fx_ret rfl
  · refine fx_go 4 (c' := (10, [some (.ref 2), some (.int k)], [.int (Int32.ofNat 3), .int k], (tK, I, L, tR))) rfl ?_
    refine fx_br rfl (fun h => ?_) (fun h => ?_)
    · refine fx_go 1 (c' := (18, [some (.ref 2), some (.int k)], [.int 0], (tK, I, L, tR))) rfl ?_
      exact fx_ret rfl
    · refine fx_go 2 (c' := (18, [some (.ref 2), some (.int k)], [.int 1], (tK, I, L, tR))) rfl ?_
      exact fx_ret rfl
end
