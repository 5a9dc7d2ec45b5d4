/-! THE RELATION between the class's cells and the model's, in groups; what a group speaks of. -/
def hk_cnt (h : Nat → Int32) (x : Int32) : Nat → Nat
  | 0 => 0
  | n + 1 => hk_cnt h x n + if h n = x then 1 else 0
def hk_prev (h : Nat → Int32) (x : Int32) : Nat → Int32
  | 0 => -1
  | n + 1 => if h n = x then Int32.ofNat n else hk_prev h x n
def J_sky (s : mS) : Prop := gI s 2 = gI s 122 ∧ gI s 1 1 = gI s 116 9 ∧ gI s 1 2 = gI s 116 10 ∧ (∀ d, 0 ≤ gI s 122 d ∧ gI s 122 d ≤ 3)
def sa_sky : List Nat := [2, 122]
def sf_sky : List (Nat × Nat) := [(1, 1), (1, 2), (116, 9), (116, 10)]
theorem jf_sky {A : List Nat} {F : List (Nat × Nat)} {a : Bool} {s t : mS} (h : fp A F a s t) (hq : fpq A F a sa_sky sf_sky = true) (hJ : J_sky s) : J_sky t := by
  unfold J_sky at hJ ⊢
  simp only [(fqA h hq (by decide : 2 ∈ sa_sky)).1, (fqA h hq (by decide : 122 ∈ sa_sky)).1, (fqF h hq (by decide : (1, 1) ∈ sf_sky)).1, (fqF h hq (by decide : (1, 2) ∈ sf_sky)).1, (fqF h hq (by decide : (116, 9) ∈ sf_sky)).1, (fqF h hq (by decide : (116, 10) ∈ sf_sky)).1]
  exact hJ
def J_coal (s : mS) : Prop := gI s 4 = gI s 118 ∧ gI s 5 = gI s 119 ∧ gI s 6 = gI s 120 ∧ gI s 7 = gI s 121 ∧ (∀ k, 0 ≤ gI s 118 k ∧ gI s 118 k ≤ 200) ∧ (∀ k, 0 ≤ gI s 119 k ∧ gI s 119 k ≤ 80) ∧ (∀ k, 0 ≤ gI s 120 k ∧ gI s 120 k ≤ 20) ∧ (∀ k, 0 ≤ gI s 121 k ∧ gI s 121 k ≤ 9999)
def sa_coal : List Nat := [4, 5, 6, 7, 118, 119, 120, 121]
def sf_coal : List (Nat × Nat) := []
theorem jf_coal {A : List Nat} {F : List (Nat × Nat)} {a : Bool} {s t : mS} (h : fp A F a s t) (hq : fpq A F a sa_coal sf_coal = true) (hJ : J_coal s) : J_coal t := by
  unfold J_coal at hJ ⊢
  simp only [(fqA h hq (by decide : 4 ∈ sa_coal)).1, (fqA h hq (by decide : 5 ∈ sa_coal)).1, (fqA h hq (by decide : 6 ∈ sa_coal)).1, (fqA h hq (by decide : 7 ∈ sa_coal)).1, (fqA h hq (by decide : 118 ∈ sa_coal)).1, (fqA h hq (by decide : 119 ∈ sa_coal)).1, (fqA h hq (by decide : 120 ∈ sa_coal)).1, (fqA h hq (by decide : 121 ∈ sa_coal)).1]
  exact hJ
def J_bench (s : mS) : Prop := gI s 9 = gI s 123 ∧ gI s 10 = gI s 124 ∧ gI s 11 = gI s 125 ∧ (∀ b, b < 6 → gI s 8 b = if gI s 126 b = -1 then 0 else 16 - gI s 126 b) ∧ (∀ b, b < 6 → -1 ≤ gI s 126 b ∧ gI s 126 b ≤ 15) ∧ (∀ b, 0 ≤ gI s 123 b ∧ gI s 123 b ≤ 1800) ∧ (∀ b, 0 ≤ gI s 124 b ∧ gI s 124 b ≤ 720) ∧ (∀ b, 0 ≤ gI s 125 b ∧ gI s 125 b ≤ 180) ∧ gI s 3 8 = gI s 116 4 ∧ 0 ≤ gI s 116 4 ∧ gI s 116 4 ≤ 6 ∧ (∀ b, b < 6 → gI s 116 4 ≤ Int32.ofNat b → gI s 126 b = -1) ∧ gI s 3 9 = gI s 116 2 ∧ 0 ≤ gI s 116 2 ∧ gI s 116 2 ≤ 30 ∧ gI s 3 10 = gI s 116 3 ∧ 0 ≤ gI s 116 3 ∧ gI s 116 3 ≤ 10
def sa_bench : List Nat := [8, 9, 10, 11, 123, 124, 125, 126]
def sf_bench : List (Nat × Nat) := [(3, 8), (3, 9), (3, 10), (116, 2), (116, 3), (116, 4)]
theorem jf_bench {A : List Nat} {F : List (Nat × Nat)} {a : Bool} {s t : mS} (h : fp A F a s t) (hq : fpq A F a sa_bench sf_bench = true) (hJ : J_bench s) : J_bench t := by
  unfold J_bench at hJ ⊢
  simp only [(fqA h hq (by decide : 8 ∈ sa_bench)).1, (fqA h hq (by decide : 9 ∈ sa_bench)).1, (fqA h hq (by decide : 10 ∈ sa_bench)).1, (fqA h hq (by decide : 11 ∈ sa_bench)).1, (fqA h hq (by decide : 123 ∈ sa_bench)).1, (fqA h hq (by decide : 124 ∈ sa_bench)).1, (fqA h hq (by decide : 125 ∈ sa_bench)).1, (fqA h hq (by decide : 126 ∈ sa_bench)).1, (fqF h hq (by decide : (3, 8) ∈ sf_bench)).1, (fqF h hq (by decide : (3, 9) ∈ sf_bench)).1, (fqF h hq (by decide : (3, 10) ∈ sf_bench)).1, (fqF h hq (by decide : (116, 2) ∈ sf_bench)).1, (fqF h hq (by decide : (116, 3) ∈ sf_bench)).1, (fqF h hq (by decide : (116, 4) ∈ sf_bench)).1]
  exact hJ
def J_level (s : mS) : Prop := gI s 3 11 = gI s 116 5 ∧ gI s 3 12 = gI s 116 6 ∧ 0 ≤ gI s 116 6 ∧ gI s 116 6 ≤ gI s 116 5 ∧ gI s 116 5 ≤ 99999 ∧ gL s 3 13 = gL s 116 36 ∧ gL s 3 14 = gL s 116 37
def sa_level : List Nat := []
def sf_level : List (Nat × Nat) := [(3, 11), (3, 12), (3, 13), (3, 14), (116, 5), (116, 6), (116, 36), (116, 37)]
theorem jf_level {A : List Nat} {F : List (Nat × Nat)} {a : Bool} {s t : mS} (h : fp A F a s t) (hq : fpq A F a sa_level sf_level = true) (hJ : J_level s) : J_level t := by
  unfold J_level at hJ ⊢
  simp only [(fqF h hq (by decide : (3, 11) ∈ sf_level)).1, (fqF h hq (by decide : (3, 12) ∈ sf_level)).1, (fqF h hq (by decide : (116, 5) ∈ sf_level)).1, (fqF h hq (by decide : (116, 6) ∈ sf_level)).1, (fqF h hq (by decide : (3, 13) ∈ sf_level)).2, (fqF h hq (by decide : (3, 14) ∈ sf_level)).2, (fqF h hq (by decide : (116, 36) ∈ sf_level)).2, (fqF h hq (by decide : (116, 37) ∈ sf_level)).2]
  exact hJ
def J_yard (s : mS) : Prop := gL s 116 42 = (gI s 3 15).toInt64 ∧ gL s 116 43 = (gI s 3 16).toInt64 ∧ 0 ≤ gI s 3 15 ∧ 0 ≤ gI s 3 16 ∧ gI s 3 15 ≤ 4320 * gI s 116 1 ∧ gI s 3 16 ≤ 1080 * gI s 116 1
def sa_yard : List Nat := []
def sf_yard : List (Nat × Nat) := [(3, 15), (3, 16), (116, 1), (116, 42), (116, 43)]
theorem jf_yard {A : List Nat} {F : List (Nat × Nat)} {a : Bool} {s t : mS} (h : fp A F a s t) (hq : fpq A F a sa_yard sf_yard = true) (hJ : J_yard s) : J_yard t := by
  unfold J_yard at hJ ⊢
  simp only [(fqF h hq (by decide : (3, 15) ∈ sf_yard)).1, (fqF h hq (by decide : (3, 16) ∈ sf_yard)).1, (fqF h hq (by decide : (116, 1) ∈ sf_yard)).1, (fqF h hq (by decide : (116, 42) ∈ sf_yard)).2, (fqF h hq (by decide : (116, 43) ∈ sf_yard)).2]
  exact hJ
def J_gen (s : mS) : Prop := gI s 0 9 = gI s 116 1 ∧ 0 ≤ gI s 116 1 ∧ gI s 116 1 ≤ 3999 ∧ gI s 0 10 = gI s 116 44 ∧ gI s 0 11 = gI s 116 45 ∧ gI s 0 12 = gI s 116 46 ∧ gI s 0 14 = gI s 116 56 ∧ (gI s 116 56 = 0 ∨ gI s 116 56 = 1) ∧ gL s 0 13 = gL s 116 38
def sa_gen : List Nat := []
def sf_gen : List (Nat × Nat) := [(0, 9), (0, 10), (0, 11), (0, 12), (0, 13), (0, 14), (116, 1), (116, 38), (116, 44), (116, 45), (116, 46), (116, 56)]
theorem jf_gen {A : List Nat} {F : List (Nat × Nat)} {a : Bool} {s t : mS} (h : fp A F a s t) (hq : fpq A F a sa_gen sf_gen = true) (hJ : J_gen s) : J_gen t := by
  unfold J_gen at hJ ⊢
  simp only [(fqF h hq (by decide : (0, 9) ∈ sf_gen)).1, (fqF h hq (by decide : (0, 10) ∈ sf_gen)).1, (fqF h hq (by decide : (0, 11) ∈ sf_gen)).1, (fqF h hq (by decide : (0, 12) ∈ sf_gen)).1, (fqF h hq (by decide : (0, 14) ∈ sf_gen)).1, (fqF h hq (by decide : (116, 1) ∈ sf_gen)).1, (fqF h hq (by decide : (116, 44) ∈ sf_gen)).1, (fqF h hq (by decide : (116, 45) ∈ sf_gen)).1, (fqF h hq (by decide : (116, 46) ∈ sf_gen)).1, (fqF h hq (by decide : (116, 56) ∈ sf_gen)).1, (fqF h hq (by decide : (0, 13) ∈ sf_gen)).2, (fqF h hq (by decide : (116, 38) ∈ sf_gen)).2]
  exact hJ
def J_things (s : mS) : Prop := gI s 13 = gI s 132 ∧ gI s 14 = gI s 133 ∧ gI s 15 = gI s 134 ∧ gI s 16 = gI s 135 ∧ gI s 17 = gI s 140 ∧ gI s 18 = gI s 141 ∧ gI s 19 = gI s 136 ∧ gI s 20 = gI s 137 ∧ gI s 21 = gI s 138 ∧ (∀ t, gI s 22 t = (gL s 139 t).toInt32) ∧ gI s 12 12 = gI s 116 8 ∧ 0 ≤ gI s 116 8 ∧ gI s 116 8 ≤ 40 ∧ (∀ t, gI s 140 t = 0 ∨ gI s 140 t = 1) ∧ (∀ t, gI s 141 t = 0 ∨ gI s 141 t = 1) ∧ (∀ t, 0 ≤ gI s 132 t ∧ gI s 132 t < gI s 116 7) ∧ (∀ t, 0 ≤ gI s 134 t ∧ gI s 134 t ≤ 99)
def sa_things : List Nat := [13, 14, 15, 16, 17, 18, 19, 20, 21, 22, 132, 133, 134, 135, 136, 137, 138, 139, 140, 141]
def sf_things : List (Nat × Nat) := [(12, 12), (116, 7), (116, 8)]
theorem jf_things {A : List Nat} {F : List (Nat × Nat)} {a : Bool} {s t : mS} (h : fp A F a s t) (hq : fpq A F a sa_things sf_things = true) (hJ : J_things s) : J_things t := by
  unfold J_things at hJ ⊢
  simp only [(fqA h hq (by decide : 13 ∈ sa_things)).1, (fqA h hq (by decide : 14 ∈ sa_things)).1, (fqA h hq (by decide : 15 ∈ sa_things)).1, (fqA h hq (by decide : 16 ∈ sa_things)).1, (fqA h hq (by decide : 17 ∈ sa_things)).1, (fqA h hq (by decide : 18 ∈ sa_things)).1, (fqA h hq (by decide : 19 ∈ sa_things)).1, (fqA h hq (by decide : 20 ∈ sa_things)).1, (fqA h hq (by decide : 21 ∈ sa_things)).1, (fqA h hq (by decide : 22 ∈ sa_things)).1, (fqA h hq (by decide : 132 ∈ sa_things)).1, (fqA h hq (by decide : 133 ∈ sa_things)).1, (fqA h hq (by decide : 134 ∈ sa_things)).1, (fqA h hq (by decide : 135 ∈ sa_things)).1, (fqA h hq (by decide : 136 ∈ sa_things)).1, (fqA h hq (by decide : 137 ∈ sa_things)).1, (fqA h hq (by decide : 138 ∈ sa_things)).1, (fqA h hq (by decide : 140 ∈ sa_things)).1, (fqA h hq (by decide : 141 ∈ sa_things)).1, (fqA h hq (by decide : 139 ∈ sa_things)).2, (fqF h hq (by decide : (12, 12) ∈ sf_things)).1, (fqF h hq (by decide : (116, 7) ∈ sf_things)).1, (fqF h hq (by decide : (116, 8) ∈ sf_things)).1]
  exact hJ
def J_net (s : mS) : Prop := gI s 26 = gI s 127 ∧ gI s 27 = gI s 128 ∧ gI s 28 = gI s 129 ∧ gI s 29 = gI s 130 ∧ gI s 25 10 = gI s 116 7 ∧ 1 ≤ gI s 116 7 ∧ gI s 116 7 ≤ 16 ∧ gI s 25 11 = gI s 116 11 ∧ 0 ≤ gI s 116 11 ∧ gI s 116 11 ≤ 99 ∧ gI s 127 0 = -1 ∧ (∀ n, 1 ≤ n → n < ix (gI s 116 7) → 0 ≤ gI s 127 n ∧ gI s 127 n < Int32.ofNat n) ∧ (∀ n, 0 ≤ gI s 128 n ∧ gI s 128 n ≤ 9) ∧ (∀ n, -9 ≤ gI s 129 n ∧ gI s 129 n ≤ 9) ∧ (∀ n, gI s 130 n = 0 ∨ gI s 130 n = 1)
def sa_net : List Nat := [26, 27, 28, 29, 127, 128, 129, 130]
def sf_net : List (Nat × Nat) := [(25, 10), (25, 11), (116, 7), (116, 11)]
theorem jf_net {A : List Nat} {F : List (Nat × Nat)} {a : Bool} {s t : mS} (h : fp A F a s t) (hq : fpq A F a sa_net sf_net = true) (hJ : J_net s) : J_net t := by
  unfold J_net at hJ ⊢
  simp only [(fqA h hq (by decide : 26 ∈ sa_net)).1, (fqA h hq (by decide : 27 ∈ sa_net)).1, (fqA h hq (by decide : 28 ∈ sa_net)).1, (fqA h hq (by decide : 29 ∈ sa_net)).1, (fqA h hq (by decide : 127 ∈ sa_net)).1, (fqA h hq (by decide : 128 ∈ sa_net)).1, (fqA h hq (by decide : 129 ∈ sa_net)).1, (fqA h hq (by decide : 130 ∈ sa_net)).1, (fqF h hq (by decide : (25, 10) ∈ sf_net)).1, (fqF h hq (by decide : (25, 11) ∈ sf_net)).1, (fqF h hq (by decide : (116, 7) ∈ sf_net)).1, (fqF h hq (by decide : (116, 11) ∈ sf_net)).1]
  exact hJ
def J_was (s : mS) : Prop := gI s 32 = gI s 149 ∧ gI s 33 = gI s 148 ∧ gI s 34 = gI s 131 ∧ 0 ≤ gI s 116 55 ∧ gI s 116 55 ≤ gI s 116 7 ∧ (∀ n, gI s 116 55 ≤ Int32.ofNat n → n < 16 → gI s 149 n = 0 ∧ gI s 148 n = 0) ∧ (∀ n, 0 ≤ gI s 148 n ∧ gI s 148 n ≤ 1000000)
def sa_was : List Nat := [32, 33, 34, 131, 148, 149]
def sf_was : List (Nat × Nat) := [(116, 7), (116, 55)]
theorem jf_was {A : List Nat} {F : List (Nat × Nat)} {a : Bool} {s t : mS} (h : fp A F a s t) (hq : fpq A F a sa_was sf_was = true) (hJ : J_was s) : J_was t := by
  unfold J_was at hJ ⊢
  simp only [(fqA h hq (by decide : 32 ∈ sa_was)).1, (fqA h hq (by decide : 33 ∈ sa_was)).1, (fqA h hq (by decide : 34 ∈ sa_was)).1, (fqA h hq (by decide : 131 ∈ sa_was)).1, (fqA h hq (by decide : 148 ∈ sa_was)).1, (fqA h hq (by decide : 149 ∈ sa_was)).1, (fqF h hq (by decide : (116, 7) ∈ sf_was)).1, (fqF h hq (by decide : (116, 55) ∈ sf_was)).1]
  exact hJ
def J_books (s : mS) : Prop := gI s 83 = gI s 150 ∧ gI s 86 = gI s 151 ∧ gI s 87 = gI s 152 ∧ gI s 88 = gI s 156 ∧ gI s 82 8 = gI s 116 57 ∧ 0 ≤ gI s 116 57 ∧ gI s 116 57 ≤ 200 ∧ gI s 91 = gI s 153 ∧ gI s 92 = gI s 155 ∧ gI s 93 = gI s 154 ∧ gI s 82 12 = gI s 116 58 ∧ 0 ≤ gI s 116 58 ∧ gI s 116 58 ≤ 100 ∧ (∀ r, gI s 156 r = 0 ∨ gI s 156 r = 1) ∧ (∀ r, r < ix (gI s 116 57) → 0 ≤ gI s 150 r ∧ gI s 150 r < gI s 116 8 ∧ gI s 133 (ix (gI s 150 r)) = 0) ∧ (∀ r, r < ix (gI s 116 57) → gI s 84 r = Int32.ofNat (hk_cnt (gI s 150) (gI s 150 r) r)) ∧ (∀ r, r < ix (gI s 116 57) → gI s 85 r = hk_prev (gI s 150) (gI s 150 r) r) ∧ (∀ r, r < ix (gI s 116 57) → 0 ≤ gI s 151 r ∧ gI s 151 r ≤ gI s 116 1) ∧ (∀ r, r + 1 < ix (gI s 116 57) → gI s 151 r ≤ gI s 151 (r + 1)) ∧ (∀ i, i < ix (gI s 116 58) → 0 ≤ gI s 153 i ∧ gI s 153 i < gI s 116 57)
def sa_books : List Nat := [83, 84, 85, 86, 87, 88, 91, 92, 93, 133, 150, 151, 152, 153, 154, 155, 156]
def sf_books : List (Nat × Nat) := [(82, 8), (82, 12), (116, 1), (116, 8), (116, 57), (116, 58)]
theorem jf_books {A : List Nat} {F : List (Nat × Nat)} {a : Bool} {s t : mS} (h : fp A F a s t) (hq : fpq A F a sa_books sf_books = true) (hJ : J_books s) : J_books t := by
  unfold J_books at hJ ⊢
  simp only [(fqA h hq (by decide : 83 ∈ sa_books)).1, (fqA h hq (by decide : 84 ∈ sa_books)).1, (fqA h hq (by decide : 85 ∈ sa_books)).1, (fqA h hq (by decide : 86 ∈ sa_books)).1, (fqA h hq (by decide : 87 ∈ sa_books)).1, (fqA h hq (by decide : 88 ∈ sa_books)).1, (fqA h hq (by decide : 91 ∈ sa_books)).1, (fqA h hq (by decide : 92 ∈ sa_books)).1, (fqA h hq (by decide : 93 ∈ sa_books)).1, (fqA h hq (by decide : 133 ∈ sa_books)).1, (fqA h hq (by decide : 150 ∈ sa_books)).1, (fqA h hq (by decide : 151 ∈ sa_books)).1, (fqA h hq (by decide : 152 ∈ sa_books)).1, (fqA h hq (by decide : 153 ∈ sa_books)).1, (fqA h hq (by decide : 154 ∈ sa_books)).1, (fqA h hq (by decide : 155 ∈ sa_books)).1, (fqA h hq (by decide : 156 ∈ sa_books)).1, (fqF h hq (by decide : (82, 8) ∈ sf_books)).1, (fqF h hq (by decide : (82, 12) ∈ sf_books)).1, (fqF h hq (by decide : (116, 1) ∈ sf_books)).1, (fqF h hq (by decide : (116, 8) ∈ sf_books)).1, (fqF h hq (by decide : (116, 57) ∈ sf_books)).1, (fqF h hq (by decide : (116, 58) ∈ sf_books)).1]
  exact hJ
def J_money (s : mS) : Prop := gL s 82 13 = gL s 116 39 ∧ gL s 82 14 = gL s 116 40 ∧ gL s 82 15 = gL s 116 41
def sa_money : List Nat := []
def sf_money : List (Nat × Nat) := [(82, 13), (82, 14), (82, 15), (116, 39), (116, 40), (116, 41)]
theorem jf_money {A : List Nat} {F : List (Nat × Nat)} {a : Bool} {s t : mS} (h : fp A F a s t) (hq : fpq A F a sa_money sf_money = true) (hJ : J_money s) : J_money t := by
  unfold J_money at hJ ⊢
  simp only [(fqF h hq (by decide : (82, 13) ∈ sf_money)).2, (fqF h hq (by decide : (82, 14) ∈ sf_money)).2, (fqF h hq (by decide : (82, 15) ∈ sf_money)).2, (fqF h hq (by decide : (116, 39) ∈ sf_money)).2, (fqF h hq (by decide : (116, 40) ∈ sf_money)).2, (fqF h hq (by decide : (116, 41) ∈ sf_money)).2]
  exact hJ
def J_tape (s : mS) : Prop := gI s 37 = gI s 167 ∧ gI s 36 5 = gI s 116 80 ∧ 0 ≤ gI s 116 80 ∧ gI s 116 80 ≤ 600 ∧ gI s 36 6 = gI s 116 87 ∧ gI s 36 7 = gI s 116 89
def sa_tape : List Nat := [37, 167]
def sf_tape : List (Nat × Nat) := [(36, 5), (36, 6), (36, 7), (116, 80), (116, 87), (116, 89)]
theorem jf_tape {A : List Nat} {F : List (Nat × Nat)} {a : Bool} {s t : mS} (h : fp A F a s t) (hq : fpq A F a sa_tape sf_tape = true) (hJ : J_tape s) : J_tape t := by
  unfold J_tape at hJ ⊢
  simp only [(fqA h hq (by decide : 37 ∈ sa_tape)).1, (fqA h hq (by decide : 167 ∈ sa_tape)).1, (fqF h hq (by decide : (36, 5) ∈ sf_tape)).1, (fqF h hq (by decide : (36, 6) ∈ sf_tape)).1, (fqF h hq (by decide : (36, 7) ∈ sf_tape)).1, (fqF h hq (by decide : (116, 80) ∈ sf_tape)).1, (fqF h hq (by decide : (116, 87) ∈ sf_tape)).1, (fqF h hq (by decide : (116, 89) ∈ sf_tape)).1]
  exact hJ
def J_impr (s : mS) : Prop := gI s 112 = gI s 176 ∧ gI s 113 = gI s 177 ∧ gI s 114 = gI s 178 ∧ gI s 111 4 = gI s 116 103 ∧ 0 ≤ gI s 116 103 ∧ gI s 116 103 ≤ 8 ∧ (∀ i, i < ix (gI s 116 103) → 1 ≤ gI s 176 i ∧ gI s 176 i < gI s 116 7) ∧ (∀ i, 0 ≤ gI s 178 i ∧ gI s 178 i ≤ 999)
def sa_impr : List Nat := [112, 113, 114, 176, 177, 178]
def sf_impr : List (Nat × Nat) := [(111, 4), (116, 7), (116, 103)]
theorem jf_impr {A : List Nat} {F : List (Nat × Nat)} {a : Bool} {s t : mS} (h : fp A F a s t) (hq : fpq A F a sa_impr sf_impr = true) (hJ : J_impr s) : J_impr t := by
  unfold J_impr at hJ ⊢
  simp only [(fqA h hq (by decide : 112 ∈ sa_impr)).1, (fqA h hq (by decide : 113 ∈ sa_impr)).1, (fqA h hq (by decide : 114 ∈ sa_impr)).1, (fqA h hq (by decide : 176 ∈ sa_impr)).1, (fqA h hq (by decide : 177 ∈ sa_impr)).1, (fqA h hq (by decide : 178 ∈ sa_impr)).1, (fqF h hq (by decide : (111, 4) ∈ sf_impr)).1, (fqF h hq (by decide : (116, 7) ∈ sf_impr)).1, (fqF h hq (by decide : (116, 103) ∈ sf_impr)).1]
  exact hJ
def J_eyes (s : mS) : Prop := gI s 103 = gI s 174 ∧ (∀ n, -1 ≤ gI s 174 n ∧ gI s 174 n ≤ 1)
def sa_eyes : List Nat := [103, 174]
def sf_eyes : List (Nat × Nat) := []
theorem jf_eyes {A : List Nat} {F : List (Nat × Nat)} {a : Bool} {s t : mS} (h : fp A F a s t) (hq : fpq A F a sa_eyes sf_eyes = true) (hJ : J_eyes s) : J_eyes t := by
  unfold J_eyes at hJ ⊢
  simp only [(fqA h hq (by decide : 103 ∈ sa_eyes)).1, (fqA h hq (by decide : 174 ∈ sa_eyes)).1]
  exact hJ
def J_share (s : mS) : Prop := (∀ i, gI s 117 i = mm_parts.getD i 0)
def sa_share : List Nat := [117]
def sf_share : List (Nat × Nat) := []
theorem jf_share {A : List Nat} {F : List (Nat × Nat)} {a : Bool} {s t : mS} (h : fp A F a s t) (hq : fpq A F a sa_share sf_share = true) (hJ : J_share s) : J_share t := by
  unfold J_share at hJ ⊢
  simp only [(fqA h hq (by decide : 117 ∈ sa_share)).1]
  exact hJ
