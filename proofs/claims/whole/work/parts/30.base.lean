/-! READS AND WRITES, indices, frames. -/
theorem gI_sI (s : mS) (c j c' j' : Nat) (x : Int32) : gI (sI s c j x) c' j' = if c' = c ∧ j' = j then x else gI s c' j' := id rfl
theorem gI_sL (s : mS) (c j c' j' : Nat) (x : Int64) : gI (sL s c j x) c' j' = gI s c' j' := id rfl
theorem gL_sI (s : mS) (c j c' j' : Nat) (x : Int32) : gL (sI s c j x) c' j' = gL s c' j' := id rfl
theorem gL_sL (s : mS) (c j c' j' : Nat) (x : Int64) : gL (sL s c j x) c' j' = if c' = c ∧ j' = j then x else gL s c' j' := id rfl
theorem gP_sI (s : mS) (c j : Nat) (x : Int32) : gP (sI s c j x) = gP s := id rfl
theorem gP_sL (s : mS) (c j : Nat) (x : Int64) : gP (sL s c j x) = gP s := id rfl
theorem mq_let_e {β γ : Type} (e : β) (k : β → γ) : mq_let e k = k e := rfl
theorem mq_letP_e {β : Type} (e : β) (k : β → Prop) : mq_letP e k = k e := rfl
theorem mq_el_n {β γ : Type} (a : β → γ) (b : γ) : mq_el none a b = b := rfl
theorem mq_el_s {β γ : Type} (v : β) (a : β → γ) (b : γ) : mq_el (some v) a b = a v := rfl
theorem mq_elP_n {β : Type} (A : Prop) : mq_elP (none : Option β) A = A := rfl
theorem mq_elP_s {β : Type} (v : β) (A : Prop) : mq_elP (some v) A = True := rfl
theorem toInt_ofNat {k : Nat} (h : k < 2147483648) : (Int32.ofNat k).toInt = k := by
  rw [Int32.toInt_ofNat_of_lt]
  omega
theorem ix_def (i : Int32) : ix i = i.toInt.toNat := rfl
theorem ix_ofNat {k : Nat} (h : k < 2147483648) : ix (Int32.ofNat k) = k := by
  rw [ix_def, toInt_ofNat h]
  rfl
theorem ofNat_ix {i : Int32} (h : 0 ≤ i) : Int32.ofNat (ix i) = i := by
  have h0 : 0 ≤ i.toInt := by
    have := Int32.le_iff_toInt_le.mp h
    simpa using this
  have h1 := Int32.toInt_lt i
  apply Int32.toInt_inj.mp
  rw [toInt_ofNat (by rw [ix_def]; omega), ix_def]
  omega
theorem ofNat_lt {a b : Nat} (ha : a < 2147483648) (hb : b < 2147483648) : Int32.ofNat a < Int32.ofNat b ↔ a < b := by
  rw [Int32.lt_iff_toInt_lt, toInt_ofNat ha, toInt_ofNat hb]
  omega
theorem ofNat_le {a b : Nat} (ha : a < 2147483648) (hb : b < 2147483648) : Int32.ofNat a ≤ Int32.ofNat b ↔ a ≤ b := by
  rw [Int32.le_iff_toInt_le, toInt_ofNat ha, toInt_ofNat hb]
  omega
theorem ofNat_inj {a b : Nat} (ha : a < 2147483648) (hb : b < 2147483648) : Int32.ofNat a = Int32.ofNat b ↔ a = b := by
  rw [← Int32.toInt_inj, toInt_ofNat ha, toInt_ofNat hb]
  omega
theorem ofNat_succ (a : Nat) : Int32.ofNat a + 1 = Int32.ofNat (a + 1) := by simp
theorem le_toInt {i j : Int32} : i ≤ j ↔ i.toInt ≤ j.toInt := Int32.le_iff_toInt_le
theorem lt_toInt {i j : Int32} : i < j ↔ i.toInt < j.toInt := Int32.lt_iff_toInt_lt
theorem inb_gen {i : Int32} {n : Nat} (hn : n < 2147483648) (h0 : 0 ≤ i) (h1 : i < Int32.ofNat n) : mm_inb i n = true := by
  have h2 : ¬ i < 0 := by
    rw [lt_toInt]
    rw [le_toInt] at h0
    omega
  have h3 : i.toNatClampNeg < n := by
    rw [lt_toInt, toInt_ofNat hn] at h1
    rw [le_toInt] at h0
    have h4 : (0 : Int32).toInt = 0 := rfl
    show i.toInt.toNat < n
    omega
  unfold mm_inb
  simp only [h2, decide_false, Bool.not_false, Bool.true_and]
  exact Nat.ble_eq.mpr h3
theorem inb_ofNat {k n : Nat} (hn : n < 2147483648) (h : k < n) : mm_inb (Int32.ofNat k) n = true := inb_gen hn (by rw [le_toInt, toInt_ofNat (by omega)]; have h4 : (0 : Int32).toInt = 0 := rfl; omega) ((ofNat_lt (by omega) hn).mpr h)
theorem ix_lt {i : Int32} {n : Nat} (hn : n < 2147483648) (h0 : 0 ≤ i) (h1 : i < Int32.ofNat n) : ix i < n := by
  rw [lt_toInt, toInt_ofNat hn] at h1
  rw [le_toInt] at h0
  have h4 : (0 : Int32).toInt = 0 := rfl
  rw [ix_def]
  omega
theorem ix_inj {i j : Int32} (hi : 0 ≤ i) (hj : 0 ≤ j) : ix i = ix j ↔ i = j := by
  constructor
  · intro h
    rw [← ofNat_ix hi, ← ofNat_ix hj, h]
  · intro h
    rw [h]
theorem inb_3 {i : Int32} (h0 : 0 ≤ i) (h1 : i < 3) : mm_inb i 3 = true := inb_gen (by decide) h0 h1
theorem ixl_3 {i : Int32} (h0 : 0 ≤ i) (h1 : i < 3) : ix i < 3 := ix_lt (by decide) h0 h1
theorem inb_4 {i : Int32} (h0 : 0 ≤ i) (h1 : i < 4) : mm_inb i 4 = true := inb_gen (by decide) h0 h1
theorem ixl_4 {i : Int32} (h0 : 0 ≤ i) (h1 : i < 4) : ix i < 4 := ix_lt (by decide) h0 h1
theorem inb_5 {i : Int32} (h0 : 0 ≤ i) (h1 : i < 5) : mm_inb i 5 = true := inb_gen (by decide) h0 h1
theorem ixl_5 {i : Int32} (h0 : 0 ≤ i) (h1 : i < 5) : ix i < 5 := ix_lt (by decide) h0 h1
theorem inb_6 {i : Int32} (h0 : 0 ≤ i) (h1 : i < 6) : mm_inb i 6 = true := inb_gen (by decide) h0 h1
theorem ixl_6 {i : Int32} (h0 : 0 ≤ i) (h1 : i < 6) : ix i < 6 := ix_lt (by decide) h0 h1
theorem inb_8 {i : Int32} (h0 : 0 ≤ i) (h1 : i < 8) : mm_inb i 8 = true := inb_gen (by decide) h0 h1
theorem ixl_8 {i : Int32} (h0 : 0 ≤ i) (h1 : i < 8) : ix i < 8 := ix_lt (by decide) h0 h1
theorem inb_16 {i : Int32} (h0 : 0 ≤ i) (h1 : i < 16) : mm_inb i 16 = true := inb_gen (by decide) h0 h1
theorem ixl_16 {i : Int32} (h0 : 0 ≤ i) (h1 : i < 16) : ix i < 16 := ix_lt (by decide) h0 h1
theorem inb_17 {i : Int32} (h0 : 0 ≤ i) (h1 : i < 17) : mm_inb i 17 = true := inb_gen (by decide) h0 h1
theorem ixl_17 {i : Int32} (h0 : 0 ≤ i) (h1 : i < 17) : ix i < 17 := ix_lt (by decide) h0 h1
theorem inb_20 {i : Int32} (h0 : 0 ≤ i) (h1 : i < 20) : mm_inb i 20 = true := inb_gen (by decide) h0 h1
theorem ixl_20 {i : Int32} (h0 : 0 ≤ i) (h1 : i < 20) : ix i < 20 := ix_lt (by decide) h0 h1
theorem inb_24 {i : Int32} (h0 : 0 ≤ i) (h1 : i < 24) : mm_inb i 24 = true := inb_gen (by decide) h0 h1
theorem ixl_24 {i : Int32} (h0 : 0 ≤ i) (h1 : i < 24) : ix i < 24 := ix_lt (by decide) h0 h1
theorem inb_25 {i : Int32} (h0 : 0 ≤ i) (h1 : i < 25) : mm_inb i 25 = true := inb_gen (by decide) h0 h1
theorem ixl_25 {i : Int32} (h0 : 0 ≤ i) (h1 : i < 25) : ix i < 25 := ix_lt (by decide) h0 h1
theorem inb_32 {i : Int32} (h0 : 0 ≤ i) (h1 : i < 32) : mm_inb i 32 = true := inb_gen (by decide) h0 h1
theorem ixl_32 {i : Int32} (h0 : 0 ≤ i) (h1 : i < 32) : ix i < 32 := ix_lt (by decide) h0 h1
theorem inb_40 {i : Int32} (h0 : 0 ≤ i) (h1 : i < 40) : mm_inb i 40 = true := inb_gen (by decide) h0 h1
theorem ixl_40 {i : Int32} (h0 : 0 ≤ i) (h1 : i < 40) : ix i < 40 := ix_lt (by decide) h0 h1
theorem inb_42 {i : Int32} (h0 : 0 ≤ i) (h1 : i < 42) : mm_inb i 42 = true := inb_gen (by decide) h0 h1
theorem ixl_42 {i : Int32} (h0 : 0 ≤ i) (h1 : i < 42) : ix i < 42 := ix_lt (by decide) h0 h1
theorem inb_64 {i : Int32} (h0 : 0 ≤ i) (h1 : i < 64) : mm_inb i 64 = true := inb_gen (by decide) h0 h1
theorem ixl_64 {i : Int32} (h0 : 0 ≤ i) (h1 : i < 64) : ix i < 64 := ix_lt (by decide) h0 h1
theorem inb_96 {i : Int32} (h0 : 0 ≤ i) (h1 : i < 96) : mm_inb i 96 = true := inb_gen (by decide) h0 h1
theorem ixl_96 {i : Int32} (h0 : 0 ≤ i) (h1 : i < 96) : ix i < 96 := ix_lt (by decide) h0 h1
theorem inb_100 {i : Int32} (h0 : 0 ≤ i) (h1 : i < 100) : mm_inb i 100 = true := inb_gen (by decide) h0 h1
theorem ixl_100 {i : Int32} (h0 : 0 ≤ i) (h1 : i < 100) : ix i < 100 := ix_lt (by decide) h0 h1
theorem inb_200 {i : Int32} (h0 : 0 ≤ i) (h1 : i < 200) : mm_inb i 200 = true := inb_gen (by decide) h0 h1
theorem ixl_200 {i : Int32} (h0 : 0 ≤ i) (h1 : i < 200) : ix i < 200 := ix_lt (by decide) h0 h1
theorem inb_600 {i : Int32} (h0 : 0 ≤ i) (h1 : i < 600) : mm_inb i 600 = true := inb_gen (by decide) h0 h1
theorem ixl_600 {i : Int32} (h0 : 0 ≤ i) (h1 : i < 600) : ix i < 600 := ix_lt (by decide) h0 h1
theorem inb_620 {i : Int32} (h0 : 0 ≤ i) (h1 : i < 620) : mm_inb i 620 = true := inb_gen (by decide) h0 h1
theorem ixl_620 {i : Int32} (h0 : 0 ≤ i) (h1 : i < 620) : ix i < 620 := ix_lt (by decide) h0 h1
theorem inb_1220 {i : Int32} (h0 : 0 ≤ i) (h1 : i < 1220) : mm_inb i 1220 = true := inb_gen (by decide) h0 h1
theorem ixl_1220 {i : Int32} (h0 : 0 ≤ i) (h1 : i < 1220) : ix i < 1220 := ix_lt (by decide) h0 h1
theorem inb_4880 {i : Int32} (h0 : 0 ≤ i) (h1 : i < 4880) : mm_inb i 4880 = true := inb_gen (by decide) h0 h1
theorem ixl_4880 {i : Int32} (h0 : 0 ≤ i) (h1 : i < 4880) : ix i < 4880 := ix_lt (by decide) h0 h1
theorem bit0 : mm_bit 0 = true := rfl
theorem bit1 : mm_bit 1 = true := rfl
theorem bit_of {x : Int32} (h : x = 0 ∨ x = 1) : mm_bit x = true := by
  rcases h with h | h <;> subst h <;> rfl
/-! frames -/
def fpda (A : List Nat) (F : List (Nat × Nat)) (a : Bool) (c : Nat) : Bool := !(A.contains c) && (!a || decide (c < 40) || decide (80 ≤ c)) && F.all (fun p => !(Nat.beq p.1 c))
def fpd (A : List Nat) (F : List (Nat × Nat)) (a : Bool) (p : Nat × Nat) : Bool := !(A.contains p.1) && (!a || decide (p.1 < 40) || decide (80 ≤ p.1)) && !(F.contains p)
def fpq (A : List Nat) (F : List (Nat × Nat)) (a : Bool) (SA : List Nat) (SF : List (Nat × Nat)) : Bool := SA.all (fpda A F a) && SF.all (fpd A F a)
theorem fp_aa {a : Bool} {c : Nat} (h : (!a || decide (c < 40) || decide (80 ≤ c)) = true) : a = true → c < 40 ∨ 80 ≤ c := by
  intro ha
  subst ha
  simp at h
  exact h
theorem fpA {A : List Nat} {F : List (Nat × Nat)} {a : Bool} {s t : mS} {c : Nat} (h : fp A F a s t) (hq : fpda A F a c = true) : gI t c = gI s c ∧ gL t c = gL s c := by
  unfold fpda at hq
  rw [Bool.and_eq_true, Bool.and_eq_true] at hq
  have h1 : c ∉ A := by simpa using hq.1.1
  have h2 := fp_aa hq.1.2
  have h3 : ∀ j, (c, j) ∉ F := by
    intro j hj
    have := List.all_eq_true.mp hq.2 _ hj
    simp at this
  exact ⟨funext fun j => (h.1 c h1 h2 j (h3 j)).1, funext fun j => (h.1 c h1 h2 j (h3 j)).2⟩
theorem fpF {A : List Nat} {F : List (Nat × Nat)} {a : Bool} {s t : mS} {c j : Nat} (h : fp A F a s t) (hq : fpd A F a (c, j) = true) : gI t c j = gI s c j ∧ gL t c j = gL s c j := by
  unfold fpd at hq
  rw [Bool.and_eq_true, Bool.and_eq_true] at hq
  have h1 : c ∉ A := by simpa using hq.1.1
  have h2 := fp_aa hq.1.2
  have h3 : (c, j) ∉ F := by simpa using hq.2
  exact h.1 c h1 h2 j h3
theorem fqA {A : List Nat} {F : List (Nat × Nat)} {a : Bool} {SA : List Nat} {SF : List (Nat × Nat)} {s t : mS} {c : Nat} (h : fp A F a s t) (hq : fpq A F a SA SF = true) (hc : c ∈ SA) : gI t c = gI s c ∧ gL t c = gL s c := by
  unfold fpq at hq
  rw [Bool.and_eq_true] at hq
  exact fpA h (List.all_eq_true.mp hq.1 _ hc)
theorem fqF {A : List Nat} {F : List (Nat × Nat)} {a : Bool} {SA : List Nat} {SF : List (Nat × Nat)} {s t : mS} {c j : Nat} (h : fp A F a s t) (hq : fpq A F a SA SF = true) (hc : (c, j) ∈ SF) : gI t c j = gI s c j ∧ gL t c j = gL s c j := by
  unfold fpq at hq
  rw [Bool.and_eq_true] at hq
  exact fpF h (List.all_eq_true.mp hq.2 _ hc)
