/-! NUMBERS: what the walked functions ask, decided over naturals -/
theorem ofn (n : Nat) : Int32.ofNat n = nI n := rfl
theorem ofl (n : Nat) : Int64.ofNat n = lN n := rfl
theorem c_le_t {a b : Nat} (h : a ≤ b ∧ b < 2147483648) : (nI a ≤ nI b) = True := eq_true (nI_le h.1 h.2)
theorem c_le_f {a b : Nat} (h : b < a ∧ a < 2147483648) : (nI a ≤ nI b) = False := eq_false (nI_ge h.1 h.2)
theorem c_lt_t {a b : Nat} (h : a < b ∧ b < 2147483648) : (nI a < nI b) = True := eq_true (nI_lt h.1 h.2)
theorem c_lt_f {a b : Nat} (h : b ≤ a ∧ a < 2147483648) : (nI a < nI b) = False := eq_false (nI_nlt h.1 h.2)
theorem c_eq_f {a b : Nat} (h : a ≠ b ∧ a < 2147483648 ∧ b < 2147483648) : (nI a = nI b) = False := eq_false (fun e => h.1 ((nI_eq h.2.1 h.2.2).mp e))
theorem c_eq_t {a b : Nat} (h : a = b) : (nI a = nI b) = True := eq_true (by rw [h])
theorem m1_toInt : (-1 : Int32).toInt = -1 := by decide
theorem m2_toInt : (-2 : Int32).toInt = -2 := by decide
theorem nI_nem1 {a : Nat} (h : a < 2147483648) : ¬ nI a = (-1 : Int32) := fun e => by
  have h1 := congrArg Int32.toInt e
  rw [nI_toInt h, m1_toInt] at h1
  omega
theorem c_m1_f {a : Nat} (h : a < 2147483648) : (nI a = (-1 : Int32)) = False := eq_false (nI_nem1 h)
theorem c_m1_f' {a : Nat} (h : a < 2147483648) : ((-1 : Int32) = nI a) = False := eq_false (fun e => nI_nem1 h e.symm)
theorem c_m1_lt {a : Nat} (h : a < 2147483648) : ((-1 : Int32) < nI a) = True := eq_true (by rw [Int32.lt_iff_toInt_lt, m1_toInt, nI_toInt h]; omega)
theorem c_m1_nlt {a : Nat} (h : a < 2147483648) : (nI a < (-1 : Int32)) = False := eq_false (by rw [Int32.lt_iff_toInt_lt, m1_toInt, nI_toInt h]; omega)
theorem c_m1_le {a : Nat} (h : a < 2147483648) : ((-1 : Int32) ≤ nI a) = True := eq_true (by rw [Int32.le_iff_toInt_le, m1_toInt, nI_toInt h]; omega)
theorem c_m1_nle {a : Nat} (h : a < 2147483648) : (nI a ≤ (-1 : Int32)) = False := eq_false (by rw [Int32.le_iff_toInt_le, m1_toInt, nI_toInt h]; omega)
theorem c_inA {a N : Nat} (h : a < N ∧ N < 2147483648) : inA (nI a) N = True := eq_true (nI_inA h.1 (by omega))
theorem c_cl {a : Nat} (h : a < 2147483648) : (nI a).toNatClampNeg = a := nI_clamp h
theorem c_sub {a b : Nat} (h : b ≤ a) : nI a - nI b = nI (a - b) := pk_sub h
theorem c_add (a b : Nat) : nI a + nI b = nI (a + b) := nI_add a b
theorem c_mul (a b : Nat) : nI a * nI b = nI (a * b) := pk_mul a b
theorem k_0 : (0 : Int32) = nI 0 := rfl
theorem k_1 : (1 : Int32) = nI 1 := rfl
theorem k_2 : (2 : Int32) = nI 2 := rfl
theorem k_3 : (3 : Int32) = nI 3 := rfl
theorem k_4 : (4 : Int32) = nI 4 := rfl
theorem k_5 : (5 : Int32) = nI 5 := rfl
theorem k_6 : (6 : Int32) = nI 6 := rfl
theorem k_7 : (7 : Int32) = nI 7 := rfl
theorem k_8 : (8 : Int32) = nI 8 := rfl
theorem k_9 : (9 : Int32) = nI 9 := rfl
theorem k_10 : (10 : Int32) = nI 10 := rfl
theorem k_24 : (24 : Int32) = nI 24 := rfl
theorem k_60 : (60 : Int32) = nI 60 := rfl
theorem k_68 : (68 : Int32) = nI 68 := rfl
theorem k_236 : (236 : Int32) = nI 236 := rfl
theorem nI_0' : nI 0 = 0 := rfl
theorem z_ne1 : ((1 : Int32) = 0) = False := eq_false (by decide)
theorem one_ne : ¬ (1 : Int32) = 0 := by decide
theorem uB {α β : Type} (a : α) (f : α → Option β) : (some a).bind f = f a := rfl
/-- an object of rows: its numbers up to its length -/
def RowIs (σ : Mem) (i n : Nat) (f : Nat → Int32) : Prop := σ.1 i 1 = nI n ∧ ∀ j, j < n → σ.1 (i + 1) j = f j
theorem x3_has_t {σ : Mem} {i n j : Nat} {f : Nat → Int32} (h : RowIs σ i n f) (hn : n ≤ cap i) (hc : cap i ≤ 62) (hj : j < n) : X3_has i σ (nI j) = some (σ, 1) := by
  simp (disch := omega) only [X3_has, h.1, ofn, k_0, k_1, c_lt_f, c_le_f, if_false]
theorem x3_has_f {σ : Mem} {i n : Nat} {f : Nat → Int32} (h : RowIs σ i n f) {x : Int32} (hx : x < 0 ∨ nI n ≤ x) : X3_has i σ x = some (σ, 0) := by
  unfold X3_has
  rw [h.1]
  rcases hx with hx | hx
  · rw [if_pos hx]
  · by_cases h0 : x < 0
    · rw [if_pos h0]
    · rw [if_neg h0, if_pos hx]
theorem x3_at {σ : Mem} {i n j : Nat} {f : Nat → Int32} (h : RowIs σ i n f) (hn : n ≤ cap i) (hc : cap i ≤ 62) (hj : j < n) : X3_at i σ (nI j) = some (σ, f j) := by
  unfold X3_at
  rw [x3_has_t h hn hc hj, uB, if_neg one_ne]
  simp (disch := omega) only [c_inA, c_cl, if_true, h.2 j hj]
theorem x3_at_f {σ : Mem} {i n : Nat} {f : Nat → Int32} (h : RowIs σ i n f) {x : Int32} (hx : x < 0 ∨ nI n ≤ x) : X3_at i σ x = some (σ, -1) := by
  unfold X3_at
  rw [x3_has_f h hx, uB, if_pos rfl]
