/-! FLOATS -/
theorem fc_nearest {B : Nat} (C : Nat) (hB : 0 < B) : FP.Core.nearest (C * B) B = C := by
  unfold FP.Core.nearest
  rw [Nat.mul_mod_left, if_pos (by omega), Nat.mul_div_cancel _ hB]
theorem fc_near_b {A B lo hi : Nat} (hB : 0 < B) (h1 : lo * B ≤ A) (h2 : A ≤ hi * B) : lo ≤ FP.Core.nearest A B ∧ FP.Core.nearest A B ≤ hi := by
  have e := Nat.div_add_mod A B
  have hm := Nat.mod_lt A hB
  have d1 : lo ≤ A / B := (Nat.le_div_iff_mul_le hB).mpr h1
  have d2 : A / B ≤ hi := (Nat.div_le_iff_le_mul_add_pred hB).mpr (by have : B * hi = hi * B := Nat.mul_comm _ _; omega)
  have d3 : A / B = hi → A % B = 0 := fun c => by
    rw [c] at e
    have : B * hi = hi * B := Nat.mul_comm _ _
    omega
  unfold FP.Core.nearest
  split
  · exact ⟨d1, d2⟩
  · rename_i c1
    have c0 : A / B ≠ hi := fun c => by have := d3 c; omega
    split <;> omega
theorem fc_log {n k : Nat} (h1 : 2 ^ k ≤ n) (h2 : n < 2 ^ (k + 1)) : n.log2 = k := (Nat.log2_eq_iff (by have := Nat.two_pow_pos k; omega)).mpr ⟨h1, h2⟩
theorem fc_log_b {n : Nat} (h : n ≠ 0) : 2 ^ n.log2 ≤ n ∧ n < 2 ^ (n.log2 + 1) := (Nat.log2_eq_iff h).mp rfl
theorem fc_leading {A B k : Nat} (hB : 0 < B) (h1 : B * 2 ^ k ≤ A) (h2 : A < B * 2 ^ (k + 1)) : FP.Core.leading A B = (k : Int) := by
  have hA : A ≠ 0 := by
    have := Nat.mul_pos hB (Nat.two_pow_pos k)
    omega
  obtain ⟨a1, a2⟩ := fc_log_b hA
  obtain ⟨b1, b2⟩ := fc_log_b (show B ≠ 0 by omega)
  have c1 : 2 ^ (B.log2 + k) < 2 ^ (A.log2 + 1) := by
    rw [Nat.pow_add]
    exact Nat.lt_of_le_of_lt (Nat.le_trans (Nat.mul_le_mul_right _ b1) h1) a2
  have c2 : 2 ^ A.log2 < 2 ^ (B.log2 + 1 + (k + 1)) := by
    rw [Nat.pow_add]
    exact Nat.lt_of_le_of_lt a1 (Nat.lt_of_lt_of_le h2 (Nat.mul_le_mul_right _ (Nat.le_of_lt b2)))
  have d1 := (Nat.pow_lt_pow_iff_right (show 1 < 2 by omega)).mp c1
  have d2 := (Nat.pow_lt_pow_iff_right (show 1 < 2 by omega)).mp c2
  unfold FP.Core.leading
  rcases (show A.log2 = B.log2 + k ∨ A.log2 = B.log2 + k + 1 by omega) with c | c
  · rw [show ((A.log2 : Int) - (B.log2 : Int)) = (k : Int) by omega]
    dsimp only
    rw [show ((k : Int)).toNat = k by omega, show (-(k : Int)).toNat = 0 by omega, if_pos (by rw [Nat.pow_zero, Nat.mul_one]; exact h1)]
  · rw [show ((A.log2 : Int) - (B.log2 : Int)) = ((k + 1 : Nat) : Int) by omega]
    dsimp only
    rw [show (((k + 1 : Nat) : Int)).toNat = k + 1 by omega, show (-((k + 1 : Nat) : Int)).toNat = 0 by omega, if_neg (by rw [Nat.pow_zero, Nat.mul_one]; omega)]
    omega
theorem fc_leading_m {A B : Nat} (hA : 0 < A) (h1 : A < B) (h2 : B ≤ 2 * A) : FP.Core.leading A B = -1 := by
  obtain ⟨a1, a2⟩ := fc_log_b (show A ≠ 0 by omega)
  obtain ⟨b1, b2⟩ := fc_log_b (show B ≠ 0 by omega)
  have c1 : 2 ^ A.log2 < 2 ^ (B.log2 + 1) := by omega
  have c2 : 2 ^ B.log2 < 2 ^ (A.log2 + 1 + 1) := by
    have : 2 ^ (A.log2 + 1 + 1) = 2 * 2 ^ (A.log2 + 1) := by rw [Nat.pow_succ]; omega
    omega
  have d1 := (Nat.pow_lt_pow_iff_right (show 1 < 2 by omega)).mp c1
  have d2 := (Nat.pow_lt_pow_iff_right (show 1 < 2 by omega)).mp c2
  unfold FP.Core.leading
  rcases (show A.log2 = B.log2 ∨ B.log2 = A.log2 + 1 by omega) with c | c
  · rw [show ((A.log2 : Int) - (B.log2 : Int)) = 0 by omega]
    dsimp only
    rw [if_neg (by simp; omega)]
    rfl
  · rw [show ((A.log2 : Int) - (B.log2 : Int)) = -1 by omega]
    dsimp only
    rw [if_pos (by show B * 2 ^ 0 ≤ A * 2 ^ 1; omega)]
/-- an exact result -/
theorem fc_rr (f : FP.Core.Fmt) {A B C k : Nat} {e q : Int} (hB : 0 < B) (h1 : B * 2 ^ k ≤ A) (h2 : A < B * 2 ^ (k + 1)) (hq0 : q = (k : Int) + e - ((f.p : Int) - 1)) (hq : f.qmin ≤ q) (hq2 : q ≤ f.qmax) (hp : 1 ≤ f.p) (hC : (k ≤ f.p - 1 ∧ A * 2 ^ (f.p - 1 - k) = C * B) ∨ (f.p - 1 ≤ k ∧ A = C * (B * 2 ^ (k - (f.p - 1))))) (hC2 : C < 2 ^ f.p) : FP.Core.roundRatio f false A B e = .fin false C q := by
  have hA : A ≠ 0 := by
    have := Nat.mul_pos hB (Nat.two_pow_pos k)
    omega
  have hqu : FP.Core.quantum f A B e = q := by
    unfold FP.Core.quantum
    rw [fc_leading hB h1 h2]
    omega
  unfold FP.Core.roundRatio
  rw [if_neg hA, hqu]
  unfold FP.Core.roundAt FP.Core.unitsNum FP.Core.unitsDen
  have hn : FP.Core.nearest (A * 2 ^ (e - q).toNat) (B * 2 ^ (q - e).toNat) = C := by
    rcases hC with ⟨g1, g2⟩ | ⟨g1, g2⟩
    · rw [show (e - q).toNat = f.p - 1 - k by omega, show (q - e).toNat = 0 by omega, Nat.pow_zero, Nat.mul_one, g2]
      exact fc_nearest C hB
    · rw [show (e - q).toNat = 0 by omega, show (q - e).toNat = k - (f.p - 1) by omega, Nat.pow_zero, Nat.mul_one, g2]
      exact fc_nearest C (Nat.mul_pos hB (Nat.two_pow_pos _))
  rw [hn]
  unfold FP.Core.settle FP.Core.bound
  rw [if_pos hC2, if_pos hq2]
theorem b32_t : FP.Core.b32.tails = 8388608 := rfl
theorem b32_x : FP.Core.b32.exps = 256 := rfl
theorem b32_m : FP.Core.b32.qmin = -149 := rfl
theorem b32_M : FP.Core.b32.qmax = 104 := rfl
theorem b32_p : FP.Core.b32.p = 24 := rfl
theorem b64_t : FP.Core.b64.tails = 4503599627370496 := rfl
theorem b64_x : FP.Core.b64.exps = 2048 := rfl
theorem b64_m : FP.Core.b64.qmin = -1074 := rfl
theorem b64_M : FP.Core.b64.qmax = 971 := rfl
theorem b64_p : FP.Core.b64.p = 53 := rfl
def n32 (E t : Nat) : Nat := E * 8388608 + t
def n64 (E t : Nat) : Nat := E * 4503599627370496 + t
theorem dec32 {E t : Nat} (h1 : 1 ≤ E) (h2 : E ≤ 254) (ht : t < 8388608) : FP.Core.decode FP.Core.b32 (n32 E t) = .fin false (8388608 + t) ((E : Int) - 150) := by
  have d1 : n32 E t / 8388608 = E := by unfold n32; omega
  have d2 : n32 E t % 8388608 = t := by unfold n32; omega
  unfold FP.Core.decode FP.Core.fieldE FP.Core.fieldT FP.Core.fieldS
  rw [b32_t, b32_x, b32_m, d1, d2, Nat.mod_eq_of_lt (show E < 256 by omega), if_neg (by omega), if_neg (by omega), Nat.div_eq_of_lt (show E < 256 by omega)]
  show FP.Core.Datum.fin false _ _ = _
  congr 1
  omega
theorem enc32 {E c : Nat} {q : Int} (h1 : 1 ≤ E) (hq : q = (E : Int) - 150) (hc : 8388608 ≤ c) (hc2 : c < 16777216) : FP.Core.encode FP.Core.b32 (.fin false c q) = n32 E (c - 8388608) := by
  unfold FP.Core.encode FP.Core.assemble
  rw [b32_t, b32_x, b32_m]
  dsimp only
  rw [if_neg (by omega)]
  unfold n32
  rw [show (q - -149).toNat + 1 = E by omega]
  show (0 * 256 + E) * 8388608 + _ = _
  omega
theorem dec64 {E t : Nat} (h1 : 1 ≤ E) (h2 : E ≤ 2046) (ht : t < 4503599627370496) : FP.Core.decode FP.Core.b64 (n64 E t) = .fin false (4503599627370496 + t) ((E : Int) - 1075) := by
  have d1 : n64 E t / 4503599627370496 = E := by unfold n64; omega
  have d2 : n64 E t % 4503599627370496 = t := by unfold n64; omega
  unfold FP.Core.decode FP.Core.fieldE FP.Core.fieldT FP.Core.fieldS
  rw [b64_t, b64_x, b64_m, d1, d2, Nat.mod_eq_of_lt (show E < 2048 by omega), if_neg (by omega), if_neg (by omega), Nat.div_eq_of_lt (show E < 2048 by omega)]
  show FP.Core.Datum.fin false _ _ = _
  congr 1
  omega
theorem enc64 {E c : Nat} {q : Int} (h1 : 1 ≤ E) (hq : q = (E : Int) - 1075) (hc : 4503599627370496 ≤ c) (hc2 : c < 9007199254740992) : FP.Core.encode FP.Core.b64 (.fin false c q) = n64 E (c - 4503599627370496) := by
  unfold FP.Core.encode FP.Core.assemble
  rw [b64_t, b64_x, b64_m]
  dsimp only
  rw [if_neg (by omega)]
  unfold n64
  rw [show (q - -1074).toNat + 1 = E by omega]
  show (0 * 2048 + E) * 4503599627370496 + _ = _
  omega
theorem u32n {n : Nat} (h : n < 4294967296) : (UInt32.ofNat n).toNat = n := by
  rw [UInt32.toNat_ofNat', Nat.mod_eq_of_lt (by omega)]
theorem u64n {n : Nat} (h : n < 18446744073709551616) : (UInt64.ofNat n).toNat = n := by
  rw [UInt64.toNat_ofNat', Nat.mod_eq_of_lt (by omega)]
theorem n32_lt {E t : Nat} (h2 : E ≤ 254) (ht : t < 8388608) : n32 E t < 4294967296 := by unfold n32; omega
theorem n64_lt {E t : Nat} (h2 : E ≤ 2046) (ht : t < 4503599627370496) : n64 E t < 18446744073709551616 := by unfold n64; omega
/-- an int as a float: its digits, shifted to the front -/
theorem i2f_n {K l : Nat} (h1 : 2 ^ l ≤ K) (h2 : K < 2 ^ (l + 1)) (hl : l ≤ 22) : ∃ t, t < 8388608 ∧ 8388608 + t = K * 2 ^ (23 - l) ∧ FP.i2f (nI K) = UInt32.ofNat (n32 (l + 127) t) := by
  have hK : K < 8388608 := Nat.lt_of_lt_of_le h2 (by have := Nat.pow_le_pow_right (n := 2) (by omega) (show l + 1 ≤ 23 by omega); omega)
  have p0 : 2 ^ l * 2 ^ (23 - l) = 8388608 := by rw [← Nat.pow_add, show l + (23 - l) = 23 by omega]
  have p1 : 8388608 ≤ K * 2 ^ (23 - l) := by rw [← p0]; exact Nat.mul_le_mul_right _ h1
  have p2 : K * 2 ^ (23 - l) < 16777216 := by
    have : 2 ^ (l + 1) * 2 ^ (23 - l) = 16777216 := by rw [← Nat.pow_add, show l + 1 + (23 - l) = 24 by omega]
    rw [← this]
    exact (Nat.mul_lt_mul_right (Nat.two_pow_pos _)).mpr h2
  refine ⟨K * 2 ^ (23 - l) - 8388608, by omega, by omega, ?_⟩
  show UInt32.ofNat (FP.Core.fromInt FP.Core.b32 (nI K).toInt) = _
  rw [nI_toInt (by omega)]
  unfold FP.Core.fromInt FP.Core.ofInt FP.Core.round
  dsimp only
  rw [decide_eq_false (by omega), show ((K : Int)).natAbs = K from rfl]
  rw [fc_rr FP.Core.b32 (C := K * 2 ^ (23 - l)) (k := l) (q := (l : Int) - 23) (by omega) (by omega) (by omega) (by rw [b32_p]; omega) (by rw [b32_m]; omega) (by rw [b32_M]; omega) (by rw [b32_p]; omega) (Or.inl ⟨by rw [b32_p]; omega, by rw [b32_p, show 24 - 1 - l = 23 - l by omega, Nat.mul_one]⟩) (by rw [b32_p]; exact p2)]
  rw [enc32 (E := l + 127) (by omega) (by omega) p1 p2]
