/-! SHARES: what the law asks of them -/
def shV (n r : Nat) : UInt64 := FP.ddiv (FP.i2d (nI (n - r))) (FP.i2d (nI n))
def shC (v : UInt64) : Bool := decide (v &&& 0x7fffffffffffffff ≤ 0x7ff0000000000000) && (decide (¬ (Op.cmpValue (FP.dcmp v FP.dconst0) CmpOp.l) < 0) && decide (¬ 0 < (Op.cmpValue (FP.dcmp v FP.dconst1) CmpOp.g)))
theorem shC_t {v : UInt64} (h : shC v = true) : (v &&& 0x7fffffffffffffff ≤ 0x7ff0000000000000) ∧ (¬ (Op.cmpValue (FP.dcmp v FP.dconst0) CmpOp.l) < 0) ∧ ¬ 0 < (Op.cmpValue (FP.dcmp v FP.dconst1) CmpOp.g) := by
  unfold shC at h
  rw [Bool.and_eq_true, Bool.and_eq_true] at h
  exact ⟨of_decide_eq_true h.1, of_decide_eq_true h.2.1, of_decide_eq_true h.2.2⟩
theorem sh_all : ∀ n, n < 61 → ∀ r, r < 61 → 0 < n → r ≤ n → shC (shV n r) = true := by decide +kernel
theorem sh_1 : shC FP.dconst1 = true := by decide +kernel
theorem f_ge0 {E t : Nat} (h1 : 127 ≤ E) (h2 : E ≤ 130) (ht : t < 8388608) : ¬ (Op.cmpValue (FP.fcmp (UInt32.ofNat (n32 E t)) FP.fconst0) CmpOp.l) < 0 := by
  rw [f0_n, fcmp_e _ _ (n32_lt (by omega) ht) (by omega), dec32 (by omega) (by omega) ht, dec32_0, ord_ff]
  rcases cmp_ge' (a := (8388608 + t) * 2 ^ ((E : Int) - 150 - min ((E : Int) - 150) (-149)).toNat) (b := 0 * 2 ^ ((-149 : Int) - min ((E : Int) - 150) (-149)).toNat) (by omega) with x | x
  · rw [x, cv_eq]; decide
  · rw [x, cv_gt]; decide
theorem f10_n : (1092616192 : UInt32) = UInt32.ofNat (n32 130 2097152) := by decide +kernel
theorem cmp_le' {a b : Nat} (h : a ≤ b) : compare (a : Int) (b : Int) = Ordering.lt ∨ compare (a : Int) (b : Int) = Ordering.eq := by
  rcases Nat.lt_or_ge a b with c | c
  · exact Or.inl (cmp_lt' c)
  · have e : a = b := by omega
    subst e
    right
    rw [show compare (a : Int) (a : Int) = compareOfLessAndEq _ _ from rfl, compareOfLessAndEq, if_neg (by omega), if_pos rfl]
theorem f_le10 {E t : Nat} (h1 : 127 ≤ E) (h2 : E ≤ 130) (ht : t < 8388608) (h3 : E = 130 → t ≤ 2097152) : ¬ 0 < (Op.cmpValue (FP.fcmp (UInt32.ofNat (n32 E t)) (1092616192 : UInt32)) CmpOp.g) := by
  rw [f10_n, fcmp_e _ _ (n32_lt (by omega) ht) (n32_lt (by omega) (by omega)), dec32 (by omega) (by omega) ht, dec32 (by omega) (by omega) (by omega), ord_ff]
  have hm : min ((E : Int) - 150) (((130 : Nat) : Int) - 150) = (E : Int) - 150 := by omega
  rw [hm, show ((E : Int) - 150 - ((E : Int) - 150)).toNat = 0 by omega, show (((130 : Nat) : Int) - 150 - ((E : Int) - 150)).toNat = 130 - E by omega]
  have hle : (8388608 + t) * 2 ^ 0 ≤ (8388608 + 2097152) * 2 ^ (130 - E) := by
    by_cases c : E = 130
    · subst c
      have := h3 rfl
      rw [show 130 - 130 = 0 by omega]
      omega
    · have e1 : 2 ^ 1 ≤ 2 ^ (130 - E) := Nat.pow_le_pow_right (by omega) (by omega)
      have e2 : (8388608 + 2097152) * 2 ^ 1 ≤ (8388608 + 2097152) * 2 ^ (130 - E) := Nat.mul_le_mul_left _ e1
      omega
  rcases cmp_le' hle with x | x
  · rw [x, cv_lt]; decide
  · rw [x, cv_eq]; decide
