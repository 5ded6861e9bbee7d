theorem fsub_e (a b : Nat) (ha : a < 4294967296) (hb : b < 4294967296) : FP.fsub (UInt32.ofNat a) (UInt32.ofNat b) = UInt32.ofNat (FP.Core.encode FP.Core.b32 (FP.Core.round FP.Core.b32 (FP.Core.exactSum (FP.Core.decode FP.Core.b32 a) (FP.Core.negate (FP.Core.decode FP.Core.b32 b))))) := by
  show UInt32.ofNat (FP.Core.sub FP.Core.b32 (UInt32.ofNat a).toNat (UInt32.ofNat b).toNat) = _
  rw [u32n ha, u32n hb]
  rfl
theorem fmul_e (a b : Nat) (ha : a < 4294967296) (hb : b < 4294967296) : FP.fmul (UInt32.ofNat a) (UInt32.ofNat b) = UInt32.ofNat (FP.Core.encode FP.Core.b32 (FP.Core.round FP.Core.b32 (FP.Core.exactProduct (FP.Core.decode FP.Core.b32 a) (FP.Core.decode FP.Core.b32 b)))) := by
  show UInt32.ofNat (FP.Core.mul FP.Core.b32 (UInt32.ofNat a).toNat (UInt32.ofNat b).toNat) = _
  rw [u32n ha, u32n hb]
  rfl
theorem dsub_e (a b : Nat) (ha : a < 18446744073709551616) (hb : b < 18446744073709551616) : FP.dsub (UInt64.ofNat a) (UInt64.ofNat b) = UInt64.ofNat (FP.Core.encode FP.Core.b64 (FP.Core.round FP.Core.b64 (FP.Core.exactSum (FP.Core.decode FP.Core.b64 a) (FP.Core.negate (FP.Core.decode FP.Core.b64 b))))) := by
  show UInt64.ofNat (FP.Core.sub FP.Core.b64 (UInt64.ofNat a).toNat (UInt64.ofNat b).toNat) = _
  rw [u64n ha, u64n hb]
  rfl
theorem dmul_e (a b : Nat) (ha : a < 18446744073709551616) (hb : b < 18446744073709551616) : FP.dmul (UInt64.ofNat a) (UInt64.ofNat b) = UInt64.ofNat (FP.Core.encode FP.Core.b64 (FP.Core.round FP.Core.b64 (FP.Core.exactProduct (FP.Core.decode FP.Core.b64 a) (FP.Core.decode FP.Core.b64 b)))) := by
  show UInt64.ofNat (FP.Core.mul FP.Core.b64 (UInt64.ofNat a).toNat (UInt64.ofNat b).toNat) = _
  rw [u64n ha, u64n hb]
  rfl
/-- a number at a power, less that power's own -/
theorem sum_less (C t : Nat) (q : Int) : FP.Core.exactSum (.fin false (C + t) q) (FP.Core.negate (.fin false C q)) = .fin false t q := by
  have e : FP.Core.sumUnits false (C + t) q (!false) C q (min q q) = (t : Int) := by
    unfold FP.Core.sumUnits FP.Core.signed FP.Core.inUnits
    rw [show min q q = q from Int.min_self q, Int.sub_self]
    show ((C + t) * 2 ^ 0 : Nat) + -((C * 2 ^ 0 : Nat) : Int) = (t : Int)
    rw [Nat.pow_zero, Nat.mul_one, Nat.mul_one]
    omega
  show FP.Core.Datum.fin (FP.Core.sumSign false (!false) (FP.Core.sumUnits false (C + t) q (!false) C q (min q q))) (FP.Core.sumUnits false (C + t) q (!false) C q (min q q)).natAbs (min q q) = _
  rw [e, show min q q = q from Int.min_self q, show ((t : Int)).natAbs = t from rfl]
  congr 1
  unfold FP.Core.sumSign
  by_cases c : t = 0
  · subst c; rfl
  · rw [if_neg (by omega)]
    exact decide_eq_false (by omega)
/-- the fraction of a float of 1 to 2, times 2^23, as an int -/
theorem f_frac {t : Nat} (ht : t < 8388608) : ∃ u : UInt32, FP.fsub (UInt32.ofNat (n32 127 t)) FP.fconst1 = u ∧ u &&& 0x7fffffff ≤ 0x7f800000 ∧ FP.fmul u (1258291200 : UInt32) &&& 0x7fffffff ≤ 0x7f800000 ∧ FP.f2i (FP.fmul u (1258291200 : UInt32)) = nI t := by
  rw [f1_n, fsub_e _ _ (n32_lt (by omega) ht) (n32_lt (by omega) (by omega)), dec32 (by omega) (by omega) ht, dec32 (by omega) (by omega) (by omega), Nat.add_zero, sum_less]
  refine ⟨_, rfl, ?_⟩
  by_cases c : t = 0
  · subst c
    decide +kernel
  · obtain ⟨l, h1, h2⟩ := log_ex (K := t) (by omega)
    have hl : l ≤ 22 := by
      have : 2 ^ l < 2 ^ 23 := by omega
      have := (Nat.pow_lt_pow_iff_right (show 1 < 2 by omega)).mp this
      omega
    have p0 : 2 ^ l * 2 ^ (23 - l) = 8388608 := by rw [← Nat.pow_add, show l + (23 - l) = 23 by omega]
    have p1 : 8388608 ≤ t * 2 ^ (23 - l) := by rw [← p0]; exact Nat.mul_le_mul_right _ h1
    have p2 : t * 2 ^ (23 - l) < 16777216 := by
      have : 2 ^ (l + 1) * 2 ^ (23 - l) = 16777216 := by rw [← Nat.pow_add, show l + 1 + (23 - l) = 24 by omega]
      rw [← this]
      exact (Nat.mul_lt_mul_right (Nat.two_pow_pos _)).mpr h2
    have e1 : FP.Core.encode FP.Core.b32 (FP.Core.round FP.Core.b32 (.fin false t (((127 : Nat) : Int) - 150))) = n32 (l + 104) (t * 2 ^ (23 - l) - 8388608) := by
      unfold FP.Core.round
      dsimp only
      rw [fc_rr FP.Core.b32 (C := t * 2 ^ (23 - l)) (k := l) (q := (l : Int) - 46) (by omega) (by omega) (by omega) (by rw [b32_p]; omega) (by rw [b32_m]; omega) (by rw [b32_M]; omega) (by rw [b32_p]; omega) (Or.inl ⟨by rw [b32_p]; omega, by rw [b32_p, show 24 - 1 - l = 23 - l by omega, Nat.mul_one]⟩) (by rw [b32_p]; exact p2)]
      exact enc32 (by omega) (by omega) p1 p2
    rw [e1]
    have e2 : FP.fmul (UInt32.ofNat (n32 (l + 104) (t * 2 ^ (23 - l) - 8388608))) (1258291200 : UInt32) = UInt32.ofNat (n32 (l + 127) (t * 2 ^ (23 - l) - 8388608)) := by
      rw [fu_n, fmul_e _ _ (n32_lt (by omega) (by omega)) (n32_lt (by omega) (by omega)), dec32 (by omega) (by omega) (by omega), dec32 (by omega) (by omega) (by omega)]
      unfold FP.Core.exactProduct FP.Core.round
      dsimp only
      rw [show 8388608 + (t * 2 ^ (23 - l) - 8388608) = t * 2 ^ (23 - l) by omega, show (false != false) = false from rfl]
      rw [fc_rr FP.Core.b32 (C := t * 2 ^ (23 - l)) (k := 46) (q := (l : Int) - 23) (by omega) (by omega) (by omega) (by rw [b32_p]; omega) (by rw [b32_m]; omega) (by rw [b32_M]; omega) (by rw [b32_p]; omega) (Or.inr ⟨by rw [b32_p]; omega, by rw [b32_p]⟩) (by rw [b32_p]; exact p2)]
      rw [enc32 (E := l + 127) (by omega) (by omega) p1 p2]
    refine ⟨nn32 (by omega) (by omega), ?_, ?_⟩
    · rw [e2]; exact nn32 (by omega) (by omega)
    · rw [e2]
      show FP.Core.toI (FP.Core.decode FP.Core.b32 (UInt32.ofNat (n32 (l + 127) (t * 2 ^ (23 - l) - 8388608))).toNat) = _
      rw [u32n (n32_lt (by omega) (by omega)), dec32 (by omega) (by omega) (by omega), show 8388608 + (t * 2 ^ (23 - l) - 8388608) = t * 2 ^ (23 - l) by omega]
      unfold FP.Core.toI FP.Core.toInt FP.Core.truncate FP.Core.signed
      dsimp only
      rw [show (((l + 127 : Nat) : Int) - 150).toNat = 0 by omega, show (-(((l + 127 : Nat) : Int) - 150)).toNat = 23 - l by omega, Nat.pow_zero, Nat.mul_one, Nat.mul_div_cancel _ (Nat.two_pow_pos _)]
      rw [if_neg (by decide)]
      apply Int32.toInt_inj.mp
      rw [nI_toInt (by omega), show max (-2 ^ 31) (min (2 ^ 31 - 1) (t : Int)) = (t : Int) by omega, Int32.toInt_ofInt_of_le (by omega) (by omega)]
theorem d_frac {t : Nat} (ht : t < 8388608) : ∃ u : UInt64, FP.dsub (UInt64.ofNat (n64 1023 (t * 536870912))) FP.dconst1 = u ∧ u &&& 0x7fffffffffffffff ≤ 0x7ff0000000000000 ∧ FP.dmul u (FP.l2d (8388608 : Int64)) &&& 0x7fffffffffffffff ≤ 0x7ff0000000000000 ∧ FP.d2l (FP.dmul u (FP.l2d (8388608 : Int64))) = lN t := by
  rw [d1_n, dsub_e _ _ (n64_lt (by omega) (by omega)) (n64_lt (by omega) (by omega)), dec64 (by omega) (by omega) (by omega), dec64 (by omega) (by omega) (by omega), Nat.add_zero, sum_less]
  refine ⟨_, rfl, ?_⟩
  by_cases c : t = 0
  · subst c
    decide +kernel
  · obtain ⟨l, h1, h2⟩ := log_ex (K := t) (by omega)
    have hl : l ≤ 22 := by
      have : 2 ^ l < 2 ^ 23 := by omega
      have := (Nat.pow_lt_pow_iff_right (show 1 < 2 by omega)).mp this
      omega
    have p0 : 2 ^ l * 2 ^ (23 - l) = 8388608 := by rw [← Nat.pow_add, show l + (23 - l) = 23 by omega]
    have p1 : 8388608 ≤ t * 2 ^ (23 - l) := by rw [← p0]; exact Nat.mul_le_mul_right _ h1
    have p2 : t * 2 ^ (23 - l) < 16777216 := by
      have : 2 ^ (l + 1) * 2 ^ (23 - l) = 16777216 := by rw [← Nat.pow_add, show l + 1 + (23 - l) = 24 by omega]
      rw [← this]
      exact (Nat.mul_lt_mul_right (Nat.two_pow_pos _)).mpr h2
    have p3 : 2 ^ (l + 29) = 2 ^ l * 536870912 := by rw [Nat.pow_add]
    have p4 : 2 ^ (l + 29 + 1) = 2 ^ (l + 1) * 536870912 := by rw [show l + 29 + 1 = (l + 1) + 29 by omega, Nat.pow_add]
    have hx : t * 536870912 * 2 ^ (52 - (l + 29)) = t * 2 ^ (23 - l) * 536870912 := by rw [show 52 - (l + 29) = 23 - l by omega, Nat.mul_right_comm]
    generalize hT : t * 2 ^ (23 - l) = M at p1 p2 hx
    have e1 : FP.Core.encode FP.Core.b64 (FP.Core.round FP.Core.b64 (.fin false (t * 536870912) (((1023 : Nat) : Int) - 1075))) = n64 (l + 1000) (M * 536870912 - 4503599627370496) := by
      unfold FP.Core.round
      dsimp only
      rw [fc_rr FP.Core.b64 (C := M * 536870912) (k := l + 29) (q := (l : Int) - 75) (by omega) (by rw [p3]; omega) (by rw [p4]; omega) (by rw [b64_p]; omega) (by rw [b64_m]; omega) (by rw [b64_M]; omega) (by rw [b64_p]; omega) (Or.inl ⟨by rw [b64_p]; omega, by rw [b64_p, Nat.mul_one]; exact hx⟩) (by rw [b64_p]; omega)]
      exact enc64 (by omega) (by omega) (by omega) (by omega)
    rw [e1]
    have e2 : FP.dmul (UInt64.ofNat (n64 (l + 1000) (M * 536870912 - 4503599627370496))) (FP.l2d (8388608 : Int64)) = UInt64.ofNat (n64 (l + 1023) (M * 536870912 - 4503599627370496)) := by
      rw [l2d_n, dmul_e _ _ (n64_lt (by omega) (by omega)) (n64_lt (by omega) (by omega)), dec64 (by omega) (by omega) (by omega), dec64 (by omega) (by omega) (by omega)]
      unfold FP.Core.exactProduct FP.Core.round
      dsimp only
      rw [show 4503599627370496 + (M * 536870912 - 4503599627370496) = M * 536870912 by omega, show (false != false) = false from rfl]
      rw [fc_rr FP.Core.b64 (C := M * 536870912) (k := 104) (q := (l : Int) - 52) (by omega) (by omega) (by omega) (by rw [b64_p]; omega) (by rw [b64_m]; omega) (by rw [b64_M]; omega) (by rw [b64_p]; omega) (Or.inr ⟨by rw [b64_p]; omega, by rw [b64_p]⟩) (by rw [b64_p]; omega)]
      rw [enc64 (E := l + 1023) (by omega) (by omega) (by omega) (by omega)]
    refine ⟨nn64 (by omega) (by omega), ?_, ?_⟩
    · rw [e2]; exact nn64 (by omega) (by omega)
    · rw [e2]
      show FP.Core.toL (FP.Core.decode FP.Core.b64 (UInt64.ofNat (n64 (l + 1023) (M * 536870912 - 4503599627370496))).toNat) = _
      rw [u64n (n64_lt (by omega) (by omega)), dec64 (by omega) (by omega) (by omega), show 4503599627370496 + (M * 536870912 - 4503599627370496) = M * 536870912 by omega]
      unfold FP.Core.toL FP.Core.toInt FP.Core.truncate FP.Core.signed
      dsimp only
      have e3 : M * 536870912 / 2 ^ (52 - l) = t := by
        have e4 : 2 ^ (52 - l) = 2 ^ (23 - l) * 536870912 := by rw [show 52 - l = (23 - l) + 29 by omega, Nat.pow_add]
        rw [e4, Nat.mul_div_mul_right _ _ (by omega), ← hT, Nat.mul_div_cancel _ (Nat.two_pow_pos _)]
      rw [show (((l + 1023 : Nat) : Int) - 1075).toNat = 0 by omega, show (-(((l + 1023 : Nat) : Int) - 1075)).toNat = 52 - l by omega, Nat.pow_zero, Nat.mul_one, e3]
      rw [if_neg (by decide)]
      apply Int64.toInt_inj.mp
      rw [pk_lT (by omega), show max (-2 ^ 63) (min (2 ^ 63 - 1) (t : Int)) = (t : Int) by omega, Int64.toInt_ofInt_of_le (by omega) (by omega)]
