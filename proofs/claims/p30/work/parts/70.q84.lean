theorem log_ex {K : Nat} (h : 1 ≤ K) : ∃ l, 2 ^ l ≤ K ∧ K < 2 ^ (l + 1) := ⟨K.log2, fc_log_b (by omega)⟩
theorem fdiv_e (a b : Nat) (ha : a < 4294967296) (hb : b < 4294967296) : FP.fdiv (UInt32.ofNat a) (UInt32.ofNat b) = UInt32.ofNat (FP.Core.encode FP.Core.b32 (FP.Core.quotient FP.Core.b32 (FP.Core.decode FP.Core.b32 a) (FP.Core.decode FP.Core.b32 b))) := by
  show UInt32.ofNat (FP.Core.div FP.Core.b32 (UInt32.ofNat a).toNat (UInt32.ofNat b).toNat) = _
  rw [u32n ha, u32n hb]
  rfl
theorem quo32 {C D : Nat} {q r : Int} (hD : 0 < D) : FP.Core.quotient FP.Core.b32 (.fin false C q) (.fin false D r) = FP.Core.roundRatio FP.Core.b32 false C D (q - r) := by
  show (if D = 0 then _ else _) = _
  rw [if_neg (by omega)]
  rfl
/-- the mean's bits: a float of at least 1 and less than 16 -/
theorem mean_bits {K S : Nat} (h1 : 1 ≤ S) (h2 : S ≤ K) (h3 : K ≤ 10 * S) (h4 : S ≤ 15360) : ∃ E t, 127 ≤ E ∧ E ≤ 130 ∧ t < 8388608 ∧ (E = 130 → t ≤ 2097152) ∧ FP.fdiv (FP.i2f (nI K)) (FP.i2f (nI S)) = UInt32.ofNat (n32 E t) := by
  obtain ⟨l, a1, a2⟩ := log_ex (K := K) (by omega)
  obtain ⟨m, b1, b2⟩ := log_ex (K := S) h1
  have hl : l ≤ 17 := by
    have : 2 ^ l < 2 ^ 18 := by omega
    have := (Nat.pow_lt_pow_iff_right (show 1 < 2 by omega)).mp this
    omega
  have hm : m ≤ 13 := by
    have : 2 ^ m < 2 ^ 14 := by omega
    have := (Nat.pow_lt_pow_iff_right (show 1 < 2 by omega)).mp this
    omega
  obtain ⟨u, u1, u2, u3⟩ := i2f_n a1 a2 (by omega)
  obtain ⟨v, v1, v2, v3⟩ := i2f_n b1 b2 (by omega)
  rw [u3, v3, fdiv_e _ _ (n32_lt (by omega) u1) (n32_lt (by omega) v1), dec32 (by omega) (by omega) u1, dec32 (by omega) (by omega) v1, quo32 (by omega)]
  -- how the exponents lie
  have hml : m ≤ l := by
    have : 2 ^ m < 2 ^ (l + 1) := by omega
    have := (Nat.pow_lt_pow_iff_right (show 1 < 2 by omega)).mp this
    omega
  obtain ⟨d, hd⟩ : ∃ d, l = m + d := ⟨l - m, by omega⟩
  have hd4 : d ≤ 4 := by
    have e1 : 2 ^ l = 2 ^ m * 2 ^ d := by rw [hd, Nat.pow_add]
    have e2 : 2 ^ (m + 1) = 2 ^ m * 2 := Nat.pow_succ _ _
    rcases Nat.lt_or_ge 4 d with c | c
    · have e3 : 2 ^ 5 ≤ 2 ^ d := Nat.pow_le_pow_right (by omega) c
      have e4 : 2 ^ m * 2 ^ 5 ≤ 2 ^ m * 2 ^ d := Nat.mul_le_mul_left _ e3
      omega
    · exact c
  -- C1 * S * 2^d = K * C2
  have hx : (8388608 + u) * S * 2 ^ d = K * (8388608 + v) := by
    rw [u2, v2]
    have e1 : 2 ^ (23 - l) * 2 ^ d = 2 ^ (23 - m) := by rw [← Nat.pow_add]; congr 1; omega
    calc K * 2 ^ (23 - l) * S * 2 ^ d = K * S * (2 ^ (23 - l) * 2 ^ d) := by ac_rfl
      _ = K * (S * 2 ^ (23 - m)) := by rw [e1, Nat.mul_assoc]
  generalize hC1 : 8388608 + u = C1 at hx ⊢
  generalize hC2 : 8388608 + v = C2 at hx ⊢
  have hy : C1 * S * 2 ^ d ≤ 10 * C2 * S := by
    rw [hx]
    calc K * C2 ≤ 10 * S * C2 := Nat.mul_le_mul_right _ h3
      _ = 10 * C2 * S := by ac_rfl
  have hz : C2 * S ≤ C1 * S * 2 ^ d := by
    rw [hx, Nat.mul_comm C2 S]
    exact Nat.mul_le_mul_right _ h2
  have hy2 : C1 * 2 ^ d ≤ 10 * C2 := by
    have : C1 * 2 ^ d * S ≤ 10 * C2 * S := by
      rw [Nat.mul_right_comm]; exact hy
    exact Nat.le_of_mul_le_mul_right this h1
  have hz2 : C2 ≤ C1 * 2 ^ d := by
    have : C2 * S ≤ C1 * 2 ^ d * S := by
      rw [Nat.mul_right_comm C1]; exact hz
    exact Nat.le_of_mul_le_mul_right this h1
  have he : ((l + 127 : Nat) : Int) - 150 - (((m + 127 : Nat) : Int) - 150) = (d : Int) := by omega
  rw [he]
  unfold FP.Core.roundRatio
  rw [if_neg (by omega)]
  by_cases c : C2 ≤ C1
  · have hd3 : d ≤ 3 := by
      rcases Nat.lt_or_ge 3 d with c2 | c2
      · have : d = 4 := by omega
        subst this
        omega
      · exact c2
    have hq : FP.Core.quantum FP.Core.b32 C1 C2 (d : Int) = (d : Int) - 23 := by
      unfold FP.Core.quantum
      rw [fc_leading (k := 0) (by omega) (by omega) (by omega), b32_m, b32_p]
      omega
    rw [hq]
    unfold FP.Core.roundAt FP.Core.unitsNum FP.Core.unitsDen
    rw [show ((d : Int) - ((d : Int) - 23)).toNat = 23 by omega, show ((d : Int) - 23 - (d : Int)).toNat = 0 by omega]
    obtain ⟨n1, n2⟩ := fc_near_b (A := C1 * 2 ^ 23) (B := C2 * 2 ^ 0) (lo := 8388608) (hi := if d = 3 then 10485760 else 16777216) (by omega) (by omega) (by
      split
      · rename_i c3; subst c3; omega
      · omega)
    generalize FP.Core.nearest (C1 * 2 ^ 23) (C2 * 2 ^ 0) = c at n1 n2 ⊢
    unfold FP.Core.settle FP.Core.bound
    rw [b32_p, b32_M, b32_t]
    by_cases c4 : c < 2 ^ 24
    · rw [if_pos c4, if_pos (by omega), enc32 (E := d + 127) (by omega) (by omega) n1 c4]
      exact ⟨d + 127, c - 8388608, by omega, by omega, by omega, fun he => (by rw [if_pos (by omega)] at n2; omega), rfl⟩
    · have hd2 : d ≤ 2 := by
        rcases Nat.lt_or_ge 2 d with c5 | c5
        · rw [if_pos (by omega)] at n2; omega
        · exact c5
      rw [if_neg c4, if_pos (by omega), enc32 (E := d + 128) (by omega) (by omega) (by omega) (by omega)]
      exact ⟨d + 128, 0, by omega, by omega, by omega, fun _ => by omega, rfl⟩
  · have hd1 : 1 ≤ d := by
      rcases Nat.eq_zero_or_pos d with c2 | c2
      · subst c2; omega
      · exact c2
    have hq : FP.Core.quantum FP.Core.b32 C1 C2 (d : Int) = (d : Int) - 24 := by
      unfold FP.Core.quantum
      rw [fc_leading_m (by omega) (by omega) (by omega), b32_m, b32_p]
      omega
    rw [hq]
    unfold FP.Core.roundAt FP.Core.unitsNum FP.Core.unitsDen
    rw [show ((d : Int) - ((d : Int) - 24)).toNat = 24 by omega, show ((d : Int) - 24 - (d : Int)).toNat = 0 by omega]
    obtain ⟨n1, n2⟩ := fc_near_b (A := C1 * 2 ^ 24) (B := C2 * 2 ^ 0) (lo := 8388608) (hi := if d = 4 then 10485760 else 16777216) (by omega) (by omega) (by
      split
      · rename_i c3; subst c3; omega
      · omega)
    generalize FP.Core.nearest (C1 * 2 ^ 24) (C2 * 2 ^ 0) = c at n1 n2 ⊢
    unfold FP.Core.settle FP.Core.bound
    rw [b32_p, b32_M, b32_t]
    by_cases c4 : c < 2 ^ 24
    · rw [if_pos c4, if_pos (by omega), enc32 (E := d + 126) (by omega) (by omega) n1 c4]
      exact ⟨d + 126, c - 8388608, by omega, by omega, by omega, fun he => (by rw [if_pos (by omega)] at n2; omega), rfl⟩
    · have hd2 : d ≤ 3 := by
        rcases Nat.lt_or_ge 3 d with c5 | c5
        · rw [if_pos (by omega)] at n2; omega
        · exact c5
      rw [if_neg c4, if_pos (by omega), enc32 (E := d + 127) (by omega) (by omega) (by omega) (by omega)]
      exact ⟨d + 127, 0, by omega, by omega, by omega, fun _ => by omega, rfl⟩
