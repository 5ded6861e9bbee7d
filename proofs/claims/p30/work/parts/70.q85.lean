theorem cv_lt (o : CmpOp) : Op.cmpValue (some Ordering.lt) o = (-1 : Int32) := by cases o <;> rfl
theorem cv_gt (o : CmpOp) : Op.cmpValue (some Ordering.gt) o = (1 : Int32) := by cases o <;> rfl
theorem cv_eq (o : CmpOp) : Op.cmpValue (some Ordering.eq) o = (0 : Int32) := by cases o <;> rfl
theorem ord_ff {C D : Nat} {q r : Int} : FP.Core.order (.fin false C q) (.fin false D r) = some (compare ((C * 2 ^ (q - min q r).toNat : Nat) : Int) ((D * 2 ^ (r - min q r).toNat : Nat) : Int)) := rfl
theorem cmp_lt' {a b : Nat} (h : a < b) : compare (a : Int) (b : Int) = Ordering.lt := by
  rw [show compare (a : Int) (b : Int) = compareOfLessAndEq (a : Int) (b : Int) from rfl, compareOfLessAndEq, if_pos (by omega)]
theorem cmp_ge' {a b : Nat} (h : b ≤ a) : compare (a : Int) (b : Int) = Ordering.eq ∨ compare (a : Int) (b : Int) = Ordering.gt := by
  rw [show compare (a : Int) (b : Int) = compareOfLessAndEq (a : Int) (b : Int) from rfl, compareOfLessAndEq, if_neg (by omega)]
  split
  · exact Or.inl rfl
  · exact Or.inr rfl
theorem fcmp_e (a b : Nat) (ha : a < 4294967296) (hb : b < 4294967296) : FP.fcmp (UInt32.ofNat a) (UInt32.ofNat b) = FP.Core.order (FP.Core.decode FP.Core.b32 a) (FP.Core.decode FP.Core.b32 b) := by
  show FP.Core.cmp FP.Core.b32 (UInt32.ofNat a).toNat (UInt32.ofNat b).toNat = _
  rw [u32n ha, u32n hb]
  rfl
theorem dcmp_e (a b : Nat) (ha : a < 18446744073709551616) (hb : b < 18446744073709551616) : FP.dcmp (UInt64.ofNat a) (UInt64.ofNat b) = FP.Core.order (FP.Core.decode FP.Core.b64 a) (FP.Core.decode FP.Core.b64 b) := by
  show FP.Core.cmp FP.Core.b64 (UInt64.ofNat a).toNat (UInt64.ofNat b).toNat = _
  rw [u64n ha, u64n hb]
  rfl
theorem f2_n : FP.fconst2 = UInt32.ofNat (n32 128 0) := by decide +kernel
theorem f1_n : FP.fconst1 = UInt32.ofNat (n32 127 0) := by decide +kernel
theorem f0_n : FP.fconst0 = UInt32.ofNat 0 := by decide +kernel
theorem fu_n : (1258291200 : UInt32) = UInt32.ofNat (n32 150 0) := by decide +kernel
theorem d2_n : (4611686018427387904 : UInt64) = UInt64.ofNat (n64 1024 0) := by decide +kernel
theorem d1_n : FP.dconst1 = UInt64.ofNat (n64 1023 0) := by decide +kernel
theorem d0_n : FP.dconst0 = UInt64.ofNat 0 := by decide +kernel
theorem l2d_n : FP.l2d (8388608 : Int64) = UInt64.ofNat (n64 1046 0) := by decide +kernel
theorem dec32_0 : FP.Core.decode FP.Core.b32 0 = .fin false 0 (-149) := by decide +kernel
theorem dec64_0 : FP.Core.decode FP.Core.b64 0 = .fin false 0 (-1074) := by decide +kernel
/-- below 2 -/
theorem f_lt2 {E t : Nat} (h1 : 127 ≤ E) (h2 : E ≤ 130) (ht : t < 8388608) : ((Op.cmpValue (FP.fcmp (UInt32.ofNat (n32 E t)) FP.fconst2) CmpOp.l) < 0) ↔ E = 127 := by
  rw [f2_n, fcmp_e _ _ (n32_lt (by omega) ht) (n32_lt (by omega) (by omega)), dec32 (by omega) (by omega) ht, dec32 (by omega) (by omega) (by omega), ord_ff]
  by_cases c : E = 127
  · subst c
    rw [show min (((127 : Nat) : Int) - 150) (((128 : Nat) : Int) - 150) = -23 by omega, cmp_lt' (by rw [show (((127 : Nat) : Int) - 150 - -23).toNat = 0 by omega, show (((128 : Nat) : Int) - 150 - -23).toNat = 1 by omega]; omega), cv_lt]
    exact ⟨fun _ => rfl, fun _ => by decide⟩
  · rw [show min ((E : Int) - 150) (((128 : Nat) : Int) - 150) = -22 by omega]
    have hp : 1 ≤ 2 ^ ((E : Int) - 150 - -22).toNat := Nat.two_pow_pos _
    have h3 : 8388608 + t ≤ (8388608 + t) * 2 ^ ((E : Int) - 150 - -22).toNat := Nat.le_mul_of_pos_right _ hp
    rcases cmp_ge' (a := (8388608 + t) * 2 ^ ((E : Int) - 150 - -22).toNat) (b := (8388608 + 0) * 2 ^ ((((128 : Nat) : Int) - 150 - -22).toNat)) (by rw [show ((((128 : Nat) : Int) - 150 - -22).toNat) = 0 by omega]; omega) with x | x
    · rw [x, cv_eq]; exact ⟨fun y => absurd y (by decide), fun y => absurd y c⟩
    · rw [x, cv_gt]; exact ⟨fun y => absurd y (by decide), fun y => absurd y c⟩
theorem f_gt0 {E t : Nat} (h1 : 127 ≤ E) (h2 : E ≤ 130) (ht : t < 8388608) : 0 < (Op.cmpValue (FP.fcmp (UInt32.ofNat (n32 E t)) FP.fconst0) CmpOp.g) := by
  rw [f0_n, fcmp_e _ _ (n32_lt (by omega) ht) (by omega), dec32 (by omega) (by omega) ht, dec32_0, ord_ff]
  have hp : 1 ≤ 2 ^ ((E : Int) - 150 - min ((E : Int) - 150) (-149)).toNat := Nat.two_pow_pos _
  have h3 : 8388608 + t ≤ (8388608 + t) * 2 ^ ((E : Int) - 150 - min ((E : Int) - 150) (-149)).toNat := Nat.le_mul_of_pos_right _ hp
  rcases cmp_ge' (a := (8388608 + t) * 2 ^ ((E : Int) - 150 - min ((E : Int) - 150) (-149)).toNat) (b := 0 * 2 ^ ((-149 : Int) - min ((E : Int) - 150) (-149)).toNat) (by omega) with x | x
  · rw [show compare (((8388608 + t) * 2 ^ ((E : Int) - 150 - min ((E : Int) - 150) (-149)).toNat : Nat) : Int) ((0 * 2 ^ ((-149 : Int) - min ((E : Int) - 150) (-149)).toNat : Nat) : Int) = compareOfLessAndEq _ _ from rfl, compareOfLessAndEq, if_neg (by omega), if_neg (by omega), cv_gt]
    decide
  · rw [x, cv_gt]; decide
theorem d_lt2 {E t : Nat} (h1 : 1023 ≤ E) (h2 : E ≤ 1026) (ht : t < 4503599627370496) : ((Op.cmpValue (FP.dcmp (UInt64.ofNat (n64 E t)) (4611686018427387904 : UInt64)) CmpOp.l) < 0) ↔ E = 1023 := by
  rw [d2_n, dcmp_e _ _ (n64_lt (by omega) ht) (n64_lt (by omega) (by omega)), dec64 (by omega) (by omega) ht, dec64 (by omega) (by omega) (by omega), ord_ff]
  by_cases c : E = 1023
  · subst c
    rw [show min (((1023 : Nat) : Int) - 1075) (((1024 : Nat) : Int) - 1075) = -52 by omega, cmp_lt' (by rw [show (((1023 : Nat) : Int) - 1075 - -52).toNat = 0 by omega, show (((1024 : Nat) : Int) - 1075 - -52).toNat = 1 by omega]; omega), cv_lt]
    exact ⟨fun _ => rfl, fun _ => by decide⟩
  · rw [show min ((E : Int) - 1075) (((1024 : Nat) : Int) - 1075) = -51 by omega]
    have hp : 1 ≤ 2 ^ ((E : Int) - 1075 - -51).toNat := Nat.two_pow_pos _
    have h3 : 4503599627370496 + t ≤ (4503599627370496 + t) * 2 ^ ((E : Int) - 1075 - -51).toNat := Nat.le_mul_of_pos_right _ hp
    rcases cmp_ge' (a := (4503599627370496 + t) * 2 ^ ((E : Int) - 1075 - -51).toNat) (b := (4503599627370496 + 0) * 2 ^ ((((1024 : Nat) : Int) - 1075 - -51).toNat)) (by rw [show ((((1024 : Nat) : Int) - 1075 - -51).toNat) = 0 by omega]; omega) with x | x
    · rw [x, cv_eq]; exact ⟨fun y => absurd y (by decide), fun y => absurd y c⟩
    · rw [x, cv_gt]; exact ⟨fun y => absurd y (by decide), fun y => absurd y c⟩
theorem d_ge1 {t : Nat} (ht : t < 4503599627370496) : 0 ≤ (Op.cmpValue (FP.dcmp (UInt64.ofNat (n64 1023 t)) FP.dconst1) CmpOp.g) := by
  rw [d1_n, dcmp_e _ _ (n64_lt (by omega) ht) (n64_lt (by omega) (by omega)), dec64 (by omega) (by omega) ht, dec64 (by omega) (by omega) (by omega), ord_ff]
  rw [show min (((1023 : Nat) : Int) - 1075) (((1023 : Nat) : Int) - 1075) = -52 by omega]
  rcases cmp_ge' (a := (4503599627370496 + t) * 2 ^ ((((1023 : Nat) : Int) - 1075 - -52).toNat)) (b := (4503599627370496 + 0) * 2 ^ ((((1023 : Nat) : Int) - 1075 - -52).toNat)) (by rw [show ((((1023 : Nat) : Int) - 1075 - -52).toNat) = 0 by omega]; omega) with x | x
  · rw [x, cv_eq]; decide
  · rw [x, cv_gt]; decide
theorem d_ne0 {E t : Nat} (h1 : 1023 ≤ E) (h2 : E ≤ 1026) (ht : t < 4503599627370496) : ¬ (Op.cmpValue (FP.dcmp (UInt64.ofNat (n64 E t)) FP.dconst0) CmpOp.l) = 0 := by
  rw [d0_n, dcmp_e _ _ (n64_lt (by omega) ht) (by omega), dec64 (by omega) (by omega) ht, dec64_0, ord_ff]
  have hp : 1 ≤ 2 ^ ((E : Int) - 1075 - min ((E : Int) - 1075) (-1074)).toNat := Nat.two_pow_pos _
  have h3 : 4503599627370496 + t ≤ (4503599627370496 + t) * 2 ^ ((E : Int) - 1075 - min ((E : Int) - 1075) (-1074)).toNat := Nat.le_mul_of_pos_right _ hp
  rw [show compare (((4503599627370496 + t) * 2 ^ ((E : Int) - 1075 - min ((E : Int) - 1075) (-1074)).toNat : Nat) : Int) ((0 * 2 ^ ((-1074 : Int) - min ((E : Int) - 1075) (-1074)).toNat : Nat) : Int) = compareOfLessAndEq _ _ from rfl, compareOfLessAndEq, if_neg (by omega), if_neg (by omega), cv_gt]
  decide
/-- halves -/
theorem f_half {E t : Nat} (h1 : 2 ≤ E) (h2 : E ≤ 254) (ht : t < 8388608) : FP.fdiv (UInt32.ofNat (n32 E t)) FP.fconst2 = UInt32.ofNat (n32 (E - 1) t) := by
  rw [f2_n, fdiv_e _ _ (n32_lt (by omega) ht) (n32_lt (by omega) (by omega)), dec32 (by omega) (by omega) ht, dec32 (by omega) (by omega) (by omega), quo32 (by omega)]
  rw [fc_rr FP.Core.b32 (C := 8388608 + t) (k := 0) (q := (E : Int) - 151) (by omega) (by omega) (by omega) (by rw [b32_p]; omega) (by rw [b32_m]; omega) (by rw [b32_M]; omega) (by rw [b32_p]; omega) (Or.inl ⟨by rw [b32_p]; omega, by rw [b32_p]⟩) (by rw [b32_p]; omega)]
  rw [enc32 (E := E - 1) (by omega) (by omega) (by omega) (by omega), show 8388608 + t - 8388608 = t by omega]
theorem ddiv_e (a b : Nat) (ha : a < 18446744073709551616) (hb : b < 18446744073709551616) : FP.ddiv (UInt64.ofNat a) (UInt64.ofNat b) = UInt64.ofNat (FP.Core.encode FP.Core.b64 (FP.Core.quotient FP.Core.b64 (FP.Core.decode FP.Core.b64 a) (FP.Core.decode FP.Core.b64 b))) := by
  show UInt64.ofNat (FP.Core.div FP.Core.b64 (UInt64.ofNat a).toNat (UInt64.ofNat b).toNat) = _
  rw [u64n ha, u64n hb]
  rfl
theorem quo64 {C D : Nat} {q r : Int} (hD : 0 < D) : FP.Core.quotient FP.Core.b64 (.fin false C q) (.fin false D r) = FP.Core.roundRatio FP.Core.b64 false C D (q - r) := by
  show (if D = 0 then _ else _) = _
  rw [if_neg (by omega)]
  rfl
theorem d_half {E t : Nat} (h1 : 2 ≤ E) (h2 : E ≤ 2046) (ht : t < 4503599627370496) : FP.ddiv (UInt64.ofNat (n64 E t)) (4611686018427387904 : UInt64) = UInt64.ofNat (n64 (E - 1) t) := by
  rw [d2_n, ddiv_e _ _ (n64_lt (by omega) ht) (n64_lt (by omega) (by omega)), dec64 (by omega) (by omega) ht, dec64 (by omega) (by omega) (by omega), quo64 (by omega)]
  rw [fc_rr FP.Core.b64 (C := 4503599627370496 + t) (k := 0) (q := (E : Int) - 1076) (by omega) (by omega) (by omega) (by rw [b64_p]; omega) (by rw [b64_m]; omega) (by rw [b64_M]; omega) (by rw [b64_p]; omega) (Or.inl ⟨by rw [b64_p]; omega, by rw [b64_p]⟩) (by rw [b64_p]; omega)]
  rw [enc64 (E := E - 1) (by omega) (by omega) (by omega) (by omega), show 4503599627370496 + t - 4503599627370496 = t by omega]
theorem f2d_n {E t : Nat} (h1 : 1 ≤ E) (h2 : E ≤ 254) (ht : t < 8388608) : FP.f2d (UInt32.ofNat (n32 E t)) = UInt64.ofNat (n64 (E + 896) (t * 536870912)) := by
  have hn : ¬ FP.Core.fIsNaN (UInt32.ofNat (n32 E t)) = true := by
    unfold FP.Core.fIsNaN FP.Core.isNaN
    rw [u32n (n32_lt h2 ht), dec32 h1 h2 ht]
    intro x
    have x := of_decide_eq_true x
    cases x
  unfold FP.f2d
  rw [if_neg hn]
  show UInt64.ofNat (FP.Core.convert FP.Core.b32 FP.Core.b64 (UInt32.ofNat (n32 E t)).toNat) = _
  rw [u32n (n32_lt h2 ht)]
  unfold FP.Core.convert
  rw [dec32 h1 h2 ht]
  unfold FP.Core.round
  dsimp only
  rw [fc_rr FP.Core.b64 (C := (8388608 + t) * 536870912) (k := 23) (q := (E : Int) - 179) (by omega) (by omega) (by omega) (by rw [b64_p]; omega) (by rw [b64_m]; omega) (by rw [b64_M]; omega) (by rw [b64_p]; omega) (Or.inl ⟨by rw [b64_p]; omega, by rw [b64_p]; omega⟩) (by rw [b64_p]; omega)]
  rw [enc64 (E := E + 896) (by omega) (by omega) (by omega) (by omega), show (8388608 + t) * 536870912 - 4503599627370496 = t * 536870912 by omega]
theorem nn32 {E t : Nat} (h2 : E ≤ 254) (ht : t < 8388608) : (UInt32.ofNat (n32 E t)) &&& 0x7fffffff ≤ 0x7f800000 := by
  rw [UInt32.le_iff_toNat_le, UInt32.toNat_and, u32n (n32_lt h2 ht)]
  show n32 E t &&& (2 ^ 31 - 1) ≤ 2139095040
  rw [Nat.and_two_pow_sub_one_eq_mod]
  have : n32 E t ≤ 2139095040 := by unfold n32; omega
  exact Nat.le_trans (Nat.mod_le _ _) this
theorem nn64 {E t : Nat} (h2 : E ≤ 2046) (ht : t < 4503599627370496) : (UInt64.ofNat (n64 E t)) &&& 0x7fffffffffffffff ≤ 0x7ff0000000000000 := by
  rw [UInt64.le_iff_toNat_le, UInt64.toNat_and, u64n (n64_lt h2 ht)]
  show n64 E t &&& (2 ^ 63 - 1) ≤ 9218868437227405312
  rw [Nat.and_two_pow_sub_one_eq_mod]
  have : n64 E t ≤ 9218868437227405312 := by unfold n64; omega
  exact Nat.le_trans (Nat.mod_le _ _) this
