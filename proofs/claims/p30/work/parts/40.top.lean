-- ===== StenoChords.canStrike(I)Z
theorem vk_X6_canStrike : VK yX6_canStrike cX6_canStrike 2 (some .boolean) 1 := ⟨kw4_75, kw4_74, kwS_16, kw1_1, by decide +kernel⟩
def X6_canStrike (σ : Mem) (p1 : Int32) : Option (Mem × Int32) :=
  (if p1 = 0 then ((X3_length 1 σ).bind fun q3 => (if q3.2 ≤ 0 then some (q3.1, (0 : Int32)) else some (q3.1, (1 : Int32)))) else ((X3_isFull 1 σ).bind fun q1 => (if q1.2 = 0 then some (q1.1, (1 : Int32)) else some (q1.1, (0 : Int32)))))
set_option maxHeartbeats 4000000 in
set_option maxRecDepth 100000 in
theorem ct_X6_canStrike (l : Launch) (G : Gw)  {σ : Mem} {p1 : Int32} {out : Mem × Int32} (h : X6_canStrike σ p1 = some out) : Ct l G yX6_canStrike cX6_canStrike 2 (some .boolean) { frames := 1, cells := 0, slots := 0, locals := 20 } [.ref (gA G 81), .int p1] σ out.1 (some (.int out.2)) := by
  refine Ct.of (by decide +kernel) (Nat.le_of_ble_eq_true rfl) (fun E hE C F => ?_)
  subst hE
  have C : Cx E G RX6 cX6_canStrike 2 { frames := 1, cells := 0, slots := 0, locals := 20 } := C
  unfold X6_canStrike at h
  show J E G 2 0 0 σ 0 [(0, .ref (gA G 81)), (1, .int p1)] []
  refine j_iload_n C dX6_canStrike_0 rfl 1 rfl 1 rfl ?_
  refine j_if_ne C dX6_canStrike_1 25 (by decide) 4 rfl (fun c => ?_) (fun c => ?_)
  · have h := it_f c h
    refine j_aload_n C dX6_canStrike_25 rfl 0 rfl 26 rfl ?_
    refine j_get C foX6 sh81 0 (by decide) 2 rfl kw1_159 rfl dX6_canStrike_26 (.ref (gA G 0)) (fv_r rfl) 29 rfl ?_
    refine j_get C foX5 sh0 0 (by decide) 3 rfl kw1_74 rfl dX6_canStrike_29 (.ref (gA G 1)) (fv_r rfl) 32 rfl ?_
    obtain ⟨q1, e2, h⟩ := ob_some h
    refine j_callV C (ct_X3_isFull (eL E) G row1 e2) sh1 foX3 rfl vk_X3_isFull kw4_76 rfl ⟨Nat.le_of_ble_eq_true rfl, Nat.le_of_ble_eq_true rfl, rfl, rfl⟩ ⟨Nat.zero_le _, Nat.zero_le _⟩ (rest := []) rfl (Nat.le_of_ble_eq_true rfl) dX6_canStrike_32 (st1 := [.int q1.2]) rfl 35 rfl ?_
    refine j_if_ne C dX6_canStrike_35 42 (by decide) 38 rfl (fun c => ?_) (fun c => ?_)
    · have h := it_f c h
      refine j_iconst C dX6_canStrike_42 (0 : Int32) (by decide) 43 rfl ?_
      exact j_zret C F dX6_canStrike_43 (by decide) h
    · have h := it_t c h
      refine j_iconst C dX6_canStrike_38 (1 : Int32) (by decide) 39 rfl ?_
      refine j_goto C dX6_canStrike_39 43 (by decide) ?_
      exact j_zret C F dX6_canStrike_43 (by decide) h
  · have h := it_t c h
    refine j_aload_n C dX6_canStrike_4 rfl 0 rfl 5 rfl ?_
    refine j_get C foX6 sh81 0 (by decide) 2 rfl kw1_159 rfl dX6_canStrike_5 (.ref (gA G 0)) (fv_r rfl) 8 rfl ?_
    refine j_get C foX5 sh0 0 (by decide) 3 rfl kw1_74 rfl dX6_canStrike_8 (.ref (gA G 1)) (fv_r rfl) 11 rfl ?_
    obtain ⟨q3, e4, h⟩ := ob_some h
    refine j_callV C (ct_X3_length (eL E) G row1 e4) sh1 foX3 rfl vk_X3_length kw1_238 rfl ⟨Nat.le_of_ble_eq_true rfl, Nat.le_of_ble_eq_true rfl, rfl, rfl⟩ ⟨Nat.zero_le _, Nat.zero_le _⟩ (rest := []) rfl (Nat.le_of_ble_eq_true rfl) dX6_canStrike_11 (st1 := [.int q3.2]) rfl 14 rfl ?_
    refine j_if_le C dX6_canStrike_14 21 (by decide) 17 rfl (fun c => ?_) (fun c => ?_)
    · have h := it_t c h
      refine j_iconst C dX6_canStrike_21 (0 : Int32) (by decide) 22 rfl ?_
      refine j_goto C dX6_canStrike_22 43 (by decide) ?_
      exact j_zret C F dX6_canStrike_43 (by decide) h
    · have h := it_f c h
      refine j_iconst C dX6_canStrike_17 (1 : Int32) (by decide) 18 rfl ?_
      refine j_goto C dX6_canStrike_18 43 (by decide) ?_
      exact j_zret C F dX6_canStrike_43 (by decide) h

-- ===== java/lang/Integer.bitCount(I)I
theorem vk_J6_bitCount_0f7a4 : SK yJ6_bitCount_0f7a4 cJ6_bitCount_0f7a4 1 (some .int) 1 := ⟨kw4_88, kw4_87, kw1_21, by decide +kernel⟩
def J6_bitCount_0f7a4 (σ : Mem) (p0 : Int32) : Option (Mem × Int32) :=
  some (σ, ((((((((p0 - (((p0.toUInt32 >>> ((1 : Int32).toUInt32 &&& Int32.toUInt32 31)).toInt32) &&& (1431655765 : Int32))) &&& (858993459 : Int32)) + ((((p0 - (((p0.toUInt32 >>> ((1 : Int32).toUInt32 &&& Int32.toUInt32 31)).toInt32) &&& (1431655765 : Int32))).toUInt32 >>> ((2 : Int32).toUInt32 &&& Int32.toUInt32 31)).toInt32) &&& (858993459 : Int32))) + (((((p0 - (((p0.toUInt32 >>> ((1 : Int32).toUInt32 &&& Int32.toUInt32 31)).toInt32) &&& (1431655765 : Int32))) &&& (858993459 : Int32)) + ((((p0 - (((p0.toUInt32 >>> ((1 : Int32).toUInt32 &&& Int32.toUInt32 31)).toInt32) &&& (1431655765 : Int32))).toUInt32 >>> ((2 : Int32).toUInt32 &&& Int32.toUInt32 31)).toInt32) &&& (858993459 : Int32))).toUInt32 >>> ((4 : Int32).toUInt32 &&& Int32.toUInt32 31)).toInt32)) &&& (252645135 : Int32)) + (((((((p0 - (((p0.toUInt32 >>> ((1 : Int32).toUInt32 &&& Int32.toUInt32 31)).toInt32) &&& (1431655765 : Int32))) &&& (858993459 : Int32)) + ((((p0 - (((p0.toUInt32 >>> ((1 : Int32).toUInt32 &&& Int32.toUInt32 31)).toInt32) &&& (1431655765 : Int32))).toUInt32 >>> ((2 : Int32).toUInt32 &&& Int32.toUInt32 31)).toInt32) &&& (858993459 : Int32))) + (((((p0 - (((p0.toUInt32 >>> ((1 : Int32).toUInt32 &&& Int32.toUInt32 31)).toInt32) &&& (1431655765 : Int32))) &&& (858993459 : Int32)) + ((((p0 - (((p0.toUInt32 >>> ((1 : Int32).toUInt32 &&& Int32.toUInt32 31)).toInt32) &&& (1431655765 : Int32))).toUInt32 >>> ((2 : Int32).toUInt32 &&& Int32.toUInt32 31)).toInt32) &&& (858993459 : Int32))).toUInt32 >>> ((4 : Int32).toUInt32 &&& Int32.toUInt32 31)).toInt32)) &&& (252645135 : Int32)).toUInt32 >>> ((8 : Int32).toUInt32 &&& Int32.toUInt32 31)).toInt32)) + ((((((((p0 - (((p0.toUInt32 >>> ((1 : Int32).toUInt32 &&& Int32.toUInt32 31)).toInt32) &&& (1431655765 : Int32))) &&& (858993459 : Int32)) + ((((p0 - (((p0.toUInt32 >>> ((1 : Int32).toUInt32 &&& Int32.toUInt32 31)).toInt32) &&& (1431655765 : Int32))).toUInt32 >>> ((2 : Int32).toUInt32 &&& Int32.toUInt32 31)).toInt32) &&& (858993459 : Int32))) + (((((p0 - (((p0.toUInt32 >>> ((1 : Int32).toUInt32 &&& Int32.toUInt32 31)).toInt32) &&& (1431655765 : Int32))) &&& (858993459 : Int32)) + ((((p0 - (((p0.toUInt32 >>> ((1 : Int32).toUInt32 &&& Int32.toUInt32 31)).toInt32) &&& (1431655765 : Int32))).toUInt32 >>> ((2 : Int32).toUInt32 &&& Int32.toUInt32 31)).toInt32) &&& (858993459 : Int32))).toUInt32 >>> ((4 : Int32).toUInt32 &&& Int32.toUInt32 31)).toInt32)) &&& (252645135 : Int32)) + (((((((p0 - (((p0.toUInt32 >>> ((1 : Int32).toUInt32 &&& Int32.toUInt32 31)).toInt32) &&& (1431655765 : Int32))) &&& (858993459 : Int32)) + ((((p0 - (((p0.toUInt32 >>> ((1 : Int32).toUInt32 &&& Int32.toUInt32 31)).toInt32) &&& (1431655765 : Int32))).toUInt32 >>> ((2 : Int32).toUInt32 &&& Int32.toUInt32 31)).toInt32) &&& (858993459 : Int32))) + (((((p0 - (((p0.toUInt32 >>> ((1 : Int32).toUInt32 &&& Int32.toUInt32 31)).toInt32) &&& (1431655765 : Int32))) &&& (858993459 : Int32)) + ((((p0 - (((p0.toUInt32 >>> ((1 : Int32).toUInt32 &&& Int32.toUInt32 31)).toInt32) &&& (1431655765 : Int32))).toUInt32 >>> ((2 : Int32).toUInt32 &&& Int32.toUInt32 31)).toInt32) &&& (858993459 : Int32))).toUInt32 >>> ((4 : Int32).toUInt32 &&& Int32.toUInt32 31)).toInt32)) &&& (252645135 : Int32)).toUInt32 >>> ((8 : Int32).toUInt32 &&& Int32.toUInt32 31)).toInt32)).toUInt32 >>> ((16 : Int32).toUInt32 &&& Int32.toUInt32 31)).toInt32)) &&& (63 : Int32)))
set_option maxHeartbeats 4000000 in
set_option maxRecDepth 100000 in
theorem ct_J6_bitCount_0f7a4 (l : Launch) (G : Gw)  {σ : Mem} {p0 : Int32} {out : Mem × Int32} (h : J6_bitCount_0f7a4 σ p0 = some out) : Ct l G yJ6_bitCount_0f7a4 cJ6_bitCount_0f7a4 1 (some .int) { frames := 0, cells := 0, slots := 0, locals := 0 } [.int p0] σ out.1 (some (.int out.2)) := by
  refine Ct.of (by decide +kernel) (Nat.le_of_ble_eq_true rfl) (fun E hE C F => ?_)
  subst hE
  have C : Cx E G RJ6 cJ6_bitCount_0f7a4 1 { frames := 0, cells := 0, slots := 0, locals := 0 } := C
  unfold J6_bitCount_0f7a4 at h
  show J E G 1 0 0 σ 0 [(0, .int p0)] []
  refine j_iload_n C dJ6_bitCount_0f7a4_0 rfl 0 rfl 1 rfl ?_
  refine j_iload_n C dJ6_bitCount_0f7a4_1 rfl 0 rfl 2 rfl ?_
  refine j_iconst C dJ6_bitCount_0f7a4_2 (1 : Int32) (by decide) 3 rfl ?_
  refine j_iushr C dJ6_bitCount_0f7a4_3 4 rfl ?_
  refine j_ldcw C dJ6_bitCount_0f7a4_4 kw4_89 7 rfl ?_
  refine j_iand C dJ6_bitCount_0f7a4_7 8 rfl ?_
  refine j_isub C dJ6_bitCount_0f7a4_8 9 rfl ?_
  refine j_istore_n C dJ6_bitCount_0f7a4_9 rfl (by decide) [(0, .int (p0 - (((p0.toUInt32 >>> ((1 : Int32).toUInt32 &&& Int32.toUInt32 31)).toInt32) &&& (1431655765 : Int32))))] rfl 10 rfl ?_
  refine j_iload_n C dJ6_bitCount_0f7a4_10 rfl 0 rfl 11 rfl ?_
  refine j_ldcw C dJ6_bitCount_0f7a4_11 kw4_90 14 rfl ?_
  refine j_iand C dJ6_bitCount_0f7a4_14 15 rfl ?_
  refine j_iload_n C dJ6_bitCount_0f7a4_15 rfl 0 rfl 16 rfl ?_
  refine j_iconst C dJ6_bitCount_0f7a4_16 (2 : Int32) (by decide) 17 rfl ?_
  refine j_iushr C dJ6_bitCount_0f7a4_17 18 rfl ?_
  refine j_ldcw C dJ6_bitCount_0f7a4_18 kw4_90 21 rfl ?_
  refine j_iand C dJ6_bitCount_0f7a4_21 22 rfl ?_
  refine j_iadd C dJ6_bitCount_0f7a4_22 23 rfl ?_
  refine j_istore_n C dJ6_bitCount_0f7a4_23 rfl (by decide) [(0, .int (((p0 - (((p0.toUInt32 >>> ((1 : Int32).toUInt32 &&& Int32.toUInt32 31)).toInt32) &&& (1431655765 : Int32))) &&& (858993459 : Int32)) + ((((p0 - (((p0.toUInt32 >>> ((1 : Int32).toUInt32 &&& Int32.toUInt32 31)).toInt32) &&& (1431655765 : Int32))).toUInt32 >>> ((2 : Int32).toUInt32 &&& Int32.toUInt32 31)).toInt32) &&& (858993459 : Int32))))] rfl 24 rfl ?_
  refine j_iload_n C dJ6_bitCount_0f7a4_24 rfl 0 rfl 25 rfl ?_
  refine j_iload_n C dJ6_bitCount_0f7a4_25 rfl 0 rfl 26 rfl ?_
  refine j_iconst C dJ6_bitCount_0f7a4_26 (4 : Int32) (by decide) 27 rfl ?_
  refine j_iushr C dJ6_bitCount_0f7a4_27 28 rfl ?_
  refine j_iadd C dJ6_bitCount_0f7a4_28 29 rfl ?_
  refine j_ldcw C dJ6_bitCount_0f7a4_29 kw4_91 32 rfl ?_
  refine j_iand C dJ6_bitCount_0f7a4_32 33 rfl ?_
  refine j_istore_n C dJ6_bitCount_0f7a4_33 rfl (by decide) [(0, .int (((((p0 - (((p0.toUInt32 >>> ((1 : Int32).toUInt32 &&& Int32.toUInt32 31)).toInt32) &&& (1431655765 : Int32))) &&& (858993459 : Int32)) + ((((p0 - (((p0.toUInt32 >>> ((1 : Int32).toUInt32 &&& Int32.toUInt32 31)).toInt32) &&& (1431655765 : Int32))).toUInt32 >>> ((2 : Int32).toUInt32 &&& Int32.toUInt32 31)).toInt32) &&& (858993459 : Int32))) + (((((p0 - (((p0.toUInt32 >>> ((1 : Int32).toUInt32 &&& Int32.toUInt32 31)).toInt32) &&& (1431655765 : Int32))) &&& (858993459 : Int32)) + ((((p0 - (((p0.toUInt32 >>> ((1 : Int32).toUInt32 &&& Int32.toUInt32 31)).toInt32) &&& (1431655765 : Int32))).toUInt32 >>> ((2 : Int32).toUInt32 &&& Int32.toUInt32 31)).toInt32) &&& (858993459 : Int32))).toUInt32 >>> ((4 : Int32).toUInt32 &&& Int32.toUInt32 31)).toInt32)) &&& (252645135 : Int32)))] rfl 34 rfl ?_
  refine j_iload_n C dJ6_bitCount_0f7a4_34 rfl 0 rfl 35 rfl ?_
  refine j_iload_n C dJ6_bitCount_0f7a4_35 rfl 0 rfl 36 rfl ?_
  refine j_bipush C dJ6_bitCount_0f7a4_36 (8 : Int32) (by decide) 38 rfl ?_
  refine j_iushr C dJ6_bitCount_0f7a4_38 39 rfl ?_
  refine j_iadd C dJ6_bitCount_0f7a4_39 40 rfl ?_
  refine j_istore_n C dJ6_bitCount_0f7a4_40 rfl (by decide) [(0, .int ((((((p0 - (((p0.toUInt32 >>> ((1 : Int32).toUInt32 &&& Int32.toUInt32 31)).toInt32) &&& (1431655765 : Int32))) &&& (858993459 : Int32)) + ((((p0 - (((p0.toUInt32 >>> ((1 : Int32).toUInt32 &&& Int32.toUInt32 31)).toInt32) &&& (1431655765 : Int32))).toUInt32 >>> ((2 : Int32).toUInt32 &&& Int32.toUInt32 31)).toInt32) &&& (858993459 : Int32))) + (((((p0 - (((p0.toUInt32 >>> ((1 : Int32).toUInt32 &&& Int32.toUInt32 31)).toInt32) &&& (1431655765 : Int32))) &&& (858993459 : Int32)) + ((((p0 - (((p0.toUInt32 >>> ((1 : Int32).toUInt32 &&& Int32.toUInt32 31)).toInt32) &&& (1431655765 : Int32))).toUInt32 >>> ((2 : Int32).toUInt32 &&& Int32.toUInt32 31)).toInt32) &&& (858993459 : Int32))).toUInt32 >>> ((4 : Int32).toUInt32 &&& Int32.toUInt32 31)).toInt32)) &&& (252645135 : Int32)) + (((((((p0 - (((p0.toUInt32 >>> ((1 : Int32).toUInt32 &&& Int32.toUInt32 31)).toInt32) &&& (1431655765 : Int32))) &&& (858993459 : Int32)) + ((((p0 - (((p0.toUInt32 >>> ((1 : Int32).toUInt32 &&& Int32.toUInt32 31)).toInt32) &&& (1431655765 : Int32))).toUInt32 >>> ((2 : Int32).toUInt32 &&& Int32.toUInt32 31)).toInt32) &&& (858993459 : Int32))) + (((((p0 - (((p0.toUInt32 >>> ((1 : Int32).toUInt32 &&& Int32.toUInt32 31)).toInt32) &&& (1431655765 : Int32))) &&& (858993459 : Int32)) + ((((p0 - (((p0.toUInt32 >>> ((1 : Int32).toUInt32 &&& Int32.toUInt32 31)).toInt32) &&& (1431655765 : Int32))).toUInt32 >>> ((2 : Int32).toUInt32 &&& Int32.toUInt32 31)).toInt32) &&& (858993459 : Int32))).toUInt32 >>> ((4 : Int32).toUInt32 &&& Int32.toUInt32 31)).toInt32)) &&& (252645135 : Int32)).toUInt32 >>> ((8 : Int32).toUInt32 &&& Int32.toUInt32 31)).toInt32)))] rfl 41 rfl ?_
  refine j_iload_n C dJ6_bitCount_0f7a4_41 rfl 0 rfl 42 rfl ?_
  refine j_iload_n C dJ6_bitCount_0f7a4_42 rfl 0 rfl 43 rfl ?_
  refine j_bipush C dJ6_bitCount_0f7a4_43 (16 : Int32) (by decide) 45 rfl ?_
  refine j_iushr C dJ6_bitCount_0f7a4_45 46 rfl ?_
  refine j_iadd C dJ6_bitCount_0f7a4_46 47 rfl ?_
  refine j_istore_n C dJ6_bitCount_0f7a4_47 rfl (by decide) [(0, .int (((((((p0 - (((p0.toUInt32 >>> ((1 : Int32).toUInt32 &&& Int32.toUInt32 31)).toInt32) &&& (1431655765 : Int32))) &&& (858993459 : Int32)) + ((((p0 - (((p0.toUInt32 >>> ((1 : Int32).toUInt32 &&& Int32.toUInt32 31)).toInt32) &&& (1431655765 : Int32))).toUInt32 >>> ((2 : Int32).toUInt32 &&& Int32.toUInt32 31)).toInt32) &&& (858993459 : Int32))) + (((((p0 - (((p0.toUInt32 >>> ((1 : Int32).toUInt32 &&& Int32.toUInt32 31)).toInt32) &&& (1431655765 : Int32))) &&& (858993459 : Int32)) + ((((p0 - (((p0.toUInt32 >>> ((1 : Int32).toUInt32 &&& Int32.toUInt32 31)).toInt32) &&& (1431655765 : Int32))).toUInt32 >>> ((2 : Int32).toUInt32 &&& Int32.toUInt32 31)).toInt32) &&& (858993459 : Int32))).toUInt32 >>> ((4 : Int32).toUInt32 &&& Int32.toUInt32 31)).toInt32)) &&& (252645135 : Int32)) + (((((((p0 - (((p0.toUInt32 >>> ((1 : Int32).toUInt32 &&& Int32.toUInt32 31)).toInt32) &&& (1431655765 : Int32))) &&& (858993459 : Int32)) + ((((p0 - (((p0.toUInt32 >>> ((1 : Int32).toUInt32 &&& Int32.toUInt32 31)).toInt32) &&& (1431655765 : Int32))).toUInt32 >>> ((2 : Int32).toUInt32 &&& Int32.toUInt32 31)).toInt32) &&& (858993459 : Int32))) + (((((p0 - (((p0.toUInt32 >>> ((1 : Int32).toUInt32 &&& Int32.toUInt32 31)).toInt32) &&& (1431655765 : Int32))) &&& (858993459 : Int32)) + ((((p0 - (((p0.toUInt32 >>> ((1 : Int32).toUInt32 &&& Int32.toUInt32 31)).toInt32) &&& (1431655765 : Int32))).toUInt32 >>> ((2 : Int32).toUInt32 &&& Int32.toUInt32 31)).toInt32) &&& (858993459 : Int32))).toUInt32 >>> ((4 : Int32).toUInt32 &&& Int32.toUInt32 31)).toInt32)) &&& (252645135 : Int32)).toUInt32 >>> ((8 : Int32).toUInt32 &&& Int32.toUInt32 31)).toInt32)) + ((((((((p0 - (((p0.toUInt32 >>> ((1 : Int32).toUInt32 &&& Int32.toUInt32 31)).toInt32) &&& (1431655765 : Int32))) &&& (858993459 : Int32)) + ((((p0 - (((p0.toUInt32 >>> ((1 : Int32).toUInt32 &&& Int32.toUInt32 31)).toInt32) &&& (1431655765 : Int32))).toUInt32 >>> ((2 : Int32).toUInt32 &&& Int32.toUInt32 31)).toInt32) &&& (858993459 : Int32))) + (((((p0 - (((p0.toUInt32 >>> ((1 : Int32).toUInt32 &&& Int32.toUInt32 31)).toInt32) &&& (1431655765 : Int32))) &&& (858993459 : Int32)) + ((((p0 - (((p0.toUInt32 >>> ((1 : Int32).toUInt32 &&& Int32.toUInt32 31)).toInt32) &&& (1431655765 : Int32))).toUInt32 >>> ((2 : Int32).toUInt32 &&& Int32.toUInt32 31)).toInt32) &&& (858993459 : Int32))).toUInt32 >>> ((4 : Int32).toUInt32 &&& Int32.toUInt32 31)).toInt32)) &&& (252645135 : Int32)) + (((((((p0 - (((p0.toUInt32 >>> ((1 : Int32).toUInt32 &&& Int32.toUInt32 31)).toInt32) &&& (1431655765 : Int32))) &&& (858993459 : Int32)) + ((((p0 - (((p0.toUInt32 >>> ((1 : Int32).toUInt32 &&& Int32.toUInt32 31)).toInt32) &&& (1431655765 : Int32))).toUInt32 >>> ((2 : Int32).toUInt32 &&& Int32.toUInt32 31)).toInt32) &&& (858993459 : Int32))) + (((((p0 - (((p0.toUInt32 >>> ((1 : Int32).toUInt32 &&& Int32.toUInt32 31)).toInt32) &&& (1431655765 : Int32))) &&& (858993459 : Int32)) + ((((p0 - (((p0.toUInt32 >>> ((1 : Int32).toUInt32 &&& Int32.toUInt32 31)).toInt32) &&& (1431655765 : Int32))).toUInt32 >>> ((2 : Int32).toUInt32 &&& Int32.toUInt32 31)).toInt32) &&& (858993459 : Int32))).toUInt32 >>> ((4 : Int32).toUInt32 &&& Int32.toUInt32 31)).toInt32)) &&& (252645135 : Int32)).toUInt32 >>> ((8 : Int32).toUInt32 &&& Int32.toUInt32 31)).toInt32)).toUInt32 >>> ((16 : Int32).toUInt32 &&& Int32.toUInt32 31)).toInt32)))] rfl 48 rfl ?_
  refine j_iload_n C dJ6_bitCount_0f7a4_48 rfl 0 rfl 49 rfl ?_
  refine j_bipush C dJ6_bitCount_0f7a4_49 (63 : Int32) (by decide) 51 rfl ?_
  refine j_iand C dJ6_bitCount_0f7a4_51 52 rfl ?_
  exact j_iret C F dJ6_bitCount_0f7a4_52 h

-- ===== StenoChords.readPaper()V
theorem vk_X6_readPaper : VK yX6_readPaper cX6_readPaper 1 none 0 := ⟨kw2_113, kw2_112, kwS_3, kw1_1, by decide +kernel⟩
def X6_readPaper (σ : Mem) : Option (Mem × Unit) :=
  ((X2_dropFrom 61 σ (0 : Int32)).bind fun q1 => ((X2_readOn 61 1 0 q1.1).bind fun q3 => some (q3.1, ())))
set_option maxHeartbeats 4000000 in
set_option maxRecDepth 100000 in
theorem ct_X6_readPaper (l : Launch) (G : Gw)  {σ : Mem} {out : Mem × Unit} (h : X6_readPaper σ = some out) : Ct l G yX6_readPaper cX6_readPaper 1 none { frames := 3, cells := 0, slots := 0, locals := 76 } [.ref (gA G 81)] σ out.1 (none) := by
  refine Ct.of (by decide +kernel) (Nat.le_of_ble_eq_true rfl) (fun E hE C F => ?_)
  subst hE
  have C : Cx E G RX6 cX6_readPaper 1 { frames := 3, cells := 0, slots := 0, locals := 76 } := C
  unfold X6_readPaper at h
  show J E G 1 0 0 σ 0 [(0, .ref (gA G 81))] []
  refine j_aload_n C dX6_readPaper_0 rfl 0 rfl 1 rfl ?_
  refine j_get C foX6 sh81 4 (by decide) 63 rfl kw1_163 rfl dX6_readPaper_1 (.ref (gA G 61)) (fv_r rfl) 4 rfl ?_
  refine j_iconst C dX6_readPaper_4 (0 : Int32) (by decide) 5 rfl ?_
  obtain ⟨q1, e2, h⟩ := ob_some h
  refine j_callV C (ct_X2_dropFrom (eL E) G rdg61 e2) sh61 foX2 rfl vk_X2_dropFrom kw2_114 rfl ⟨Nat.le_of_ble_eq_true rfl, Nat.le_of_ble_eq_true rfl, rfl, rfl⟩ ⟨Nat.zero_le _, Nat.zero_le _⟩ (rest := []) rfl (Nat.le_of_ble_eq_true rfl) dX6_readPaper_5 (st1 := []) rfl 8 rfl ?_
  refine j_aload_n C dX6_readPaper_8 rfl 0 rfl 9 rfl ?_
  refine j_get C foX6 sh81 4 (by decide) 63 rfl kw1_163 rfl dX6_readPaper_9 (.ref (gA G 61)) (fv_r rfl) 12 rfl ?_
  refine j_aload_n C dX6_readPaper_12 rfl 0 rfl 13 rfl ?_
  refine j_get C foX6 sh81 0 (by decide) 2 rfl kw1_159 rfl dX6_readPaper_13 (.ref (gA G 0)) (fv_r rfl) 16 rfl ?_
  refine j_get C foX5 sh0 0 (by decide) 3 rfl kw1_74 rfl dX6_readPaper_16 (.ref (gA G 1)) (fv_r rfl) 19 rfl ?_
  refine j_aload_n C dX6_readPaper_19 rfl 0 rfl 20 rfl ?_
  refine j_get C foX6 sh81 0 (by decide) 2 rfl kw1_159 rfl dX6_readPaper_20 (.ref (gA G 0)) (fv_r rfl) 23 rfl ?_
  obtain ⟨q3, e4, h⟩ := ob_some h
  refine j_callV C (ct_X2_readOn (eL E) G rdg61 row1 sta0 e4) sh61 foX2 rfl vk_X2_readOn kw2_128 rfl ⟨Nat.le_of_ble_eq_true rfl, Nat.le_of_ble_eq_true rfl, rfl, rfl⟩ ⟨Nat.zero_le _, Nat.zero_le _⟩ (rest := []) rfl (Nat.le_of_ble_eq_true rfl) dX6_readPaper_23 (st1 := []) rfl 26 rfl ?_
  exact j_vret C F dX6_readPaper_26 h

-- ===== StenoChords.eat()V
theorem vk_X6_eat : VK yX6_eat cX6_eat 2 none 0 := ⟨kw4_85, kw4_84, kwS_18, kw1_1, by decide +kernel⟩
def X6_eat_45 (σ : Mem) (v1 : Int32) : Option (Mem × Unit) :=
  ((X3_length 1 σ).bind fun q3 => ((some (setI q3.1 0 5 ((σ.1 0 5) + (q3.2 - v1)))).bind fun σ5 => ((some (setI σ5 0 6 ((σ5.1 0 6) + (1 : Int32)))).bind fun σ7 => ((X3_shorten 1 σ7 v1).bind fun q9 => some (q9.1, ())))))
set_option maxHeartbeats 4000000 in
set_option maxRecDepth 100000 in
theorem w_X6_eat_45 {E : Ev} {G : Gw} (C : Cx E G RX6 cX6_eat 2 { frames := 4, cells := 0, slots := 0, locals := 96 }) {out : Mem × Unit} (F : Ef E G out.1 (none) none 0 0)  (σ : Mem) (v1 : Int32) (h : X6_eat_45 σ v1 = some out) : J E G 2 0 0 σ 45 [(0, .ref (gA G 81)), (1, .int v1)] [] := by
  unfold X6_eat_45 at h
  refine j_aload_n C dX6_eat_45 rfl 0 rfl 46 rfl ?_
  refine j_get C foX6 sh81 0 (by decide) 2 rfl kw1_159 rfl dX6_eat_46 (.ref (gA G 0)) (fv_r rfl) 49 rfl ?_
  refine j_dup C dX6_eat_49 rfl 50 rfl ?_
  refine j_get C foX5 sh0 5 (by decide) 0 rfl kw1_86 rfl dX6_eat_50 (.int (σ.1 0 5)) rfl 53 rfl ?_
  refine j_aload_n C dX6_eat_53 rfl 0 rfl 54 rfl ?_
  refine j_get C foX6 sh81 0 (by decide) 2 rfl kw1_159 rfl dX6_eat_54 (.ref (gA G 0)) (fv_r rfl) 57 rfl ?_
  refine j_get C foX5 sh0 0 (by decide) 3 rfl kw1_74 rfl dX6_eat_57 (.ref (gA G 1)) (fv_r rfl) 60 rfl ?_
  obtain ⟨q3, e4, h⟩ := ob_some h
  refine j_callV C (ct_X3_length (eL E) G row1 e4) sh1 foX3 rfl vk_X3_length kw1_238 rfl ⟨Nat.le_of_ble_eq_true rfl, Nat.le_of_ble_eq_true rfl, rfl, rfl⟩ ⟨Nat.zero_le _, Nat.zero_le _⟩ (rest := [.int (σ.1 0 5), .ref (gA G 0)]) rfl (Nat.le_of_ble_eq_true rfl) dX6_eat_60 (st1 := [.int q3.2, .int (σ.1 0 5), .ref (gA G 0)]) rfl 63 rfl ?_
  refine j_iload_n C dX6_eat_63 rfl 1 rfl 64 rfl ?_
  refine j_isub C dX6_eat_64 65 rfl ?_
  refine j_iadd C dX6_eat_65 66 rfl ?_
  obtain ⟨σ5, e6, h⟩ := ob_some h
  refine j_putI C foX5 sh0 5 (by decide) rfl kw1_86 rfl rfl rfl rfl dX6_eat_66 σ5 (Option.some.inj e6) 69 rfl ?_
  refine j_aload_n C dX6_eat_69 rfl 0 rfl 70 rfl ?_
  refine j_get C foX6 sh81 0 (by decide) 2 rfl kw1_159 rfl dX6_eat_70 (.ref (gA G 0)) (fv_r rfl) 73 rfl ?_
  refine j_dup C dX6_eat_73 rfl 74 rfl ?_
  refine j_get C foX5 sh0 6 (by decide) 0 rfl kw1_88 rfl dX6_eat_74 (.int (σ5.1 0 6)) rfl 77 rfl ?_
  refine j_iconst C dX6_eat_77 (1 : Int32) (by decide) 78 rfl ?_
  refine j_iadd C dX6_eat_78 79 rfl ?_
  obtain ⟨σ7, e8, h⟩ := ob_some h
  refine j_putI C foX5 sh0 6 (by decide) rfl kw1_88 rfl rfl rfl rfl dX6_eat_79 σ7 (Option.some.inj e8) 82 rfl ?_
  refine j_aload_n C dX6_eat_82 rfl 0 rfl 83 rfl ?_
  refine j_get C foX6 sh81 0 (by decide) 2 rfl kw1_159 rfl dX6_eat_83 (.ref (gA G 0)) (fv_r rfl) 86 rfl ?_
  refine j_get C foX5 sh0 0 (by decide) 3 rfl kw1_74 rfl dX6_eat_86 (.ref (gA G 1)) (fv_r rfl) 89 rfl ?_
  refine j_iload_n C dX6_eat_89 rfl 1 rfl 90 rfl ?_
  obtain ⟨q9, e10, h⟩ := ob_some h
  refine j_callV C (ct_X3_shorten (eL E) G row1 e10) sh1 foX3 rfl vk_X3_shorten kw2_160 rfl ⟨Nat.le_of_ble_eq_true rfl, Nat.le_of_ble_eq_true rfl, rfl, rfl⟩ ⟨Nat.zero_le _, Nat.zero_le _⟩ (rest := []) rfl (Nat.le_of_ble_eq_true rfl) dX6_eat_90 (st1 := []) rfl 93 rfl ?_
  exact j_vret C F dX6_eat_93 h
def X6_eat (σ : Mem) : Option (Mem × Unit) :=
  ((X3_length 1 σ).bind fun q1 => (if (q1.1.1 0 2) = (1 : Int32) then ((X6_readPaper q1.1).bind fun q11 => ((X2_size 61 q11.1).bind fun q13 => ((X2_placeAt 61 q13.1 (q13.2 - (1 : Int32))).bind fun q15 => X6_eat_45 q15.1 q15.2))) else X6_eat_45 q1.1 (q1.2 - (1 : Int32))))
set_option maxHeartbeats 4000000 in
set_option maxRecDepth 100000 in
theorem ct_X6_eat (l : Launch) (G : Gw)  {σ : Mem} {out : Mem × Unit} (h : X6_eat σ = some out) : Ct l G yX6_eat cX6_eat 2 none { frames := 4, cells := 0, slots := 0, locals := 96 } [.ref (gA G 81)] σ out.1 (none) := by
  refine Ct.of (by decide +kernel) (Nat.le_of_ble_eq_true rfl) (fun E hE C F => ?_)
  subst hE
  have C : Cx E G RX6 cX6_eat 2 { frames := 4, cells := 0, slots := 0, locals := 96 } := C
  unfold X6_eat at h
  show J E G 2 0 0 σ 0 [(0, .ref (gA G 81))] []
  refine j_aload_n C dX6_eat_0 rfl 0 rfl 1 rfl ?_
  refine j_get C foX6 sh81 0 (by decide) 2 rfl kw1_159 rfl dX6_eat_1 (.ref (gA G 0)) (fv_r rfl) 4 rfl ?_
  refine j_get C foX5 sh0 0 (by decide) 3 rfl kw1_74 rfl dX6_eat_4 (.ref (gA G 1)) (fv_r rfl) 7 rfl ?_
  obtain ⟨q1, e2, h⟩ := ob_some h
  refine j_callV C (ct_X3_length (eL E) G row1 e2) sh1 foX3 rfl vk_X3_length kw1_238 rfl ⟨Nat.le_of_ble_eq_true rfl, Nat.le_of_ble_eq_true rfl, rfl, rfl⟩ ⟨Nat.zero_le _, Nat.zero_le _⟩ (rest := []) rfl (Nat.le_of_ble_eq_true rfl) dX6_eat_7 (st1 := [.int q1.2]) rfl 10 rfl ?_
  refine j_iconst C dX6_eat_10 (1 : Int32) (by decide) 11 rfl ?_
  refine j_isub C dX6_eat_11 12 rfl ?_
  refine j_istore_n C dX6_eat_12 rfl (by decide) [(1, .int (q1.2 - (1 : Int32))), (0, .ref (gA G 81))] rfl 13 rfl ?_
  refine j_aload_n C dX6_eat_13 rfl 1 rfl 14 rfl ?_
  refine j_get C foX6 sh81 0 (by decide) 2 rfl kw1_159 rfl dX6_eat_14 (.ref (gA G 0)) (fv_r rfl) 17 rfl ?_
  refine j_get C foX5 sh0 2 (by decide) 0 rfl kw1_79 rfl dX6_eat_17 (.int (q1.1.1 0 2)) rfl 20 rfl ?_
  refine j_iconst C dX6_eat_20 (1 : Int32) (by decide) 21 rfl ?_
  refine j_icmp_ne C dX6_eat_21 45 (by decide) 24 rfl (fun c => ?_) (fun c => ?_)
  · have h := it_f c h
    refine j_sub [(0, .ref (gA G 81)), (1, .int (q1.2 - (1 : Int32)))] [1, 0] rfl ?_
    exact w_X6_eat_45 C F  _ _ h
  · have h := it_t c h
    refine j_aload_n C dX6_eat_24 rfl 1 rfl 25 rfl ?_
    obtain ⟨q11, e12, h⟩ := ob_some h
    refine j_callV C (ct_X6_readPaper (eL E) G  e12) sh81 foX6 rfl vk_X6_readPaper kw2_110 rfl ⟨Nat.le_of_ble_eq_true rfl, Nat.le_of_ble_eq_true rfl, rfl, rfl⟩ ⟨Nat.zero_le _, Nat.zero_le _⟩ (rest := []) rfl (Nat.le_of_ble_eq_true rfl) dX6_eat_25 (st1 := []) rfl 28 rfl ?_
    refine j_aload_n C dX6_eat_28 rfl 1 rfl 29 rfl ?_
    refine j_get C foX6 sh81 4 (by decide) 63 rfl kw1_163 rfl dX6_eat_29 (.ref (gA G 61)) (fv_r rfl) 32 rfl ?_
    refine j_aload_n C dX6_eat_32 rfl 1 rfl 33 rfl ?_
    refine j_get C foX6 sh81 4 (by decide) 63 rfl kw1_163 rfl dX6_eat_33 (.ref (gA G 61)) (fv_r rfl) 36 rfl ?_
    obtain ⟨q13, e14, h⟩ := ob_some h
    refine j_callV C (ct_X2_size (eL E) G rdg61 e14) sh61 foX2 rfl vk_X2_size kw2_163 rfl ⟨Nat.le_of_ble_eq_true rfl, Nat.le_of_ble_eq_true rfl, rfl, rfl⟩ ⟨Nat.zero_le _, Nat.zero_le _⟩ (rest := [.ref (gA G 61)]) rfl (Nat.le_of_ble_eq_true rfl) dX6_eat_36 (st1 := [.int q13.2, .ref (gA G 61)]) rfl 39 rfl ?_
    refine j_iconst C dX6_eat_39 (1 : Int32) (by decide) 40 rfl ?_
    refine j_isub C dX6_eat_40 41 rfl ?_
    obtain ⟨q15, e16, h⟩ := ob_some h
    refine j_callV C (ct_X2_placeAt (eL E) G rdg61 e16) sh61 foX2 rfl vk_X2_placeAt kw3_28 rfl ⟨Nat.le_of_ble_eq_true rfl, Nat.le_of_ble_eq_true rfl, rfl, rfl⟩ ⟨Nat.zero_le _, Nat.zero_le _⟩ (rest := []) rfl (Nat.le_of_ble_eq_true rfl) dX6_eat_41 (st1 := [.int q15.2]) rfl 44 rfl ?_
    refine j_istore_n C dX6_eat_44 rfl (by decide) [(1, .int q15.2), (0, .ref (gA G 81))] rfl 45 rfl ?_
    refine j_sub [(0, .ref (gA G 81)), (1, .int q15.2)] [1, 0] rfl ?_
    exact w_X6_eat_45 C F  _ _ h

-- ===== StenoChords.putOrEat(I)V
theorem vk_X6_putOrEat : VK yX6_putOrEat cX6_putOrEat 2 none 1 := ⟨kw4_81, kw4_80, kwS_17, kw1_1, by decide +kernel⟩
def X6_putOrEat (σ : Mem) (p1 : Int32) : Option (Mem × Unit) :=
  (if p1 = 0 then ((X6_eat σ).bind fun q9 => some (q9.1, ())) else ((X3_put 1 σ p1).bind fun q1 => ((some (setI q1.1 0 4 ((q1.1.1 0 4) + (1 : Int32)))).bind fun σ3 => ((J6_bitCount_0f7a4 σ3 p1).bind fun q5 => ((some (setI q5.1 0 7 ((σ3.1 0 7) + q5.2))).bind fun σ7 => some (σ7, ()))))))
set_option maxHeartbeats 4000000 in
set_option maxRecDepth 100000 in
theorem ct_X6_putOrEat (l : Launch) (G : Gw)  {σ : Mem} {p1 : Int32} {out : Mem × Unit} (h : X6_putOrEat σ p1 = some out) : Ct l G yX6_putOrEat cX6_putOrEat 2 none { frames := 5, cells := 0, slots := 0, locals := 117 } [.ref (gA G 81), .int p1] σ out.1 (none) := by
  refine Ct.of (by decide +kernel) (Nat.le_of_ble_eq_true rfl) (fun E hE C F => ?_)
  subst hE
  have C : Cx E G RX6 cX6_putOrEat 2 { frames := 5, cells := 0, slots := 0, locals := 117 } := C
  unfold X6_putOrEat at h
  show J E G 2 0 0 σ 0 [(0, .ref (gA G 81)), (1, .int p1)] []
  refine j_iload_n C dX6_putOrEat_0 rfl 1 rfl 1 rfl ?_
  refine j_if_ne C dX6_putOrEat_1 11 (by decide) 4 rfl (fun c => ?_) (fun c => ?_)
  · have h := it_f c h
    refine j_aload_n C dX6_putOrEat_11 rfl 0 rfl 12 rfl ?_
    refine j_get C foX6 sh81 0 (by decide) 2 rfl kw1_159 rfl dX6_putOrEat_12 (.ref (gA G 0)) (fv_r rfl) 15 rfl ?_
    refine j_get C foX5 sh0 0 (by decide) 3 rfl kw1_74 rfl dX6_putOrEat_15 (.ref (gA G 1)) (fv_r rfl) 18 rfl ?_
    refine j_iload_n C dX6_putOrEat_18 rfl 1 rfl 19 rfl ?_
    obtain ⟨q1, e2, h⟩ := ob_some h
    refine j_callV C (ct_X3_put (eL E) G row1 e2) sh1 foX3 rfl vk_X3_put kw2_162 rfl ⟨Nat.le_of_ble_eq_true rfl, Nat.le_of_ble_eq_true rfl, rfl, rfl⟩ ⟨Nat.zero_le _, Nat.zero_le _⟩ (rest := []) rfl (Nat.le_of_ble_eq_true rfl) dX6_putOrEat_19 (st1 := []) rfl 22 rfl ?_
    refine j_aload_n C dX6_putOrEat_22 rfl 0 rfl 23 rfl ?_
    refine j_get C foX6 sh81 0 (by decide) 2 rfl kw1_159 rfl dX6_putOrEat_23 (.ref (gA G 0)) (fv_r rfl) 26 rfl ?_
    refine j_dup C dX6_putOrEat_26 rfl 27 rfl ?_
    refine j_get C foX5 sh0 4 (by decide) 0 rfl kw1_84 rfl dX6_putOrEat_27 (.int (q1.1.1 0 4)) rfl 30 rfl ?_
    refine j_iconst C dX6_putOrEat_30 (1 : Int32) (by decide) 31 rfl ?_
    refine j_iadd C dX6_putOrEat_31 32 rfl ?_
    obtain ⟨σ3, e4, h⟩ := ob_some h
    refine j_putI C foX5 sh0 4 (by decide) rfl kw1_84 rfl rfl rfl rfl dX6_putOrEat_32 σ3 (Option.some.inj e4) 35 rfl ?_
    refine j_aload_n C dX6_putOrEat_35 rfl 0 rfl 36 rfl ?_
    refine j_get C foX6 sh81 0 (by decide) 2 rfl kw1_159 rfl dX6_putOrEat_36 (.ref (gA G 0)) (fv_r rfl) 39 rfl ?_
    refine j_dup C dX6_putOrEat_39 rfl 40 rfl ?_
    refine j_get C foX5 sh0 7 (by decide) 0 rfl kw1_90 rfl dX6_putOrEat_40 (.int (σ3.1 0 7)) rfl 43 rfl ?_
    refine j_iload_n C dX6_putOrEat_43 rfl 1 rfl 44 rfl ?_
    obtain ⟨q5, e6, h⟩ := ob_some h
    refine j_callS C (ct_J6_bitCount_0f7a4 (eL E) G  e6) vk_J6_bitCount_0f7a4 kw4_86 rfl ⟨Nat.le_of_ble_eq_true rfl, Nat.le_of_ble_eq_true rfl, rfl, rfl⟩ ⟨Nat.zero_le _, Nat.zero_le _⟩ (rest := [.int (σ3.1 0 7), .ref (gA G 0)]) rfl (Nat.le_of_ble_eq_true rfl) dX6_putOrEat_44 (st1 := [.int q5.2, .int (σ3.1 0 7), .ref (gA G 0)]) rfl 47 rfl ?_
    refine j_iadd C dX6_putOrEat_47 48 rfl ?_
    obtain ⟨σ7, e8, h⟩ := ob_some h
    refine j_putI C foX5 sh0 7 (by decide) rfl kw1_90 rfl rfl rfl rfl dX6_putOrEat_48 σ7 (Option.some.inj e8) 51 rfl ?_
    exact j_vret C F dX6_putOrEat_51 h
  · have h := it_t c h
    refine j_aload_n C dX6_putOrEat_4 rfl 0 rfl 5 rfl ?_
    obtain ⟨q9, e10, h⟩ := ob_some h
    refine j_callV C (ct_X6_eat (eL E) G  e10) sh81 foX6 rfl vk_X6_eat kw4_82 rfl ⟨Nat.le_of_ble_eq_true rfl, Nat.le_of_ble_eq_true rfl, rfl, rfl⟩ ⟨Nat.zero_le _, Nat.zero_le _⟩ (rest := []) rfl (Nat.le_of_ble_eq_true rfl) dX6_putOrEat_5 (st1 := []) rfl 8 rfl ?_
    refine j_goto C dX6_putOrEat_8 51 (by decide) ?_
    exact j_vret C F dX6_putOrEat_51 h

-- ===== StenoChords.strike(I)I
theorem vk_X6_strike : VK yX6_strike cX6_strike 2 (some .int) 1 := ⟨kw4_70, kw4_68, kw4_69, kw1_1, by decide +kernel⟩
def X6_strike (σ : Mem) (p1 : Int32) : Option (Mem × (Int32 ⊕ Nat)) :=
  (if p1 < 0 then some (σ, Sum.inr 0) else (if p1 ≤ (1023 : Int32) then ((X6_canStrike σ p1).bind fun q1 => (if q1.2 = 0 then some (q1.1, Sum.inr 1) else ((X4_push 0 q1.1).bind fun q3 => ((X6_putOrEat q3.1 p1).bind fun q5 => ((X6_readPaper q5.1).bind fun q7 => ((X2_size 61 q7.1).bind fun q9 => some (q9.1, Sum.inl q9.2))))))) else some (σ, Sum.inr 0)))
set_option maxHeartbeats 4000000 in
set_option maxRecDepth 100000 in
theorem wk_X6_strike {E : Ev} {G : Gw} {kc ks : Nat} (C : Cx E G RX6 cX6_strike 2 { frames := 6, cells := kc, slots := ks, locals := 138 }) {out : Mem × (Int32 ⊕ Nat)} (F : Efx E G out (some .int))  {σ : Mem} {p1 : Int32} (h : X6_strike σ p1 = some out) : J E G 2 0 0 σ 0 [(0, .ref (gA G 81)), (1, .int p1)] [] := by
  unfold X6_strike at h
  refine j_iload_n C dX6_strike_0 rfl 1 rfl 1 rfl ?_
  refine j_if_lt C dX6_strike_1 11 (by decide) 4 rfl (fun c => ?_) (fun c => ?_)
  · have h := it_t c h
    exact j_throw C F (x := 0) (by decide +kernel) kw2_94 kw1_12 str_60 ha_0_62 dX6_strike_11 dX6_strike_14 dX6_strike_15 dX6_strike_17 dX6_strike_20 ⟨Nat.le_of_ble_eq_true rfl, Nat.le_of_ble_eq_true rfl⟩ h
  · have h := it_f c h
    refine j_iload_n C dX6_strike_4 rfl 1 rfl 5 rfl ?_
    refine j_sipush C dX6_strike_5 (1023 : Int32) (by decide) 8 rfl ?_
    refine j_icmp_le C dX6_strike_8 21 (by decide) 11 rfl (fun c => ?_) (fun c => ?_)
    · have h := it_t c h
      refine j_aload_n C dX6_strike_21 rfl 0 rfl 22 rfl ?_
      refine j_iload_n C dX6_strike_22 rfl 1 rfl 23 rfl ?_
      obtain ⟨q1, e2, h⟩ := ob_some h
      refine j_callV C (ct_X6_canStrike (eL E) G  e2) sh81 foX6 rfl vk_X6_canStrike kw4_72 rfl ⟨Nat.le_of_ble_eq_true rfl, Nat.le_of_ble_eq_true rfl, rfl, rfl⟩ ⟨Nat.zero_le _, Nat.zero_le _⟩ (rest := []) rfl (Nat.le_of_ble_eq_true rfl) dX6_strike_23 (st1 := [.int q1.2]) rfl 26 rfl ?_
      refine j_if_ne C dX6_strike_26 39 (by decide) 29 rfl (fun c => ?_) (fun c => ?_)
      · have h := it_f c h
        refine j_aload_n C dX6_strike_39 rfl 0 rfl 40 rfl ?_
        refine j_get C foX6 sh81 2 (by decide) 58 rfl kw1_161 rfl dX6_strike_40 (.ref (gA G 56)) (fv_r rfl) 43 rfl ?_
        refine j_aload_n C dX6_strike_43 rfl 0 rfl 44 rfl ?_
        refine j_get C foX6 sh81 0 (by decide) 2 rfl kw1_159 rfl dX6_strike_44 (.ref (gA G 0)) (fv_r rfl) 47 rfl ?_
        obtain ⟨q3, e4, h⟩ := ob_some h
        refine j_callV C (ct_X4_push (eL E) G sta0 e4) sh56 foX4 rfl vk_X4_push kw3_125 rfl ⟨Nat.le_of_ble_eq_true rfl, Nat.le_of_ble_eq_true rfl, rfl, rfl⟩ ⟨Nat.zero_le _, Nat.zero_le _⟩ (rest := []) rfl (Nat.le_of_ble_eq_true rfl) dX6_strike_47 (st1 := []) rfl 50 rfl ?_
        refine j_aload_n C dX6_strike_50 rfl 0 rfl 51 rfl ?_
        refine j_iload_n C dX6_strike_51 rfl 1 rfl 52 rfl ?_
        obtain ⟨q5, e6, h⟩ := ob_some h
        refine j_callV C (ct_X6_putOrEat (eL E) G  e6) sh81 foX6 rfl vk_X6_putOrEat kw4_78 rfl ⟨Nat.le_of_ble_eq_true rfl, Nat.le_of_ble_eq_true rfl, rfl, rfl⟩ ⟨Nat.zero_le _, Nat.zero_le _⟩ (rest := []) rfl (Nat.le_of_ble_eq_true rfl) dX6_strike_52 (st1 := []) rfl 55 rfl ?_
        refine j_aload_n C dX6_strike_55 rfl 0 rfl 56 rfl ?_
        obtain ⟨q7, e8, h⟩ := ob_some h
        refine j_callV C (ct_X6_readPaper (eL E) G  e8) sh81 foX6 rfl vk_X6_readPaper kw2_110 rfl ⟨Nat.le_of_ble_eq_true rfl, Nat.le_of_ble_eq_true rfl, rfl, rfl⟩ ⟨Nat.zero_le _, Nat.zero_le _⟩ (rest := []) rfl (Nat.le_of_ble_eq_true rfl) dX6_strike_56 (st1 := []) rfl 59 rfl ?_
        refine j_aload_n C dX6_strike_59 rfl 0 rfl 60 rfl ?_
        refine j_get C foX6 sh81 4 (by decide) 63 rfl kw1_163 rfl dX6_strike_60 (.ref (gA G 61)) (fv_r rfl) 63 rfl ?_
        obtain ⟨q9, e10, h⟩ := ob_some h
        refine j_callV C (ct_X2_size (eL E) G rdg61 e10) sh61 foX2 rfl vk_X2_size kw2_163 rfl ⟨Nat.le_of_ble_eq_true rfl, Nat.le_of_ble_eq_true rfl, rfl, rfl⟩ ⟨Nat.zero_le _, Nat.zero_le _⟩ (rest := []) rfl (Nat.le_of_ble_eq_true rfl) dX6_strike_63 (st1 := [.int q9.2]) rfl 66 rfl ?_
        exact j_iretX C F dX6_strike_66 h
      · have h := it_t c h
        exact j_throw C F (x := 1) (by decide +kernel) kw2_10 kw1_15 str_71 ha_1_73 dX6_strike_29 dX6_strike_32 dX6_strike_33 dX6_strike_35 dX6_strike_38 ⟨Nat.le_of_ble_eq_true rfl, Nat.le_of_ble_eq_true rfl⟩ h
    · have h := it_f c h
      exact j_throw C F (x := 0) (by decide +kernel) kw2_94 kw1_12 str_60 ha_0_62 dX6_strike_11 dX6_strike_14 dX6_strike_15 dX6_strike_17 dX6_strike_20 ⟨Nat.le_of_ble_eq_true rfl, Nat.le_of_ble_eq_true rfl⟩ h
set_option maxHeartbeats 4000000 in
set_option maxRecDepth 100000 in
theorem ct_X6_strike (l : Launch) (G : Gw)  {σ : Mem} {p1 : Int32} {out : Mem × Int32} (h : X6_strike σ p1 = some (out.1, .inl out.2)) : Ct l G yX6_strike cX6_strike 2 (some .int) { frames := 6, cells := 0, slots := 0, locals := 138 } [.ref (gA G 81), .int p1] σ out.1 (some (.int out.2)) :=
  Ct.of (by decide +kernel) (Nat.le_of_ble_eq_true rfl) (fun E hE C F => wk_X6_strike C ⟨fun v hv => (by cases hv; exact F), fun x hx => (by cases hx)⟩ h)
theorem cx_X6_strike (l : Launch) (hst : l.stackTraces = false) (G : Gw)  {σ σ2 : Mem} {p1 : Int32} {x : Nat} (h : X6_strike σ p1 = some (σ2, .inr x)) : Cx1 l G yX6_strike cX6_strike 2 (some .int) { frames := 6, cells := 1, slots := 6, locals := 138 } [.ref (gA G 81), .int p1] σ σ2 x :=
    Cx1.of (by decide +kernel) (Nat.le_of_ble_eq_true rfl) hst ⟨by decide, by decide⟩ (fun E hE C F => wk_X6_strike C ⟨fun v hv => (by cases hv), fun x hx => (by cases hx; exact F)⟩ h)

-- ===== StenoChords.tear()I
theorem vk_X6_tear : VK yX6_tear cX6_tear 2 (some .int) 0 := ⟨kw4_63, kw4_61, kw4_62, kw1_1, by decide +kernel⟩
def X6_tear (σ : Mem) : Option (Mem × Int32) :=
  ((X4_push 0 σ).bind fun q1 => ((X3_length 1 q1.1).bind fun q3 => ((X3_shorten 1 q3.1 (0 : Int32)).bind fun q5 => some (q5.1, q3.2))))
set_option maxHeartbeats 4000000 in
set_option maxRecDepth 100000 in
theorem ct_X6_tear (l : Launch) (G : Gw)  {σ : Mem} {out : Mem × Int32} (h : X6_tear σ = some out) : Ct l G yX6_tear cX6_tear 2 (some .int) { frames := 5, cells := 0, slots := 0, locals := 107 } [.ref (gA G 81)] σ out.1 (some (.int out.2)) := by
  refine Ct.of (by decide +kernel) (Nat.le_of_ble_eq_true rfl) (fun E hE C F => ?_)
  subst hE
  have C : Cx E G RX6 cX6_tear 2 { frames := 5, cells := 0, slots := 0, locals := 107 } := C
  unfold X6_tear at h
  show J E G 2 0 0 σ 0 [(0, .ref (gA G 81))] []
  refine j_aload_n C dX6_tear_0 rfl 0 rfl 1 rfl ?_
  refine j_get C foX6 sh81 2 (by decide) 58 rfl kw1_161 rfl dX6_tear_1 (.ref (gA G 56)) (fv_r rfl) 4 rfl ?_
  refine j_aload_n C dX6_tear_4 rfl 0 rfl 5 rfl ?_
  refine j_get C foX6 sh81 0 (by decide) 2 rfl kw1_159 rfl dX6_tear_5 (.ref (gA G 0)) (fv_r rfl) 8 rfl ?_
  obtain ⟨q1, e2, h⟩ := ob_some h
  refine j_callV C (ct_X4_push (eL E) G sta0 e2) sh56 foX4 rfl vk_X4_push kw3_125 rfl ⟨Nat.le_of_ble_eq_true rfl, Nat.le_of_ble_eq_true rfl, rfl, rfl⟩ ⟨Nat.zero_le _, Nat.zero_le _⟩ (rest := []) rfl (Nat.le_of_ble_eq_true rfl) dX6_tear_8 (st1 := []) rfl 11 rfl ?_
  refine j_aload_n C dX6_tear_11 rfl 0 rfl 12 rfl ?_
  refine j_get C foX6 sh81 0 (by decide) 2 rfl kw1_159 rfl dX6_tear_12 (.ref (gA G 0)) (fv_r rfl) 15 rfl ?_
  refine j_get C foX5 sh0 0 (by decide) 3 rfl kw1_74 rfl dX6_tear_15 (.ref (gA G 1)) (fv_r rfl) 18 rfl ?_
  obtain ⟨q3, e4, h⟩ := ob_some h
  refine j_callV C (ct_X3_length (eL E) G row1 e4) sh1 foX3 rfl vk_X3_length kw1_238 rfl ⟨Nat.le_of_ble_eq_true rfl, Nat.le_of_ble_eq_true rfl, rfl, rfl⟩ ⟨Nat.zero_le _, Nat.zero_le _⟩ (rest := []) rfl (Nat.le_of_ble_eq_true rfl) dX6_tear_18 (st1 := [.int q3.2]) rfl 21 rfl ?_
  refine j_istore_n C dX6_tear_21 rfl (by decide) [(1, .int q3.2), (0, .ref (gA G 81))] rfl 22 rfl ?_
  refine j_aload_n C dX6_tear_22 rfl 1 rfl 23 rfl ?_
  refine j_get C foX6 sh81 0 (by decide) 2 rfl kw1_159 rfl dX6_tear_23 (.ref (gA G 0)) (fv_r rfl) 26 rfl ?_
  refine j_get C foX5 sh0 0 (by decide) 3 rfl kw1_74 rfl dX6_tear_26 (.ref (gA G 1)) (fv_r rfl) 29 rfl ?_
  refine j_iconst C dX6_tear_29 (0 : Int32) (by decide) 30 rfl ?_
  obtain ⟨q5, e6, h⟩ := ob_some h
  refine j_callV C (ct_X3_shorten (eL E) G row1 e6) sh1 foX3 rfl vk_X3_shorten kw2_160 rfl ⟨Nat.le_of_ble_eq_true rfl, Nat.le_of_ble_eq_true rfl, rfl, rfl⟩ ⟨Nat.zero_le _, Nat.zero_le _⟩ (rest := []) rfl (Nat.le_of_ble_eq_true rfl) dX6_tear_30 (st1 := []) rfl 33 rfl ?_
  refine j_iload_n C dX6_tear_33 rfl 0 rfl 34 rfl ?_
  exact j_iret C F dX6_tear_34 h

-- ===== StenoChords.rowOfItem(I)J
theorem vk_X6_rowOfItem : VK yX6_rowOfItem cX6_rowOfItem 2 (some .long) 1 := ⟨kw3_39, kw3_38, kwS_10, kw1_1, by decide +kernel⟩
def X6_rowOfItem (σ : Mem) (p1 : Int32) : Option (Mem × Int64) :=
  ((X2_placeAt 61 σ p1).bind fun q1 => ((X2_lengthAt 61 q1.1 p1).bind fun q3 => ((X3_packed 1 q3.1 q1.2 q3.2).bind fun q5 => some (q5.1, q5.2))))
set_option maxHeartbeats 4000000 in
set_option maxRecDepth 100000 in
theorem ct_X6_rowOfItem (l : Launch) (G : Gw)  {σ : Mem} {p1 : Int32} {out : Mem × Int64} (h : X6_rowOfItem σ p1 = some out) : Ct l G yX6_rowOfItem cX6_rowOfItem 2 (some .long) { frames := 3, cells := 0, slots := 0, locals := 63 } [.ref (gA G 81), .int p1] σ out.1 (some (.long out.2)) := by
  refine Ct.of (by decide +kernel) (Nat.le_of_ble_eq_true rfl) (fun E hE C F => ?_)
  subst hE
  have C : Cx E G RX6 cX6_rowOfItem 2 { frames := 3, cells := 0, slots := 0, locals := 63 } := C
  unfold X6_rowOfItem at h
  show J E G 2 0 0 σ 0 [(0, .ref (gA G 81)), (1, .int p1)] []
  refine j_aload_n C dX6_rowOfItem_0 rfl 0 rfl 1 rfl ?_
  refine j_get C foX6 sh81 0 (by decide) 2 rfl kw1_159 rfl dX6_rowOfItem_1 (.ref (gA G 0)) (fv_r rfl) 4 rfl ?_
  refine j_get C foX5 sh0 0 (by decide) 3 rfl kw1_74 rfl dX6_rowOfItem_4 (.ref (gA G 1)) (fv_r rfl) 7 rfl ?_
  refine j_aload_n C dX6_rowOfItem_7 rfl 0 rfl 8 rfl ?_
  refine j_get C foX6 sh81 4 (by decide) 63 rfl kw1_163 rfl dX6_rowOfItem_8 (.ref (gA G 61)) (fv_r rfl) 11 rfl ?_
  refine j_iload_n C dX6_rowOfItem_11 rfl 1 rfl 12 rfl ?_
  obtain ⟨q1, e2, h⟩ := ob_some h
  refine j_callV C (ct_X2_placeAt (eL E) G rdg61 e2) sh61 foX2 rfl vk_X2_placeAt kw3_28 rfl ⟨Nat.le_of_ble_eq_true rfl, Nat.le_of_ble_eq_true rfl, rfl, rfl⟩ ⟨Nat.zero_le _, Nat.zero_le _⟩ (rest := [.ref (gA G 1)]) rfl (Nat.le_of_ble_eq_true rfl) dX6_rowOfItem_12 (st1 := [.int q1.2, .ref (gA G 1)]) rfl 15 rfl ?_
  refine j_aload_n C dX6_rowOfItem_15 rfl 0 rfl 16 rfl ?_
  refine j_get C foX6 sh81 4 (by decide) 63 rfl kw1_163 rfl dX6_rowOfItem_16 (.ref (gA G 61)) (fv_r rfl) 19 rfl ?_
  refine j_iload_n C dX6_rowOfItem_19 rfl 1 rfl 20 rfl ?_
  obtain ⟨q3, e4, h⟩ := ob_some h
  refine j_callV C (ct_X2_lengthAt (eL E) G rdg61 e4) sh61 foX2 rfl vk_X2_lengthAt kw3_32 rfl ⟨Nat.le_of_ble_eq_true rfl, Nat.le_of_ble_eq_true rfl, rfl, rfl⟩ ⟨Nat.zero_le _, Nat.zero_le _⟩ (rest := [.int q1.2, .ref (gA G 1)]) rfl (Nat.le_of_ble_eq_true rfl) dX6_rowOfItem_20 (st1 := [.int q3.2, .int q1.2, .ref (gA G 1)]) rfl 23 rfl ?_
  obtain ⟨q5, e6, h⟩ := ob_some h
  refine j_callV C (ct_X3_packed (eL E) G row1 e6) sh1 foX3 rfl vk_X3_packed kw3_40 rfl ⟨Nat.le_of_ble_eq_true rfl, Nat.le_of_ble_eq_true rfl, rfl, rfl⟩ ⟨Nat.zero_le _, Nat.zero_le _⟩ (rest := []) rfl (Nat.le_of_ble_eq_true rfl) dX6_rowOfItem_23 (st1 := [.long q5.2]) rfl 26 rfl ?_
  exact j_lret C F dX6_rowOfItem_26 h

-- ===== StenoChords.pick(II)I
theorem vk_X6_pick : VK yX6_pick cX6_pick 3 (some .int) 2 := ⟨kw4_48, kw4_46, kw4_47, kw1_1, by decide +kernel⟩
def X6_pick (σ : Mem) (p1 : Int32) (p2 : Int32) : Option (Mem × (Int32 ⊕ Nat)) :=
  ((X6_readPaper σ).bind fun q1 => ((X2_has 61 q1.1 p1).bind fun q3 => (if q3.2 = 0 then some (q3.1, Sum.inr 2) else ((X0_has 3 q3.1 p2).bind fun q5 => (if q5.2 = 0 then some (q5.1, Sum.inr 2) else ((X6_rowOfItem q5.1 p1).bind fun q7 => ((X0_rowOf 3 q7.1 p2).bind fun q9 => (if (lg_cmp q7.2 q9.2) = 0 then ((X4_push 0 q9.1).bind fun q11 => ((X0_pickOnce 3 q11.1 p2).bind fun q13 => ((X0_picksOf 3 q13.1 p2).bind fun q15 => some (q15.1, Sum.inl q15.2)))) else some (q9.1, Sum.inr 1)))))))))
set_option maxHeartbeats 4000000 in
set_option maxRecDepth 100000 in
theorem wk_X6_pick {E : Ev} {G : Gw} {kc ks : Nat} (C : Cx E G RX6 cX6_pick 3 { frames := 6, cells := kc, slots := ks, locals := 107 }) {out : Mem × (Int32 ⊕ Nat)} (F : Efx E G out (some .int))  {σ : Mem} {p1 : Int32} {p2 : Int32} (h : X6_pick σ p1 p2 = some out) : J E G 3 0 0 σ 0 [(0, .ref (gA G 81)), (1, .int p1), (2, .int p2)] [] := by
  unfold X6_pick at h
  refine j_aload_n C dX6_pick_0 rfl 0 rfl 1 rfl ?_
  obtain ⟨q1, e2, h⟩ := ob_some h
  refine j_callV C (ct_X6_readPaper (eL E) G  e2) sh81 foX6 rfl vk_X6_readPaper kw2_110 rfl ⟨Nat.le_of_ble_eq_true rfl, Nat.le_of_ble_eq_true rfl, rfl, rfl⟩ ⟨Nat.zero_le _, Nat.zero_le _⟩ (rest := []) rfl (Nat.le_of_ble_eq_true rfl) dX6_pick_1 (st1 := []) rfl 4 rfl ?_
  refine j_aload_n C dX6_pick_4 rfl 0 rfl 5 rfl ?_
  refine j_get C foX6 sh81 4 (by decide) 63 rfl kw1_163 rfl dX6_pick_5 (.ref (gA G 61)) (fv_r rfl) 8 rfl ?_
  refine j_iload_n C dX6_pick_8 rfl 1 rfl 9 rfl ?_
  obtain ⟨q3, e4, h⟩ := ob_some h
  refine j_callV C (ct_X2_has (eL E) G rdg61 e4) sh61 foX2 rfl vk_X2_has kw3_13 rfl ⟨Nat.le_of_ble_eq_true rfl, Nat.le_of_ble_eq_true rfl, rfl, rfl⟩ ⟨Nat.zero_le _, Nat.zero_le _⟩ (rest := []) rfl (Nat.le_of_ble_eq_true rfl) dX6_pick_9 (st1 := [.int q3.2]) rfl 12 rfl ?_
  refine j_if_eq C dX6_pick_12 29 (by decide) 15 rfl (fun c => ?_) (fun c => ?_)
  · have h := it_t c h
    exact j_throw C F (x := 2) (by decide +kernel) kw2_194 kw1_13 str_122 ha_2_124 dX6_pick_29 dX6_pick_32 dX6_pick_33 dX6_pick_35 dX6_pick_38 ⟨Nat.le_of_ble_eq_true rfl, Nat.le_of_ble_eq_true rfl⟩ h
  · have h := it_f c h
    refine j_aload_n C dX6_pick_15 rfl 0 rfl 16 rfl ?_
    refine j_get C foX6 sh81 0 (by decide) 2 rfl kw1_159 rfl dX6_pick_16 (.ref (gA G 0)) (fv_r rfl) 19 rfl ?_
    refine j_get C foX5 sh0 1 (by decide) 5 rfl kw1_76 rfl dX6_pick_19 (.ref (gA G 3)) (fv_r rfl) 22 rfl ?_
    refine j_iload_n C dX6_pick_22 rfl 2 rfl 23 rfl ?_
    obtain ⟨q5, e6, h⟩ := ob_some h
    refine j_callV C (ct_X0_has (eL E) G ent3 e6) sh3 foX0 rfl vk_X0_has kw2_214 rfl ⟨Nat.le_of_ble_eq_true rfl, Nat.le_of_ble_eq_true rfl, rfl, rfl⟩ ⟨Nat.zero_le _, Nat.zero_le _⟩ (rest := []) rfl (Nat.le_of_ble_eq_true rfl) dX6_pick_23 (st1 := [.int q5.2]) rfl 26 rfl ?_
    refine j_if_ne C dX6_pick_26 39 (by decide) 29 rfl (fun c => ?_) (fun c => ?_)
    · have h := it_f c h
      refine j_aload_n C dX6_pick_39 rfl 0 rfl 40 rfl ?_
      refine j_iload_n C dX6_pick_40 rfl 1 rfl 41 rfl ?_
      obtain ⟨q7, e8, h⟩ := ob_some h
      refine j_callV C (ct_X6_rowOfItem (eL E) G  e8) sh81 foX6 rfl vk_X6_rowOfItem kw3_36 rfl ⟨Nat.le_of_ble_eq_true rfl, Nat.le_of_ble_eq_true rfl, rfl, rfl⟩ ⟨Nat.zero_le _, Nat.zero_le _⟩ (rest := []) rfl (Nat.le_of_ble_eq_true rfl) dX6_pick_41 (st1 := [.long q7.2]) rfl 44 rfl ?_
      refine j_aload_n C dX6_pick_44 rfl 0 rfl 45 rfl ?_
      refine j_get C foX6 sh81 0 (by decide) 2 rfl kw1_159 rfl dX6_pick_45 (.ref (gA G 0)) (fv_r rfl) 48 rfl ?_
      refine j_get C foX5 sh0 1 (by decide) 5 rfl kw1_76 rfl dX6_pick_48 (.ref (gA G 3)) (fv_r rfl) 51 rfl ?_
      refine j_iload_n C dX6_pick_51 rfl 2 rfl 52 rfl ?_
      obtain ⟨q9, e10, h⟩ := ob_some h
      refine j_callV C (ct_X0_rowOf (eL E) G ent3 e10) sh3 foX0 rfl vk_X0_rowOf kw2_221 rfl ⟨Nat.le_of_ble_eq_true rfl, Nat.le_of_ble_eq_true rfl, rfl, rfl⟩ ⟨Nat.zero_le _, Nat.zero_le _⟩ (rest := [.long q7.2]) rfl (Nat.le_of_ble_eq_true rfl) dX6_pick_52 (st1 := [.long q9.2, .long q7.2]) rfl 55 rfl ?_
      refine j_lcmp C dX6_pick_55 56 rfl ?_
      refine j_if_eq C dX6_pick_56 69 (by decide) 59 rfl (fun c => ?_) (fun c => ?_)
      · have h := it_t c h
        refine j_aload_n C dX6_pick_69 rfl 0 rfl 70 rfl ?_
        refine j_get C foX6 sh81 2 (by decide) 58 rfl kw1_161 rfl dX6_pick_70 (.ref (gA G 56)) (fv_r rfl) 73 rfl ?_
        refine j_aload_n C dX6_pick_73 rfl 0 rfl 74 rfl ?_
        refine j_get C foX6 sh81 0 (by decide) 2 rfl kw1_159 rfl dX6_pick_74 (.ref (gA G 0)) (fv_r rfl) 77 rfl ?_
        obtain ⟨q11, e12, h⟩ := ob_some h
        refine j_callV C (ct_X4_push (eL E) G sta0 e12) sh56 foX4 rfl vk_X4_push kw3_125 rfl ⟨Nat.le_of_ble_eq_true rfl, Nat.le_of_ble_eq_true rfl, rfl, rfl⟩ ⟨Nat.zero_le _, Nat.zero_le _⟩ (rest := []) rfl (Nat.le_of_ble_eq_true rfl) dX6_pick_77 (st1 := []) rfl 80 rfl ?_
        refine j_aload_n C dX6_pick_80 rfl 0 rfl 81 rfl ?_
        refine j_get C foX6 sh81 0 (by decide) 2 rfl kw1_159 rfl dX6_pick_81 (.ref (gA G 0)) (fv_r rfl) 84 rfl ?_
        refine j_get C foX5 sh0 1 (by decide) 5 rfl kw1_76 rfl dX6_pick_84 (.ref (gA G 3)) (fv_r rfl) 87 rfl ?_
        refine j_iload_n C dX6_pick_87 rfl 2 rfl 88 rfl ?_
        obtain ⟨q13, e14, h⟩ := ob_some h
        refine j_callV C (ct_X0_pickOnce (eL E) G ent3 e14) sh3 foX0 rfl vk_X0_pickOnce kw4_51 rfl ⟨Nat.le_of_ble_eq_true rfl, Nat.le_of_ble_eq_true rfl, rfl, rfl⟩ ⟨Nat.zero_le _, Nat.zero_le _⟩ (rest := []) rfl (Nat.le_of_ble_eq_true rfl) dX6_pick_88 (st1 := []) rfl 91 rfl ?_
        refine j_aload_n C dX6_pick_91 rfl 0 rfl 92 rfl ?_
        refine j_get C foX6 sh81 0 (by decide) 2 rfl kw1_159 rfl dX6_pick_92 (.ref (gA G 0)) (fv_r rfl) 95 rfl ?_
        refine j_get C foX5 sh0 1 (by decide) 5 rfl kw1_76 rfl dX6_pick_95 (.ref (gA G 3)) (fv_r rfl) 98 rfl ?_
        refine j_iload_n C dX6_pick_98 rfl 2 rfl 99 rfl ?_
        obtain ⟨q15, e16, h⟩ := ob_some h
        refine j_callV C (ct_X0_picksOf (eL E) G ent3 e16) sh3 foX0 rfl vk_X0_picksOf kw2_229 rfl ⟨Nat.le_of_ble_eq_true rfl, Nat.le_of_ble_eq_true rfl, rfl, rfl⟩ ⟨Nat.zero_le _, Nat.zero_le _⟩ (rest := []) rfl (Nat.le_of_ble_eq_true rfl) dX6_pick_99 (st1 := [.int q15.2]) rfl 102 rfl ?_
        exact j_iretX C F dX6_pick_102 h
      · have h := it_f c h
        exact j_throw C F (x := 1) (by decide +kernel) kw2_10 kw1_15 str_132 ha_1_73 dX6_pick_59 dX6_pick_62 dX6_pick_63 dX6_pick_65 dX6_pick_68 ⟨Nat.le_of_ble_eq_true rfl, Nat.le_of_ble_eq_true rfl⟩ h
    · have h := it_t c h
      exact j_throw C F (x := 2) (by decide +kernel) kw2_194 kw1_13 str_122 ha_2_124 dX6_pick_29 dX6_pick_32 dX6_pick_33 dX6_pick_35 dX6_pick_38 ⟨Nat.le_of_ble_eq_true rfl, Nat.le_of_ble_eq_true rfl⟩ h
set_option maxHeartbeats 4000000 in
set_option maxRecDepth 100000 in
theorem ct_X6_pick (l : Launch) (G : Gw)  {σ : Mem} {p1 : Int32} {p2 : Int32} {out : Mem × Int32} (h : X6_pick σ p1 p2 = some (out.1, .inl out.2)) : Ct l G yX6_pick cX6_pick 3 (some .int) { frames := 6, cells := 0, slots := 0, locals := 107 } [.ref (gA G 81), .int p1, .int p2] σ out.1 (some (.int out.2)) :=
  Ct.of (by decide +kernel) (Nat.le_of_ble_eq_true rfl) (fun E hE C F => wk_X6_pick C ⟨fun v hv => (by cases hv; exact F), fun x hx => (by cases hx)⟩ h)
theorem cx_X6_pick (l : Launch) (hst : l.stackTraces = false) (G : Gw)  {σ σ2 : Mem} {p1 : Int32} {p2 : Int32} {x : Nat} (h : X6_pick σ p1 p2 = some (σ2, .inr x)) : Cx1 l G yX6_pick cX6_pick 3 (some .int) { frames := 6, cells := 1, slots := 6, locals := 107 } [.ref (gA G 81), .int p1, .int p2] σ σ2 x :=
    Cx1.of (by decide +kernel) (Nat.le_of_ble_eq_true rfl) hst ⟨by decide, by decide⟩ (fun E hE C F => wk_X6_pick C ⟨fun v hv => (by cases hv), fun x hx => (by cases hx; exact F)⟩ h)

-- ===== StenoChords.canBeRow(LStenoChords$Row;)Z
theorem vk_X6_canBeRow : SK yX6_canBeRow cX6_canBeRow 2 (some .boolean) 1 := ⟨kw4_22, kw4_21, kw1_1, by decide +kernel⟩
def X6_canBeRow_2 (j : Nat) (K : Mem → Option (Mem × Int32)) : Nat → Mem → Int32 → Option (Mem × Int32)
  | 0, _, _ => none
  | fu + 1, σ, v1 => ((X3_length j σ).bind fun q1 => (if q1.2 ≤ v1 then K q1.1 else ((X3_at j q1.1 v1).bind fun q3 => (if q3.2 = 0 then some (q3.1, (0 : Int32)) else X6_canBeRow_2 j K fu q3.1 (v1 + (1 : Int32))))))
set_option maxHeartbeats 4000000 in
set_option maxRecDepth 100000 in
theorem w_X6_canBeRow_2 {E : Ev} {G : Gw} (C : Cx E G RX6 cX6_canBeRow 2 { frames := 2, cells := 0, slots := 0, locals := 42 }) {out : Mem × Int32} (F : Ef E G out.1 (some (.int out.2)) (some .boolean) 0 0) {j : Nat} (oj : RowOk j) {K : Mem → Option (Mem × Int32)} (hK : ∀ (σ : Mem) , K σ  = some out → J E G 2 0 0 σ 26 [(0, .ref (gA G j))] []) : ∀ (fu : Nat) (σ : Mem) (v1 : Int32), X6_canBeRow_2 j K fu σ v1 = some out → J E G 2 0 0 σ 2 [(0, .ref (gA G j)), (1, .int v1)] [] := by
  intro fu
  induction fu with
  | zero => intro σ v1 h; rw [X6_canBeRow_2] at h; cases h
  | succ fu ih =>
    intro σ v1 h
    rw [X6_canBeRow_2] at h
    refine j_iload_n C dX6_canBeRow_2 rfl 1 rfl 3 rfl ?_
    refine j_aload_n C dX6_canBeRow_3 rfl 0 rfl 4 rfl ?_
    obtain ⟨q1, e2, h⟩ := ob_some h
    refine j_callV C (ct_X3_length (eL E) G oj e2) oj.1 foX3 rfl vk_X3_length kw1_238 rfl ⟨Nat.le_of_ble_eq_true rfl, Nat.le_of_ble_eq_true rfl, rfl, rfl⟩ ⟨Nat.zero_le _, Nat.zero_le _⟩ (rest := [.int v1]) rfl (Nat.le_of_ble_eq_true rfl) dX6_canBeRow_4 (st1 := [.int q1.2, .int v1]) rfl 7 rfl ?_
    refine j_icmp_ge C dX6_canBeRow_7 26 (by decide) 10 rfl (fun c => ?_) (fun c => ?_)
    · have h := it_t c h
      refine j_sub [(0, .ref (gA G j))] [0] rfl ?_
      exact hK _ h
    · have h := it_f c h
      refine j_aload_n C dX6_canBeRow_10 rfl 0 rfl 11 rfl ?_
      refine j_iload_n C dX6_canBeRow_11 rfl 1 rfl 12 rfl ?_
      obtain ⟨q3, e4, h⟩ := ob_some h
      refine j_callV C (ct_X3_at (eL E) G oj e4) oj.1 foX3 rfl vk_X3_at kw2_161 rfl ⟨Nat.le_of_ble_eq_true rfl, Nat.le_of_ble_eq_true rfl, rfl, rfl⟩ ⟨Nat.zero_le _, Nat.zero_le _⟩ (rest := []) rfl (Nat.le_of_ble_eq_true rfl) dX6_canBeRow_12 (st1 := [.int q3.2]) rfl 15 rfl ?_
      refine j_if_ne C dX6_canBeRow_15 20 (by decide) 18 rfl (fun c => ?_) (fun c => ?_)
      · have h := it_f c h
        refine j_iinc C dX6_canBeRow_20 1 rfl (v1 + (1 : Int32)) rfl (by decide) [(1, .int (v1 + (1 : Int32))), (0, .ref (gA G j))] rfl 23 rfl ?_
        refine j_goto C dX6_canBeRow_23 2 (by decide) ?_
        refine j_sub [(0, .ref (gA G j)), (1, .int (v1 + (1 : Int32)))] [1, 0] rfl ?_
        exact ih _ _ h
      · have h := it_t c h
        refine j_iconst C dX6_canBeRow_18 (0 : Int32) (by decide) 19 rfl ?_
        exact j_zret C F dX6_canBeRow_19 (by decide) h
def X6_canBeRow (j : Nat) (σ : Mem) : Option (Mem × Int32) :=
  X6_canBeRow_2 j (fun (σ : Mem)  => ((X3_length j σ).bind fun q5 => (if q5.2 < (1 : Int32) then some (q5.1, (0 : Int32)) else ((X3_length j q5.1).bind fun q7 => (if (4 : Int32) < q7.2 then some (q7.1, (0 : Int32)) else some (q7.1, (1 : Int32))))))) FU σ (0 : Int32)
set_option maxHeartbeats 4000000 in
set_option maxRecDepth 100000 in
theorem ct_X6_canBeRow (l : Launch) (G : Gw) {j : Nat} (oj : RowOk j) {σ : Mem} {out : Mem × Int32} (h : X6_canBeRow j σ = some out) : Ct l G yX6_canBeRow cX6_canBeRow 2 (some .boolean) { frames := 2, cells := 0, slots := 0, locals := 42 } [.ref (gA G j)] σ out.1 (some (.int out.2)) := by
  refine Ct.of (by decide +kernel) (Nat.le_of_ble_eq_true rfl) (fun E hE C F => ?_)
  subst hE
  have C : Cx E G RX6 cX6_canBeRow 2 { frames := 2, cells := 0, slots := 0, locals := 42 } := C
  unfold X6_canBeRow at h
  show J E G 2 0 0 σ 0 [(0, .ref (gA G j))] []
  refine j_iconst C dX6_canBeRow_0 (0 : Int32) (by decide) 1 rfl ?_
  refine j_istore_n C dX6_canBeRow_1 rfl (by decide) [(1, .int (0 : Int32)), (0, .ref (gA G j))] rfl 2 rfl ?_
  refine j_sub [(0, .ref (gA G j)), (1, .int (0 : Int32))] [1, 0] rfl ?_
  refine w_X6_canBeRow_2 C F oj (fun σ  h => ?_) FU _ _ h
  refine j_aload_n C dX6_canBeRow_26 rfl 0 rfl 27 rfl ?_
  obtain ⟨q5, e6, h⟩ := ob_some h
  refine j_callV C (ct_X3_length (eL E) G oj e6) oj.1 foX3 rfl vk_X3_length kw1_238 rfl ⟨Nat.le_of_ble_eq_true rfl, Nat.le_of_ble_eq_true rfl, rfl, rfl⟩ ⟨Nat.zero_le _, Nat.zero_le _⟩ (rest := []) rfl (Nat.le_of_ble_eq_true rfl) dX6_canBeRow_27 (st1 := [.int q5.2]) rfl 30 rfl ?_
  refine j_iconst C dX6_canBeRow_30 (1 : Int32) (by decide) 31 rfl ?_
  refine j_icmp_lt C dX6_canBeRow_31 46 (by decide) 34 rfl (fun c => ?_) (fun c => ?_)
  · have h := it_t c h
    refine j_iconst C dX6_canBeRow_46 (0 : Int32) (by decide) 47 rfl ?_
    exact j_zret C F dX6_canBeRow_47 (by decide) h
  · have h := it_f c h
    refine j_aload_n C dX6_canBeRow_34 rfl 0 rfl 35 rfl ?_
    obtain ⟨q7, e8, h⟩ := ob_some h
    refine j_callV C (ct_X3_length (eL E) G oj e8) oj.1 foX3 rfl vk_X3_length kw1_238 rfl ⟨Nat.le_of_ble_eq_true rfl, Nat.le_of_ble_eq_true rfl, rfl, rfl⟩ ⟨Nat.zero_le _, Nat.zero_le _⟩ (rest := []) rfl (Nat.le_of_ble_eq_true rfl) dX6_canBeRow_35 (st1 := [.int q7.2]) rfl 38 rfl ?_
    refine j_iconst C dX6_canBeRow_38 (4 : Int32) (by decide) 39 rfl ?_
    refine j_icmp_gt C dX6_canBeRow_39 46 (by decide) 42 rfl (fun c => ?_) (fun c => ?_)
    · have h := it_t c h
      refine j_iconst C dX6_canBeRow_46 (0 : Int32) (by decide) 47 rfl ?_
      exact j_zret C F dX6_canBeRow_47 (by decide) h
    · have h := it_f c h
      refine j_iconst C dX6_canBeRow_42 (1 : Int32) (by decide) 43 rfl ?_
      refine j_goto C dX6_canBeRow_43 47 (by decide) ?_
      exact j_zret C F dX6_canBeRow_47 (by decide) h

-- ===== StenoChords.define(I)I
theorem vk_X6_define : VK yX6_define cX6_define 4 (some .int) 1 := ⟨kw3_168, kw3_166, kw3_167, kw1_1, by decide +kernel⟩
def X6_define (σ : Mem) (p1 : Int32) : Option (Mem × (Int32 ⊕ Nat)) :=
  (if p1 < 0 then some (σ, Sum.inr 0) else (if p1 ≤ (99 : Int32) then ((X1_tellStrokes 77 σ).bind fun q1 => (if q1.2 = 0 then some (q1.1, Sum.inr 0) else ((X6_canBeRow 77 q1.1).bind fun q3 => (if q3.2 = 0 then some (q3.1, Sum.inr 0) else ((X3_length 77 q3.1).bind fun q5 => ((X3_packed 77 q5.1 (0 : Int32) q5.2).bind fun q7 => ((X0_isFull 3 q7.1).bind fun q9 => (if q9.2 = 0 then ((X0_hasBoth 3 q9.1 q7.2 p1).bind fun q11 => (if q11.2 = 0 then ((X4_push 0 q11.1).bind fun q13 => ((X0_put 3 q13.1 q7.2 p1).bind fun q15 => ((X1_wipe q15.1).bind fun q17 => ((X0_size 3 q17.1).bind fun q19 => some (q19.1, Sum.inl (q19.2 - (1 : Int32))))))) else some (q11.1, Sum.inr 1))) else some (q9.1, Sum.inr 1))))))))) else some (σ, Sum.inr 0)))
set_option maxHeartbeats 4000000 in
set_option maxRecDepth 100000 in
theorem wk_X6_define {E : Ev} {G : Gw} {kc ks : Nat} (C : Cx E G RX6 cX6_define 4 { frames := 6, cells := kc, slots := ks, locals := 137 }) {out : Mem × (Int32 ⊕ Nat)} (F : Efx E G out (some .int))  {σ : Mem} {p1 : Int32} (h : X6_define σ p1 = some out) : J E G 4 0 0 σ 0 [(0, .ref (gA G 81)), (1, .int p1)] [] := by
  unfold X6_define at h
  refine j_iload_n C dX6_define_0 rfl 1 rfl 1 rfl ?_
  refine j_if_lt C dX6_define_1 10 (by decide) 4 rfl (fun c => ?_) (fun c => ?_)
  · have h := it_t c h
    exact j_throw C F (x := 0) (by decide +kernel) kw2_94 kw1_12 str_140 ha_0_62 dX6_define_10 dX6_define_13 dX6_define_14 dX6_define_16 dX6_define_19 ⟨Nat.le_of_ble_eq_true rfl, Nat.le_of_ble_eq_true rfl⟩ h
  · have h := it_f c h
    refine j_iload_n C dX6_define_4 rfl 1 rfl 5 rfl ?_
    refine j_bipush C dX6_define_5 (99 : Int32) (by decide) 7 rfl ?_
    refine j_icmp_le C dX6_define_7 20 (by decide) 10 rfl (fun c => ?_) (fun c => ?_)
    · have h := it_t c h
      refine j_aload_n C dX6_define_20 rfl 0 rfl 21 rfl ?_
      refine j_get C foX6 sh81 3 (by decide) 60 rfl kw1_162 rfl dX6_define_21 (.ref (gA G 58)) (fv_r rfl) 24 rfl ?_
      refine j_aload_n C dX6_define_24 rfl 0 rfl 25 rfl ?_
      refine j_get C foX6 sh81 7 (by decide) 79 rfl kw1_166 rfl dX6_define_25 (.ref (gA G 77)) (fv_r rfl) 28 rfl ?_
      obtain ⟨q1, e2, h⟩ := ob_some h
      refine j_callV C (ct_X1_tellStrokes (eL E) G row77 e2) sh58 foX1 rfl vk_X1_tellStrokes kw3_169 rfl ⟨Nat.le_of_ble_eq_true rfl, Nat.le_of_ble_eq_true rfl, rfl, rfl⟩ ⟨Nat.zero_le _, Nat.zero_le _⟩ (rest := []) rfl (Nat.le_of_ble_eq_true rfl) dX6_define_28 (st1 := [.int q1.2]) rfl 31 rfl ?_
      refine j_if_eq C dX6_define_31 44 (by decide) 34 rfl (fun c => ?_) (fun c => ?_)
      · have h := it_t c h
        exact j_throw C F (x := 0) (by decide +kernel) kw2_94 kw1_12 str_145 ha_0_62 dX6_define_44 dX6_define_47 dX6_define_48 dX6_define_50 dX6_define_53 ⟨Nat.le_of_ble_eq_true rfl, Nat.le_of_ble_eq_true rfl⟩ h
      · have h := it_f c h
        refine j_aload_n C dX6_define_34 rfl 0 rfl 35 rfl ?_
        refine j_get C foX6 sh81 7 (by decide) 79 rfl kw1_166 rfl dX6_define_35 (.ref (gA G 77)) (fv_r rfl) 38 rfl ?_
        obtain ⟨q3, e4, h⟩ := ob_some h
        refine j_callS C (ct_X6_canBeRow (eL E) G row77 e4) vk_X6_canBeRow kw4_20 rfl ⟨Nat.le_of_ble_eq_true rfl, Nat.le_of_ble_eq_true rfl, rfl, rfl⟩ ⟨Nat.zero_le _, Nat.zero_le _⟩ (rest := []) rfl (Nat.le_of_ble_eq_true rfl) dX6_define_38 (st1 := [.int q3.2]) rfl 41 rfl ?_
        refine j_if_ne C dX6_define_41 54 (by decide) 44 rfl (fun c => ?_) (fun c => ?_)
        · have h := it_f c h
          refine j_aload_n C dX6_define_54 rfl 0 rfl 55 rfl ?_
          refine j_get C foX6 sh81 7 (by decide) 79 rfl kw1_166 rfl dX6_define_55 (.ref (gA G 77)) (fv_r rfl) 58 rfl ?_
          refine j_iconst C dX6_define_58 (0 : Int32) (by decide) 59 rfl ?_
          refine j_aload_n C dX6_define_59 rfl 0 rfl 60 rfl ?_
          refine j_get C foX6 sh81 7 (by decide) 79 rfl kw1_166 rfl dX6_define_60 (.ref (gA G 77)) (fv_r rfl) 63 rfl ?_
          obtain ⟨q5, e6, h⟩ := ob_some h
          refine j_callV C (ct_X3_length (eL E) G row77 e6) sh77 foX3 rfl vk_X3_length kw1_238 rfl ⟨Nat.le_of_ble_eq_true rfl, Nat.le_of_ble_eq_true rfl, rfl, rfl⟩ ⟨Nat.zero_le _, Nat.zero_le _⟩ (rest := [.int (0 : Int32), .ref (gA G 77)]) rfl (Nat.le_of_ble_eq_true rfl) dX6_define_63 (st1 := [.int q5.2, .int (0 : Int32), .ref (gA G 77)]) rfl 66 rfl ?_
          obtain ⟨q7, e8, h⟩ := ob_some h
          refine j_callV C (ct_X3_packed (eL E) G row77 e8) sh77 foX3 rfl vk_X3_packed kw3_40 rfl ⟨Nat.le_of_ble_eq_true rfl, Nat.le_of_ble_eq_true rfl, rfl, rfl⟩ ⟨Nat.zero_le _, Nat.zero_le _⟩ (rest := []) rfl (Nat.le_of_ble_eq_true rfl) dX6_define_66 (st1 := [.long q7.2]) rfl 69 rfl ?_
          refine j_lstore_n C dX6_define_69 rfl (by decide) [(2, .long q7.2), (0, .ref (gA G 81)), (1, .int p1)] rfl 70 rfl ?_
          refine j_aload_n C dX6_define_70 rfl 1 rfl 71 rfl ?_
          refine j_get C foX6 sh81 0 (by decide) 2 rfl kw1_159 rfl dX6_define_71 (.ref (gA G 0)) (fv_r rfl) 74 rfl ?_
          refine j_get C foX5 sh0 1 (by decide) 5 rfl kw1_76 rfl dX6_define_74 (.ref (gA G 3)) (fv_r rfl) 77 rfl ?_
          obtain ⟨q9, e10, h⟩ := ob_some h
          refine j_callV C (ct_X0_isFull (eL E) G ent3 e10) sh3 foX0 rfl vk_X0_isFull kw4_24 rfl ⟨Nat.le_of_ble_eq_true rfl, Nat.le_of_ble_eq_true rfl, rfl, rfl⟩ ⟨Nat.zero_le _, Nat.zero_le _⟩ (rest := []) rfl (Nat.le_of_ble_eq_true rfl) dX6_define_77 (st1 := [.int q9.2]) rfl 80 rfl ?_
          refine j_if_ne C dX6_define_80 98 (by decide) 83 rfl (fun c => ?_) (fun c => ?_)
          · have h := it_f c h
            exact j_throw C F (x := 1) (by decide +kernel) kw2_10 kw1_15 str_159 ha_1_73 dX6_define_98 dX6_define_101 dX6_define_102 dX6_define_104 dX6_define_107 ⟨Nat.le_of_ble_eq_true rfl, Nat.le_of_ble_eq_true rfl⟩ h
          · have h := it_t c h
            refine j_aload_n C dX6_define_83 rfl 1 rfl 84 rfl ?_
            refine j_get C foX6 sh81 0 (by decide) 2 rfl kw1_159 rfl dX6_define_84 (.ref (gA G 0)) (fv_r rfl) 87 rfl ?_
            refine j_get C foX5 sh0 1 (by decide) 5 rfl kw1_76 rfl dX6_define_87 (.ref (gA G 3)) (fv_r rfl) 90 rfl ?_
            refine j_lload_n C dX6_define_90 rfl 0 rfl 91 rfl ?_
            refine j_iload_n C dX6_define_91 rfl 2 rfl 92 rfl ?_
            obtain ⟨q11, e12, h⟩ := ob_some h
            refine j_callV C (ct_X0_hasBoth (eL E) G ent3 e12) sh3 foX0 rfl vk_X0_hasBoth kw4_28 rfl ⟨Nat.le_of_ble_eq_true rfl, Nat.le_of_ble_eq_true rfl, rfl, rfl⟩ ⟨Nat.zero_le _, Nat.zero_le _⟩ (rest := []) rfl (Nat.le_of_ble_eq_true rfl) dX6_define_92 (st1 := [.int q11.2]) rfl 95 rfl ?_
            refine j_if_eq C dX6_define_95 108 (by decide) 98 rfl (fun c => ?_) (fun c => ?_)
            · have h := it_t c h
              refine j_aload_n C dX6_define_108 rfl 1 rfl 109 rfl ?_
              refine j_get C foX6 sh81 2 (by decide) 58 rfl kw1_161 rfl dX6_define_109 (.ref (gA G 56)) (fv_r rfl) 112 rfl ?_
              refine j_aload_n C dX6_define_112 rfl 1 rfl 113 rfl ?_
              refine j_get C foX6 sh81 0 (by decide) 2 rfl kw1_159 rfl dX6_define_113 (.ref (gA G 0)) (fv_r rfl) 116 rfl ?_
              obtain ⟨q13, e14, h⟩ := ob_some h
              refine j_callV C (ct_X4_push (eL E) G sta0 e14) sh56 foX4 rfl vk_X4_push kw3_125 rfl ⟨Nat.le_of_ble_eq_true rfl, Nat.le_of_ble_eq_true rfl, rfl, rfl⟩ ⟨Nat.zero_le _, Nat.zero_le _⟩ (rest := []) rfl (Nat.le_of_ble_eq_true rfl) dX6_define_116 (st1 := []) rfl 119 rfl ?_
              refine j_aload_n C dX6_define_119 rfl 1 rfl 120 rfl ?_
              refine j_get C foX6 sh81 0 (by decide) 2 rfl kw1_159 rfl dX6_define_120 (.ref (gA G 0)) (fv_r rfl) 123 rfl ?_
              refine j_get C foX5 sh0 1 (by decide) 5 rfl kw1_76 rfl dX6_define_123 (.ref (gA G 3)) (fv_r rfl) 126 rfl ?_
              refine j_lload_n C dX6_define_126 rfl 0 rfl 127 rfl ?_
              refine j_iload_n C dX6_define_127 rfl 2 rfl 128 rfl ?_
              obtain ⟨q15, e16, h⟩ := ob_some h
              refine j_callV C (ct_X0_put (eL E) G ent3 e16) sh3 foX0 rfl vk_X0_put kw4_33 rfl ⟨Nat.le_of_ble_eq_true rfl, Nat.le_of_ble_eq_true rfl, rfl, rfl⟩ ⟨Nat.zero_le _, Nat.zero_le _⟩ (rest := []) rfl (Nat.le_of_ble_eq_true rfl) dX6_define_128 (st1 := []) rfl 131 rfl ?_
              refine j_aload_n C dX6_define_131 rfl 1 rfl 132 rfl ?_
              refine j_get C foX6 sh81 3 (by decide) 60 rfl kw1_162 rfl dX6_define_132 (.ref (gA G 58)) (fv_r rfl) 135 rfl ?_
              obtain ⟨q17, e18, h⟩ := ob_some h
              refine j_callV C (ct_X1_wipe (eL E) G  e18) sh58 foX1 rfl vk_X1_wipe kw3_141 rfl ⟨Nat.le_of_ble_eq_true rfl, Nat.le_of_ble_eq_true rfl, rfl, rfl⟩ ⟨Nat.zero_le _, Nat.zero_le _⟩ (rest := []) rfl (Nat.le_of_ble_eq_true rfl) dX6_define_135 (st1 := []) rfl 138 rfl ?_
              refine j_aload_n C dX6_define_138 rfl 1 rfl 139 rfl ?_
              refine j_get C foX6 sh81 0 (by decide) 2 rfl kw1_159 rfl dX6_define_139 (.ref (gA G 0)) (fv_r rfl) 142 rfl ?_
              refine j_get C foX5 sh0 1 (by decide) 5 rfl kw1_76 rfl dX6_define_142 (.ref (gA G 3)) (fv_r rfl) 145 rfl ?_
              obtain ⟨q19, e20, h⟩ := ob_some h
              refine j_callV C (ct_X0_size (eL E) G ent3 e20) sh3 foX0 rfl vk_X0_size kw2_172 rfl ⟨Nat.le_of_ble_eq_true rfl, Nat.le_of_ble_eq_true rfl, rfl, rfl⟩ ⟨Nat.zero_le _, Nat.zero_le _⟩ (rest := []) rfl (Nat.le_of_ble_eq_true rfl) dX6_define_145 (st1 := [.int q19.2]) rfl 148 rfl ?_
              refine j_iconst C dX6_define_148 (1 : Int32) (by decide) 149 rfl ?_
              refine j_isub C dX6_define_149 150 rfl ?_
              exact j_iretX C F dX6_define_150 h
            · have h := it_f c h
              exact j_throw C F (x := 1) (by decide +kernel) kw2_10 kw1_15 str_159 ha_1_73 dX6_define_98 dX6_define_101 dX6_define_102 dX6_define_104 dX6_define_107 ⟨Nat.le_of_ble_eq_true rfl, Nat.le_of_ble_eq_true rfl⟩ h
        · have h := it_t c h
          exact j_throw C F (x := 0) (by decide +kernel) kw2_94 kw1_12 str_145 ha_0_62 dX6_define_44 dX6_define_47 dX6_define_48 dX6_define_50 dX6_define_53 ⟨Nat.le_of_ble_eq_true rfl, Nat.le_of_ble_eq_true rfl⟩ h
    · have h := it_f c h
      exact j_throw C F (x := 0) (by decide +kernel) kw2_94 kw1_12 str_140 ha_0_62 dX6_define_10 dX6_define_13 dX6_define_14 dX6_define_16 dX6_define_19 ⟨Nat.le_of_ble_eq_true rfl, Nat.le_of_ble_eq_true rfl⟩ h
set_option maxHeartbeats 4000000 in
set_option maxRecDepth 100000 in
theorem ct_X6_define (l : Launch) (G : Gw)  {σ : Mem} {p1 : Int32} {out : Mem × Int32} (h : X6_define σ p1 = some (out.1, .inl out.2)) : Ct l G yX6_define cX6_define 4 (some .int) { frames := 6, cells := 0, slots := 0, locals := 137 } [.ref (gA G 81), .int p1] σ out.1 (some (.int out.2)) :=
  Ct.of (by decide +kernel) (Nat.le_of_ble_eq_true rfl) (fun E hE C F => wk_X6_define C ⟨fun v hv => (by cases hv; exact F), fun x hx => (by cases hx)⟩ h)
theorem cx_X6_define (l : Launch) (hst : l.stackTraces = false) (G : Gw)  {σ σ2 : Mem} {p1 : Int32} {x : Nat} (h : X6_define σ p1 = some (σ2, .inr x)) : Cx1 l G yX6_define cX6_define 4 (some .int) { frames := 6, cells := 1, slots := 6, locals := 137 } [.ref (gA G 81), .int p1] σ σ2 x :=
    Cx1.of (by decide +kernel) (Nat.le_of_ble_eq_true rfl) hst ⟨by decide, by decide⟩ (fun E hE C F => wk_X6_define C ⟨fun v hv => (by cases hv), fun x hx => (by cases hx; exact F)⟩ h)

-- ===== StenoChords.remove(I)I
theorem vk_X6_remove : VK yX6_remove cX6_remove 2 (some .int) 1 := ⟨kw4_40, kw4_38, kw4_39, kw1_1, by decide +kernel⟩
def X6_remove (σ : Mem) (p1 : Int32) : Option (Mem × (Int32 ⊕ Nat)) :=
  ((X0_has 3 σ p1).bind fun q1 => (if q1.2 = 0 then some (q1.1, Sum.inr 2) else ((X4_push 0 q1.1).bind fun q3 => ((X0_takeAway 3 q3.1 p1).bind fun q5 => ((X0_size 3 q5.1).bind fun q7 => some (q7.1, Sum.inl q7.2))))))
set_option maxHeartbeats 4000000 in
set_option maxRecDepth 100000 in
theorem wk_X6_remove {E : Ev} {G : Gw} {kc ks : Nat} (C : Cx E G RX6 cX6_remove 2 { frames := 6, cells := kc, slots := ks, locals := 107 }) {out : Mem × (Int32 ⊕ Nat)} (F : Efx E G out (some .int))  {σ : Mem} {p1 : Int32} (h : X6_remove σ p1 = some out) : J E G 2 0 0 σ 0 [(0, .ref (gA G 81)), (1, .int p1)] [] := by
  unfold X6_remove at h
  refine j_aload_n C dX6_remove_0 rfl 0 rfl 1 rfl ?_
  refine j_get C foX6 sh81 0 (by decide) 2 rfl kw1_159 rfl dX6_remove_1 (.ref (gA G 0)) (fv_r rfl) 4 rfl ?_
  refine j_get C foX5 sh0 1 (by decide) 5 rfl kw1_76 rfl dX6_remove_4 (.ref (gA G 3)) (fv_r rfl) 7 rfl ?_
  refine j_iload_n C dX6_remove_7 rfl 1 rfl 8 rfl ?_
  obtain ⟨q1, e2, h⟩ := ob_some h
  refine j_callV C (ct_X0_has (eL E) G ent3 e2) sh3 foX0 rfl vk_X0_has kw2_214 rfl ⟨Nat.le_of_ble_eq_true rfl, Nat.le_of_ble_eq_true rfl, rfl, rfl⟩ ⟨Nat.zero_le _, Nat.zero_le _⟩ (rest := []) rfl (Nat.le_of_ble_eq_true rfl) dX6_remove_8 (st1 := [.int q1.2]) rfl 11 rfl ?_
  refine j_if_ne C dX6_remove_11 24 (by decide) 14 rfl (fun c => ?_) (fun c => ?_)
  · have h := it_f c h
    refine j_aload_n C dX6_remove_24 rfl 0 rfl 25 rfl ?_
    refine j_get C foX6 sh81 2 (by decide) 58 rfl kw1_161 rfl dX6_remove_25 (.ref (gA G 56)) (fv_r rfl) 28 rfl ?_
    refine j_aload_n C dX6_remove_28 rfl 0 rfl 29 rfl ?_
    refine j_get C foX6 sh81 0 (by decide) 2 rfl kw1_159 rfl dX6_remove_29 (.ref (gA G 0)) (fv_r rfl) 32 rfl ?_
    obtain ⟨q3, e4, h⟩ := ob_some h
    refine j_callV C (ct_X4_push (eL E) G sta0 e4) sh56 foX4 rfl vk_X4_push kw3_125 rfl ⟨Nat.le_of_ble_eq_true rfl, Nat.le_of_ble_eq_true rfl, rfl, rfl⟩ ⟨Nat.zero_le _, Nat.zero_le _⟩ (rest := []) rfl (Nat.le_of_ble_eq_true rfl) dX6_remove_32 (st1 := []) rfl 35 rfl ?_
    refine j_aload_n C dX6_remove_35 rfl 0 rfl 36 rfl ?_
    refine j_get C foX6 sh81 0 (by decide) 2 rfl kw1_159 rfl dX6_remove_36 (.ref (gA G 0)) (fv_r rfl) 39 rfl ?_
    refine j_get C foX5 sh0 1 (by decide) 5 rfl kw1_76 rfl dX6_remove_39 (.ref (gA G 3)) (fv_r rfl) 42 rfl ?_
    refine j_iload_n C dX6_remove_42 rfl 1 rfl 43 rfl ?_
    obtain ⟨q5, e6, h⟩ := ob_some h
    refine j_callV C (ct_X0_takeAway (eL E) G ent3 e6) sh3 foX0 rfl vk_X0_takeAway kw4_41 rfl ⟨Nat.le_of_ble_eq_true rfl, Nat.le_of_ble_eq_true rfl, rfl, rfl⟩ ⟨Nat.zero_le _, Nat.zero_le _⟩ (rest := []) rfl (Nat.le_of_ble_eq_true rfl) dX6_remove_43 (st1 := []) rfl 46 rfl ?_
    refine j_aload_n C dX6_remove_46 rfl 0 rfl 47 rfl ?_
    refine j_get C foX6 sh81 0 (by decide) 2 rfl kw1_159 rfl dX6_remove_47 (.ref (gA G 0)) (fv_r rfl) 50 rfl ?_
    refine j_get C foX5 sh0 1 (by decide) 5 rfl kw1_76 rfl dX6_remove_50 (.ref (gA G 3)) (fv_r rfl) 53 rfl ?_
    obtain ⟨q7, e8, h⟩ := ob_some h
    refine j_callV C (ct_X0_size (eL E) G ent3 e8) sh3 foX0 rfl vk_X0_size kw2_172 rfl ⟨Nat.le_of_ble_eq_true rfl, Nat.le_of_ble_eq_true rfl, rfl, rfl⟩ ⟨Nat.zero_le _, Nat.zero_le _⟩ (rest := []) rfl (Nat.le_of_ble_eq_true rfl) dX6_remove_53 (st1 := [.int q7.2]) rfl 56 rfl ?_
    exact j_iretX C F dX6_remove_56 h
  · have h := it_t c h
    exact j_throw C F (x := 2) (by decide +kernel) kw2_194 kw1_13 str_166 ha_2_124 dX6_remove_14 dX6_remove_17 dX6_remove_18 dX6_remove_20 dX6_remove_23 ⟨Nat.le_of_ble_eq_true rfl, Nat.le_of_ble_eq_true rfl⟩ h
set_option maxHeartbeats 4000000 in
set_option maxRecDepth 100000 in
theorem ct_X6_remove (l : Launch) (G : Gw)  {σ : Mem} {p1 : Int32} {out : Mem × Int32} (h : X6_remove σ p1 = some (out.1, .inl out.2)) : Ct l G yX6_remove cX6_remove 2 (some .int) { frames := 6, cells := 0, slots := 0, locals := 107 } [.ref (gA G 81), .int p1] σ out.1 (some (.int out.2)) :=
  Ct.of (by decide +kernel) (Nat.le_of_ble_eq_true rfl) (fun E hE C F => wk_X6_remove C ⟨fun v hv => (by cases hv; exact F), fun x hx => (by cases hx)⟩ h)
theorem cx_X6_remove (l : Launch) (hst : l.stackTraces = false) (G : Gw)  {σ σ2 : Mem} {p1 : Int32} {x : Nat} (h : X6_remove σ p1 = some (σ2, .inr x)) : Cx1 l G yX6_remove cX6_remove 2 (some .int) { frames := 6, cells := 1, slots := 6, locals := 107 } [.ref (gA G 81), .int p1] σ σ2 x :=
    Cx1.of (by decide +kernel) (Nat.le_of_ble_eq_true rfl) hst ⟨by decide, by decide⟩ (fun E hE C F => wk_X6_remove C ⟨fun v hv => (by cases hv), fun x hx => (by cases hx; exact F)⟩ h)

-- ===== StenoChords.canBeSet(II)Z
theorem vk_X6_canBeSet : SK yX6_canBeSet cX6_canBeSet 2 (some .boolean) 2 := ⟨kw3_123, kw3_122, kw1_1, by decide +kernel⟩
def X6_canBeSet (σ : Mem) (p0 : Int32) (p1 : Int32) : Option (Mem × Int32) :=
  (if p0 = 0 then (if p1 = 0 then some (σ, (1 : Int32)) else (if p1 = (1 : Int32) then some (σ, (1 : Int32)) else some (σ, (0 : Int32)))) else (if p1 < (1 : Int32) then some (σ, (0 : Int32)) else (if (4 : Int32) < p1 then some (σ, (0 : Int32)) else some (σ, (1 : Int32)))))
set_option maxHeartbeats 4000000 in
set_option maxRecDepth 100000 in
theorem ct_X6_canBeSet (l : Launch) (G : Gw)  {σ : Mem} {p0 : Int32} {p1 : Int32} {out : Mem × Int32} (h : X6_canBeSet σ p0 p1 = some out) : Ct l G yX6_canBeSet cX6_canBeSet 2 (some .boolean) { frames := 0, cells := 0, slots := 0, locals := 0 } [.int p0, .int p1] σ out.1 (some (.int out.2)) := by
  refine Ct.of (by decide +kernel) (Nat.le_of_ble_eq_true rfl) (fun E hE C F => ?_)
  subst hE
  have C : Cx E G RX6 cX6_canBeSet 2 { frames := 0, cells := 0, slots := 0, locals := 0 } := C
  unfold X6_canBeSet at h
  show J E G 2 0 0 σ 0 [(0, .int p0), (1, .int p1)] []
  refine j_iload_n C dX6_canBeSet_0 rfl 0 rfl 1 rfl ?_
  refine j_if_ne C dX6_canBeSet_1 19 (by decide) 4 rfl (fun c => ?_) (fun c => ?_)
  · have h := it_f c h
    refine j_iload_n C dX6_canBeSet_19 rfl 1 rfl 20 rfl ?_
    refine j_iconst C dX6_canBeSet_20 (1 : Int32) (by decide) 21 rfl ?_
    refine j_icmp_lt C dX6_canBeSet_21 33 (by decide) 24 rfl (fun c => ?_) (fun c => ?_)
    · have h := it_t c h
      refine j_iconst C dX6_canBeSet_33 (0 : Int32) (by decide) 34 rfl ?_
      exact j_zret C F dX6_canBeSet_34 (by decide) h
    · have h := it_f c h
      refine j_iload_n C dX6_canBeSet_24 rfl 1 rfl 25 rfl ?_
      refine j_iconst C dX6_canBeSet_25 (4 : Int32) (by decide) 26 rfl ?_
      refine j_icmp_gt C dX6_canBeSet_26 33 (by decide) 29 rfl (fun c => ?_) (fun c => ?_)
      · have h := it_t c h
        refine j_iconst C dX6_canBeSet_33 (0 : Int32) (by decide) 34 rfl ?_
        exact j_zret C F dX6_canBeSet_34 (by decide) h
      · have h := it_f c h
        refine j_iconst C dX6_canBeSet_29 (1 : Int32) (by decide) 30 rfl ?_
        refine j_goto C dX6_canBeSet_30 34 (by decide) ?_
        exact j_zret C F dX6_canBeSet_34 (by decide) h
  · have h := it_t c h
    refine j_iload_n C dX6_canBeSet_4 rfl 1 rfl 5 rfl ?_
    refine j_if_eq C dX6_canBeSet_5 13 (by decide) 8 rfl (fun c => ?_) (fun c => ?_)
    · have h := it_t c h
      refine j_iconst C dX6_canBeSet_13 (1 : Int32) (by decide) 14 rfl ?_
      refine j_goto C dX6_canBeSet_14 18 (by decide) ?_
      exact j_zret C F dX6_canBeSet_18 (by decide) h
    · have h := it_f c h
      refine j_iload_n C dX6_canBeSet_8 rfl 1 rfl 9 rfl ?_
      refine j_iconst C dX6_canBeSet_9 (1 : Int32) (by decide) 10 rfl ?_
      refine j_icmp_ne C dX6_canBeSet_10 17 (by decide) 13 rfl (fun c => ?_) (fun c => ?_)
      · have h := it_f c h
        refine j_iconst C dX6_canBeSet_17 (0 : Int32) (by decide) 18 rfl ?_
        exact j_zret C F dX6_canBeSet_18 (by decide) h
      · have h := it_t c h
        refine j_iconst C dX6_canBeSet_13 (1 : Int32) (by decide) 14 rfl ?_
        refine j_goto C dX6_canBeSet_14 18 (by decide) ?_
        exact j_zret C F dX6_canBeSet_18 (by decide) h

-- ===== StenoChords.settingNumber(I)I
theorem vk_X6_settingNumber : VK yX6_settingNumber cX6_settingNumber 2 (some .int) 1 := ⟨kw3_5, kw3_4, kwS_8, kw1_1, by decide +kernel⟩
def X6_settingNumber (σ : Mem) (p1 : Int32) : Option (Mem × Int32) :=
  (if p1 = 0 then some (σ, (σ.1 0 2)) else some (σ, (σ.1 0 3)))
set_option maxHeartbeats 4000000 in
set_option maxRecDepth 100000 in
theorem ct_X6_settingNumber (l : Launch) (G : Gw)  {σ : Mem} {p1 : Int32} {out : Mem × Int32} (h : X6_settingNumber σ p1 = some out) : Ct l G yX6_settingNumber cX6_settingNumber 2 (some .int) { frames := 0, cells := 0, slots := 0, locals := 0 } [.ref (gA G 81), .int p1] σ out.1 (some (.int out.2)) := by
  refine Ct.of (by decide +kernel) (Nat.le_of_ble_eq_true rfl) (fun E hE C F => ?_)
  subst hE
  have C : Cx E G RX6 cX6_settingNumber 2 { frames := 0, cells := 0, slots := 0, locals := 0 } := C
  unfold X6_settingNumber at h
  show J E G 2 0 0 σ 0 [(0, .ref (gA G 81)), (1, .int p1)] []
  refine j_iload_n C dX6_settingNumber_0 rfl 1 rfl 1 rfl ?_
  refine j_if_ne C dX6_settingNumber_1 14 (by decide) 4 rfl (fun c => ?_) (fun c => ?_)
  · have h := it_f c h
    refine j_aload_n C dX6_settingNumber_14 rfl 0 rfl 15 rfl ?_
    refine j_get C foX6 sh81 0 (by decide) 2 rfl kw1_159 rfl dX6_settingNumber_15 (.ref (gA G 0)) (fv_r rfl) 18 rfl ?_
    refine j_get C foX5 sh0 3 (by decide) 0 rfl kw1_81 rfl dX6_settingNumber_18 (.int (σ.1 0 3)) rfl 21 rfl ?_
    exact j_iret C F dX6_settingNumber_21 h
  · have h := it_t c h
    refine j_aload_n C dX6_settingNumber_4 rfl 0 rfl 5 rfl ?_
    refine j_get C foX6 sh81 0 (by decide) 2 rfl kw1_159 rfl dX6_settingNumber_5 (.ref (gA G 0)) (fv_r rfl) 8 rfl ?_
    refine j_get C foX5 sh0 2 (by decide) 0 rfl kw1_79 rfl dX6_settingNumber_8 (.int (σ.1 0 2)) rfl 11 rfl ?_
    refine j_goto C dX6_settingNumber_11 21 (by decide) ?_
    exact j_iret C F dX6_settingNumber_21 h

-- ===== StenoChords.set(II)I
theorem vk_X6_set : VK yX6_set cX6_set 4 (some .int) 2 := ⟨kw3_120, kw3_118, kw3_119, kw1_1, by decide +kernel⟩
def X6_set (σ : Mem) (p1 : Int32) (p2 : Int32) : Option (Mem × (Int32 ⊕ Nat)) :=
  (if p1 < 0 then some (σ, Sum.inr 2) else (if p1 < (2 : Int32) then ((X6_canBeSet σ p1 p2).bind fun q1 => (if q1.2 = 0 then some (q1.1, Sum.inr 0) else ((X4_push 0 q1.1).bind fun q3 => ((X6_settingNumber q3.1 p1).bind fun q5 => (if p1 = 0 then ((some (setI q5.1 0 2 p2)).bind fun σ9 => some (σ9, Sum.inl q5.2)) else ((some (setI q5.1 0 3 p2)).bind fun σ7 => some (σ7, Sum.inl q5.2))))))) else some (σ, Sum.inr 2)))
set_option maxHeartbeats 4000000 in
set_option maxRecDepth 100000 in
theorem wk_X6_set {E : Ev} {G : Gw} {kc ks : Nat} (C : Cx E G RX6 cX6_set 4 { frames := 6, cells := kc, slots := ks, locals := 107 }) {out : Mem × (Int32 ⊕ Nat)} (F : Efx E G out (some .int))  {σ : Mem} {p1 : Int32} {p2 : Int32} (h : X6_set σ p1 p2 = some out) : J E G 4 0 0 σ 0 [(0, .ref (gA G 81)), (1, .int p1), (2, .int p2)] [] := by
  unfold X6_set at h
  refine j_iload_n C dX6_set_0 rfl 1 rfl 1 rfl ?_
  refine j_if_lt C dX6_set_1 9 (by decide) 4 rfl (fun c => ?_) (fun c => ?_)
  · have h := it_t c h
    exact j_throw C F (x := 2) (by decide +kernel) kw2_194 kw1_13 str_171 ha_2_124 dX6_set_9 dX6_set_12 dX6_set_13 dX6_set_15 dX6_set_18 ⟨Nat.le_of_ble_eq_true rfl, Nat.le_of_ble_eq_true rfl⟩ h
  · have h := it_f c h
    refine j_iload_n C dX6_set_4 rfl 1 rfl 5 rfl ?_
    refine j_iconst C dX6_set_5 (2 : Int32) (by decide) 6 rfl ?_
    refine j_icmp_lt C dX6_set_6 19 (by decide) 9 rfl (fun c => ?_) (fun c => ?_)
    · have h := it_t c h
      refine j_iload_n C dX6_set_19 rfl 1 rfl 20 rfl ?_
      refine j_iload_n C dX6_set_20 rfl 2 rfl 21 rfl ?_
      obtain ⟨q1, e2, h⟩ := ob_some h
      refine j_callS C (ct_X6_canBeSet (eL E) G  e2) vk_X6_canBeSet kw3_121 rfl ⟨Nat.le_of_ble_eq_true rfl, Nat.le_of_ble_eq_true rfl, rfl, rfl⟩ ⟨Nat.zero_le _, Nat.zero_le _⟩ (rest := []) rfl (Nat.le_of_ble_eq_true rfl) dX6_set_21 (st1 := [.int q1.2]) rfl 24 rfl ?_
      refine j_if_ne C dX6_set_24 37 (by decide) 27 rfl (fun c => ?_) (fun c => ?_)
      · have h := it_f c h
        refine j_aload_n C dX6_set_37 rfl 0 rfl 38 rfl ?_
        refine j_get C foX6 sh81 2 (by decide) 58 rfl kw1_161 rfl dX6_set_38 (.ref (gA G 56)) (fv_r rfl) 41 rfl ?_
        refine j_aload_n C dX6_set_41 rfl 0 rfl 42 rfl ?_
        refine j_get C foX6 sh81 0 (by decide) 2 rfl kw1_159 rfl dX6_set_42 (.ref (gA G 0)) (fv_r rfl) 45 rfl ?_
        obtain ⟨q3, e4, h⟩ := ob_some h
        refine j_callV C (ct_X4_push (eL E) G sta0 e4) sh56 foX4 rfl vk_X4_push kw3_125 rfl ⟨Nat.le_of_ble_eq_true rfl, Nat.le_of_ble_eq_true rfl, rfl, rfl⟩ ⟨Nat.zero_le _, Nat.zero_le _⟩ (rest := []) rfl (Nat.le_of_ble_eq_true rfl) dX6_set_45 (st1 := []) rfl 48 rfl ?_
        refine j_aload_n C dX6_set_48 rfl 0 rfl 49 rfl ?_
        refine j_iload_n C dX6_set_49 rfl 1 rfl 50 rfl ?_
        obtain ⟨q5, e6, h⟩ := ob_some h
        refine j_callV C (ct_X6_settingNumber (eL E) G  e6) sh81 foX6 rfl vk_X6_settingNumber kw3_2 rfl ⟨Nat.le_of_ble_eq_true rfl, Nat.le_of_ble_eq_true rfl, rfl, rfl⟩ ⟨Nat.zero_le _, Nat.zero_le _⟩ (rest := []) rfl (Nat.le_of_ble_eq_true rfl) dX6_set_50 (st1 := [.int q5.2]) rfl 53 rfl ?_
        refine j_istore_n C dX6_set_53 rfl (by decide) [(3, .int q5.2), (0, .ref (gA G 81)), (1, .int p1), (2, .int p2)] rfl 54 rfl ?_
        refine j_iload_n C dX6_set_54 rfl 2 rfl 55 rfl ?_
        refine j_if_ne C dX6_set_55 69 (by decide) 58 rfl (fun c => ?_) (fun c => ?_)
        · have h := it_f c h
          refine j_aload_n C dX6_set_69 rfl 1 rfl 70 rfl ?_
          refine j_get C foX6 sh81 0 (by decide) 2 rfl kw1_159 rfl dX6_set_70 (.ref (gA G 0)) (fv_r rfl) 73 rfl ?_
          refine j_iload_n C dX6_set_73 rfl 3 rfl 74 rfl ?_
          obtain ⟨σ7, e8, h⟩ := ob_some h
          refine j_putI C foX5 sh0 3 (by decide) rfl kw1_81 rfl rfl rfl rfl dX6_set_74 σ7 (Option.some.inj e8) 77 rfl ?_
          refine j_iload_n C dX6_set_77 rfl 0 rfl 78 rfl ?_
          exact j_iretX C F dX6_set_78 h
        · have h := it_t c h
          refine j_aload_n C dX6_set_58 rfl 1 rfl 59 rfl ?_
          refine j_get C foX6 sh81 0 (by decide) 2 rfl kw1_159 rfl dX6_set_59 (.ref (gA G 0)) (fv_r rfl) 62 rfl ?_
          refine j_iload_n C dX6_set_62 rfl 3 rfl 63 rfl ?_
          obtain ⟨σ9, e10, h⟩ := ob_some h
          refine j_putI C foX5 sh0 2 (by decide) rfl kw1_79 rfl rfl rfl rfl dX6_set_63 σ9 (Option.some.inj e10) 66 rfl ?_
          refine j_goto C dX6_set_66 77 (by decide) ?_
          refine j_iload_n C dX6_set_77 rfl 0 rfl 78 rfl ?_
          exact j_iretX C F dX6_set_78 h
      · have h := it_t c h
        exact j_throw C F (x := 0) (by decide +kernel) kw2_94 kw1_12 str_177 ha_0_62 dX6_set_27 dX6_set_30 dX6_set_31 dX6_set_33 dX6_set_36 ⟨Nat.le_of_ble_eq_true rfl, Nat.le_of_ble_eq_true rfl⟩ h
    · have h := it_f c h
      exact j_throw C F (x := 2) (by decide +kernel) kw2_194 kw1_13 str_171 ha_2_124 dX6_set_9 dX6_set_12 dX6_set_13 dX6_set_15 dX6_set_18 ⟨Nat.le_of_ble_eq_true rfl, Nat.le_of_ble_eq_true rfl⟩ h
set_option maxHeartbeats 4000000 in
set_option maxRecDepth 100000 in
theorem ct_X6_set (l : Launch) (G : Gw)  {σ : Mem} {p1 : Int32} {p2 : Int32} {out : Mem × Int32} (h : X6_set σ p1 p2 = some (out.1, .inl out.2)) : Ct l G yX6_set cX6_set 4 (some .int) { frames := 6, cells := 0, slots := 0, locals := 107 } [.ref (gA G 81), .int p1, .int p2] σ out.1 (some (.int out.2)) :=
  Ct.of (by decide +kernel) (Nat.le_of_ble_eq_true rfl) (fun E hE C F => wk_X6_set C ⟨fun v hv => (by cases hv; exact F), fun x hx => (by cases hx)⟩ h)
theorem cx_X6_set (l : Launch) (hst : l.stackTraces = false) (G : Gw)  {σ σ2 : Mem} {p1 : Int32} {p2 : Int32} {x : Nat} (h : X6_set σ p1 p2 = some (σ2, .inr x)) : Cx1 l G yX6_set cX6_set 4 (some .int) { frames := 6, cells := 1, slots := 6, locals := 107 } [.ref (gA G 81), .int p1, .int p2] σ σ2 x :=
    Cx1.of (by decide +kernel) (Nat.le_of_ble_eq_true rfl) hst ⟨by decide, by decide⟩ (fun E hE C F => wk_X6_set C ⟨fun v hv => (by cases hv), fun x hx => (by cases hx; exact F)⟩ h)

-- ===== StenoChords.append(I)I
theorem vk_X6_append : VK yX6_append cX6_append 2 (some .int) 1 := ⟨kw3_149, kw3_147, kw3_148, kw1_1, by decide +kernel⟩
def X6_append (σ : Mem) (p1 : Int32) : Option (Mem × (Int32 ⊕ Nat)) :=
  (if p1 < (33 : Int32) then some (σ, Sum.inr 0) else (if p1 ≤ (126 : Int32) then ((X1_isFull σ).bind fun q1 => (if q1.2 = 0 then ((X1_put q1.1 p1).bind fun q3 => ((X1_length q3.1).bind fun q5 => some (q5.1, Sum.inl q5.2))) else some (q1.1, Sum.inr 1))) else some (σ, Sum.inr 0)))
set_option maxHeartbeats 4000000 in
set_option maxRecDepth 100000 in
theorem wk_X6_append {E : Ev} {G : Gw} {kc ks : Nat} (C : Cx E G RX6 cX6_append 2 { frames := 6, cells := kc, slots := ks, locals := 82 }) {out : Mem × (Int32 ⊕ Nat)} (F : Efx E G out (some .int))  {σ : Mem} {p1 : Int32} (h : X6_append σ p1 = some out) : J E G 2 0 0 σ 0 [(0, .ref (gA G 81)), (1, .int p1)] [] := by
  unfold X6_append at h
  refine j_iload_n C dX6_append_0 rfl 1 rfl 1 rfl ?_
  refine j_bipush C dX6_append_1 (33 : Int32) (by decide) 3 rfl ?_
  refine j_icmp_lt C dX6_append_3 12 (by decide) 6 rfl (fun c => ?_) (fun c => ?_)
  · have h := it_t c h
    exact j_throw C F (x := 0) (by decide +kernel) kw2_94 kw1_12 str_189 ha_0_62 dX6_append_12 dX6_append_15 dX6_append_16 dX6_append_18 dX6_append_21 ⟨Nat.le_of_ble_eq_true rfl, Nat.le_of_ble_eq_true rfl⟩ h
  · have h := it_f c h
    refine j_iload_n C dX6_append_6 rfl 1 rfl 7 rfl ?_
    refine j_bipush C dX6_append_7 (126 : Int32) (by decide) 9 rfl ?_
    refine j_icmp_le C dX6_append_9 22 (by decide) 12 rfl (fun c => ?_) (fun c => ?_)
    · have h := it_t c h
      refine j_aload_n C dX6_append_22 rfl 0 rfl 23 rfl ?_
      refine j_get C foX6 sh81 3 (by decide) 60 rfl kw1_162 rfl dX6_append_23 (.ref (gA G 58)) (fv_r rfl) 26 rfl ?_
      obtain ⟨q1, e2, h⟩ := ob_some h
      refine j_callV C (ct_X1_isFull (eL E) G  e2) sh58 foX1 rfl vk_X1_isFull kw3_151 rfl ⟨Nat.le_of_ble_eq_true rfl, Nat.le_of_ble_eq_true rfl, rfl, rfl⟩ ⟨Nat.zero_le _, Nat.zero_le _⟩ (rest := []) rfl (Nat.le_of_ble_eq_true rfl) dX6_append_26 (st1 := [.int q1.2]) rfl 29 rfl ?_
      refine j_if_eq C dX6_append_29 42 (by decide) 32 rfl (fun c => ?_) (fun c => ?_)
      · have h := it_t c h
        refine j_aload_n C dX6_append_42 rfl 0 rfl 43 rfl ?_
        refine j_get C foX6 sh81 3 (by decide) 60 rfl kw1_162 rfl dX6_append_43 (.ref (gA G 58)) (fv_r rfl) 46 rfl ?_
        refine j_iload_n C dX6_append_46 rfl 1 rfl 47 rfl ?_
        obtain ⟨q3, e4, h⟩ := ob_some h
        refine j_callV C (ct_X1_put (eL E) G  e4) sh58 foX1 rfl vk_X1_put kw3_160 rfl ⟨Nat.le_of_ble_eq_true rfl, Nat.le_of_ble_eq_true rfl, rfl, rfl⟩ ⟨Nat.zero_le _, Nat.zero_le _⟩ (rest := []) rfl (Nat.le_of_ble_eq_true rfl) dX6_append_47 (st1 := []) rfl 50 rfl ?_
        refine j_aload_n C dX6_append_50 rfl 0 rfl 51 rfl ?_
        refine j_get C foX6 sh81 3 (by decide) 60 rfl kw1_162 rfl dX6_append_51 (.ref (gA G 58)) (fv_r rfl) 54 rfl ?_
        obtain ⟨q5, e6, h⟩ := ob_some h
        refine j_callV C (ct_X1_length (eL E) G  e6) sh58 foX1 rfl vk_X1_length kw3_136 rfl ⟨Nat.le_of_ble_eq_true rfl, Nat.le_of_ble_eq_true rfl, rfl, rfl⟩ ⟨Nat.zero_le _, Nat.zero_le _⟩ (rest := []) rfl (Nat.le_of_ble_eq_true rfl) dX6_append_54 (st1 := [.int q5.2]) rfl 57 rfl ?_
        exact j_iretX C F dX6_append_57 h
      · have h := it_f c h
        exact j_throw C F (x := 1) (by decide +kernel) kw2_10 kw1_15 str_192 ha_1_73 dX6_append_32 dX6_append_35 dX6_append_36 dX6_append_38 dX6_append_41 ⟨Nat.le_of_ble_eq_true rfl, Nat.le_of_ble_eq_true rfl⟩ h
    · have h := it_f c h
      exact j_throw C F (x := 0) (by decide +kernel) kw2_94 kw1_12 str_189 ha_0_62 dX6_append_12 dX6_append_15 dX6_append_16 dX6_append_18 dX6_append_21 ⟨Nat.le_of_ble_eq_true rfl, Nat.le_of_ble_eq_true rfl⟩ h
set_option maxHeartbeats 4000000 in
set_option maxRecDepth 100000 in
theorem ct_X6_append (l : Launch) (G : Gw)  {σ : Mem} {p1 : Int32} {out : Mem × Int32} (h : X6_append σ p1 = some (out.1, .inl out.2)) : Ct l G yX6_append cX6_append 2 (some .int) { frames := 6, cells := 0, slots := 0, locals := 82 } [.ref (gA G 81), .int p1] σ out.1 (some (.int out.2)) :=
  Ct.of (by decide +kernel) (Nat.le_of_ble_eq_true rfl) (fun E hE C F => wk_X6_append C ⟨fun v hv => (by cases hv; exact F), fun x hx => (by cases hx)⟩ h)
theorem cx_X6_append (l : Launch) (hst : l.stackTraces = false) (G : Gw)  {σ σ2 : Mem} {p1 : Int32} {x : Nat} (h : X6_append σ p1 = some (σ2, .inr x)) : Cx1 l G yX6_append cX6_append 2 (some .int) { frames := 6, cells := 1, slots := 6, locals := 82 } [.ref (gA G 81), .int p1] σ σ2 x :=
    Cx1.of (by decide +kernel) (Nat.le_of_ble_eq_true rfl) hst ⟨by decide, by decide⟩ (fun E hE C F => wk_X6_append C ⟨fun v hv => (by cases hv), fun x hx => (by cases hx; exact F)⟩ h)

-- ===== StenoChords.clearBuffer()I
theorem vk_X6_clearBuffer : VK yX6_clearBuffer cX6_clearBuffer 2 (some .int) 0 := ⟨kw3_135, kw3_133, kw3_134, kw1_1, by decide +kernel⟩
def X6_clearBuffer (σ : Mem) : Option (Mem × Int32) :=
  ((X1_length σ).bind fun q1 => ((X1_wipe q1.1).bind fun q3 => some (q3.1, q1.2)))
set_option maxHeartbeats 4000000 in
set_option maxRecDepth 100000 in
theorem ct_X6_clearBuffer (l : Launch) (G : Gw)  {σ : Mem} {out : Mem × Int32} (h : X6_clearBuffer σ = some out) : Ct l G yX6_clearBuffer cX6_clearBuffer 2 (some .int) { frames := 2, cells := 0, slots := 0, locals := 41 } [.ref (gA G 81)] σ out.1 (some (.int out.2)) := by
  refine Ct.of (by decide +kernel) (Nat.le_of_ble_eq_true rfl) (fun E hE C F => ?_)
  subst hE
  have C : Cx E G RX6 cX6_clearBuffer 2 { frames := 2, cells := 0, slots := 0, locals := 41 } := C
  unfold X6_clearBuffer at h
  show J E G 2 0 0 σ 0 [(0, .ref (gA G 81))] []
  refine j_aload_n C dX6_clearBuffer_0 rfl 0 rfl 1 rfl ?_
  refine j_get C foX6 sh81 3 (by decide) 60 rfl kw1_162 rfl dX6_clearBuffer_1 (.ref (gA G 58)) (fv_r rfl) 4 rfl ?_
  obtain ⟨q1, e2, h⟩ := ob_some h
  refine j_callV C (ct_X1_length (eL E) G  e2) sh58 foX1 rfl vk_X1_length kw3_136 rfl ⟨Nat.le_of_ble_eq_true rfl, Nat.le_of_ble_eq_true rfl, rfl, rfl⟩ ⟨Nat.zero_le _, Nat.zero_le _⟩ (rest := []) rfl (Nat.le_of_ble_eq_true rfl) dX6_clearBuffer_4 (st1 := [.int q1.2]) rfl 7 rfl ?_
  refine j_istore_n C dX6_clearBuffer_7 rfl (by decide) [(1, .int q1.2), (0, .ref (gA G 81))] rfl 8 rfl ?_
  refine j_aload_n C dX6_clearBuffer_8 rfl 1 rfl 9 rfl ?_
  refine j_get C foX6 sh81 3 (by decide) 60 rfl kw1_162 rfl dX6_clearBuffer_9 (.ref (gA G 58)) (fv_r rfl) 12 rfl ?_
  obtain ⟨q3, e4, h⟩ := ob_some h
  refine j_callV C (ct_X1_wipe (eL E) G  e4) sh58 foX1 rfl vk_X1_wipe kw3_141 rfl ⟨Nat.le_of_ble_eq_true rfl, Nat.le_of_ble_eq_true rfl, rfl, rfl⟩ ⟨Nat.zero_le _, Nat.zero_le _⟩ (rest := []) rfl (Nat.le_of_ble_eq_true rfl) dX6_clearBuffer_12 (st1 := []) rfl 15 rfl ?_
  refine j_iload_n C dX6_clearBuffer_15 rfl 0 rfl 16 rfl ?_
  exact j_iret C F dX6_clearBuffer_16 h

-- ===== StenoChords.keep()I
theorem vk_X6_keep : VK yX6_keep cX6_keep 1 (some .int) 0 := ⟨kw1_193, kw1_191, kw1_192, kw1_1, by decide +kernel⟩
def X6_keep (σ : Mem) : Option (Mem × Int32) :=
  ((X5_become 7 0 σ).bind fun q1 => ((some (setI q1.1 81 9 (1 : Int32))).bind fun σ3 => ((X3_length 1 σ3).bind fun q5 => some (q5.1, q5.2))))
set_option maxHeartbeats 4000000 in
set_option maxRecDepth 100000 in
theorem ct_X6_keep (l : Launch) (G : Gw)  {σ : Mem} {out : Mem × Int32} (h : X6_keep σ = some out) : Ct l G yX6_keep cX6_keep 1 (some .int) { frames := 4, cells := 0, slots := 0, locals := 85 } [.ref (gA G 81)] σ out.1 (some (.int out.2)) := by
  refine Ct.of (by decide +kernel) (Nat.le_of_ble_eq_true rfl) (fun E hE C F => ?_)
  subst hE
  have C : Cx E G RX6 cX6_keep 1 { frames := 4, cells := 0, slots := 0, locals := 85 } := C
  unfold X6_keep at h
  show J E G 1 0 0 σ 0 [(0, .ref (gA G 81))] []
  refine j_aload_n C dX6_keep_0 rfl 0 rfl 1 rfl ?_
  refine j_get C foX6 sh81 1 (by decide) 9 rfl kw1_160 rfl dX6_keep_1 (.ref (gA G 7)) (fv_r rfl) 4 rfl ?_
  refine j_aload_n C dX6_keep_4 rfl 0 rfl 5 rfl ?_
  refine j_get C foX6 sh81 0 (by decide) 2 rfl kw1_159 rfl dX6_keep_5 (.ref (gA G 0)) (fv_r rfl) 8 rfl ?_
  obtain ⟨q1, e2, h⟩ := ob_some h
  refine j_callV C (ct_X5_become (eL E) G sta7 sta0 e2) sh7 foX5 rfl vk_X5_become kw1_194 rfl ⟨Nat.le_of_ble_eq_true rfl, Nat.le_of_ble_eq_true rfl, rfl, rfl⟩ ⟨Nat.zero_le _, Nat.zero_le _⟩ (rest := []) rfl (Nat.le_of_ble_eq_true rfl) dX6_keep_8 (st1 := []) rfl 11 rfl ?_
  refine j_aload_n C dX6_keep_11 rfl 0 rfl 12 rfl ?_
  refine j_iconst C dX6_keep_12 (1 : Int32) (by decide) 13 rfl ?_
  obtain ⟨σ3, e4, h⟩ := ob_some h
  refine j_putI C foX6 sh81 9 (by decide) rfl kw1_168 rfl rfl rfl rfl dX6_keep_13 σ3 (Option.some.inj e4) 16 rfl ?_
  refine j_aload_n C dX6_keep_16 rfl 0 rfl 17 rfl ?_
  refine j_get C foX6 sh81 0 (by decide) 2 rfl kw1_159 rfl dX6_keep_17 (.ref (gA G 0)) (fv_r rfl) 20 rfl ?_
  refine j_get C foX5 sh0 0 (by decide) 3 rfl kw1_74 rfl dX6_keep_20 (.ref (gA G 1)) (fv_r rfl) 23 rfl ?_
  obtain ⟨q5, e6, h⟩ := ob_some h
  refine j_callV C (ct_X3_length (eL E) G row1 e6) sh1 foX3 rfl vk_X3_length kw1_238 rfl ⟨Nat.le_of_ble_eq_true rfl, Nat.le_of_ble_eq_true rfl, rfl, rfl⟩ ⟨Nat.zero_le _, Nat.zero_le _⟩ (rest := []) rfl (Nat.le_of_ble_eq_true rfl) dX6_keep_23 (st1 := [.int q5.2]) rfl 26 rfl ?_
  exact j_iret C F dX6_keep_26 h

-- ===== StenoChords.goBack()I
theorem vk_X6_goBack : VK yX6_goBack cX6_goBack 1 (some .int) 0 := ⟨kw4_58, kw4_56, kw4_57, kw1_1, by decide +kernel⟩
def X6_goBack (σ : Mem) : Option (Mem × (Int32 ⊕ Nat)) :=
  (if (σ.1 81 9) = 0 then some (σ, Sum.inr 1) else ((X4_push 0 σ).bind fun q1 => ((X5_become 0 7 q1.1).bind fun q3 => ((X3_length 1 q3.1).bind fun q5 => some (q5.1, Sum.inl q5.2)))))
set_option maxHeartbeats 4000000 in
set_option maxRecDepth 100000 in
theorem wk_X6_goBack {E : Ev} {G : Gw} {kc ks : Nat} (C : Cx E G RX6 cX6_goBack 1 { frames := 6, cells := kc, slots := ks, locals := 107 }) {out : Mem × (Int32 ⊕ Nat)} (F : Efx E G out (some .int))  {σ : Mem} (h : X6_goBack σ = some out) : J E G 1 0 0 σ 0 [(0, .ref (gA G 81))] [] := by
  unfold X6_goBack at h
  refine j_aload_n C dX6_goBack_0 rfl 0 rfl 1 rfl ?_
  refine j_get C foX6 sh81 9 (by decide) 0 rfl kw1_168 rfl dX6_goBack_1 (.int (σ.1 81 9)) rfl 4 rfl ?_
  refine j_if_ne C dX6_goBack_4 17 (by decide) 7 rfl (fun c => ?_) (fun c => ?_)
  · have h := it_f c h
    refine j_aload_n C dX6_goBack_17 rfl 0 rfl 18 rfl ?_
    refine j_get C foX6 sh81 2 (by decide) 58 rfl kw1_161 rfl dX6_goBack_18 (.ref (gA G 56)) (fv_r rfl) 21 rfl ?_
    refine j_aload_n C dX6_goBack_21 rfl 0 rfl 22 rfl ?_
    refine j_get C foX6 sh81 0 (by decide) 2 rfl kw1_159 rfl dX6_goBack_22 (.ref (gA G 0)) (fv_r rfl) 25 rfl ?_
    obtain ⟨q1, e2, h⟩ := ob_some h
    refine j_callV C (ct_X4_push (eL E) G sta0 e2) sh56 foX4 rfl vk_X4_push kw3_125 rfl ⟨Nat.le_of_ble_eq_true rfl, Nat.le_of_ble_eq_true rfl, rfl, rfl⟩ ⟨Nat.zero_le _, Nat.zero_le _⟩ (rest := []) rfl (Nat.le_of_ble_eq_true rfl) dX6_goBack_25 (st1 := []) rfl 28 rfl ?_
    refine j_aload_n C dX6_goBack_28 rfl 0 rfl 29 rfl ?_
    refine j_get C foX6 sh81 0 (by decide) 2 rfl kw1_159 rfl dX6_goBack_29 (.ref (gA G 0)) (fv_r rfl) 32 rfl ?_
    refine j_aload_n C dX6_goBack_32 rfl 0 rfl 33 rfl ?_
    refine j_get C foX6 sh81 1 (by decide) 9 rfl kw1_160 rfl dX6_goBack_33 (.ref (gA G 7)) (fv_r rfl) 36 rfl ?_
    obtain ⟨q3, e4, h⟩ := ob_some h
    refine j_callV C (ct_X5_become (eL E) G sta0 sta7 e4) sh0 foX5 rfl vk_X5_become kw1_194 rfl ⟨Nat.le_of_ble_eq_true rfl, Nat.le_of_ble_eq_true rfl, rfl, rfl⟩ ⟨Nat.zero_le _, Nat.zero_le _⟩ (rest := []) rfl (Nat.le_of_ble_eq_true rfl) dX6_goBack_36 (st1 := []) rfl 39 rfl ?_
    refine j_aload_n C dX6_goBack_39 rfl 0 rfl 40 rfl ?_
    refine j_get C foX6 sh81 0 (by decide) 2 rfl kw1_159 rfl dX6_goBack_40 (.ref (gA G 0)) (fv_r rfl) 43 rfl ?_
    refine j_get C foX5 sh0 0 (by decide) 3 rfl kw1_74 rfl dX6_goBack_43 (.ref (gA G 1)) (fv_r rfl) 46 rfl ?_
    obtain ⟨q5, e6, h⟩ := ob_some h
    refine j_callV C (ct_X3_length (eL E) G row1 e6) sh1 foX3 rfl vk_X3_length kw1_238 rfl ⟨Nat.le_of_ble_eq_true rfl, Nat.le_of_ble_eq_true rfl, rfl, rfl⟩ ⟨Nat.zero_le _, Nat.zero_le _⟩ (rest := []) rfl (Nat.le_of_ble_eq_true rfl) dX6_goBack_46 (st1 := [.int q5.2]) rfl 49 rfl ?_
    exact j_iretX C F dX6_goBack_49 h
  · have h := it_t c h
    exact j_throw C F (x := 1) (by decide +kernel) kw2_10 kw1_15 str_207 ha_1_73 dX6_goBack_7 dX6_goBack_10 dX6_goBack_11 dX6_goBack_13 dX6_goBack_16 ⟨Nat.le_of_ble_eq_true rfl, Nat.le_of_ble_eq_true rfl⟩ h
set_option maxHeartbeats 4000000 in
set_option maxRecDepth 100000 in
theorem ct_X6_goBack (l : Launch) (G : Gw)  {σ : Mem} {out : Mem × Int32} (h : X6_goBack σ = some (out.1, .inl out.2)) : Ct l G yX6_goBack cX6_goBack 1 (some .int) { frames := 6, cells := 0, slots := 0, locals := 107 } [.ref (gA G 81)] σ out.1 (some (.int out.2)) :=
  Ct.of (by decide +kernel) (Nat.le_of_ble_eq_true rfl) (fun E hE C F => wk_X6_goBack C ⟨fun v hv => (by cases hv; exact F), fun x hx => (by cases hx)⟩ h)
theorem cx_X6_goBack (l : Launch) (hst : l.stackTraces = false) (G : Gw)  {σ σ2 : Mem} {x : Nat} (h : X6_goBack σ = some (σ2, .inr x)) : Cx1 l G yX6_goBack cX6_goBack 1 (some .int) { frames := 6, cells := 1, slots := 6, locals := 107 } [.ref (gA G 81)] σ σ2 x :=
    Cx1.of (by decide +kernel) (Nat.le_of_ble_eq_true rfl) hst ⟨by decide, by decide⟩ (fun E hE C F => wk_X6_goBack C ⟨fun v hv => (by cases hv), fun x hx => (by cases hx; exact F)⟩ h)

-- ===== StenoChords.undo()I
theorem vk_X6_undo : VK yX6_undo cX6_undo 1 (some .int) 0 := ⟨kw2_5, kw2_3, kw2_4, kw1_1, by decide +kernel⟩
def X6_undo (σ : Mem) : Option (Mem × (Int32 ⊕ Nat)) :=
  ((X4_size σ).bind fun q1 => (if q1.2 = 0 then some (q1.1, Sum.inr 1) else ((X4_popInto 0 q1.1).bind fun q3 => ((X4_size q3.1).bind fun q5 => some (q5.1, Sum.inl q5.2)))))
set_option maxHeartbeats 4000000 in
set_option maxRecDepth 100000 in
theorem wk_X6_undo {E : Ev} {G : Gw} {kc ks : Nat} (C : Cx E G RX6 cX6_undo 1 { frames := 6, cells := kc, slots := ks, locals := 107 }) {out : Mem × (Int32 ⊕ Nat)} (F : Efx E G out (some .int))  {σ : Mem} (h : X6_undo σ = some out) : J E G 1 0 0 σ 0 [(0, .ref (gA G 81))] [] := by
  unfold X6_undo at h
  refine j_aload_n C dX6_undo_0 rfl 0 rfl 1 rfl ?_
  refine j_get C foX6 sh81 2 (by decide) 58 rfl kw1_161 rfl dX6_undo_1 (.ref (gA G 56)) (fv_r rfl) 4 rfl ?_
  obtain ⟨q1, e2, h⟩ := ob_some h
  refine j_callV C (ct_X4_size (eL E) G  e2) sh56 foX4 rfl vk_X4_size kw2_6 rfl ⟨Nat.le_of_ble_eq_true rfl, Nat.le_of_ble_eq_true rfl, rfl, rfl⟩ ⟨Nat.zero_le _, Nat.zero_le _⟩ (rest := []) rfl (Nat.le_of_ble_eq_true rfl) dX6_undo_4 (st1 := [.int q1.2]) rfl 7 rfl ?_
  refine j_if_ne C dX6_undo_7 20 (by decide) 10 rfl (fun c => ?_) (fun c => ?_)
  · have h := it_f c h
    refine j_aload_n C dX6_undo_20 rfl 0 rfl 21 rfl ?_
    refine j_get C foX6 sh81 2 (by decide) 58 rfl kw1_161 rfl dX6_undo_21 (.ref (gA G 56)) (fv_r rfl) 24 rfl ?_
    refine j_aload_n C dX6_undo_24 rfl 0 rfl 25 rfl ?_
    refine j_get C foX6 sh81 0 (by decide) 2 rfl kw1_159 rfl dX6_undo_25 (.ref (gA G 0)) (fv_r rfl) 28 rfl ?_
    obtain ⟨q3, e4, h⟩ := ob_some h
    refine j_callV C (ct_X4_popInto (eL E) G sta0 e4) sh56 foX4 rfl vk_X4_popInto kw2_78 rfl ⟨Nat.le_of_ble_eq_true rfl, Nat.le_of_ble_eq_true rfl, rfl, rfl⟩ ⟨Nat.zero_le _, Nat.zero_le _⟩ (rest := []) rfl (Nat.le_of_ble_eq_true rfl) dX6_undo_28 (st1 := []) rfl 31 rfl ?_
    refine j_aload_n C dX6_undo_31 rfl 0 rfl 32 rfl ?_
    refine j_get C foX6 sh81 2 (by decide) 58 rfl kw1_161 rfl dX6_undo_32 (.ref (gA G 56)) (fv_r rfl) 35 rfl ?_
    obtain ⟨q5, e6, h⟩ := ob_some h
    refine j_callV C (ct_X4_size (eL E) G  e6) sh56 foX4 rfl vk_X4_size kw2_6 rfl ⟨Nat.le_of_ble_eq_true rfl, Nat.le_of_ble_eq_true rfl, rfl, rfl⟩ ⟨Nat.zero_le _, Nat.zero_le _⟩ (rest := []) rfl (Nat.le_of_ble_eq_true rfl) dX6_undo_35 (st1 := [.int q5.2]) rfl 38 rfl ?_
    exact j_iretX C F dX6_undo_38 h
  · have h := it_t c h
    exact j_throw C F (x := 1) (by decide +kernel) kw2_10 kw1_15 str_210 ha_1_73 dX6_undo_10 dX6_undo_13 dX6_undo_14 dX6_undo_16 dX6_undo_19 ⟨Nat.le_of_ble_eq_true rfl, Nat.le_of_ble_eq_true rfl⟩ h
set_option maxHeartbeats 4000000 in
set_option maxRecDepth 100000 in
theorem ct_X6_undo (l : Launch) (G : Gw)  {σ : Mem} {out : Mem × Int32} (h : X6_undo σ = some (out.1, .inl out.2)) : Ct l G yX6_undo cX6_undo 1 (some .int) { frames := 6, cells := 0, slots := 0, locals := 107 } [.ref (gA G 81)] σ out.1 (some (.int out.2)) :=
  Ct.of (by decide +kernel) (Nat.le_of_ble_eq_true rfl) (fun E hE C F => wk_X6_undo C ⟨fun v hv => (by cases hv; exact F), fun x hx => (by cases hx)⟩ h)
theorem cx_X6_undo (l : Launch) (hst : l.stackTraces = false) (G : Gw)  {σ σ2 : Mem} {x : Nat} (h : X6_undo σ = some (σ2, .inr x)) : Cx1 l G yX6_undo cX6_undo 1 (some .int) { frames := 6, cells := 1, slots := 6, locals := 107 } [.ref (gA G 81)] σ σ2 x :=
    Cx1.of (by decide +kernel) (Nat.le_of_ble_eq_true rfl) hst ⟨by decide, by decide⟩ (fun E hE C F => wk_X6_undo C ⟨fun v hv => (by cases hv), fun x hx => (by cases hx; exact F)⟩ h)

-- ===== StenoChords.stroke(I)I
theorem vk_X6_stroke : VK yX6_stroke cX6_stroke 2 (some .int) 1 := ⟨kw2_192, kw2_190, kw2_191, kw1_1, by decide +kernel⟩
def X6_stroke (σ : Mem) (p1 : Int32) : Option (Mem × (Int32 ⊕ Nat)) :=
  ((X3_has 1 σ p1).bind fun q1 => (if q1.2 = 0 then some (q1.1, Sum.inr 2) else ((X3_at 1 q1.1 p1).bind fun q3 => some (q3.1, Sum.inl q3.2))))
set_option maxHeartbeats 4000000 in
set_option maxRecDepth 100000 in
theorem wk_X6_stroke {E : Ev} {G : Gw} {kc ks : Nat} (C : Cx E G RX6 cX6_stroke 2 { frames := 6, cells := kc, slots := ks, locals := 82 }) {out : Mem × (Int32 ⊕ Nat)} (F : Efx E G out (some .int))  {σ : Mem} {p1 : Int32} (h : X6_stroke σ p1 = some out) : J E G 2 0 0 σ 0 [(0, .ref (gA G 81)), (1, .int p1)] [] := by
  unfold X6_stroke at h
  refine j_aload_n C dX6_stroke_0 rfl 0 rfl 1 rfl ?_
  refine j_get C foX6 sh81 0 (by decide) 2 rfl kw1_159 rfl dX6_stroke_1 (.ref (gA G 0)) (fv_r rfl) 4 rfl ?_
  refine j_get C foX5 sh0 0 (by decide) 3 rfl kw1_74 rfl dX6_stroke_4 (.ref (gA G 1)) (fv_r rfl) 7 rfl ?_
  refine j_iload_n C dX6_stroke_7 rfl 1 rfl 8 rfl ?_
  obtain ⟨q1, e2, h⟩ := ob_some h
  refine j_callV C (ct_X3_has (eL E) G row1 e2) sh1 foX3 rfl vk_X3_has kw2_193 rfl ⟨Nat.le_of_ble_eq_true rfl, Nat.le_of_ble_eq_true rfl, rfl, rfl⟩ ⟨Nat.zero_le _, Nat.zero_le _⟩ (rest := []) rfl (Nat.le_of_ble_eq_true rfl) dX6_stroke_8 (st1 := [.int q1.2]) rfl 11 rfl ?_
  refine j_if_ne C dX6_stroke_11 24 (by decide) 14 rfl (fun c => ?_) (fun c => ?_)
  · have h := it_f c h
    refine j_aload_n C dX6_stroke_24 rfl 0 rfl 25 rfl ?_
    refine j_get C foX6 sh81 0 (by decide) 2 rfl kw1_159 rfl dX6_stroke_25 (.ref (gA G 0)) (fv_r rfl) 28 rfl ?_
    refine j_get C foX5 sh0 0 (by decide) 3 rfl kw1_74 rfl dX6_stroke_28 (.ref (gA G 1)) (fv_r rfl) 31 rfl ?_
    refine j_iload_n C dX6_stroke_31 rfl 1 rfl 32 rfl ?_
    obtain ⟨q3, e4, h⟩ := ob_some h
    refine j_callV C (ct_X3_at (eL E) G row1 e4) sh1 foX3 rfl vk_X3_at kw2_161 rfl ⟨Nat.le_of_ble_eq_true rfl, Nat.le_of_ble_eq_true rfl, rfl, rfl⟩ ⟨Nat.zero_le _, Nat.zero_le _⟩ (rest := []) rfl (Nat.le_of_ble_eq_true rfl) dX6_stroke_32 (st1 := [.int q3.2]) rfl 35 rfl ?_
    exact j_iretX C F dX6_stroke_35 h
  · have h := it_t c h
    exact j_throw C F (x := 2) (by decide +kernel) kw2_194 kw1_13 str_216 ha_2_124 dX6_stroke_14 dX6_stroke_17 dX6_stroke_18 dX6_stroke_20 dX6_stroke_23 ⟨Nat.le_of_ble_eq_true rfl, Nat.le_of_ble_eq_true rfl⟩ h
set_option maxHeartbeats 4000000 in
set_option maxRecDepth 100000 in
theorem ct_X6_stroke (l : Launch) (G : Gw)  {σ : Mem} {p1 : Int32} {out : Mem × Int32} (h : X6_stroke σ p1 = some (out.1, .inl out.2)) : Ct l G yX6_stroke cX6_stroke 2 (some .int) { frames := 6, cells := 0, slots := 0, locals := 82 } [.ref (gA G 81), .int p1] σ out.1 (some (.int out.2)) :=
  Ct.of (by decide +kernel) (Nat.le_of_ble_eq_true rfl) (fun E hE C F => wk_X6_stroke C ⟨fun v hv => (by cases hv; exact F), fun x hx => (by cases hx)⟩ h)
theorem cx_X6_stroke (l : Launch) (hst : l.stackTraces = false) (G : Gw)  {σ σ2 : Mem} {p1 : Int32} {x : Nat} (h : X6_stroke σ p1 = some (σ2, .inr x)) : Cx1 l G yX6_stroke cX6_stroke 2 (some .int) { frames := 6, cells := 1, slots := 6, locals := 82 } [.ref (gA G 81), .int p1] σ σ2 x :=
    Cx1.of (by decide +kernel) (Nat.le_of_ble_eq_true rfl) hst ⟨by decide, by decide⟩ (fun E hE C F => wk_X6_stroke C ⟨fun v hv => (by cases hv), fun x hx => (by cases hx; exact F)⟩ h)

-- ===== StenoChords.itemNumber(II)I
theorem vk_X6_itemNumber : VK yX6_itemNumber cX6_itemNumber 3 (some .int) 2 := ⟨kw3_23, kw3_22, kwS_9, kw1_1, by decide +kernel⟩
def X6_itemNumber (σ : Mem) (p1 : Int32) (p2 : Int32) : Option (Mem × Int32) :=
  (if p2 = (0 : Int32) then ((X2_leaderAt 61 σ p1).bind fun q1 => ((X0_wordOf 3 q1.1 q1.2).bind fun q3 => some (q3.1, q3.2))) else (if p2 = (1 : Int32) then ((X2_placeAt 61 σ p1).bind fun q5 => some (q5.1, q5.2)) else (if p2 = (2 : Int32) then ((X2_lengthAt 61 σ p1).bind fun q7 => some (q7.1, q7.2)) else (if p2 = (3 : Int32) then ((X2_leaderAt 61 σ p1).bind fun q9 => some (q9.1, q9.2)) else ((X6_rowOfItem σ p1).bind fun q11 => ((X0_rivals 3 q11.1 q11.2).bind fun q13 => some (q13.1, q13.2)))))))
set_option maxHeartbeats 4000000 in
set_option maxRecDepth 100000 in
theorem ct_X6_itemNumber (l : Launch) (G : Gw)  {σ : Mem} {p1 : Int32} {p2 : Int32} {out : Mem × Int32} (h : X6_itemNumber σ p1 p2 = some out) : Ct l G yX6_itemNumber cX6_itemNumber 3 (some .int) { frames := 4, cells := 0, slots := 0, locals := 84 } [.ref (gA G 81), .int p1, .int p2] σ out.1 (some (.int out.2)) := by
  refine Ct.of (by decide +kernel) (Nat.le_of_ble_eq_true rfl) (fun E hE C F => ?_)
  subst hE
  have C : Cx E G RX6 cX6_itemNumber 3 { frames := 4, cells := 0, slots := 0, locals := 84 } := C
  unfold X6_itemNumber at h
  show J E G 3 0 0 σ 0 [(0, .ref (gA G 81)), (1, .int p1), (2, .int p2)] []
  refine j_iload_n C dX6_itemNumber_0 rfl 2 rfl 1 rfl ?_
  by_cases c0 : p2 = (0 : Int32)
  · have h := it_t c0 h
    refine j_tableIn C dX6_itemNumber_1 (by rw [c0]; decide) (by rw [c0]; decide) (off := 31) (by rw [c0]; rfl) 32 (by decide) ?_
    refine j_aload_n C dX6_itemNumber_32 rfl 0 rfl 33 rfl ?_
    refine j_get C foX6 sh81 0 (by decide) 2 rfl kw1_159 rfl dX6_itemNumber_33 (.ref (gA G 0)) (fv_r rfl) 36 rfl ?_
    refine j_get C foX5 sh0 1 (by decide) 5 rfl kw1_76 rfl dX6_itemNumber_36 (.ref (gA G 3)) (fv_r rfl) 39 rfl ?_
    refine j_aload_n C dX6_itemNumber_39 rfl 0 rfl 40 rfl ?_
    refine j_get C foX6 sh81 4 (by decide) 63 rfl kw1_163 rfl dX6_itemNumber_40 (.ref (gA G 61)) (fv_r rfl) 43 rfl ?_
    refine j_iload_n C dX6_itemNumber_43 rfl 1 rfl 44 rfl ?_
    obtain ⟨q1, e2, h⟩ := ob_some h
    refine j_callV C (ct_X2_leaderAt (eL E) G rdg61 e2) sh61 foX2 rfl vk_X2_leaderAt kw3_24 rfl ⟨Nat.le_of_ble_eq_true rfl, Nat.le_of_ble_eq_true rfl, rfl, rfl⟩ ⟨Nat.zero_le _, Nat.zero_le _⟩ (rest := [.ref (gA G 3)]) rfl (Nat.le_of_ble_eq_true rfl) dX6_itemNumber_44 (st1 := [.int q1.2, .ref (gA G 3)]) rfl 47 rfl ?_
    obtain ⟨q3, e4, h⟩ := ob_some h
    refine j_callV C (ct_X0_wordOf (eL E) G ent3 e4) sh3 foX0 rfl vk_X0_wordOf kw2_222 rfl ⟨Nat.le_of_ble_eq_true rfl, Nat.le_of_ble_eq_true rfl, rfl, rfl⟩ ⟨Nat.zero_le _, Nat.zero_le _⟩ (rest := []) rfl (Nat.le_of_ble_eq_true rfl) dX6_itemNumber_47 (st1 := [.int q3.2]) rfl 50 rfl ?_
    exact j_iret C F dX6_itemNumber_50 h
  have h := it_f c0 h
  by_cases c1 : p2 = (1 : Int32)
  · have h := it_t c1 h
    refine j_tableIn C dX6_itemNumber_1 (by rw [c1]; decide) (by rw [c1]; decide) (off := 50) (by rw [c1]; rfl) 51 (by decide) ?_
    refine j_aload_n C dX6_itemNumber_51 rfl 0 rfl 52 rfl ?_
    refine j_get C foX6 sh81 4 (by decide) 63 rfl kw1_163 rfl dX6_itemNumber_52 (.ref (gA G 61)) (fv_r rfl) 55 rfl ?_
    refine j_iload_n C dX6_itemNumber_55 rfl 1 rfl 56 rfl ?_
    obtain ⟨q5, e6, h⟩ := ob_some h
    refine j_callV C (ct_X2_placeAt (eL E) G rdg61 e6) sh61 foX2 rfl vk_X2_placeAt kw3_28 rfl ⟨Nat.le_of_ble_eq_true rfl, Nat.le_of_ble_eq_true rfl, rfl, rfl⟩ ⟨Nat.zero_le _, Nat.zero_le _⟩ (rest := []) rfl (Nat.le_of_ble_eq_true rfl) dX6_itemNumber_56 (st1 := [.int q5.2]) rfl 59 rfl ?_
    exact j_iret C F dX6_itemNumber_59 h
  have h := it_f c1 h
  by_cases c2 : p2 = (2 : Int32)
  · have h := it_t c2 h
    refine j_tableIn C dX6_itemNumber_1 (by rw [c2]; decide) (by rw [c2]; decide) (off := 59) (by rw [c2]; rfl) 60 (by decide) ?_
    refine j_aload_n C dX6_itemNumber_60 rfl 0 rfl 61 rfl ?_
    refine j_get C foX6 sh81 4 (by decide) 63 rfl kw1_163 rfl dX6_itemNumber_61 (.ref (gA G 61)) (fv_r rfl) 64 rfl ?_
    refine j_iload_n C dX6_itemNumber_64 rfl 1 rfl 65 rfl ?_
    obtain ⟨q7, e8, h⟩ := ob_some h
    refine j_callV C (ct_X2_lengthAt (eL E) G rdg61 e8) sh61 foX2 rfl vk_X2_lengthAt kw3_32 rfl ⟨Nat.le_of_ble_eq_true rfl, Nat.le_of_ble_eq_true rfl, rfl, rfl⟩ ⟨Nat.zero_le _, Nat.zero_le _⟩ (rest := []) rfl (Nat.le_of_ble_eq_true rfl) dX6_itemNumber_65 (st1 := [.int q7.2]) rfl 68 rfl ?_
    exact j_iret C F dX6_itemNumber_68 h
  have h := it_f c2 h
  by_cases c3 : p2 = (3 : Int32)
  · have h := it_t c3 h
    refine j_tableIn C dX6_itemNumber_1 (by rw [c3]; decide) (by rw [c3]; decide) (off := 68) (by rw [c3]; rfl) 69 (by decide) ?_
    refine j_aload_n C dX6_itemNumber_69 rfl 0 rfl 70 rfl ?_
    refine j_get C foX6 sh81 4 (by decide) 63 rfl kw1_163 rfl dX6_itemNumber_70 (.ref (gA G 61)) (fv_r rfl) 73 rfl ?_
    refine j_iload_n C dX6_itemNumber_73 rfl 1 rfl 74 rfl ?_
    obtain ⟨q9, e10, h⟩ := ob_some h
    refine j_callV C (ct_X2_leaderAt (eL E) G rdg61 e10) sh61 foX2 rfl vk_X2_leaderAt kw3_24 rfl ⟨Nat.le_of_ble_eq_true rfl, Nat.le_of_ble_eq_true rfl, rfl, rfl⟩ ⟨Nat.zero_le _, Nat.zero_le _⟩ (rest := []) rfl (Nat.le_of_ble_eq_true rfl) dX6_itemNumber_74 (st1 := [.int q9.2]) rfl 77 rfl ?_
    exact j_iret C F dX6_itemNumber_77 h
  have h := it_f c3 h
  refine j_tableOut C dX6_itemNumber_1 (by have n0 := tsw_ne (z := 0) (by decide) c0; have n1 := tsw_ne (z := 1) (by decide) c1; have n2 := tsw_ne (z := 2) (by decide) c2; have n3 := tsw_ne (z := 3) (by decide) c3; omega) 78 (by decide) ?_
  refine j_aload_n C dX6_itemNumber_78 rfl 0 rfl 79 rfl ?_
  refine j_get C foX6 sh81 0 (by decide) 2 rfl kw1_159 rfl dX6_itemNumber_79 (.ref (gA G 0)) (fv_r rfl) 82 rfl ?_
  refine j_get C foX5 sh0 1 (by decide) 5 rfl kw1_76 rfl dX6_itemNumber_82 (.ref (gA G 3)) (fv_r rfl) 85 rfl ?_
  refine j_aload_n C dX6_itemNumber_85 rfl 0 rfl 86 rfl ?_
  refine j_iload_n C dX6_itemNumber_86 rfl 1 rfl 87 rfl ?_
  obtain ⟨q11, e12, h⟩ := ob_some h
  refine j_callV C (ct_X6_rowOfItem (eL E) G  e12) sh81 foX6 rfl vk_X6_rowOfItem kw3_36 rfl ⟨Nat.le_of_ble_eq_true rfl, Nat.le_of_ble_eq_true rfl, rfl, rfl⟩ ⟨Nat.zero_le _, Nat.zero_le _⟩ (rest := [.ref (gA G 3)]) rfl (Nat.le_of_ble_eq_true rfl) dX6_itemNumber_87 (st1 := [.long q11.2, .ref (gA G 3)]) rfl 90 rfl ?_
  obtain ⟨q13, e14, h⟩ := ob_some h
  refine j_callV C (ct_X0_rivals (eL E) G ent3 e14) sh3 foX0 rfl vk_X0_rivals kw3_41 rfl ⟨Nat.le_of_ble_eq_true rfl, Nat.le_of_ble_eq_true rfl, rfl, rfl⟩ ⟨Nat.zero_le _, Nat.zero_le _⟩ (rest := []) rfl (Nat.le_of_ble_eq_true rfl) dX6_itemNumber_90 (st1 := [.int q13.2]) rfl 93 rfl ?_
  exact j_iret C F dX6_itemNumber_93 h

-- ===== StenoChords.item(II)I
theorem vk_X6_item : VK yX6_item cX6_item 3 (some .int) 2 := ⟨kw3_12, kw3_10, kw3_11, kw1_1, by decide +kernel⟩
def X6_item (σ : Mem) (p1 : Int32) (p2 : Int32) : Option (Mem × (Int32 ⊕ Nat)) :=
  ((X6_readPaper σ).bind fun q1 => ((X2_has 61 q1.1 p1).bind fun q3 => (if q3.2 = 0 then some (q3.1, Sum.inr 2) else (if p2 < 0 then some (q3.1, Sum.inr 0) else (if p2 < (5 : Int32) then ((X6_itemNumber q3.1 p1 p2).bind fun q5 => some (q5.1, Sum.inl q5.2)) else some (q3.1, Sum.inr 0))))))
set_option maxHeartbeats 4000000 in
set_option maxRecDepth 100000 in
theorem wk_X6_item {E : Ev} {G : Gw} {kc ks : Nat} (C : Cx E G RX6 cX6_item 3 { frames := 6, cells := kc, slots := ks, locals := 106 }) {out : Mem × (Int32 ⊕ Nat)} (F : Efx E G out (some .int))  {σ : Mem} {p1 : Int32} {p2 : Int32} (h : X6_item σ p1 p2 = some out) : J E G 3 0 0 σ 0 [(0, .ref (gA G 81)), (1, .int p1), (2, .int p2)] [] := by
  unfold X6_item at h
  refine j_aload_n C dX6_item_0 rfl 0 rfl 1 rfl ?_
  obtain ⟨q1, e2, h⟩ := ob_some h
  refine j_callV C (ct_X6_readPaper (eL E) G  e2) sh81 foX6 rfl vk_X6_readPaper kw2_110 rfl ⟨Nat.le_of_ble_eq_true rfl, Nat.le_of_ble_eq_true rfl, rfl, rfl⟩ ⟨Nat.zero_le _, Nat.zero_le _⟩ (rest := []) rfl (Nat.le_of_ble_eq_true rfl) dX6_item_1 (st1 := []) rfl 4 rfl ?_
  refine j_aload_n C dX6_item_4 rfl 0 rfl 5 rfl ?_
  refine j_get C foX6 sh81 4 (by decide) 63 rfl kw1_163 rfl dX6_item_5 (.ref (gA G 61)) (fv_r rfl) 8 rfl ?_
  refine j_iload_n C dX6_item_8 rfl 1 rfl 9 rfl ?_
  obtain ⟨q3, e4, h⟩ := ob_some h
  refine j_callV C (ct_X2_has (eL E) G rdg61 e4) sh61 foX2 rfl vk_X2_has kw3_13 rfl ⟨Nat.le_of_ble_eq_true rfl, Nat.le_of_ble_eq_true rfl, rfl, rfl⟩ ⟨Nat.zero_le _, Nat.zero_le _⟩ (rest := []) rfl (Nat.le_of_ble_eq_true rfl) dX6_item_9 (st1 := [.int q3.2]) rfl 12 rfl ?_
  refine j_if_ne C dX6_item_12 25 (by decide) 15 rfl (fun c => ?_) (fun c => ?_)
  · have h := it_f c h
    refine j_iload_n C dX6_item_25 rfl 2 rfl 26 rfl ?_
    refine j_if_lt C dX6_item_26 34 (by decide) 29 rfl (fun c => ?_) (fun c => ?_)
    · have h := it_t c h
      exact j_throw C F (x := 0) (by decide +kernel) kw2_94 kw1_12 str_220 ha_0_62 dX6_item_34 dX6_item_37 dX6_item_38 dX6_item_40 dX6_item_43 ⟨Nat.le_of_ble_eq_true rfl, Nat.le_of_ble_eq_true rfl⟩ h
    · have h := it_f c h
      refine j_iload_n C dX6_item_29 rfl 2 rfl 30 rfl ?_
      refine j_iconst C dX6_item_30 (5 : Int32) (by decide) 31 rfl ?_
      refine j_icmp_lt C dX6_item_31 44 (by decide) 34 rfl (fun c => ?_) (fun c => ?_)
      · have h := it_t c h
        refine j_aload_n C dX6_item_44 rfl 0 rfl 45 rfl ?_
        refine j_iload_n C dX6_item_45 rfl 1 rfl 46 rfl ?_
        refine j_iload_n C dX6_item_46 rfl 2 rfl 47 rfl ?_
        obtain ⟨q5, e6, h⟩ := ob_some h
        refine j_callV C (ct_X6_itemNumber (eL E) G  e6) sh81 foX6 rfl vk_X6_itemNumber kw3_20 rfl ⟨Nat.le_of_ble_eq_true rfl, Nat.le_of_ble_eq_true rfl, rfl, rfl⟩ ⟨Nat.zero_le _, Nat.zero_le _⟩ (rest := []) rfl (Nat.le_of_ble_eq_true rfl) dX6_item_47 (st1 := [.int q5.2]) rfl 50 rfl ?_
        exact j_iretX C F dX6_item_50 h
      · have h := it_f c h
        exact j_throw C F (x := 0) (by decide +kernel) kw2_94 kw1_12 str_220 ha_0_62 dX6_item_34 dX6_item_37 dX6_item_38 dX6_item_40 dX6_item_43 ⟨Nat.le_of_ble_eq_true rfl, Nat.le_of_ble_eq_true rfl⟩ h
  · have h := it_t c h
    exact j_throw C F (x := 2) (by decide +kernel) kw2_194 kw1_13 str_218 ha_2_124 dX6_item_15 dX6_item_18 dX6_item_19 dX6_item_21 dX6_item_24 ⟨Nat.le_of_ble_eq_true rfl, Nat.le_of_ble_eq_true rfl⟩ h
set_option maxHeartbeats 4000000 in
set_option maxRecDepth 100000 in
theorem ct_X6_item (l : Launch) (G : Gw)  {σ : Mem} {p1 : Int32} {p2 : Int32} {out : Mem × Int32} (h : X6_item σ p1 p2 = some (out.1, .inl out.2)) : Ct l G yX6_item cX6_item 3 (some .int) { frames := 6, cells := 0, slots := 0, locals := 106 } [.ref (gA G 81), .int p1, .int p2] σ out.1 (some (.int out.2)) :=
  Ct.of (by decide +kernel) (Nat.le_of_ble_eq_true rfl) (fun E hE C F => wk_X6_item C ⟨fun v hv => (by cases hv; exact F), fun x hx => (by cases hx)⟩ h)
theorem cx_X6_item (l : Launch) (hst : l.stackTraces = false) (G : Gw)  {σ σ2 : Mem} {p1 : Int32} {p2 : Int32} {x : Nat} (h : X6_item σ p1 p2 = some (σ2, .inr x)) : Cx1 l G yX6_item cX6_item 3 (some .int) { frames := 6, cells := 1, slots := 6, locals := 106 } [.ref (gA G 81), .int p1, .int p2] σ σ2 x :=
    Cx1.of (by decide +kernel) (Nat.le_of_ble_eq_true rfl) hst ⟨by decide, by decide⟩ (fun E hE C F => wk_X6_item C ⟨fun v hv => (by cases hv), fun x hx => (by cases hx; exact F)⟩ h)

-- ===== StenoChords.strokeOf(JI)I
theorem vk_X6_strokeOf : SK yX6_strokeOf cX6_strokeOf 3 (some .int) 2 := ⟨kw2_228, kw2_227, kw1_1, by decide +kernel⟩
def X6_strokeOf (σ : Mem) (p0 : Int64) (p2 : Int32) : Option (Mem × Int32) :=
  some (σ, ((p0 >>> (((10 : Int32) * p2).toInt64 &&& 63)).toInt32 &&& (1023 : Int32)))
set_option maxHeartbeats 4000000 in
set_option maxRecDepth 100000 in
theorem ct_X6_strokeOf (l : Launch) (G : Gw)  {σ : Mem} {p0 : Int64} {p2 : Int32} {out : Mem × Int32} (h : X6_strokeOf σ p0 p2 = some out) : Ct l G yX6_strokeOf cX6_strokeOf 3 (some .int) { frames := 0, cells := 0, slots := 0, locals := 0 } [.long p0, .int p2] σ out.1 (some (.int out.2)) := by
  refine Ct.of (by decide +kernel) (Nat.le_of_ble_eq_true rfl) (fun E hE C F => ?_)
  subst hE
  have C : Cx E G RX6 cX6_strokeOf 3 { frames := 0, cells := 0, slots := 0, locals := 0 } := C
  unfold X6_strokeOf at h
  show J E G 3 0 0 σ 0 [(0, .long p0), (2, .int p2)] []
  refine j_lload_n C dX6_strokeOf_0 rfl 0 rfl 1 rfl ?_
  refine j_bipush C dX6_strokeOf_1 (10 : Int32) (by decide) 3 rfl ?_
  refine j_iload_n C dX6_strokeOf_3 rfl 1 rfl 4 rfl ?_
  refine j_imul C dX6_strokeOf_4 5 rfl ?_
  refine j_lshr C dX6_strokeOf_5 6 rfl ?_
  refine j_l2i C dX6_strokeOf_6 7 rfl ?_
  refine j_sipush C dX6_strokeOf_7 (1023 : Int32) (by decide) 10 rfl ?_
  refine j_iand C dX6_strokeOf_10 11 rfl ?_
  exact j_iret C F dX6_strokeOf_11 h

-- ===== StenoChords.strokesOf(J)I
theorem vk_X6_strokesOf : SK yX6_strokesOf cX6_strokesOf 4 (some .int) 1 := ⟨kw2_225, kw2_224, kw1_1, by decide +kernel⟩
def X6_strokesOf_4 (K : Mem → Int32 → Option (Mem × Int32)) : Nat → Mem → Int64 → Int32 → Int32 → Option (Mem × Int32)
  | 0, _, _, _, _ => none
  | fu + 1, σ, v0, v2, v3 => (if (4 : Int32) ≤ v3 then K σ v2 else ((X6_strokeOf σ v0 v3).bind fun q1 => (if q1.2 = 0 then X6_strokesOf_4 K fu q1.1 v0 v2 (v3 + (1 : Int32)) else X6_strokesOf_4 K fu q1.1 v0 (v2 + (1 : Int32)) (v3 + (1 : Int32)))))
set_option maxHeartbeats 4000000 in
set_option maxRecDepth 100000 in
theorem w_X6_strokesOf_4 {E : Ev} {G : Gw} (C : Cx E G RX6 cX6_strokesOf 4 { frames := 1, cells := 0, slots := 0, locals := 22 }) {out : Mem × Int32} (F : Ef E G out.1 (some (.int out.2)) (some .int) 0 0)  {K : Mem → Int32 → Option (Mem × Int32)} (hK : ∀ (σ : Mem) (v2 : Int32), K σ v2 = some out → J E G 4 0 0 σ 26 [(2, .int v2)] []) : ∀ (fu : Nat) (σ : Mem) (v0 : Int64) (v2 : Int32) (v3 : Int32), X6_strokesOf_4 K fu σ v0 v2 v3 = some out → J E G 4 0 0 σ 4 [(0, .long v0), (2, .int v2), (3, .int v3)] [] := by
  intro fu
  induction fu with
  | zero => intro σ v0 v2 v3 h; rw [X6_strokesOf_4] at h; cases h
  | succ fu ih =>
    intro σ v0 v2 v3 h
    rw [X6_strokesOf_4] at h
    refine j_iload_n C dX6_strokesOf_4 rfl 2 rfl 5 rfl ?_
    refine j_iconst C dX6_strokesOf_5 (4 : Int32) (by decide) 6 rfl ?_
    refine j_icmp_ge C dX6_strokesOf_6 26 (by decide) 9 rfl (fun c => ?_) (fun c => ?_)
    · have h := it_t c h
      refine j_sub [(2, .int v2)] [1] rfl ?_
      exact hK _ _ h
    · have h := it_f c h
      refine j_lload_n C dX6_strokesOf_9 rfl 0 rfl 10 rfl ?_
      refine j_iload_n C dX6_strokesOf_10 rfl 2 rfl 11 rfl ?_
      obtain ⟨q1, e2, h⟩ := ob_some h
      refine j_callS C (ct_X6_strokeOf (eL E) G  e2) vk_X6_strokeOf kw2_226 rfl ⟨Nat.le_of_ble_eq_true rfl, Nat.le_of_ble_eq_true rfl, rfl, rfl⟩ ⟨Nat.zero_le _, Nat.zero_le _⟩ (rest := []) rfl (Nat.le_of_ble_eq_true rfl) dX6_strokesOf_11 (st1 := [.int q1.2]) rfl 14 rfl ?_
      refine j_if_eq C dX6_strokesOf_14 20 (by decide) 17 rfl (fun c => ?_) (fun c => ?_)
      · have h := it_t c h
        refine j_iinc C dX6_strokesOf_20 2 rfl (v3 + (1 : Int32)) rfl (by decide) [(3, .int (v3 + (1 : Int32))), (0, .long v0), (2, .int v2)] rfl 23 rfl ?_
        refine j_goto C dX6_strokesOf_23 4 (by decide) ?_
        refine j_sub [(0, .long v0), (2, .int v2), (3, .int (v3 + (1 : Int32)))] [1, 2, 0] rfl ?_
        exact ih _ _ _ _ h
      · have h := it_f c h
        refine j_iinc C dX6_strokesOf_17 1 rfl (v2 + (1 : Int32)) rfl (by decide) [(2, .int (v2 + (1 : Int32))), (0, .long v0), (3, .int v3)] rfl 20 rfl ?_
        refine j_iinc C dX6_strokesOf_20 2 rfl (v3 + (1 : Int32)) rfl (by decide) [(3, .int (v3 + (1 : Int32))), (2, .int (v2 + (1 : Int32))), (0, .long v0)] rfl 23 rfl ?_
        refine j_goto C dX6_strokesOf_23 4 (by decide) ?_
        refine j_sub [(0, .long v0), (2, .int (v2 + (1 : Int32))), (3, .int (v3 + (1 : Int32)))] [2, 1, 0] rfl ?_
        exact ih _ _ _ _ h
def X6_strokesOf (σ : Mem) (p0 : Int64) : Option (Mem × Int32) :=
  X6_strokesOf_4 (fun (σ : Mem) (v2 : Int32) => some (σ, v2)) FU σ p0 (0 : Int32) (0 : Int32)
set_option maxHeartbeats 4000000 in
set_option maxRecDepth 100000 in
theorem ct_X6_strokesOf (l : Launch) (G : Gw)  {σ : Mem} {p0 : Int64} {out : Mem × Int32} (h : X6_strokesOf σ p0 = some out) : Ct l G yX6_strokesOf cX6_strokesOf 4 (some .int) { frames := 1, cells := 0, slots := 0, locals := 22 } [.long p0] σ out.1 (some (.int out.2)) := by
  refine Ct.of (by decide +kernel) (Nat.le_of_ble_eq_true rfl) (fun E hE C F => ?_)
  subst hE
  have C : Cx E G RX6 cX6_strokesOf 4 { frames := 1, cells := 0, slots := 0, locals := 22 } := C
  unfold X6_strokesOf at h
  show J E G 4 0 0 σ 0 [(0, .long p0)] []
  refine j_iconst C dX6_strokesOf_0 (0 : Int32) (by decide) 1 rfl ?_
  refine j_istore_n C dX6_strokesOf_1 rfl (by decide) [(2, .int (0 : Int32)), (0, .long p0)] rfl 2 rfl ?_
  refine j_iconst C dX6_strokesOf_2 (0 : Int32) (by decide) 3 rfl ?_
  refine j_istore_n C dX6_strokesOf_3 rfl (by decide) [(3, .int (0 : Int32)), (2, .int (0 : Int32)), (0, .long p0)] rfl 4 rfl ?_
  refine j_sub [(0, .long p0), (2, .int (0 : Int32)), (3, .int (0 : Int32))] [2, 1, 0] rfl ?_
  refine w_X6_strokesOf_4 C F  (fun σ v2 h => ?_) FU _ _ _ _ h
  refine j_iload_n C dX6_strokesOf_26 rfl 0 rfl 27 rfl ?_
  exact j_iret C F dX6_strokesOf_27 h

-- ===== java/lang/Long.bitCount(J)I
theorem vk_J13_bitCount_95d88 : SK yJ13_bitCount_95d88 cJ13_bitCount_95d88 2 (some .int) 1 := ⟨kw2_233, kw2_232, kw1_14, by decide +kernel⟩
def J13_bitCount_95d88 (σ : Mem) (p0 : Int64) : Option (Mem × Int32) :=
  some (σ, (((((((((p0 - (((p0.toUInt64 >>> ((1 : Int32).toInt64.toUInt64 &&& Int64.toUInt64 63)).toInt64) &&& (6148914691236517205 : Int64))) &&& (3689348814741910323 : Int64)) + ((((p0 - (((p0.toUInt64 >>> ((1 : Int32).toInt64.toUInt64 &&& Int64.toUInt64 63)).toInt64) &&& (6148914691236517205 : Int64))).toUInt64 >>> ((2 : Int32).toInt64.toUInt64 &&& Int64.toUInt64 63)).toInt64) &&& (3689348814741910323 : Int64))) + (((((p0 - (((p0.toUInt64 >>> ((1 : Int32).toInt64.toUInt64 &&& Int64.toUInt64 63)).toInt64) &&& (6148914691236517205 : Int64))) &&& (3689348814741910323 : Int64)) + ((((p0 - (((p0.toUInt64 >>> ((1 : Int32).toInt64.toUInt64 &&& Int64.toUInt64 63)).toInt64) &&& (6148914691236517205 : Int64))).toUInt64 >>> ((2 : Int32).toInt64.toUInt64 &&& Int64.toUInt64 63)).toInt64) &&& (3689348814741910323 : Int64))).toUInt64 >>> ((4 : Int32).toInt64.toUInt64 &&& Int64.toUInt64 63)).toInt64)) &&& (1085102592571150095 : Int64)) + (((((((p0 - (((p0.toUInt64 >>> ((1 : Int32).toInt64.toUInt64 &&& Int64.toUInt64 63)).toInt64) &&& (6148914691236517205 : Int64))) &&& (3689348814741910323 : Int64)) + ((((p0 - (((p0.toUInt64 >>> ((1 : Int32).toInt64.toUInt64 &&& Int64.toUInt64 63)).toInt64) &&& (6148914691236517205 : Int64))).toUInt64 >>> ((2 : Int32).toInt64.toUInt64 &&& Int64.toUInt64 63)).toInt64) &&& (3689348814741910323 : Int64))) + (((((p0 - (((p0.toUInt64 >>> ((1 : Int32).toInt64.toUInt64 &&& Int64.toUInt64 63)).toInt64) &&& (6148914691236517205 : Int64))) &&& (3689348814741910323 : Int64)) + ((((p0 - (((p0.toUInt64 >>> ((1 : Int32).toInt64.toUInt64 &&& Int64.toUInt64 63)).toInt64) &&& (6148914691236517205 : Int64))).toUInt64 >>> ((2 : Int32).toInt64.toUInt64 &&& Int64.toUInt64 63)).toInt64) &&& (3689348814741910323 : Int64))).toUInt64 >>> ((4 : Int32).toInt64.toUInt64 &&& Int64.toUInt64 63)).toInt64)) &&& (1085102592571150095 : Int64)).toUInt64 >>> ((8 : Int32).toInt64.toUInt64 &&& Int64.toUInt64 63)).toInt64)) + ((((((((p0 - (((p0.toUInt64 >>> ((1 : Int32).toInt64.toUInt64 &&& Int64.toUInt64 63)).toInt64) &&& (6148914691236517205 : Int64))) &&& (3689348814741910323 : Int64)) + ((((p0 - (((p0.toUInt64 >>> ((1 : Int32).toInt64.toUInt64 &&& Int64.toUInt64 63)).toInt64) &&& (6148914691236517205 : Int64))).toUInt64 >>> ((2 : Int32).toInt64.toUInt64 &&& Int64.toUInt64 63)).toInt64) &&& (3689348814741910323 : Int64))) + (((((p0 - (((p0.toUInt64 >>> ((1 : Int32).toInt64.toUInt64 &&& Int64.toUInt64 63)).toInt64) &&& (6148914691236517205 : Int64))) &&& (3689348814741910323 : Int64)) + ((((p0 - (((p0.toUInt64 >>> ((1 : Int32).toInt64.toUInt64 &&& Int64.toUInt64 63)).toInt64) &&& (6148914691236517205 : Int64))).toUInt64 >>> ((2 : Int32).toInt64.toUInt64 &&& Int64.toUInt64 63)).toInt64) &&& (3689348814741910323 : Int64))).toUInt64 >>> ((4 : Int32).toInt64.toUInt64 &&& Int64.toUInt64 63)).toInt64)) &&& (1085102592571150095 : Int64)) + (((((((p0 - (((p0.toUInt64 >>> ((1 : Int32).toInt64.toUInt64 &&& Int64.toUInt64 63)).toInt64) &&& (6148914691236517205 : Int64))) &&& (3689348814741910323 : Int64)) + ((((p0 - (((p0.toUInt64 >>> ((1 : Int32).toInt64.toUInt64 &&& Int64.toUInt64 63)).toInt64) &&& (6148914691236517205 : Int64))).toUInt64 >>> ((2 : Int32).toInt64.toUInt64 &&& Int64.toUInt64 63)).toInt64) &&& (3689348814741910323 : Int64))) + (((((p0 - (((p0.toUInt64 >>> ((1 : Int32).toInt64.toUInt64 &&& Int64.toUInt64 63)).toInt64) &&& (6148914691236517205 : Int64))) &&& (3689348814741910323 : Int64)) + ((((p0 - (((p0.toUInt64 >>> ((1 : Int32).toInt64.toUInt64 &&& Int64.toUInt64 63)).toInt64) &&& (6148914691236517205 : Int64))).toUInt64 >>> ((2 : Int32).toInt64.toUInt64 &&& Int64.toUInt64 63)).toInt64) &&& (3689348814741910323 : Int64))).toUInt64 >>> ((4 : Int32).toInt64.toUInt64 &&& Int64.toUInt64 63)).toInt64)) &&& (1085102592571150095 : Int64)).toUInt64 >>> ((8 : Int32).toInt64.toUInt64 &&& Int64.toUInt64 63)).toInt64)).toUInt64 >>> ((16 : Int32).toInt64.toUInt64 &&& Int64.toUInt64 63)).toInt64)) + (((((((((p0 - (((p0.toUInt64 >>> ((1 : Int32).toInt64.toUInt64 &&& Int64.toUInt64 63)).toInt64) &&& (6148914691236517205 : Int64))) &&& (3689348814741910323 : Int64)) + ((((p0 - (((p0.toUInt64 >>> ((1 : Int32).toInt64.toUInt64 &&& Int64.toUInt64 63)).toInt64) &&& (6148914691236517205 : Int64))).toUInt64 >>> ((2 : Int32).toInt64.toUInt64 &&& Int64.toUInt64 63)).toInt64) &&& (3689348814741910323 : Int64))) + (((((p0 - (((p0.toUInt64 >>> ((1 : Int32).toInt64.toUInt64 &&& Int64.toUInt64 63)).toInt64) &&& (6148914691236517205 : Int64))) &&& (3689348814741910323 : Int64)) + ((((p0 - (((p0.toUInt64 >>> ((1 : Int32).toInt64.toUInt64 &&& Int64.toUInt64 63)).toInt64) &&& (6148914691236517205 : Int64))).toUInt64 >>> ((2 : Int32).toInt64.toUInt64 &&& Int64.toUInt64 63)).toInt64) &&& (3689348814741910323 : Int64))).toUInt64 >>> ((4 : Int32).toInt64.toUInt64 &&& Int64.toUInt64 63)).toInt64)) &&& (1085102592571150095 : Int64)) + (((((((p0 - (((p0.toUInt64 >>> ((1 : Int32).toInt64.toUInt64 &&& Int64.toUInt64 63)).toInt64) &&& (6148914691236517205 : Int64))) &&& (3689348814741910323 : Int64)) + ((((p0 - (((p0.toUInt64 >>> ((1 : Int32).toInt64.toUInt64 &&& Int64.toUInt64 63)).toInt64) &&& (6148914691236517205 : Int64))).toUInt64 >>> ((2 : Int32).toInt64.toUInt64 &&& Int64.toUInt64 63)).toInt64) &&& (3689348814741910323 : Int64))) + (((((p0 - (((p0.toUInt64 >>> ((1 : Int32).toInt64.toUInt64 &&& Int64.toUInt64 63)).toInt64) &&& (6148914691236517205 : Int64))) &&& (3689348814741910323 : Int64)) + ((((p0 - (((p0.toUInt64 >>> ((1 : Int32).toInt64.toUInt64 &&& Int64.toUInt64 63)).toInt64) &&& (6148914691236517205 : Int64))).toUInt64 >>> ((2 : Int32).toInt64.toUInt64 &&& Int64.toUInt64 63)).toInt64) &&& (3689348814741910323 : Int64))).toUInt64 >>> ((4 : Int32).toInt64.toUInt64 &&& Int64.toUInt64 63)).toInt64)) &&& (1085102592571150095 : Int64)).toUInt64 >>> ((8 : Int32).toInt64.toUInt64 &&& Int64.toUInt64 63)).toInt64)) + ((((((((p0 - (((p0.toUInt64 >>> ((1 : Int32).toInt64.toUInt64 &&& Int64.toUInt64 63)).toInt64) &&& (6148914691236517205 : Int64))) &&& (3689348814741910323 : Int64)) + ((((p0 - (((p0.toUInt64 >>> ((1 : Int32).toInt64.toUInt64 &&& Int64.toUInt64 63)).toInt64) &&& (6148914691236517205 : Int64))).toUInt64 >>> ((2 : Int32).toInt64.toUInt64 &&& Int64.toUInt64 63)).toInt64) &&& (3689348814741910323 : Int64))) + (((((p0 - (((p0.toUInt64 >>> ((1 : Int32).toInt64.toUInt64 &&& Int64.toUInt64 63)).toInt64) &&& (6148914691236517205 : Int64))) &&& (3689348814741910323 : Int64)) + ((((p0 - (((p0.toUInt64 >>> ((1 : Int32).toInt64.toUInt64 &&& Int64.toUInt64 63)).toInt64) &&& (6148914691236517205 : Int64))).toUInt64 >>> ((2 : Int32).toInt64.toUInt64 &&& Int64.toUInt64 63)).toInt64) &&& (3689348814741910323 : Int64))).toUInt64 >>> ((4 : Int32).toInt64.toUInt64 &&& Int64.toUInt64 63)).toInt64)) &&& (1085102592571150095 : Int64)) + (((((((p0 - (((p0.toUInt64 >>> ((1 : Int32).toInt64.toUInt64 &&& Int64.toUInt64 63)).toInt64) &&& (6148914691236517205 : Int64))) &&& (3689348814741910323 : Int64)) + ((((p0 - (((p0.toUInt64 >>> ((1 : Int32).toInt64.toUInt64 &&& Int64.toUInt64 63)).toInt64) &&& (6148914691236517205 : Int64))).toUInt64 >>> ((2 : Int32).toInt64.toUInt64 &&& Int64.toUInt64 63)).toInt64) &&& (3689348814741910323 : Int64))) + (((((p0 - (((p0.toUInt64 >>> ((1 : Int32).toInt64.toUInt64 &&& Int64.toUInt64 63)).toInt64) &&& (6148914691236517205 : Int64))) &&& (3689348814741910323 : Int64)) + ((((p0 - (((p0.toUInt64 >>> ((1 : Int32).toInt64.toUInt64 &&& Int64.toUInt64 63)).toInt64) &&& (6148914691236517205 : Int64))).toUInt64 >>> ((2 : Int32).toInt64.toUInt64 &&& Int64.toUInt64 63)).toInt64) &&& (3689348814741910323 : Int64))).toUInt64 >>> ((4 : Int32).toInt64.toUInt64 &&& Int64.toUInt64 63)).toInt64)) &&& (1085102592571150095 : Int64)).toUInt64 >>> ((8 : Int32).toInt64.toUInt64 &&& Int64.toUInt64 63)).toInt64)).toUInt64 >>> ((16 : Int32).toInt64.toUInt64 &&& Int64.toUInt64 63)).toInt64)).toUInt64 >>> ((32 : Int32).toInt64.toUInt64 &&& Int64.toUInt64 63)).toInt64)).toInt32 &&& (127 : Int32)))
set_option maxHeartbeats 4000000 in
set_option maxRecDepth 100000 in
theorem ct_J13_bitCount_95d88 (l : Launch) (G : Gw)  {σ : Mem} {p0 : Int64} {out : Mem × Int32} (h : J13_bitCount_95d88 σ p0 = some out) : Ct l G yJ13_bitCount_95d88 cJ13_bitCount_95d88 2 (some .int) { frames := 0, cells := 0, slots := 0, locals := 0 } [.long p0] σ out.1 (some (.int out.2)) := by
  refine Ct.of (by decide +kernel) (Nat.le_of_ble_eq_true rfl) (fun E hE C F => ?_)
  subst hE
  have C : Cx E G RJ13 cJ13_bitCount_95d88 2 { frames := 0, cells := 0, slots := 0, locals := 0 } := C
  unfold J13_bitCount_95d88 at h
  show J E G 2 0 0 σ 0 [(0, .long p0)] []
  refine j_lload_n C dJ13_bitCount_95d88_0 rfl 0 rfl 1 rfl ?_
  refine j_lload_n C dJ13_bitCount_95d88_1 rfl 0 rfl 2 rfl ?_
  refine j_iconst C dJ13_bitCount_95d88_2 (1 : Int32) (by decide) 3 rfl ?_
  refine j_lushr C dJ13_bitCount_95d88_3 4 rfl ?_
  refine j_ldc2 C dJ13_bitCount_95d88_4 kw2_234 7 rfl ?_
  refine j_land C dJ13_bitCount_95d88_7 8 rfl ?_
  refine j_lsub C dJ13_bitCount_95d88_8 9 rfl ?_
  refine j_lstore_n C dJ13_bitCount_95d88_9 rfl (by decide) [(0, .long (p0 - (((p0.toUInt64 >>> ((1 : Int32).toInt64.toUInt64 &&& Int64.toUInt64 63)).toInt64) &&& (6148914691236517205 : Int64))))] rfl 10 rfl ?_
  refine j_lload_n C dJ13_bitCount_95d88_10 rfl 0 rfl 11 rfl ?_
  refine j_ldc2 C dJ13_bitCount_95d88_11 kw2_235 14 rfl ?_
  refine j_land C dJ13_bitCount_95d88_14 15 rfl ?_
  refine j_lload_n C dJ13_bitCount_95d88_15 rfl 0 rfl 16 rfl ?_
  refine j_iconst C dJ13_bitCount_95d88_16 (2 : Int32) (by decide) 17 rfl ?_
  refine j_lushr C dJ13_bitCount_95d88_17 18 rfl ?_
  refine j_ldc2 C dJ13_bitCount_95d88_18 kw2_235 21 rfl ?_
  refine j_land C dJ13_bitCount_95d88_21 22 rfl ?_
  refine j_ladd C dJ13_bitCount_95d88_22 23 rfl ?_
  refine j_lstore_n C dJ13_bitCount_95d88_23 rfl (by decide) [(0, .long (((p0 - (((p0.toUInt64 >>> ((1 : Int32).toInt64.toUInt64 &&& Int64.toUInt64 63)).toInt64) &&& (6148914691236517205 : Int64))) &&& (3689348814741910323 : Int64)) + ((((p0 - (((p0.toUInt64 >>> ((1 : Int32).toInt64.toUInt64 &&& Int64.toUInt64 63)).toInt64) &&& (6148914691236517205 : Int64))).toUInt64 >>> ((2 : Int32).toInt64.toUInt64 &&& Int64.toUInt64 63)).toInt64) &&& (3689348814741910323 : Int64))))] rfl 24 rfl ?_
  refine j_lload_n C dJ13_bitCount_95d88_24 rfl 0 rfl 25 rfl ?_
  refine j_lload_n C dJ13_bitCount_95d88_25 rfl 0 rfl 26 rfl ?_
  refine j_iconst C dJ13_bitCount_95d88_26 (4 : Int32) (by decide) 27 rfl ?_
  refine j_lushr C dJ13_bitCount_95d88_27 28 rfl ?_
  refine j_ladd C dJ13_bitCount_95d88_28 29 rfl ?_
  refine j_ldc2 C dJ13_bitCount_95d88_29 kw2_236 32 rfl ?_
  refine j_land C dJ13_bitCount_95d88_32 33 rfl ?_
  refine j_lstore_n C dJ13_bitCount_95d88_33 rfl (by decide) [(0, .long (((((p0 - (((p0.toUInt64 >>> ((1 : Int32).toInt64.toUInt64 &&& Int64.toUInt64 63)).toInt64) &&& (6148914691236517205 : Int64))) &&& (3689348814741910323 : Int64)) + ((((p0 - (((p0.toUInt64 >>> ((1 : Int32).toInt64.toUInt64 &&& Int64.toUInt64 63)).toInt64) &&& (6148914691236517205 : Int64))).toUInt64 >>> ((2 : Int32).toInt64.toUInt64 &&& Int64.toUInt64 63)).toInt64) &&& (3689348814741910323 : Int64))) + (((((p0 - (((p0.toUInt64 >>> ((1 : Int32).toInt64.toUInt64 &&& Int64.toUInt64 63)).toInt64) &&& (6148914691236517205 : Int64))) &&& (3689348814741910323 : Int64)) + ((((p0 - (((p0.toUInt64 >>> ((1 : Int32).toInt64.toUInt64 &&& Int64.toUInt64 63)).toInt64) &&& (6148914691236517205 : Int64))).toUInt64 >>> ((2 : Int32).toInt64.toUInt64 &&& Int64.toUInt64 63)).toInt64) &&& (3689348814741910323 : Int64))).toUInt64 >>> ((4 : Int32).toInt64.toUInt64 &&& Int64.toUInt64 63)).toInt64)) &&& (1085102592571150095 : Int64)))] rfl 34 rfl ?_
  refine j_lload_n C dJ13_bitCount_95d88_34 rfl 0 rfl 35 rfl ?_
  refine j_lload_n C dJ13_bitCount_95d88_35 rfl 0 rfl 36 rfl ?_
  refine j_bipush C dJ13_bitCount_95d88_36 (8 : Int32) (by decide) 38 rfl ?_
  refine j_lushr C dJ13_bitCount_95d88_38 39 rfl ?_
  refine j_ladd C dJ13_bitCount_95d88_39 40 rfl ?_
  refine j_lstore_n C dJ13_bitCount_95d88_40 rfl (by decide) [(0, .long ((((((p0 - (((p0.toUInt64 >>> ((1 : Int32).toInt64.toUInt64 &&& Int64.toUInt64 63)).toInt64) &&& (6148914691236517205 : Int64))) &&& (3689348814741910323 : Int64)) + ((((p0 - (((p0.toUInt64 >>> ((1 : Int32).toInt64.toUInt64 &&& Int64.toUInt64 63)).toInt64) &&& (6148914691236517205 : Int64))).toUInt64 >>> ((2 : Int32).toInt64.toUInt64 &&& Int64.toUInt64 63)).toInt64) &&& (3689348814741910323 : Int64))) + (((((p0 - (((p0.toUInt64 >>> ((1 : Int32).toInt64.toUInt64 &&& Int64.toUInt64 63)).toInt64) &&& (6148914691236517205 : Int64))) &&& (3689348814741910323 : Int64)) + ((((p0 - (((p0.toUInt64 >>> ((1 : Int32).toInt64.toUInt64 &&& Int64.toUInt64 63)).toInt64) &&& (6148914691236517205 : Int64))).toUInt64 >>> ((2 : Int32).toInt64.toUInt64 &&& Int64.toUInt64 63)).toInt64) &&& (3689348814741910323 : Int64))).toUInt64 >>> ((4 : Int32).toInt64.toUInt64 &&& Int64.toUInt64 63)).toInt64)) &&& (1085102592571150095 : Int64)) + (((((((p0 - (((p0.toUInt64 >>> ((1 : Int32).toInt64.toUInt64 &&& Int64.toUInt64 63)).toInt64) &&& (6148914691236517205 : Int64))) &&& (3689348814741910323 : Int64)) + ((((p0 - (((p0.toUInt64 >>> ((1 : Int32).toInt64.toUInt64 &&& Int64.toUInt64 63)).toInt64) &&& (6148914691236517205 : Int64))).toUInt64 >>> ((2 : Int32).toInt64.toUInt64 &&& Int64.toUInt64 63)).toInt64) &&& (3689348814741910323 : Int64))) + (((((p0 - (((p0.toUInt64 >>> ((1 : Int32).toInt64.toUInt64 &&& Int64.toUInt64 63)).toInt64) &&& (6148914691236517205 : Int64))) &&& (3689348814741910323 : Int64)) + ((((p0 - (((p0.toUInt64 >>> ((1 : Int32).toInt64.toUInt64 &&& Int64.toUInt64 63)).toInt64) &&& (6148914691236517205 : Int64))).toUInt64 >>> ((2 : Int32).toInt64.toUInt64 &&& Int64.toUInt64 63)).toInt64) &&& (3689348814741910323 : Int64))).toUInt64 >>> ((4 : Int32).toInt64.toUInt64 &&& Int64.toUInt64 63)).toInt64)) &&& (1085102592571150095 : Int64)).toUInt64 >>> ((8 : Int32).toInt64.toUInt64 &&& Int64.toUInt64 63)).toInt64)))] rfl 41 rfl ?_
  refine j_lload_n C dJ13_bitCount_95d88_41 rfl 0 rfl 42 rfl ?_
  refine j_lload_n C dJ13_bitCount_95d88_42 rfl 0 rfl 43 rfl ?_
  refine j_bipush C dJ13_bitCount_95d88_43 (16 : Int32) (by decide) 45 rfl ?_
  refine j_lushr C dJ13_bitCount_95d88_45 46 rfl ?_
  refine j_ladd C dJ13_bitCount_95d88_46 47 rfl ?_
  refine j_lstore_n C dJ13_bitCount_95d88_47 rfl (by decide) [(0, .long (((((((p0 - (((p0.toUInt64 >>> ((1 : Int32).toInt64.toUInt64 &&& Int64.toUInt64 63)).toInt64) &&& (6148914691236517205 : Int64))) &&& (3689348814741910323 : Int64)) + ((((p0 - (((p0.toUInt64 >>> ((1 : Int32).toInt64.toUInt64 &&& Int64.toUInt64 63)).toInt64) &&& (6148914691236517205 : Int64))).toUInt64 >>> ((2 : Int32).toInt64.toUInt64 &&& Int64.toUInt64 63)).toInt64) &&& (3689348814741910323 : Int64))) + (((((p0 - (((p0.toUInt64 >>> ((1 : Int32).toInt64.toUInt64 &&& Int64.toUInt64 63)).toInt64) &&& (6148914691236517205 : Int64))) &&& (3689348814741910323 : Int64)) + ((((p0 - (((p0.toUInt64 >>> ((1 : Int32).toInt64.toUInt64 &&& Int64.toUInt64 63)).toInt64) &&& (6148914691236517205 : Int64))).toUInt64 >>> ((2 : Int32).toInt64.toUInt64 &&& Int64.toUInt64 63)).toInt64) &&& (3689348814741910323 : Int64))).toUInt64 >>> ((4 : Int32).toInt64.toUInt64 &&& Int64.toUInt64 63)).toInt64)) &&& (1085102592571150095 : Int64)) + (((((((p0 - (((p0.toUInt64 >>> ((1 : Int32).toInt64.toUInt64 &&& Int64.toUInt64 63)).toInt64) &&& (6148914691236517205 : Int64))) &&& (3689348814741910323 : Int64)) + ((((p0 - (((p0.toUInt64 >>> ((1 : Int32).toInt64.toUInt64 &&& Int64.toUInt64 63)).toInt64) &&& (6148914691236517205 : Int64))).toUInt64 >>> ((2 : Int32).toInt64.toUInt64 &&& Int64.toUInt64 63)).toInt64) &&& (3689348814741910323 : Int64))) + (((((p0 - (((p0.toUInt64 >>> ((1 : Int32).toInt64.toUInt64 &&& Int64.toUInt64 63)).toInt64) &&& (6148914691236517205 : Int64))) &&& (3689348814741910323 : Int64)) + ((((p0 - (((p0.toUInt64 >>> ((1 : Int32).toInt64.toUInt64 &&& Int64.toUInt64 63)).toInt64) &&& (6148914691236517205 : Int64))).toUInt64 >>> ((2 : Int32).toInt64.toUInt64 &&& Int64.toUInt64 63)).toInt64) &&& (3689348814741910323 : Int64))).toUInt64 >>> ((4 : Int32).toInt64.toUInt64 &&& Int64.toUInt64 63)).toInt64)) &&& (1085102592571150095 : Int64)).toUInt64 >>> ((8 : Int32).toInt64.toUInt64 &&& Int64.toUInt64 63)).toInt64)) + ((((((((p0 - (((p0.toUInt64 >>> ((1 : Int32).toInt64.toUInt64 &&& Int64.toUInt64 63)).toInt64) &&& (6148914691236517205 : Int64))) &&& (3689348814741910323 : Int64)) + ((((p0 - (((p0.toUInt64 >>> ((1 : Int32).toInt64.toUInt64 &&& Int64.toUInt64 63)).toInt64) &&& (6148914691236517205 : Int64))).toUInt64 >>> ((2 : Int32).toInt64.toUInt64 &&& Int64.toUInt64 63)).toInt64) &&& (3689348814741910323 : Int64))) + (((((p0 - (((p0.toUInt64 >>> ((1 : Int32).toInt64.toUInt64 &&& Int64.toUInt64 63)).toInt64) &&& (6148914691236517205 : Int64))) &&& (3689348814741910323 : Int64)) + ((((p0 - (((p0.toUInt64 >>> ((1 : Int32).toInt64.toUInt64 &&& Int64.toUInt64 63)).toInt64) &&& (6148914691236517205 : Int64))).toUInt64 >>> ((2 : Int32).toInt64.toUInt64 &&& Int64.toUInt64 63)).toInt64) &&& (3689348814741910323 : Int64))).toUInt64 >>> ((4 : Int32).toInt64.toUInt64 &&& Int64.toUInt64 63)).toInt64)) &&& (1085102592571150095 : Int64)) + (((((((p0 - (((p0.toUInt64 >>> ((1 : Int32).toInt64.toUInt64 &&& Int64.toUInt64 63)).toInt64) &&& (6148914691236517205 : Int64))) &&& (3689348814741910323 : Int64)) + ((((p0 - (((p0.toUInt64 >>> ((1 : Int32).toInt64.toUInt64 &&& Int64.toUInt64 63)).toInt64) &&& (6148914691236517205 : Int64))).toUInt64 >>> ((2 : Int32).toInt64.toUInt64 &&& Int64.toUInt64 63)).toInt64) &&& (3689348814741910323 : Int64))) + (((((p0 - (((p0.toUInt64 >>> ((1 : Int32).toInt64.toUInt64 &&& Int64.toUInt64 63)).toInt64) &&& (6148914691236517205 : Int64))) &&& (3689348814741910323 : Int64)) + ((((p0 - (((p0.toUInt64 >>> ((1 : Int32).toInt64.toUInt64 &&& Int64.toUInt64 63)).toInt64) &&& (6148914691236517205 : Int64))).toUInt64 >>> ((2 : Int32).toInt64.toUInt64 &&& Int64.toUInt64 63)).toInt64) &&& (3689348814741910323 : Int64))).toUInt64 >>> ((4 : Int32).toInt64.toUInt64 &&& Int64.toUInt64 63)).toInt64)) &&& (1085102592571150095 : Int64)).toUInt64 >>> ((8 : Int32).toInt64.toUInt64 &&& Int64.toUInt64 63)).toInt64)).toUInt64 >>> ((16 : Int32).toInt64.toUInt64 &&& Int64.toUInt64 63)).toInt64)))] rfl 48 rfl ?_
  refine j_lload_n C dJ13_bitCount_95d88_48 rfl 0 rfl 49 rfl ?_
  refine j_lload_n C dJ13_bitCount_95d88_49 rfl 0 rfl 50 rfl ?_
  refine j_bipush C dJ13_bitCount_95d88_50 (32 : Int32) (by decide) 52 rfl ?_
  refine j_lushr C dJ13_bitCount_95d88_52 53 rfl ?_
  refine j_ladd C dJ13_bitCount_95d88_53 54 rfl ?_
  refine j_lstore_n C dJ13_bitCount_95d88_54 rfl (by decide) [(0, .long ((((((((p0 - (((p0.toUInt64 >>> ((1 : Int32).toInt64.toUInt64 &&& Int64.toUInt64 63)).toInt64) &&& (6148914691236517205 : Int64))) &&& (3689348814741910323 : Int64)) + ((((p0 - (((p0.toUInt64 >>> ((1 : Int32).toInt64.toUInt64 &&& Int64.toUInt64 63)).toInt64) &&& (6148914691236517205 : Int64))).toUInt64 >>> ((2 : Int32).toInt64.toUInt64 &&& Int64.toUInt64 63)).toInt64) &&& (3689348814741910323 : Int64))) + (((((p0 - (((p0.toUInt64 >>> ((1 : Int32).toInt64.toUInt64 &&& Int64.toUInt64 63)).toInt64) &&& (6148914691236517205 : Int64))) &&& (3689348814741910323 : Int64)) + ((((p0 - (((p0.toUInt64 >>> ((1 : Int32).toInt64.toUInt64 &&& Int64.toUInt64 63)).toInt64) &&& (6148914691236517205 : Int64))).toUInt64 >>> ((2 : Int32).toInt64.toUInt64 &&& Int64.toUInt64 63)).toInt64) &&& (3689348814741910323 : Int64))).toUInt64 >>> ((4 : Int32).toInt64.toUInt64 &&& Int64.toUInt64 63)).toInt64)) &&& (1085102592571150095 : Int64)) + (((((((p0 - (((p0.toUInt64 >>> ((1 : Int32).toInt64.toUInt64 &&& Int64.toUInt64 63)).toInt64) &&& (6148914691236517205 : Int64))) &&& (3689348814741910323 : Int64)) + ((((p0 - (((p0.toUInt64 >>> ((1 : Int32).toInt64.toUInt64 &&& Int64.toUInt64 63)).toInt64) &&& (6148914691236517205 : Int64))).toUInt64 >>> ((2 : Int32).toInt64.toUInt64 &&& Int64.toUInt64 63)).toInt64) &&& (3689348814741910323 : Int64))) + (((((p0 - (((p0.toUInt64 >>> ((1 : Int32).toInt64.toUInt64 &&& Int64.toUInt64 63)).toInt64) &&& (6148914691236517205 : Int64))) &&& (3689348814741910323 : Int64)) + ((((p0 - (((p0.toUInt64 >>> ((1 : Int32).toInt64.toUInt64 &&& Int64.toUInt64 63)).toInt64) &&& (6148914691236517205 : Int64))).toUInt64 >>> ((2 : Int32).toInt64.toUInt64 &&& Int64.toUInt64 63)).toInt64) &&& (3689348814741910323 : Int64))).toUInt64 >>> ((4 : Int32).toInt64.toUInt64 &&& Int64.toUInt64 63)).toInt64)) &&& (1085102592571150095 : Int64)).toUInt64 >>> ((8 : Int32).toInt64.toUInt64 &&& Int64.toUInt64 63)).toInt64)) + ((((((((p0 - (((p0.toUInt64 >>> ((1 : Int32).toInt64.toUInt64 &&& Int64.toUInt64 63)).toInt64) &&& (6148914691236517205 : Int64))) &&& (3689348814741910323 : Int64)) + ((((p0 - (((p0.toUInt64 >>> ((1 : Int32).toInt64.toUInt64 &&& Int64.toUInt64 63)).toInt64) &&& (6148914691236517205 : Int64))).toUInt64 >>> ((2 : Int32).toInt64.toUInt64 &&& Int64.toUInt64 63)).toInt64) &&& (3689348814741910323 : Int64))) + (((((p0 - (((p0.toUInt64 >>> ((1 : Int32).toInt64.toUInt64 &&& Int64.toUInt64 63)).toInt64) &&& (6148914691236517205 : Int64))) &&& (3689348814741910323 : Int64)) + ((((p0 - (((p0.toUInt64 >>> ((1 : Int32).toInt64.toUInt64 &&& Int64.toUInt64 63)).toInt64) &&& (6148914691236517205 : Int64))).toUInt64 >>> ((2 : Int32).toInt64.toUInt64 &&& Int64.toUInt64 63)).toInt64) &&& (3689348814741910323 : Int64))).toUInt64 >>> ((4 : Int32).toInt64.toUInt64 &&& Int64.toUInt64 63)).toInt64)) &&& (1085102592571150095 : Int64)) + (((((((p0 - (((p0.toUInt64 >>> ((1 : Int32).toInt64.toUInt64 &&& Int64.toUInt64 63)).toInt64) &&& (6148914691236517205 : Int64))) &&& (3689348814741910323 : Int64)) + ((((p0 - (((p0.toUInt64 >>> ((1 : Int32).toInt64.toUInt64 &&& Int64.toUInt64 63)).toInt64) &&& (6148914691236517205 : Int64))).toUInt64 >>> ((2 : Int32).toInt64.toUInt64 &&& Int64.toUInt64 63)).toInt64) &&& (3689348814741910323 : Int64))) + (((((p0 - (((p0.toUInt64 >>> ((1 : Int32).toInt64.toUInt64 &&& Int64.toUInt64 63)).toInt64) &&& (6148914691236517205 : Int64))) &&& (3689348814741910323 : Int64)) + ((((p0 - (((p0.toUInt64 >>> ((1 : Int32).toInt64.toUInt64 &&& Int64.toUInt64 63)).toInt64) &&& (6148914691236517205 : Int64))).toUInt64 >>> ((2 : Int32).toInt64.toUInt64 &&& Int64.toUInt64 63)).toInt64) &&& (3689348814741910323 : Int64))).toUInt64 >>> ((4 : Int32).toInt64.toUInt64 &&& Int64.toUInt64 63)).toInt64)) &&& (1085102592571150095 : Int64)).toUInt64 >>> ((8 : Int32).toInt64.toUInt64 &&& Int64.toUInt64 63)).toInt64)).toUInt64 >>> ((16 : Int32).toInt64.toUInt64 &&& Int64.toUInt64 63)).toInt64)) + (((((((((p0 - (((p0.toUInt64 >>> ((1 : Int32).toInt64.toUInt64 &&& Int64.toUInt64 63)).toInt64) &&& (6148914691236517205 : Int64))) &&& (3689348814741910323 : Int64)) + ((((p0 - (((p0.toUInt64 >>> ((1 : Int32).toInt64.toUInt64 &&& Int64.toUInt64 63)).toInt64) &&& (6148914691236517205 : Int64))).toUInt64 >>> ((2 : Int32).toInt64.toUInt64 &&& Int64.toUInt64 63)).toInt64) &&& (3689348814741910323 : Int64))) + (((((p0 - (((p0.toUInt64 >>> ((1 : Int32).toInt64.toUInt64 &&& Int64.toUInt64 63)).toInt64) &&& (6148914691236517205 : Int64))) &&& (3689348814741910323 : Int64)) + ((((p0 - (((p0.toUInt64 >>> ((1 : Int32).toInt64.toUInt64 &&& Int64.toUInt64 63)).toInt64) &&& (6148914691236517205 : Int64))).toUInt64 >>> ((2 : Int32).toInt64.toUInt64 &&& Int64.toUInt64 63)).toInt64) &&& (3689348814741910323 : Int64))).toUInt64 >>> ((4 : Int32).toInt64.toUInt64 &&& Int64.toUInt64 63)).toInt64)) &&& (1085102592571150095 : Int64)) + (((((((p0 - (((p0.toUInt64 >>> ((1 : Int32).toInt64.toUInt64 &&& Int64.toUInt64 63)).toInt64) &&& (6148914691236517205 : Int64))) &&& (3689348814741910323 : Int64)) + ((((p0 - (((p0.toUInt64 >>> ((1 : Int32).toInt64.toUInt64 &&& Int64.toUInt64 63)).toInt64) &&& (6148914691236517205 : Int64))).toUInt64 >>> ((2 : Int32).toInt64.toUInt64 &&& Int64.toUInt64 63)).toInt64) &&& (3689348814741910323 : Int64))) + (((((p0 - (((p0.toUInt64 >>> ((1 : Int32).toInt64.toUInt64 &&& Int64.toUInt64 63)).toInt64) &&& (6148914691236517205 : Int64))) &&& (3689348814741910323 : Int64)) + ((((p0 - (((p0.toUInt64 >>> ((1 : Int32).toInt64.toUInt64 &&& Int64.toUInt64 63)).toInt64) &&& (6148914691236517205 : Int64))).toUInt64 >>> ((2 : Int32).toInt64.toUInt64 &&& Int64.toUInt64 63)).toInt64) &&& (3689348814741910323 : Int64))).toUInt64 >>> ((4 : Int32).toInt64.toUInt64 &&& Int64.toUInt64 63)).toInt64)) &&& (1085102592571150095 : Int64)).toUInt64 >>> ((8 : Int32).toInt64.toUInt64 &&& Int64.toUInt64 63)).toInt64)) + ((((((((p0 - (((p0.toUInt64 >>> ((1 : Int32).toInt64.toUInt64 &&& Int64.toUInt64 63)).toInt64) &&& (6148914691236517205 : Int64))) &&& (3689348814741910323 : Int64)) + ((((p0 - (((p0.toUInt64 >>> ((1 : Int32).toInt64.toUInt64 &&& Int64.toUInt64 63)).toInt64) &&& (6148914691236517205 : Int64))).toUInt64 >>> ((2 : Int32).toInt64.toUInt64 &&& Int64.toUInt64 63)).toInt64) &&& (3689348814741910323 : Int64))) + (((((p0 - (((p0.toUInt64 >>> ((1 : Int32).toInt64.toUInt64 &&& Int64.toUInt64 63)).toInt64) &&& (6148914691236517205 : Int64))) &&& (3689348814741910323 : Int64)) + ((((p0 - (((p0.toUInt64 >>> ((1 : Int32).toInt64.toUInt64 &&& Int64.toUInt64 63)).toInt64) &&& (6148914691236517205 : Int64))).toUInt64 >>> ((2 : Int32).toInt64.toUInt64 &&& Int64.toUInt64 63)).toInt64) &&& (3689348814741910323 : Int64))).toUInt64 >>> ((4 : Int32).toInt64.toUInt64 &&& Int64.toUInt64 63)).toInt64)) &&& (1085102592571150095 : Int64)) + (((((((p0 - (((p0.toUInt64 >>> ((1 : Int32).toInt64.toUInt64 &&& Int64.toUInt64 63)).toInt64) &&& (6148914691236517205 : Int64))) &&& (3689348814741910323 : Int64)) + ((((p0 - (((p0.toUInt64 >>> ((1 : Int32).toInt64.toUInt64 &&& Int64.toUInt64 63)).toInt64) &&& (6148914691236517205 : Int64))).toUInt64 >>> ((2 : Int32).toInt64.toUInt64 &&& Int64.toUInt64 63)).toInt64) &&& (3689348814741910323 : Int64))) + (((((p0 - (((p0.toUInt64 >>> ((1 : Int32).toInt64.toUInt64 &&& Int64.toUInt64 63)).toInt64) &&& (6148914691236517205 : Int64))) &&& (3689348814741910323 : Int64)) + ((((p0 - (((p0.toUInt64 >>> ((1 : Int32).toInt64.toUInt64 &&& Int64.toUInt64 63)).toInt64) &&& (6148914691236517205 : Int64))).toUInt64 >>> ((2 : Int32).toInt64.toUInt64 &&& Int64.toUInt64 63)).toInt64) &&& (3689348814741910323 : Int64))).toUInt64 >>> ((4 : Int32).toInt64.toUInt64 &&& Int64.toUInt64 63)).toInt64)) &&& (1085102592571150095 : Int64)).toUInt64 >>> ((8 : Int32).toInt64.toUInt64 &&& Int64.toUInt64 63)).toInt64)).toUInt64 >>> ((16 : Int32).toInt64.toUInt64 &&& Int64.toUInt64 63)).toInt64)).toUInt64 >>> ((32 : Int32).toInt64.toUInt64 &&& Int64.toUInt64 63)).toInt64)))] rfl 55 rfl ?_
  refine j_lload_n C dJ13_bitCount_95d88_55 rfl 0 rfl 56 rfl ?_
  refine j_l2i C dJ13_bitCount_95d88_56 57 rfl ?_
  refine j_bipush C dJ13_bitCount_95d88_57 (127 : Int32) (by decide) 59 rfl ?_
  refine j_iand C dJ13_bitCount_95d88_59 60 rfl ?_
  exact j_iret C F dJ13_bitCount_95d88_60 h

-- ===== StenoChords.entryNumber(II)I
theorem vk_X6_entryNumber : VK yX6_entryNumber cX6_entryNumber 6 (some .int) 2 := ⟨kw2_220, kw2_219, kwS_7, kw1_1, by decide +kernel⟩
def X6_entryNumber (σ : Mem) (p1 : Int32) (p2 : Int32) : Option (Mem × Int32) :=
  ((X0_rowOf 3 σ p1).bind fun q1 => (if p2 = (0 : Int32) then ((X0_wordOf 3 q1.1 p1).bind fun q3 => some (q3.1, q3.2)) else (if p2 = (1 : Int32) then ((X6_strokesOf q1.1 q1.2).bind fun q5 => some (q5.1, q5.2)) else (if p2 = (2 : Int32) then ((X6_strokeOf q1.1 q1.2 (p2 - (2 : Int32))).bind fun q7 => (if q7.2 = 0 then some (q7.1, (-1 : Int32)) else some (q7.1, q7.2))) else (if p2 = (3 : Int32) then ((X6_strokeOf q1.1 q1.2 (p2 - (2 : Int32))).bind fun q9 => (if q9.2 = 0 then some (q9.1, (-1 : Int32)) else some (q9.1, q9.2))) else (if p2 = (4 : Int32) then ((X6_strokeOf q1.1 q1.2 (p2 - (2 : Int32))).bind fun q11 => (if q11.2 = 0 then some (q11.1, (-1 : Int32)) else some (q11.1, q11.2))) else (if p2 = (5 : Int32) then ((X6_strokeOf q1.1 q1.2 (p2 - (2 : Int32))).bind fun q13 => (if q13.2 = 0 then some (q13.1, (-1 : Int32)) else some (q13.1, q13.2))) else (if p2 = (6 : Int32) then ((X0_picksOf 3 q1.1 p1).bind fun q15 => some (q15.1, q15.2)) else (if p2 = (7 : Int32) then ((X0_leaderOf 3 q1.1 q1.2).bind fun q17 => (if q17.2 = p1 then some (q17.1, (1 : Int32)) else some (q17.1, (0 : Int32)))) else (if p2 = (8 : Int32) then ((X2_itemsOf 61 q1.1 p1).bind fun q19 => some (q19.1, q19.2)) else (if p2 = (9 : Int32) then ((J13_bitCount_95d88 q1.1 q1.2).bind fun q21 => some (q21.1, q21.2)) else ((X6_strokeOf q1.1 q1.2 (p2 - (2 : Int32))).bind fun q23 => (if q23.2 = 0 then some (q23.1, (-1 : Int32)) else some (q23.1, q23.2))))))))))))))
set_option maxHeartbeats 4000000 in
set_option maxRecDepth 100000 in
theorem ct_X6_entryNumber (l : Launch) (G : Gw)  {σ : Mem} {p1 : Int32} {p2 : Int32} {out : Mem × Int32} (h : X6_entryNumber σ p1 p2 = some out) : Ct l G yX6_entryNumber cX6_entryNumber 6 (some .int) { frames := 3, cells := 0, slots := 0, locals := 65 } [.ref (gA G 81), .int p1, .int p2] σ out.1 (some (.int out.2)) := by
  refine Ct.of (by decide +kernel) (Nat.le_of_ble_eq_true rfl) (fun E hE C F => ?_)
  subst hE
  have C : Cx E G RX6 cX6_entryNumber 6 { frames := 3, cells := 0, slots := 0, locals := 65 } := C
  unfold X6_entryNumber at h
  show J E G 6 0 0 σ 0 [(0, .ref (gA G 81)), (1, .int p1), (2, .int p2)] []
  refine j_aload_n C dX6_entryNumber_0 rfl 0 rfl 1 rfl ?_
  refine j_get C foX6 sh81 0 (by decide) 2 rfl kw1_159 rfl dX6_entryNumber_1 (.ref (gA G 0)) (fv_r rfl) 4 rfl ?_
  refine j_get C foX5 sh0 1 (by decide) 5 rfl kw1_76 rfl dX6_entryNumber_4 (.ref (gA G 3)) (fv_r rfl) 7 rfl ?_
  refine j_iload_n C dX6_entryNumber_7 rfl 1 rfl 8 rfl ?_
  obtain ⟨q1, e2, h⟩ := ob_some h
  refine j_callV C (ct_X0_rowOf (eL E) G ent3 e2) sh3 foX0 rfl vk_X0_rowOf kw2_221 rfl ⟨Nat.le_of_ble_eq_true rfl, Nat.le_of_ble_eq_true rfl, rfl, rfl⟩ ⟨Nat.zero_le _, Nat.zero_le _⟩ (rest := []) rfl (Nat.le_of_ble_eq_true rfl) dX6_entryNumber_8 (st1 := [.long q1.2]) rfl 11 rfl ?_
  refine j_lstore_n C dX6_entryNumber_11 rfl (by decide) [(3, .long q1.2), (0, .ref (gA G 81)), (1, .int p1), (2, .int p2)] rfl 12 rfl ?_
  refine j_iload_n C dX6_entryNumber_12 rfl 3 rfl 13 rfl ?_
  by_cases c0 : p2 = (0 : Int32)
  · have h := it_t c0 h
    refine j_tableIn C dX6_entryNumber_13 (by rw [c0]; decide) (by rw [c0]; decide) (off := 55) (by rw [c0]; rfl) 68 (by decide) ?_
    refine j_aload_n C dX6_entryNumber_68 rfl 1 rfl 69 rfl ?_
    refine j_get C foX6 sh81 0 (by decide) 2 rfl kw1_159 rfl dX6_entryNumber_69 (.ref (gA G 0)) (fv_r rfl) 72 rfl ?_
    refine j_get C foX5 sh0 1 (by decide) 5 rfl kw1_76 rfl dX6_entryNumber_72 (.ref (gA G 3)) (fv_r rfl) 75 rfl ?_
    refine j_iload_n C dX6_entryNumber_75 rfl 2 rfl 76 rfl ?_
    obtain ⟨q3, e4, h⟩ := ob_some h
    refine j_callV C (ct_X0_wordOf (eL E) G ent3 e4) sh3 foX0 rfl vk_X0_wordOf kw2_222 rfl ⟨Nat.le_of_ble_eq_true rfl, Nat.le_of_ble_eq_true rfl, rfl, rfl⟩ ⟨Nat.zero_le _, Nat.zero_le _⟩ (rest := []) rfl (Nat.le_of_ble_eq_true rfl) dX6_entryNumber_76 (st1 := [.int q3.2]) rfl 79 rfl ?_
    exact j_iret C F dX6_entryNumber_79 h
  have h := it_f c0 h
  by_cases c1 : p2 = (1 : Int32)
  · have h := it_t c1 h
    refine j_tableIn C dX6_entryNumber_13 (by rw [c1]; decide) (by rw [c1]; decide) (off := 67) (by rw [c1]; rfl) 80 (by decide) ?_
    refine j_lload_n C dX6_entryNumber_80 rfl 0 rfl 81 rfl ?_
    obtain ⟨q5, e6, h⟩ := ob_some h
    refine j_callS C (ct_X6_strokesOf (eL E) G  e6) vk_X6_strokesOf kw2_223 rfl ⟨Nat.le_of_ble_eq_true rfl, Nat.le_of_ble_eq_true rfl, rfl, rfl⟩ ⟨Nat.zero_le _, Nat.zero_le _⟩ (rest := []) rfl (Nat.le_of_ble_eq_true rfl) dX6_entryNumber_81 (st1 := [.int q5.2]) rfl 84 rfl ?_
    exact j_iret C F dX6_entryNumber_84 h
  have h := it_f c1 h
  by_cases c2 : p2 = (2 : Int32)
  · have h := it_t c2 h
    refine j_tableIn C dX6_entryNumber_13 (by rw [c2]; decide) (by rw [c2]; decide) (off := 119) (by rw [c2]; rfl) 132 (by decide) ?_
    refine j_lload_n C dX6_entryNumber_132 rfl 0 rfl 133 rfl ?_
    refine j_iload_n C dX6_entryNumber_133 rfl 3 rfl 134 rfl ?_
    refine j_iconst C dX6_entryNumber_134 (2 : Int32) (by decide) 135 rfl ?_
    refine j_isub C dX6_entryNumber_135 136 rfl ?_
    obtain ⟨q7, e8, h⟩ := ob_some h
    refine j_callS C (ct_X6_strokeOf (eL E) G  e8) vk_X6_strokeOf kw2_226 rfl ⟨Nat.le_of_ble_eq_true rfl, Nat.le_of_ble_eq_true rfl, rfl, rfl⟩ ⟨Nat.zero_le _, Nat.zero_le _⟩ (rest := []) rfl (Nat.le_of_ble_eq_true rfl) dX6_entryNumber_136 (st1 := [.int q7.2]) rfl 139 rfl ?_
    refine j_istore C dX6_entryNumber_139 (by decide) [(5, .int q7.2), (3, .long q1.2), (0, .ref (gA G 81)), (1, .int p1), (2, .int p2)] rfl 141 rfl ?_
    refine j_iload C dX6_entryNumber_141 0 rfl 143 rfl ?_
    refine j_if_ne C dX6_entryNumber_143 150 (by decide) 146 rfl (fun c => ?_) (fun c => ?_)
    · have h := it_f c h
      refine j_iload C dX6_entryNumber_150 0 rfl 152 rfl ?_
      exact j_iret C F dX6_entryNumber_152 h
    · have h := it_t c h
      refine j_iconst C dX6_entryNumber_146 (-1 : Int32) (by decide) 147 rfl ?_
      refine j_goto C dX6_entryNumber_147 152 (by decide) ?_
      exact j_iret C F dX6_entryNumber_152 h
  have h := it_f c2 h
  by_cases c3 : p2 = (3 : Int32)
  · have h := it_t c3 h
    refine j_tableIn C dX6_entryNumber_13 (by rw [c3]; decide) (by rw [c3]; decide) (off := 119) (by rw [c3]; rfl) 132 (by decide) ?_
    refine j_lload_n C dX6_entryNumber_132 rfl 0 rfl 133 rfl ?_
    refine j_iload_n C dX6_entryNumber_133 rfl 3 rfl 134 rfl ?_
    refine j_iconst C dX6_entryNumber_134 (2 : Int32) (by decide) 135 rfl ?_
    refine j_isub C dX6_entryNumber_135 136 rfl ?_
    obtain ⟨q9, e10, h⟩ := ob_some h
    refine j_callS C (ct_X6_strokeOf (eL E) G  e10) vk_X6_strokeOf kw2_226 rfl ⟨Nat.le_of_ble_eq_true rfl, Nat.le_of_ble_eq_true rfl, rfl, rfl⟩ ⟨Nat.zero_le _, Nat.zero_le _⟩ (rest := []) rfl (Nat.le_of_ble_eq_true rfl) dX6_entryNumber_136 (st1 := [.int q9.2]) rfl 139 rfl ?_
    refine j_istore C dX6_entryNumber_139 (by decide) [(5, .int q9.2), (3, .long q1.2), (0, .ref (gA G 81)), (1, .int p1), (2, .int p2)] rfl 141 rfl ?_
    refine j_iload C dX6_entryNumber_141 0 rfl 143 rfl ?_
    refine j_if_ne C dX6_entryNumber_143 150 (by decide) 146 rfl (fun c => ?_) (fun c => ?_)
    · have h := it_f c h
      refine j_iload C dX6_entryNumber_150 0 rfl 152 rfl ?_
      exact j_iret C F dX6_entryNumber_152 h
    · have h := it_t c h
      refine j_iconst C dX6_entryNumber_146 (-1 : Int32) (by decide) 147 rfl ?_
      refine j_goto C dX6_entryNumber_147 152 (by decide) ?_
      exact j_iret C F dX6_entryNumber_152 h
  have h := it_f c3 h
  by_cases c4 : p2 = (4 : Int32)
  · have h := it_t c4 h
    refine j_tableIn C dX6_entryNumber_13 (by rw [c4]; decide) (by rw [c4]; decide) (off := 119) (by rw [c4]; rfl) 132 (by decide) ?_
    refine j_lload_n C dX6_entryNumber_132 rfl 0 rfl 133 rfl ?_
    refine j_iload_n C dX6_entryNumber_133 rfl 3 rfl 134 rfl ?_
    refine j_iconst C dX6_entryNumber_134 (2 : Int32) (by decide) 135 rfl ?_
    refine j_isub C dX6_entryNumber_135 136 rfl ?_
    obtain ⟨q11, e12, h⟩ := ob_some h
    refine j_callS C (ct_X6_strokeOf (eL E) G  e12) vk_X6_strokeOf kw2_226 rfl ⟨Nat.le_of_ble_eq_true rfl, Nat.le_of_ble_eq_true rfl, rfl, rfl⟩ ⟨Nat.zero_le _, Nat.zero_le _⟩ (rest := []) rfl (Nat.le_of_ble_eq_true rfl) dX6_entryNumber_136 (st1 := [.int q11.2]) rfl 139 rfl ?_
    refine j_istore C dX6_entryNumber_139 (by decide) [(5, .int q11.2), (3, .long q1.2), (0, .ref (gA G 81)), (1, .int p1), (2, .int p2)] rfl 141 rfl ?_
    refine j_iload C dX6_entryNumber_141 0 rfl 143 rfl ?_
    refine j_if_ne C dX6_entryNumber_143 150 (by decide) 146 rfl (fun c => ?_) (fun c => ?_)
    · have h := it_f c h
      refine j_iload C dX6_entryNumber_150 0 rfl 152 rfl ?_
      exact j_iret C F dX6_entryNumber_152 h
    · have h := it_t c h
      refine j_iconst C dX6_entryNumber_146 (-1 : Int32) (by decide) 147 rfl ?_
      refine j_goto C dX6_entryNumber_147 152 (by decide) ?_
      exact j_iret C F dX6_entryNumber_152 h
  have h := it_f c4 h
  by_cases c5 : p2 = (5 : Int32)
  · have h := it_t c5 h
    refine j_tableIn C dX6_entryNumber_13 (by rw [c5]; decide) (by rw [c5]; decide) (off := 119) (by rw [c5]; rfl) 132 (by decide) ?_
    refine j_lload_n C dX6_entryNumber_132 rfl 0 rfl 133 rfl ?_
    refine j_iload_n C dX6_entryNumber_133 rfl 3 rfl 134 rfl ?_
    refine j_iconst C dX6_entryNumber_134 (2 : Int32) (by decide) 135 rfl ?_
    refine j_isub C dX6_entryNumber_135 136 rfl ?_
    obtain ⟨q13, e14, h⟩ := ob_some h
    refine j_callS C (ct_X6_strokeOf (eL E) G  e14) vk_X6_strokeOf kw2_226 rfl ⟨Nat.le_of_ble_eq_true rfl, Nat.le_of_ble_eq_true rfl, rfl, rfl⟩ ⟨Nat.zero_le _, Nat.zero_le _⟩ (rest := []) rfl (Nat.le_of_ble_eq_true rfl) dX6_entryNumber_136 (st1 := [.int q13.2]) rfl 139 rfl ?_
    refine j_istore C dX6_entryNumber_139 (by decide) [(5, .int q13.2), (3, .long q1.2), (0, .ref (gA G 81)), (1, .int p1), (2, .int p2)] rfl 141 rfl ?_
    refine j_iload C dX6_entryNumber_141 0 rfl 143 rfl ?_
    refine j_if_ne C dX6_entryNumber_143 150 (by decide) 146 rfl (fun c => ?_) (fun c => ?_)
    · have h := it_f c h
      refine j_iload C dX6_entryNumber_150 0 rfl 152 rfl ?_
      exact j_iret C F dX6_entryNumber_152 h
    · have h := it_t c h
      refine j_iconst C dX6_entryNumber_146 (-1 : Int32) (by decide) 147 rfl ?_
      refine j_goto C dX6_entryNumber_147 152 (by decide) ?_
      exact j_iret C F dX6_entryNumber_152 h
  have h := it_f c5 h
  by_cases c6 : p2 = (6 : Int32)
  · have h := it_t c6 h
    refine j_tableIn C dX6_entryNumber_13 (by rw [c6]; decide) (by rw [c6]; decide) (off := 72) (by rw [c6]; rfl) 85 (by decide) ?_
    refine j_aload_n C dX6_entryNumber_85 rfl 1 rfl 86 rfl ?_
    refine j_get C foX6 sh81 0 (by decide) 2 rfl kw1_159 rfl dX6_entryNumber_86 (.ref (gA G 0)) (fv_r rfl) 89 rfl ?_
    refine j_get C foX5 sh0 1 (by decide) 5 rfl kw1_76 rfl dX6_entryNumber_89 (.ref (gA G 3)) (fv_r rfl) 92 rfl ?_
    refine j_iload_n C dX6_entryNumber_92 rfl 2 rfl 93 rfl ?_
    obtain ⟨q15, e16, h⟩ := ob_some h
    refine j_callV C (ct_X0_picksOf (eL E) G ent3 e16) sh3 foX0 rfl vk_X0_picksOf kw2_229 rfl ⟨Nat.le_of_ble_eq_true rfl, Nat.le_of_ble_eq_true rfl, rfl, rfl⟩ ⟨Nat.zero_le _, Nat.zero_le _⟩ (rest := []) rfl (Nat.le_of_ble_eq_true rfl) dX6_entryNumber_93 (st1 := [.int q15.2]) rfl 96 rfl ?_
    exact j_iret C F dX6_entryNumber_96 h
  have h := it_f c6 h
  by_cases c7 : p2 = (7 : Int32)
  · have h := it_t c7 h
    refine j_tableIn C dX6_entryNumber_13 (by rw [c7]; decide) (by rw [c7]; decide) (off := 84) (by rw [c7]; rfl) 97 (by decide) ?_
    refine j_aload_n C dX6_entryNumber_97 rfl 1 rfl 98 rfl ?_
    refine j_get C foX6 sh81 0 (by decide) 2 rfl kw1_159 rfl dX6_entryNumber_98 (.ref (gA G 0)) (fv_r rfl) 101 rfl ?_
    refine j_get C foX5 sh0 1 (by decide) 5 rfl kw1_76 rfl dX6_entryNumber_101 (.ref (gA G 3)) (fv_r rfl) 104 rfl ?_
    refine j_lload_n C dX6_entryNumber_104 rfl 0 rfl 105 rfl ?_
    obtain ⟨q17, e18, h⟩ := ob_some h
    refine j_callV C (ct_X0_leaderOf (eL E) G ent3 e18) sh3 foX0 rfl vk_X0_leaderOf kw2_230 rfl ⟨Nat.le_of_ble_eq_true rfl, Nat.le_of_ble_eq_true rfl, rfl, rfl⟩ ⟨Nat.zero_le _, Nat.zero_le _⟩ (rest := []) rfl (Nat.le_of_ble_eq_true rfl) dX6_entryNumber_105 (st1 := [.int q17.2]) rfl 108 rfl ?_
    refine j_iload_n C dX6_entryNumber_108 rfl 2 rfl 109 rfl ?_
    refine j_icmp_ne C dX6_entryNumber_109 116 (by decide) 112 rfl (fun c => ?_) (fun c => ?_)
    · have h := it_f c h
      refine j_iconst C dX6_entryNumber_116 (0 : Int32) (by decide) 117 rfl ?_
      exact j_iret C F dX6_entryNumber_117 h
    · have h := it_t c h
      refine j_iconst C dX6_entryNumber_112 (1 : Int32) (by decide) 113 rfl ?_
      refine j_goto C dX6_entryNumber_113 117 (by decide) ?_
      exact j_iret C F dX6_entryNumber_117 h
  have h := it_f c7 h
  by_cases c8 : p2 = (8 : Int32)
  · have h := it_t c8 h
    refine j_tableIn C dX6_entryNumber_13 (by rw [c8]; decide) (by rw [c8]; decide) (off := 105) (by rw [c8]; rfl) 118 (by decide) ?_
    refine j_aload_n C dX6_entryNumber_118 rfl 1 rfl 119 rfl ?_
    refine j_get C foX6 sh81 4 (by decide) 63 rfl kw1_163 rfl dX6_entryNumber_119 (.ref (gA G 61)) (fv_r rfl) 122 rfl ?_
    refine j_iload_n C dX6_entryNumber_122 rfl 2 rfl 123 rfl ?_
    obtain ⟨q19, e20, h⟩ := ob_some h
    refine j_callV C (ct_X2_itemsOf (eL E) G rdg61 e20) sh61 foX2 rfl vk_X2_itemsOf kw2_168 rfl ⟨Nat.le_of_ble_eq_true rfl, Nat.le_of_ble_eq_true rfl, rfl, rfl⟩ ⟨Nat.zero_le _, Nat.zero_le _⟩ (rest := []) rfl (Nat.le_of_ble_eq_true rfl) dX6_entryNumber_123 (st1 := [.int q19.2]) rfl 126 rfl ?_
    exact j_iret C F dX6_entryNumber_126 h
  have h := it_f c8 h
  by_cases c9 : p2 = (9 : Int32)
  · have h := it_t c9 h
    refine j_tableIn C dX6_entryNumber_13 (by rw [c9]; decide) (by rw [c9]; decide) (off := 114) (by rw [c9]; rfl) 127 (by decide) ?_
    refine j_lload_n C dX6_entryNumber_127 rfl 0 rfl 128 rfl ?_
    obtain ⟨q21, e22, h⟩ := ob_some h
    refine j_callS C (ct_J13_bitCount_95d88 (eL E) G  e22) vk_J13_bitCount_95d88 kw2_231 rfl ⟨Nat.le_of_ble_eq_true rfl, Nat.le_of_ble_eq_true rfl, rfl, rfl⟩ ⟨Nat.zero_le _, Nat.zero_le _⟩ (rest := []) rfl (Nat.le_of_ble_eq_true rfl) dX6_entryNumber_128 (st1 := [.int q21.2]) rfl 131 rfl ?_
    exact j_iret C F dX6_entryNumber_131 h
  have h := it_f c9 h
  refine j_tableOut C dX6_entryNumber_13 (by have n0 := tsw_ne (z := 0) (by decide) c0; have n1 := tsw_ne (z := 1) (by decide) c1; have n2 := tsw_ne (z := 2) (by decide) c2; have n3 := tsw_ne (z := 3) (by decide) c3; have n4 := tsw_ne (z := 4) (by decide) c4; have n5 := tsw_ne (z := 5) (by decide) c5; have n6 := tsw_ne (z := 6) (by decide) c6; have n7 := tsw_ne (z := 7) (by decide) c7; have n8 := tsw_ne (z := 8) (by decide) c8; have n9 := tsw_ne (z := 9) (by decide) c9; omega) 132 (by decide) ?_
  refine j_lload_n C dX6_entryNumber_132 rfl 0 rfl 133 rfl ?_
  refine j_iload_n C dX6_entryNumber_133 rfl 3 rfl 134 rfl ?_
  refine j_iconst C dX6_entryNumber_134 (2 : Int32) (by decide) 135 rfl ?_
  refine j_isub C dX6_entryNumber_135 136 rfl ?_
  obtain ⟨q23, e24, h⟩ := ob_some h
  refine j_callS C (ct_X6_strokeOf (eL E) G  e24) vk_X6_strokeOf kw2_226 rfl ⟨Nat.le_of_ble_eq_true rfl, Nat.le_of_ble_eq_true rfl, rfl, rfl⟩ ⟨Nat.zero_le _, Nat.zero_le _⟩ (rest := []) rfl (Nat.le_of_ble_eq_true rfl) dX6_entryNumber_136 (st1 := [.int q23.2]) rfl 139 rfl ?_
  refine j_istore C dX6_entryNumber_139 (by decide) [(5, .int q23.2), (3, .long q1.2), (0, .ref (gA G 81)), (1, .int p1), (2, .int p2)] rfl 141 rfl ?_
  refine j_iload C dX6_entryNumber_141 0 rfl 143 rfl ?_
  refine j_if_ne C dX6_entryNumber_143 150 (by decide) 146 rfl (fun c => ?_) (fun c => ?_)
  · have h := it_f c h
    refine j_iload C dX6_entryNumber_150 0 rfl 152 rfl ?_
    exact j_iret C F dX6_entryNumber_152 h
  · have h := it_t c h
    refine j_iconst C dX6_entryNumber_146 (-1 : Int32) (by decide) 147 rfl ?_
    refine j_goto C dX6_entryNumber_147 152 (by decide) ?_
    exact j_iret C F dX6_entryNumber_152 h

-- ===== StenoChords.entry(II)I
theorem vk_X6_entry : VK yX6_entry cX6_entry 3 (some .int) 2 := ⟨kw2_213, kw2_211, kw2_212, kw1_1, by decide +kernel⟩
def X6_entry (σ : Mem) (p1 : Int32) (p2 : Int32) : Option (Mem × (Int32 ⊕ Nat)) :=
  ((X0_has 3 σ p1).bind fun q1 => (if q1.2 = 0 then some (q1.1, Sum.inr 2) else (if p2 < 0 then some (q1.1, Sum.inr 0) else (if p2 < (10 : Int32) then ((X6_readPaper q1.1).bind fun q3 => ((X6_entryNumber q3.1 p1 p2).bind fun q5 => some (q5.1, Sum.inl q5.2))) else some (q1.1, Sum.inr 0)))))
set_option maxHeartbeats 4000000 in
set_option maxRecDepth 100000 in
theorem wk_X6_entry {E : Ev} {G : Gw} {kc ks : Nat} (C : Cx E G RX6 cX6_entry 3 { frames := 6, cells := kc, slots := ks, locals := 96 }) {out : Mem × (Int32 ⊕ Nat)} (F : Efx E G out (some .int))  {σ : Mem} {p1 : Int32} {p2 : Int32} (h : X6_entry σ p1 p2 = some out) : J E G 3 0 0 σ 0 [(0, .ref (gA G 81)), (1, .int p1), (2, .int p2)] [] := by
  unfold X6_entry at h
  refine j_aload_n C dX6_entry_0 rfl 0 rfl 1 rfl ?_
  refine j_get C foX6 sh81 0 (by decide) 2 rfl kw1_159 rfl dX6_entry_1 (.ref (gA G 0)) (fv_r rfl) 4 rfl ?_
  refine j_get C foX5 sh0 1 (by decide) 5 rfl kw1_76 rfl dX6_entry_4 (.ref (gA G 3)) (fv_r rfl) 7 rfl ?_
  refine j_iload_n C dX6_entry_7 rfl 1 rfl 8 rfl ?_
  obtain ⟨q1, e2, h⟩ := ob_some h
  refine j_callV C (ct_X0_has (eL E) G ent3 e2) sh3 foX0 rfl vk_X0_has kw2_214 rfl ⟨Nat.le_of_ble_eq_true rfl, Nat.le_of_ble_eq_true rfl, rfl, rfl⟩ ⟨Nat.zero_le _, Nat.zero_le _⟩ (rest := []) rfl (Nat.le_of_ble_eq_true rfl) dX6_entry_8 (st1 := [.int q1.2]) rfl 11 rfl ?_
  refine j_if_ne C dX6_entry_11 24 (by decide) 14 rfl (fun c => ?_) (fun c => ?_)
  · have h := it_f c h
    refine j_iload_n C dX6_entry_24 rfl 2 rfl 25 rfl ?_
    refine j_if_lt C dX6_entry_25 34 (by decide) 28 rfl (fun c => ?_) (fun c => ?_)
    · have h := it_t c h
      exact j_throw C F (x := 0) (by decide +kernel) kw2_94 kw1_12 str_226 ha_0_62 dX6_entry_34 dX6_entry_37 dX6_entry_38 dX6_entry_40 dX6_entry_43 ⟨Nat.le_of_ble_eq_true rfl, Nat.le_of_ble_eq_true rfl⟩ h
    · have h := it_f c h
      refine j_iload_n C dX6_entry_28 rfl 2 rfl 29 rfl ?_
      refine j_bipush C dX6_entry_29 (10 : Int32) (by decide) 31 rfl ?_
      refine j_icmp_lt C dX6_entry_31 44 (by decide) 34 rfl (fun c => ?_) (fun c => ?_)
      · have h := it_t c h
        refine j_aload_n C dX6_entry_44 rfl 0 rfl 45 rfl ?_
        obtain ⟨q3, e4, h⟩ := ob_some h
        refine j_callV C (ct_X6_readPaper (eL E) G  e4) sh81 foX6 rfl vk_X6_readPaper kw2_110 rfl ⟨Nat.le_of_ble_eq_true rfl, Nat.le_of_ble_eq_true rfl, rfl, rfl⟩ ⟨Nat.zero_le _, Nat.zero_le _⟩ (rest := []) rfl (Nat.le_of_ble_eq_true rfl) dX6_entry_45 (st1 := []) rfl 48 rfl ?_
        refine j_aload_n C dX6_entry_48 rfl 0 rfl 49 rfl ?_
        refine j_iload_n C dX6_entry_49 rfl 1 rfl 50 rfl ?_
        refine j_iload_n C dX6_entry_50 rfl 2 rfl 51 rfl ?_
        obtain ⟨q5, e6, h⟩ := ob_some h
        refine j_callV C (ct_X6_entryNumber (eL E) G  e6) sh81 foX6 rfl vk_X6_entryNumber kw2_217 rfl ⟨Nat.le_of_ble_eq_true rfl, Nat.le_of_ble_eq_true rfl, rfl, rfl⟩ ⟨Nat.zero_le _, Nat.zero_le _⟩ (rest := []) rfl (Nat.le_of_ble_eq_true rfl) dX6_entry_51 (st1 := [.int q5.2]) rfl 54 rfl ?_
        exact j_iretX C F dX6_entry_54 h
      · have h := it_f c h
        exact j_throw C F (x := 0) (by decide +kernel) kw2_94 kw1_12 str_226 ha_0_62 dX6_entry_34 dX6_entry_37 dX6_entry_38 dX6_entry_40 dX6_entry_43 ⟨Nat.le_of_ble_eq_true rfl, Nat.le_of_ble_eq_true rfl⟩ h
  · have h := it_t c h
    exact j_throw C F (x := 2) (by decide +kernel) kw2_194 kw1_13 str_166 ha_2_124 dX6_entry_14 dX6_entry_17 dX6_entry_18 dX6_entry_20 dX6_entry_23 ⟨Nat.le_of_ble_eq_true rfl, Nat.le_of_ble_eq_true rfl⟩ h
set_option maxHeartbeats 4000000 in
set_option maxRecDepth 100000 in
theorem ct_X6_entry (l : Launch) (G : Gw)  {σ : Mem} {p1 : Int32} {p2 : Int32} {out : Mem × Int32} (h : X6_entry σ p1 p2 = some (out.1, .inl out.2)) : Ct l G yX6_entry cX6_entry 3 (some .int) { frames := 6, cells := 0, slots := 0, locals := 96 } [.ref (gA G 81), .int p1, .int p2] σ out.1 (some (.int out.2)) :=
  Ct.of (by decide +kernel) (Nat.le_of_ble_eq_true rfl) (fun E hE C F => wk_X6_entry C ⟨fun v hv => (by cases hv; exact F), fun x hx => (by cases hx)⟩ h)
theorem cx_X6_entry (l : Launch) (hst : l.stackTraces = false) (G : Gw)  {σ σ2 : Mem} {p1 : Int32} {p2 : Int32} {x : Nat} (h : X6_entry σ p1 p2 = some (σ2, .inr x)) : Cx1 l G yX6_entry cX6_entry 3 (some .int) { frames := 6, cells := 1, slots := 6, locals := 96 } [.ref (gA G 81), .int p1, .int p2] σ σ2 x :=
    Cx1.of (by decide +kernel) (Nat.le_of_ble_eq_true rfl) hst ⟨by decide, by decide⟩ (fun E hE C F => wk_X6_entry C ⟨fun v hv => (by cases hv), fun x hx => (by cases hx; exact F)⟩ h)

-- ===== StenoChords.itemsStrokeByStroke()I
theorem vk_X6_itemsStrokeByStroke : VK yX6_itemsStrokeByStroke cX6_itemsStrokeByStroke 2 (some .int) 0 := ⟨kw2_159, kw2_158, kwS_5, kw1_1, by decide +kernel⟩
def X6_itemsStrokeByStroke_18 (K : Mem → Option (Mem × Int32)) : Nat → Mem → Int32 → Option (Mem × Int32)
  | 0, _, _ => none
  | fu + 1, σ, v1 => ((X3_length 1 σ).bind fun q5 => (if q5.2 ≤ v1 then K q5.1 else ((X3_at 1 q5.1 v1).bind fun q7 => ((X3_put 75 q7.1 q7.2).bind fun q9 => ((X2_dropFrom 68 q9.1 (v1 - (3 : Int32))).bind fun q11 => ((X2_readOn 68 75 0 q11.1).bind fun q13 => X6_itemsStrokeByStroke_18 K fu q13.1 (v1 + (1 : Int32))))))))
set_option maxHeartbeats 4000000 in
set_option maxRecDepth 100000 in
theorem w_X6_itemsStrokeByStroke_18 {E : Ev} {G : Gw} (C : Cx E G RX6 cX6_itemsStrokeByStroke 2 { frames := 3, cells := 0, slots := 0, locals := 76 }) {out : Mem × Int32} (F : Ef E G out.1 (some (.int out.2)) (some .int) 0 0)  {K : Mem → Option (Mem × Int32)} (hK : ∀ (σ : Mem) , K σ  = some out → J E G 2 0 0 σ 81 [(0, .ref (gA G 81))] []) : ∀ (fu : Nat) (σ : Mem) (v1 : Int32), X6_itemsStrokeByStroke_18 K fu σ v1 = some out → J E G 2 0 0 σ 18 [(0, .ref (gA G 81)), (1, .int v1)] [] := by
  intro fu
  induction fu with
  | zero => intro σ v1 h; rw [X6_itemsStrokeByStroke_18] at h; cases h
  | succ fu ih =>
    intro σ v1 h
    rw [X6_itemsStrokeByStroke_18] at h
    refine j_iload_n C dX6_itemsStrokeByStroke_18 rfl 1 rfl 19 rfl ?_
    refine j_aload_n C dX6_itemsStrokeByStroke_19 rfl 0 rfl 20 rfl ?_
    refine j_get C foX6 sh81 0 (by decide) 2 rfl kw1_159 rfl dX6_itemsStrokeByStroke_20 (.ref (gA G 0)) (fv_r rfl) 23 rfl ?_
    refine j_get C foX5 sh0 0 (by decide) 3 rfl kw1_74 rfl dX6_itemsStrokeByStroke_23 (.ref (gA G 1)) (fv_r rfl) 26 rfl ?_
    obtain ⟨q5, e6, h⟩ := ob_some h
    refine j_callV C (ct_X3_length (eL E) G row1 e6) sh1 foX3 rfl vk_X3_length kw1_238 rfl ⟨Nat.le_of_ble_eq_true rfl, Nat.le_of_ble_eq_true rfl, rfl, rfl⟩ ⟨Nat.zero_le _, Nat.zero_le _⟩ (rest := [.int v1]) rfl (Nat.le_of_ble_eq_true rfl) dX6_itemsStrokeByStroke_26 (st1 := [.int q5.2, .int v1]) rfl 29 rfl ?_
    refine j_icmp_ge C dX6_itemsStrokeByStroke_29 81 (by decide) 32 rfl (fun c => ?_) (fun c => ?_)
    · have h := it_t c h
      refine j_sub [(0, .ref (gA G 81))] [0] rfl ?_
      exact hK _ h
    · have h := it_f c h
      refine j_aload_n C dX6_itemsStrokeByStroke_32 rfl 0 rfl 33 rfl ?_
      refine j_get C foX6 sh81 5 (by decide) 77 rfl kw1_164 rfl dX6_itemsStrokeByStroke_33 (.ref (gA G 75)) (fv_r rfl) 36 rfl ?_
      refine j_aload_n C dX6_itemsStrokeByStroke_36 rfl 0 rfl 37 rfl ?_
      refine j_get C foX6 sh81 0 (by decide) 2 rfl kw1_159 rfl dX6_itemsStrokeByStroke_37 (.ref (gA G 0)) (fv_r rfl) 40 rfl ?_
      refine j_get C foX5 sh0 0 (by decide) 3 rfl kw1_74 rfl dX6_itemsStrokeByStroke_40 (.ref (gA G 1)) (fv_r rfl) 43 rfl ?_
      refine j_iload_n C dX6_itemsStrokeByStroke_43 rfl 1 rfl 44 rfl ?_
      obtain ⟨q7, e8, h⟩ := ob_some h
      refine j_callV C (ct_X3_at (eL E) G row1 e8) sh1 foX3 rfl vk_X3_at kw2_161 rfl ⟨Nat.le_of_ble_eq_true rfl, Nat.le_of_ble_eq_true rfl, rfl, rfl⟩ ⟨Nat.zero_le _, Nat.zero_le _⟩ (rest := [.ref (gA G 75)]) rfl (Nat.le_of_ble_eq_true rfl) dX6_itemsStrokeByStroke_44 (st1 := [.int q7.2, .ref (gA G 75)]) rfl 47 rfl ?_
      obtain ⟨q9, e10, h⟩ := ob_some h
      refine j_callV C (ct_X3_put (eL E) G row75 e10) sh75 foX3 rfl vk_X3_put kw2_162 rfl ⟨Nat.le_of_ble_eq_true rfl, Nat.le_of_ble_eq_true rfl, rfl, rfl⟩ ⟨Nat.zero_le _, Nat.zero_le _⟩ (rest := []) rfl (Nat.le_of_ble_eq_true rfl) dX6_itemsStrokeByStroke_47 (st1 := []) rfl 50 rfl ?_
      refine j_aload_n C dX6_itemsStrokeByStroke_50 rfl 0 rfl 51 rfl ?_
      refine j_get C foX6 sh81 6 (by decide) 70 rfl kw1_165 rfl dX6_itemsStrokeByStroke_51 (.ref (gA G 68)) (fv_r rfl) 54 rfl ?_
      refine j_iload_n C dX6_itemsStrokeByStroke_54 rfl 1 rfl 55 rfl ?_
      refine j_iconst C dX6_itemsStrokeByStroke_55 (3 : Int32) (by decide) 56 rfl ?_
      refine j_isub C dX6_itemsStrokeByStroke_56 57 rfl ?_
      obtain ⟨q11, e12, h⟩ := ob_some h
      refine j_callV C (ct_X2_dropFrom (eL E) G rdg68 e12) sh68 foX2 rfl vk_X2_dropFrom kw2_114 rfl ⟨Nat.le_of_ble_eq_true rfl, Nat.le_of_ble_eq_true rfl, rfl, rfl⟩ ⟨Nat.zero_le _, Nat.zero_le _⟩ (rest := []) rfl (Nat.le_of_ble_eq_true rfl) dX6_itemsStrokeByStroke_57 (st1 := []) rfl 60 rfl ?_
      refine j_aload_n C dX6_itemsStrokeByStroke_60 rfl 0 rfl 61 rfl ?_
      refine j_get C foX6 sh81 6 (by decide) 70 rfl kw1_165 rfl dX6_itemsStrokeByStroke_61 (.ref (gA G 68)) (fv_r rfl) 64 rfl ?_
      refine j_aload_n C dX6_itemsStrokeByStroke_64 rfl 0 rfl 65 rfl ?_
      refine j_get C foX6 sh81 5 (by decide) 77 rfl kw1_164 rfl dX6_itemsStrokeByStroke_65 (.ref (gA G 75)) (fv_r rfl) 68 rfl ?_
      refine j_aload_n C dX6_itemsStrokeByStroke_68 rfl 0 rfl 69 rfl ?_
      refine j_get C foX6 sh81 0 (by decide) 2 rfl kw1_159 rfl dX6_itemsStrokeByStroke_69 (.ref (gA G 0)) (fv_r rfl) 72 rfl ?_
      obtain ⟨q13, e14, h⟩ := ob_some h
      refine j_callV C (ct_X2_readOn (eL E) G rdg68 row75 sta0 e14) sh68 foX2 rfl vk_X2_readOn kw2_128 rfl ⟨Nat.le_of_ble_eq_true rfl, Nat.le_of_ble_eq_true rfl, rfl, rfl⟩ ⟨Nat.zero_le _, Nat.zero_le _⟩ (rest := []) rfl (Nat.le_of_ble_eq_true rfl) dX6_itemsStrokeByStroke_72 (st1 := []) rfl 75 rfl ?_
      refine j_iinc C dX6_itemsStrokeByStroke_75 1 rfl (v1 + (1 : Int32)) rfl (by decide) [(1, .int (v1 + (1 : Int32))), (0, .ref (gA G 81))] rfl 78 rfl ?_
      refine j_goto C dX6_itemsStrokeByStroke_78 18 (by decide) ?_
      refine j_sub [(0, .ref (gA G 81)), (1, .int (v1 + (1 : Int32)))] [1, 0] rfl ?_
      exact ih _ _ h
def X6_itemsStrokeByStroke (σ : Mem) : Option (Mem × Int32) :=
  ((X3_shorten 75 σ (0 : Int32)).bind fun q1 => ((X2_dropFrom 68 q1.1 (0 : Int32)).bind fun q3 => X6_itemsStrokeByStroke_18 (fun (σ : Mem)  => ((X2_size 68 σ).bind fun q15 => some (q15.1, q15.2))) FU q3.1 (0 : Int32)))
set_option maxHeartbeats 4000000 in
set_option maxRecDepth 100000 in
theorem ct_X6_itemsStrokeByStroke (l : Launch) (G : Gw)  {σ : Mem} {out : Mem × Int32} (h : X6_itemsStrokeByStroke σ = some out) : Ct l G yX6_itemsStrokeByStroke cX6_itemsStrokeByStroke 2 (some .int) { frames := 3, cells := 0, slots := 0, locals := 76 } [.ref (gA G 81)] σ out.1 (some (.int out.2)) := by
  refine Ct.of (by decide +kernel) (Nat.le_of_ble_eq_true rfl) (fun E hE C F => ?_)
  subst hE
  have C : Cx E G RX6 cX6_itemsStrokeByStroke 2 { frames := 3, cells := 0, slots := 0, locals := 76 } := C
  unfold X6_itemsStrokeByStroke at h
  show J E G 2 0 0 σ 0 [(0, .ref (gA G 81))] []
  refine j_aload_n C dX6_itemsStrokeByStroke_0 rfl 0 rfl 1 rfl ?_
  refine j_get C foX6 sh81 5 (by decide) 77 rfl kw1_164 rfl dX6_itemsStrokeByStroke_1 (.ref (gA G 75)) (fv_r rfl) 4 rfl ?_
  refine j_iconst C dX6_itemsStrokeByStroke_4 (0 : Int32) (by decide) 5 rfl ?_
  obtain ⟨q1, e2, h⟩ := ob_some h
  refine j_callV C (ct_X3_shorten (eL E) G row75 e2) sh75 foX3 rfl vk_X3_shorten kw2_160 rfl ⟨Nat.le_of_ble_eq_true rfl, Nat.le_of_ble_eq_true rfl, rfl, rfl⟩ ⟨Nat.zero_le _, Nat.zero_le _⟩ (rest := []) rfl (Nat.le_of_ble_eq_true rfl) dX6_itemsStrokeByStroke_5 (st1 := []) rfl 8 rfl ?_
  refine j_aload_n C dX6_itemsStrokeByStroke_8 rfl 0 rfl 9 rfl ?_
  refine j_get C foX6 sh81 6 (by decide) 70 rfl kw1_165 rfl dX6_itemsStrokeByStroke_9 (.ref (gA G 68)) (fv_r rfl) 12 rfl ?_
  refine j_iconst C dX6_itemsStrokeByStroke_12 (0 : Int32) (by decide) 13 rfl ?_
  obtain ⟨q3, e4, h⟩ := ob_some h
  refine j_callV C (ct_X2_dropFrom (eL E) G rdg68 e4) sh68 foX2 rfl vk_X2_dropFrom kw2_114 rfl ⟨Nat.le_of_ble_eq_true rfl, Nat.le_of_ble_eq_true rfl, rfl, rfl⟩ ⟨Nat.zero_le _, Nat.zero_le _⟩ (rest := []) rfl (Nat.le_of_ble_eq_true rfl) dX6_itemsStrokeByStroke_13 (st1 := []) rfl 16 rfl ?_
  refine j_iconst C dX6_itemsStrokeByStroke_16 (0 : Int32) (by decide) 17 rfl ?_
  refine j_istore_n C dX6_itemsStrokeByStroke_17 rfl (by decide) [(1, .int (0 : Int32)), (0, .ref (gA G 81))] rfl 18 rfl ?_
  refine j_sub [(0, .ref (gA G 81)), (1, .int (0 : Int32))] [1, 0] rfl ?_
  refine w_X6_itemsStrokeByStroke_18 C F  (fun σ  h => ?_) FU _ _ h
  refine j_aload_n C dX6_itemsStrokeByStroke_81 rfl 0 rfl 82 rfl ?_
  refine j_get C foX6 sh81 6 (by decide) 70 rfl kw1_165 rfl dX6_itemsStrokeByStroke_82 (.ref (gA G 68)) (fv_r rfl) 85 rfl ?_
  obtain ⟨q15, e16, h⟩ := ob_some h
  refine j_callV C (ct_X2_size (eL E) G rdg68 e16) sh68 foX2 rfl vk_X2_size kw2_163 rfl ⟨Nat.le_of_ble_eq_true rfl, Nat.le_of_ble_eq_true rfl, rfl, rfl⟩ ⟨Nat.zero_le _, Nat.zero_le _⟩ (rest := []) rfl (Nat.le_of_ble_eq_true rfl) dX6_itemsStrokeByStroke_85 (st1 := [.int q15.2]) rfl 88 rfl ?_
  exact j_iret C F dX6_itemsStrokeByStroke_88 h

-- ===== StenoChords.rawItems()I
theorem vk_X6_rawItems : VK yX6_rawItems cX6_rawItems 1 (some .int) 0 := ⟨kw2_167, kw2_166, kwS_6, kw1_1, by decide +kernel⟩
def X6_rawItems (σ : Mem) : Option (Mem × Int32) :=
  ((X2_itemsOf 61 σ (-1 : Int32)).bind fun q1 => some (q1.1, q1.2))
set_option maxHeartbeats 4000000 in
set_option maxRecDepth 100000 in
theorem ct_X6_rawItems (l : Launch) (G : Gw)  {σ : Mem} {out : Mem × Int32} (h : X6_rawItems σ = some out) : Ct l G yX6_rawItems cX6_rawItems 1 (some .int) { frames := 3, cells := 0, slots := 0, locals := 65 } [.ref (gA G 81)] σ out.1 (some (.int out.2)) := by
  refine Ct.of (by decide +kernel) (Nat.le_of_ble_eq_true rfl) (fun E hE C F => ?_)
  subst hE
  have C : Cx E G RX6 cX6_rawItems 1 { frames := 3, cells := 0, slots := 0, locals := 65 } := C
  unfold X6_rawItems at h
  show J E G 1 0 0 σ 0 [(0, .ref (gA G 81))] []
  refine j_aload_n C dX6_rawItems_0 rfl 0 rfl 1 rfl ?_
  refine j_get C foX6 sh81 4 (by decide) 63 rfl kw1_163 rfl dX6_rawItems_1 (.ref (gA G 61)) (fv_r rfl) 4 rfl ?_
  refine j_iconst C dX6_rawItems_4 (-1 : Int32) (by decide) 5 rfl ?_
  obtain ⟨q1, e2, h⟩ := ob_some h
  refine j_callV C (ct_X2_itemsOf (eL E) G rdg61 e2) sh61 foX2 rfl vk_X2_itemsOf kw2_168 rfl ⟨Nat.le_of_ble_eq_true rfl, Nat.le_of_ble_eq_true rfl, rfl, rfl⟩ ⟨Nat.zero_le _, Nat.zero_le _⟩ (rest := []) rfl (Nat.le_of_ble_eq_true rfl) dX6_rawItems_5 (st1 := [.int q1.2]) rfl 8 rfl ?_
  exact j_iret C F dX6_rawItems_8 h

-- ===== StenoChords.countNumber(I)I
theorem vk_X6_countNumber : VK yX6_countNumber cX6_countNumber 2 (some .int) 1 := ⟨kw2_155, kw2_154, kwS_4, kw1_1, by decide +kernel⟩
def X6_countNumber (σ : Mem) (p1 : Int32) : Option (Mem × Int32) :=
  (if p1 = (0 : Int32) then ((X3_length 1 σ).bind fun q1 => some (q1.1, q1.2)) else (if p1 = (1 : Int32) then ((X6_itemsStrokeByStroke σ).bind fun q3 => some (q3.1, q3.2)) else (if p1 = (2 : Int32) then ((X2_size 61 σ).bind fun q5 => some (q5.1, q5.2)) else (if p1 = (3 : Int32) then ((X6_rawItems σ).bind fun q7 => some (q7.1, q7.2)) else (if p1 = (4 : Int32) then ((X0_size 3 σ).bind fun q9 => some (q9.1, q9.2)) else (if p1 = (5 : Int32) then some (σ, (σ.1 0 4)) else (if p1 = (6 : Int32) then some (σ, (σ.1 0 5)) else (if p1 = (7 : Int32) then some (σ, (σ.1 0 6)) else (if p1 = (8 : Int32) then some (σ, (σ.1 0 7)) else ((X4_size σ).bind fun q11 => some (q11.1, q11.2)))))))))))
set_option maxHeartbeats 4000000 in
set_option maxRecDepth 100000 in
theorem ct_X6_countNumber (l : Launch) (G : Gw)  {σ : Mem} {p1 : Int32} {out : Mem × Int32} (h : X6_countNumber σ p1 = some out) : Ct l G yX6_countNumber cX6_countNumber 2 (some .int) { frames := 4, cells := 0, slots := 0, locals := 97 } [.ref (gA G 81), .int p1] σ out.1 (some (.int out.2)) := by
  refine Ct.of (by decide +kernel) (Nat.le_of_ble_eq_true rfl) (fun E hE C F => ?_)
  subst hE
  have C : Cx E G RX6 cX6_countNumber 2 { frames := 4, cells := 0, slots := 0, locals := 97 } := C
  unfold X6_countNumber at h
  show J E G 2 0 0 σ 0 [(0, .ref (gA G 81)), (1, .int p1)] []
  refine j_iload_n C dX6_countNumber_0 rfl 1 rfl 1 rfl ?_
  by_cases c0 : p1 = (0 : Int32)
  · have h := it_t c0 h
    refine j_tableIn C dX6_countNumber_1 (by rw [c0]; decide) (by rw [c0]; decide) (off := 51) (by rw [c0]; rfl) 52 (by decide) ?_
    refine j_aload_n C dX6_countNumber_52 rfl 0 rfl 53 rfl ?_
    refine j_get C foX6 sh81 0 (by decide) 2 rfl kw1_159 rfl dX6_countNumber_53 (.ref (gA G 0)) (fv_r rfl) 56 rfl ?_
    refine j_get C foX5 sh0 0 (by decide) 3 rfl kw1_74 rfl dX6_countNumber_56 (.ref (gA G 1)) (fv_r rfl) 59 rfl ?_
    obtain ⟨q1, e2, h⟩ := ob_some h
    refine j_callV C (ct_X3_length (eL E) G row1 e2) sh1 foX3 rfl vk_X3_length kw1_238 rfl ⟨Nat.le_of_ble_eq_true rfl, Nat.le_of_ble_eq_true rfl, rfl, rfl⟩ ⟨Nat.zero_le _, Nat.zero_le _⟩ (rest := []) rfl (Nat.le_of_ble_eq_true rfl) dX6_countNumber_59 (st1 := [.int q1.2]) rfl 62 rfl ?_
    exact j_iret C F dX6_countNumber_62 h
  have h := it_f c0 h
  by_cases c1 : p1 = (1 : Int32)
  · have h := it_t c1 h
    refine j_tableIn C dX6_countNumber_1 (by rw [c1]; decide) (by rw [c1]; decide) (off := 62) (by rw [c1]; rfl) 63 (by decide) ?_
    refine j_aload_n C dX6_countNumber_63 rfl 0 rfl 64 rfl ?_
    obtain ⟨q3, e4, h⟩ := ob_some h
    refine j_callV C (ct_X6_itemsStrokeByStroke (eL E) G  e4) sh81 foX6 rfl vk_X6_itemsStrokeByStroke kw2_156 rfl ⟨Nat.le_of_ble_eq_true rfl, Nat.le_of_ble_eq_true rfl, rfl, rfl⟩ ⟨Nat.zero_le _, Nat.zero_le _⟩ (rest := []) rfl (Nat.le_of_ble_eq_true rfl) dX6_countNumber_64 (st1 := [.int q3.2]) rfl 67 rfl ?_
    exact j_iret C F dX6_countNumber_67 h
  have h := it_f c1 h
  by_cases c2 : p1 = (2 : Int32)
  · have h := it_t c2 h
    refine j_tableIn C dX6_countNumber_1 (by rw [c2]; decide) (by rw [c2]; decide) (off := 67) (by rw [c2]; rfl) 68 (by decide) ?_
    refine j_aload_n C dX6_countNumber_68 rfl 0 rfl 69 rfl ?_
    refine j_get C foX6 sh81 4 (by decide) 63 rfl kw1_163 rfl dX6_countNumber_69 (.ref (gA G 61)) (fv_r rfl) 72 rfl ?_
    obtain ⟨q5, e6, h⟩ := ob_some h
    refine j_callV C (ct_X2_size (eL E) G rdg61 e6) sh61 foX2 rfl vk_X2_size kw2_163 rfl ⟨Nat.le_of_ble_eq_true rfl, Nat.le_of_ble_eq_true rfl, rfl, rfl⟩ ⟨Nat.zero_le _, Nat.zero_le _⟩ (rest := []) rfl (Nat.le_of_ble_eq_true rfl) dX6_countNumber_72 (st1 := [.int q5.2]) rfl 75 rfl ?_
    exact j_iret C F dX6_countNumber_75 h
  have h := it_f c2 h
  by_cases c3 : p1 = (3 : Int32)
  · have h := it_t c3 h
    refine j_tableIn C dX6_countNumber_1 (by rw [c3]; decide) (by rw [c3]; decide) (off := 75) (by rw [c3]; rfl) 76 (by decide) ?_
    refine j_aload_n C dX6_countNumber_76 rfl 0 rfl 77 rfl ?_
    obtain ⟨q7, e8, h⟩ := ob_some h
    refine j_callV C (ct_X6_rawItems (eL E) G  e8) sh81 foX6 rfl vk_X6_rawItems kw2_164 rfl ⟨Nat.le_of_ble_eq_true rfl, Nat.le_of_ble_eq_true rfl, rfl, rfl⟩ ⟨Nat.zero_le _, Nat.zero_le _⟩ (rest := []) rfl (Nat.le_of_ble_eq_true rfl) dX6_countNumber_77 (st1 := [.int q7.2]) rfl 80 rfl ?_
    exact j_iret C F dX6_countNumber_80 h
  have h := it_f c3 h
  by_cases c4 : p1 = (4 : Int32)
  · have h := it_t c4 h
    refine j_tableIn C dX6_countNumber_1 (by rw [c4]; decide) (by rw [c4]; decide) (off := 80) (by rw [c4]; rfl) 81 (by decide) ?_
    refine j_aload_n C dX6_countNumber_81 rfl 0 rfl 82 rfl ?_
    refine j_get C foX6 sh81 0 (by decide) 2 rfl kw1_159 rfl dX6_countNumber_82 (.ref (gA G 0)) (fv_r rfl) 85 rfl ?_
    refine j_get C foX5 sh0 1 (by decide) 5 rfl kw1_76 rfl dX6_countNumber_85 (.ref (gA G 3)) (fv_r rfl) 88 rfl ?_
    obtain ⟨q9, e10, h⟩ := ob_some h
    refine j_callV C (ct_X0_size (eL E) G ent3 e10) sh3 foX0 rfl vk_X0_size kw2_172 rfl ⟨Nat.le_of_ble_eq_true rfl, Nat.le_of_ble_eq_true rfl, rfl, rfl⟩ ⟨Nat.zero_le _, Nat.zero_le _⟩ (rest := []) rfl (Nat.le_of_ble_eq_true rfl) dX6_countNumber_88 (st1 := [.int q9.2]) rfl 91 rfl ?_
    exact j_iret C F dX6_countNumber_91 h
  have h := it_f c4 h
  by_cases c5 : p1 = (5 : Int32)
  · have h := it_t c5 h
    refine j_tableIn C dX6_countNumber_1 (by rw [c5]; decide) (by rw [c5]; decide) (off := 91) (by rw [c5]; rfl) 92 (by decide) ?_
    refine j_aload_n C dX6_countNumber_92 rfl 0 rfl 93 rfl ?_
    refine j_get C foX6 sh81 0 (by decide) 2 rfl kw1_159 rfl dX6_countNumber_93 (.ref (gA G 0)) (fv_r rfl) 96 rfl ?_
    refine j_get C foX5 sh0 4 (by decide) 0 rfl kw1_84 rfl dX6_countNumber_96 (.int (σ.1 0 4)) rfl 99 rfl ?_
    exact j_iret C F dX6_countNumber_99 h
  have h := it_f c5 h
  by_cases c6 : p1 = (6 : Int32)
  · have h := it_t c6 h
    refine j_tableIn C dX6_countNumber_1 (by rw [c6]; decide) (by rw [c6]; decide) (off := 99) (by rw [c6]; rfl) 100 (by decide) ?_
    refine j_aload_n C dX6_countNumber_100 rfl 0 rfl 101 rfl ?_
    refine j_get C foX6 sh81 0 (by decide) 2 rfl kw1_159 rfl dX6_countNumber_101 (.ref (gA G 0)) (fv_r rfl) 104 rfl ?_
    refine j_get C foX5 sh0 5 (by decide) 0 rfl kw1_86 rfl dX6_countNumber_104 (.int (σ.1 0 5)) rfl 107 rfl ?_
    exact j_iret C F dX6_countNumber_107 h
  have h := it_f c6 h
  by_cases c7 : p1 = (7 : Int32)
  · have h := it_t c7 h
    refine j_tableIn C dX6_countNumber_1 (by rw [c7]; decide) (by rw [c7]; decide) (off := 107) (by rw [c7]; rfl) 108 (by decide) ?_
    refine j_aload_n C dX6_countNumber_108 rfl 0 rfl 109 rfl ?_
    refine j_get C foX6 sh81 0 (by decide) 2 rfl kw1_159 rfl dX6_countNumber_109 (.ref (gA G 0)) (fv_r rfl) 112 rfl ?_
    refine j_get C foX5 sh0 6 (by decide) 0 rfl kw1_88 rfl dX6_countNumber_112 (.int (σ.1 0 6)) rfl 115 rfl ?_
    exact j_iret C F dX6_countNumber_115 h
  have h := it_f c7 h
  by_cases c8 : p1 = (8 : Int32)
  · have h := it_t c8 h
    refine j_tableIn C dX6_countNumber_1 (by rw [c8]; decide) (by rw [c8]; decide) (off := 115) (by rw [c8]; rfl) 116 (by decide) ?_
    refine j_aload_n C dX6_countNumber_116 rfl 0 rfl 117 rfl ?_
    refine j_get C foX6 sh81 0 (by decide) 2 rfl kw1_159 rfl dX6_countNumber_117 (.ref (gA G 0)) (fv_r rfl) 120 rfl ?_
    refine j_get C foX5 sh0 7 (by decide) 0 rfl kw1_90 rfl dX6_countNumber_120 (.int (σ.1 0 7)) rfl 123 rfl ?_
    exact j_iret C F dX6_countNumber_123 h
  have h := it_f c8 h
  refine j_tableOut C dX6_countNumber_1 (by have n0 := tsw_ne (z := 0) (by decide) c0; have n1 := tsw_ne (z := 1) (by decide) c1; have n2 := tsw_ne (z := 2) (by decide) c2; have n3 := tsw_ne (z := 3) (by decide) c3; have n4 := tsw_ne (z := 4) (by decide) c4; have n5 := tsw_ne (z := 5) (by decide) c5; have n6 := tsw_ne (z := 6) (by decide) c6; have n7 := tsw_ne (z := 7) (by decide) c7; have n8 := tsw_ne (z := 8) (by decide) c8; omega) 124 (by decide) ?_
  refine j_aload_n C dX6_countNumber_124 rfl 0 rfl 125 rfl ?_
  refine j_get C foX6 sh81 2 (by decide) 58 rfl kw1_161 rfl dX6_countNumber_125 (.ref (gA G 56)) (fv_r rfl) 128 rfl ?_
  obtain ⟨q11, e12, h⟩ := ob_some h
  refine j_callV C (ct_X4_size (eL E) G  e12) sh56 foX4 rfl vk_X4_size kw2_6 rfl ⟨Nat.le_of_ble_eq_true rfl, Nat.le_of_ble_eq_true rfl, rfl, rfl⟩ ⟨Nat.zero_le _, Nat.zero_le _⟩ (rest := []) rfl (Nat.le_of_ble_eq_true rfl) dX6_countNumber_128 (st1 := [.int q11.2]) rfl 131 rfl ?_
  exact j_iret C F dX6_countNumber_131 h

-- ===== StenoChords.count(I)I
theorem vk_X6_count : VK yX6_count cX6_count 2 (some .int) 1 := ⟨kw2_93, kw2_91, kw2_92, kw1_1, by decide +kernel⟩
def X6_count (σ : Mem) (p1 : Int32) : Option (Mem × (Int32 ⊕ Nat)) :=
  (if p1 < 0 then some (σ, Sum.inr 0) else (if p1 < (10 : Int32) then ((X6_readPaper σ).bind fun q1 => ((X6_countNumber q1.1 p1).bind fun q3 => some (q3.1, Sum.inl q3.2))) else some (σ, Sum.inr 0)))
set_option maxHeartbeats 4000000 in
set_option maxRecDepth 100000 in
theorem wk_X6_count {E : Ev} {G : Gw} {kc ks : Nat} (C : Cx E G RX6 cX6_count 2 { frames := 6, cells := kc, slots := ks, locals := 118 }) {out : Mem × (Int32 ⊕ Nat)} (F : Efx E G out (some .int))  {σ : Mem} {p1 : Int32} (h : X6_count σ p1 = some out) : J E G 2 0 0 σ 0 [(0, .ref (gA G 81)), (1, .int p1)] [] := by
  unfold X6_count at h
  refine j_iload_n C dX6_count_0 rfl 1 rfl 1 rfl ?_
  refine j_if_lt C dX6_count_1 10 (by decide) 4 rfl (fun c => ?_) (fun c => ?_)
  · have h := it_t c h
    exact j_throw C F (x := 0) (by decide +kernel) kw2_94 kw1_12 str_231 ha_0_62 dX6_count_10 dX6_count_13 dX6_count_14 dX6_count_16 dX6_count_19 ⟨Nat.le_of_ble_eq_true rfl, Nat.le_of_ble_eq_true rfl⟩ h
  · have h := it_f c h
    refine j_iload_n C dX6_count_4 rfl 1 rfl 5 rfl ?_
    refine j_bipush C dX6_count_5 (10 : Int32) (by decide) 7 rfl ?_
    refine j_icmp_lt C dX6_count_7 20 (by decide) 10 rfl (fun c => ?_) (fun c => ?_)
    · have h := it_t c h
      refine j_aload_n C dX6_count_20 rfl 0 rfl 21 rfl ?_
      obtain ⟨q1, e2, h⟩ := ob_some h
      refine j_callV C (ct_X6_readPaper (eL E) G  e2) sh81 foX6 rfl vk_X6_readPaper kw2_110 rfl ⟨Nat.le_of_ble_eq_true rfl, Nat.le_of_ble_eq_true rfl, rfl, rfl⟩ ⟨Nat.zero_le _, Nat.zero_le _⟩ (rest := []) rfl (Nat.le_of_ble_eq_true rfl) dX6_count_21 (st1 := []) rfl 24 rfl ?_
      refine j_aload_n C dX6_count_24 rfl 0 rfl 25 rfl ?_
      refine j_iload_n C dX6_count_25 rfl 1 rfl 26 rfl ?_
      obtain ⟨q3, e4, h⟩ := ob_some h
      refine j_callV C (ct_X6_countNumber (eL E) G  e4) sh81 foX6 rfl vk_X6_countNumber kw2_152 rfl ⟨Nat.le_of_ble_eq_true rfl, Nat.le_of_ble_eq_true rfl, rfl, rfl⟩ ⟨Nat.zero_le _, Nat.zero_le _⟩ (rest := []) rfl (Nat.le_of_ble_eq_true rfl) dX6_count_26 (st1 := [.int q3.2]) rfl 29 rfl ?_
      exact j_iretX C F dX6_count_29 h
    · have h := it_f c h
      exact j_throw C F (x := 0) (by decide +kernel) kw2_94 kw1_12 str_231 ha_0_62 dX6_count_10 dX6_count_13 dX6_count_14 dX6_count_16 dX6_count_19 ⟨Nat.le_of_ble_eq_true rfl, Nat.le_of_ble_eq_true rfl⟩ h
set_option maxHeartbeats 4000000 in
set_option maxRecDepth 100000 in
theorem ct_X6_count (l : Launch) (G : Gw)  {σ : Mem} {p1 : Int32} {out : Mem × Int32} (h : X6_count σ p1 = some (out.1, .inl out.2)) : Ct l G yX6_count cX6_count 2 (some .int) { frames := 6, cells := 0, slots := 0, locals := 118 } [.ref (gA G 81), .int p1] σ out.1 (some (.int out.2)) :=
  Ct.of (by decide +kernel) (Nat.le_of_ble_eq_true rfl) (fun E hE C F => wk_X6_count C ⟨fun v hv => (by cases hv; exact F), fun x hx => (by cases hx)⟩ h)
theorem cx_X6_count (l : Launch) (hst : l.stackTraces = false) (G : Gw)  {σ σ2 : Mem} {p1 : Int32} {x : Nat} (h : X6_count σ p1 = some (σ2, .inr x)) : Cx1 l G yX6_count cX6_count 2 (some .int) { frames := 6, cells := 1, slots := 6, locals := 118 } [.ref (gA G 81), .int p1] σ σ2 x :=
    Cx1.of (by decide +kernel) (Nat.le_of_ble_eq_true rfl) hst ⟨by decide, by decide⟩ (fun E hE C F => wk_X6_count C ⟨fun v hv => (by cases hv), fun x hx => (by cases hx; exact F)⟩ h)

-- ===== StenoChords.setting(I)I
theorem vk_X6_setting : VK yX6_setting cX6_setting 2 (some .int) 1 := ⟨kw3_0, kw2_238, kw2_239, kw1_1, by decide +kernel⟩
def X6_setting (σ : Mem) (p1 : Int32) : Option (Mem × (Int32 ⊕ Nat)) :=
  (if p1 < 0 then some (σ, Sum.inr 2) else (if p1 < (2 : Int32) then ((X6_settingNumber σ p1).bind fun q1 => some (q1.1, Sum.inl q1.2)) else some (σ, Sum.inr 2)))
set_option maxHeartbeats 4000000 in
set_option maxRecDepth 100000 in
theorem wk_X6_setting {E : Ev} {G : Gw} {kc ks : Nat} (C : Cx E G RX6 cX6_setting 2 { frames := 6, cells := kc, slots := ks, locals := 82 }) {out : Mem × (Int32 ⊕ Nat)} (F : Efx E G out (some .int))  {σ : Mem} {p1 : Int32} (h : X6_setting σ p1 = some out) : J E G 2 0 0 σ 0 [(0, .ref (gA G 81)), (1, .int p1)] [] := by
  unfold X6_setting at h
  refine j_iload_n C dX6_setting_0 rfl 1 rfl 1 rfl ?_
  refine j_if_lt C dX6_setting_1 9 (by decide) 4 rfl (fun c => ?_) (fun c => ?_)
  · have h := it_t c h
    exact j_throw C F (x := 2) (by decide +kernel) kw2_194 kw1_13 str_171 ha_2_124 dX6_setting_9 dX6_setting_12 dX6_setting_13 dX6_setting_15 dX6_setting_18 ⟨Nat.le_of_ble_eq_true rfl, Nat.le_of_ble_eq_true rfl⟩ h
  · have h := it_f c h
    refine j_iload_n C dX6_setting_4 rfl 1 rfl 5 rfl ?_
    refine j_iconst C dX6_setting_5 (2 : Int32) (by decide) 6 rfl ?_
    refine j_icmp_lt C dX6_setting_6 19 (by decide) 9 rfl (fun c => ?_) (fun c => ?_)
    · have h := it_t c h
      refine j_aload_n C dX6_setting_19 rfl 0 rfl 20 rfl ?_
      refine j_iload_n C dX6_setting_20 rfl 1 rfl 21 rfl ?_
      obtain ⟨q1, e2, h⟩ := ob_some h
      refine j_callV C (ct_X6_settingNumber (eL E) G  e2) sh81 foX6 rfl vk_X6_settingNumber kw3_2 rfl ⟨Nat.le_of_ble_eq_true rfl, Nat.le_of_ble_eq_true rfl, rfl, rfl⟩ ⟨Nat.zero_le _, Nat.zero_le _⟩ (rest := []) rfl (Nat.le_of_ble_eq_true rfl) dX6_setting_21 (st1 := [.int q1.2]) rfl 24 rfl ?_
      exact j_iretX C F dX6_setting_24 h
    · have h := it_f c h
      exact j_throw C F (x := 2) (by decide +kernel) kw2_194 kw1_13 str_171 ha_2_124 dX6_setting_9 dX6_setting_12 dX6_setting_13 dX6_setting_15 dX6_setting_18 ⟨Nat.le_of_ble_eq_true rfl, Nat.le_of_ble_eq_true rfl⟩ h
set_option maxHeartbeats 4000000 in
set_option maxRecDepth 100000 in
theorem ct_X6_setting (l : Launch) (G : Gw)  {σ : Mem} {p1 : Int32} {out : Mem × Int32} (h : X6_setting σ p1 = some (out.1, .inl out.2)) : Ct l G yX6_setting cX6_setting 2 (some .int) { frames := 6, cells := 0, slots := 0, locals := 82 } [.ref (gA G 81), .int p1] σ out.1 (some (.int out.2)) :=
  Ct.of (by decide +kernel) (Nat.le_of_ble_eq_true rfl) (fun E hE C F => wk_X6_setting C ⟨fun v hv => (by cases hv; exact F), fun x hx => (by cases hx)⟩ h)
theorem cx_X6_setting (l : Launch) (hst : l.stackTraces = false) (G : Gw)  {σ σ2 : Mem} {p1 : Int32} {x : Nat} (h : X6_setting σ p1 = some (σ2, .inr x)) : Cx1 l G yX6_setting cX6_setting 2 (some .int) { frames := 6, cells := 1, slots := 6, locals := 82 } [.ref (gA G 81), .int p1] σ σ2 x :=
    Cx1.of (by decide +kernel) (Nat.le_of_ble_eq_true rfl) hst ⟨by decide, by decide⟩ (fun E hE C F => wk_X6_setting C ⟨fun v hv => (by cases hv), fun x hx => (by cases hx; exact F)⟩ h)

-- ===== StenoChords.ifStruck(II)I
theorem vk_X6_ifStruck : VK yX6_ifStruck cX6_ifStruck 4 (some .int) 2 := ⟨kw4_95, kw4_93, kw4_94, kw1_1, by decide +kernel⟩
def X6_ifStruck (σ : Mem) (p1 : Int32) (p2 : Int32) : Option (Mem × (Int32 ⊕ Nat)) :=
  (if p1 ≤ 0 then some (σ, Sum.inr 0) else (if p1 ≤ (1023 : Int32) then (if p2 < 0 then some (σ, Sum.inr 0) else (if p2 < (3 : Int32) then ((X3_become 75 1 σ).bind fun q1 => ((X3_put 75 q1.1 p1).bind fun q3 => ((X2_dropFrom 68 q3.1 (0 : Int32)).bind fun q5 => ((X2_readOn 68 75 0 q5.1).bind fun q7 => ((X2_size 68 q7.1).bind fun q9 => (if p2 = (0 : Int32) then ((X2_leaderAt 68 q9.1 (q9.2 - (1 : Int32))).bind fun q11 => ((X0_wordOf 3 q11.1 q11.2).bind fun q13 => some (q13.1, Sum.inl q13.2))) else (if p2 = (1 : Int32) then ((X2_lengthAt 68 q9.1 (q9.2 - (1 : Int32))).bind fun q15 => some (q15.1, Sum.inl q15.2)) else ((X2_size 68 q9.1).bind fun q17 => some (q17.1, Sum.inl q17.2))))))))) else some (σ, Sum.inr 0))) else some (σ, Sum.inr 0)))
set_option maxHeartbeats 4000000 in
set_option maxRecDepth 100000 in
theorem wk_X6_ifStruck {E : Ev} {G : Gw} {kc ks : Nat} (C : Cx E G RX6 cX6_ifStruck 4 { frames := 6, cells := kc, slots := ks, locals := 82 }) {out : Mem × (Int32 ⊕ Nat)} (F : Efx E G out (some .int))  {σ : Mem} {p1 : Int32} {p2 : Int32} (h : X6_ifStruck σ p1 p2 = some out) : J E G 4 0 0 σ 0 [(0, .ref (gA G 81)), (1, .int p1), (2, .int p2)] [] := by
  unfold X6_ifStruck at h
  refine j_iload_n C dX6_ifStruck_0 rfl 1 rfl 1 rfl ?_
  refine j_if_le C dX6_ifStruck_1 11 (by decide) 4 rfl (fun c => ?_) (fun c => ?_)
  · have h := it_t c h
    exact j_throw C F (x := 0) (by decide +kernel) kw2_94 kw1_12 str_60 ha_0_62 dX6_ifStruck_11 dX6_ifStruck_14 dX6_ifStruck_15 dX6_ifStruck_17 dX6_ifStruck_20 ⟨Nat.le_of_ble_eq_true rfl, Nat.le_of_ble_eq_true rfl⟩ h
  · have h := it_f c h
    refine j_iload_n C dX6_ifStruck_4 rfl 1 rfl 5 rfl ?_
    refine j_sipush C dX6_ifStruck_5 (1023 : Int32) (by decide) 8 rfl ?_
    refine j_icmp_le C dX6_ifStruck_8 21 (by decide) 11 rfl (fun c => ?_) (fun c => ?_)
    · have h := it_t c h
      refine j_iload_n C dX6_ifStruck_21 rfl 2 rfl 22 rfl ?_
      refine j_if_lt C dX6_ifStruck_22 30 (by decide) 25 rfl (fun c => ?_) (fun c => ?_)
      · have h := it_t c h
        exact j_throw C F (x := 0) (by decide +kernel) kw2_94 kw1_12 str_231 ha_0_62 dX6_ifStruck_30 dX6_ifStruck_33 dX6_ifStruck_34 dX6_ifStruck_36 dX6_ifStruck_39 ⟨Nat.le_of_ble_eq_true rfl, Nat.le_of_ble_eq_true rfl⟩ h
      · have h := it_f c h
        refine j_iload_n C dX6_ifStruck_25 rfl 2 rfl 26 rfl ?_
        refine j_iconst C dX6_ifStruck_26 (3 : Int32) (by decide) 27 rfl ?_
        refine j_icmp_lt C dX6_ifStruck_27 40 (by decide) 30 rfl (fun c => ?_) (fun c => ?_)
        · have h := it_t c h
          refine j_aload_n C dX6_ifStruck_40 rfl 0 rfl 41 rfl ?_
          refine j_get C foX6 sh81 5 (by decide) 77 rfl kw1_164 rfl dX6_ifStruck_41 (.ref (gA G 75)) (fv_r rfl) 44 rfl ?_
          refine j_aload_n C dX6_ifStruck_44 rfl 0 rfl 45 rfl ?_
          refine j_get C foX6 sh81 0 (by decide) 2 rfl kw1_159 rfl dX6_ifStruck_45 (.ref (gA G 0)) (fv_r rfl) 48 rfl ?_
          refine j_get C foX5 sh0 0 (by decide) 3 rfl kw1_74 rfl dX6_ifStruck_48 (.ref (gA G 1)) (fv_r rfl) 51 rfl ?_
          obtain ⟨q1, e2, h⟩ := ob_some h
          refine j_callV C (ct_X3_become (eL E) G row75 row1 e2) sh75 foX3 rfl vk_X3_become kw4_96 rfl ⟨Nat.le_of_ble_eq_true rfl, Nat.le_of_ble_eq_true rfl, rfl, rfl⟩ ⟨Nat.zero_le _, Nat.zero_le _⟩ (rest := []) rfl (Nat.le_of_ble_eq_true rfl) dX6_ifStruck_51 (st1 := []) rfl 54 rfl ?_
          refine j_aload_n C dX6_ifStruck_54 rfl 0 rfl 55 rfl ?_
          refine j_get C foX6 sh81 5 (by decide) 77 rfl kw1_164 rfl dX6_ifStruck_55 (.ref (gA G 75)) (fv_r rfl) 58 rfl ?_
          refine j_iload_n C dX6_ifStruck_58 rfl 1 rfl 59 rfl ?_
          obtain ⟨q3, e4, h⟩ := ob_some h
          refine j_callV C (ct_X3_put (eL E) G row75 e4) sh75 foX3 rfl vk_X3_put kw2_162 rfl ⟨Nat.le_of_ble_eq_true rfl, Nat.le_of_ble_eq_true rfl, rfl, rfl⟩ ⟨Nat.zero_le _, Nat.zero_le _⟩ (rest := []) rfl (Nat.le_of_ble_eq_true rfl) dX6_ifStruck_59 (st1 := []) rfl 62 rfl ?_
          refine j_aload_n C dX6_ifStruck_62 rfl 0 rfl 63 rfl ?_
          refine j_get C foX6 sh81 6 (by decide) 70 rfl kw1_165 rfl dX6_ifStruck_63 (.ref (gA G 68)) (fv_r rfl) 66 rfl ?_
          refine j_iconst C dX6_ifStruck_66 (0 : Int32) (by decide) 67 rfl ?_
          obtain ⟨q5, e6, h⟩ := ob_some h
          refine j_callV C (ct_X2_dropFrom (eL E) G rdg68 e6) sh68 foX2 rfl vk_X2_dropFrom kw2_114 rfl ⟨Nat.le_of_ble_eq_true rfl, Nat.le_of_ble_eq_true rfl, rfl, rfl⟩ ⟨Nat.zero_le _, Nat.zero_le _⟩ (rest := []) rfl (Nat.le_of_ble_eq_true rfl) dX6_ifStruck_67 (st1 := []) rfl 70 rfl ?_
          refine j_aload_n C dX6_ifStruck_70 rfl 0 rfl 71 rfl ?_
          refine j_get C foX6 sh81 6 (by decide) 70 rfl kw1_165 rfl dX6_ifStruck_71 (.ref (gA G 68)) (fv_r rfl) 74 rfl ?_
          refine j_aload_n C dX6_ifStruck_74 rfl 0 rfl 75 rfl ?_
          refine j_get C foX6 sh81 5 (by decide) 77 rfl kw1_164 rfl dX6_ifStruck_75 (.ref (gA G 75)) (fv_r rfl) 78 rfl ?_
          refine j_aload_n C dX6_ifStruck_78 rfl 0 rfl 79 rfl ?_
          refine j_get C foX6 sh81 0 (by decide) 2 rfl kw1_159 rfl dX6_ifStruck_79 (.ref (gA G 0)) (fv_r rfl) 82 rfl ?_
          obtain ⟨q7, e8, h⟩ := ob_some h
          refine j_callV C (ct_X2_readOn (eL E) G rdg68 row75 sta0 e8) sh68 foX2 rfl vk_X2_readOn kw2_128 rfl ⟨Nat.le_of_ble_eq_true rfl, Nat.le_of_ble_eq_true rfl, rfl, rfl⟩ ⟨Nat.zero_le _, Nat.zero_le _⟩ (rest := []) rfl (Nat.le_of_ble_eq_true rfl) dX6_ifStruck_82 (st1 := []) rfl 85 rfl ?_
          refine j_aload_n C dX6_ifStruck_85 rfl 0 rfl 86 rfl ?_
          refine j_get C foX6 sh81 6 (by decide) 70 rfl kw1_165 rfl dX6_ifStruck_86 (.ref (gA G 68)) (fv_r rfl) 89 rfl ?_
          obtain ⟨q9, e10, h⟩ := ob_some h
          refine j_callV C (ct_X2_size (eL E) G rdg68 e10) sh68 foX2 rfl vk_X2_size kw2_163 rfl ⟨Nat.le_of_ble_eq_true rfl, Nat.le_of_ble_eq_true rfl, rfl, rfl⟩ ⟨Nat.zero_le _, Nat.zero_le _⟩ (rest := []) rfl (Nat.le_of_ble_eq_true rfl) dX6_ifStruck_89 (st1 := [.int q9.2]) rfl 92 rfl ?_
          refine j_iconst C dX6_ifStruck_92 (1 : Int32) (by decide) 93 rfl ?_
          refine j_isub C dX6_ifStruck_93 94 rfl ?_
          refine j_istore_n C dX6_ifStruck_94 rfl (by decide) [(3, .int (q9.2 - (1 : Int32))), (0, .ref (gA G 81)), (1, .int p1), (2, .int p2)] rfl 95 rfl ?_
          refine j_iload_n C dX6_ifStruck_95 rfl 3 rfl 96 rfl ?_
          by_cases c0 : p2 = (0 : Int32)
          · have h := it_t c0 h
            refine j_lookup C dX6_ifStruck_96 (by decide) (off := 28) (by rw [c0]; rfl) 124 (by decide) ?_
            refine j_aload_n C dX6_ifStruck_124 rfl 1 rfl 125 rfl ?_
            refine j_get C foX6 sh81 0 (by decide) 2 rfl kw1_159 rfl dX6_ifStruck_125 (.ref (gA G 0)) (fv_r rfl) 128 rfl ?_
            refine j_get C foX5 sh0 1 (by decide) 5 rfl kw1_76 rfl dX6_ifStruck_128 (.ref (gA G 3)) (fv_r rfl) 131 rfl ?_
            refine j_aload_n C dX6_ifStruck_131 rfl 1 rfl 132 rfl ?_
            refine j_get C foX6 sh81 6 (by decide) 70 rfl kw1_165 rfl dX6_ifStruck_132 (.ref (gA G 68)) (fv_r rfl) 135 rfl ?_
            refine j_iload_n C dX6_ifStruck_135 rfl 0 rfl 136 rfl ?_
            obtain ⟨q11, e12, h⟩ := ob_some h
            refine j_callV C (ct_X2_leaderAt (eL E) G rdg68 e12) sh68 foX2 rfl vk_X2_leaderAt kw3_24 rfl ⟨Nat.le_of_ble_eq_true rfl, Nat.le_of_ble_eq_true rfl, rfl, rfl⟩ ⟨Nat.zero_le _, Nat.zero_le _⟩ (rest := [.ref (gA G 3)]) rfl (Nat.le_of_ble_eq_true rfl) dX6_ifStruck_136 (st1 := [.int q11.2, .ref (gA G 3)]) rfl 139 rfl ?_
            obtain ⟨q13, e14, h⟩ := ob_some h
            refine j_callV C (ct_X0_wordOf (eL E) G ent3 e14) sh3 foX0 rfl vk_X0_wordOf kw2_222 rfl ⟨Nat.le_of_ble_eq_true rfl, Nat.le_of_ble_eq_true rfl, rfl, rfl⟩ ⟨Nat.zero_le _, Nat.zero_le _⟩ (rest := []) rfl (Nat.le_of_ble_eq_true rfl) dX6_ifStruck_139 (st1 := [.int q13.2]) rfl 142 rfl ?_
            exact j_iretX C F dX6_ifStruck_142 h
          have h := it_f c0 h
          by_cases c1 : p2 = (1 : Int32)
          · have h := it_t c1 h
            refine j_lookup C dX6_ifStruck_96 (by decide) (off := 47) (by rw [c1]; rfl) 143 (by decide) ?_
            refine j_aload_n C dX6_ifStruck_143 rfl 1 rfl 144 rfl ?_
            refine j_get C foX6 sh81 6 (by decide) 70 rfl kw1_165 rfl dX6_ifStruck_144 (.ref (gA G 68)) (fv_r rfl) 147 rfl ?_
            refine j_iload_n C dX6_ifStruck_147 rfl 0 rfl 148 rfl ?_
            obtain ⟨q15, e16, h⟩ := ob_some h
            refine j_callV C (ct_X2_lengthAt (eL E) G rdg68 e16) sh68 foX2 rfl vk_X2_lengthAt kw3_32 rfl ⟨Nat.le_of_ble_eq_true rfl, Nat.le_of_ble_eq_true rfl, rfl, rfl⟩ ⟨Nat.zero_le _, Nat.zero_le _⟩ (rest := []) rfl (Nat.le_of_ble_eq_true rfl) dX6_ifStruck_148 (st1 := [.int q15.2]) rfl 151 rfl ?_
            exact j_iretX C F dX6_ifStruck_151 h
          have h := it_f c1 h
          refine j_lookup C dX6_ifStruck_96 (by decide) (off := 56) (by rw [show (#[(0, 28), (1, 47)] : Array (Int × Int)).toList = [(0, 28), (1, 47)] from rfl, lks (tsw_ne (z := 0) (by decide) c0), lks (tsw_ne (z := 1) (by decide) c1)]; rfl) 152 (by decide) ?_
          refine j_aload_n C dX6_ifStruck_152 rfl 1 rfl 153 rfl ?_
          refine j_get C foX6 sh81 6 (by decide) 70 rfl kw1_165 rfl dX6_ifStruck_153 (.ref (gA G 68)) (fv_r rfl) 156 rfl ?_
          obtain ⟨q17, e18, h⟩ := ob_some h
          refine j_callV C (ct_X2_size (eL E) G rdg68 e18) sh68 foX2 rfl vk_X2_size kw2_163 rfl ⟨Nat.le_of_ble_eq_true rfl, Nat.le_of_ble_eq_true rfl, rfl, rfl⟩ ⟨Nat.zero_le _, Nat.zero_le _⟩ (rest := []) rfl (Nat.le_of_ble_eq_true rfl) dX6_ifStruck_156 (st1 := [.int q17.2]) rfl 159 rfl ?_
          exact j_iretX C F dX6_ifStruck_159 h
        · have h := it_f c h
          exact j_throw C F (x := 0) (by decide +kernel) kw2_94 kw1_12 str_231 ha_0_62 dX6_ifStruck_30 dX6_ifStruck_33 dX6_ifStruck_34 dX6_ifStruck_36 dX6_ifStruck_39 ⟨Nat.le_of_ble_eq_true rfl, Nat.le_of_ble_eq_true rfl⟩ h
    · have h := it_f c h
      exact j_throw C F (x := 0) (by decide +kernel) kw2_94 kw1_12 str_60 ha_0_62 dX6_ifStruck_11 dX6_ifStruck_14 dX6_ifStruck_15 dX6_ifStruck_17 dX6_ifStruck_20 ⟨Nat.le_of_ble_eq_true rfl, Nat.le_of_ble_eq_true rfl⟩ h
set_option maxHeartbeats 4000000 in
set_option maxRecDepth 100000 in
theorem ct_X6_ifStruck (l : Launch) (G : Gw)  {σ : Mem} {p1 : Int32} {p2 : Int32} {out : Mem × Int32} (h : X6_ifStruck σ p1 p2 = some (out.1, .inl out.2)) : Ct l G yX6_ifStruck cX6_ifStruck 4 (some .int) { frames := 6, cells := 0, slots := 0, locals := 82 } [.ref (gA G 81), .int p1, .int p2] σ out.1 (some (.int out.2)) :=
  Ct.of (by decide +kernel) (Nat.le_of_ble_eq_true rfl) (fun E hE C F => wk_X6_ifStruck C ⟨fun v hv => (by cases hv; exact F), fun x hx => (by cases hx)⟩ h)
theorem cx_X6_ifStruck (l : Launch) (hst : l.stackTraces = false) (G : Gw)  {σ σ2 : Mem} {p1 : Int32} {p2 : Int32} {x : Nat} (h : X6_ifStruck σ p1 p2 = some (σ2, .inr x)) : Cx1 l G yX6_ifStruck cX6_ifStruck 4 (some .int) { frames := 6, cells := 1, slots := 6, locals := 82 } [.ref (gA G 81), .int p1, .int p2] σ σ2 x :=
    Cx1.of (by decide +kernel) (Nat.le_of_ble_eq_true rfl) hst ⟨by decide, by decide⟩ (fun E hE C F => wk_X6_ifStruck C ⟨fun v hv => (by cases hv), fun x hx => (by cases hx; exact F)⟩ h)

-- ===== StenoChords.begun(I)I
theorem vk_X6_begun : VK yX6_begun cX6_begun 3 (some .int) 1 := ⟨kw3_88, kw3_86, kw3_87, kw1_1, by decide +kernel⟩
def X6_begun (σ : Mem) (p1 : Int32) : Option (Mem × (Int32 ⊕ Nat)) :=
  (if p1 < (1 : Int32) then some (σ, Sum.inr 0) else (if p1 < (4 : Int32) then ((X3_length 1 σ).bind fun q1 => (if 0 ≤ (q1.2 - p1) then ((X3_packed 1 q1.1 (q1.2 - p1) p1).bind fun q3 => ((X0_longerThan 3 q3.1 q3.2 p1).bind fun q5 => some (q5.1, Sum.inl q5.2))) else some (q1.1, Sum.inl (0 : Int32)))) else some (σ, Sum.inr 0)))
set_option maxHeartbeats 4000000 in
set_option maxRecDepth 100000 in
theorem wk_X6_begun {E : Ev} {G : Gw} {kc ks : Nat} (C : Cx E G RX6 cX6_begun 3 { frames := 6, cells := kc, slots := ks, locals := 82 }) {out : Mem × (Int32 ⊕ Nat)} (F : Efx E G out (some .int))  {σ : Mem} {p1 : Int32} (h : X6_begun σ p1 = some out) : J E G 3 0 0 σ 0 [(0, .ref (gA G 81)), (1, .int p1)] [] := by
  unfold X6_begun at h
  refine j_iload_n C dX6_begun_0 rfl 1 rfl 1 rfl ?_
  refine j_iconst C dX6_begun_1 (1 : Int32) (by decide) 2 rfl ?_
  refine j_icmp_lt C dX6_begun_2 10 (by decide) 5 rfl (fun c => ?_) (fun c => ?_)
  · have h := it_t c h
    exact j_throwW C F (x := 0) (by decide +kernel) kw2_94 kw1_12 str_256 ha_0_62 dX6_begun_10 dX6_begun_13 dX6_begun_14 dX6_begun_17 dX6_begun_20 ⟨Nat.le_of_ble_eq_true rfl, Nat.le_of_ble_eq_true rfl⟩ h
  · have h := it_f c h
    refine j_iload_n C dX6_begun_5 rfl 1 rfl 6 rfl ?_
    refine j_iconst C dX6_begun_6 (4 : Int32) (by decide) 7 rfl ?_
    refine j_icmp_lt C dX6_begun_7 21 (by decide) 10 rfl (fun c => ?_) (fun c => ?_)
    · have h := it_t c h
      refine j_aload_n C dX6_begun_21 rfl 0 rfl 22 rfl ?_
      refine j_get C foX6 sh81 0 (by decide) 2 rfl kw1_159 rfl dX6_begun_22 (.ref (gA G 0)) (fv_r rfl) 25 rfl ?_
      refine j_get C foX5 sh0 0 (by decide) 3 rfl kw1_74 rfl dX6_begun_25 (.ref (gA G 1)) (fv_r rfl) 28 rfl ?_
      obtain ⟨q1, e2, h⟩ := ob_some h
      refine j_callV C (ct_X3_length (eL E) G row1 e2) sh1 foX3 rfl vk_X3_length kw1_238 rfl ⟨Nat.le_of_ble_eq_true rfl, Nat.le_of_ble_eq_true rfl, rfl, rfl⟩ ⟨Nat.zero_le _, Nat.zero_le _⟩ (rest := []) rfl (Nat.le_of_ble_eq_true rfl) dX6_begun_28 (st1 := [.int q1.2]) rfl 31 rfl ?_
      refine j_iload_n C dX6_begun_31 rfl 1 rfl 32 rfl ?_
      refine j_isub C dX6_begun_32 33 rfl ?_
      refine j_istore_n C dX6_begun_33 rfl (by decide) [(2, .int (q1.2 - p1)), (0, .ref (gA G 81)), (1, .int p1)] rfl 34 rfl ?_
      refine j_iload_n C dX6_begun_34 rfl 0 rfl 35 rfl ?_
      refine j_if_ge C dX6_begun_35 40 (by decide) 38 rfl (fun c => ?_) (fun c => ?_)
      · have h := it_t c h
        refine j_aload_n C dX6_begun_40 rfl 1 rfl 41 rfl ?_
        refine j_get C foX6 sh81 0 (by decide) 2 rfl kw1_159 rfl dX6_begun_41 (.ref (gA G 0)) (fv_r rfl) 44 rfl ?_
        refine j_get C foX5 sh0 1 (by decide) 5 rfl kw1_76 rfl dX6_begun_44 (.ref (gA G 3)) (fv_r rfl) 47 rfl ?_
        refine j_aload_n C dX6_begun_47 rfl 1 rfl 48 rfl ?_
        refine j_get C foX6 sh81 0 (by decide) 2 rfl kw1_159 rfl dX6_begun_48 (.ref (gA G 0)) (fv_r rfl) 51 rfl ?_
        refine j_get C foX5 sh0 0 (by decide) 3 rfl kw1_74 rfl dX6_begun_51 (.ref (gA G 1)) (fv_r rfl) 54 rfl ?_
        refine j_iload_n C dX6_begun_54 rfl 0 rfl 55 rfl ?_
        refine j_iload_n C dX6_begun_55 rfl 2 rfl 56 rfl ?_
        obtain ⟨q3, e4, h⟩ := ob_some h
        refine j_callV C (ct_X3_packed (eL E) G row1 e4) sh1 foX3 rfl vk_X3_packed kw3_40 rfl ⟨Nat.le_of_ble_eq_true rfl, Nat.le_of_ble_eq_true rfl, rfl, rfl⟩ ⟨Nat.zero_le _, Nat.zero_le _⟩ (rest := [.ref (gA G 3)]) rfl (Nat.le_of_ble_eq_true rfl) dX6_begun_56 (st1 := [.long q3.2, .ref (gA G 3)]) rfl 59 rfl ?_
        refine j_iload_n C dX6_begun_59 rfl 2 rfl 60 rfl ?_
        obtain ⟨q5, e6, h⟩ := ob_some h
        refine j_callV C (ct_X0_longerThan (eL E) G ent3 e6) sh3 foX0 rfl vk_X0_longerThan kw3_90 rfl ⟨Nat.le_of_ble_eq_true rfl, Nat.le_of_ble_eq_true rfl, rfl, rfl⟩ ⟨Nat.zero_le _, Nat.zero_le _⟩ (rest := []) rfl (Nat.le_of_ble_eq_true rfl) dX6_begun_60 (st1 := [.int q5.2]) rfl 63 rfl ?_
        exact j_iretX C F dX6_begun_63 h
      · have h := it_f c h
        refine j_iconst C dX6_begun_38 (0 : Int32) (by decide) 39 rfl ?_
        exact j_iretX C F dX6_begun_39 h
    · have h := it_f c h
      exact j_throwW C F (x := 0) (by decide +kernel) kw2_94 kw1_12 str_256 ha_0_62 dX6_begun_10 dX6_begun_13 dX6_begun_14 dX6_begun_17 dX6_begun_20 ⟨Nat.le_of_ble_eq_true rfl, Nat.le_of_ble_eq_true rfl⟩ h
set_option maxHeartbeats 4000000 in
set_option maxRecDepth 100000 in
theorem ct_X6_begun (l : Launch) (G : Gw)  {σ : Mem} {p1 : Int32} {out : Mem × Int32} (h : X6_begun σ p1 = some (out.1, .inl out.2)) : Ct l G yX6_begun cX6_begun 3 (some .int) { frames := 6, cells := 0, slots := 0, locals := 82 } [.ref (gA G 81), .int p1] σ out.1 (some (.int out.2)) :=
  Ct.of (by decide +kernel) (Nat.le_of_ble_eq_true rfl) (fun E hE C F => wk_X6_begun C ⟨fun v hv => (by cases hv; exact F), fun x hx => (by cases hx)⟩ h)
theorem cx_X6_begun (l : Launch) (hst : l.stackTraces = false) (G : Gw)  {σ σ2 : Mem} {p1 : Int32} {x : Nat} (h : X6_begun σ p1 = some (σ2, .inr x)) : Cx1 l G yX6_begun cX6_begun 3 (some .int) { frames := 6, cells := 1, slots := 6, locals := 82 } [.ref (gA G 81), .int p1] σ σ2 x :=
    Cx1.of (by decide +kernel) (Nat.le_of_ble_eq_true rfl) hst ⟨by decide, by decide⟩ (fun E hE C F => wk_X6_begun C ⟨fun v hv => (by cases hv), fun x hx => (by cases hx; exact F)⟩ h)

-- ===== StenoChords.canTell(II)Z
theorem vk_X6_canTell : VK yX6_canTell cX6_canTell 5 (some .boolean) 2 := ⟨kw3_77, kw3_76, kwS_12, kw1_1, by decide +kernel⟩
def X6_canTell (σ : Mem) (p1 : Int32) (p2 : Int32) : Option (Mem × Int32) :=
  ((X0_rowOf 3 σ p1).bind fun q1 => ((X0_wordOf 3 q1.1 p1).bind fun q3 => (if q3.2 = p2 then ((X6_strokesOf q3.1 q1.2).bind fun q5 => (if (q5.1.1 0 3) < q5.2 then some (q5.1, (0 : Int32)) else ((X0_leaderOf 3 q5.1 q1.2).bind fun q7 => (if q7.2 = p1 then some (q7.1, (1 : Int32)) else some (q7.1, (0 : Int32)))))) else some (q3.1, (0 : Int32)))))
set_option maxHeartbeats 4000000 in
set_option maxRecDepth 100000 in
theorem ct_X6_canTell (l : Launch) (G : Gw)  {σ : Mem} {p1 : Int32} {p2 : Int32} {out : Mem × Int32} (h : X6_canTell σ p1 p2 = some out) : Ct l G yX6_canTell cX6_canTell 5 (some .boolean) { frames := 2, cells := 0, slots := 0, locals := 45 } [.ref (gA G 81), .int p1, .int p2] σ out.1 (some (.int out.2)) := by
  refine Ct.of (by decide +kernel) (Nat.le_of_ble_eq_true rfl) (fun E hE C F => ?_)
  subst hE
  have C : Cx E G RX6 cX6_canTell 5 { frames := 2, cells := 0, slots := 0, locals := 45 } := C
  unfold X6_canTell at h
  show J E G 5 0 0 σ 0 [(0, .ref (gA G 81)), (1, .int p1), (2, .int p2)] []
  refine j_aload_n C dX6_canTell_0 rfl 0 rfl 1 rfl ?_
  refine j_get C foX6 sh81 0 (by decide) 2 rfl kw1_159 rfl dX6_canTell_1 (.ref (gA G 0)) (fv_r rfl) 4 rfl ?_
  refine j_get C foX5 sh0 1 (by decide) 5 rfl kw1_76 rfl dX6_canTell_4 (.ref (gA G 3)) (fv_r rfl) 7 rfl ?_
  refine j_iload_n C dX6_canTell_7 rfl 1 rfl 8 rfl ?_
  obtain ⟨q1, e2, h⟩ := ob_some h
  refine j_callV C (ct_X0_rowOf (eL E) G ent3 e2) sh3 foX0 rfl vk_X0_rowOf kw2_221 rfl ⟨Nat.le_of_ble_eq_true rfl, Nat.le_of_ble_eq_true rfl, rfl, rfl⟩ ⟨Nat.zero_le _, Nat.zero_le _⟩ (rest := []) rfl (Nat.le_of_ble_eq_true rfl) dX6_canTell_8 (st1 := [.long q1.2]) rfl 11 rfl ?_
  refine j_lstore_n C dX6_canTell_11 rfl (by decide) [(3, .long q1.2), (0, .ref (gA G 81)), (1, .int p1), (2, .int p2)] rfl 12 rfl ?_
  refine j_aload_n C dX6_canTell_12 rfl 1 rfl 13 rfl ?_
  refine j_get C foX6 sh81 0 (by decide) 2 rfl kw1_159 rfl dX6_canTell_13 (.ref (gA G 0)) (fv_r rfl) 16 rfl ?_
  refine j_get C foX5 sh0 1 (by decide) 5 rfl kw1_76 rfl dX6_canTell_16 (.ref (gA G 3)) (fv_r rfl) 19 rfl ?_
  refine j_iload_n C dX6_canTell_19 rfl 2 rfl 20 rfl ?_
  obtain ⟨q3, e4, h⟩ := ob_some h
  refine j_callV C (ct_X0_wordOf (eL E) G ent3 e4) sh3 foX0 rfl vk_X0_wordOf kw2_222 rfl ⟨Nat.le_of_ble_eq_true rfl, Nat.le_of_ble_eq_true rfl, rfl, rfl⟩ ⟨Nat.zero_le _, Nat.zero_le _⟩ (rest := []) rfl (Nat.le_of_ble_eq_true rfl) dX6_canTell_20 (st1 := [.int q3.2]) rfl 23 rfl ?_
  refine j_iload_n C dX6_canTell_23 rfl 3 rfl 24 rfl ?_
  refine j_icmp_ne C dX6_canTell_24 60 (by decide) 27 rfl (fun c => ?_) (fun c => ?_)
  · have h := it_f c h
    refine j_iconst C dX6_canTell_60 (0 : Int32) (by decide) 61 rfl ?_
    exact j_zret C F dX6_canTell_61 (by decide) h
  · have h := it_t c h
    refine j_lload_n C dX6_canTell_27 rfl 0 rfl 28 rfl ?_
    obtain ⟨q5, e6, h⟩ := ob_some h
    refine j_callS C (ct_X6_strokesOf (eL E) G  e6) vk_X6_strokesOf kw2_223 rfl ⟨Nat.le_of_ble_eq_true rfl, Nat.le_of_ble_eq_true rfl, rfl, rfl⟩ ⟨Nat.zero_le _, Nat.zero_le _⟩ (rest := []) rfl (Nat.le_of_ble_eq_true rfl) dX6_canTell_28 (st1 := [.int q5.2]) rfl 31 rfl ?_
    refine j_aload_n C dX6_canTell_31 rfl 1 rfl 32 rfl ?_
    refine j_get C foX6 sh81 0 (by decide) 2 rfl kw1_159 rfl dX6_canTell_32 (.ref (gA G 0)) (fv_r rfl) 35 rfl ?_
    refine j_get C foX5 sh0 3 (by decide) 0 rfl kw1_81 rfl dX6_canTell_35 (.int (q5.1.1 0 3)) rfl 38 rfl ?_
    refine j_icmp_gt C dX6_canTell_38 60 (by decide) 41 rfl (fun c => ?_) (fun c => ?_)
    · have h := it_t c h
      refine j_iconst C dX6_canTell_60 (0 : Int32) (by decide) 61 rfl ?_
      exact j_zret C F dX6_canTell_61 (by decide) h
    · have h := it_f c h
      refine j_aload_n C dX6_canTell_41 rfl 1 rfl 42 rfl ?_
      refine j_get C foX6 sh81 0 (by decide) 2 rfl kw1_159 rfl dX6_canTell_42 (.ref (gA G 0)) (fv_r rfl) 45 rfl ?_
      refine j_get C foX5 sh0 1 (by decide) 5 rfl kw1_76 rfl dX6_canTell_45 (.ref (gA G 3)) (fv_r rfl) 48 rfl ?_
      refine j_lload_n C dX6_canTell_48 rfl 0 rfl 49 rfl ?_
      obtain ⟨q7, e8, h⟩ := ob_some h
      refine j_callV C (ct_X0_leaderOf (eL E) G ent3 e8) sh3 foX0 rfl vk_X0_leaderOf kw2_230 rfl ⟨Nat.le_of_ble_eq_true rfl, Nat.le_of_ble_eq_true rfl, rfl, rfl⟩ ⟨Nat.zero_le _, Nat.zero_le _⟩ (rest := []) rfl (Nat.le_of_ble_eq_true rfl) dX6_canTell_49 (st1 := [.int q7.2]) rfl 52 rfl ?_
      refine j_iload_n C dX6_canTell_52 rfl 2 rfl 53 rfl ?_
      refine j_icmp_ne C dX6_canTell_53 60 (by decide) 56 rfl (fun c => ?_) (fun c => ?_)
      · have h := it_f c h
        refine j_iconst C dX6_canTell_60 (0 : Int32) (by decide) 61 rfl ?_
        exact j_zret C F dX6_canTell_61 (by decide) h
      · have h := it_t c h
        refine j_iconst C dX6_canTell_56 (1 : Int32) (by decide) 57 rfl ?_
        refine j_goto C dX6_canTell_57 61 (by decide) ?_
        exact j_zret C F dX6_canTell_61 (by decide) h

-- ===== StenoChords.isShorter(II)Z
theorem vk_X6_isShorter : VK yX6_isShorter cX6_isShorter 9 (some .boolean) 2 := ⟨kw3_81, kw3_80, kwS_13, kw1_1, by decide +kernel⟩
def X6_isShorter (σ : Mem) (p1 : Int32) (p2 : Int32) : Option (Mem × Int32) :=
  ((X0_rowOf 3 σ p1).bind fun q1 => ((X0_rowOf 3 q1.1 p2).bind fun q3 => ((X6_strokesOf q3.1 q1.2).bind fun q5 => ((X6_strokesOf q5.1 q3.2).bind fun q7 => (if q5.2 = q7.2 then ((J13_bitCount_95d88 q7.1 q1.2).bind fun q9 => ((J13_bitCount_95d88 q9.1 q3.2).bind fun q11 => (if q11.2 ≤ q9.2 then some (q11.1, (0 : Int32)) else some (q11.1, (1 : Int32))))) else (if q7.2 ≤ q5.2 then some (q7.1, (0 : Int32)) else some (q7.1, (1 : Int32))))))))
set_option maxHeartbeats 4000000 in
set_option maxRecDepth 100000 in
theorem ct_X6_isShorter (l : Launch) (G : Gw)  {σ : Mem} {p1 : Int32} {p2 : Int32} {out : Mem × Int32} (h : X6_isShorter σ p1 p2 = some out) : Ct l G yX6_isShorter cX6_isShorter 9 (some .boolean) { frames := 2, cells := 0, slots := 0, locals := 45 } [.ref (gA G 81), .int p1, .int p2] σ out.1 (some (.int out.2)) := by
  refine Ct.of (by decide +kernel) (Nat.le_of_ble_eq_true rfl) (fun E hE C F => ?_)
  subst hE
  have C : Cx E G RX6 cX6_isShorter 9 { frames := 2, cells := 0, slots := 0, locals := 45 } := C
  unfold X6_isShorter at h
  show J E G 9 0 0 σ 0 [(0, .ref (gA G 81)), (1, .int p1), (2, .int p2)] []
  refine j_aload_n C dX6_isShorter_0 rfl 0 rfl 1 rfl ?_
  refine j_get C foX6 sh81 0 (by decide) 2 rfl kw1_159 rfl dX6_isShorter_1 (.ref (gA G 0)) (fv_r rfl) 4 rfl ?_
  refine j_get C foX5 sh0 1 (by decide) 5 rfl kw1_76 rfl dX6_isShorter_4 (.ref (gA G 3)) (fv_r rfl) 7 rfl ?_
  refine j_iload_n C dX6_isShorter_7 rfl 1 rfl 8 rfl ?_
  obtain ⟨q1, e2, h⟩ := ob_some h
  refine j_callV C (ct_X0_rowOf (eL E) G ent3 e2) sh3 foX0 rfl vk_X0_rowOf kw2_221 rfl ⟨Nat.le_of_ble_eq_true rfl, Nat.le_of_ble_eq_true rfl, rfl, rfl⟩ ⟨Nat.zero_le _, Nat.zero_le _⟩ (rest := []) rfl (Nat.le_of_ble_eq_true rfl) dX6_isShorter_8 (st1 := [.long q1.2]) rfl 11 rfl ?_
  refine j_lstore_n C dX6_isShorter_11 rfl (by decide) [(3, .long q1.2), (0, .ref (gA G 81)), (1, .int p1), (2, .int p2)] rfl 12 rfl ?_
  refine j_aload_n C dX6_isShorter_12 rfl 1 rfl 13 rfl ?_
  refine j_get C foX6 sh81 0 (by decide) 2 rfl kw1_159 rfl dX6_isShorter_13 (.ref (gA G 0)) (fv_r rfl) 16 rfl ?_
  refine j_get C foX5 sh0 1 (by decide) 5 rfl kw1_76 rfl dX6_isShorter_16 (.ref (gA G 3)) (fv_r rfl) 19 rfl ?_
  refine j_iload_n C dX6_isShorter_19 rfl 3 rfl 20 rfl ?_
  obtain ⟨q3, e4, h⟩ := ob_some h
  refine j_callV C (ct_X0_rowOf (eL E) G ent3 e4) sh3 foX0 rfl vk_X0_rowOf kw2_221 rfl ⟨Nat.le_of_ble_eq_true rfl, Nat.le_of_ble_eq_true rfl, rfl, rfl⟩ ⟨Nat.zero_le _, Nat.zero_le _⟩ (rest := []) rfl (Nat.le_of_ble_eq_true rfl) dX6_isShorter_20 (st1 := [.long q3.2]) rfl 23 rfl ?_
  refine j_lstore C dX6_isShorter_23 (by decide) [(5, .long q3.2), (3, .long q1.2), (0, .ref (gA G 81)), (1, .int p1), (2, .int p2)] rfl 25 rfl ?_
  refine j_lload_n C dX6_isShorter_25 rfl 1 rfl 26 rfl ?_
  obtain ⟨q5, e6, h⟩ := ob_some h
  refine j_callS C (ct_X6_strokesOf (eL E) G  e6) vk_X6_strokesOf kw2_223 rfl ⟨Nat.le_of_ble_eq_true rfl, Nat.le_of_ble_eq_true rfl, rfl, rfl⟩ ⟨Nat.zero_le _, Nat.zero_le _⟩ (rest := []) rfl (Nat.le_of_ble_eq_true rfl) dX6_isShorter_26 (st1 := [.int q5.2]) rfl 29 rfl ?_
  refine j_istore C dX6_isShorter_29 (by decide) [(7, .int q5.2), (5, .long q3.2), (3, .long q1.2), (0, .ref (gA G 81)), (1, .int p1), (2, .int p2)] rfl 31 rfl ?_
  refine j_lload C dX6_isShorter_31 1 rfl 33 rfl ?_
  obtain ⟨q7, e8, h⟩ := ob_some h
  refine j_callS C (ct_X6_strokesOf (eL E) G  e8) vk_X6_strokesOf kw2_223 rfl ⟨Nat.le_of_ble_eq_true rfl, Nat.le_of_ble_eq_true rfl, rfl, rfl⟩ ⟨Nat.zero_le _, Nat.zero_le _⟩ (rest := []) rfl (Nat.le_of_ble_eq_true rfl) dX6_isShorter_33 (st1 := [.int q7.2]) rfl 36 rfl ?_
  refine j_istore C dX6_isShorter_36 (by decide) [(8, .int q7.2), (7, .int q5.2), (5, .long q3.2), (3, .long q1.2), (0, .ref (gA G 81)), (1, .int p1), (2, .int p2)] rfl 38 rfl ?_
  refine j_iload C dX6_isShorter_38 1 rfl 40 rfl ?_
  refine j_iload C dX6_isShorter_40 0 rfl 42 rfl ?_
  refine j_icmp_eq C dX6_isShorter_42 58 (by decide) 45 rfl (fun c => ?_) (fun c => ?_)
  · have h := it_t c h
    refine j_lload_n C dX6_isShorter_58 rfl 3 rfl 59 rfl ?_
    obtain ⟨q9, e10, h⟩ := ob_some h
    refine j_callS C (ct_J13_bitCount_95d88 (eL E) G  e10) vk_J13_bitCount_95d88 kw2_231 rfl ⟨Nat.le_of_ble_eq_true rfl, Nat.le_of_ble_eq_true rfl, rfl, rfl⟩ ⟨Nat.zero_le _, Nat.zero_le _⟩ (rest := []) rfl (Nat.le_of_ble_eq_true rfl) dX6_isShorter_59 (st1 := [.int q9.2]) rfl 62 rfl ?_
    refine j_lload C dX6_isShorter_62 2 rfl 64 rfl ?_
    obtain ⟨q11, e12, h⟩ := ob_some h
    refine j_callS C (ct_J13_bitCount_95d88 (eL E) G  e12) vk_J13_bitCount_95d88 kw2_231 rfl ⟨Nat.le_of_ble_eq_true rfl, Nat.le_of_ble_eq_true rfl, rfl, rfl⟩ ⟨Nat.zero_le _, Nat.zero_le _⟩ (rest := [.int q9.2]) rfl (Nat.le_of_ble_eq_true rfl) dX6_isShorter_64 (st1 := [.int q11.2, .int q9.2]) rfl 67 rfl ?_
    refine j_icmp_ge C dX6_isShorter_67 74 (by decide) 70 rfl (fun c => ?_) (fun c => ?_)
    · have h := it_t c h
      refine j_iconst C dX6_isShorter_74 (0 : Int32) (by decide) 75 rfl ?_
      exact j_zret C F dX6_isShorter_75 (by decide) h
    · have h := it_f c h
      refine j_iconst C dX6_isShorter_70 (1 : Int32) (by decide) 71 rfl ?_
      refine j_goto C dX6_isShorter_71 75 (by decide) ?_
      exact j_zret C F dX6_isShorter_75 (by decide) h
  · have h := it_f c h
    refine j_iload C dX6_isShorter_45 1 rfl 47 rfl ?_
    refine j_iload C dX6_isShorter_47 0 rfl 49 rfl ?_
    refine j_icmp_ge C dX6_isShorter_49 56 (by decide) 52 rfl (fun c => ?_) (fun c => ?_)
    · have h := it_t c h
      refine j_iconst C dX6_isShorter_56 (0 : Int32) (by decide) 57 rfl ?_
      exact j_zret C F dX6_isShorter_57 (by decide) h
    · have h := it_f c h
      refine j_iconst C dX6_isShorter_52 (1 : Int32) (by decide) 53 rfl ?_
      refine j_goto C dX6_isShorter_53 57 (by decide) ?_
      exact j_zret C F dX6_isShorter_57 (by decide) h

-- ===== StenoChords.shortest(I)I
theorem vk_X6_shortest : VK yX6_shortest cX6_shortest 4 (some .int) 1 := ⟨kw3_72, kw3_70, kw3_71, kw1_1, by decide +kernel⟩
def X6_shortest_24 (K : Mem → Int32 → Option (Mem × (Int32 ⊕ Nat))) : Nat → Mem → Int32 → Int32 → Int32 → Option (Mem × (Int32 ⊕ Nat))
  | 0, _, _, _, _ => none
  | fu + 1, σ, v1, v2, v3 => ((X0_size 3 σ).bind fun q1 => (if q1.2 ≤ v3 then K q1.1 v2 else ((X6_canTell q1.1 v3 v1).bind fun q3 => (if q3.2 = 0 then X6_shortest_24 K fu q3.1 v1 v2 (v3 + (1 : Int32)) else (if v2 = (-1 : Int32) then X6_shortest_24 K fu q3.1 v1 v3 (v3 + (1 : Int32)) else ((X6_isShorter q3.1 v3 v2).bind fun q5 => (if q5.2 = 0 then X6_shortest_24 K fu q5.1 v1 v2 (v3 + (1 : Int32)) else X6_shortest_24 K fu q5.1 v1 v3 (v3 + (1 : Int32)))))))))
set_option maxHeartbeats 4000000 in
set_option maxRecDepth 100000 in
theorem w_X6_shortest_24 {E : Ev} {G : Gw} {kc ks : Nat} (C : Cx E G RX6 cX6_shortest 4 { frames := 6, cells := kc, slots := ks, locals := 82 }) {out : Mem × (Int32 ⊕ Nat)} (F : Efx E G out (some .int))  {K : Mem → Int32 → Option (Mem × (Int32 ⊕ Nat))} (hK : ∀ (σ : Mem) (v2 : Int32), K σ v2 = some out → J E G 4 0 0 σ 69 [(2, .int v2)] []) : ∀ (fu : Nat) (σ : Mem) (v1 : Int32) (v2 : Int32) (v3 : Int32), X6_shortest_24 K fu σ v1 v2 v3 = some out → J E G 4 0 0 σ 24 [(0, .ref (gA G 81)), (1, .int v1), (2, .int v2), (3, .int v3)] [] := by
  intro fu
  induction fu with
  | zero => intro σ v1 v2 v3 h; rw [X6_shortest_24] at h; cases h
  | succ fu ih =>
    intro σ v1 v2 v3 h
    rw [X6_shortest_24] at h
    refine j_iload_n C dX6_shortest_24 rfl 3 rfl 25 rfl ?_
    refine j_aload_n C dX6_shortest_25 rfl 0 rfl 26 rfl ?_
    refine j_get C foX6 sh81 0 (by decide) 2 rfl kw1_159 rfl dX6_shortest_26 (.ref (gA G 0)) (fv_r rfl) 29 rfl ?_
    refine j_get C foX5 sh0 1 (by decide) 5 rfl kw1_76 rfl dX6_shortest_29 (.ref (gA G 3)) (fv_r rfl) 32 rfl ?_
    obtain ⟨q1, e2, h⟩ := ob_some h
    refine j_callV C (ct_X0_size (eL E) G ent3 e2) sh3 foX0 rfl vk_X0_size kw2_172 rfl ⟨Nat.le_of_ble_eq_true rfl, Nat.le_of_ble_eq_true rfl, rfl, rfl⟩ ⟨Nat.zero_le _, Nat.zero_le _⟩ (rest := [.int v3]) rfl (Nat.le_of_ble_eq_true rfl) dX6_shortest_32 (st1 := [.int q1.2, .int v3]) rfl 35 rfl ?_
    refine j_icmp_ge C dX6_shortest_35 69 (by decide) 38 rfl (fun c => ?_) (fun c => ?_)
    · have h := it_t c h
      refine j_sub [(2, .int v2)] [2] rfl ?_
      exact hK _ _ h
    · have h := it_f c h
      refine j_aload_n C dX6_shortest_38 rfl 0 rfl 39 rfl ?_
      refine j_iload_n C dX6_shortest_39 rfl 3 rfl 40 rfl ?_
      refine j_iload_n C dX6_shortest_40 rfl 1 rfl 41 rfl ?_
      obtain ⟨q3, e4, h⟩ := ob_some h
      refine j_callV C (ct_X6_canTell (eL E) G  e4) sh81 foX6 rfl vk_X6_canTell kw3_74 rfl ⟨Nat.le_of_ble_eq_true rfl, Nat.le_of_ble_eq_true rfl, rfl, rfl⟩ ⟨Nat.zero_le _, Nat.zero_le _⟩ (rest := []) rfl (Nat.le_of_ble_eq_true rfl) dX6_shortest_41 (st1 := [.int q3.2]) rfl 44 rfl ?_
      refine j_if_eq C dX6_shortest_44 63 (by decide) 47 rfl (fun c => ?_) (fun c => ?_)
      · have h := it_t c h
        refine j_iinc C dX6_shortest_63 3 rfl (v3 + (1 : Int32)) rfl (by decide) [(3, .int (v3 + (1 : Int32))), (0, .ref (gA G 81)), (1, .int v1), (2, .int v2)] rfl 66 rfl ?_
        refine j_goto C dX6_shortest_66 24 (by decide) ?_
        refine j_sub [(0, .ref (gA G 81)), (1, .int v1), (2, .int v2), (3, .int (v3 + (1 : Int32)))] [1, 2, 3, 0] rfl ?_
        exact ih _ _ _ _ h
      · have h := it_f c h
        refine j_iload_n C dX6_shortest_47 rfl 2 rfl 48 rfl ?_
        refine j_iconst C dX6_shortest_48 (-1 : Int32) (by decide) 49 rfl ?_
        refine j_icmp_eq C dX6_shortest_49 61 (by decide) 52 rfl (fun c => ?_) (fun c => ?_)
        · have h := it_t c h
          refine j_iload_n C dX6_shortest_61 rfl 3 rfl 62 rfl ?_
          refine j_istore_n C dX6_shortest_62 rfl (by decide) [(2, .int v3), (0, .ref (gA G 81)), (1, .int v1), (3, .int v3)] rfl 63 rfl ?_
          refine j_iinc C dX6_shortest_63 3 rfl (v3 + (1 : Int32)) rfl (by decide) [(3, .int (v3 + (1 : Int32))), (2, .int v3), (0, .ref (gA G 81)), (1, .int v1)] rfl 66 rfl ?_
          refine j_goto C dX6_shortest_66 24 (by decide) ?_
          refine j_sub [(0, .ref (gA G 81)), (1, .int v1), (2, .int v3), (3, .int (v3 + (1 : Int32)))] [2, 3, 1, 0] rfl ?_
          exact ih _ _ _ _ h
        · have h := it_f c h
          refine j_aload_n C dX6_shortest_52 rfl 0 rfl 53 rfl ?_
          refine j_iload_n C dX6_shortest_53 rfl 3 rfl 54 rfl ?_
          refine j_iload_n C dX6_shortest_54 rfl 2 rfl 55 rfl ?_
          obtain ⟨q5, e6, h⟩ := ob_some h
          refine j_callV C (ct_X6_isShorter (eL E) G  e6) sh81 foX6 rfl vk_X6_isShorter kw3_78 rfl ⟨Nat.le_of_ble_eq_true rfl, Nat.le_of_ble_eq_true rfl, rfl, rfl⟩ ⟨Nat.zero_le _, Nat.zero_le _⟩ (rest := []) rfl (Nat.le_of_ble_eq_true rfl) dX6_shortest_55 (st1 := [.int q5.2]) rfl 58 rfl ?_
          refine j_if_eq C dX6_shortest_58 63 (by decide) 61 rfl (fun c => ?_) (fun c => ?_)
          · have h := it_t c h
            refine j_iinc C dX6_shortest_63 3 rfl (v3 + (1 : Int32)) rfl (by decide) [(3, .int (v3 + (1 : Int32))), (0, .ref (gA G 81)), (1, .int v1), (2, .int v2)] rfl 66 rfl ?_
            refine j_goto C dX6_shortest_66 24 (by decide) ?_
            refine j_sub [(0, .ref (gA G 81)), (1, .int v1), (2, .int v2), (3, .int (v3 + (1 : Int32)))] [1, 2, 3, 0] rfl ?_
            exact ih _ _ _ _ h
          · have h := it_f c h
            refine j_iload_n C dX6_shortest_61 rfl 3 rfl 62 rfl ?_
            refine j_istore_n C dX6_shortest_62 rfl (by decide) [(2, .int v3), (0, .ref (gA G 81)), (1, .int v1), (3, .int v3)] rfl 63 rfl ?_
            refine j_iinc C dX6_shortest_63 3 rfl (v3 + (1 : Int32)) rfl (by decide) [(3, .int (v3 + (1 : Int32))), (2, .int v3), (0, .ref (gA G 81)), (1, .int v1)] rfl 66 rfl ?_
            refine j_goto C dX6_shortest_66 24 (by decide) ?_
            refine j_sub [(0, .ref (gA G 81)), (1, .int v1), (2, .int v3), (3, .int (v3 + (1 : Int32)))] [2, 3, 1, 0] rfl ?_
            exact ih _ _ _ _ h
def X6_shortest (σ : Mem) (p1 : Int32) : Option (Mem × (Int32 ⊕ Nat)) :=
  (if p1 < 0 then some (σ, Sum.inr 0) else (if p1 ≤ (99 : Int32) then X6_shortest_24 (fun (σ : Mem) (v2 : Int32) => some (σ, Sum.inl v2)) FU σ p1 (-1 : Int32) (0 : Int32) else some (σ, Sum.inr 0)))
set_option maxHeartbeats 4000000 in
set_option maxRecDepth 100000 in
theorem wk_X6_shortest {E : Ev} {G : Gw} {kc ks : Nat} (C : Cx E G RX6 cX6_shortest 4 { frames := 6, cells := kc, slots := ks, locals := 82 }) {out : Mem × (Int32 ⊕ Nat)} (F : Efx E G out (some .int))  {σ : Mem} {p1 : Int32} (h : X6_shortest σ p1 = some out) : J E G 4 0 0 σ 0 [(0, .ref (gA G 81)), (1, .int p1)] [] := by
  unfold X6_shortest at h
  refine j_iload_n C dX6_shortest_0 rfl 1 rfl 1 rfl ?_
  refine j_if_lt C dX6_shortest_1 10 (by decide) 4 rfl (fun c => ?_) (fun c => ?_)
  · have h := it_t c h
    exact j_throw C F (x := 0) (by decide +kernel) kw2_94 kw1_12 str_140 ha_0_62 dX6_shortest_10 dX6_shortest_13 dX6_shortest_14 dX6_shortest_16 dX6_shortest_19 ⟨Nat.le_of_ble_eq_true rfl, Nat.le_of_ble_eq_true rfl⟩ h
  · have h := it_f c h
    refine j_iload_n C dX6_shortest_4 rfl 1 rfl 5 rfl ?_
    refine j_bipush C dX6_shortest_5 (99 : Int32) (by decide) 7 rfl ?_
    refine j_icmp_le C dX6_shortest_7 20 (by decide) 10 rfl (fun c => ?_) (fun c => ?_)
    · have h := it_t c h
      refine j_iconst C dX6_shortest_20 (-1 : Int32) (by decide) 21 rfl ?_
      refine j_istore_n C dX6_shortest_21 rfl (by decide) [(2, .int (-1 : Int32)), (0, .ref (gA G 81)), (1, .int p1)] rfl 22 rfl ?_
      refine j_iconst C dX6_shortest_22 (0 : Int32) (by decide) 23 rfl ?_
      refine j_istore_n C dX6_shortest_23 rfl (by decide) [(3, .int (0 : Int32)), (2, .int (-1 : Int32)), (0, .ref (gA G 81)), (1, .int p1)] rfl 24 rfl ?_
      refine j_sub [(0, .ref (gA G 81)), (1, .int p1), (2, .int (-1 : Int32)), (3, .int (0 : Int32))] [2, 3, 1, 0] rfl ?_
      refine w_X6_shortest_24 C F  (fun σ v2 h => ?_) FU _ _ _ _ h
      refine j_iload_n C dX6_shortest_69 rfl 0 rfl 70 rfl ?_
      exact j_iretX C F dX6_shortest_70 h
    · have h := it_f c h
      exact j_throw C F (x := 0) (by decide +kernel) kw2_94 kw1_12 str_140 ha_0_62 dX6_shortest_10 dX6_shortest_13 dX6_shortest_14 dX6_shortest_16 dX6_shortest_19 ⟨Nat.le_of_ble_eq_true rfl, Nat.le_of_ble_eq_true rfl⟩ h
set_option maxHeartbeats 4000000 in
set_option maxRecDepth 100000 in
theorem ct_X6_shortest (l : Launch) (G : Gw)  {σ : Mem} {p1 : Int32} {out : Mem × Int32} (h : X6_shortest σ p1 = some (out.1, .inl out.2)) : Ct l G yX6_shortest cX6_shortest 4 (some .int) { frames := 6, cells := 0, slots := 0, locals := 82 } [.ref (gA G 81), .int p1] σ out.1 (some (.int out.2)) :=
  Ct.of (by decide +kernel) (Nat.le_of_ble_eq_true rfl) (fun E hE C F => wk_X6_shortest C ⟨fun v hv => (by cases hv; exact F), fun x hx => (by cases hx)⟩ h)
theorem cx_X6_shortest (l : Launch) (hst : l.stackTraces = false) (G : Gw)  {σ σ2 : Mem} {p1 : Int32} {x : Nat} (h : X6_shortest σ p1 = some (σ2, .inr x)) : Cx1 l G yX6_shortest cX6_shortest 4 (some .int) { frames := 6, cells := 1, slots := 6, locals := 82 } [.ref (gA G 81), .int p1] σ σ2 x :=
    Cx1.of (by decide +kernel) (Nat.le_of_ble_eq_true rfl) hst ⟨by decide, by decide⟩ (fun E hE C F => wk_X6_shortest C ⟨fun v hv => (by cases hv), fun x hx => (by cases hx; exact F)⟩ h)

-- ===== StenoChords.putRow(J)V
theorem vk_X6_putRow : VK yX6_putRow cX6_putRow 5 none 1 := ⟨kw3_105, kw3_104, kwS_15, kw1_1, by decide +kernel⟩
def X6_putRow_8 (K : Mem → Option (Mem × Unit)) : Nat → Mem → Int64 → Int32 → Int32 → Option (Mem × Unit)
  | 0, _, _, _, _ => none
  | fu + 1, σ, v1, v3, v4 => (if v3 ≤ v4 then K σ else ((X6_strokeOf σ v1 v4).bind fun q3 => ((X3_put 75 q3.1 q3.2).bind fun q5 => X6_putRow_8 K fu q5.1 v1 v3 (v4 + (1 : Int32)))))
set_option maxHeartbeats 4000000 in
set_option maxRecDepth 100000 in
theorem w_X6_putRow_8 {E : Ev} {G : Gw} (C : Cx E G RX6 cX6_putRow 5 { frames := 2, cells := 0, slots := 0, locals := 45 }) {out : Mem × Unit} (F : Ef E G out.1 (none) none 0 0)  {K : Mem → Option (Mem × Unit)} (hK : ∀ (σ : Mem) , K σ  = some out → J E G 5 0 0 σ 33 [] []) : ∀ (fu : Nat) (σ : Mem) (v1 : Int64) (v3 : Int32) (v4 : Int32), X6_putRow_8 K fu σ v1 v3 v4 = some out → J E G 5 0 0 σ 8 [(0, .ref (gA G 81)), (1, .long v1), (3, .int v3), (4, .int v4)] [] := by
  intro fu
  induction fu with
  | zero => intro σ v1 v3 v4 h; rw [X6_putRow_8] at h; cases h
  | succ fu ih =>
    intro σ v1 v3 v4 h
    rw [X6_putRow_8] at h
    refine j_iload C dX6_putRow_8 3 rfl 10 rfl ?_
    refine j_iload_n C dX6_putRow_10 rfl 2 rfl 11 rfl ?_
    refine j_icmp_ge C dX6_putRow_11 33 (by decide) 14 rfl (fun c => ?_) (fun c => ?_)
    · have h := it_t c h
      refine j_sub [] [] rfl ?_
      exact hK _ h
    · have h := it_f c h
      refine j_aload_n C dX6_putRow_14 rfl 0 rfl 15 rfl ?_
      refine j_get C foX6 sh81 5 (by decide) 77 rfl kw1_164 rfl dX6_putRow_15 (.ref (gA G 75)) (fv_r rfl) 18 rfl ?_
      refine j_lload_n C dX6_putRow_18 rfl 1 rfl 19 rfl ?_
      refine j_iload C dX6_putRow_19 3 rfl 21 rfl ?_
      obtain ⟨q3, e4, h⟩ := ob_some h
      refine j_callS C (ct_X6_strokeOf (eL E) G  e4) vk_X6_strokeOf kw2_226 rfl ⟨Nat.le_of_ble_eq_true rfl, Nat.le_of_ble_eq_true rfl, rfl, rfl⟩ ⟨Nat.zero_le _, Nat.zero_le _⟩ (rest := [.ref (gA G 75)]) rfl (Nat.le_of_ble_eq_true rfl) dX6_putRow_21 (st1 := [.int q3.2, .ref (gA G 75)]) rfl 24 rfl ?_
      obtain ⟨q5, e6, h⟩ := ob_some h
      refine j_callV C (ct_X3_put (eL E) G row75 e6) sh75 foX3 rfl vk_X3_put kw2_162 rfl ⟨Nat.le_of_ble_eq_true rfl, Nat.le_of_ble_eq_true rfl, rfl, rfl⟩ ⟨Nat.zero_le _, Nat.zero_le _⟩ (rest := []) rfl (Nat.le_of_ble_eq_true rfl) dX6_putRow_24 (st1 := []) rfl 27 rfl ?_
      refine j_iinc C dX6_putRow_27 3 rfl (v4 + (1 : Int32)) rfl (by decide) [(4, .int (v4 + (1 : Int32))), (0, .ref (gA G 81)), (1, .long v1), (3, .int v3)] rfl 30 rfl ?_
      refine j_goto C dX6_putRow_30 8 (by decide) ?_
      refine j_sub [(0, .ref (gA G 81)), (1, .long v1), (3, .int v3), (4, .int (v4 + (1 : Int32)))] [1, 2, 3, 0] rfl ?_
      exact ih _ _ _ _ h
def X6_putRow (σ : Mem) (p1 : Int64) : Option (Mem × Unit) :=
  ((X6_strokesOf σ p1).bind fun q1 => X6_putRow_8 (fun (σ : Mem)  => some (σ, ())) FU q1.1 p1 q1.2 (0 : Int32))
set_option maxHeartbeats 4000000 in
set_option maxRecDepth 100000 in
theorem ct_X6_putRow (l : Launch) (G : Gw)  {σ : Mem} {p1 : Int64} {out : Mem × Unit} (h : X6_putRow σ p1 = some out) : Ct l G yX6_putRow cX6_putRow 5 none { frames := 2, cells := 0, slots := 0, locals := 45 } [.ref (gA G 81), .long p1] σ out.1 (none) := by
  refine Ct.of (by decide +kernel) (Nat.le_of_ble_eq_true rfl) (fun E hE C F => ?_)
  subst hE
  have C : Cx E G RX6 cX6_putRow 5 { frames := 2, cells := 0, slots := 0, locals := 45 } := C
  unfold X6_putRow at h
  show J E G 5 0 0 σ 0 [(0, .ref (gA G 81)), (1, .long p1)] []
  refine j_lload_n C dX6_putRow_0 rfl 1 rfl 1 rfl ?_
  obtain ⟨q1, e2, h⟩ := ob_some h
  refine j_callS C (ct_X6_strokesOf (eL E) G  e2) vk_X6_strokesOf kw2_223 rfl ⟨Nat.le_of_ble_eq_true rfl, Nat.le_of_ble_eq_true rfl, rfl, rfl⟩ ⟨Nat.zero_le _, Nat.zero_le _⟩ (rest := []) rfl (Nat.le_of_ble_eq_true rfl) dX6_putRow_1 (st1 := [.int q1.2]) rfl 4 rfl ?_
  refine j_istore_n C dX6_putRow_4 rfl (by decide) [(3, .int q1.2), (0, .ref (gA G 81)), (1, .long p1)] rfl 5 rfl ?_
  refine j_iconst C dX6_putRow_5 (0 : Int32) (by decide) 6 rfl ?_
  refine j_istore C dX6_putRow_6 (by decide) [(4, .int (0 : Int32)), (3, .int q1.2), (0, .ref (gA G 81)), (1, .long p1)] rfl 8 rfl ?_
  refine j_sub [(0, .ref (gA G 81)), (1, .long p1), (3, .int q1.2), (4, .int (0 : Int32))] [2, 3, 1, 0] rfl ?_
  refine w_X6_putRow_8 C F  (fun σ  h => ?_) FU _ _ _ _ h
  exact j_vret C F dX6_putRow_33 h

-- ===== StenoChords.readBehind(II)I
theorem vk_X6_readBehind : VK yX6_readBehind cX6_readBehind 7 (some .int) 2 := ⟨kw3_101, kw3_100, kwS_14, kw1_1, by decide +kernel⟩
def X6_readBehind (σ : Mem) (p1 : Int32) (p2 : Int32) : Option (Mem × Int32) :=
  ((X3_shorten 75 σ (0 : Int32)).bind fun q1 => ((X0_rowOf 3 q1.1 p1).bind fun q3 => ((X6_putRow q3.1 q3.2).bind fun q5 => ((X3_length 75 q5.1).bind fun q7 => ((X0_rowOf 3 q7.1 p2).bind fun q9 => ((X6_putRow q9.1 q9.2).bind fun q11 => ((X3_length 75 q11.1).bind fun q13 => ((X0_longestAt 3 75 q13.1 (0 : Int32) (q13.1.1 0 3)).bind fun q15 => (if q15.2 = q13.2 then some (q15.1, (1 : Int32)) else (if q15.2 = q7.2 then ((X0_longestAt 3 75 q15.1 q7.2 (q15.1.1 0 3)).bind fun q17 => (if q17.2 = (q13.2 - q7.2) then some (q17.1, (0 : Int32)) else some (q17.1, (2 : Int32)))) else some (q15.1, (2 : Int32))))))))))))
set_option maxHeartbeats 4000000 in
set_option maxRecDepth 100000 in
theorem ct_X6_readBehind (l : Launch) (G : Gw)  {σ : Mem} {p1 : Int32} {p2 : Int32} {out : Mem × Int32} (h : X6_readBehind σ p1 p2 = some out) : Ct l G yX6_readBehind cX6_readBehind 7 (some .int) { frames := 3, cells := 0, slots := 0, locals := 69 } [.ref (gA G 81), .int p1, .int p2] σ out.1 (some (.int out.2)) := by
  refine Ct.of (by decide +kernel) (Nat.le_of_ble_eq_true rfl) (fun E hE C F => ?_)
  subst hE
  have C : Cx E G RX6 cX6_readBehind 7 { frames := 3, cells := 0, slots := 0, locals := 69 } := C
  unfold X6_readBehind at h
  show J E G 7 0 0 σ 0 [(0, .ref (gA G 81)), (1, .int p1), (2, .int p2)] []
  refine j_aload_n C dX6_readBehind_0 rfl 0 rfl 1 rfl ?_
  refine j_get C foX6 sh81 5 (by decide) 77 rfl kw1_164 rfl dX6_readBehind_1 (.ref (gA G 75)) (fv_r rfl) 4 rfl ?_
  refine j_iconst C dX6_readBehind_4 (0 : Int32) (by decide) 5 rfl ?_
  obtain ⟨q1, e2, h⟩ := ob_some h
  refine j_callV C (ct_X3_shorten (eL E) G row75 e2) sh75 foX3 rfl vk_X3_shorten kw2_160 rfl ⟨Nat.le_of_ble_eq_true rfl, Nat.le_of_ble_eq_true rfl, rfl, rfl⟩ ⟨Nat.zero_le _, Nat.zero_le _⟩ (rest := []) rfl (Nat.le_of_ble_eq_true rfl) dX6_readBehind_5 (st1 := []) rfl 8 rfl ?_
  refine j_aload_n C dX6_readBehind_8 rfl 0 rfl 9 rfl ?_
  refine j_aload_n C dX6_readBehind_9 rfl 0 rfl 10 rfl ?_
  refine j_get C foX6 sh81 0 (by decide) 2 rfl kw1_159 rfl dX6_readBehind_10 (.ref (gA G 0)) (fv_r rfl) 13 rfl ?_
  refine j_get C foX5 sh0 1 (by decide) 5 rfl kw1_76 rfl dX6_readBehind_13 (.ref (gA G 3)) (fv_r rfl) 16 rfl ?_
  refine j_iload_n C dX6_readBehind_16 rfl 1 rfl 17 rfl ?_
  obtain ⟨q3, e4, h⟩ := ob_some h
  refine j_callV C (ct_X0_rowOf (eL E) G ent3 e4) sh3 foX0 rfl vk_X0_rowOf kw2_221 rfl ⟨Nat.le_of_ble_eq_true rfl, Nat.le_of_ble_eq_true rfl, rfl, rfl⟩ ⟨Nat.zero_le _, Nat.zero_le _⟩ (rest := [.ref (gA G 81)]) rfl (Nat.le_of_ble_eq_true rfl) dX6_readBehind_17 (st1 := [.long q3.2, .ref (gA G 81)]) rfl 20 rfl ?_
  obtain ⟨q5, e6, h⟩ := ob_some h
  refine j_callV C (ct_X6_putRow (eL E) G  e6) sh81 foX6 rfl vk_X6_putRow kw3_102 rfl ⟨Nat.le_of_ble_eq_true rfl, Nat.le_of_ble_eq_true rfl, rfl, rfl⟩ ⟨Nat.zero_le _, Nat.zero_le _⟩ (rest := []) rfl (Nat.le_of_ble_eq_true rfl) dX6_readBehind_20 (st1 := []) rfl 23 rfl ?_
  refine j_aload_n C dX6_readBehind_23 rfl 0 rfl 24 rfl ?_
  refine j_get C foX6 sh81 5 (by decide) 77 rfl kw1_164 rfl dX6_readBehind_24 (.ref (gA G 75)) (fv_r rfl) 27 rfl ?_
  obtain ⟨q7, e8, h⟩ := ob_some h
  refine j_callV C (ct_X3_length (eL E) G row75 e8) sh75 foX3 rfl vk_X3_length kw1_238 rfl ⟨Nat.le_of_ble_eq_true rfl, Nat.le_of_ble_eq_true rfl, rfl, rfl⟩ ⟨Nat.zero_le _, Nat.zero_le _⟩ (rest := []) rfl (Nat.le_of_ble_eq_true rfl) dX6_readBehind_27 (st1 := [.int q7.2]) rfl 30 rfl ?_
  refine j_istore_n C dX6_readBehind_30 rfl (by decide) [(3, .int q7.2), (0, .ref (gA G 81)), (1, .int p1), (2, .int p2)] rfl 31 rfl ?_
  refine j_aload_n C dX6_readBehind_31 rfl 1 rfl 32 rfl ?_
  refine j_aload_n C dX6_readBehind_32 rfl 1 rfl 33 rfl ?_
  refine j_get C foX6 sh81 0 (by decide) 2 rfl kw1_159 rfl dX6_readBehind_33 (.ref (gA G 0)) (fv_r rfl) 36 rfl ?_
  refine j_get C foX5 sh0 1 (by decide) 5 rfl kw1_76 rfl dX6_readBehind_36 (.ref (gA G 3)) (fv_r rfl) 39 rfl ?_
  refine j_iload_n C dX6_readBehind_39 rfl 3 rfl 40 rfl ?_
  obtain ⟨q9, e10, h⟩ := ob_some h
  refine j_callV C (ct_X0_rowOf (eL E) G ent3 e10) sh3 foX0 rfl vk_X0_rowOf kw2_221 rfl ⟨Nat.le_of_ble_eq_true rfl, Nat.le_of_ble_eq_true rfl, rfl, rfl⟩ ⟨Nat.zero_le _, Nat.zero_le _⟩ (rest := [.ref (gA G 81)]) rfl (Nat.le_of_ble_eq_true rfl) dX6_readBehind_40 (st1 := [.long q9.2, .ref (gA G 81)]) rfl 43 rfl ?_
  obtain ⟨q11, e12, h⟩ := ob_some h
  refine j_callV C (ct_X6_putRow (eL E) G  e12) sh81 foX6 rfl vk_X6_putRow kw3_102 rfl ⟨Nat.le_of_ble_eq_true rfl, Nat.le_of_ble_eq_true rfl, rfl, rfl⟩ ⟨Nat.zero_le _, Nat.zero_le _⟩ (rest := []) rfl (Nat.le_of_ble_eq_true rfl) dX6_readBehind_43 (st1 := []) rfl 46 rfl ?_
  refine j_aload_n C dX6_readBehind_46 rfl 1 rfl 47 rfl ?_
  refine j_get C foX6 sh81 5 (by decide) 77 rfl kw1_164 rfl dX6_readBehind_47 (.ref (gA G 75)) (fv_r rfl) 50 rfl ?_
  obtain ⟨q13, e14, h⟩ := ob_some h
  refine j_callV C (ct_X3_length (eL E) G row75 e14) sh75 foX3 rfl vk_X3_length kw1_238 rfl ⟨Nat.le_of_ble_eq_true rfl, Nat.le_of_ble_eq_true rfl, rfl, rfl⟩ ⟨Nat.zero_le _, Nat.zero_le _⟩ (rest := []) rfl (Nat.le_of_ble_eq_true rfl) dX6_readBehind_50 (st1 := [.int q13.2]) rfl 53 rfl ?_
  refine j_istore C dX6_readBehind_53 (by decide) [(4, .int q13.2), (3, .int q7.2), (0, .ref (gA G 81)), (1, .int p1), (2, .int p2)] rfl 55 rfl ?_
  refine j_aload_n C dX6_readBehind_55 rfl 2 rfl 56 rfl ?_
  refine j_get C foX6 sh81 0 (by decide) 2 rfl kw1_159 rfl dX6_readBehind_56 (.ref (gA G 0)) (fv_r rfl) 59 rfl ?_
  refine j_get C foX5 sh0 1 (by decide) 5 rfl kw1_76 rfl dX6_readBehind_59 (.ref (gA G 3)) (fv_r rfl) 62 rfl ?_
  refine j_aload_n C dX6_readBehind_62 rfl 2 rfl 63 rfl ?_
  refine j_get C foX6 sh81 5 (by decide) 77 rfl kw1_164 rfl dX6_readBehind_63 (.ref (gA G 75)) (fv_r rfl) 66 rfl ?_
  refine j_iconst C dX6_readBehind_66 (0 : Int32) (by decide) 67 rfl ?_
  refine j_aload_n C dX6_readBehind_67 rfl 2 rfl 68 rfl ?_
  refine j_get C foX6 sh81 0 (by decide) 2 rfl kw1_159 rfl dX6_readBehind_68 (.ref (gA G 0)) (fv_r rfl) 71 rfl ?_
  refine j_get C foX5 sh0 3 (by decide) 0 rfl kw1_81 rfl dX6_readBehind_71 (.int (q13.1.1 0 3)) rfl 74 rfl ?_
  obtain ⟨q15, e16, h⟩ := ob_some h
  refine j_callV C (ct_X0_longestAt (eL E) G ent3 row75 e16) sh3 foX0 rfl vk_X0_longestAt kw3_106 rfl ⟨Nat.le_of_ble_eq_true rfl, Nat.le_of_ble_eq_true rfl, rfl, rfl⟩ ⟨Nat.zero_le _, Nat.zero_le _⟩ (rest := []) rfl (Nat.le_of_ble_eq_true rfl) dX6_readBehind_74 (st1 := [.int q15.2]) rfl 77 rfl ?_
  refine j_istore C dX6_readBehind_77 (by decide) [(5, .int q15.2), (4, .int q13.2), (3, .int q7.2), (0, .ref (gA G 81)), (1, .int p1), (2, .int p2)] rfl 79 rfl ?_
  refine j_iload C dX6_readBehind_79 0 rfl 81 rfl ?_
  refine j_iload C dX6_readBehind_81 1 rfl 83 rfl ?_
  refine j_icmp_ne C dX6_readBehind_83 88 (by decide) 86 rfl (fun c => ?_) (fun c => ?_)
  · have h := it_f c h
    refine j_iload C dX6_readBehind_88 0 rfl 90 rfl ?_
    refine j_iload_n C dX6_readBehind_90 rfl 2 rfl 91 rfl ?_
    refine j_icmp_eq C dX6_readBehind_91 96 (by decide) 94 rfl (fun c => ?_) (fun c => ?_)
    · have h := it_t c h
      refine j_aload_n C dX6_readBehind_96 rfl 3 rfl 97 rfl ?_
      refine j_get C foX6 sh81 0 (by decide) 2 rfl kw1_159 rfl dX6_readBehind_97 (.ref (gA G 0)) (fv_r rfl) 100 rfl ?_
      refine j_get C foX5 sh0 1 (by decide) 5 rfl kw1_76 rfl dX6_readBehind_100 (.ref (gA G 3)) (fv_r rfl) 103 rfl ?_
      refine j_aload_n C dX6_readBehind_103 rfl 3 rfl 104 rfl ?_
      refine j_get C foX6 sh81 5 (by decide) 77 rfl kw1_164 rfl dX6_readBehind_104 (.ref (gA G 75)) (fv_r rfl) 107 rfl ?_
      refine j_iload_n C dX6_readBehind_107 rfl 2 rfl 108 rfl ?_
      refine j_aload_n C dX6_readBehind_108 rfl 3 rfl 109 rfl ?_
      refine j_get C foX6 sh81 0 (by decide) 2 rfl kw1_159 rfl dX6_readBehind_109 (.ref (gA G 0)) (fv_r rfl) 112 rfl ?_
      refine j_get C foX5 sh0 3 (by decide) 0 rfl kw1_81 rfl dX6_readBehind_112 (.int (q15.1.1 0 3)) rfl 115 rfl ?_
      obtain ⟨q17, e18, h⟩ := ob_some h
      refine j_callV C (ct_X0_longestAt (eL E) G ent3 row75 e18) sh3 foX0 rfl vk_X0_longestAt kw3_106 rfl ⟨Nat.le_of_ble_eq_true rfl, Nat.le_of_ble_eq_true rfl, rfl, rfl⟩ ⟨Nat.zero_le _, Nat.zero_le _⟩ (rest := []) rfl (Nat.le_of_ble_eq_true rfl) dX6_readBehind_115 (st1 := [.int q17.2]) rfl 118 rfl ?_
      refine j_istore C dX6_readBehind_118 (by decide) [(6, .int q17.2), (5, .int q15.2), (4, .int q13.2), (3, .int q7.2), (0, .ref (gA G 81)), (1, .int p1), (2, .int p2)] rfl 120 rfl ?_
      refine j_iload C dX6_readBehind_120 0 rfl 122 rfl ?_
      refine j_iload C dX6_readBehind_122 2 rfl 124 rfl ?_
      refine j_iload_n C dX6_readBehind_124 rfl 3 rfl 125 rfl ?_
      refine j_isub C dX6_readBehind_125 126 rfl ?_
      refine j_icmp_ne C dX6_readBehind_126 133 (by decide) 129 rfl (fun c => ?_) (fun c => ?_)
      · have h := it_f c h
        refine j_iconst C dX6_readBehind_133 (2 : Int32) (by decide) 134 rfl ?_
        exact j_iret C F dX6_readBehind_134 h
      · have h := it_t c h
        refine j_iconst C dX6_readBehind_129 (0 : Int32) (by decide) 130 rfl ?_
        refine j_goto C dX6_readBehind_130 134 (by decide) ?_
        exact j_iret C F dX6_readBehind_134 h
    · have h := it_f c h
      refine j_iconst C dX6_readBehind_94 (2 : Int32) (by decide) 95 rfl ?_
      exact j_iret C F dX6_readBehind_95 h
  · have h := it_t c h
    refine j_iconst C dX6_readBehind_86 (1 : Int32) (by decide) 87 rfl ?_
    exact j_iret C F dX6_readBehind_87 h

-- ===== StenoChords.behind(II)I
theorem vk_X6_behind : VK yX6_behind cX6_behind 3 (some .int) 2 := ⟨kw3_110, kw3_108, kw3_109, kw1_1, by decide +kernel⟩
def X6_behind (σ : Mem) (p1 : Int32) (p2 : Int32) : Option (Mem × (Int32 ⊕ Nat)) :=
  ((X0_has 3 σ p1).bind fun q1 => (if q1.2 = 0 then some (q1.1, Sum.inr 2) else ((X0_has 3 q1.1 p2).bind fun q3 => (if q3.2 = 0 then some (q3.1, Sum.inr 2) else ((X6_readBehind q3.1 p1 p2).bind fun q5 => some (q5.1, Sum.inl q5.2))))))
set_option maxHeartbeats 4000000 in
set_option maxRecDepth 100000 in
theorem wk_X6_behind {E : Ev} {G : Gw} {kc ks : Nat} (C : Cx E G RX6 cX6_behind 3 { frames := 6, cells := kc, slots := ks, locals := 95 }) {out : Mem × (Int32 ⊕ Nat)} (F : Efx E G out (some .int))  {σ : Mem} {p1 : Int32} {p2 : Int32} (h : X6_behind σ p1 p2 = some out) : J E G 3 0 0 σ 0 [(0, .ref (gA G 81)), (1, .int p1), (2, .int p2)] [] := by
  unfold X6_behind at h
  refine j_aload_n C dX6_behind_0 rfl 0 rfl 1 rfl ?_
  refine j_get C foX6 sh81 0 (by decide) 2 rfl kw1_159 rfl dX6_behind_1 (.ref (gA G 0)) (fv_r rfl) 4 rfl ?_
  refine j_get C foX5 sh0 1 (by decide) 5 rfl kw1_76 rfl dX6_behind_4 (.ref (gA G 3)) (fv_r rfl) 7 rfl ?_
  refine j_iload_n C dX6_behind_7 rfl 1 rfl 8 rfl ?_
  obtain ⟨q1, e2, h⟩ := ob_some h
  refine j_callV C (ct_X0_has (eL E) G ent3 e2) sh3 foX0 rfl vk_X0_has kw2_214 rfl ⟨Nat.le_of_ble_eq_true rfl, Nat.le_of_ble_eq_true rfl, rfl, rfl⟩ ⟨Nat.zero_le _, Nat.zero_le _⟩ (rest := []) rfl (Nat.le_of_ble_eq_true rfl) dX6_behind_8 (st1 := [.int q1.2]) rfl 11 rfl ?_
  refine j_if_eq C dX6_behind_11 28 (by decide) 14 rfl (fun c => ?_) (fun c => ?_)
  · have h := it_t c h
    exact j_throw C F (x := 2) (by decide +kernel) kw2_194 kw1_13 str_166 ha_2_124 dX6_behind_28 dX6_behind_31 dX6_behind_32 dX6_behind_34 dX6_behind_37 ⟨Nat.le_of_ble_eq_true rfl, Nat.le_of_ble_eq_true rfl⟩ h
  · have h := it_f c h
    refine j_aload_n C dX6_behind_14 rfl 0 rfl 15 rfl ?_
    refine j_get C foX6 sh81 0 (by decide) 2 rfl kw1_159 rfl dX6_behind_15 (.ref (gA G 0)) (fv_r rfl) 18 rfl ?_
    refine j_get C foX5 sh0 1 (by decide) 5 rfl kw1_76 rfl dX6_behind_18 (.ref (gA G 3)) (fv_r rfl) 21 rfl ?_
    refine j_iload_n C dX6_behind_21 rfl 2 rfl 22 rfl ?_
    obtain ⟨q3, e4, h⟩ := ob_some h
    refine j_callV C (ct_X0_has (eL E) G ent3 e4) sh3 foX0 rfl vk_X0_has kw2_214 rfl ⟨Nat.le_of_ble_eq_true rfl, Nat.le_of_ble_eq_true rfl, rfl, rfl⟩ ⟨Nat.zero_le _, Nat.zero_le _⟩ (rest := []) rfl (Nat.le_of_ble_eq_true rfl) dX6_behind_22 (st1 := [.int q3.2]) rfl 25 rfl ?_
    refine j_if_ne C dX6_behind_25 38 (by decide) 28 rfl (fun c => ?_) (fun c => ?_)
    · have h := it_f c h
      refine j_aload_n C dX6_behind_38 rfl 0 rfl 39 rfl ?_
      refine j_iload_n C dX6_behind_39 rfl 1 rfl 40 rfl ?_
      refine j_iload_n C dX6_behind_40 rfl 2 rfl 41 rfl ?_
      obtain ⟨q5, e6, h⟩ := ob_some h
      refine j_callV C (ct_X6_readBehind (eL E) G  e6) sh81 foX6 rfl vk_X6_readBehind kw3_98 rfl ⟨Nat.le_of_ble_eq_true rfl, Nat.le_of_ble_eq_true rfl, rfl, rfl⟩ ⟨Nat.zero_le _, Nat.zero_le _⟩ (rest := []) rfl (Nat.le_of_ble_eq_true rfl) dX6_behind_41 (st1 := [.int q5.2]) rfl 44 rfl ?_
      exact j_iretX C F dX6_behind_44 h
    · have h := it_t c h
      exact j_throw C F (x := 2) (by decide +kernel) kw2_194 kw1_13 str_166 ha_2_124 dX6_behind_28 dX6_behind_31 dX6_behind_32 dX6_behind_34 dX6_behind_37 ⟨Nat.le_of_ble_eq_true rfl, Nat.le_of_ble_eq_true rfl⟩ h
set_option maxHeartbeats 4000000 in
set_option maxRecDepth 100000 in
theorem ct_X6_behind (l : Launch) (G : Gw)  {σ : Mem} {p1 : Int32} {p2 : Int32} {out : Mem × Int32} (h : X6_behind σ p1 p2 = some (out.1, .inl out.2)) : Ct l G yX6_behind cX6_behind 3 (some .int) { frames := 6, cells := 0, slots := 0, locals := 95 } [.ref (gA G 81), .int p1, .int p2] σ out.1 (some (.int out.2)) :=
  Ct.of (by decide +kernel) (Nat.le_of_ble_eq_true rfl) (fun E hE C F => wk_X6_behind C ⟨fun v hv => (by cases hv; exact F), fun x hx => (by cases hx)⟩ h)
theorem cx_X6_behind (l : Launch) (hst : l.stackTraces = false) (G : Gw)  {σ σ2 : Mem} {p1 : Int32} {p2 : Int32} {x : Nat} (h : X6_behind σ p1 p2 = some (σ2, .inr x)) : Cx1 l G yX6_behind cX6_behind 3 (some .int) { frames := 6, cells := 1, slots := 6, locals := 95 } [.ref (gA G 81), .int p1, .int p2] σ σ2 x :=
    Cx1.of (by decide +kernel) (Nat.le_of_ble_eq_true rfl) hst ⟨by decide, by decide⟩ (fun E hE C F => wk_X6_behind C ⟨fun v hv => (by cases hv), fun x hx => (by cases hx; exact F)⟩ h)

-- ===== StenoChords.clashes()I
theorem vk_X6_clashes : VK yX6_clashes cX6_clashes 4 (some .int) 0 := ⟨kw3_97, kw3_95, kw3_96, kw1_1, by decide +kernel⟩
def X6_clashes_20 (K : Mem → Int32 → Int32 → Option (Mem × Int32)) : Nat → Mem → Int32 → Int32 → Int32 → Option (Mem × Int32)
  | 0, _, _, _, _ => none
  | fu + 1, σ, v1, v2, v3 => ((X0_size 3 σ).bind fun q3 => (if q3.2 ≤ v3 then K q3.1 v1 v2 else ((X6_readBehind q3.1 v2 v3).bind fun q5 => (if q5.2 = 0 then X6_clashes_20 K fu q5.1 v1 v2 (v3 + (1 : Int32)) else X6_clashes_20 K fu q5.1 (v1 + (1 : Int32)) v2 (v3 + (1 : Int32))))))
set_option maxHeartbeats 4000000 in
set_option maxRecDepth 100000 in
theorem w_X6_clashes_20 {E : Ev} {G : Gw} (C : Cx E G RX6 cX6_clashes 4 { frames := 4, cells := 0, slots := 0, locals := 95 }) {out : Mem × Int32} (F : Ef E G out.1 (some (.int out.2)) (some .int) 0 0)  {K : Mem → Int32 → Int32 → Option (Mem × Int32)} (hK : ∀ (σ : Mem) (v1 : Int32) (v2 : Int32), K σ v1 v2 = some out → J E G 4 0 0 σ 52 [(0, .ref (gA G 81)), (1, .int v1), (2, .int v2)] []) : ∀ (fu : Nat) (σ : Mem) (v1 : Int32) (v2 : Int32) (v3 : Int32), X6_clashes_20 K fu σ v1 v2 v3 = some out → J E G 4 0 0 σ 20 [(0, .ref (gA G 81)), (1, .int v1), (2, .int v2), (3, .int v3)] [] := by
  intro fu
  induction fu with
  | zero => intro σ v1 v2 v3 h; rw [X6_clashes_20] at h; cases h
  | succ fu ih =>
    intro σ v1 v2 v3 h
    rw [X6_clashes_20] at h
    refine j_iload_n C dX6_clashes_20 rfl 3 rfl 21 rfl ?_
    refine j_aload_n C dX6_clashes_21 rfl 0 rfl 22 rfl ?_
    refine j_get C foX6 sh81 0 (by decide) 2 rfl kw1_159 rfl dX6_clashes_22 (.ref (gA G 0)) (fv_r rfl) 25 rfl ?_
    refine j_get C foX5 sh0 1 (by decide) 5 rfl kw1_76 rfl dX6_clashes_25 (.ref (gA G 3)) (fv_r rfl) 28 rfl ?_
    obtain ⟨q3, e4, h⟩ := ob_some h
    refine j_callV C (ct_X0_size (eL E) G ent3 e4) sh3 foX0 rfl vk_X0_size kw2_172 rfl ⟨Nat.le_of_ble_eq_true rfl, Nat.le_of_ble_eq_true rfl, rfl, rfl⟩ ⟨Nat.zero_le _, Nat.zero_le _⟩ (rest := [.int v3]) rfl (Nat.le_of_ble_eq_true rfl) dX6_clashes_28 (st1 := [.int q3.2, .int v3]) rfl 31 rfl ?_
    refine j_icmp_ge C dX6_clashes_31 52 (by decide) 34 rfl (fun c => ?_) (fun c => ?_)
    · have h := it_t c h
      refine j_sub [(0, .ref (gA G 81)), (1, .int v1), (2, .int v2)] [0, 1, 2] rfl ?_
      exact hK _ _ _ h
    · have h := it_f c h
      refine j_aload_n C dX6_clashes_34 rfl 0 rfl 35 rfl ?_
      refine j_iload_n C dX6_clashes_35 rfl 2 rfl 36 rfl ?_
      refine j_iload_n C dX6_clashes_36 rfl 3 rfl 37 rfl ?_
      obtain ⟨q5, e6, h⟩ := ob_some h
      refine j_callV C (ct_X6_readBehind (eL E) G  e6) sh81 foX6 rfl vk_X6_readBehind kw3_98 rfl ⟨Nat.le_of_ble_eq_true rfl, Nat.le_of_ble_eq_true rfl, rfl, rfl⟩ ⟨Nat.zero_le _, Nat.zero_le _⟩ (rest := []) rfl (Nat.le_of_ble_eq_true rfl) dX6_clashes_37 (st1 := [.int q5.2]) rfl 40 rfl ?_
      refine j_if_eq C dX6_clashes_40 46 (by decide) 43 rfl (fun c => ?_) (fun c => ?_)
      · have h := it_t c h
        refine j_iinc C dX6_clashes_46 3 rfl (v3 + (1 : Int32)) rfl (by decide) [(3, .int (v3 + (1 : Int32))), (0, .ref (gA G 81)), (1, .int v1), (2, .int v2)] rfl 49 rfl ?_
        refine j_goto C dX6_clashes_49 20 (by decide) ?_
        refine j_sub [(0, .ref (gA G 81)), (1, .int v1), (2, .int v2), (3, .int (v3 + (1 : Int32)))] [1, 2, 3, 0] rfl ?_
        exact ih _ _ _ _ h
      · have h := it_f c h
        refine j_iinc C dX6_clashes_43 1 rfl (v1 + (1 : Int32)) rfl (by decide) [(1, .int (v1 + (1 : Int32))), (0, .ref (gA G 81)), (2, .int v2), (3, .int v3)] rfl 46 rfl ?_
        refine j_iinc C dX6_clashes_46 3 rfl (v3 + (1 : Int32)) rfl (by decide) [(3, .int (v3 + (1 : Int32))), (1, .int (v1 + (1 : Int32))), (0, .ref (gA G 81)), (2, .int v2)] rfl 49 rfl ?_
        refine j_goto C dX6_clashes_49 20 (by decide) ?_
        refine j_sub [(0, .ref (gA G 81)), (1, .int (v1 + (1 : Int32))), (2, .int v2), (3, .int (v3 + (1 : Int32)))] [2, 1, 3, 0] rfl ?_
        exact ih _ _ _ _ h
def X6_clashes_4 (K : Mem → Int32 → Option (Mem × Int32)) : Nat → Mem → Int32 → Int32 → Option (Mem × Int32)
  | 0, _, _, _ => none
  | fu + 1, σ, v1, v2 => ((X0_size 3 σ).bind fun q1 => (if q1.2 ≤ v2 then K q1.1 v1 else X6_clashes_20 (fun (σ : Mem) (v1 : Int32) (v2 : Int32) => X6_clashes_4 K fu σ v1 (v2 + (1 : Int32))) FU q1.1 v1 v2 (0 : Int32)))
set_option maxHeartbeats 4000000 in
set_option maxRecDepth 100000 in
theorem w_X6_clashes_4 {E : Ev} {G : Gw} (C : Cx E G RX6 cX6_clashes 4 { frames := 4, cells := 0, slots := 0, locals := 95 }) {out : Mem × Int32} (F : Ef E G out.1 (some (.int out.2)) (some .int) 0 0)  {K : Mem → Int32 → Option (Mem × Int32)} (hK : ∀ (σ : Mem) (v1 : Int32), K σ v1 = some out → J E G 4 0 0 σ 58 [(1, .int v1)] []) : ∀ (fu : Nat) (σ : Mem) (v1 : Int32) (v2 : Int32), X6_clashes_4 K fu σ v1 v2 = some out → J E G 4 0 0 σ 4 [(0, .ref (gA G 81)), (1, .int v1), (2, .int v2)] [] := by
  intro fu
  induction fu with
  | zero => intro σ v1 v2 h; rw [X6_clashes_4] at h; cases h
  | succ fu ih =>
    intro σ v1 v2 h
    rw [X6_clashes_4] at h
    refine j_iload_n C dX6_clashes_4 rfl 2 rfl 5 rfl ?_
    refine j_aload_n C dX6_clashes_5 rfl 0 rfl 6 rfl ?_
    refine j_get C foX6 sh81 0 (by decide) 2 rfl kw1_159 rfl dX6_clashes_6 (.ref (gA G 0)) (fv_r rfl) 9 rfl ?_
    refine j_get C foX5 sh0 1 (by decide) 5 rfl kw1_76 rfl dX6_clashes_9 (.ref (gA G 3)) (fv_r rfl) 12 rfl ?_
    obtain ⟨q1, e2, h⟩ := ob_some h
    refine j_callV C (ct_X0_size (eL E) G ent3 e2) sh3 foX0 rfl vk_X0_size kw2_172 rfl ⟨Nat.le_of_ble_eq_true rfl, Nat.le_of_ble_eq_true rfl, rfl, rfl⟩ ⟨Nat.zero_le _, Nat.zero_le _⟩ (rest := [.int v2]) rfl (Nat.le_of_ble_eq_true rfl) dX6_clashes_12 (st1 := [.int q1.2, .int v2]) rfl 15 rfl ?_
    refine j_icmp_ge C dX6_clashes_15 58 (by decide) 18 rfl (fun c => ?_) (fun c => ?_)
    · have h := it_t c h
      refine j_sub [(1, .int v1)] [1] rfl ?_
      exact hK _ _ h
    · have h := it_f c h
      refine j_iconst C dX6_clashes_18 (0 : Int32) (by decide) 19 rfl ?_
      refine j_istore_n C dX6_clashes_19 rfl (by decide) [(3, .int (0 : Int32)), (0, .ref (gA G 81)), (1, .int v1), (2, .int v2)] rfl 20 rfl ?_
      refine j_sub [(0, .ref (gA G 81)), (1, .int v1), (2, .int v2), (3, .int (0 : Int32))] [1, 2, 3, 0] rfl ?_
      refine w_X6_clashes_20 C F  (fun σ v1 v2 h => ?_) FU _ _ _ _ h
      refine j_iinc C dX6_clashes_52 2 rfl (v2 + (1 : Int32)) rfl (by decide) [(2, .int (v2 + (1 : Int32))), (0, .ref (gA G 81)), (1, .int v1)] rfl 55 rfl ?_
      refine j_goto C dX6_clashes_55 4 (by decide) ?_
      refine j_sub [(0, .ref (gA G 81)), (1, .int v1), (2, .int (v2 + (1 : Int32)))] [1, 2, 0] rfl ?_
      exact ih _ _ _ h
def X6_clashes (σ : Mem) : Option (Mem × Int32) :=
  X6_clashes_4 (fun (σ : Mem) (v1 : Int32) => some (σ, v1)) FU σ (0 : Int32) (0 : Int32)
set_option maxHeartbeats 4000000 in
set_option maxRecDepth 100000 in
theorem ct_X6_clashes (l : Launch) (G : Gw)  {σ : Mem} {out : Mem × Int32} (h : X6_clashes σ = some out) : Ct l G yX6_clashes cX6_clashes 4 (some .int) { frames := 4, cells := 0, slots := 0, locals := 95 } [.ref (gA G 81)] σ out.1 (some (.int out.2)) := by
  refine Ct.of (by decide +kernel) (Nat.le_of_ble_eq_true rfl) (fun E hE C F => ?_)
  subst hE
  have C : Cx E G RX6 cX6_clashes 4 { frames := 4, cells := 0, slots := 0, locals := 95 } := C
  unfold X6_clashes at h
  show J E G 4 0 0 σ 0 [(0, .ref (gA G 81))] []
  refine j_iconst C dX6_clashes_0 (0 : Int32) (by decide) 1 rfl ?_
  refine j_istore_n C dX6_clashes_1 rfl (by decide) [(1, .int (0 : Int32)), (0, .ref (gA G 81))] rfl 2 rfl ?_
  refine j_iconst C dX6_clashes_2 (0 : Int32) (by decide) 3 rfl ?_
  refine j_istore_n C dX6_clashes_3 rfl (by decide) [(2, .int (0 : Int32)), (1, .int (0 : Int32)), (0, .ref (gA G 81))] rfl 4 rfl ?_
  refine j_sub [(0, .ref (gA G 81)), (1, .int (0 : Int32)), (2, .int (0 : Int32))] [2, 1, 0] rfl ?_
  refine w_X6_clashes_4 C F  (fun σ v1 h => ?_) FU _ _ _ h
  refine j_iload_n C dX6_clashes_58 rfl 0 rfl 59 rfl ?_
  exact j_iret C F dX6_clashes_59 h

-- ===== StenoChords.fewestUpTo(I)I
theorem vk_X6_fewestUpTo : VK yX6_fewestUpTo cX6_fewestUpTo 6 (some .int) 1 := ⟨kw3_55, kw3_54, kwS_11, kw1_1, by decide +kernel⟩
def X6_fewestUpTo_28 (K : Mem → Int32 → Option (Mem × Int32)) : Nat → Mem → Int32 → Int32 → Int32 → Int32 → Option (Mem × Int32)
  | 0, _, _, _, _, _ => none
  | fu + 1, σ, v1, v2, v3, v4 => (if v3 < v4 then K σ v2 else ((X3_packed 1 σ (v1 - v4) v4).bind fun q3 => ((X0_leaderOf 3 q3.1 q3.2).bind fun q5 => (if q5.2 = (-1 : Int32) then X6_fewestUpTo_28 K fu q5.1 v1 v2 v3 (v4 + (1 : Int32)) else ((X3_at 79 q5.1 (v1 - v4)).bind fun q7 => X6_fewestUpTo_28 K fu q7.1 v1 (if (q7.2 + (1 : Int32)) < v2 then (q7.2 + (1 : Int32)) else v2) v3 (v4 + (1 : Int32)))))))
set_option maxHeartbeats 4000000 in
set_option maxRecDepth 100000 in
theorem w_X6_fewestUpTo_28 {E : Ev} {G : Gw} (C : Cx E G RX6 cX6_fewestUpTo 6 { frames := 2, cells := 0, slots := 0, locals := 42 }) {out : Mem × Int32} (F : Ef E G out.1 (some (.int out.2)) (some .int) 0 0)  {K : Mem → Int32 → Option (Mem × Int32)} (hK : ∀ (σ : Mem) (v2 : Int32), K σ v2 = some out → J E G 6 0 0 σ 90 [(2, .int v2)] []) : ∀ (fu : Nat) (σ : Mem) (v1 : Int32) (v2 : Int32) (v3 : Int32) (v4 : Int32), X6_fewestUpTo_28 K fu σ v1 v2 v3 v4 = some out → J E G 6 0 0 σ 28 [(0, .ref (gA G 81)), (1, .int v1), (2, .int v2), (3, .int v3), (4, .int v4)] [] := by
  intro fu
  induction fu with
  | zero => intro σ v1 v2 v3 v4 h; rw [X6_fewestUpTo_28] at h; cases h
  | succ fu ih =>
    intro σ v1 v2 v3 v4 h
    rw [X6_fewestUpTo_28] at h
    refine j_iload C dX6_fewestUpTo_28 4 rfl 30 rfl ?_
    refine j_iload_n C dX6_fewestUpTo_30 rfl 3 rfl 31 rfl ?_
    refine j_icmp_gt C dX6_fewestUpTo_31 90 (by decide) 34 rfl (fun c => ?_) (fun c => ?_)
    · have h := it_t c h
      refine j_sub [(2, .int v2)] [2] rfl ?_
      exact hK _ _ h
    · have h := it_f c h
      refine j_iload_n C dX6_fewestUpTo_34 rfl 1 rfl 35 rfl ?_
      refine j_iload C dX6_fewestUpTo_35 4 rfl 37 rfl ?_
      refine j_isub C dX6_fewestUpTo_37 38 rfl ?_
      refine j_istore C dX6_fewestUpTo_38 (by decide) [(5, .int (v1 - v4)), (0, .ref (gA G 81)), (1, .int v1), (2, .int v2), (3, .int v3), (4, .int v4)] rfl 40 rfl ?_
      refine j_aload_n C dX6_fewestUpTo_40 rfl 1 rfl 41 rfl ?_
      refine j_get C foX6 sh81 0 (by decide) 2 rfl kw1_159 rfl dX6_fewestUpTo_41 (.ref (gA G 0)) (fv_r rfl) 44 rfl ?_
      refine j_get C foX5 sh0 1 (by decide) 5 rfl kw1_76 rfl dX6_fewestUpTo_44 (.ref (gA G 3)) (fv_r rfl) 47 rfl ?_
      refine j_aload_n C dX6_fewestUpTo_47 rfl 1 rfl 48 rfl ?_
      refine j_get C foX6 sh81 0 (by decide) 2 rfl kw1_159 rfl dX6_fewestUpTo_48 (.ref (gA G 0)) (fv_r rfl) 51 rfl ?_
      refine j_get C foX5 sh0 0 (by decide) 3 rfl kw1_74 rfl dX6_fewestUpTo_51 (.ref (gA G 1)) (fv_r rfl) 54 rfl ?_
      refine j_iload C dX6_fewestUpTo_54 0 rfl 56 rfl ?_
      refine j_iload C dX6_fewestUpTo_56 5 rfl 58 rfl ?_
      obtain ⟨q3, e4, h⟩ := ob_some h
      refine j_callV C (ct_X3_packed (eL E) G row1 e4) sh1 foX3 rfl vk_X3_packed kw3_40 rfl ⟨Nat.le_of_ble_eq_true rfl, Nat.le_of_ble_eq_true rfl, rfl, rfl⟩ ⟨Nat.zero_le _, Nat.zero_le _⟩ (rest := [.ref (gA G 3)]) rfl (Nat.le_of_ble_eq_true rfl) dX6_fewestUpTo_58 (st1 := [.long q3.2, .ref (gA G 3)]) rfl 61 rfl ?_
      obtain ⟨q5, e6, h⟩ := ob_some h
      refine j_callV C (ct_X0_leaderOf (eL E) G ent3 e6) sh3 foX0 rfl vk_X0_leaderOf kw2_230 rfl ⟨Nat.le_of_ble_eq_true rfl, Nat.le_of_ble_eq_true rfl, rfl, rfl⟩ ⟨Nat.zero_le _, Nat.zero_le _⟩ (rest := []) rfl (Nat.le_of_ble_eq_true rfl) dX6_fewestUpTo_61 (st1 := [.int q5.2]) rfl 64 rfl ?_
      refine j_iconst C dX6_fewestUpTo_64 (-1 : Int32) (by decide) 65 rfl ?_
      refine j_icmp_eq C dX6_fewestUpTo_65 84 (by decide) 68 rfl (fun c => ?_) (fun c => ?_)
      · have h := it_t c h
        refine j_iinc C dX6_fewestUpTo_84 5 rfl (v4 + (1 : Int32)) rfl (by decide) [(4, .int (v4 + (1 : Int32))), (5, .int (v1 - v4)), (0, .ref (gA G 81)), (1, .int v1), (2, .int v2), (3, .int v3)] rfl 87 rfl ?_
        refine j_goto C dX6_fewestUpTo_87 28 (by decide) ?_
        refine j_sub [(0, .ref (gA G 81)), (1, .int v1), (2, .int v2), (3, .int v3), (4, .int (v4 + (1 : Int32)))] [2, 3, 4, 5, 0] rfl ?_
        exact ih _ _ _ _ _ h
      · have h := it_f c h
        refine j_iload_n C dX6_fewestUpTo_68 rfl 3 rfl 69 rfl ?_
        refine j_aload_n C dX6_fewestUpTo_69 rfl 1 rfl 70 rfl ?_
        refine j_get C foX6 sh81 8 (by decide) 81 rfl kw1_167 rfl dX6_fewestUpTo_70 (.ref (gA G 79)) (fv_r rfl) 73 rfl ?_
        refine j_iload C dX6_fewestUpTo_73 0 rfl 75 rfl ?_
        obtain ⟨q7, e8, h⟩ := ob_some h
        refine j_callV C (ct_X3_at (eL E) G row79 e8) sh79 foX3 rfl vk_X3_at kw2_161 rfl ⟨Nat.le_of_ble_eq_true rfl, Nat.le_of_ble_eq_true rfl, rfl, rfl⟩ ⟨Nat.zero_le _, Nat.zero_le _⟩ (rest := [.int v2]) rfl (Nat.le_of_ble_eq_true rfl) dX6_fewestUpTo_75 (st1 := [.int q7.2, .int v2]) rfl 78 rfl ?_
        refine j_iconst C dX6_fewestUpTo_78 (1 : Int32) (by decide) 79 rfl ?_
        refine j_iadd C dX6_fewestUpTo_79 80 rfl ?_
        refine j_min C kw2_139 kw3_56 kw2_138 kw1_4 ⟨by decide, by decide⟩ ⟨Nat.zero_le _, Nat.zero_le _⟩ (Nat.le_of_ble_eq_true rfl) dX6_fewestUpTo_80 83 rfl ?_
        refine j_istore_n C dX6_fewestUpTo_83 rfl (by decide) [(2, .int (if (q7.2 + (1 : Int32)) < v2 then (q7.2 + (1 : Int32)) else v2)), (5, .int (v1 - v4)), (0, .ref (gA G 81)), (1, .int v1), (3, .int v3), (4, .int v4)] rfl 84 rfl ?_
        refine j_iinc C dX6_fewestUpTo_84 5 rfl (v4 + (1 : Int32)) rfl (by decide) [(4, .int (v4 + (1 : Int32))), (2, .int (if (q7.2 + (1 : Int32)) < v2 then (q7.2 + (1 : Int32)) else v2)), (5, .int (v1 - v4)), (0, .ref (gA G 81)), (1, .int v1), (3, .int v3)] rfl 87 rfl ?_
        refine j_goto C dX6_fewestUpTo_87 28 (by decide) ?_
        refine j_sub [(0, .ref (gA G 81)), (1, .int v1), (2, .int (if (q7.2 + (1 : Int32)) < v2 then (q7.2 + (1 : Int32)) else v2)), (3, .int v3), (4, .int (v4 + (1 : Int32)))] [3, 4, 1, 5, 0] rfl ?_
        exact ih _ _ _ _ _ h
def X6_fewestUpTo (σ : Mem) (p1 : Int32) : Option (Mem × Int32) :=
  ((X3_at 79 σ (p1 - (1 : Int32))).bind fun q1 => X6_fewestUpTo_28 (fun (σ : Mem) (v2 : Int32) => some (σ, v2)) FU q1.1 p1 (q1.2 + (1 : Int32)) (if p1 < (q1.1.1 0 3) then p1 else (q1.1.1 0 3)) (2 : Int32))
set_option maxHeartbeats 4000000 in
set_option maxRecDepth 100000 in
theorem ct_X6_fewestUpTo (l : Launch) (G : Gw)  {σ : Mem} {p1 : Int32} {out : Mem × Int32} (h : X6_fewestUpTo σ p1 = some out) : Ct l G yX6_fewestUpTo cX6_fewestUpTo 6 (some .int) { frames := 2, cells := 0, slots := 0, locals := 42 } [.ref (gA G 81), .int p1] σ out.1 (some (.int out.2)) := by
  refine Ct.of (by decide +kernel) (Nat.le_of_ble_eq_true rfl) (fun E hE C F => ?_)
  subst hE
  have C : Cx E G RX6 cX6_fewestUpTo 6 { frames := 2, cells := 0, slots := 0, locals := 42 } := C
  unfold X6_fewestUpTo at h
  show J E G 6 0 0 σ 0 [(0, .ref (gA G 81)), (1, .int p1)] []
  refine j_aload_n C dX6_fewestUpTo_0 rfl 0 rfl 1 rfl ?_
  refine j_get C foX6 sh81 8 (by decide) 81 rfl kw1_167 rfl dX6_fewestUpTo_1 (.ref (gA G 79)) (fv_r rfl) 4 rfl ?_
  refine j_iload_n C dX6_fewestUpTo_4 rfl 1 rfl 5 rfl ?_
  refine j_iconst C dX6_fewestUpTo_5 (1 : Int32) (by decide) 6 rfl ?_
  refine j_isub C dX6_fewestUpTo_6 7 rfl ?_
  obtain ⟨q1, e2, h⟩ := ob_some h
  refine j_callV C (ct_X3_at (eL E) G row79 e2) sh79 foX3 rfl vk_X3_at kw2_161 rfl ⟨Nat.le_of_ble_eq_true rfl, Nat.le_of_ble_eq_true rfl, rfl, rfl⟩ ⟨Nat.zero_le _, Nat.zero_le _⟩ (rest := []) rfl (Nat.le_of_ble_eq_true rfl) dX6_fewestUpTo_7 (st1 := [.int q1.2]) rfl 10 rfl ?_
  refine j_iconst C dX6_fewestUpTo_10 (1 : Int32) (by decide) 11 rfl ?_
  refine j_iadd C dX6_fewestUpTo_11 12 rfl ?_
  refine j_istore_n C dX6_fewestUpTo_12 rfl (by decide) [(2, .int (q1.2 + (1 : Int32))), (0, .ref (gA G 81)), (1, .int p1)] rfl 13 rfl ?_
  refine j_aload_n C dX6_fewestUpTo_13 rfl 1 rfl 14 rfl ?_
  refine j_get C foX6 sh81 0 (by decide) 2 rfl kw1_159 rfl dX6_fewestUpTo_14 (.ref (gA G 0)) (fv_r rfl) 17 rfl ?_
  refine j_get C foX5 sh0 3 (by decide) 0 rfl kw1_81 rfl dX6_fewestUpTo_17 (.int (q1.1.1 0 3)) rfl 20 rfl ?_
  refine j_iload_n C dX6_fewestUpTo_20 rfl 2 rfl 21 rfl ?_
  refine j_min C kw2_139 kw3_56 kw2_138 kw1_4 ⟨by decide, by decide⟩ ⟨Nat.zero_le _, Nat.zero_le _⟩ (Nat.le_of_ble_eq_true rfl) dX6_fewestUpTo_21 24 rfl ?_
  refine j_istore_n C dX6_fewestUpTo_24 rfl (by decide) [(3, .int (if p1 < (q1.1.1 0 3) then p1 else (q1.1.1 0 3))), (2, .int (q1.2 + (1 : Int32))), (0, .ref (gA G 81)), (1, .int p1)] rfl 25 rfl ?_
  refine j_iconst C dX6_fewestUpTo_25 (2 : Int32) (by decide) 26 rfl ?_
  refine j_istore C dX6_fewestUpTo_26 (by decide) [(4, .int (2 : Int32)), (3, .int (if p1 < (q1.1.1 0 3) then p1 else (q1.1.1 0 3))), (2, .int (q1.2 + (1 : Int32))), (0, .ref (gA G 81)), (1, .int p1)] rfl 28 rfl ?_
  refine j_sub [(0, .ref (gA G 81)), (1, .int p1), (2, .int (q1.2 + (1 : Int32))), (3, .int (if p1 < (q1.1.1 0 3) then p1 else (q1.1.1 0 3))), (4, .int (2 : Int32))] [3, 4, 2, 1, 0] rfl ?_
  refine w_X6_fewestUpTo_28 C F  (fun σ v2 h => ?_) FU _ _ _ _ _ h
  refine j_iload_n C dX6_fewestUpTo_90 rfl 0 rfl 91 rfl ?_
  exact j_iret C F dX6_fewestUpTo_91 h

-- ===== StenoChords.least()I
theorem vk_X6_least : VK yX6_least cX6_least 2 (some .int) 0 := ⟨kw3_51, kw3_49, kw3_50, kw1_1, by decide +kernel⟩
def X6_least_18 (K : Mem → Option (Mem × Int32)) : Nat → Mem → Int32 → Option (Mem × Int32)
  | 0, _, _ => none
  | fu + 1, σ, v1 => ((X3_length 1 σ).bind fun q5 => (if q5.2 < v1 then K q5.1 else ((X6_fewestUpTo q5.1 v1).bind fun q7 => ((X3_put 79 q7.1 q7.2).bind fun q9 => X6_least_18 K fu q9.1 (v1 + (1 : Int32))))))
set_option maxHeartbeats 4000000 in
set_option maxRecDepth 100000 in
theorem w_X6_least_18 {E : Ev} {G : Gw} (C : Cx E G RX6 cX6_least 2 { frames := 3, cells := 0, slots := 0, locals := 67 }) {out : Mem × Int32} (F : Ef E G out.1 (some (.int out.2)) (some .int) 0 0)  {K : Mem → Option (Mem × Int32)} (hK : ∀ (σ : Mem) , K σ  = some out → J E G 2 0 0 σ 50 [(0, .ref (gA G 81))] []) : ∀ (fu : Nat) (σ : Mem) (v1 : Int32), X6_least_18 K fu σ v1 = some out → J E G 2 0 0 σ 18 [(0, .ref (gA G 81)), (1, .int v1)] [] := by
  intro fu
  induction fu with
  | zero => intro σ v1 h; rw [X6_least_18] at h; cases h
  | succ fu ih =>
    intro σ v1 h
    rw [X6_least_18] at h
    refine j_iload_n C dX6_least_18 rfl 1 rfl 19 rfl ?_
    refine j_aload_n C dX6_least_19 rfl 0 rfl 20 rfl ?_
    refine j_get C foX6 sh81 0 (by decide) 2 rfl kw1_159 rfl dX6_least_20 (.ref (gA G 0)) (fv_r rfl) 23 rfl ?_
    refine j_get C foX5 sh0 0 (by decide) 3 rfl kw1_74 rfl dX6_least_23 (.ref (gA G 1)) (fv_r rfl) 26 rfl ?_
    obtain ⟨q5, e6, h⟩ := ob_some h
    refine j_callV C (ct_X3_length (eL E) G row1 e6) sh1 foX3 rfl vk_X3_length kw1_238 rfl ⟨Nat.le_of_ble_eq_true rfl, Nat.le_of_ble_eq_true rfl, rfl, rfl⟩ ⟨Nat.zero_le _, Nat.zero_le _⟩ (rest := [.int v1]) rfl (Nat.le_of_ble_eq_true rfl) dX6_least_26 (st1 := [.int q5.2, .int v1]) rfl 29 rfl ?_
    refine j_icmp_gt C dX6_least_29 50 (by decide) 32 rfl (fun c => ?_) (fun c => ?_)
    · have h := it_t c h
      refine j_sub [(0, .ref (gA G 81))] [0] rfl ?_
      exact hK _ h
    · have h := it_f c h
      refine j_aload_n C dX6_least_32 rfl 0 rfl 33 rfl ?_
      refine j_get C foX6 sh81 8 (by decide) 81 rfl kw1_167 rfl dX6_least_33 (.ref (gA G 79)) (fv_r rfl) 36 rfl ?_
      refine j_aload_n C dX6_least_36 rfl 0 rfl 37 rfl ?_
      refine j_iload_n C dX6_least_37 rfl 1 rfl 38 rfl ?_
      obtain ⟨q7, e8, h⟩ := ob_some h
      refine j_callV C (ct_X6_fewestUpTo (eL E) G  e8) sh81 foX6 rfl vk_X6_fewestUpTo kw3_52 rfl ⟨Nat.le_of_ble_eq_true rfl, Nat.le_of_ble_eq_true rfl, rfl, rfl⟩ ⟨Nat.zero_le _, Nat.zero_le _⟩ (rest := [.ref (gA G 79)]) rfl (Nat.le_of_ble_eq_true rfl) dX6_least_38 (st1 := [.int q7.2, .ref (gA G 79)]) rfl 41 rfl ?_
      obtain ⟨q9, e10, h⟩ := ob_some h
      refine j_callV C (ct_X3_put (eL E) G row79 e10) sh79 foX3 rfl vk_X3_put kw2_162 rfl ⟨Nat.le_of_ble_eq_true rfl, Nat.le_of_ble_eq_true rfl, rfl, rfl⟩ ⟨Nat.zero_le _, Nat.zero_le _⟩ (rest := []) rfl (Nat.le_of_ble_eq_true rfl) dX6_least_41 (st1 := []) rfl 44 rfl ?_
      refine j_iinc C dX6_least_44 1 rfl (v1 + (1 : Int32)) rfl (by decide) [(1, .int (v1 + (1 : Int32))), (0, .ref (gA G 81))] rfl 47 rfl ?_
      refine j_goto C dX6_least_47 18 (by decide) ?_
      refine j_sub [(0, .ref (gA G 81)), (1, .int (v1 + (1 : Int32)))] [1, 0] rfl ?_
      exact ih _ _ h
def X6_least (σ : Mem) : Option (Mem × Int32) :=
  ((X3_shorten 79 σ (0 : Int32)).bind fun q1 => ((X3_put 79 q1.1 (0 : Int32)).bind fun q3 => X6_least_18 (fun (σ : Mem)  => ((X3_length 1 σ).bind fun q11 => ((X3_at 79 q11.1 q11.2).bind fun q13 => some (q13.1, q13.2)))) FU q3.1 (1 : Int32)))
set_option maxHeartbeats 4000000 in
set_option maxRecDepth 100000 in
theorem ct_X6_least (l : Launch) (G : Gw)  {σ : Mem} {out : Mem × Int32} (h : X6_least σ = some out) : Ct l G yX6_least cX6_least 2 (some .int) { frames := 3, cells := 0, slots := 0, locals := 67 } [.ref (gA G 81)] σ out.1 (some (.int out.2)) := by
  refine Ct.of (by decide +kernel) (Nat.le_of_ble_eq_true rfl) (fun E hE C F => ?_)
  subst hE
  have C : Cx E G RX6 cX6_least 2 { frames := 3, cells := 0, slots := 0, locals := 67 } := C
  unfold X6_least at h
  show J E G 2 0 0 σ 0 [(0, .ref (gA G 81))] []
  refine j_aload_n C dX6_least_0 rfl 0 rfl 1 rfl ?_
  refine j_get C foX6 sh81 8 (by decide) 81 rfl kw1_167 rfl dX6_least_1 (.ref (gA G 79)) (fv_r rfl) 4 rfl ?_
  refine j_iconst C dX6_least_4 (0 : Int32) (by decide) 5 rfl ?_
  obtain ⟨q1, e2, h⟩ := ob_some h
  refine j_callV C (ct_X3_shorten (eL E) G row79 e2) sh79 foX3 rfl vk_X3_shorten kw2_160 rfl ⟨Nat.le_of_ble_eq_true rfl, Nat.le_of_ble_eq_true rfl, rfl, rfl⟩ ⟨Nat.zero_le _, Nat.zero_le _⟩ (rest := []) rfl (Nat.le_of_ble_eq_true rfl) dX6_least_5 (st1 := []) rfl 8 rfl ?_
  refine j_aload_n C dX6_least_8 rfl 0 rfl 9 rfl ?_
  refine j_get C foX6 sh81 8 (by decide) 81 rfl kw1_167 rfl dX6_least_9 (.ref (gA G 79)) (fv_r rfl) 12 rfl ?_
  refine j_iconst C dX6_least_12 (0 : Int32) (by decide) 13 rfl ?_
  obtain ⟨q3, e4, h⟩ := ob_some h
  refine j_callV C (ct_X3_put (eL E) G row79 e4) sh79 foX3 rfl vk_X3_put kw2_162 rfl ⟨Nat.le_of_ble_eq_true rfl, Nat.le_of_ble_eq_true rfl, rfl, rfl⟩ ⟨Nat.zero_le _, Nat.zero_le _⟩ (rest := []) rfl (Nat.le_of_ble_eq_true rfl) dX6_least_13 (st1 := []) rfl 16 rfl ?_
  refine j_iconst C dX6_least_16 (1 : Int32) (by decide) 17 rfl ?_
  refine j_istore_n C dX6_least_17 rfl (by decide) [(1, .int (1 : Int32)), (0, .ref (gA G 81))] rfl 18 rfl ?_
  refine j_sub [(0, .ref (gA G 81)), (1, .int (1 : Int32))] [1, 0] rfl ?_
  refine w_X6_least_18 C F  (fun σ  h => ?_) FU _ _ h
  refine j_aload_n C dX6_least_50 rfl 0 rfl 51 rfl ?_
  refine j_get C foX6 sh81 8 (by decide) 81 rfl kw1_167 rfl dX6_least_51 (.ref (gA G 79)) (fv_r rfl) 54 rfl ?_
  refine j_aload_n C dX6_least_54 rfl 0 rfl 55 rfl ?_
  refine j_get C foX6 sh81 0 (by decide) 2 rfl kw1_159 rfl dX6_least_55 (.ref (gA G 0)) (fv_r rfl) 58 rfl ?_
  refine j_get C foX5 sh0 0 (by decide) 3 rfl kw1_74 rfl dX6_least_58 (.ref (gA G 1)) (fv_r rfl) 61 rfl ?_
  obtain ⟨q11, e12, h⟩ := ob_some h
  refine j_callV C (ct_X3_length (eL E) G row1 e12) sh1 foX3 rfl vk_X3_length kw1_238 rfl ⟨Nat.le_of_ble_eq_true rfl, Nat.le_of_ble_eq_true rfl, rfl, rfl⟩ ⟨Nat.zero_le _, Nat.zero_le _⟩ (rest := [.ref (gA G 79)]) rfl (Nat.le_of_ble_eq_true rfl) dX6_least_61 (st1 := [.int q11.2, .ref (gA G 79)]) rfl 64 rfl ?_
  obtain ⟨q13, e14, h⟩ := ob_some h
  refine j_callV C (ct_X3_at (eL E) G row79 e14) sh79 foX3 rfl vk_X3_at kw2_161 rfl ⟨Nat.le_of_ble_eq_true rfl, Nat.le_of_ble_eq_true rfl, rfl, rfl⟩ ⟨Nat.zero_le _, Nat.zero_le _⟩ (rest := []) rfl (Nat.le_of_ble_eq_true rfl) dX6_least_64 (st1 := [.int q13.2]) rfl 67 rfl ?_
  exact j_iret C F dX6_least_67 h

-- ===== StenoChords.readShare()D
theorem vk_X6_readShare : VK yX6_readShare cX6_readShare 2 (some .double) 0 := ⟨kw3_63, kw3_61, kw3_62, kw1_1, by decide +kernel⟩
def X6_readShare (σ : Mem) : Option (Mem × UInt64) :=
  ((X3_length 1 σ).bind fun q1 => (if q1.2 = 0 then some (q1.1, FP.dconst1) else ((X6_readPaper q1.1).bind fun q3 => ((X6_rawItems q3.1).bind fun q5 => (if ((FP.ddiv (FP.i2d (q1.2 - q5.2)) (FP.i2d q1.2)) &&& 0x7fffffffffffffff ≤ 0x7ff0000000000000) then some (q5.1, (FP.ddiv (FP.i2d (q1.2 - q5.2)) (FP.i2d q1.2))) else none)))))
set_option maxHeartbeats 4000000 in
set_option maxRecDepth 100000 in
theorem ct_X6_readShare (l : Launch) (G : Gw)  {σ : Mem} {out : Mem × UInt64} (h : X6_readShare σ = some out) : Ct l G yX6_readShare cX6_readShare 2 (some .double) { frames := 4, cells := 0, slots := 0, locals := 96 } [.ref (gA G 81)] σ out.1 (some (.double out.2)) := by
  refine Ct.of (by decide +kernel) (Nat.le_of_ble_eq_true rfl) (fun E hE C F => ?_)
  subst hE
  have C : Cx E G RX6 cX6_readShare 2 { frames := 4, cells := 0, slots := 0, locals := 96 } := C
  unfold X6_readShare at h
  show J E G 2 0 0 σ 0 [(0, .ref (gA G 81))] []
  refine j_aload_n C dX6_readShare_0 rfl 0 rfl 1 rfl ?_
  refine j_get C foX6 sh81 0 (by decide) 2 rfl kw1_159 rfl dX6_readShare_1 (.ref (gA G 0)) (fv_r rfl) 4 rfl ?_
  refine j_get C foX5 sh0 0 (by decide) 3 rfl kw1_74 rfl dX6_readShare_4 (.ref (gA G 1)) (fv_r rfl) 7 rfl ?_
  obtain ⟨q1, e2, h⟩ := ob_some h
  refine j_callV C (ct_X3_length (eL E) G row1 e2) sh1 foX3 rfl vk_X3_length kw1_238 rfl ⟨Nat.le_of_ble_eq_true rfl, Nat.le_of_ble_eq_true rfl, rfl, rfl⟩ ⟨Nat.zero_le _, Nat.zero_le _⟩ (rest := []) rfl (Nat.le_of_ble_eq_true rfl) dX6_readShare_7 (st1 := [.int q1.2]) rfl 10 rfl ?_
  refine j_istore_n C dX6_readShare_10 rfl (by decide) [(1, .int q1.2), (0, .ref (gA G 81))] rfl 11 rfl ?_
  refine j_iload_n C dX6_readShare_11 rfl 0 rfl 12 rfl ?_
  refine j_if_ne C dX6_readShare_12 17 (by decide) 15 rfl (fun c => ?_) (fun c => ?_)
  · have h := it_f c h
    refine j_aload_n C dX6_readShare_17 rfl 1 rfl 18 rfl ?_
    obtain ⟨q3, e4, h⟩ := ob_some h
    refine j_callV C (ct_X6_readPaper (eL E) G  e4) sh81 foX6 rfl vk_X6_readPaper kw2_110 rfl ⟨Nat.le_of_ble_eq_true rfl, Nat.le_of_ble_eq_true rfl, rfl, rfl⟩ ⟨Nat.zero_le _, Nat.zero_le _⟩ (rest := []) rfl (Nat.le_of_ble_eq_true rfl) dX6_readShare_18 (st1 := []) rfl 21 rfl ?_
    refine j_iload_n C dX6_readShare_21 rfl 0 rfl 22 rfl ?_
    refine j_aload_n C dX6_readShare_22 rfl 1 rfl 23 rfl ?_
    obtain ⟨q5, e6, h⟩ := ob_some h
    refine j_callV C (ct_X6_rawItems (eL E) G  e6) sh81 foX6 rfl vk_X6_rawItems kw2_164 rfl ⟨Nat.le_of_ble_eq_true rfl, Nat.le_of_ble_eq_true rfl, rfl, rfl⟩ ⟨Nat.zero_le _, Nat.zero_le _⟩ (rest := [.int q1.2]) rfl (Nat.le_of_ble_eq_true rfl) dX6_readShare_23 (st1 := [.int q5.2, .int q1.2]) rfl 26 rfl ?_
    refine j_isub C dX6_readShare_26 27 rfl ?_
    refine j_i2d C dX6_readShare_27 28 rfl ?_
    refine j_iload_n C dX6_readShare_28 rfl 0 rfl 29 rfl ?_
    refine j_i2d C dX6_readShare_29 30 rfl ?_
    obtain ⟨hc, h⟩ := if_some h
    refine j_ddiv C dX6_readShare_30 hc 31 rfl ?_
    exact j_dret C F dX6_readShare_31 h
  · have h := it_t c h
    refine j_dconst1 C dX6_readShare_15 16 rfl ?_
    exact j_dret C F dX6_readShare_16 h

-- ===== StenoChords.meanKeys()F
theorem vk_X6_meanKeys : VK yX6_meanKeys cX6_meanKeys 1 (some .float) 0 := ⟨kw3_67, kw3_65, kw3_66, kw1_1, by decide +kernel⟩
def X6_meanKeys (σ : Mem) : Option (Mem × UInt32) :=
  (if (σ.1 0 4) = 0 then some (σ, FP.fconst0) else (if ((FP.fdiv (FP.i2f (σ.1 0 7)) (FP.i2f (σ.1 0 4))) &&& 0x7fffffff ≤ 0x7f800000) then some (σ, (FP.fdiv (FP.i2f (σ.1 0 7)) (FP.i2f (σ.1 0 4)))) else none))
set_option maxHeartbeats 4000000 in
set_option maxRecDepth 100000 in
theorem ct_X6_meanKeys (l : Launch) (G : Gw)  {σ : Mem} {out : Mem × UInt32} (h : X6_meanKeys σ = some out) : Ct l G yX6_meanKeys cX6_meanKeys 1 (some .float) { frames := 0, cells := 0, slots := 0, locals := 0 } [.ref (gA G 81)] σ out.1 (some (.float out.2)) := by
  refine Ct.of (by decide +kernel) (Nat.le_of_ble_eq_true rfl) (fun E hE C F => ?_)
  subst hE
  have C : Cx E G RX6 cX6_meanKeys 1 { frames := 0, cells := 0, slots := 0, locals := 0 } := C
  unfold X6_meanKeys at h
  show J E G 1 0 0 σ 0 [(0, .ref (gA G 81))] []
  refine j_aload_n C dX6_meanKeys_0 rfl 0 rfl 1 rfl ?_
  refine j_get C foX6 sh81 0 (by decide) 2 rfl kw1_159 rfl dX6_meanKeys_1 (.ref (gA G 0)) (fv_r rfl) 4 rfl ?_
  refine j_get C foX5 sh0 4 (by decide) 0 rfl kw1_84 rfl dX6_meanKeys_4 (.int (σ.1 0 4)) rfl 7 rfl ?_
  refine j_if_ne C dX6_meanKeys_7 12 (by decide) 10 rfl (fun c => ?_) (fun c => ?_)
  · have h := it_f c h
    refine j_aload_n C dX6_meanKeys_12 rfl 0 rfl 13 rfl ?_
    refine j_get C foX6 sh81 0 (by decide) 2 rfl kw1_159 rfl dX6_meanKeys_13 (.ref (gA G 0)) (fv_r rfl) 16 rfl ?_
    refine j_get C foX5 sh0 7 (by decide) 0 rfl kw1_90 rfl dX6_meanKeys_16 (.int (σ.1 0 7)) rfl 19 rfl ?_
    refine j_i2f C dX6_meanKeys_19 20 rfl ?_
    refine j_aload_n C dX6_meanKeys_20 rfl 0 rfl 21 rfl ?_
    refine j_get C foX6 sh81 0 (by decide) 2 rfl kw1_159 rfl dX6_meanKeys_21 (.ref (gA G 0)) (fv_r rfl) 24 rfl ?_
    refine j_get C foX5 sh0 4 (by decide) 0 rfl kw1_84 rfl dX6_meanKeys_24 (.int (σ.1 0 4)) rfl 27 rfl ?_
    refine j_i2f C dX6_meanKeys_27 28 rfl ?_
    obtain ⟨hc, h⟩ := if_some h
    refine j_fdiv C dX6_meanKeys_28 hc 29 rfl ?_
    exact j_fret C F dX6_meanKeys_29 h
  · have h := it_t c h
    refine j_fconst0 C dX6_meanKeys_10 11 rfl ?_
    exact j_fret C F dX6_meanKeys_11 h
