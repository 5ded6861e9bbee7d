-- ===== StenoChords$SavedStates.size()I
theorem vk_X4_size : VK yX4_size cX4_size 1 (some .int) 0 := ⟨kw3_6, kw3_4, kw3_5, kw1_6, by decide +kernel⟩
def X4_size (σ : Mem) : Option (Mem × Int32) :=
  some (σ, (σ.1 56 2))
set_option maxHeartbeats 4000000 in
set_option maxRecDepth 100000 in
theorem ct_X4_size (l : Launch) (G : Gw)  {σ : Mem} {out : Mem × Int32} (h : X4_size σ = some out) : Ct l G yX4_size cX4_size 1 (some .int) { frames := 0, cells := 0, slots := 0, locals := 0 } [.ref (gA G 56)] σ out.1 (some (.int out.2)) := by
  refine Ct.of (by decide) (Nat.le_of_ble_eq_true rfl) (fun E hE C F => ?_)
  subst hE
  have C : Cx E G RX4 cX4_size 1 { frames := 0, cells := 0, slots := 0, locals := 0 } := C
  unfold X4_size at h
  show J E G 1 0 0 σ 0 [(0, .ref (gA G 56))] []
  refine j_aload_n C dX4_size_0 rfl 0 rfl 1 rfl ?_
  refine j_get C foX4 sh56 2 (by decide) 0 rfl kw1_120 rfl dX4_size_1 (.int (σ.1 56 2)) rfl 4 rfl ?_
  exact j_iret C F dX4_size_4 h

-- ===== java/lang/Math.floorMod(II)I
theorem vk_J9_floorMod_7cf53 : SK yJ9_floorMod_7cf53 cJ9_floorMod_7cf53 3 (some .int) 2 := ⟨kw1_205, kw1_204, kw1_4, by decide +kernel⟩
def J9_floorMod_7cf53 (σ : Mem) (p0 : Int32) (p1 : Int32) : Option (Mem × Int32) :=
  (if ¬ p1 = 0 then (if 0 ≤ (p0 ^^^ p1) then some (σ, (p0 - p0 / p1 * p1)) else (if (p0 - p0 / p1 * p1) = 0 then some (σ, (p0 - p0 / p1 * p1)) else some (σ, ((p0 - p0 / p1 * p1) + p1)))) else none)
set_option maxHeartbeats 4000000 in
set_option maxRecDepth 100000 in
theorem ct_J9_floorMod_7cf53 (l : Launch) (G : Gw)  {σ : Mem} {p0 : Int32} {p1 : Int32} {out : Mem × Int32} (h : J9_floorMod_7cf53 σ p0 p1 = some out) : Ct l G yJ9_floorMod_7cf53 cJ9_floorMod_7cf53 3 (some .int) { frames := 0, cells := 0, slots := 0, locals := 0 } [.int p0, .int p1] σ out.1 (some (.int out.2)) := by
  refine Ct.of (by decide) (Nat.le_of_ble_eq_true rfl) (fun E hE C F => ?_)
  subst hE
  have C : Cx E G RJ9 cJ9_floorMod_7cf53 3 { frames := 0, cells := 0, slots := 0, locals := 0 } := C
  unfold J9_floorMod_7cf53 at h
  show J E G 3 0 0 σ 0 [(0, .int p0), (1, .int p1)] []
  refine j_iload_n C dJ9_floorMod_7cf53_0 rfl 0 rfl 1 rfl ?_
  refine j_iload_n C dJ9_floorMod_7cf53_1 rfl 1 rfl 2 rfl ?_
  obtain ⟨hc, h⟩ := if_some h
  refine j_irem C dJ9_floorMod_7cf53_2 hc 3 rfl ?_
  refine j_istore_n C dJ9_floorMod_7cf53_3 rfl (by decide) [(2, .int (p0 - p0 / p1 * p1)), (0, .int p0), (1, .int p1)] rfl 4 rfl ?_
  refine j_iload_n C dJ9_floorMod_7cf53_4 rfl 1 rfl 5 rfl ?_
  refine j_iload_n C dJ9_floorMod_7cf53_5 rfl 2 rfl 6 rfl ?_
  refine j_ixor C dJ9_floorMod_7cf53_6 7 rfl ?_
  refine j_if_ge C dJ9_floorMod_7cf53_7 18 (by decide) 10 rfl (fun c => ?_) (fun c => ?_)
  · have h := it_t c h
    refine j_iload_n C dJ9_floorMod_7cf53_18 rfl 0 rfl 19 rfl ?_
    exact j_iret C F dJ9_floorMod_7cf53_19 h
  · have h := it_f c h
    refine j_iload_n C dJ9_floorMod_7cf53_10 rfl 0 rfl 11 rfl ?_
    refine j_if_eq C dJ9_floorMod_7cf53_11 18 (by decide) 14 rfl (fun c => ?_) (fun c => ?_)
    · have h := it_t c h
      refine j_iload_n C dJ9_floorMod_7cf53_18 rfl 0 rfl 19 rfl ?_
      exact j_iret C F dJ9_floorMod_7cf53_19 h
    · have h := it_f c h
      refine j_iload_n C dJ9_floorMod_7cf53_14 rfl 0 rfl 15 rfl ?_
      refine j_iload_n C dJ9_floorMod_7cf53_15 rfl 2 rfl 16 rfl ?_
      refine j_iadd C dJ9_floorMod_7cf53_16 17 rfl ?_
      exact j_iret C F dJ9_floorMod_7cf53_17 h

-- ===== StenoChords$SavedStates.slotBehindOldest(I)LStenoChords$State;
theorem vk_X4_slotBehindOldest : VK yX4_slotBehindOldest cX4_slotBehindOldest 3 (some (.object "StenoChords$State")) 1 := ⟨kw1_202, kw1_201, kwS_0, kw1_6, by decide +kernel⟩
def X4_slotBehindOldest (σ : Mem) (p1 : Int32) : Option (Mem × Option Nat) :=
  ((J9_floorMod_7cf53 σ ((σ.1 56 1) + p1) (6 : Int32)).bind fun q1 => (if q1.2 < 0 then some (q1.1, none) else (if (6 : Int32) ≤ q1.2 then some (q1.1, none) else (if inA q1.2 6 then some (q1.1, (some (14 + 7 * q1.2.toNatClampNeg))) else none))))
set_option maxHeartbeats 4000000 in
set_option maxRecDepth 100000 in
theorem ct_X4_slotBehindOldest (l : Launch) (G : Gw)  {σ : Mem} {p1 : Int32} {out : Mem × Option Nat} (h : X4_slotBehindOldest σ p1 = some out) : Ct l G yX4_slotBehindOldest cX4_slotBehindOldest 3 (some (.object "StenoChords$State")) { frames := 1, cells := 0, slots := 0, locals := 22 } [.ref (gA G 56), .int p1] σ out.1 (some (orf G out.2)) := by
  refine Ct.of (by decide) (Nat.le_of_ble_eq_true rfl) (fun E hE C F => ?_)
  subst hE
  have C : Cx E G RX4 cX4_slotBehindOldest 3 { frames := 1, cells := 0, slots := 0, locals := 22 } := C
  unfold X4_slotBehindOldest at h
  show J E G 3 0 0 σ 0 [(0, .ref (gA G 56)), (1, .int p1)] []
  refine j_aload_n C dX4_slotBehindOldest_0 rfl 0 rfl 1 rfl ?_
  refine j_get C foX4 sh56 1 (by decide) 0 rfl kw1_119 rfl dX4_slotBehindOldest_1 (.int (σ.1 56 1)) rfl 4 rfl ?_
  refine j_iload_n C dX4_slotBehindOldest_4 rfl 1 rfl 5 rfl ?_
  refine j_iadd C dX4_slotBehindOldest_5 6 rfl ?_
  refine j_bipush C dX4_slotBehindOldest_6 (6 : Int32) (by decide) 8 rfl ?_
  obtain ⟨q1, e2, h⟩ := ob_some h
  refine j_callS C (ct_J9_floorMod_7cf53 (eL E) G  e2) vk_J9_floorMod_7cf53 kw1_203 rfl ⟨Nat.le_of_ble_eq_true rfl, Nat.le_of_ble_eq_true rfl, rfl, rfl⟩ ⟨Nat.zero_le _, Nat.zero_le _⟩ (rest := []) rfl (Nat.le_of_ble_eq_true rfl) dX4_slotBehindOldest_8 (st1 := [.int q1.2]) rfl 11 rfl ?_
  refine j_istore_n C dX4_slotBehindOldest_11 rfl (by decide) [(2, .int q1.2), (0, .ref (gA G 56)), (1, .int p1)] rfl 12 rfl ?_
  refine j_iload_n C dX4_slotBehindOldest_12 rfl 0 rfl 13 rfl ?_
  refine j_if_lt C dX4_slotBehindOldest_13 34 (by decide) 16 rfl (fun c => ?_) (fun c => ?_)
  · have h := it_t c h
    refine j_null C dX4_slotBehindOldest_34 35 rfl ?_
    exact j_aret C (x := none) F rfl dX4_slotBehindOldest_35 h
  · have h := it_f c h
    refine j_iload_n C dX4_slotBehindOldest_16 rfl 0 rfl 17 rfl ?_
    refine j_aload_n C dX4_slotBehindOldest_17 rfl 1 rfl 18 rfl ?_
    refine j_get C foX4 sh56 0 (by decide) 59 rfl kw1_118 rfl dX4_slotBehindOldest_18 (.ref (gA G 57)) (fv_r rfl) 21 rfl ?_
    refine j_alenR C sh57 dX4_slotBehindOldest_21 (6 : Int32) rfl 22 rfl ?_
    refine j_icmp_ge C dX4_slotBehindOldest_22 34 (by decide) 25 rfl (fun c => ?_) (fun c => ?_)
    · have h := it_t c h
      refine j_null C dX4_slotBehindOldest_34 35 rfl ?_
      exact j_aret C (x := none) F rfl dX4_slotBehindOldest_35 h
    · have h := it_f c h
      refine j_aload_n C dX4_slotBehindOldest_25 rfl 1 rfl 26 rfl ?_
      refine j_get C foX4 sh56 0 (by decide) 59 rfl kw1_118 rfl dX4_slotBehindOldest_26 (.ref (gA G 57)) (fv_r rfl) 29 rfl ?_
      refine j_iload_n C dX4_slotBehindOldest_29 rfl 0 rfl 30 rfl ?_
      obtain ⟨hc, h⟩ := if_some h
      refine j_aald C sh57 hc dX4_slotBehindOldest_30 31 rfl ?_
      refine j_goto C dX4_slotBehindOldest_31 35 (by decide) ?_
      exact j_aret C (x := (some (14 + 7 * q1.2.toNatClampNeg))) F rfl dX4_slotBehindOldest_35 h
