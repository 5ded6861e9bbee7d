-- ===== StenoChords$SavedStates.size()I
theorem vk_X4_size : VK yX4_size cX4_size 1 (some .int) 0 := ⟨kw2_9, kw2_7, kw2_8, kw1_6, by decide +kernel⟩
def X4_size (σ : Mem) : Option (Mem × Int32) :=
  some (σ, (σ.1 56 2))
set_option maxHeartbeats 4000000 in
set_option maxRecDepth 100000 in
theorem ct_X4_size (l : Launch) (G : Gw)  {σ : Mem} {out : Mem × Int32} (h : X4_size σ = some out) : Ct l G yX4_size cX4_size 1 (some .int) { frames := 0, cells := 0, slots := 0, locals := 0 } [.ref (gA G 56)] σ out.1 (some (.int out.2)) := by
  refine Ct.of (by decide +kernel) (Nat.le_of_ble_eq_true rfl) (fun E hE C F => ?_)
  subst hE
  have C : Cx E G RX4 cX4_size 1 { frames := 0, cells := 0, slots := 0, locals := 0 } := C
  unfold X4_size at h
  show J E G 1 0 0 σ 0 [(0, .ref (gA G 56))] []
  refine j_aload_n C dX4_size_0 rfl 0 rfl 1 rfl ?_
  refine j_get C foX4 sh56 2 (by decide) 0 rfl kw1_119 rfl dX4_size_1 (.int (σ.1 56 2)) rfl 4 rfl ?_
  exact j_iret C F dX4_size_4 h

-- ===== java/lang/Math.floorMod(II)I
theorem vk_J9_floorMod_7cf53 : SK yJ9_floorMod_7cf53 cJ9_floorMod_7cf53 3 (some .int) 2 := ⟨kw2_88, kw2_87, kw1_4, by decide +kernel⟩
def J9_floorMod_7cf53 (σ : Mem) (p0 : Int32) (p1 : Int32) : Option (Mem × Int32) :=
  (if ¬ p1 = 0 then (if 0 ≤ (p0 ^^^ p1) then some (σ, (p0 - p0 / p1 * p1)) else (if (p0 - p0 / p1 * p1) = 0 then some (σ, (p0 - p0 / p1 * p1)) else some (σ, ((p0 - p0 / p1 * p1) + p1)))) else none)
set_option maxHeartbeats 4000000 in
set_option maxRecDepth 100000 in
theorem ct_J9_floorMod_7cf53 (l : Launch) (G : Gw)  {σ : Mem} {p0 : Int32} {p1 : Int32} {out : Mem × Int32} (h : J9_floorMod_7cf53 σ p0 p1 = some out) : Ct l G yJ9_floorMod_7cf53 cJ9_floorMod_7cf53 3 (some .int) { frames := 0, cells := 0, slots := 0, locals := 0 } [.int p0, .int p1] σ out.1 (some (.int out.2)) := by
  refine Ct.of (by decide +kernel) (Nat.le_of_ble_eq_true rfl) (fun E hE C F => ?_)
  subst hE
  have C : Cx E G RJ9 cJ9_floorMod_7cf53 3 { frames := 0, cells := 0, slots := 0, locals := 0 } := C
  unfold J9_floorMod_7cf53 at h
  show J E G 3 0 0 σ 0 [(0, .int p0), (1, .int p1)] []
  refine j_iload_n C dJ9_floorMod_7cf53_0 rfl 0 rfl 1 rfl ?_
  refine j_iload_n C dJ9_floorMod_7cf53_1 rfl 1 rfl 2 rfl ?_
  obtain ⟨hc, h⟩ := if_some h
  refine j_irem C dJ9_floorMod_7cf53_2 hc 3 rfl ?_
  refine j_istore_n C dJ9_floorMod_7cf53_3 rfl (by decide) [(2, .int (p0 - p0 / p1 * p1)), (0, .int p0), (1, .int p1)] rfl 4 rfl ?_
  refine j_iload_n C dJ9_floorMod_7cf53_4 rfl 1 rfl 5 rfl ?_
  refine j_iload_n C dJ9_floorMod_7cf53_5 rfl 2 rfl 6 rfl ?_
  refine j_ixor C dJ9_floorMod_7cf53_6 7 rfl ?_
  refine j_if_ge C dJ9_floorMod_7cf53_7 18 (by decide) 10 rfl (fun c => ?_) (fun c => ?_)
  · have h := it_t c h
    refine j_iload_n C dJ9_floorMod_7cf53_18 rfl 0 rfl 19 rfl ?_
    exact j_iret C F dJ9_floorMod_7cf53_19 h
  · have h := it_f c h
    refine j_iload_n C dJ9_floorMod_7cf53_10 rfl 0 rfl 11 rfl ?_
    refine j_if_eq C dJ9_floorMod_7cf53_11 18 (by decide) 14 rfl (fun c => ?_) (fun c => ?_)
    · have h := it_t c h
      refine j_iload_n C dJ9_floorMod_7cf53_18 rfl 0 rfl 19 rfl ?_
      exact j_iret C F dJ9_floorMod_7cf53_19 h
    · have h := it_f c h
      refine j_iload_n C dJ9_floorMod_7cf53_14 rfl 0 rfl 15 rfl ?_
      refine j_iload_n C dJ9_floorMod_7cf53_15 rfl 2 rfl 16 rfl ?_
      refine j_iadd C dJ9_floorMod_7cf53_16 17 rfl ?_
      exact j_iret C F dJ9_floorMod_7cf53_17 h

-- ===== StenoChords$SavedStates.slotBehindOldest(I)LStenoChords$State;
theorem vk_X4_slotBehindOldest : VK yX4_slotBehindOldest cX4_slotBehindOldest 3 (some (.object "StenoChords$State")) 1 := ⟨kw2_85, kw2_84, kwS_2, kw1_6, by decide +kernel⟩
def X4_slotBehindOldest (σ : Mem) (p1 : Int32) : Option (Mem × Option Nat) :=
  ((J9_floorMod_7cf53 σ ((σ.1 56 1) + p1) (6 : Int32)).bind fun q1 => (if q1.2 < 0 then some (q1.1, none) else (if (6 : Int32) ≤ q1.2 then some (q1.1, none) else (if inA q1.2 6 then some (q1.1, (some (14 + 7 * q1.2.toNatClampNeg))) else none))))
set_option maxHeartbeats 4000000 in
set_option maxRecDepth 100000 in
theorem ct_X4_slotBehindOldest (l : Launch) (G : Gw)  {σ : Mem} {p1 : Int32} {out : Mem × Option Nat} (h : X4_slotBehindOldest σ p1 = some out) : Ct l G yX4_slotBehindOldest cX4_slotBehindOldest 3 (some (.object "StenoChords$State")) { frames := 1, cells := 0, slots := 0, locals := 22 } [.ref (gA G 56), .int p1] σ out.1 (some (orf G out.2)) := by
  refine Ct.of (by decide +kernel) (Nat.le_of_ble_eq_true rfl) (fun E hE C F => ?_)
  subst hE
  have C : Cx E G RX4 cX4_slotBehindOldest 3 { frames := 1, cells := 0, slots := 0, locals := 22 } := C
  unfold X4_slotBehindOldest at h
  show J E G 3 0 0 σ 0 [(0, .ref (gA G 56)), (1, .int p1)] []
  refine j_aload_n C dX4_slotBehindOldest_0 rfl 0 rfl 1 rfl ?_
  refine j_get C foX4 sh56 1 (by decide) 0 rfl kw1_118 rfl dX4_slotBehindOldest_1 (.int (σ.1 56 1)) rfl 4 rfl ?_
  refine j_iload_n C dX4_slotBehindOldest_4 rfl 1 rfl 5 rfl ?_
  refine j_iadd C dX4_slotBehindOldest_5 6 rfl ?_
  refine j_bipush C dX4_slotBehindOldest_6 (6 : Int32) (by decide) 8 rfl ?_
  obtain ⟨q1, e2, h⟩ := ob_some h
  refine j_callS C (ct_J9_floorMod_7cf53 (eL E) G  e2) vk_J9_floorMod_7cf53 kw2_86 rfl ⟨Nat.le_of_ble_eq_true rfl, Nat.le_of_ble_eq_true rfl, rfl, rfl⟩ ⟨Nat.zero_le _, Nat.zero_le _⟩ (rest := []) rfl (Nat.le_of_ble_eq_true rfl) dX4_slotBehindOldest_8 (st1 := [.int q1.2]) rfl 11 rfl ?_
  refine j_istore_n C dX4_slotBehindOldest_11 rfl (by decide) [(2, .int q1.2), (0, .ref (gA G 56)), (1, .int p1)] rfl 12 rfl ?_
  refine j_iload_n C dX4_slotBehindOldest_12 rfl 0 rfl 13 rfl ?_
  refine j_if_lt C dX4_slotBehindOldest_13 34 (by decide) 16 rfl (fun c => ?_) (fun c => ?_)
  · have h := it_t c h
    refine j_null C dX4_slotBehindOldest_34 35 rfl ?_
    exact j_aret C (x := none) F rfl dX4_slotBehindOldest_35 h
  · have h := it_f c h
    refine j_iload_n C dX4_slotBehindOldest_16 rfl 0 rfl 17 rfl ?_
    refine j_aload_n C dX4_slotBehindOldest_17 rfl 1 rfl 18 rfl ?_
    refine j_get C foX4 sh56 0 (by decide) 59 rfl kw1_117 rfl dX4_slotBehindOldest_18 (.ref (gA G 57)) (fv_r rfl) 21 rfl ?_
    refine j_alenR C sh57 dX4_slotBehindOldest_21 (6 : Int32) rfl 22 rfl ?_
    refine j_icmp_ge C dX4_slotBehindOldest_22 34 (by decide) 25 rfl (fun c => ?_) (fun c => ?_)
    · have h := it_t c h
      refine j_null C dX4_slotBehindOldest_34 35 rfl ?_
      exact j_aret C (x := none) F rfl dX4_slotBehindOldest_35 h
    · have h := it_f c h
      refine j_aload_n C dX4_slotBehindOldest_25 rfl 1 rfl 26 rfl ?_
      refine j_get C foX4 sh56 0 (by decide) 59 rfl kw1_117 rfl dX4_slotBehindOldest_26 (.ref (gA G 57)) (fv_r rfl) 29 rfl ?_
      refine j_iload_n C dX4_slotBehindOldest_29 rfl 0 rfl 30 rfl ?_
      obtain ⟨hc, h⟩ := if_some h
      refine j_aald C sh57 hc dX4_slotBehindOldest_30 31 rfl ?_
      refine j_goto C dX4_slotBehindOldest_31 35 (by decide) ?_
      exact j_aret C (x := (some (14 + 7 * q1.2.toNatClampNeg))) F rfl dX4_slotBehindOldest_35 h

-- ===== StenoChords$SavedStates.push(LStenoChords$State;)V
theorem vk_X4_push : VK yX4_push cX4_push 3 none 1 := ⟨kw3_128, kw3_126, kw3_127, kw1_6, by decide +kernel⟩
def X4_push_18 (j : Nat) (σ : Mem)  : Option (Mem × Unit) :=
  (if (6 : Int32) ≤ (σ.1 56 2) then ((J9_floorMod_7cf53 σ ((σ.1 56 1) + (1 : Int32)) (6 : Int32)).bind fun q5 => ((some (setI q5.1 56 1 q5.2)).bind fun σ7 => some (σ7, ()))) else ((some (setI σ 56 2 ((σ.1 56 2) + (1 : Int32)))).bind fun σ9 => some (σ9, ())))
set_option maxHeartbeats 4000000 in
set_option maxRecDepth 100000 in
theorem w_X4_push_18 {E : Ev} {G : Gw} (C : Cx E G RX4 cX4_push 3 { frames := 4, cells := 0, slots := 0, locals := 85 }) {out : Mem × Unit} (F : Ef E G out.1 (none) none 0 0) {j : Nat} (oj : StOk j) (σ : Mem)  (h : X4_push_18 j σ = some out) : J E G 3 0 0 σ 18 [(0, .ref (gA G 56))] [] := by
  unfold X4_push_18 at h
  refine j_aload_n C dX4_push_18 rfl 0 rfl 19 rfl ?_
  refine j_get C foX4 sh56 2 (by decide) 0 rfl kw1_119 rfl dX4_push_19 (.int (σ.1 56 2)) rfl 22 rfl ?_
  refine j_bipush C dX4_push_22 (6 : Int32) (by decide) 24 rfl ?_
  refine j_icmp_ge C dX4_push_24 40 (by decide) 27 rfl (fun c => ?_) (fun c => ?_)
  · have h := it_t c h
    refine j_aload_n C dX4_push_40 rfl 0 rfl 41 rfl ?_
    refine j_aload_n C dX4_push_41 rfl 0 rfl 42 rfl ?_
    refine j_get C foX4 sh56 1 (by decide) 0 rfl kw1_118 rfl dX4_push_42 (.int (σ.1 56 1)) rfl 45 rfl ?_
    refine j_iconst C dX4_push_45 (1 : Int32) (by decide) 46 rfl ?_
    refine j_iadd C dX4_push_46 47 rfl ?_
    refine j_bipush C dX4_push_47 (6 : Int32) (by decide) 49 rfl ?_
    obtain ⟨q5, e6, h⟩ := ob_some h
    refine j_callS C (ct_J9_floorMod_7cf53 (eL E) G  e6) vk_J9_floorMod_7cf53 kw2_86 rfl ⟨Nat.le_of_ble_eq_true rfl, Nat.le_of_ble_eq_true rfl, rfl, rfl⟩ ⟨Nat.zero_le _, Nat.zero_le _⟩ (rest := [.ref (gA G 56)]) rfl (Nat.le_of_ble_eq_true rfl) dX4_push_49 (st1 := [.int q5.2, .ref (gA G 56)]) rfl 52 rfl ?_
    obtain ⟨σ7, e8, h⟩ := ob_some h
    refine j_putI C foX4 sh56 1 (by decide) rfl kw1_118 rfl rfl rfl rfl dX4_push_52 σ7 (Option.some.inj e8) 55 rfl ?_
    exact j_vret C F dX4_push_55 h
  · have h := it_f c h
    refine j_aload_n C dX4_push_27 rfl 0 rfl 28 rfl ?_
    refine j_dup C dX4_push_28 rfl 29 rfl ?_
    refine j_get C foX4 sh56 2 (by decide) 0 rfl kw1_119 rfl dX4_push_29 (.int (σ.1 56 2)) rfl 32 rfl ?_
    refine j_iconst C dX4_push_32 (1 : Int32) (by decide) 33 rfl ?_
    refine j_iadd C dX4_push_33 34 rfl ?_
    obtain ⟨σ9, e10, h⟩ := ob_some h
    refine j_putI C foX4 sh56 2 (by decide) rfl kw1_119 rfl rfl rfl rfl dX4_push_34 σ9 (Option.some.inj e10) 37 rfl ?_
    refine j_goto C dX4_push_37 55 (by decide) ?_
    exact j_vret C F dX4_push_55 h
def X4_push (j : Nat) (σ : Mem) : Option (Mem × Unit) :=
  ((X4_slotBehindOldest σ (σ.1 56 2)).bind fun q1 => oel q1.2 (X4_push_18 j q1.1) (fun x4 => if (x4 % 7 = 0 ∧ x4 < 56) then ((X5_become x4 j q1.1).bind fun q11 => X4_push_18 j q11.1) else none))
set_option maxHeartbeats 4000000 in
set_option maxRecDepth 100000 in
theorem ct_X4_push (l : Launch) (G : Gw) {j : Nat} (oj : StOk j) {σ : Mem} {out : Mem × Unit} (h : X4_push j σ = some out) : Ct l G yX4_push cX4_push 3 none { frames := 4, cells := 0, slots := 0, locals := 85 } [.ref (gA G 56), .ref (gA G j)] σ out.1 (none) := by
  refine Ct.of (by decide +kernel) (Nat.le_of_ble_eq_true rfl) (fun E hE C F => ?_)
  subst hE
  have C : Cx E G RX4 cX4_push 3 { frames := 4, cells := 0, slots := 0, locals := 85 } := C
  unfold X4_push at h
  show J E G 3 0 0 σ 0 [(0, .ref (gA G 56)), (1, .ref (gA G j))] []
  refine j_aload_n C dX4_push_0 rfl 0 rfl 1 rfl ?_
  refine j_aload_n C dX4_push_1 rfl 0 rfl 2 rfl ?_
  refine j_get C foX4 sh56 2 (by decide) 0 rfl kw1_119 rfl dX4_push_2 (.int (σ.1 56 2)) rfl 5 rfl ?_
  obtain ⟨q1, e2, h⟩ := ob_some h
  rcases oel_some h with ⟨hx3, h⟩ | ⟨x4, hx3, h⟩
  · refine j_callV C (ct_X4_slotBehindOldest (eL E) G  e2) sh56 foX4 rfl vk_X4_slotBehindOldest kw2_82 rfl ⟨Nat.le_of_ble_eq_true rfl, Nat.le_of_ble_eq_true rfl, rfl, rfl⟩ ⟨Nat.zero_le _, Nat.zero_le _⟩ (rest := []) rfl (Nat.le_of_ble_eq_true rfl) dX4_push_5 (st1 := [.null]) (by rw [hx3]; rfl) 8 rfl ?_
    refine j_astore_nN C dX4_push_8 rfl (by decide) [(2, .null), (0, .ref (gA G 56)), (1, .ref (gA G j))] rfl 9 rfl ?_
    refine j_aload_nN C dX4_push_9 rfl 0 rfl 10 rfl ?_
    refine j_ifnullN C dX4_push_10 18 (by decide) ?_
    refine j_sub [(0, .ref (gA G 56))] [1] rfl ?_
    exact w_X4_push_18 C F oj _ h
  · obtain ⟨hsx4, h⟩ := if_some h
    have ox4 := stOk_of hsx4
    refine j_callV C (ct_X4_slotBehindOldest (eL E) G  e2) sh56 foX4 rfl vk_X4_slotBehindOldest kw2_82 rfl ⟨Nat.le_of_ble_eq_true rfl, Nat.le_of_ble_eq_true rfl, rfl, rfl⟩ ⟨Nat.zero_le _, Nat.zero_le _⟩ (rest := []) rfl (Nat.le_of_ble_eq_true rfl) dX4_push_5 (st1 := [.ref (gA G x4)]) (by rw [hx3]; rfl) 8 rfl ?_
    refine j_astore_n C dX4_push_8 rfl (by decide) [(2, .ref (gA G x4)), (0, .ref (gA G 56)), (1, .ref (gA G j))] rfl 9 rfl ?_
    refine j_aload_n C dX4_push_9 rfl 0 rfl 10 rfl ?_
    refine j_ifnull C dX4_push_10 13 rfl ?_
    refine j_aload_n C dX4_push_13 rfl 0 rfl 14 rfl ?_
    refine j_aload_n C dX4_push_14 rfl 2 rfl 15 rfl ?_
    obtain ⟨q11, e12, h⟩ := ob_some h
    refine j_callV C (ct_X5_become (eL E) G ox4 oj e12) ox4.1 foX5 rfl vk_X5_become kw2_89 rfl ⟨Nat.le_of_ble_eq_true rfl, Nat.le_of_ble_eq_true rfl, rfl, rfl⟩ ⟨Nat.zero_le _, Nat.zero_le _⟩ (rest := []) rfl (Nat.le_of_ble_eq_true rfl) dX4_push_15 (st1 := []) rfl 18 rfl ?_
    refine j_sub [(0, .ref (gA G 56))] [1] rfl ?_
    exact w_X4_push_18 C F oj _ h

-- ===== StenoChords$SavedStates.popInto(LStenoChords$State;)V
theorem vk_X4_popInto : VK yX4_popInto cX4_popInto 3 none 1 := ⟨kw2_81, kw2_79, kw2_80, kw1_6, by decide +kernel⟩
def X4_popInto (j : Nat) (σ : Mem) : Option (Mem × Unit) :=
  (if (σ.1 56 2) ≤ 0 then some (σ, ()) else ((some (setI σ 56 2 ((σ.1 56 2) - (1 : Int32)))).bind fun σ1 => ((X4_slotBehindOldest σ1 (σ1.1 56 2)).bind fun q3 => oel q3.2 (some (q3.1, ())) (fun x6 => if (x6 % 7 = 0 ∧ x6 < 56) then ((X5_become j x6 q3.1).bind fun q7 => some (q7.1, ())) else none))))
set_option maxHeartbeats 4000000 in
set_option maxRecDepth 100000 in
theorem ct_X4_popInto (l : Launch) (G : Gw) {j : Nat} (oj : StOk j) {σ : Mem} {out : Mem × Unit} (h : X4_popInto j σ = some out) : Ct l G yX4_popInto cX4_popInto 3 none { frames := 4, cells := 0, slots := 0, locals := 85 } [.ref (gA G 56), .ref (gA G j)] σ out.1 (none) := by
  refine Ct.of (by decide +kernel) (Nat.le_of_ble_eq_true rfl) (fun E hE C F => ?_)
  subst hE
  have C : Cx E G RX4 cX4_popInto 3 { frames := 4, cells := 0, slots := 0, locals := 85 } := C
  unfold X4_popInto at h
  show J E G 3 0 0 σ 0 [(0, .ref (gA G 56)), (1, .ref (gA G j))] []
  refine j_aload_n C dX4_popInto_0 rfl 0 rfl 1 rfl ?_
  refine j_get C foX4 sh56 2 (by decide) 0 rfl kw1_119 rfl dX4_popInto_1 (.int (σ.1 56 2)) rfl 4 rfl ?_
  refine j_if_le C dX4_popInto_4 35 (by decide) 7 rfl (fun c => ?_) (fun c => ?_)
  · have h := it_t c h
    exact j_vret C F dX4_popInto_35 h
  · have h := it_f c h
    refine j_aload_n C dX4_popInto_7 rfl 0 rfl 8 rfl ?_
    refine j_dup C dX4_popInto_8 rfl 9 rfl ?_
    refine j_get C foX4 sh56 2 (by decide) 0 rfl kw1_119 rfl dX4_popInto_9 (.int (σ.1 56 2)) rfl 12 rfl ?_
    refine j_iconst C dX4_popInto_12 (1 : Int32) (by decide) 13 rfl ?_
    refine j_isub C dX4_popInto_13 14 rfl ?_
    obtain ⟨σ1, e2, h⟩ := ob_some h
    refine j_putI C foX4 sh56 2 (by decide) rfl kw1_119 rfl rfl rfl rfl dX4_popInto_14 σ1 (Option.some.inj e2) 17 rfl ?_
    refine j_aload_n C dX4_popInto_17 rfl 0 rfl 18 rfl ?_
    refine j_aload_n C dX4_popInto_18 rfl 0 rfl 19 rfl ?_
    refine j_get C foX4 sh56 2 (by decide) 0 rfl kw1_119 rfl dX4_popInto_19 (.int (σ1.1 56 2)) rfl 22 rfl ?_
    obtain ⟨q3, e4, h⟩ := ob_some h
    rcases oel_some h with ⟨hx5, h⟩ | ⟨x6, hx5, h⟩
    · refine j_callV C (ct_X4_slotBehindOldest (eL E) G  e4) sh56 foX4 rfl vk_X4_slotBehindOldest kw2_82 rfl ⟨Nat.le_of_ble_eq_true rfl, Nat.le_of_ble_eq_true rfl, rfl, rfl⟩ ⟨Nat.zero_le _, Nat.zero_le _⟩ (rest := []) rfl (Nat.le_of_ble_eq_true rfl) dX4_popInto_22 (st1 := [.null]) (by rw [hx5]; rfl) 25 rfl ?_
      refine j_astore_nN C dX4_popInto_25 rfl (by decide) [(2, .null), (0, .ref (gA G 56)), (1, .ref (gA G j))] rfl 26 rfl ?_
      refine j_aload_nN C dX4_popInto_26 rfl 0 rfl 27 rfl ?_
      refine j_ifnullN C dX4_popInto_27 35 (by decide) ?_
      exact j_vret C F dX4_popInto_35 h
    · obtain ⟨hsx6, h⟩ := if_some h
      have ox6 := stOk_of hsx6
      refine j_callV C (ct_X4_slotBehindOldest (eL E) G  e4) sh56 foX4 rfl vk_X4_slotBehindOldest kw2_82 rfl ⟨Nat.le_of_ble_eq_true rfl, Nat.le_of_ble_eq_true rfl, rfl, rfl⟩ ⟨Nat.zero_le _, Nat.zero_le _⟩ (rest := []) rfl (Nat.le_of_ble_eq_true rfl) dX4_popInto_22 (st1 := [.ref (gA G x6)]) (by rw [hx5]; rfl) 25 rfl ?_
      refine j_astore_n C dX4_popInto_25 rfl (by decide) [(2, .ref (gA G x6)), (0, .ref (gA G 56)), (1, .ref (gA G j))] rfl 26 rfl ?_
      refine j_aload_n C dX4_popInto_26 rfl 0 rfl 27 rfl ?_
      refine j_ifnull C dX4_popInto_27 30 rfl ?_
      refine j_aload_n C dX4_popInto_30 rfl 2 rfl 31 rfl ?_
      refine j_aload_n C dX4_popInto_31 rfl 0 rfl 32 rfl ?_
      obtain ⟨q7, e8, h⟩ := ob_some h
      refine j_callV C (ct_X5_become (eL E) G oj ox6 e8) oj.1 foX5 rfl vk_X5_become kw2_89 rfl ⟨Nat.le_of_ble_eq_true rfl, Nat.le_of_ble_eq_true rfl, rfl, rfl⟩ ⟨Nat.zero_le _, Nat.zero_le _⟩ (rest := []) rfl (Nat.le_of_ble_eq_true rfl) dX4_popInto_32 (st1 := []) rfl 35 rfl ?_
      exact j_vret C F dX4_popInto_35 h
