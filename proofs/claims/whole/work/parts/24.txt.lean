-- ===== StenoChords$InputText.length()I
theorem vk_X1_length : VK yX1_length cX1_length 1 (some .int) 0 := ⟨kw2_25, kw2_23, kw2_24, kw1_7, by decide +kernel⟩
def X1_length (σ : Mem) : Option (Mem × Int32) :=
  ((X3_length 59 σ).bind fun q1 => some (q1.1, q1.2))
set_option maxHeartbeats 4000000 in
set_option maxRecDepth 100000 in
theorem ct_X1_length (l : Launch) (G : Gw)  {σ : Mem} {out : Mem × Int32} (h : X1_length σ = some out) : Ct l G yX1_length cX1_length 1 (some .int) { frames := 1, cells := 0, slots := 0, locals := 20 } [.ref (gA G 58)] σ out.1 (some (.int out.2)) := by
  refine Ct.of (by decide) (Nat.le_of_ble_eq_true rfl) (fun E hE C F => ?_)
  subst hE
  have C : Cx E G RX1 cX1_length 1 { frames := 1, cells := 0, slots := 0, locals := 20 } := C
  unfold X1_length at h
  show J E G 1 0 0 σ 0 [(0, .ref (gA G 58))] []
  refine j_aload_n C dX1_length_0 rfl 0 rfl 1 rfl ?_
  refine j_get C foX1 sh58 0 (by decide) 61 rfl kw1_136 rfl dX1_length_1 (.ref (gA G 59)) (fv_r rfl) 4 rfl ?_
  obtain ⟨q1, e2, h⟩ := ob_some h
  refine j_callV C (ct_X3_length (eL E) G row59 e2) sh59 foX3 rfl vk_X3_length kw2_26 rfl ⟨Nat.le_of_ble_eq_true rfl, Nat.le_of_ble_eq_true rfl, rfl, rfl⟩ ⟨Nat.zero_le _, Nat.zero_le _⟩ (rest := []) rfl (Nat.le_of_ble_eq_true rfl) dX1_length_4 (st1 := [.int q1.2]) rfl 7 rfl ?_
  exact j_iret C F dX1_length_7 h

-- ===== StenoChords$InputText.isFull()Z
theorem vk_X1_isFull : VK yX1_isFull cX1_isFull 1 (some .boolean) 0 := ⟨kw4_90, kw4_88, kw4_89, kw1_7, by decide +kernel⟩
def X1_isFull (σ : Mem) : Option (Mem × Int32) :=
  ((X3_isFull 59 σ).bind fun q1 => (if q1.2 &&& 1 = q1.2 then some (q1.1, q1.2) else none))
set_option maxHeartbeats 4000000 in
set_option maxRecDepth 100000 in
theorem ct_X1_isFull (l : Launch) (G : Gw)  {σ : Mem} {out : Mem × Int32} (h : X1_isFull σ = some out) : Ct l G yX1_isFull cX1_isFull 1 (some .boolean) { frames := 1, cells := 0, slots := 0, locals := 20 } [.ref (gA G 58)] σ out.1 (some (.int out.2)) := by
  refine Ct.of (by decide) (Nat.le_of_ble_eq_true rfl) (fun E hE C F => ?_)
  subst hE
  have C : Cx E G RX1 cX1_isFull 1 { frames := 1, cells := 0, slots := 0, locals := 20 } := C
  unfold X1_isFull at h
  show J E G 1 0 0 σ 0 [(0, .ref (gA G 58))] []
  refine j_aload_n C dX1_isFull_0 rfl 0 rfl 1 rfl ?_
  refine j_get C foX1 sh58 0 (by decide) 61 rfl kw1_136 rfl dX1_isFull_1 (.ref (gA G 59)) (fv_r rfl) 4 rfl ?_
  obtain ⟨q1, e2, h⟩ := ob_some h
  refine j_callV C (ct_X3_isFull (eL E) G row59 e2) sh59 foX3 rfl vk_X3_isFull kw4_91 rfl ⟨Nat.le_of_ble_eq_true rfl, Nat.le_of_ble_eq_true rfl, rfl, rfl⟩ ⟨Nat.zero_le _, Nat.zero_le _⟩ (rest := []) rfl (Nat.le_of_ble_eq_true rfl) dX1_isFull_4 (st1 := [.int q1.2]) rfl 7 rfl ?_
  obtain ⟨hb, h⟩ := if_some h
  exact j_zret C F dX1_isFull_7 hb h

-- ===== StenoChords$InputText.codeAt(I)I
theorem vk_X1_codeAt : VK yX1_codeAt cX1_codeAt 2 (some .int) 1 := ⟨kw3_175, kw3_173, kw3_174, kw1_7, by decide +kernel⟩
def X1_codeAt (σ : Mem) (p1 : Int32) : Option (Mem × Int32) :=
  ((X3_at 59 σ p1).bind fun q1 => some (q1.1, q1.2))
set_option maxHeartbeats 4000000 in
set_option maxRecDepth 100000 in
theorem ct_X1_codeAt (l : Launch) (G : Gw)  {σ : Mem} {p1 : Int32} {out : Mem × Int32} (h : X1_codeAt σ p1 = some out) : Ct l G yX1_codeAt cX1_codeAt 2 (some .int) { frames := 2, cells := 0, slots := 0, locals := 42 } [.ref (gA G 58), .int p1] σ out.1 (some (.int out.2)) := by
  refine Ct.of (by decide) (Nat.le_of_ble_eq_true rfl) (fun E hE C F => ?_)
  subst hE
  have C : Cx E G RX1 cX1_codeAt 2 { frames := 2, cells := 0, slots := 0, locals := 42 } := C
  unfold X1_codeAt at h
  show J E G 2 0 0 σ 0 [(0, .ref (gA G 58)), (1, .int p1)] []
  refine j_aload_n C dX1_codeAt_0 rfl 0 rfl 1 rfl ?_
  refine j_get C foX1 sh58 0 (by decide) 61 rfl kw1_136 rfl dX1_codeAt_1 (.ref (gA G 59)) (fv_r rfl) 4 rfl ?_
  refine j_iload_n C dX1_codeAt_4 rfl 1 rfl 5 rfl ?_
  obtain ⟨q1, e2, h⟩ := ob_some h
  refine j_callV C (ct_X3_at (eL E) G row59 e2) sh59 foX3 rfl vk_X3_at kw2_40 rfl ⟨Nat.le_of_ble_eq_true rfl, Nat.le_of_ble_eq_true rfl, rfl, rfl⟩ ⟨Nat.zero_le _, Nat.zero_le _⟩ (rest := []) rfl (Nat.le_of_ble_eq_true rfl) dX1_codeAt_5 (st1 := [.int q1.2]) rfl 8 rfl ?_
  exact j_iret C F dX1_codeAt_8 h

-- ===== StenoChords$InputText.put(I)V
theorem vk_X1_put : VK yX1_put cX1_put 2 none 1 := ⟨kw4_96, kw4_94, kw4_95, kw1_7, by decide +kernel⟩
def X1_put (σ : Mem) (p1 : Int32) : Option (Mem × Unit) :=
  ((X3_put 59 σ p1).bind fun q1 => some (q1.1, ()))
set_option maxHeartbeats 4000000 in
set_option maxRecDepth 100000 in
theorem ct_X1_put (l : Launch) (G : Gw)  {σ : Mem} {p1 : Int32} {out : Mem × Unit} (h : X1_put σ p1 = some out) : Ct l G yX1_put cX1_put 2 none { frames := 1, cells := 0, slots := 0, locals := 21 } [.ref (gA G 58), .int p1] σ out.1 (none) := by
  refine Ct.of (by decide) (Nat.le_of_ble_eq_true rfl) (fun E hE C F => ?_)
  subst hE
  have C : Cx E G RX1 cX1_put 2 { frames := 1, cells := 0, slots := 0, locals := 21 } := C
  unfold X1_put at h
  show J E G 2 0 0 σ 0 [(0, .ref (gA G 58)), (1, .int p1)] []
  refine j_aload_n C dX1_put_0 rfl 0 rfl 1 rfl ?_
  refine j_get C foX1 sh58 0 (by decide) 61 rfl kw1_136 rfl dX1_put_1 (.ref (gA G 59)) (fv_r rfl) 4 rfl ?_
  refine j_iload_n C dX1_put_4 rfl 1 rfl 5 rfl ?_
  obtain ⟨q1, e2, h⟩ := ob_some h
  refine j_callV C (ct_X3_put (eL E) G row59 e2) sh59 foX3 rfl vk_X3_put kw3_234 rfl ⟨Nat.le_of_ble_eq_true rfl, Nat.le_of_ble_eq_true rfl, rfl, rfl⟩ ⟨Nat.zero_le _, Nat.zero_le _⟩ (rest := []) rfl (Nat.le_of_ble_eq_true rfl) dX1_put_5 (st1 := []) rfl 8 rfl ?_
  exact j_vret C F dX1_put_8 h

-- ===== StenoChords$InputText.wipe()V
theorem vk_X1_wipe : VK yX1_wipe cX1_wipe 1 none 0 := ⟨kw2_30, kw2_28, kw2_29, kw1_7, by decide +kernel⟩
def X1_wipe (σ : Mem) : Option (Mem × Unit) :=
  ((X3_shorten 59 σ (0 : Int32)).bind fun q1 => some (q1.1, ()))
set_option maxHeartbeats 4000000 in
set_option maxRecDepth 100000 in
theorem ct_X1_wipe (l : Launch) (G : Gw)  {σ : Mem} {out : Mem × Unit} (h : X1_wipe σ = some out) : Ct l G yX1_wipe cX1_wipe 1 none { frames := 1, cells := 0, slots := 0, locals := 21 } [.ref (gA G 58)] σ out.1 (none) := by
  refine Ct.of (by decide) (Nat.le_of_ble_eq_true rfl) (fun E hE C F => ?_)
  subst hE
  have C : Cx E G RX1 cX1_wipe 1 { frames := 1, cells := 0, slots := 0, locals := 21 } := C
  unfold X1_wipe at h
  show J E G 1 0 0 σ 0 [(0, .ref (gA G 58))] []
  refine j_aload_n C dX1_wipe_0 rfl 0 rfl 1 rfl ?_
  refine j_get C foX1 sh58 0 (by decide) 61 rfl kw1_136 rfl dX1_wipe_1 (.ref (gA G 59)) (fv_r rfl) 4 rfl ?_
  refine j_iconst C dX1_wipe_4 (0 : Int32) (by decide) 5 rfl ?_
  obtain ⟨q1, e2, h⟩ := ob_some h
  refine j_callV C (ct_X3_shorten (eL E) G row59 e2) sh59 foX3 rfl vk_X3_shorten kw2_31 rfl ⟨Nat.le_of_ble_eq_true rfl, Nat.le_of_ble_eq_true rfl, rfl, rfl⟩ ⟨Nat.zero_le _, Nat.zero_le _⟩ (rest := []) rfl (Nat.le_of_ble_eq_true rfl) dX1_wipe_5 (st1 := []) rfl 8 rfl ?_
  exact j_vret C F dX1_wipe_8 h
