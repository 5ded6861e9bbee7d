-- ===== StenoChords$InputText.length()I
theorem vk_X1_length : VK yX1_length cX1_length 1 (some .int) 0 := ⟨kw3_139, kw3_137, kw3_138, kw1_7, by decide +kernel⟩
def X1_length (σ : Mem) : Option (Mem × Int32) :=
  ((X3_length 59 σ).bind fun q1 => some (q1.1, q1.2))
set_option maxHeartbeats 4000000 in
set_option maxRecDepth 100000 in
theorem ct_X1_length (l : Launch) (G : Gw)  {σ : Mem} {out : Mem × Int32} (h : X1_length σ = some out) : Ct l G yX1_length cX1_length 1 (some .int) { frames := 1, cells := 0, slots := 0, locals := 20 } [.ref (gA G 58)] σ out.1 (some (.int out.2)) := by
  refine Ct.of (by decide +kernel) (Nat.le_of_ble_eq_true rfl) (fun E hE C F => ?_)
  subst hE
  have C : Cx E G RX1 cX1_length 1 { frames := 1, cells := 0, slots := 0, locals := 20 } := C
  unfold X1_length at h
  show J E G 1 0 0 σ 0 [(0, .ref (gA G 58))] []
  refine j_aload_n C dX1_length_0 rfl 0 rfl 1 rfl ?_
  refine j_get C foX1 sh58 0 (by decide) 61 rfl kw1_135 rfl dX1_length_1 (.ref (gA G 59)) (fv_r rfl) 4 rfl ?_
  obtain ⟨q1, e2, h⟩ := ob_some h
  refine j_callV C (ct_X3_length (eL E) G row59 e2) sh59 foX3 rfl vk_X3_length kw3_140 rfl ⟨Nat.le_of_ble_eq_true rfl, Nat.le_of_ble_eq_true rfl, rfl, rfl⟩ ⟨Nat.zero_le _, Nat.zero_le _⟩ (rest := []) rfl (Nat.le_of_ble_eq_true rfl) dX1_length_4 (st1 := [.int q1.2]) rfl 7 rfl ?_
  exact j_iret C F dX1_length_7 h

-- ===== StenoChords$InputText.isFull()Z
theorem vk_X1_isFull : VK yX1_isFull cX1_isFull 1 (some .boolean) 0 := ⟨kw3_154, kw3_152, kw3_153, kw1_7, by decide +kernel⟩
def X1_isFull (σ : Mem) : Option (Mem × Int32) :=
  ((X3_isFull 59 σ).bind fun q1 => (if q1.2 &&& 1 = q1.2 then some (q1.1, q1.2) else none))
set_option maxHeartbeats 4000000 in
set_option maxRecDepth 100000 in
theorem ct_X1_isFull (l : Launch) (G : Gw)  {σ : Mem} {out : Mem × Int32} (h : X1_isFull σ = some out) : Ct l G yX1_isFull cX1_isFull 1 (some .boolean) { frames := 1, cells := 0, slots := 0, locals := 20 } [.ref (gA G 58)] σ out.1 (some (.int out.2)) := by
  refine Ct.of (by decide +kernel) (Nat.le_of_ble_eq_true rfl) (fun E hE C F => ?_)
  subst hE
  have C : Cx E G RX1 cX1_isFull 1 { frames := 1, cells := 0, slots := 0, locals := 20 } := C
  unfold X1_isFull at h
  show J E G 1 0 0 σ 0 [(0, .ref (gA G 58))] []
  refine j_aload_n C dX1_isFull_0 rfl 0 rfl 1 rfl ?_
  refine j_get C foX1 sh58 0 (by decide) 61 rfl kw1_135 rfl dX1_isFull_1 (.ref (gA G 59)) (fv_r rfl) 4 rfl ?_
  obtain ⟨q1, e2, h⟩ := ob_some h
  refine j_callV C (ct_X3_isFull (eL E) G row59 e2) sh59 foX3 rfl vk_X3_isFull kw3_155 rfl ⟨Nat.le_of_ble_eq_true rfl, Nat.le_of_ble_eq_true rfl, rfl, rfl⟩ ⟨Nat.zero_le _, Nat.zero_le _⟩ (rest := []) rfl (Nat.le_of_ble_eq_true rfl) dX1_isFull_4 (st1 := [.int q1.2]) rfl 7 rfl ?_
  obtain ⟨hb, h⟩ := if_some h
  exact j_zret C F dX1_isFull_7 hb h

-- ===== StenoChords$InputText.put(I)V
theorem vk_X1_put : VK yX1_put cX1_put 2 none 1 := ⟨kw3_163, kw3_161, kw3_162, kw1_7, by decide +kernel⟩
def X1_put (σ : Mem) (p1 : Int32) : Option (Mem × Unit) :=
  ((X3_put 59 σ p1).bind fun q1 => some (q1.1, ()))
set_option maxHeartbeats 4000000 in
set_option maxRecDepth 100000 in
theorem ct_X1_put (l : Launch) (G : Gw)  {σ : Mem} {p1 : Int32} {out : Mem × Unit} (h : X1_put σ p1 = some out) : Ct l G yX1_put cX1_put 2 none { frames := 1, cells := 0, slots := 0, locals := 21 } [.ref (gA G 58), .int p1] σ out.1 (none) := by
  refine Ct.of (by decide +kernel) (Nat.le_of_ble_eq_true rfl) (fun E hE C F => ?_)
  subst hE
  have C : Cx E G RX1 cX1_put 2 { frames := 1, cells := 0, slots := 0, locals := 21 } := C
  unfold X1_put at h
  show J E G 2 0 0 σ 0 [(0, .ref (gA G 58)), (1, .int p1)] []
  refine j_aload_n C dX1_put_0 rfl 0 rfl 1 rfl ?_
  refine j_get C foX1 sh58 0 (by decide) 61 rfl kw1_135 rfl dX1_put_1 (.ref (gA G 59)) (fv_r rfl) 4 rfl ?_
  refine j_iload_n C dX1_put_4 rfl 1 rfl 5 rfl ?_
  obtain ⟨q1, e2, h⟩ := ob_some h
  refine j_callV C (ct_X3_put (eL E) G row59 e2) sh59 foX3 rfl vk_X3_put kw3_164 rfl ⟨Nat.le_of_ble_eq_true rfl, Nat.le_of_ble_eq_true rfl, rfl, rfl⟩ ⟨Nat.zero_le _, Nat.zero_le _⟩ (rest := []) rfl (Nat.le_of_ble_eq_true rfl) dX1_put_5 (st1 := []) rfl 8 rfl ?_
  exact j_vret C F dX1_put_8 h

-- ===== StenoChords$InputText.wipe()V
theorem vk_X1_wipe : VK yX1_wipe cX1_wipe 1 none 0 := ⟨kw3_144, kw3_142, kw3_143, kw1_7, by decide +kernel⟩
def X1_wipe (σ : Mem) : Option (Mem × Unit) :=
  ((X3_shorten 59 σ (0 : Int32)).bind fun q1 => some (q1.1, ()))
set_option maxHeartbeats 4000000 in
set_option maxRecDepth 100000 in
theorem ct_X1_wipe (l : Launch) (G : Gw)  {σ : Mem} {out : Mem × Unit} (h : X1_wipe σ = some out) : Ct l G yX1_wipe cX1_wipe 1 none { frames := 1, cells := 0, slots := 0, locals := 21 } [.ref (gA G 58)] σ out.1 (none) := by
  refine Ct.of (by decide +kernel) (Nat.le_of_ble_eq_true rfl) (fun E hE C F => ?_)
  subst hE
  have C : Cx E G RX1 cX1_wipe 1 { frames := 1, cells := 0, slots := 0, locals := 21 } := C
  unfold X1_wipe at h
  show J E G 1 0 0 σ 0 [(0, .ref (gA G 58))] []
  refine j_aload_n C dX1_wipe_0 rfl 0 rfl 1 rfl ?_
  refine j_get C foX1 sh58 0 (by decide) 61 rfl kw1_135 rfl dX1_wipe_1 (.ref (gA G 59)) (fv_r rfl) 4 rfl ?_
  refine j_iconst C dX1_wipe_4 (0 : Int32) (by decide) 5 rfl ?_
  obtain ⟨q1, e2, h⟩ := ob_some h
  refine j_callV C (ct_X3_shorten (eL E) G row59 e2) sh59 foX3 rfl vk_X3_shorten kw3_145 rfl ⟨Nat.le_of_ble_eq_true rfl, Nat.le_of_ble_eq_true rfl, rfl, rfl⟩ ⟨Nat.zero_le _, Nat.zero_le _⟩ (rest := []) rfl (Nat.le_of_ble_eq_true rfl) dX1_wipe_5 (st1 := []) rfl 8 rfl ?_
  exact j_vret C F dX1_wipe_8 h

-- ===== java/lang/String.isLatin1()Z
theorem vk_J0_isLatin1_aae02 : VK yJ0_isLatin1_aae02 cJ0_isLatin1_aae02 1 (some .boolean) 0 := ⟨kw3_189, kw3_187, kw3_188, kw1_16, by decide +kernel⟩
def J0_isLatin1_aae02 (σ : Mem) : Option (Mem × Int32) :=
  (if (1 : Int32) = 0 then some (σ, (0 : Int32)) else (if (0 : Int32) = 0 then some (σ, (1 : Int32)) else some (σ, (0 : Int32))))
set_option maxHeartbeats 4000000 in
set_option maxRecDepth 100000 in
theorem ct_J0_isLatin1_aae02 (l : Launch) (G : Gw)  {σ : Mem} {out : Mem × Int32} (h : J0_isLatin1_aae02 σ = some out) : Ct l G yJ0_isLatin1_aae02 cJ0_isLatin1_aae02 1 (some .boolean) { frames := 0, cells := 0, slots := 0, locals := 0 } [.ref (gA G 92)] σ out.1 (some (.int out.2)) := by
  refine Ct.of (by decide +kernel) (Nat.le_of_ble_eq_true rfl) (fun E hE C F => ?_)
  subst hE
  have C : Cx E G RJ0 cJ0_isLatin1_aae02 1 { frames := 0, cells := 0, slots := 0, locals := 0 } := C
  unfold J0_isLatin1_aae02 at h
  show J E G 1 0 0 σ 0 [(0, .ref (gA G 92))] []
  refine j_cmpS C kw3_190 dJ0_isLatin1_aae02_0 3 rfl ?_
  refine j_if_eq C dJ0_isLatin1_aae02_3 17 (by decide) 6 rfl (fun c => ?_) (fun c => ?_)
  · have h := it_t c h
    refine j_iconst C dJ0_isLatin1_aae02_17 (0 : Int32) (by decide) 18 rfl ?_
    exact j_zret C F dJ0_isLatin1_aae02_18 (by decide) h
  · have h := it_f c h
    refine j_aload_n C dJ0_isLatin1_aae02_6 rfl 0 rfl 7 rfl ?_
    refine j_strC C kw4_98 dJ0_isLatin1_aae02_7 10 rfl ?_
    refine j_if_ne C dJ0_isLatin1_aae02_10 17 (by decide) 13 rfl (fun c => ?_) (fun c => ?_)
    · have h := it_f c h
      refine j_iconst C dJ0_isLatin1_aae02_17 (0 : Int32) (by decide) 18 rfl ?_
      exact j_zret C F dJ0_isLatin1_aae02_18 (by decide) h
    · have h := it_t c h
      refine j_iconst C dJ0_isLatin1_aae02_13 (1 : Int32) (by decide) 14 rfl ?_
      refine j_goto C dJ0_isLatin1_aae02_14 18 (by decide) ?_
      exact j_zret C F dJ0_isLatin1_aae02_18 (by decide) h

-- ===== java/lang/String.coder()B
theorem vk_J0_coder_7d493 : VK yJ0_coder_7d493 cJ0_coder_7d493 1 (some .byte) 0 := ⟨kw3_199, kw3_197, kw3_198, kw1_16, by decide +kernel⟩
def J0_coder_7d493 (σ : Mem) : Option (Mem × Int32) :=
  (if (1 : Int32) = 0 then some (σ, (1 : Int32)) else some (σ, (0 : Int32)))
set_option maxHeartbeats 4000000 in
set_option maxRecDepth 100000 in
theorem ct_J0_coder_7d493 (l : Launch) (G : Gw)  {σ : Mem} {out : Mem × Int32} (h : J0_coder_7d493 σ = some out) : Ct l G yJ0_coder_7d493 cJ0_coder_7d493 1 (some .byte) { frames := 0, cells := 0, slots := 0, locals := 0 } [.ref (gA G 92)] σ out.1 (some (.int out.2)) := by
  refine Ct.of (by decide +kernel) (Nat.le_of_ble_eq_true rfl) (fun E hE C F => ?_)
  subst hE
  have C : Cx E G RJ0 cJ0_coder_7d493 1 { frames := 0, cells := 0, slots := 0, locals := 0 } := C
  unfold J0_coder_7d493 at h
  show J E G 1 0 0 σ 0 [(0, .ref (gA G 92))] []
  refine j_cmpS C kw3_190 dJ0_coder_7d493_0 3 rfl ?_
  refine j_if_eq C dJ0_coder_7d493_3 13 (by decide) 6 rfl (fun c => ?_) (fun c => ?_)
  · have h := it_t c h
    refine j_iconst C dJ0_coder_7d493_13 (1 : Int32) (by decide) 14 rfl ?_
    exact j_bret C F dJ0_coder_7d493_14 rfl h
  · have h := it_f c h
    refine j_aload_n C dJ0_coder_7d493_6 rfl 0 rfl 7 rfl ?_
    refine j_strC C kw4_98 dJ0_coder_7d493_7 10 rfl ?_
    refine j_goto C dJ0_coder_7d493_10 14 (by decide) ?_
    exact j_bret C F dJ0_coder_7d493_14 rfl h

-- ===== java/lang/String.length()I
theorem vk_J0_length_8abf5 : VK yJ0_length_8abf5 cJ0_length_8abf5 1 (some .int) 0 := ⟨kw3_195, kw3_193, kw3_194, kw1_16, by decide +kernel⟩
def J0_length_8abf5 (σ : Mem) : Option (Mem × Int32) :=
  ((J0_coder_7d493 σ).bind fun q1 => some (q1.1, ((10 : Int32) >>> (q1.2 &&& 31))))
set_option maxHeartbeats 4000000 in
set_option maxRecDepth 100000 in
theorem ct_J0_length_8abf5 (l : Launch) (G : Gw)  {σ : Mem} {out : Mem × Int32} (h : J0_length_8abf5 σ = some out) : Ct l G yJ0_length_8abf5 cJ0_length_8abf5 1 (some .int) { frames := 1, cells := 0, slots := 0, locals := 20 } [.ref (gA G 92)] σ out.1 (some (.int out.2)) := by
  refine Ct.of (by decide +kernel) (Nat.le_of_ble_eq_true rfl) (fun E hE C F => ?_)
  subst hE
  have C : Cx E G RJ0 cJ0_length_8abf5 1 { frames := 1, cells := 0, slots := 0, locals := 20 } := C
  unfold J0_length_8abf5 at h
  show J E G 1 0 0 σ 0 [(0, .ref (gA G 92))] []
  refine j_aload_n C dJ0_length_8abf5_0 rfl 0 rfl 1 rfl ?_
  refine j_strV C kw4_99 dJ0_length_8abf5_1 4 rfl ?_
  refine j_alenS C dJ0_length_8abf5_4 5 rfl ?_
  refine j_aload_n C dJ0_length_8abf5_5 rfl 0 rfl 6 rfl ?_
  obtain ⟨q1, e2, h⟩ := ob_some h
  refine j_callVS C (ct_J0_coder_7d493 (eL E) G  e2) rfl vk_J0_coder_7d493 kw3_196 rfl ⟨Nat.le_of_ble_eq_true rfl, Nat.le_of_ble_eq_true rfl, rfl, rfl⟩ ⟨Nat.zero_le _, Nat.zero_le _⟩ (rest := [.int (10 : Int32)]) rfl (Nat.le_of_ble_eq_true rfl) dJ0_length_8abf5_6 (st1 := [.int q1.2, .int (10 : Int32)]) rfl 9 rfl ?_
  refine j_ishr C dJ0_length_8abf5_9 10 rfl ?_
  exact j_iret C F dJ0_length_8abf5_10 h

-- ===== java/lang/StringLatin1.canEncode(I)Z
theorem vk_J1_canEncode_9a6ad : SK yJ1_canEncode_9a6ad cJ1_canEncode_9a6ad 1 (some .boolean) 1 := ⟨kw3_205, kw3_204, kw1_17, by decide +kernel⟩
def J1_canEncode_9a6ad (σ : Mem) (p0 : Int32) : Option (Mem × Int32) :=
  (if p0 < 0 then some (σ, (0 : Int32)) else (if (255 : Int32) < p0 then some (σ, (0 : Int32)) else some (σ, (1 : Int32))))
set_option maxHeartbeats 4000000 in
set_option maxRecDepth 100000 in
theorem ct_J1_canEncode_9a6ad (l : Launch) (G : Gw)  {σ : Mem} {p0 : Int32} {out : Mem × Int32} (h : J1_canEncode_9a6ad σ p0 = some out) : Ct l G yJ1_canEncode_9a6ad cJ1_canEncode_9a6ad 1 (some .boolean) { frames := 0, cells := 0, slots := 0, locals := 0 } [.int p0] σ out.1 (some (.int out.2)) := by
  refine Ct.of (by decide +kernel) (Nat.le_of_ble_eq_true rfl) (fun E hE C F => ?_)
  subst hE
  have C : Cx E G RJ1 cJ1_canEncode_9a6ad 1 { frames := 0, cells := 0, slots := 0, locals := 0 } := C
  unfold J1_canEncode_9a6ad at h
  show J E G 1 0 0 σ 0 [(0, .int p0)] []
  refine j_iload_n C dJ1_canEncode_9a6ad_0 rfl 0 rfl 1 rfl ?_
  refine j_if_lt C dJ1_canEncode_9a6ad_1 15 (by decide) 4 rfl (fun c => ?_) (fun c => ?_)
  · have h := it_t c h
    refine j_iconst C dJ1_canEncode_9a6ad_15 (0 : Int32) (by decide) 16 rfl ?_
    exact j_zret C F dJ1_canEncode_9a6ad_16 (by decide) h
  · have h := it_f c h
    refine j_iload_n C dJ1_canEncode_9a6ad_4 rfl 0 rfl 5 rfl ?_
    refine j_sipush C dJ1_canEncode_9a6ad_5 (255 : Int32) (by decide) 8 rfl ?_
    refine j_icmp_gt C dJ1_canEncode_9a6ad_8 15 (by decide) 11 rfl (fun c => ?_) (fun c => ?_)
    · have h := it_t c h
      refine j_iconst C dJ1_canEncode_9a6ad_15 (0 : Int32) (by decide) 16 rfl ?_
      exact j_zret C F dJ1_canEncode_9a6ad_16 (by decide) h
    · have h := it_f c h
      refine j_iconst C dJ1_canEncode_9a6ad_11 (1 : Int32) (by decide) 12 rfl ?_
      refine j_goto C dJ1_canEncode_9a6ad_12 16 (by decide) ?_
      exact j_zret C F dJ1_canEncode_9a6ad_16 (by decide) h

-- ===== java/lang/StringLatin1.indexOfChar([BIII)I
theorem vk_J1_indexOfChar_4cfef : SK yJ1_indexOfChar_4cfef cJ1_indexOfChar_4cfef 6 (some .int) 4 := ⟨kw3_210, kw3_209, kw1_17, by decide +kernel⟩
def J1_indexOfChar_4cfef_7 (K : Mem → Option (Mem × Int32)) : Nat → Mem → Int32 → Int32 → Int32 → Option (Mem × Int32)
  | 0, _, _, _, _ => none
  | fu + 1, σ, v3, v4, v5 => (if v3 ≤ v5 then K σ else (if inA v5 10 then (if (ltr v5.toNatClampNeg) = v4 then some (σ, v5) else J1_indexOfChar_4cfef_7 K fu σ v3 v4 (v5 + (1 : Int32))) else none))
set_option maxHeartbeats 4000000 in
set_option maxRecDepth 100000 in
theorem w_J1_indexOfChar_4cfef_7 {E : Ev} {G : Gw} (C : Cx E G RJ1 cJ1_indexOfChar_4cfef 6 { frames := 0, cells := 0, slots := 0, locals := 0 }) {out : Mem × Int32} (F : Ef E G out.1 (some (.int out.2)) (some .int) 0 0)  {K : Mem → Option (Mem × Int32)} (hK : ∀ (σ : Mem) , K σ  = some out → J E G 6 0 0 σ 31 [] []) : ∀ (fu : Nat) (σ : Mem) (v3 : Int32) (v4 : Int32) (v5 : Int32), J1_indexOfChar_4cfef_7 K fu σ v3 v4 v5 = some out → J E G 6 0 0 σ 7 [(0, .ref (gA G 93)), (3, .int v3), (4, .int v4), (5, .int v5)] [] := by
  intro fu
  induction fu with
  | zero => intro σ v3 v4 v5 h; rw [J1_indexOfChar_4cfef_7] at h; cases h
  | succ fu ih =>
    intro σ v3 v4 v5 h
    rw [J1_indexOfChar_4cfef_7] at h
    refine j_iload C dJ1_indexOfChar_4cfef_7 3 rfl 9 rfl ?_
    refine j_iload_n C dJ1_indexOfChar_4cfef_9 rfl 1 rfl 10 rfl ?_
    refine j_icmp_ge C dJ1_indexOfChar_4cfef_10 31 (by decide) 13 rfl (fun c => ?_) (fun c => ?_)
    · have h := it_t c h
      refine j_sub [] [] rfl ?_
      exact hK _ h
    · have h := it_f c h
      refine j_aload_n C dJ1_indexOfChar_4cfef_13 rfl 0 rfl 14 rfl ?_
      refine j_iload C dJ1_indexOfChar_4cfef_14 3 rfl 16 rfl ?_
      obtain ⟨hc, h⟩ := if_some h
      refine j_baldS C hc dJ1_indexOfChar_4cfef_16 v5.toNatClampNeg rfl 17 rfl ?_
      refine j_iload C dJ1_indexOfChar_4cfef_17 2 rfl 19 rfl ?_
      refine j_icmp_ne C dJ1_indexOfChar_4cfef_19 25 (by decide) 22 rfl (fun c => ?_) (fun c => ?_)
      · have h := it_f c h
        refine j_iinc C dJ1_indexOfChar_4cfef_25 3 rfl (v5 + (1 : Int32)) rfl (by decide) [(5, .int (v5 + (1 : Int32))), (0, .ref (gA G 93)), (3, .int v3), (4, .int v4)] rfl 28 rfl ?_
        refine j_goto C dJ1_indexOfChar_4cfef_28 7 (by decide) ?_
        refine j_sub [(0, .ref (gA G 93)), (3, .int v3), (4, .int v4), (5, .int (v5 + (1 : Int32)))] [1, 2, 3, 0] rfl ?_
        exact ih _ _ _ _ h
      · have h := it_t c h
        refine j_iload C dJ1_indexOfChar_4cfef_22 3 rfl 24 rfl ?_
        exact j_iret C F dJ1_indexOfChar_4cfef_24 h
def J1_indexOfChar_4cfef (σ : Mem) (p1 : Int32) (p2 : Int32) (p3 : Int32) : Option (Mem × Int32) :=
  J1_indexOfChar_4cfef_7 (fun (σ : Mem)  => some (σ, (-1 : Int32))) FU σ p3 p1.toInt8.toInt32 p2
set_option maxHeartbeats 4000000 in
set_option maxRecDepth 100000 in
theorem ct_J1_indexOfChar_4cfef (l : Launch) (G : Gw)  {σ : Mem} {p1 : Int32} {p2 : Int32} {p3 : Int32} {out : Mem × Int32} (h : J1_indexOfChar_4cfef σ p1 p2 p3 = some out) : Ct l G yJ1_indexOfChar_4cfef cJ1_indexOfChar_4cfef 6 (some .int) { frames := 0, cells := 0, slots := 0, locals := 0 } [.ref (gA G 93), .int p1, .int p2, .int p3] σ out.1 (some (.int out.2)) := by
  refine Ct.of (by decide +kernel) (Nat.le_of_ble_eq_true rfl) (fun E hE C F => ?_)
  subst hE
  have C : Cx E G RJ1 cJ1_indexOfChar_4cfef 6 { frames := 0, cells := 0, slots := 0, locals := 0 } := C
  unfold J1_indexOfChar_4cfef at h
  show J E G 6 0 0 σ 0 [(0, .ref (gA G 93)), (1, .int p1), (2, .int p2), (3, .int p3)] []
  refine j_iload_n C dJ1_indexOfChar_4cfef_0 rfl 1 rfl 1 rfl ?_
  refine j_i2b C dJ1_indexOfChar_4cfef_1 2 rfl ?_
  refine j_istore C dJ1_indexOfChar_4cfef_2 (by decide) [(4, .int p1.toInt8.toInt32), (0, .ref (gA G 93)), (1, .int p1), (2, .int p2), (3, .int p3)] rfl 4 rfl ?_
  refine j_iload_n C dJ1_indexOfChar_4cfef_4 rfl 3 rfl 5 rfl ?_
  refine j_istore C dJ1_indexOfChar_4cfef_5 (by decide) [(5, .int p2), (4, .int p1.toInt8.toInt32), (0, .ref (gA G 93)), (1, .int p1), (2, .int p2), (3, .int p3)] rfl 7 rfl ?_
  refine j_sub [(0, .ref (gA G 93)), (3, .int p3), (4, .int p1.toInt8.toInt32), (5, .int p2)] [2, 5, 1, 0] rfl ?_
  refine w_J1_indexOfChar_4cfef_7 C F  (fun σ  h => ?_) FU _ _ _ _ h
  refine j_iconst C dJ1_indexOfChar_4cfef_31 (-1 : Int32) (by decide) 32 rfl ?_
  exact j_iret C F dJ1_indexOfChar_4cfef_32 h

-- ===== java/lang/StringLatin1.indexOf([BIII)I
theorem vk_J1_indexOf_4cfef : SK yJ1_indexOf_4cfef cJ1_indexOf_4cfef 4 (some .int) 4 := ⟨kw3_202, kw3_201, kw1_17, by decide +kernel⟩
def J1_indexOf_4cfef (σ : Mem) (p1 : Int32) (p2 : Int32) (p3 : Int32) : Option (Mem × Int32) :=
  ((J1_canEncode_9a6ad σ p1).bind fun q1 => (if q1.2 = 0 then some (q1.1, (-1 : Int32)) else (if (if p2 < (0 : Int32) then (0 : Int32) else p2) < (if (10 : Int32) < p3 then (10 : Int32) else p3) then ((J1_indexOfChar_4cfef q1.1 p1 (if p2 < (0 : Int32) then (0 : Int32) else p2) (if (10 : Int32) < p3 then (10 : Int32) else p3)).bind fun q3 => some (q3.1, q3.2)) else some (q1.1, (-1 : Int32)))))
set_option maxHeartbeats 4000000 in
set_option maxRecDepth 100000 in
theorem ct_J1_indexOf_4cfef (l : Launch) (G : Gw)  {σ : Mem} {p1 : Int32} {p2 : Int32} {p3 : Int32} {out : Mem × Int32} (h : J1_indexOf_4cfef σ p1 p2 p3 = some out) : Ct l G yJ1_indexOf_4cfef cJ1_indexOf_4cfef 4 (some .int) { frames := 1, cells := 0, slots := 0, locals := 25 } [.ref (gA G 93), .int p1, .int p2, .int p3] σ out.1 (some (.int out.2)) := by
  refine Ct.of (by decide +kernel) (Nat.le_of_ble_eq_true rfl) (fun E hE C F => ?_)
  subst hE
  have C : Cx E G RJ1 cJ1_indexOf_4cfef 4 { frames := 1, cells := 0, slots := 0, locals := 25 } := C
  unfold J1_indexOf_4cfef at h
  show J E G 4 0 0 σ 0 [(0, .ref (gA G 93)), (1, .int p1), (2, .int p2), (3, .int p3)] []
  refine j_iload_n C dJ1_indexOf_4cfef_0 rfl 1 rfl 1 rfl ?_
  obtain ⟨q1, e2, h⟩ := ob_some h
  refine j_callS C (ct_J1_canEncode_9a6ad (eL E) G  e2) vk_J1_canEncode_9a6ad kw3_203 rfl ⟨Nat.le_of_ble_eq_true rfl, Nat.le_of_ble_eq_true rfl, rfl, rfl⟩ ⟨Nat.zero_le _, Nat.zero_le _⟩ (rest := []) rfl (Nat.le_of_ble_eq_true rfl) dJ1_indexOf_4cfef_1 (st1 := [.int q1.2]) rfl 4 rfl ?_
  refine j_if_ne C dJ1_indexOf_4cfef_4 9 (by decide) 7 rfl (fun c => ?_) (fun c => ?_)
  · have h := it_f c h
    refine j_iload_n C dJ1_indexOf_4cfef_9 rfl 2 rfl 10 rfl ?_
    refine j_iconst C dJ1_indexOf_4cfef_10 (0 : Int32) (by decide) 11 rfl ?_
    refine j_max C kw1_44 kw3_206 kw1_43 kw1_4 ⟨by decide, by decide⟩ ⟨Nat.zero_le _, Nat.zero_le _⟩ (Nat.le_of_ble_eq_true rfl) dJ1_indexOf_4cfef_11 14 rfl ?_
    refine j_istore_n C dJ1_indexOf_4cfef_14 rfl (by decide) [(2, .int (if p2 < (0 : Int32) then (0 : Int32) else p2)), (0, .ref (gA G 93)), (1, .int p1), (3, .int p3)] rfl 15 rfl ?_
    refine j_iload_n C dJ1_indexOf_4cfef_15 rfl 3 rfl 16 rfl ?_
    refine j_aload_n C dJ1_indexOf_4cfef_16 rfl 1 rfl 17 rfl ?_
    refine j_alenS C dJ1_indexOf_4cfef_17 18 rfl ?_
    refine j_min C kw2_139 kw3_207 kw2_138 kw1_4 ⟨by decide, by decide⟩ ⟨Nat.zero_le _, Nat.zero_le _⟩ (Nat.le_of_ble_eq_true rfl) dJ1_indexOf_4cfef_18 21 rfl ?_
    refine j_istore_n C dJ1_indexOf_4cfef_21 rfl (by decide) [(3, .int (if (10 : Int32) < p3 then (10 : Int32) else p3)), (2, .int (if p2 < (0 : Int32) then (0 : Int32) else p2)), (0, .ref (gA G 93)), (1, .int p1)] rfl 22 rfl ?_
    refine j_iload_n C dJ1_indexOf_4cfef_22 rfl 1 rfl 23 rfl ?_
    refine j_iload_n C dJ1_indexOf_4cfef_23 rfl 0 rfl 24 rfl ?_
    refine j_icmp_lt C dJ1_indexOf_4cfef_24 29 (by decide) 27 rfl (fun c => ?_) (fun c => ?_)
    · have h := it_t c h
      refine j_aload_n C dJ1_indexOf_4cfef_29 rfl 2 rfl 30 rfl ?_
      refine j_iload_n C dJ1_indexOf_4cfef_30 rfl 3 rfl 31 rfl ?_
      refine j_iload_n C dJ1_indexOf_4cfef_31 rfl 1 rfl 32 rfl ?_
      refine j_iload_n C dJ1_indexOf_4cfef_32 rfl 0 rfl 33 rfl ?_
      obtain ⟨q3, e4, h⟩ := ob_some h
      refine j_callS C (ct_J1_indexOfChar_4cfef (eL E) G  e4) vk_J1_indexOfChar_4cfef kw3_208 rfl ⟨Nat.le_of_ble_eq_true rfl, Nat.le_of_ble_eq_true rfl, rfl, rfl⟩ ⟨Nat.zero_le _, Nat.zero_le _⟩ (rest := []) rfl (Nat.le_of_ble_eq_true rfl) dJ1_indexOf_4cfef_33 (st1 := [.int q3.2]) rfl 36 rfl ?_
      exact j_iret C F dJ1_indexOf_4cfef_36 h
    · have h := it_f c h
      refine j_iconst C dJ1_indexOf_4cfef_27 (-1 : Int32) (by decide) 28 rfl ?_
      exact j_iret C F dJ1_indexOf_4cfef_28 h
  · have h := it_t c h
    refine j_iconst C dJ1_indexOf_4cfef_7 (-1 : Int32) (by decide) 8 rfl ?_
    exact j_iret C F dJ1_indexOf_4cfef_8 h

-- ===== java/lang/String.indexOf(II)I
theorem vk_J0_indexOf_7cf53 : VK yJ0_indexOf_7cf53 cJ0_indexOf_7cf53 3 (some .int) 2 := ⟨kw3_185, kw3_183, kw3_184, kw1_16, by decide +kernel⟩
def J0_indexOf_7cf53 (σ : Mem) (p1 : Int32) (p2 : Int32) : Option (Mem × Int32) :=
  ((J0_isLatin1_aae02 σ).bind fun q1 => (if q1.2 = 0 then ((J0_length_8abf5 q1.1).bind fun q3 => none) else ((J0_length_8abf5 q1.1).bind fun q5 => ((J1_indexOf_4cfef q5.1 p1 p2 q5.2).bind fun q7 => some (q7.1, q7.2)))))
set_option maxHeartbeats 4000000 in
set_option maxRecDepth 100000 in
theorem ct_J0_indexOf_7cf53 (l : Launch) (G : Gw)  {σ : Mem} {p1 : Int32} {p2 : Int32} {out : Mem × Int32} (h : J0_indexOf_7cf53 σ p1 p2 = some out) : Ct l G yJ0_indexOf_7cf53 cJ0_indexOf_7cf53 3 (some .int) { frames := 2, cells := 0, slots := 0, locals := 48 } [.ref (gA G 92), .int p1, .int p2] σ out.1 (some (.int out.2)) := by
  refine Ct.of (by decide +kernel) (Nat.le_of_ble_eq_true rfl) (fun E hE C F => ?_)
  subst hE
  have C : Cx E G RJ0 cJ0_indexOf_7cf53 3 { frames := 2, cells := 0, slots := 0, locals := 48 } := C
  unfold J0_indexOf_7cf53 at h
  show J E G 3 0 0 σ 0 [(0, .ref (gA G 92)), (1, .int p1), (2, .int p2)] []
  refine j_aload_n C dJ0_indexOf_7cf53_0 rfl 0 rfl 1 rfl ?_
  obtain ⟨q1, e2, h⟩ := ob_some h
  refine j_callVS C (ct_J0_isLatin1_aae02 (eL E) G  e2) rfl vk_J0_isLatin1_aae02 kw3_186 rfl ⟨Nat.le_of_ble_eq_true rfl, Nat.le_of_ble_eq_true rfl, rfl, rfl⟩ ⟨Nat.zero_le _, Nat.zero_le _⟩ (rest := []) rfl (Nat.le_of_ble_eq_true rfl) dJ0_indexOf_7cf53_1 (st1 := [.int q1.2]) rfl 4 rfl ?_
  refine j_if_eq C dJ0_indexOf_7cf53_4 23 (by decide) 7 rfl (fun c => ?_) (fun c => ?_)
  · have h := it_t c h
    refine j_aload_n C dJ0_indexOf_7cf53_23 rfl 0 rfl 24 rfl ?_
    refine j_strV C kw4_99 dJ0_indexOf_7cf53_24 27 rfl ?_
    refine j_iload_n C dJ0_indexOf_7cf53_27 rfl 1 rfl 28 rfl ?_
    refine j_iload_n C dJ0_indexOf_7cf53_28 rfl 2 rfl 29 rfl ?_
    refine j_aload_n C dJ0_indexOf_7cf53_29 rfl 0 rfl 30 rfl ?_
    obtain ⟨q3, e4, h⟩ := ob_some h
    refine j_callVS C (ct_J0_length_8abf5 (eL E) G  e4) rfl vk_J0_length_8abf5 kw3_192 rfl ⟨Nat.le_of_ble_eq_true rfl, Nat.le_of_ble_eq_true rfl, rfl, rfl⟩ ⟨Nat.zero_le _, Nat.zero_le _⟩ (rest := [.int p2, .int p1, .ref (gA G 93)]) rfl (Nat.le_of_ble_eq_true rfl) dJ0_indexOf_7cf53_30 (st1 := [.int q3.2, .int p2, .int p1, .ref (gA G 93)]) rfl 33 rfl ?_
    cases h
  · have h := it_f c h
    refine j_aload_n C dJ0_indexOf_7cf53_7 rfl 0 rfl 8 rfl ?_
    refine j_strV C kw4_99 dJ0_indexOf_7cf53_8 11 rfl ?_
    refine j_iload_n C dJ0_indexOf_7cf53_11 rfl 1 rfl 12 rfl ?_
    refine j_iload_n C dJ0_indexOf_7cf53_12 rfl 2 rfl 13 rfl ?_
    refine j_aload_n C dJ0_indexOf_7cf53_13 rfl 0 rfl 14 rfl ?_
    obtain ⟨q5, e6, h⟩ := ob_some h
    refine j_callVS C (ct_J0_length_8abf5 (eL E) G  e6) rfl vk_J0_length_8abf5 kw3_192 rfl ⟨Nat.le_of_ble_eq_true rfl, Nat.le_of_ble_eq_true rfl, rfl, rfl⟩ ⟨Nat.zero_le _, Nat.zero_le _⟩ (rest := [.int p2, .int p1, .ref (gA G 93)]) rfl (Nat.le_of_ble_eq_true rfl) dJ0_indexOf_7cf53_14 (st1 := [.int q5.2, .int p2, .int p1, .ref (gA G 93)]) rfl 17 rfl ?_
    obtain ⟨q7, e8, h⟩ := ob_some h
    refine j_callS C (ct_J1_indexOf_4cfef (eL E) G  e8) vk_J1_indexOf_4cfef kw3_200 rfl ⟨Nat.le_of_ble_eq_true rfl, Nat.le_of_ble_eq_true rfl, rfl, rfl⟩ ⟨Nat.zero_le _, Nat.zero_le _⟩ (rest := []) rfl (Nat.le_of_ble_eq_true rfl) dJ0_indexOf_7cf53_17 (st1 := [.int q7.2]) rfl 20 rfl ?_
    refine j_goto C dJ0_indexOf_7cf53_20 36 (by decide) ?_
    exact j_iret C F dJ0_indexOf_7cf53_36 h

-- ===== java/lang/String.indexOf(I)I
theorem vk_J0_indexOf_0f7a4 : VK yJ0_indexOf_0f7a4 cJ0_indexOf_0f7a4 2 (some .int) 1 := ⟨kw3_181, kw3_179, kw3_180, kw1_16, by decide +kernel⟩
def J0_indexOf_0f7a4 (σ : Mem) (p1 : Int32) : Option (Mem × Int32) :=
  ((J0_indexOf_7cf53 σ p1 (0 : Int32)).bind fun q1 => some (q1.1, q1.2))
set_option maxHeartbeats 4000000 in
set_option maxRecDepth 100000 in
theorem ct_J0_indexOf_0f7a4 (l : Launch) (G : Gw)  {σ : Mem} {p1 : Int32} {out : Mem × Int32} (h : J0_indexOf_0f7a4 σ p1 = some out) : Ct l G yJ0_indexOf_0f7a4 cJ0_indexOf_0f7a4 2 (some .int) { frames := 3, cells := 0, slots := 0, locals := 70 } [.ref (gA G 92), .int p1] σ out.1 (some (.int out.2)) := by
  refine Ct.of (by decide +kernel) (Nat.le_of_ble_eq_true rfl) (fun E hE C F => ?_)
  subst hE
  have C : Cx E G RJ0 cJ0_indexOf_0f7a4 2 { frames := 3, cells := 0, slots := 0, locals := 70 } := C
  unfold J0_indexOf_0f7a4 at h
  show J E G 2 0 0 σ 0 [(0, .ref (gA G 92)), (1, .int p1)] []
  refine j_aload_n C dJ0_indexOf_0f7a4_0 rfl 0 rfl 1 rfl ?_
  refine j_iload_n C dJ0_indexOf_0f7a4_1 rfl 1 rfl 2 rfl ?_
  refine j_iconst C dJ0_indexOf_0f7a4_2 (0 : Int32) (by decide) 3 rfl ?_
  obtain ⟨q1, e2, h⟩ := ob_some h
  refine j_callVS C (ct_J0_indexOf_7cf53 (eL E) G  e2) rfl vk_J0_indexOf_7cf53 kw3_182 rfl ⟨Nat.le_of_ble_eq_true rfl, Nat.le_of_ble_eq_true rfl, rfl, rfl⟩ ⟨Nat.zero_le _, Nat.zero_le _⟩ (rest := []) rfl (Nat.le_of_ble_eq_true rfl) dJ0_indexOf_0f7a4_3 (st1 := [.int q1.2]) rfl 6 rfl ?_
  exact j_iret C F dJ0_indexOf_0f7a4_6 h

-- ===== StenoChords$InputText.standBehind(II)I
theorem vk_X1_standBehind : SK yX1_standBehind cX1_standBehind 3 (some .int) 2 := ⟨kw3_176, kw3_175, kw1_7, by decide +kernel⟩
def X1_standBehind (σ : Mem) (p0 : Int32) (p1 : Int32) : Option (Mem × Int32) :=
  (if p1 = (47 : Int32) then (if p0 = (-1 : Int32) then some (σ, (-2 : Int32)) else some (σ, (-1 : Int32))) else (if p1 = (42 : Int32) then (if p0 = (-1 : Int32) then some (σ, (10 : Int32)) else some (σ, (-2 : Int32))) else ((J0_indexOf_0f7a4 σ ((p1.toUInt32 % 65536).toInt32)).bind fun q1 => (if q1.2 ≤ p0 then some (q1.1, (-2 : Int32)) else some (q1.1, q1.2)))))
set_option maxHeartbeats 4000000 in
set_option maxRecDepth 100000 in
theorem ct_X1_standBehind (l : Launch) (G : Gw)  {σ : Mem} {p0 : Int32} {p1 : Int32} {out : Mem × Int32} (h : X1_standBehind σ p0 p1 = some out) : Ct l G yX1_standBehind cX1_standBehind 3 (some .int) { frames := 4, cells := 0, slots := 0, locals := 91 } [.int p0, .int p1] σ out.1 (some (.int out.2)) := by
  refine Ct.of (by decide +kernel) (Nat.le_of_ble_eq_true rfl) (fun E hE C F => ?_)
  subst hE
  have C : Cx E G RX1 cX1_standBehind 3 { frames := 4, cells := 0, slots := 0, locals := 91 } := C
  unfold X1_standBehind at h
  show J E G 3 0 0 σ 0 [(0, .int p0), (1, .int p1)] []
  refine j_iload_n C dX1_standBehind_0 rfl 1 rfl 1 rfl ?_
  refine j_bipush C dX1_standBehind_1 (47 : Int32) (by decide) 3 rfl ?_
  refine j_icmp_ne C dX1_standBehind_3 18 (by decide) 6 rfl (fun c => ?_) (fun c => ?_)
  · have h := it_f c h
    refine j_iload_n C dX1_standBehind_18 rfl 1 rfl 19 rfl ?_
    refine j_bipush C dX1_standBehind_19 (42 : Int32) (by decide) 21 rfl ?_
    refine j_icmp_ne C dX1_standBehind_21 37 (by decide) 24 rfl (fun c => ?_) (fun c => ?_)
    · have h := it_f c h
      refine j_ldcS C dX1_standBehind_37 39 rfl ?_
      refine j_iload_n C dX1_standBehind_39 rfl 1 rfl 40 rfl ?_
      refine j_i2c C dX1_standBehind_40 41 rfl ?_
      obtain ⟨q1, e2, h⟩ := ob_some h
      refine j_callVS C (ct_J0_indexOf_0f7a4 (eL E) G  e2) rfl vk_J0_indexOf_0f7a4 kw3_178 rfl ⟨Nat.le_of_ble_eq_true rfl, Nat.le_of_ble_eq_true rfl, rfl, rfl⟩ ⟨Nat.zero_le _, Nat.zero_le _⟩ (rest := []) rfl (Nat.le_of_ble_eq_true rfl) dX1_standBehind_41 (st1 := [.int q1.2]) rfl 44 rfl ?_
      refine j_istore_n C dX1_standBehind_44 rfl (by decide) [(2, .int q1.2), (0, .int p0), (1, .int p1)] rfl 45 rfl ?_
      refine j_iload_n C dX1_standBehind_45 rfl 0 rfl 46 rfl ?_
      refine j_iload_n C dX1_standBehind_46 rfl 1 rfl 47 rfl ?_
      refine j_icmp_le C dX1_standBehind_47 54 (by decide) 50 rfl (fun c => ?_) (fun c => ?_)
      · have h := it_t c h
        refine j_bipush C dX1_standBehind_54 (-2 : Int32) (by decide) 56 rfl ?_
        exact j_iret C F dX1_standBehind_56 h
      · have h := it_f c h
        refine j_iload_n C dX1_standBehind_50 rfl 0 rfl 51 rfl ?_
        refine j_goto C dX1_standBehind_51 56 (by decide) ?_
        exact j_iret C F dX1_standBehind_56 h
    · have h := it_t c h
      refine j_iload_n C dX1_standBehind_24 rfl 0 rfl 25 rfl ?_
      refine j_iconst C dX1_standBehind_25 (-1 : Int32) (by decide) 26 rfl ?_
      refine j_icmp_ne C dX1_standBehind_26 34 (by decide) 29 rfl (fun c => ?_) (fun c => ?_)
      · have h := it_f c h
        refine j_bipush C dX1_standBehind_34 (-2 : Int32) (by decide) 36 rfl ?_
        exact j_iret C F dX1_standBehind_36 h
      · have h := it_t c h
        refine j_bipush C dX1_standBehind_29 (10 : Int32) (by decide) 31 rfl ?_
        refine j_goto C dX1_standBehind_31 36 (by decide) ?_
        exact j_iret C F dX1_standBehind_36 h
  · have h := it_t c h
    refine j_iload_n C dX1_standBehind_6 rfl 0 rfl 7 rfl ?_
    refine j_iconst C dX1_standBehind_7 (-1 : Int32) (by decide) 8 rfl ?_
    refine j_icmp_ne C dX1_standBehind_8 16 (by decide) 11 rfl (fun c => ?_) (fun c => ?_)
    · have h := it_f c h
      refine j_iconst C dX1_standBehind_16 (-1 : Int32) (by decide) 17 rfl ?_
      exact j_iret C F dX1_standBehind_17 h
    · have h := it_t c h
      refine j_bipush C dX1_standBehind_11 (-2 : Int32) (by decide) 13 rfl ?_
      refine j_goto C dX1_standBehind_13 17 (by decide) ?_
      exact j_iret C F dX1_standBehind_17 h

-- ===== StenoChords$InputText.tellStrokes(LStenoChords$Row;)Z
theorem vk_X1_tellStrokes : VK yX1_tellStrokes cX1_tellStrokes 5 (some .boolean) 1 := ⟨kw3_172, kw3_170, kw3_171, kw1_7, by decide +kernel⟩
def X1_tellStrokes_12 (j : Nat) (K : Mem → Int32 → Int32 → Option (Mem × Int32)) : Nat → Mem → Int32 → Int32 → Int32 → Option (Mem × Int32)
  | 0, _, _, _, _ => none
  | fu + 1, σ, v2, v3, v4 => ((X3_length 59 σ).bind fun q3 => (if q3.2 ≤ v4 then K q3.1 v2 v3 else ((X3_at 59 q3.1 v4).bind fun q5 => ((X1_standBehind q5.1 v2 q5.2).bind fun q7 => (if q7.2 = (-2 : Int32) then some (q7.1, (0 : Int32)) else (if q7.2 = (-1 : Int32) then ((X3_put j q7.1 v3).bind fun q9 => X1_tellStrokes_12 j K fu q9.1 q7.2 (0 : Int32) (v4 + (1 : Int32))) else (if q7.2 = (10 : Int32) then X1_tellStrokes_12 j K fu q7.1 q7.2 v3 (v4 + (1 : Int32)) else X1_tellStrokes_12 j K fu q7.1 q7.2 (v3 ||| ((1 : Int32) <<< (q7.2 &&& 31))) (v4 + (1 : Int32)))))))))
set_option maxHeartbeats 4000000 in
set_option maxRecDepth 100000 in
theorem w_X1_tellStrokes_12 {E : Ev} {G : Gw} (C : Cx E G RX1 cX1_tellStrokes 5 { frames := 5, cells := 0, slots := 0, locals := 113 }) {out : Mem × Int32} (F : Ef E G out.1 (some (.int out.2)) (some .boolean) 0 0) {j : Nat} (oj : RowOk j) {K : Mem → Int32 → Int32 → Option (Mem × Int32)} (hK : ∀ (σ : Mem) (v2 : Int32) (v3 : Int32), K σ v2 v3 = some out → J E G 5 0 0 σ 79 [(1, .ref (gA G j)), (2, .int v2), (3, .int v3)] []) : ∀ (fu : Nat) (σ : Mem) (v2 : Int32) (v3 : Int32) (v4 : Int32), X1_tellStrokes_12 j K fu σ v2 v3 v4 = some out → J E G 5 0 0 σ 12 [(0, .ref (gA G 58)), (1, .ref (gA G j)), (2, .int v2), (3, .int v3), (4, .int v4)] [] := by
  intro fu
  induction fu with
  | zero => intro σ v2 v3 v4 h; rw [X1_tellStrokes_12] at h; cases h
  | succ fu ih =>
    intro σ v2 v3 v4 h
    rw [X1_tellStrokes_12] at h
    refine j_iload C dX1_tellStrokes_12 4 rfl 14 rfl ?_
    refine j_aload_n C dX1_tellStrokes_14 rfl 0 rfl 15 rfl ?_
    refine j_get C foX1 sh58 0 (by decide) 61 rfl kw1_135 rfl dX1_tellStrokes_15 (.ref (gA G 59)) (fv_r rfl) 18 rfl ?_
    obtain ⟨q3, e4, h⟩ := ob_some h
    refine j_callV C (ct_X3_length (eL E) G row59 e4) sh59 foX3 rfl vk_X3_length kw3_140 rfl ⟨Nat.le_of_ble_eq_true rfl, Nat.le_of_ble_eq_true rfl, rfl, rfl⟩ ⟨Nat.zero_le _, Nat.zero_le _⟩ (rest := [.int v4]) rfl (Nat.le_of_ble_eq_true rfl) dX1_tellStrokes_18 (st1 := [.int q3.2, .int v4]) rfl 21 rfl ?_
    refine j_icmp_ge C dX1_tellStrokes_21 79 (by decide) 24 rfl (fun c => ?_) (fun c => ?_)
    · have h := it_t c h
      refine j_sub [(1, .ref (gA G j)), (2, .int v2), (3, .int v3)] [1, 2, 3] rfl ?_
      exact hK _ _ _ h
    · have h := it_f c h
      refine j_iload_n C dX1_tellStrokes_24 rfl 2 rfl 25 rfl ?_
      refine j_aload_n C dX1_tellStrokes_25 rfl 0 rfl 26 rfl ?_
      refine j_get C foX1 sh58 0 (by decide) 61 rfl kw1_135 rfl dX1_tellStrokes_26 (.ref (gA G 59)) (fv_r rfl) 29 rfl ?_
      refine j_iload C dX1_tellStrokes_29 4 rfl 31 rfl ?_
      obtain ⟨q5, e6, h⟩ := ob_some h
      refine j_callV C (ct_X3_at (eL E) G row59 e6) sh59 foX3 rfl vk_X3_at kw3_173 rfl ⟨Nat.le_of_ble_eq_true rfl, Nat.le_of_ble_eq_true rfl, rfl, rfl⟩ ⟨Nat.zero_le _, Nat.zero_le _⟩ (rest := [.int v2]) rfl (Nat.le_of_ble_eq_true rfl) dX1_tellStrokes_31 (st1 := [.int q5.2, .int v2]) rfl 34 rfl ?_
      obtain ⟨q7, e8, h⟩ := ob_some h
      refine j_callS C (ct_X1_standBehind (eL E) G  e8) vk_X1_standBehind kw3_174 rfl ⟨Nat.le_of_ble_eq_true rfl, Nat.le_of_ble_eq_true rfl, rfl, rfl⟩ ⟨Nat.zero_le _, Nat.zero_le _⟩ (rest := []) rfl (Nat.le_of_ble_eq_true rfl) dX1_tellStrokes_34 (st1 := [.int q7.2]) rfl 37 rfl ?_
      refine j_istore_n C dX1_tellStrokes_37 rfl (by decide) [(2, .int q7.2), (0, .ref (gA G 58)), (1, .ref (gA G j)), (3, .int v3), (4, .int v4)] rfl 38 rfl ?_
      refine j_iload_n C dX1_tellStrokes_38 rfl 0 rfl 39 rfl ?_
      refine j_bipush C dX1_tellStrokes_39 (-2 : Int32) (by decide) 41 rfl ?_
      refine j_icmp_ne C dX1_tellStrokes_41 46 (by decide) 44 rfl (fun c => ?_) (fun c => ?_)
      · have h := it_f c h
        refine j_iload_n C dX1_tellStrokes_46 rfl 0 rfl 47 rfl ?_
        refine j_iconst C dX1_tellStrokes_47 (-1 : Int32) (by decide) 48 rfl ?_
        refine j_icmp_ne C dX1_tellStrokes_48 61 (by decide) 51 rfl (fun c => ?_) (fun c => ?_)
        · have h := it_f c h
          refine j_iload_n C dX1_tellStrokes_61 rfl 0 rfl 62 rfl ?_
          refine j_bipush C dX1_tellStrokes_62 (10 : Int32) (by decide) 64 rfl ?_
          refine j_icmp_eq C dX1_tellStrokes_64 73 (by decide) 67 rfl (fun c => ?_) (fun c => ?_)
          · have h := it_t c h
            refine j_iinc C dX1_tellStrokes_73 4 rfl (v4 + (1 : Int32)) rfl (by decide) [(4, .int (v4 + (1 : Int32))), (2, .int q7.2), (0, .ref (gA G 58)), (1, .ref (gA G j)), (3, .int v3)] rfl 76 rfl ?_
            refine j_goto C dX1_tellStrokes_76 12 (by decide) ?_
            refine j_sub [(0, .ref (gA G 58)), (1, .ref (gA G j)), (2, .int q7.2), (3, .int v3), (4, .int (v4 + (1 : Int32)))] [2, 3, 1, 4, 0] rfl ?_
            exact ih _ _ _ _ h
          · have h := it_f c h
            refine j_iload_n C dX1_tellStrokes_67 rfl 3 rfl 68 rfl ?_
            refine j_iconst C dX1_tellStrokes_68 (1 : Int32) (by decide) 69 rfl ?_
            refine j_iload_n C dX1_tellStrokes_69 rfl 0 rfl 70 rfl ?_
            refine j_ishl C dX1_tellStrokes_70 71 rfl ?_
            refine j_ior C dX1_tellStrokes_71 72 rfl ?_
            refine j_istore_n C dX1_tellStrokes_72 rfl (by decide) [(3, .int (v3 ||| ((1 : Int32) <<< (q7.2 &&& 31)))), (2, .int q7.2), (0, .ref (gA G 58)), (1, .ref (gA G j)), (4, .int v4)] rfl 73 rfl ?_
            refine j_iinc C dX1_tellStrokes_73 4 rfl (v4 + (1 : Int32)) rfl (by decide) [(4, .int (v4 + (1 : Int32))), (3, .int (v3 ||| ((1 : Int32) <<< (q7.2 &&& 31)))), (2, .int q7.2), (0, .ref (gA G 58)), (1, .ref (gA G j))] rfl 76 rfl ?_
            refine j_goto C dX1_tellStrokes_76 12 (by decide) ?_
            refine j_sub [(0, .ref (gA G 58)), (1, .ref (gA G j)), (2, .int q7.2), (3, .int (v3 ||| ((1 : Int32) <<< (q7.2 &&& 31)))), (4, .int (v4 + (1 : Int32)))] [3, 4, 2, 1, 0] rfl ?_
            exact ih _ _ _ _ h
        · have h := it_t c h
          refine j_aload_n C dX1_tellStrokes_51 rfl 2 rfl 52 rfl ?_
          refine j_iload_n C dX1_tellStrokes_52 rfl 3 rfl 53 rfl ?_
          obtain ⟨q9, e10, h⟩ := ob_some h
          refine j_callV C (ct_X3_put (eL E) G oj e10) oj.1 foX3 rfl vk_X3_put kw3_164 rfl ⟨Nat.le_of_ble_eq_true rfl, Nat.le_of_ble_eq_true rfl, rfl, rfl⟩ ⟨Nat.zero_le _, Nat.zero_le _⟩ (rest := []) rfl (Nat.le_of_ble_eq_true rfl) dX1_tellStrokes_53 (st1 := []) rfl 56 rfl ?_
          refine j_iconst C dX1_tellStrokes_56 (0 : Int32) (by decide) 57 rfl ?_
          refine j_istore_n C dX1_tellStrokes_57 rfl (by decide) [(3, .int (0 : Int32)), (2, .int q7.2), (0, .ref (gA G 58)), (1, .ref (gA G j)), (4, .int v4)] rfl 58 rfl ?_
          refine j_goto C dX1_tellStrokes_58 73 (by decide) ?_
          refine j_iinc C dX1_tellStrokes_73 4 rfl (v4 + (1 : Int32)) rfl (by decide) [(4, .int (v4 + (1 : Int32))), (3, .int (0 : Int32)), (2, .int q7.2), (0, .ref (gA G 58)), (1, .ref (gA G j))] rfl 76 rfl ?_
          refine j_goto C dX1_tellStrokes_76 12 (by decide) ?_
          refine j_sub [(0, .ref (gA G 58)), (1, .ref (gA G j)), (2, .int q7.2), (3, .int (0 : Int32)), (4, .int (v4 + (1 : Int32)))] [3, 4, 2, 1, 0] rfl ?_
          exact ih _ _ _ _ h
      · have h := it_t c h
        refine j_iconst C dX1_tellStrokes_44 (0 : Int32) (by decide) 45 rfl ?_
        exact j_zret C F dX1_tellStrokes_45 (by decide) h
def X1_tellStrokes (j : Nat) (σ : Mem) : Option (Mem × Int32) :=
  ((X3_shorten j σ (0 : Int32)).bind fun q1 => X1_tellStrokes_12 j (fun (σ : Mem) (v2 : Int32) (v3 : Int32) => ((X3_put j σ v3).bind fun q11 => (if v2 = (-1 : Int32) then some (q11.1, (0 : Int32)) else some (q11.1, (1 : Int32))))) FU q1.1 (-1 : Int32) (0 : Int32) (0 : Int32))
set_option maxHeartbeats 4000000 in
set_option maxRecDepth 100000 in
theorem ct_X1_tellStrokes (l : Launch) (G : Gw) {j : Nat} (oj : RowOk j) {σ : Mem} {out : Mem × Int32} (h : X1_tellStrokes j σ = some out) : Ct l G yX1_tellStrokes cX1_tellStrokes 5 (some .boolean) { frames := 5, cells := 0, slots := 0, locals := 113 } [.ref (gA G 58), .ref (gA G j)] σ out.1 (some (.int out.2)) := by
  refine Ct.of (by decide +kernel) (Nat.le_of_ble_eq_true rfl) (fun E hE C F => ?_)
  subst hE
  have C : Cx E G RX1 cX1_tellStrokes 5 { frames := 5, cells := 0, slots := 0, locals := 113 } := C
  unfold X1_tellStrokes at h
  show J E G 5 0 0 σ 0 [(0, .ref (gA G 58)), (1, .ref (gA G j))] []
  refine j_aload_n C dX1_tellStrokes_0 rfl 1 rfl 1 rfl ?_
  refine j_iconst C dX1_tellStrokes_1 (0 : Int32) (by decide) 2 rfl ?_
  obtain ⟨q1, e2, h⟩ := ob_some h
  refine j_callV C (ct_X3_shorten (eL E) G oj e2) oj.1 foX3 rfl vk_X3_shorten kw3_145 rfl ⟨Nat.le_of_ble_eq_true rfl, Nat.le_of_ble_eq_true rfl, rfl, rfl⟩ ⟨Nat.zero_le _, Nat.zero_le _⟩ (rest := []) rfl (Nat.le_of_ble_eq_true rfl) dX1_tellStrokes_2 (st1 := []) rfl 5 rfl ?_
  refine j_iconst C dX1_tellStrokes_5 (-1 : Int32) (by decide) 6 rfl ?_
  refine j_istore_n C dX1_tellStrokes_6 rfl (by decide) [(2, .int (-1 : Int32)), (0, .ref (gA G 58)), (1, .ref (gA G j))] rfl 7 rfl ?_
  refine j_iconst C dX1_tellStrokes_7 (0 : Int32) (by decide) 8 rfl ?_
  refine j_istore_n C dX1_tellStrokes_8 rfl (by decide) [(3, .int (0 : Int32)), (2, .int (-1 : Int32)), (0, .ref (gA G 58)), (1, .ref (gA G j))] rfl 9 rfl ?_
  refine j_iconst C dX1_tellStrokes_9 (0 : Int32) (by decide) 10 rfl ?_
  refine j_istore C dX1_tellStrokes_10 (by decide) [(4, .int (0 : Int32)), (3, .int (0 : Int32)), (2, .int (-1 : Int32)), (0, .ref (gA G 58)), (1, .ref (gA G j))] rfl 12 rfl ?_
  refine j_sub [(0, .ref (gA G 58)), (1, .ref (gA G j)), (2, .int (-1 : Int32)), (3, .int (0 : Int32)), (4, .int (0 : Int32))] [3, 4, 2, 1, 0] rfl ?_
  refine w_X1_tellStrokes_12 C F oj (fun σ v2 v3 h => ?_) FU _ _ _ _ h
  refine j_aload_n C dX1_tellStrokes_79 rfl 0 rfl 80 rfl ?_
  refine j_iload_n C dX1_tellStrokes_80 rfl 2 rfl 81 rfl ?_
  obtain ⟨q11, e12, h⟩ := ob_some h
  refine j_callV C (ct_X3_put (eL E) G oj e12) oj.1 foX3 rfl vk_X3_put kw3_164 rfl ⟨Nat.le_of_ble_eq_true rfl, Nat.le_of_ble_eq_true rfl, rfl, rfl⟩ ⟨Nat.zero_le _, Nat.zero_le _⟩ (rest := []) rfl (Nat.le_of_ble_eq_true rfl) dX1_tellStrokes_81 (st1 := []) rfl 84 rfl ?_
  refine j_iload_n C dX1_tellStrokes_84 rfl 1 rfl 85 rfl ?_
  refine j_iconst C dX1_tellStrokes_85 (-1 : Int32) (by decide) 86 rfl ?_
  refine j_icmp_eq C dX1_tellStrokes_86 93 (by decide) 89 rfl (fun c => ?_) (fun c => ?_)
  · have h := it_t c h
    refine j_iconst C dX1_tellStrokes_93 (0 : Int32) (by decide) 94 rfl ?_
    exact j_zret C F dX1_tellStrokes_94 (by decide) h
  · have h := it_f c h
    refine j_iconst C dX1_tellStrokes_89 (1 : Int32) (by decide) 90 rfl ?_
    refine j_goto C dX1_tellStrokes_90 94 (by decide) ?_
    exact j_zret C F dX1_tellStrokes_94 (by decide) h
