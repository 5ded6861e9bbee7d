-- ===== StenoChords$Reading.size()I
theorem vk_X2_size : VK yX2_size cX2_size 1 (some .int) 0 := ⟨kw2_121, kw2_119, kw2_120, kw1_8, by decide +kernel⟩
def X2_size (i : Nat) (σ : Mem) : Option (Mem × Int32) :=
  ((X3_length (i + 1) σ).bind fun q1 => some (q1.1, q1.2))
set_option maxHeartbeats 4000000 in
set_option maxRecDepth 100000 in
theorem ct_X2_size (l : Launch) (G : Gw) {i : Nat} (o : RdOk i) {σ : Mem} {out : Mem × Int32} (h : X2_size i σ = some out) : Ct l G yX2_size cX2_size 1 (some .int) { frames := 1, cells := 0, slots := 0, locals := 20 } [.ref (gA G i)] σ out.1 (some (.int out.2)) := by
  refine Ct.of (by decide +kernel) (Nat.le_of_ble_eq_true rfl) (fun E hE C F => ?_)
  subst hE
  have C : Cx E G RX2 cX2_size 1 { frames := 1, cells := 0, slots := 0, locals := 20 } := C
  unfold X2_size at h
  show J E G 1 0 0 σ 0 [(0, .ref (gA G i))] []
  refine j_aload_n C dX2_size_0 rfl 0 rfl 1 rfl ?_
  refine j_get C foX2 o.1 0 (by decide) (i + 3) rfl kw1_147 rfl dX2_size_1 (.ref (gA G (i + 1))) (fv_r rfl) 4 rfl ?_
  obtain ⟨q1, e2, h⟩ := ob_some h
  refine j_callV C (ct_X3_length (eL E) G o.2.1 e2) o.2.1.1 foX3 rfl vk_X3_length kw2_122 rfl ⟨Nat.le_of_ble_eq_true rfl, Nat.le_of_ble_eq_true rfl, rfl, rfl⟩ ⟨Nat.zero_le _, Nat.zero_le _⟩ (rest := []) rfl (Nat.le_of_ble_eq_true rfl) dX2_size_4 (st1 := [.int q1.2]) rfl 7 rfl ?_
  exact j_iret C F dX2_size_7 h

-- ===== StenoChords$Reading.has(I)Z
theorem vk_X2_has : VK yX2_has cX2_has 2 (some .boolean) 1 := ⟨kw3_16, kw3_14, kw3_15, kw1_8, by decide +kernel⟩
def X2_has (i : Nat) (σ : Mem) (p1 : Int32) : Option (Mem × Int32) :=
  ((X3_has (i + 1) σ p1).bind fun q1 => (if q1.2 &&& 1 = q1.2 then some (q1.1, q1.2) else none))
set_option maxHeartbeats 4000000 in
set_option maxRecDepth 100000 in
theorem ct_X2_has (l : Launch) (G : Gw) {i : Nat} (o : RdOk i) {σ : Mem} {p1 : Int32} {out : Mem × Int32} (h : X2_has i σ p1 = some out) : Ct l G yX2_has cX2_has 2 (some .boolean) { frames := 1, cells := 0, slots := 0, locals := 21 } [.ref (gA G i), .int p1] σ out.1 (some (.int out.2)) := by
  refine Ct.of (by decide +kernel) (Nat.le_of_ble_eq_true rfl) (fun E hE C F => ?_)
  subst hE
  have C : Cx E G RX2 cX2_has 2 { frames := 1, cells := 0, slots := 0, locals := 21 } := C
  unfold X2_has at h
  show J E G 2 0 0 σ 0 [(0, .ref (gA G i)), (1, .int p1)] []
  refine j_aload_n C dX2_has_0 rfl 0 rfl 1 rfl ?_
  refine j_get C foX2 o.1 0 (by decide) (i + 3) rfl kw1_147 rfl dX2_has_1 (.ref (gA G (i + 1))) (fv_r rfl) 4 rfl ?_
  refine j_iload_n C dX2_has_4 rfl 1 rfl 5 rfl ?_
  obtain ⟨q1, e2, h⟩ := ob_some h
  refine j_callV C (ct_X3_has (eL E) G o.2.1 e2) o.2.1.1 foX3 rfl vk_X3_has kw3_17 rfl ⟨Nat.le_of_ble_eq_true rfl, Nat.le_of_ble_eq_true rfl, rfl, rfl⟩ ⟨Nat.zero_le _, Nat.zero_le _⟩ (rest := []) rfl (Nat.le_of_ble_eq_true rfl) dX2_has_5 (st1 := [.int q1.2]) rfl 8 rfl ?_
  obtain ⟨hb, h⟩ := if_some h
  exact j_zret C F dX2_has_8 hb h

-- ===== StenoChords$Reading.placeAt(I)I
theorem vk_X2_placeAt : VK yX2_placeAt cX2_placeAt 2 (some .int) 1 := ⟨kw3_31, kw3_29, kw3_30, kw1_8, by decide +kernel⟩
def X2_placeAt (i : Nat) (σ : Mem) (p1 : Int32) : Option (Mem × Int32) :=
  ((X3_at (i + 1) σ p1).bind fun q1 => some (q1.1, q1.2))
set_option maxHeartbeats 4000000 in
set_option maxRecDepth 100000 in
theorem ct_X2_placeAt (l : Launch) (G : Gw) {i : Nat} (o : RdOk i) {σ : Mem} {p1 : Int32} {out : Mem × Int32} (h : X2_placeAt i σ p1 = some out) : Ct l G yX2_placeAt cX2_placeAt 2 (some .int) { frames := 2, cells := 0, slots := 0, locals := 42 } [.ref (gA G i), .int p1] σ out.1 (some (.int out.2)) := by
  refine Ct.of (by decide +kernel) (Nat.le_of_ble_eq_true rfl) (fun E hE C F => ?_)
  subst hE
  have C : Cx E G RX2 cX2_placeAt 2 { frames := 2, cells := 0, slots := 0, locals := 42 } := C
  unfold X2_placeAt at h
  show J E G 2 0 0 σ 0 [(0, .ref (gA G i)), (1, .int p1)] []
  refine j_aload_n C dX2_placeAt_0 rfl 0 rfl 1 rfl ?_
  refine j_get C foX2 o.1 0 (by decide) (i + 3) rfl kw1_147 rfl dX2_placeAt_1 (.ref (gA G (i + 1))) (fv_r rfl) 4 rfl ?_
  refine j_iload_n C dX2_placeAt_4 rfl 1 rfl 5 rfl ?_
  obtain ⟨q1, e2, h⟩ := ob_some h
  refine j_callV C (ct_X3_at (eL E) G o.2.1 e2) o.2.1.1 foX3 rfl vk_X3_at kw2_123 rfl ⟨Nat.le_of_ble_eq_true rfl, Nat.le_of_ble_eq_true rfl, rfl, rfl⟩ ⟨Nat.zero_le _, Nat.zero_le _⟩ (rest := []) rfl (Nat.le_of_ble_eq_true rfl) dX2_placeAt_5 (st1 := [.int q1.2]) rfl 8 rfl ?_
  exact j_iret C F dX2_placeAt_8 h

-- ===== StenoChords$Reading.lengthAt(I)I
theorem vk_X2_lengthAt : VK yX2_lengthAt cX2_lengthAt 2 (some .int) 1 := ⟨kw3_35, kw3_33, kw3_34, kw1_8, by decide +kernel⟩
def X2_lengthAt (i : Nat) (σ : Mem) (p1 : Int32) : Option (Mem × Int32) :=
  ((X3_at (i + 3) σ p1).bind fun q1 => some (q1.1, q1.2))
set_option maxHeartbeats 4000000 in
set_option maxRecDepth 100000 in
theorem ct_X2_lengthAt (l : Launch) (G : Gw) {i : Nat} (o : RdOk i) {σ : Mem} {p1 : Int32} {out : Mem × Int32} (h : X2_lengthAt i σ p1 = some out) : Ct l G yX2_lengthAt cX2_lengthAt 2 (some .int) { frames := 2, cells := 0, slots := 0, locals := 42 } [.ref (gA G i), .int p1] σ out.1 (some (.int out.2)) := by
  refine Ct.of (by decide +kernel) (Nat.le_of_ble_eq_true rfl) (fun E hE C F => ?_)
  subst hE
  have C : Cx E G RX2 cX2_lengthAt 2 { frames := 2, cells := 0, slots := 0, locals := 42 } := C
  unfold X2_lengthAt at h
  show J E G 2 0 0 σ 0 [(0, .ref (gA G i)), (1, .int p1)] []
  refine j_aload_n C dX2_lengthAt_0 rfl 0 rfl 1 rfl ?_
  refine j_get C foX2 o.1 1 (by decide) (i + 5) rfl kw1_148 rfl dX2_lengthAt_1 (.ref (gA G (i + 3))) (fv_r rfl) 4 rfl ?_
  refine j_iload_n C dX2_lengthAt_4 rfl 1 rfl 5 rfl ?_
  obtain ⟨q1, e2, h⟩ := ob_some h
  refine j_callV C (ct_X3_at (eL E) G o.2.2.1 e2) o.2.2.1.1 foX3 rfl vk_X3_at kw2_123 rfl ⟨Nat.le_of_ble_eq_true rfl, Nat.le_of_ble_eq_true rfl, rfl, rfl⟩ ⟨Nat.zero_le _, Nat.zero_le _⟩ (rest := []) rfl (Nat.le_of_ble_eq_true rfl) dX2_lengthAt_5 (st1 := [.int q1.2]) rfl 8 rfl ?_
  exact j_iret C F dX2_lengthAt_8 h

-- ===== StenoChords$Reading.leaderAt(I)I
theorem vk_X2_leaderAt : VK yX2_leaderAt cX2_leaderAt 2 (some .int) 1 := ⟨kw3_27, kw3_25, kw3_26, kw1_8, by decide +kernel⟩
def X2_leaderAt (i : Nat) (σ : Mem) (p1 : Int32) : Option (Mem × Int32) :=
  ((X3_at (i + 5) σ p1).bind fun q1 => some (q1.1, q1.2))
set_option maxHeartbeats 4000000 in
set_option maxRecDepth 100000 in
theorem ct_X2_leaderAt (l : Launch) (G : Gw) {i : Nat} (o : RdOk i) {σ : Mem} {p1 : Int32} {out : Mem × Int32} (h : X2_leaderAt i σ p1 = some out) : Ct l G yX2_leaderAt cX2_leaderAt 2 (some .int) { frames := 2, cells := 0, slots := 0, locals := 42 } [.ref (gA G i), .int p1] σ out.1 (some (.int out.2)) := by
  refine Ct.of (by decide +kernel) (Nat.le_of_ble_eq_true rfl) (fun E hE C F => ?_)
  subst hE
  have C : Cx E G RX2 cX2_leaderAt 2 { frames := 2, cells := 0, slots := 0, locals := 42 } := C
  unfold X2_leaderAt at h
  show J E G 2 0 0 σ 0 [(0, .ref (gA G i)), (1, .int p1)] []
  refine j_aload_n C dX2_leaderAt_0 rfl 0 rfl 1 rfl ?_
  refine j_get C foX2 o.1 2 (by decide) (i + 7) rfl kw1_149 rfl dX2_leaderAt_1 (.ref (gA G (i + 5))) (fv_r rfl) 4 rfl ?_
  refine j_iload_n C dX2_leaderAt_4 rfl 1 rfl 5 rfl ?_
  obtain ⟨q1, e2, h⟩ := ob_some h
  refine j_callV C (ct_X3_at (eL E) G o.2.2.2 e2) o.2.2.2.1 foX3 rfl vk_X3_at kw2_123 rfl ⟨Nat.le_of_ble_eq_true rfl, Nat.le_of_ble_eq_true rfl, rfl, rfl⟩ ⟨Nat.zero_le _, Nat.zero_le _⟩ (rest := []) rfl (Nat.le_of_ble_eq_true rfl) dX2_leaderAt_5 (st1 := [.int q1.2]) rfl 8 rfl ?_
  exact j_iret C F dX2_leaderAt_8 h

-- ===== StenoChords$Reading.itemsOf(I)I
theorem vk_X2_itemsOf : VK yX2_itemsOf cX2_itemsOf 4 (some .int) 1 := ⟨kw2_171, kw2_169, kw2_170, kw1_8, by decide +kernel⟩
def X2_itemsOf_4 (i : Nat) (K : Mem → Int32 → Option (Mem × Int32)) : Nat → Mem → Int32 → Int32 → Int32 → Option (Mem × Int32)
  | 0, _, _, _, _ => none
  | fu + 1, σ, v1, v2, v3 => ((X3_length (i + 5) σ).bind fun q1 => (if q1.2 ≤ v3 then K q1.1 v2 else ((X3_at (i + 5) q1.1 v3).bind fun q3 => (if q3.2 = v1 then X2_itemsOf_4 i K fu q3.1 v1 (v2 + (1 : Int32)) (v3 + (1 : Int32)) else X2_itemsOf_4 i K fu q3.1 v1 v2 (v3 + (1 : Int32))))))
set_option maxHeartbeats 4000000 in
set_option maxRecDepth 100000 in
theorem w_X2_itemsOf_4 {E : Ev} {G : Gw} (C : Cx E G RX2 cX2_itemsOf 4 { frames := 2, cells := 0, slots := 0, locals := 42 }) {out : Mem × Int32} (F : Ef E G out.1 (some (.int out.2)) (some .int) 0 0) {i : Nat} (o : RdOk i) {K : Mem → Int32 → Option (Mem × Int32)} (hK : ∀ (σ : Mem) (v2 : Int32), K σ v2 = some out → J E G 4 0 0 σ 36 [(2, .int v2)] []) : ∀ (fu : Nat) (σ : Mem) (v1 : Int32) (v2 : Int32) (v3 : Int32), X2_itemsOf_4 i K fu σ v1 v2 v3 = some out → J E G 4 0 0 σ 4 [(0, .ref (gA G i)), (1, .int v1), (2, .int v2), (3, .int v3)] [] := by
  intro fu
  induction fu with
  | zero => intro σ v1 v2 v3 h; rw [X2_itemsOf_4] at h; cases h
  | succ fu ih =>
    intro σ v1 v2 v3 h
    rw [X2_itemsOf_4] at h
    refine j_iload_n C dX2_itemsOf_4 rfl 3 rfl 5 rfl ?_
    refine j_aload_n C dX2_itemsOf_5 rfl 0 rfl 6 rfl ?_
    refine j_get C foX2 o.1 2 (by decide) (i + 7) rfl kw1_149 rfl dX2_itemsOf_6 (.ref (gA G (i + 5))) (fv_r rfl) 9 rfl ?_
    obtain ⟨q1, e2, h⟩ := ob_some h
    refine j_callV C (ct_X3_length (eL E) G o.2.2.2 e2) o.2.2.2.1 foX3 rfl vk_X3_length kw2_122 rfl ⟨Nat.le_of_ble_eq_true rfl, Nat.le_of_ble_eq_true rfl, rfl, rfl⟩ ⟨Nat.zero_le _, Nat.zero_le _⟩ (rest := [.int v3]) rfl (Nat.le_of_ble_eq_true rfl) dX2_itemsOf_9 (st1 := [.int q1.2, .int v3]) rfl 12 rfl ?_
    refine j_icmp_ge C dX2_itemsOf_12 36 (by decide) 15 rfl (fun c => ?_) (fun c => ?_)
    · have h := it_t c h
      refine j_sub [(2, .int v2)] [2] rfl ?_
      exact hK _ _ h
    · have h := it_f c h
      refine j_aload_n C dX2_itemsOf_15 rfl 0 rfl 16 rfl ?_
      refine j_get C foX2 o.1 2 (by decide) (i + 7) rfl kw1_149 rfl dX2_itemsOf_16 (.ref (gA G (i + 5))) (fv_r rfl) 19 rfl ?_
      refine j_iload_n C dX2_itemsOf_19 rfl 3 rfl 20 rfl ?_
      obtain ⟨q3, e4, h⟩ := ob_some h
      refine j_callV C (ct_X3_at (eL E) G o.2.2.2 e4) o.2.2.2.1 foX3 rfl vk_X3_at kw2_123 rfl ⟨Nat.le_of_ble_eq_true rfl, Nat.le_of_ble_eq_true rfl, rfl, rfl⟩ ⟨Nat.zero_le _, Nat.zero_le _⟩ (rest := []) rfl (Nat.le_of_ble_eq_true rfl) dX2_itemsOf_20 (st1 := [.int q3.2]) rfl 23 rfl ?_
      refine j_iload_n C dX2_itemsOf_23 rfl 1 rfl 24 rfl ?_
      refine j_icmp_ne C dX2_itemsOf_24 30 (by decide) 27 rfl (fun c => ?_) (fun c => ?_)
      · have h := it_f c h
        refine j_iinc C dX2_itemsOf_30 3 rfl (v3 + (1 : Int32)) rfl (by decide) [(3, .int (v3 + (1 : Int32))), (0, .ref (gA G i)), (1, .int v1), (2, .int v2)] rfl 33 rfl ?_
        refine j_goto C dX2_itemsOf_33 4 (by decide) ?_
        refine j_sub [(0, .ref (gA G i)), (1, .int v1), (2, .int v2), (3, .int (v3 + (1 : Int32)))] [1, 2, 3, 0] rfl ?_
        exact ih _ _ _ _ h
      · have h := it_t c h
        refine j_iinc C dX2_itemsOf_27 2 rfl (v2 + (1 : Int32)) rfl (by decide) [(2, .int (v2 + (1 : Int32))), (0, .ref (gA G i)), (1, .int v1), (3, .int v3)] rfl 30 rfl ?_
        refine j_iinc C dX2_itemsOf_30 3 rfl (v3 + (1 : Int32)) rfl (by decide) [(3, .int (v3 + (1 : Int32))), (2, .int (v2 + (1 : Int32))), (0, .ref (gA G i)), (1, .int v1)] rfl 33 rfl ?_
        refine j_goto C dX2_itemsOf_33 4 (by decide) ?_
        refine j_sub [(0, .ref (gA G i)), (1, .int v1), (2, .int (v2 + (1 : Int32))), (3, .int (v3 + (1 : Int32)))] [2, 3, 1, 0] rfl ?_
        exact ih _ _ _ _ h
def X2_itemsOf (i : Nat) (σ : Mem) (p1 : Int32) : Option (Mem × Int32) :=
  X2_itemsOf_4 i (fun (σ : Mem) (v2 : Int32) => some (σ, v2)) FU σ p1 (0 : Int32) (0 : Int32)
set_option maxHeartbeats 4000000 in
set_option maxRecDepth 100000 in
theorem ct_X2_itemsOf (l : Launch) (G : Gw) {i : Nat} (o : RdOk i) {σ : Mem} {p1 : Int32} {out : Mem × Int32} (h : X2_itemsOf i σ p1 = some out) : Ct l G yX2_itemsOf cX2_itemsOf 4 (some .int) { frames := 2, cells := 0, slots := 0, locals := 42 } [.ref (gA G i), .int p1] σ out.1 (some (.int out.2)) := by
  refine Ct.of (by decide +kernel) (Nat.le_of_ble_eq_true rfl) (fun E hE C F => ?_)
  subst hE
  have C : Cx E G RX2 cX2_itemsOf 4 { frames := 2, cells := 0, slots := 0, locals := 42 } := C
  unfold X2_itemsOf at h
  show J E G 4 0 0 σ 0 [(0, .ref (gA G i)), (1, .int p1)] []
  refine j_iconst C dX2_itemsOf_0 (0 : Int32) (by decide) 1 rfl ?_
  refine j_istore_n C dX2_itemsOf_1 rfl (by decide) [(2, .int (0 : Int32)), (0, .ref (gA G i)), (1, .int p1)] rfl 2 rfl ?_
  refine j_iconst C dX2_itemsOf_2 (0 : Int32) (by decide) 3 rfl ?_
  refine j_istore_n C dX2_itemsOf_3 rfl (by decide) [(3, .int (0 : Int32)), (2, .int (0 : Int32)), (0, .ref (gA G i)), (1, .int p1)] rfl 4 rfl ?_
  refine j_sub [(0, .ref (gA G i)), (1, .int p1), (2, .int (0 : Int32)), (3, .int (0 : Int32))] [2, 3, 1, 0] rfl ?_
  refine w_X2_itemsOf_4 C F o (fun σ v2 h => ?_) FU _ _ _ _ h
  refine j_iload_n C dX2_itemsOf_36 rfl 0 rfl 37 rfl ?_
  exact j_iret C F dX2_itemsOf_37 h

-- ===== StenoChords$Reading.dropFrom(I)V
theorem vk_X2_dropFrom : VK yX2_dropFrom cX2_dropFrom 3 none 1 := ⟨kw2_117, kw2_115, kw2_116, kw1_8, by decide +kernel⟩
def X2_dropFrom_7 (i : Nat) (K : Mem → Option (Mem × Unit)) : Nat → Mem → Int32 → Int32 → Option (Mem × Unit)
  | 0, _, _, _ => none
  | fu + 1, σ, v1, v2 => (if v2 < 0 then K σ else ((X3_at (i + 1) σ v2).bind fun q3 => (if q3.2 < v1 then K q3.1 else ((X3_shorten (i + 1) q3.1 v2).bind fun q5 => ((X3_shorten (i + 3) q5.1 v2).bind fun q7 => ((X3_shorten (i + 5) q7.1 v2).bind fun q9 => X2_dropFrom_7 i K fu q9.1 v1 (v2 + (-1 : Int32))))))))
set_option maxHeartbeats 4000000 in
set_option maxRecDepth 100000 in
theorem w_X2_dropFrom_7 {E : Ev} {G : Gw} (C : Cx E G RX2 cX2_dropFrom 3 { frames := 2, cells := 0, slots := 0, locals := 42 }) {out : Mem × Unit} (F : Ef E G out.1 (none) none 0 0) {i : Nat} (o : RdOk i) {K : Mem → Option (Mem × Unit)} (hK : ∀ (σ : Mem) , K σ  = some out → J E G 3 0 0 σ 53 [] []) : ∀ (fu : Nat) (σ : Mem) (v1 : Int32) (v2 : Int32), X2_dropFrom_7 i K fu σ v1 v2 = some out → J E G 3 0 0 σ 7 [(0, .ref (gA G i)), (1, .int v1), (2, .int v2)] [] := by
  intro fu
  induction fu with
  | zero => intro σ v1 v2 h; rw [X2_dropFrom_7] at h; cases h
  | succ fu ih =>
    intro σ v1 v2 h
    rw [X2_dropFrom_7] at h
    refine j_iload_n C dX2_dropFrom_7 rfl 2 rfl 8 rfl ?_
    refine j_if_lt C dX2_dropFrom_8 53 (by decide) 11 rfl (fun c => ?_) (fun c => ?_)
    · have h := it_t c h
      refine j_sub [] [] rfl ?_
      exact hK _ h
    · have h := it_f c h
      refine j_aload_n C dX2_dropFrom_11 rfl 0 rfl 12 rfl ?_
      refine j_get C foX2 o.1 0 (by decide) (i + 3) rfl kw1_147 rfl dX2_dropFrom_12 (.ref (gA G (i + 1))) (fv_r rfl) 15 rfl ?_
      refine j_iload_n C dX2_dropFrom_15 rfl 2 rfl 16 rfl ?_
      obtain ⟨q3, e4, h⟩ := ob_some h
      refine j_callV C (ct_X3_at (eL E) G o.2.1 e4) o.2.1.1 foX3 rfl vk_X3_at kw2_123 rfl ⟨Nat.le_of_ble_eq_true rfl, Nat.le_of_ble_eq_true rfl, rfl, rfl⟩ ⟨Nat.zero_le _, Nat.zero_le _⟩ (rest := []) rfl (Nat.le_of_ble_eq_true rfl) dX2_dropFrom_16 (st1 := [.int q3.2]) rfl 19 rfl ?_
      refine j_iload_n C dX2_dropFrom_19 rfl 1 rfl 20 rfl ?_
      refine j_icmp_lt C dX2_dropFrom_20 53 (by decide) 23 rfl (fun c => ?_) (fun c => ?_)
      · have h := it_t c h
        refine j_sub [] [] rfl ?_
        exact hK _ h
      · have h := it_f c h
        refine j_aload_n C dX2_dropFrom_23 rfl 0 rfl 24 rfl ?_
        refine j_get C foX2 o.1 0 (by decide) (i + 3) rfl kw1_147 rfl dX2_dropFrom_24 (.ref (gA G (i + 1))) (fv_r rfl) 27 rfl ?_
        refine j_iload_n C dX2_dropFrom_27 rfl 2 rfl 28 rfl ?_
        obtain ⟨q5, e6, h⟩ := ob_some h
        refine j_callV C (ct_X3_shorten (eL E) G o.2.1 e6) o.2.1.1 foX3 rfl vk_X3_shorten kw2_124 rfl ⟨Nat.le_of_ble_eq_true rfl, Nat.le_of_ble_eq_true rfl, rfl, rfl⟩ ⟨Nat.zero_le _, Nat.zero_le _⟩ (rest := []) rfl (Nat.le_of_ble_eq_true rfl) dX2_dropFrom_28 (st1 := []) rfl 31 rfl ?_
        refine j_aload_n C dX2_dropFrom_31 rfl 0 rfl 32 rfl ?_
        refine j_get C foX2 o.1 1 (by decide) (i + 5) rfl kw1_148 rfl dX2_dropFrom_32 (.ref (gA G (i + 3))) (fv_r rfl) 35 rfl ?_
        refine j_iload_n C dX2_dropFrom_35 rfl 2 rfl 36 rfl ?_
        obtain ⟨q7, e8, h⟩ := ob_some h
        refine j_callV C (ct_X3_shorten (eL E) G o.2.2.1 e8) o.2.2.1.1 foX3 rfl vk_X3_shorten kw2_124 rfl ⟨Nat.le_of_ble_eq_true rfl, Nat.le_of_ble_eq_true rfl, rfl, rfl⟩ ⟨Nat.zero_le _, Nat.zero_le _⟩ (rest := []) rfl (Nat.le_of_ble_eq_true rfl) dX2_dropFrom_36 (st1 := []) rfl 39 rfl ?_
        refine j_aload_n C dX2_dropFrom_39 rfl 0 rfl 40 rfl ?_
        refine j_get C foX2 o.1 2 (by decide) (i + 7) rfl kw1_149 rfl dX2_dropFrom_40 (.ref (gA G (i + 5))) (fv_r rfl) 43 rfl ?_
        refine j_iload_n C dX2_dropFrom_43 rfl 2 rfl 44 rfl ?_
        obtain ⟨q9, e10, h⟩ := ob_some h
        refine j_callV C (ct_X3_shorten (eL E) G o.2.2.2 e10) o.2.2.2.1 foX3 rfl vk_X3_shorten kw2_124 rfl ⟨Nat.le_of_ble_eq_true rfl, Nat.le_of_ble_eq_true rfl, rfl, rfl⟩ ⟨Nat.zero_le _, Nat.zero_le _⟩ (rest := []) rfl (Nat.le_of_ble_eq_true rfl) dX2_dropFrom_44 (st1 := []) rfl 47 rfl ?_
        refine j_iinc C dX2_dropFrom_47 2 rfl (v2 + (-1 : Int32)) rfl (by decide) [(2, .int (v2 + (-1 : Int32))), (0, .ref (gA G i)), (1, .int v1)] rfl 50 rfl ?_
        refine j_goto C dX2_dropFrom_50 7 (by decide) ?_
        refine j_sub [(0, .ref (gA G i)), (1, .int v1), (2, .int (v2 + (-1 : Int32)))] [1, 2, 0] rfl ?_
        exact ih _ _ _ h
def X2_dropFrom (i : Nat) (σ : Mem) (p1 : Int32) : Option (Mem × Unit) :=
  ((X2_size i σ).bind fun q1 => X2_dropFrom_7 i (fun (σ : Mem)  => some (σ, ())) FU q1.1 p1 (q1.2 - (1 : Int32)))
set_option maxHeartbeats 4000000 in
set_option maxRecDepth 100000 in
theorem ct_X2_dropFrom (l : Launch) (G : Gw) {i : Nat} (o : RdOk i) {σ : Mem} {p1 : Int32} {out : Mem × Unit} (h : X2_dropFrom i σ p1 = some out) : Ct l G yX2_dropFrom cX2_dropFrom 3 none { frames := 2, cells := 0, slots := 0, locals := 42 } [.ref (gA G i), .int p1] σ out.1 (none) := by
  refine Ct.of (by decide +kernel) (Nat.le_of_ble_eq_true rfl) (fun E hE C F => ?_)
  subst hE
  have C : Cx E G RX2 cX2_dropFrom 3 { frames := 2, cells := 0, slots := 0, locals := 42 } := C
  unfold X2_dropFrom at h
  show J E G 3 0 0 σ 0 [(0, .ref (gA G i)), (1, .int p1)] []
  refine j_aload_n C dX2_dropFrom_0 rfl 0 rfl 1 rfl ?_
  obtain ⟨q1, e2, h⟩ := ob_some h
  refine j_callV C (ct_X2_size (eL E) G o e2) o.1 foX2 rfl vk_X2_size kw2_118 rfl ⟨Nat.le_of_ble_eq_true rfl, Nat.le_of_ble_eq_true rfl, rfl, rfl⟩ ⟨Nat.zero_le _, Nat.zero_le _⟩ (rest := []) rfl (Nat.le_of_ble_eq_true rfl) dX2_dropFrom_1 (st1 := [.int q1.2]) rfl 4 rfl ?_
  refine j_iconst C dX2_dropFrom_4 (1 : Int32) (by decide) 5 rfl ?_
  refine j_isub C dX2_dropFrom_5 6 rfl ?_
  refine j_istore_n C dX2_dropFrom_6 rfl (by decide) [(2, .int (q1.2 - (1 : Int32))), (0, .ref (gA G i)), (1, .int p1)] rfl 7 rfl ?_
  refine j_sub [(0, .ref (gA G i)), (1, .int p1), (2, .int (q1.2 - (1 : Int32)))] [1, 2, 0] rfl ?_
  refine w_X2_dropFrom_7 C F o (fun σ  h => ?_) FU _ _ _ h
  exact j_vret C F dX2_dropFrom_53 h

-- ===== StenoChords$Reading.readOn(LStenoChords$Row;LStenoChords$State;)V
theorem vk_X2_readOn : VK yX2_readOn cX2_readOn 7 none 2 := ⟨kw2_131, kw2_129, kw2_130, kw1_8, by decide +kernel⟩
def X2_readOn_38 (i : Nat) (j : Nat) (j2 : Nat) (K : Mem → Option (Mem × Unit)) : Nat → Mem → Int32 → Int32 → Option (Mem × Unit)
  | 0, _, _, _ => none
  | fu + 1, σ, v4, v5 => ((X3_length j σ).bind fun q7 => (if q7.2 ≤ v5 then K q7.1 else (if v5 = v4 then ((X0_longestAt (j2 + 3) j q7.1 v5 (q7.1.1 j2 3)).bind fun q9 => ((X3_put (i + 1) q9.1 v5).bind fun q11 => ((X3_put (i + 3) q11.1 (if (1 : Int32) < q9.2 then q9.2 else (1 : Int32))).bind fun q13 => ((X3_packed j q13.1 v5 (if (1 : Int32) < q9.2 then q9.2 else (1 : Int32))).bind fun q15 => ((X0_leaderOf (j2 + 3) q15.1 q15.2).bind fun q17 => ((X3_put (i + 5) q17.1 q17.2).bind fun q19 => X2_readOn_38 i j j2 K fu q19.1 (v5 + (if (1 : Int32) < q9.2 then q9.2 else (1 : Int32))) (v5 + (1 : Int32)))))))) else X2_readOn_38 i j j2 K fu q7.1 v4 (v5 + (1 : Int32)))))
set_option maxHeartbeats 4000000 in
set_option maxRecDepth 100000 in
theorem w_X2_readOn_38 {E : Ev} {G : Gw} (C : Cx E G RX2 cX2_readOn 7 { frames := 2, cells := 0, slots := 0, locals := 50 }) {out : Mem × Unit} (F : Ef E G out.1 (none) none 0 0) {i : Nat} (o : RdOk i) {j : Nat} (oj : RowOk j) {j2 : Nat} (oj2 : StOk j2) {K : Mem → Option (Mem × Unit)} (hK : ∀ (σ : Mem) , K σ  = some out → J E G 7 0 0 σ 131 [] []) : ∀ (fu : Nat) (σ : Mem) (v4 : Int32) (v5 : Int32), X2_readOn_38 i j j2 K fu σ v4 v5 = some out → J E G 7 0 0 σ 38 [(0, .ref (gA G i)), (1, .ref (gA G j)), (2, .ref (gA G j2)), (4, .int v4), (5, .int v5)] [] := by
  intro fu
  induction fu with
  | zero => intro σ v4 v5 h; rw [X2_readOn_38] at h; cases h
  | succ fu ih =>
    intro σ v4 v5 h
    rw [X2_readOn_38] at h
    refine j_iload C dX2_readOn_38 4 rfl 40 rfl ?_
    refine j_aload_n C dX2_readOn_40 rfl 1 rfl 41 rfl ?_
    obtain ⟨q7, e8, h⟩ := ob_some h
    refine j_callV C (ct_X3_length (eL E) G oj e8) oj.1 foX3 rfl vk_X3_length kw2_122 rfl ⟨Nat.le_of_ble_eq_true rfl, Nat.le_of_ble_eq_true rfl, rfl, rfl⟩ ⟨Nat.zero_le _, Nat.zero_le _⟩ (rest := [.int v5]) rfl (Nat.le_of_ble_eq_true rfl) dX2_readOn_41 (st1 := [.int q7.2, .int v5]) rfl 44 rfl ?_
    refine j_icmp_ge C dX2_readOn_44 131 (by decide) 47 rfl (fun c => ?_) (fun c => ?_)
    · have h := it_t c h
      refine j_sub [] [] rfl ?_
      exact hK _ h
    · have h := it_f c h
      refine j_iload C dX2_readOn_47 4 rfl 49 rfl ?_
      refine j_iload C dX2_readOn_49 3 rfl 51 rfl ?_
      refine j_icmp_ne C dX2_readOn_51 125 (by decide) 54 rfl (fun c => ?_) (fun c => ?_)
      · have h := it_f c h
        refine j_iinc C dX2_readOn_125 4 rfl (v5 + (1 : Int32)) rfl (by decide) [(5, .int (v5 + (1 : Int32))), (0, .ref (gA G i)), (1, .ref (gA G j)), (2, .ref (gA G j2)), (4, .int v4)] rfl 128 rfl ?_
        refine j_goto C dX2_readOn_128 38 (by decide) ?_
        refine j_sub [(0, .ref (gA G i)), (1, .ref (gA G j)), (2, .ref (gA G j2)), (4, .int v4), (5, .int (v5 + (1 : Int32)))] [1, 2, 3, 4, 0] rfl ?_
        exact ih _ _ _ h
      · have h := it_t c h
        refine j_aload_n C dX2_readOn_54 rfl 2 rfl 55 rfl ?_
        refine j_get C foX5 oj2.1 1 (by decide) (j2 + 5) rfl kw1_77 rfl dX2_readOn_55 (.ref (gA G (j2 + 3))) (fv_r rfl) 58 rfl ?_
        refine j_aload_n C dX2_readOn_58 rfl 1 rfl 59 rfl ?_
        refine j_iload C dX2_readOn_59 4 rfl 61 rfl ?_
        refine j_aload_n C dX2_readOn_61 rfl 2 rfl 62 rfl ?_
        refine j_get C foX5 oj2.1 3 (by decide) 0 rfl kw1_82 rfl dX2_readOn_62 (.int (q7.1.1 j2 3)) rfl 65 rfl ?_
        obtain ⟨q9, e10, h⟩ := ob_some h
        refine j_callV C (ct_X0_longestAt (eL E) G oj2.2.2 oj e10) oj2.2.2.1 foX0 rfl vk_X0_longestAt kw2_132 rfl ⟨Nat.le_of_ble_eq_true rfl, Nat.le_of_ble_eq_true rfl, rfl, rfl⟩ ⟨Nat.zero_le _, Nat.zero_le _⟩ (rest := []) rfl (Nat.le_of_ble_eq_true rfl) dX2_readOn_65 (st1 := [.int q9.2]) rfl 68 rfl ?_
        refine j_istore C dX2_readOn_68 (by decide) [(6, .int q9.2), (0, .ref (gA G i)), (1, .ref (gA G j)), (2, .ref (gA G j2)), (4, .int v4), (5, .int v5)] rfl 70 rfl ?_
        refine j_iconst C dX2_readOn_70 (1 : Int32) (by decide) 71 rfl ?_
        refine j_iload C dX2_readOn_71 0 rfl 73 rfl ?_
        refine j_max C kw1_44 kw2_148 kw1_43 kw1_4 ⟨by decide, by decide⟩ ⟨Nat.zero_le _, Nat.zero_le _⟩ (Nat.le_of_ble_eq_true rfl) dX2_readOn_73 76 rfl ?_
        refine j_istore C dX2_readOn_76 (by decide) [(6, .int (if (1 : Int32) < q9.2 then q9.2 else (1 : Int32))), (0, .ref (gA G i)), (1, .ref (gA G j)), (2, .ref (gA G j2)), (4, .int v4), (5, .int v5)] rfl 78 rfl ?_
        refine j_aload_n C dX2_readOn_78 rfl 1 rfl 79 rfl ?_
        refine j_get C foX2 o.1 0 (by decide) (i + 3) rfl kw1_147 rfl dX2_readOn_79 (.ref (gA G (i + 1))) (fv_r rfl) 82 rfl ?_
        refine j_iload C dX2_readOn_82 5 rfl 84 rfl ?_
        obtain ⟨q11, e12, h⟩ := ob_some h
        refine j_callV C (ct_X3_put (eL E) G o.2.1 e12) o.2.1.1 foX3 rfl vk_X3_put kw2_149 rfl ⟨Nat.le_of_ble_eq_true rfl, Nat.le_of_ble_eq_true rfl, rfl, rfl⟩ ⟨Nat.zero_le _, Nat.zero_le _⟩ (rest := []) rfl (Nat.le_of_ble_eq_true rfl) dX2_readOn_84 (st1 := []) rfl 87 rfl ?_
        refine j_aload_n C dX2_readOn_87 rfl 1 rfl 88 rfl ?_
        refine j_get C foX2 o.1 1 (by decide) (i + 5) rfl kw1_148 rfl dX2_readOn_88 (.ref (gA G (i + 3))) (fv_r rfl) 91 rfl ?_
        refine j_iload C dX2_readOn_91 0 rfl 93 rfl ?_
        obtain ⟨q13, e14, h⟩ := ob_some h
        refine j_callV C (ct_X3_put (eL E) G o.2.2.1 e14) o.2.2.1.1 foX3 rfl vk_X3_put kw2_149 rfl ⟨Nat.le_of_ble_eq_true rfl, Nat.le_of_ble_eq_true rfl, rfl, rfl⟩ ⟨Nat.zero_le _, Nat.zero_le _⟩ (rest := []) rfl (Nat.le_of_ble_eq_true rfl) dX2_readOn_93 (st1 := []) rfl 96 rfl ?_
        refine j_aload_n C dX2_readOn_96 rfl 1 rfl 97 rfl ?_
        refine j_get C foX2 o.1 2 (by decide) (i + 7) rfl kw1_149 rfl dX2_readOn_97 (.ref (gA G (i + 5))) (fv_r rfl) 100 rfl ?_
        refine j_aload_n C dX2_readOn_100 rfl 3 rfl 101 rfl ?_
        refine j_get C foX5 oj2.1 1 (by decide) (j2 + 5) rfl kw1_77 rfl dX2_readOn_101 (.ref (gA G (j2 + 3))) (fv_r rfl) 104 rfl ?_
        refine j_aload_n C dX2_readOn_104 rfl 2 rfl 105 rfl ?_
        refine j_iload C dX2_readOn_105 5 rfl 107 rfl ?_
        refine j_iload C dX2_readOn_107 0 rfl 109 rfl ?_
        obtain ⟨q15, e16, h⟩ := ob_some h
        refine j_callV C (ct_X3_packed (eL E) G oj e16) oj.1 foX3 rfl vk_X3_packed kw2_150 rfl ⟨Nat.le_of_ble_eq_true rfl, Nat.le_of_ble_eq_true rfl, rfl, rfl⟩ ⟨Nat.zero_le _, Nat.zero_le _⟩ (rest := [.ref (gA G (j2 + 3)), .ref (gA G (i + 5))]) rfl (Nat.le_of_ble_eq_true rfl) dX2_readOn_109 (st1 := [.long q15.2, .ref (gA G (j2 + 3)), .ref (gA G (i + 5))]) rfl 112 rfl ?_
        obtain ⟨q17, e18, h⟩ := ob_some h
        refine j_callV C (ct_X0_leaderOf (eL E) G oj2.2.2 e18) oj2.2.2.1 foX0 rfl vk_X0_leaderOf kw2_151 rfl ⟨Nat.le_of_ble_eq_true rfl, Nat.le_of_ble_eq_true rfl, rfl, rfl⟩ ⟨Nat.zero_le _, Nat.zero_le _⟩ (rest := [.ref (gA G (i + 5))]) rfl (Nat.le_of_ble_eq_true rfl) dX2_readOn_112 (st1 := [.int q17.2, .ref (gA G (i + 5))]) rfl 115 rfl ?_
        obtain ⟨q19, e20, h⟩ := ob_some h
        refine j_callV C (ct_X3_put (eL E) G o.2.2.2 e20) o.2.2.2.1 foX3 rfl vk_X3_put kw2_149 rfl ⟨Nat.le_of_ble_eq_true rfl, Nat.le_of_ble_eq_true rfl, rfl, rfl⟩ ⟨Nat.zero_le _, Nat.zero_le _⟩ (rest := []) rfl (Nat.le_of_ble_eq_true rfl) dX2_readOn_115 (st1 := []) rfl 118 rfl ?_
        refine j_iload C dX2_readOn_118 5 rfl 120 rfl ?_
        refine j_iload C dX2_readOn_120 0 rfl 122 rfl ?_
        refine j_iadd C dX2_readOn_122 123 rfl ?_
        refine j_istore C dX2_readOn_123 (by decide) [(4, .int (v5 + (if (1 : Int32) < q9.2 then q9.2 else (1 : Int32)))), (6, .int (if (1 : Int32) < q9.2 then q9.2 else (1 : Int32))), (0, .ref (gA G i)), (1, .ref (gA G j)), (2, .ref (gA G j2)), (5, .int v5)] rfl 125 rfl ?_
        refine j_iinc C dX2_readOn_125 5 rfl (v5 + (1 : Int32)) rfl (by decide) [(5, .int (v5 + (1 : Int32))), (4, .int (v5 + (if (1 : Int32) < q9.2 then q9.2 else (1 : Int32)))), (6, .int (if (1 : Int32) < q9.2 then q9.2 else (1 : Int32))), (0, .ref (gA G i)), (1, .ref (gA G j)), (2, .ref (gA G j2))] rfl 128 rfl ?_
        refine j_goto C dX2_readOn_128 38 (by decide) ?_
        refine j_sub [(0, .ref (gA G i)), (1, .ref (gA G j)), (2, .ref (gA G j2)), (4, .int (v5 + (if (1 : Int32) < q9.2 then q9.2 else (1 : Int32)))), (5, .int (v5 + (1 : Int32)))] [3, 4, 5, 1, 0] rfl ?_
        exact ih _ _ _ h
def X2_readOn (i : Nat) (j : Nat) (j2 : Nat) (σ : Mem) : Option (Mem × Unit) :=
  ((X2_size i σ).bind fun q1 => (if 0 ≤ (q1.2 - (1 : Int32)) then ((X3_at (i + 1) q1.1 (q1.2 - (1 : Int32))).bind fun q3 => ((X3_at (i + 3) q3.1 (q1.2 - (1 : Int32))).bind fun q5 => X2_readOn_38 i j j2 (fun (σ : Mem)  => some (σ, ())) FU q5.1 (q3.2 + q5.2) (q3.2 + q5.2))) else X2_readOn_38 i j j2 (fun (σ : Mem)  => some (σ, ())) FU q1.1 (0 : Int32) (0 : Int32)))
set_option maxHeartbeats 4000000 in
set_option maxRecDepth 100000 in
theorem ct_X2_readOn (l : Launch) (G : Gw) {i : Nat} (o : RdOk i) {j : Nat} (oj : RowOk j) {j2 : Nat} (oj2 : StOk j2) {σ : Mem} {out : Mem × Unit} (h : X2_readOn i j j2 σ = some out) : Ct l G yX2_readOn cX2_readOn 7 none { frames := 2, cells := 0, slots := 0, locals := 50 } [.ref (gA G i), .ref (gA G j), .ref (gA G j2)] σ out.1 (none) := by
  refine Ct.of (by decide +kernel) (Nat.le_of_ble_eq_true rfl) (fun E hE C F => ?_)
  subst hE
  have C : Cx E G RX2 cX2_readOn 7 { frames := 2, cells := 0, slots := 0, locals := 50 } := C
  unfold X2_readOn at h
  show J E G 7 0 0 σ 0 [(0, .ref (gA G i)), (1, .ref (gA G j)), (2, .ref (gA G j2))] []
  refine j_aload_n C dX2_readOn_0 rfl 0 rfl 1 rfl ?_
  obtain ⟨q1, e2, h⟩ := ob_some h
  refine j_callV C (ct_X2_size (eL E) G o e2) o.1 foX2 rfl vk_X2_size kw2_118 rfl ⟨Nat.le_of_ble_eq_true rfl, Nat.le_of_ble_eq_true rfl, rfl, rfl⟩ ⟨Nat.zero_le _, Nat.zero_le _⟩ (rest := []) rfl (Nat.le_of_ble_eq_true rfl) dX2_readOn_1 (st1 := [.int q1.2]) rfl 4 rfl ?_
  refine j_iconst C dX2_readOn_4 (1 : Int32) (by decide) 5 rfl ?_
  refine j_isub C dX2_readOn_5 6 rfl ?_
  refine j_istore_n C dX2_readOn_6 rfl (by decide) [(3, .int (q1.2 - (1 : Int32))), (0, .ref (gA G i)), (1, .ref (gA G j)), (2, .ref (gA G j2))] rfl 7 rfl ?_
  refine j_iload_n C dX2_readOn_7 rfl 0 rfl 8 rfl ?_
  refine j_if_ge C dX2_readOn_8 15 (by decide) 11 rfl (fun c => ?_) (fun c => ?_)
  · have h := it_t c h
    refine j_aload_n C dX2_readOn_15 rfl 1 rfl 16 rfl ?_
    refine j_get C foX2 o.1 0 (by decide) (i + 3) rfl kw1_147 rfl dX2_readOn_16 (.ref (gA G (i + 1))) (fv_r rfl) 19 rfl ?_
    refine j_iload_n C dX2_readOn_19 rfl 0 rfl 20 rfl ?_
    obtain ⟨q3, e4, h⟩ := ob_some h
    refine j_callV C (ct_X3_at (eL E) G o.2.1 e4) o.2.1.1 foX3 rfl vk_X3_at kw2_123 rfl ⟨Nat.le_of_ble_eq_true rfl, Nat.le_of_ble_eq_true rfl, rfl, rfl⟩ ⟨Nat.zero_le _, Nat.zero_le _⟩ (rest := []) rfl (Nat.le_of_ble_eq_true rfl) dX2_readOn_20 (st1 := [.int q3.2]) rfl 23 rfl ?_
    refine j_aload_n C dX2_readOn_23 rfl 1 rfl 24 rfl ?_
    refine j_get C foX2 o.1 1 (by decide) (i + 5) rfl kw1_148 rfl dX2_readOn_24 (.ref (gA G (i + 3))) (fv_r rfl) 27 rfl ?_
    refine j_iload_n C dX2_readOn_27 rfl 0 rfl 28 rfl ?_
    obtain ⟨q5, e6, h⟩ := ob_some h
    refine j_callV C (ct_X3_at (eL E) G o.2.2.1 e6) o.2.2.1.1 foX3 rfl vk_X3_at kw2_123 rfl ⟨Nat.le_of_ble_eq_true rfl, Nat.le_of_ble_eq_true rfl, rfl, rfl⟩ ⟨Nat.zero_le _, Nat.zero_le _⟩ (rest := [.int q3.2]) rfl (Nat.le_of_ble_eq_true rfl) dX2_readOn_28 (st1 := [.int q5.2, .int q3.2]) rfl 31 rfl ?_
    refine j_iadd C dX2_readOn_31 32 rfl ?_
    refine j_istore C dX2_readOn_32 (by decide) [(4, .int (q3.2 + q5.2)), (3, .int (q1.2 - (1 : Int32))), (0, .ref (gA G i)), (1, .ref (gA G j)), (2, .ref (gA G j2))] rfl 34 rfl ?_
    refine j_iload C dX2_readOn_34 0 rfl 36 rfl ?_
    refine j_istore C dX2_readOn_36 (by decide) [(5, .int (q3.2 + q5.2)), (4, .int (q3.2 + q5.2)), (3, .int (q1.2 - (1 : Int32))), (0, .ref (gA G i)), (1, .ref (gA G j)), (2, .ref (gA G j2))] rfl 38 rfl ?_
    refine j_sub [(0, .ref (gA G i)), (1, .ref (gA G j)), (2, .ref (gA G j2)), (4, .int (q3.2 + q5.2)), (5, .int (q3.2 + q5.2))] [3, 4, 5, 1, 0] rfl ?_
    refine w_X2_readOn_38 C F o oj oj2 (fun σ  h => ?_) FU _ _ _ h
    exact j_vret C F dX2_readOn_131 h
  · have h := it_f c h
    refine j_iconst C dX2_readOn_11 (0 : Int32) (by decide) 12 rfl ?_
    refine j_goto C dX2_readOn_12 32 (by decide) ?_
    refine j_istore C dX2_readOn_32 (by decide) [(4, .int (0 : Int32)), (3, .int (q1.2 - (1 : Int32))), (0, .ref (gA G i)), (1, .ref (gA G j)), (2, .ref (gA G j2))] rfl 34 rfl ?_
    refine j_iload C dX2_readOn_34 0 rfl 36 rfl ?_
    refine j_istore C dX2_readOn_36 (by decide) [(5, .int (0 : Int32)), (4, .int (0 : Int32)), (3, .int (q1.2 - (1 : Int32))), (0, .ref (gA G i)), (1, .ref (gA G j)), (2, .ref (gA G j2))] rfl 38 rfl ?_
    refine j_sub [(0, .ref (gA G i)), (1, .ref (gA G j)), (2, .ref (gA G j2)), (4, .int (0 : Int32)), (5, .int (0 : Int32))] [3, 4, 5, 1, 0] rfl ?_
    refine w_X2_readOn_38 C F o oj oj2 (fun σ  h => ?_) FU _ _ _ h
    exact j_vret C F dX2_readOn_131 h
