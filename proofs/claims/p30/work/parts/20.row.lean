-- ===== StenoChords$Row.length()I
theorem vk_X3_length : VK yX3_length cX3_length 1 (some .int) 0 := ⟨kw2_1, kw1_239, kw2_0, kw1_3, by decide +kernel⟩
def X3_length (i : Nat) (σ : Mem) : Option (Mem × Int32) :=
  some (σ, (σ.1 i 1))
set_option maxHeartbeats 4000000 in
set_option maxRecDepth 100000 in
theorem ct_X3_length (l : Launch) (G : Gw) {i : Nat} (o : RowOk i) {σ : Mem} {out : Mem × Int32} (h : X3_length i σ = some out) : Ct l G yX3_length cX3_length 1 (some .int) { frames := 0, cells := 0, slots := 0, locals := 0 } [.ref (gA G i)] σ out.1 (some (.int out.2)) := by
  refine Ct.of (by decide +kernel) (Nat.le_of_ble_eq_true rfl) (fun E hE C F => ?_)
  subst hE
  have C : Cx E G RX3 cX3_length 1 { frames := 0, cells := 0, slots := 0, locals := 0 } := C
  unfold X3_length at h
  show J E G 1 0 0 σ 0 [(0, .ref (gA G i))] []
  refine j_aload_n C dX3_length_0 rfl 0 rfl 1 rfl ?_
  refine j_get C foX3 o.1 1 (by decide) 0 rfl kw1_46 rfl dX3_length_1 (.int (σ.1 i 1)) rfl 4 rfl ?_
  exact j_iret C F dX3_length_4 h

-- ===== StenoChords$Row.has(I)Z
theorem vk_X3_has : VK yX3_has cX3_has 2 (some .boolean) 1 := ⟨kw1_209, kw1_207, kw1_208, kw1_3, by decide +kernel⟩
def X3_has (i : Nat) (σ : Mem) (p1 : Int32) : Option (Mem × Int32) :=
  (if p1 < 0 then some (σ, (0 : Int32)) else (if (σ.1 i 1) ≤ p1 then some (σ, (0 : Int32)) else (if (Int32.ofNat (cap i)) ≤ p1 then some (σ, (0 : Int32)) else some (σ, (1 : Int32)))))
set_option maxHeartbeats 4000000 in
set_option maxRecDepth 100000 in
theorem ct_X3_has (l : Launch) (G : Gw) {i : Nat} (o : RowOk i) {σ : Mem} {p1 : Int32} {out : Mem × Int32} (h : X3_has i σ p1 = some out) : Ct l G yX3_has cX3_has 2 (some .boolean) { frames := 0, cells := 0, slots := 0, locals := 0 } [.ref (gA G i), .int p1] σ out.1 (some (.int out.2)) := by
  refine Ct.of (by decide +kernel) (Nat.le_of_ble_eq_true rfl) (fun E hE C F => ?_)
  subst hE
  have C : Cx E G RX3 cX3_has 2 { frames := 0, cells := 0, slots := 0, locals := 0 } := C
  unfold X3_has at h
  show J E G 2 0 0 σ 0 [(0, .ref (gA G i)), (1, .int p1)] []
  refine j_iload_n C dX3_has_0 rfl 1 rfl 1 rfl ?_
  refine j_if_lt C dX3_has_1 25 (by decide) 4 rfl (fun c => ?_) (fun c => ?_)
  · have h := it_t c h
    refine j_iconst C dX3_has_25 (0 : Int32) (by decide) 26 rfl ?_
    exact j_zret C F dX3_has_26 (by decide) h
  · have h := it_f c h
    refine j_iload_n C dX3_has_4 rfl 1 rfl 5 rfl ?_
    refine j_aload_n C dX3_has_5 rfl 0 rfl 6 rfl ?_
    refine j_get C foX3 o.1 1 (by decide) 0 rfl kw1_46 rfl dX3_has_6 (.int (σ.1 i 1)) rfl 9 rfl ?_
    refine j_icmp_ge C dX3_has_9 25 (by decide) 12 rfl (fun c => ?_) (fun c => ?_)
    · have h := it_t c h
      refine j_iconst C dX3_has_25 (0 : Int32) (by decide) 26 rfl ?_
      exact j_zret C F dX3_has_26 (by decide) h
    · have h := it_f c h
      refine j_iload_n C dX3_has_12 rfl 1 rfl 13 rfl ?_
      refine j_aload_n C dX3_has_13 rfl 0 rfl 14 rfl ?_
      refine j_get C foX3 o.1 0 (by decide) (i + 3) rfl kw1_45 rfl dX3_has_14 (.ref (gA G (i + 1))) (fv_r rfl) 17 rfl ?_
      refine j_alen C o.2 dX3_has_17 (Int32.ofNat (cap i)) rfl 18 rfl ?_
      refine j_icmp_ge C dX3_has_18 25 (by decide) 21 rfl (fun c => ?_) (fun c => ?_)
      · have h := it_t c h
        refine j_iconst C dX3_has_25 (0 : Int32) (by decide) 26 rfl ?_
        exact j_zret C F dX3_has_26 (by decide) h
      · have h := it_f c h
        refine j_iconst C dX3_has_21 (1 : Int32) (by decide) 22 rfl ?_
        refine j_goto C dX3_has_22 26 (by decide) ?_
        exact j_zret C F dX3_has_26 (by decide) h

-- ===== StenoChords$Row.isFull()Z
theorem vk_X3_isFull : VK yX3_isFull cX3_isFull 1 (some .boolean) 0 := ⟨kw3_158, kw3_156, kw3_157, kw1_3, by decide +kernel⟩
def X3_isFull (i : Nat) (σ : Mem) : Option (Mem × Int32) :=
  (if (σ.1 i 1) < (Int32.ofNat (cap i)) then some (σ, (0 : Int32)) else some (σ, (1 : Int32)))
set_option maxHeartbeats 4000000 in
set_option maxRecDepth 100000 in
theorem ct_X3_isFull (l : Launch) (G : Gw) {i : Nat} (o : RowOk i) {σ : Mem} {out : Mem × Int32} (h : X3_isFull i σ = some out) : Ct l G yX3_isFull cX3_isFull 1 (some .boolean) { frames := 0, cells := 0, slots := 0, locals := 0 } [.ref (gA G i)] σ out.1 (some (.int out.2)) := by
  refine Ct.of (by decide +kernel) (Nat.le_of_ble_eq_true rfl) (fun E hE C F => ?_)
  subst hE
  have C : Cx E G RX3 cX3_isFull 1 { frames := 0, cells := 0, slots := 0, locals := 0 } := C
  unfold X3_isFull at h
  show J E G 1 0 0 σ 0 [(0, .ref (gA G i))] []
  refine j_aload_n C dX3_isFull_0 rfl 0 rfl 1 rfl ?_
  refine j_get C foX3 o.1 1 (by decide) 0 rfl kw1_46 rfl dX3_isFull_1 (.int (σ.1 i 1)) rfl 4 rfl ?_
  refine j_aload_n C dX3_isFull_4 rfl 0 rfl 5 rfl ?_
  refine j_get C foX3 o.1 0 (by decide) (i + 3) rfl kw1_45 rfl dX3_isFull_5 (.ref (gA G (i + 1))) (fv_r rfl) 8 rfl ?_
  refine j_alen C o.2 dX3_isFull_8 (Int32.ofNat (cap i)) rfl 9 rfl ?_
  refine j_icmp_lt C dX3_isFull_9 16 (by decide) 12 rfl (fun c => ?_) (fun c => ?_)
  · have h := it_t c h
    refine j_iconst C dX3_isFull_16 (0 : Int32) (by decide) 17 rfl ?_
    exact j_zret C F dX3_isFull_17 (by decide) h
  · have h := it_f c h
    refine j_iconst C dX3_isFull_12 (1 : Int32) (by decide) 13 rfl ?_
    refine j_goto C dX3_isFull_13 17 (by decide) ?_
    exact j_zret C F dX3_isFull_17 (by decide) h

-- ===== StenoChords$Row.at(I)I
theorem vk_X3_at : VK yX3_at cX3_at 2 (some .int) 1 := ⟨kw1_205, kw1_203, kw1_204, kw1_3, by decide +kernel⟩
def X3_at (i : Nat) (σ : Mem) (p1 : Int32) : Option (Mem × Int32) :=
  ((X3_has i σ p1).bind fun q1 => (if q1.2 = 0 then some (q1.1, (-1 : Int32)) else (if inA p1 (cap i) then some (q1.1, (q1.1.1 (i + 1) p1.toNatClampNeg)) else none)))
set_option maxHeartbeats 4000000 in
set_option maxRecDepth 100000 in
theorem ct_X3_at (l : Launch) (G : Gw) {i : Nat} (o : RowOk i) {σ : Mem} {p1 : Int32} {out : Mem × Int32} (h : X3_at i σ p1 = some out) : Ct l G yX3_at cX3_at 2 (some .int) { frames := 1, cells := 0, slots := 0, locals := 21 } [.ref (gA G i), .int p1] σ out.1 (some (.int out.2)) := by
  refine Ct.of (by decide +kernel) (Nat.le_of_ble_eq_true rfl) (fun E hE C F => ?_)
  subst hE
  have C : Cx E G RX3 cX3_at 2 { frames := 1, cells := 0, slots := 0, locals := 21 } := C
  unfold X3_at at h
  show J E G 2 0 0 σ 0 [(0, .ref (gA G i)), (1, .int p1)] []
  refine j_aload_n C dX3_at_0 rfl 0 rfl 1 rfl ?_
  refine j_iload_n C dX3_at_1 rfl 1 rfl 2 rfl ?_
  obtain ⟨q1, e2, h⟩ := ob_some h
  refine j_callV C (ct_X3_has (eL E) G o e2) o.1 foX3 rfl vk_X3_has kw1_206 rfl ⟨Nat.le_of_ble_eq_true rfl, Nat.le_of_ble_eq_true rfl, rfl, rfl⟩ ⟨Nat.zero_le _, Nat.zero_le _⟩ (rest := []) rfl (Nat.le_of_ble_eq_true rfl) dX3_at_2 (st1 := [.int q1.2]) rfl 5 rfl ?_
  refine j_if_eq C dX3_at_5 17 (by decide) 8 rfl (fun c => ?_) (fun c => ?_)
  · have h := it_t c h
    refine j_iconst C dX3_at_17 (-1 : Int32) (by decide) 18 rfl ?_
    exact j_iret C F dX3_at_18 h
  · have h := it_f c h
    refine j_aload_n C dX3_at_8 rfl 0 rfl 9 rfl ?_
    refine j_get C foX3 o.1 0 (by decide) (i + 3) rfl kw1_45 rfl dX3_at_9 (.ref (gA G (i + 1))) (fv_r rfl) 12 rfl ?_
    refine j_iload_n C dX3_at_12 rfl 1 rfl 13 rfl ?_
    obtain ⟨hc, h⟩ := if_some h
    refine j_iald C o.2 hc dX3_at_13 p1.toNatClampNeg rfl 14 rfl ?_
    refine j_goto C dX3_at_14 18 (by decide) ?_
    exact j_iret C F dX3_at_18 h

-- ===== StenoChords$Row.put(I)V
theorem vk_X3_put : VK yX3_put cX3_put 2 none 1 := ⟨kw1_213, kw1_211, kw1_212, kw1_3, by decide +kernel⟩
def X3_put (i : Nat) (σ : Mem) (p1 : Int32) : Option (Mem × Unit) :=
  (if (σ.1 i 1) < 0 then some (σ, ()) else (if (Int32.ofNat (cap i)) ≤ (σ.1 i 1) then some (σ, ()) else (if inA (σ.1 i 1) (cap i) then ((some (setI σ (i + 1) (σ.1 i 1).toNatClampNeg p1)).bind fun σ1 => ((some (setI σ1 i 1 ((σ1.1 i 1) + (1 : Int32)))).bind fun σ3 => some (σ3, ()))) else none)))
set_option maxHeartbeats 4000000 in
set_option maxRecDepth 100000 in
theorem ct_X3_put (l : Launch) (G : Gw) {i : Nat} (o : RowOk i) {σ : Mem} {p1 : Int32} {out : Mem × Unit} (h : X3_put i σ p1 = some out) : Ct l G yX3_put cX3_put 2 none { frames := 0, cells := 0, slots := 0, locals := 0 } [.ref (gA G i), .int p1] σ out.1 (none) := by
  refine Ct.of (by decide +kernel) (Nat.le_of_ble_eq_true rfl) (fun E hE C F => ?_)
  subst hE
  have C : Cx E G RX3 cX3_put 2 { frames := 0, cells := 0, slots := 0, locals := 0 } := C
  unfold X3_put at h
  show J E G 2 0 0 σ 0 [(0, .ref (gA G i)), (1, .int p1)] []
  refine j_aload_n C dX3_put_0 rfl 0 rfl 1 rfl ?_
  refine j_get C foX3 o.1 1 (by decide) 0 rfl kw1_46 rfl dX3_put_1 (.int (σ.1 i 1)) rfl 4 rfl ?_
  refine j_if_lt C dX3_put_4 39 (by decide) 7 rfl (fun c => ?_) (fun c => ?_)
  · have h := it_t c h
    exact j_vret C F dX3_put_39 h
  · have h := it_f c h
    refine j_aload_n C dX3_put_7 rfl 0 rfl 8 rfl ?_
    refine j_get C foX3 o.1 1 (by decide) 0 rfl kw1_46 rfl dX3_put_8 (.int (σ.1 i 1)) rfl 11 rfl ?_
    refine j_aload_n C dX3_put_11 rfl 0 rfl 12 rfl ?_
    refine j_get C foX3 o.1 0 (by decide) (i + 3) rfl kw1_45 rfl dX3_put_12 (.ref (gA G (i + 1))) (fv_r rfl) 15 rfl ?_
    refine j_alen C o.2 dX3_put_15 (Int32.ofNat (cap i)) rfl 16 rfl ?_
    refine j_icmp_ge C dX3_put_16 39 (by decide) 19 rfl (fun c => ?_) (fun c => ?_)
    · have h := it_t c h
      exact j_vret C F dX3_put_39 h
    · have h := it_f c h
      refine j_aload_n C dX3_put_19 rfl 0 rfl 20 rfl ?_
      refine j_get C foX3 o.1 0 (by decide) (i + 3) rfl kw1_45 rfl dX3_put_20 (.ref (gA G (i + 1))) (fv_r rfl) 23 rfl ?_
      refine j_aload_n C dX3_put_23 rfl 0 rfl 24 rfl ?_
      refine j_get C foX3 o.1 1 (by decide) 0 rfl kw1_46 rfl dX3_put_24 (.int (σ.1 i 1)) rfl 27 rfl ?_
      refine j_iload_n C dX3_put_27 rfl 1 rfl 28 rfl ?_
      obtain ⟨hc, h⟩ := if_some h
      obtain ⟨σ1, e2, h⟩ := ob_some h
      refine j_iast C o.2 hc dX3_put_28 (σ.1 i 1).toNatClampNeg rfl σ1 (Option.some.inj e2) 29 rfl ?_
      refine j_aload_n C dX3_put_29 rfl 0 rfl 30 rfl ?_
      refine j_dup C dX3_put_30 rfl 31 rfl ?_
      refine j_get C foX3 o.1 1 (by decide) 0 rfl kw1_46 rfl dX3_put_31 (.int (σ1.1 i 1)) rfl 34 rfl ?_
      refine j_iconst C dX3_put_34 (1 : Int32) (by decide) 35 rfl ?_
      refine j_iadd C dX3_put_35 36 rfl ?_
      obtain ⟨σ3, e4, h⟩ := ob_some h
      refine j_putI C foX3 o.1 1 (by decide) rfl kw1_46 rfl rfl rfl rfl dX3_put_36 σ3 (Option.some.inj e4) 39 rfl ?_
      exact j_vret C F dX3_put_39 h

-- ===== StenoChords$Row.shorten(I)V
theorem vk_X3_shorten : VK yX3_shorten cX3_shorten 2 none 1 := ⟨kw2_127, kw2_125, kw2_126, kw1_3, by decide +kernel⟩
def X3_shorten (i : Nat) (σ : Mem) (p1 : Int32) : Option (Mem × Unit) :=
  (if p1 < 0 then some (σ, ()) else (if (σ.1 i 1) ≤ p1 then some (σ, ()) else ((some (setI σ i 1 p1)).bind fun σ1 => some (σ1, ()))))
set_option maxHeartbeats 4000000 in
set_option maxRecDepth 100000 in
theorem ct_X3_shorten (l : Launch) (G : Gw) {i : Nat} (o : RowOk i) {σ : Mem} {p1 : Int32} {out : Mem × Unit} (h : X3_shorten i σ p1 = some out) : Ct l G yX3_shorten cX3_shorten 2 none { frames := 0, cells := 0, slots := 0, locals := 0 } [.ref (gA G i), .int p1] σ out.1 (none) := by
  refine Ct.of (by decide +kernel) (Nat.le_of_ble_eq_true rfl) (fun E hE C F => ?_)
  subst hE
  have C : Cx E G RX3 cX3_shorten 2 { frames := 0, cells := 0, slots := 0, locals := 0 } := C
  unfold X3_shorten at h
  show J E G 2 0 0 σ 0 [(0, .ref (gA G i)), (1, .int p1)] []
  refine j_iload_n C dX3_shorten_0 rfl 1 rfl 1 rfl ?_
  refine j_if_lt C dX3_shorten_1 17 (by decide) 4 rfl (fun c => ?_) (fun c => ?_)
  · have h := it_t c h
    exact j_vret C F dX3_shorten_17 h
  · have h := it_f c h
    refine j_iload_n C dX3_shorten_4 rfl 1 rfl 5 rfl ?_
    refine j_aload_n C dX3_shorten_5 rfl 0 rfl 6 rfl ?_
    refine j_get C foX3 o.1 1 (by decide) 0 rfl kw1_46 rfl dX3_shorten_6 (.int (σ.1 i 1)) rfl 9 rfl ?_
    refine j_icmp_ge C dX3_shorten_9 17 (by decide) 12 rfl (fun c => ?_) (fun c => ?_)
    · have h := it_t c h
      exact j_vret C F dX3_shorten_17 h
    · have h := it_f c h
      refine j_aload_n C dX3_shorten_12 rfl 0 rfl 13 rfl ?_
      refine j_iload_n C dX3_shorten_13 rfl 1 rfl 14 rfl ?_
      obtain ⟨σ1, e2, h⟩ := ob_some h
      refine j_putI C foX3 o.1 1 (by decide) rfl kw1_46 rfl rfl rfl rfl dX3_shorten_14 σ1 (Option.some.inj e2) 17 rfl ?_
      exact j_vret C F dX3_shorten_17 h

-- ===== StenoChords$Row.packed(II)J
theorem vk_X3_packed : VK yX3_packed cX3_packed 7 (some .long) 2 := ⟨kw2_143, kw2_141, kw2_142, kw1_3, by decide +kernel⟩
def X3_packed_5 (i : Nat) (K : Mem → Int64 → Option (Mem × Int64)) : Nat → Mem → Int32 → Int32 → Int64 → Int32 → Option (Mem × Int64)
  | 0, _, _, _, _, _ => none
  | fu + 1, σ, v1, v2, v3, v5 => (if v2 ≤ v5 then K σ v3 else (if (v1 + v5) < 0 then X3_packed_5 i K fu σ v1 v2 v3 (v5 + (1 : Int32)) else (if (σ.1 i 1) ≤ (v1 + v5) then X3_packed_5 i K fu σ v1 v2 v3 (v5 + (1 : Int32)) else (if (Int32.ofNat (cap i)) ≤ (v1 + v5) then X3_packed_5 i K fu σ v1 v2 v3 (v5 + (1 : Int32)) else (if inA (v1 + v5) (cap i) then X3_packed_5 i K fu σ v1 v2 (v3 ||| ((σ.1 (i + 1) (v1 + v5).toNatClampNeg).toInt64 <<< (((10 : Int32) * v5).toInt64 &&& 63))) (v5 + (1 : Int32)) else none)))))
set_option maxHeartbeats 4000000 in
set_option maxRecDepth 100000 in
theorem w_X3_packed_5 {E : Ev} {G : Gw} (C : Cx E G RX3 cX3_packed 7 { frames := 0, cells := 0, slots := 0, locals := 0 }) {out : Mem × Int64} (F : Ef E G out.1 (some (.long out.2)) (some .long) 0 0) {i : Nat} (o : RowOk i) {K : Mem → Int64 → Option (Mem × Int64)} (hK : ∀ (σ : Mem) (v3 : Int64), K σ v3 = some out → J E G 7 0 0 σ 64 [(3, .long v3)] []) : ∀ (fu : Nat) (σ : Mem) (v1 : Int32) (v2 : Int32) (v3 : Int64) (v5 : Int32), X3_packed_5 i K fu σ v1 v2 v3 v5 = some out → J E G 7 0 0 σ 5 [(0, .ref (gA G i)), (1, .int v1), (2, .int v2), (3, .long v3), (5, .int v5)] [] := by
  intro fu
  induction fu with
  | zero => intro σ v1 v2 v3 v5 h; rw [X3_packed_5] at h; cases h
  | succ fu ih =>
    intro σ v1 v2 v3 v5 h
    rw [X3_packed_5] at h
    refine j_iload C dX3_packed_5 4 rfl 7 rfl ?_
    refine j_iload_n C dX3_packed_7 rfl 2 rfl 8 rfl ?_
    refine j_icmp_ge C dX3_packed_8 64 (by decide) 11 rfl (fun c => ?_) (fun c => ?_)
    · have h := it_t c h
      refine j_sub [(3, .long v3)] [3] rfl ?_
      exact hK _ _ h
    · have h := it_f c h
      refine j_iload_n C dX3_packed_11 rfl 1 rfl 12 rfl ?_
      refine j_iload C dX3_packed_12 4 rfl 14 rfl ?_
      refine j_iadd C dX3_packed_14 15 rfl ?_
      refine j_istore C dX3_packed_15 (by decide) [(6, .int (v1 + v5)), (0, .ref (gA G i)), (1, .int v1), (2, .int v2), (3, .long v3), (5, .int v5)] rfl 17 rfl ?_
      refine j_iload C dX3_packed_17 0 rfl 19 rfl ?_
      refine j_if_lt C dX3_packed_19 58 (by decide) 22 rfl (fun c => ?_) (fun c => ?_)
      · have h := it_t c h
        refine j_iinc C dX3_packed_58 5 rfl (v5 + (1 : Int32)) rfl (by decide) [(5, .int (v5 + (1 : Int32))), (6, .int (v1 + v5)), (0, .ref (gA G i)), (1, .int v1), (2, .int v2), (3, .long v3)] rfl 61 rfl ?_
        refine j_goto C dX3_packed_61 5 (by decide) ?_
        refine j_sub [(0, .ref (gA G i)), (1, .int v1), (2, .int v2), (3, .long v3), (5, .int (v5 + (1 : Int32)))] [2, 3, 4, 5, 0] rfl ?_
        exact ih _ _ _ _ _ h
      · have h := it_f c h
        refine j_iload C dX3_packed_22 0 rfl 24 rfl ?_
        refine j_aload_n C dX3_packed_24 rfl 1 rfl 25 rfl ?_
        refine j_get C foX3 o.1 1 (by decide) 0 rfl kw1_46 rfl dX3_packed_25 (.int (σ.1 i 1)) rfl 28 rfl ?_
        refine j_icmp_ge C dX3_packed_28 58 (by decide) 31 rfl (fun c => ?_) (fun c => ?_)
        · have h := it_t c h
          refine j_iinc C dX3_packed_58 5 rfl (v5 + (1 : Int32)) rfl (by decide) [(5, .int (v5 + (1 : Int32))), (6, .int (v1 + v5)), (0, .ref (gA G i)), (1, .int v1), (2, .int v2), (3, .long v3)] rfl 61 rfl ?_
          refine j_goto C dX3_packed_61 5 (by decide) ?_
          refine j_sub [(0, .ref (gA G i)), (1, .int v1), (2, .int v2), (3, .long v3), (5, .int (v5 + (1 : Int32)))] [2, 3, 4, 5, 0] rfl ?_
          exact ih _ _ _ _ _ h
        · have h := it_f c h
          refine j_iload C dX3_packed_31 0 rfl 33 rfl ?_
          refine j_aload_n C dX3_packed_33 rfl 1 rfl 34 rfl ?_
          refine j_get C foX3 o.1 0 (by decide) (i + 3) rfl kw1_45 rfl dX3_packed_34 (.ref (gA G (i + 1))) (fv_r rfl) 37 rfl ?_
          refine j_alen C o.2 dX3_packed_37 (Int32.ofNat (cap i)) rfl 38 rfl ?_
          refine j_icmp_ge C dX3_packed_38 58 (by decide) 41 rfl (fun c => ?_) (fun c => ?_)
          · have h := it_t c h
            refine j_iinc C dX3_packed_58 5 rfl (v5 + (1 : Int32)) rfl (by decide) [(5, .int (v5 + (1 : Int32))), (6, .int (v1 + v5)), (0, .ref (gA G i)), (1, .int v1), (2, .int v2), (3, .long v3)] rfl 61 rfl ?_
            refine j_goto C dX3_packed_61 5 (by decide) ?_
            refine j_sub [(0, .ref (gA G i)), (1, .int v1), (2, .int v2), (3, .long v3), (5, .int (v5 + (1 : Int32)))] [2, 3, 4, 5, 0] rfl ?_
            exact ih _ _ _ _ _ h
          · have h := it_f c h
            refine j_lload_n C dX3_packed_41 rfl 4 rfl 42 rfl ?_
            refine j_aload_n C dX3_packed_42 rfl 1 rfl 43 rfl ?_
            refine j_get C foX3 o.1 0 (by decide) (i + 3) rfl kw1_45 rfl dX3_packed_43 (.ref (gA G (i + 1))) (fv_r rfl) 46 rfl ?_
            refine j_iload C dX3_packed_46 0 rfl 48 rfl ?_
            obtain ⟨hc, h⟩ := if_some h
            refine j_iald C o.2 hc dX3_packed_48 (v1 + v5).toNatClampNeg rfl 49 rfl ?_
            refine j_i2l C dX3_packed_49 50 rfl ?_
            refine j_bipush C dX3_packed_50 (10 : Int32) (by decide) 52 rfl ?_
            refine j_iload C dX3_packed_52 5 rfl 54 rfl ?_
            refine j_imul C dX3_packed_54 55 rfl ?_
            refine j_lshl C dX3_packed_55 56 rfl ?_
            refine j_lor C dX3_packed_56 57 rfl ?_
            refine j_lstore_n C dX3_packed_57 rfl (by decide) [(3, .long (v3 ||| ((σ.1 (i + 1) (v1 + v5).toNatClampNeg).toInt64 <<< (((10 : Int32) * v5).toInt64 &&& 63)))), (6, .int (v1 + v5)), (0, .ref (gA G i)), (1, .int v1), (2, .int v2), (5, .int v5)] rfl 58 rfl ?_
            refine j_iinc C dX3_packed_58 5 rfl (v5 + (1 : Int32)) rfl (by decide) [(5, .int (v5 + (1 : Int32))), (3, .long (v3 ||| ((σ.1 (i + 1) (v1 + v5).toNatClampNeg).toInt64 <<< (((10 : Int32) * v5).toInt64 &&& 63)))), (6, .int (v1 + v5)), (0, .ref (gA G i)), (1, .int v1), (2, .int v2)] rfl 61 rfl ?_
            refine j_goto C dX3_packed_61 5 (by decide) ?_
            refine j_sub [(0, .ref (gA G i)), (1, .int v1), (2, .int v2), (3, .long (v3 ||| ((σ.1 (i + 1) (v1 + v5).toNatClampNeg).toInt64 <<< (((10 : Int32) * v5).toInt64 &&& 63)))), (5, .int (v5 + (1 : Int32)))] [3, 4, 5, 1, 0] rfl ?_
            exact ih _ _ _ _ _ h
def X3_packed (i : Nat) (σ : Mem) (p1 : Int32) (p2 : Int32) : Option (Mem × Int64) :=
  X3_packed_5 i (fun (σ : Mem) (v3 : Int64) => some (σ, v3)) FU σ p1 p2 (0 : Int64) (0 : Int32)
set_option maxHeartbeats 4000000 in
set_option maxRecDepth 100000 in
theorem ct_X3_packed (l : Launch) (G : Gw) {i : Nat} (o : RowOk i) {σ : Mem} {p1 : Int32} {p2 : Int32} {out : Mem × Int64} (h : X3_packed i σ p1 p2 = some out) : Ct l G yX3_packed cX3_packed 7 (some .long) { frames := 0, cells := 0, slots := 0, locals := 0 } [.ref (gA G i), .int p1, .int p2] σ out.1 (some (.long out.2)) := by
  refine Ct.of (by decide +kernel) (Nat.le_of_ble_eq_true rfl) (fun E hE C F => ?_)
  subst hE
  have C : Cx E G RX3 cX3_packed 7 { frames := 0, cells := 0, slots := 0, locals := 0 } := C
  unfold X3_packed at h
  show J E G 7 0 0 σ 0 [(0, .ref (gA G i)), (1, .int p1), (2, .int p2)] []
  refine j_lconst C dX3_packed_0 (0 : Int64) (by decide) 1 rfl ?_
  refine j_lstore_n C dX3_packed_1 rfl (by decide) [(3, .long (0 : Int64)), (0, .ref (gA G i)), (1, .int p1), (2, .int p2)] rfl 2 rfl ?_
  refine j_iconst C dX3_packed_2 (0 : Int32) (by decide) 3 rfl ?_
  refine j_istore C dX3_packed_3 (by decide) [(5, .int (0 : Int32)), (3, .long (0 : Int64)), (0, .ref (gA G i)), (1, .int p1), (2, .int p2)] rfl 5 rfl ?_
  refine j_sub [(0, .ref (gA G i)), (1, .int p1), (2, .int p2), (3, .long (0 : Int64)), (5, .int (0 : Int32))] [2, 3, 4, 1, 0] rfl ?_
  refine w_X3_packed_5 C F o (fun σ v3 h => ?_) FU _ _ _ _ _ h
  refine j_lload_n C dX3_packed_64 rfl 0 rfl 65 rfl ?_
  exact j_lret C F dX3_packed_65 h

-- ===== StenoChords$Row.become(LStenoChords$Row;)V
theorem vk_X3_become : VK yX3_become cX3_become 3 none 1 := ⟨kw1_201, kw1_199, kw1_200, kw1_3, by decide +kernel⟩
def X3_become_7 (i : Nat) (j : Nat) (K : Mem → Option (Mem × Unit)) : Nat → Mem → Int32 → Option (Mem × Unit)
  | 0, _, _ => none
  | fu + 1, σ, v2 => (if (σ.1 j 1) ≤ v2 then K σ else ((X3_at j σ v2).bind fun q3 => ((X3_put i q3.1 q3.2).bind fun q5 => X3_become_7 i j K fu q5.1 (v2 + (1 : Int32)))))
set_option maxHeartbeats 4000000 in
set_option maxRecDepth 100000 in
theorem w_X3_become_7 {E : Ev} {G : Gw} (C : Cx E G RX3 cX3_become 3 { frames := 2, cells := 0, slots := 0, locals := 42 }) {out : Mem × Unit} (F : Ef E G out.1 (none) none 0 0) {i : Nat} (o : RowOk i) {j : Nat} (oj : RowOk j) {K : Mem → Option (Mem × Unit)} (hK : ∀ (σ : Mem) , K σ  = some out → J E G 3 0 0 σ 30 [] []) : ∀ (fu : Nat) (σ : Mem) (v2 : Int32), X3_become_7 i j K fu σ v2 = some out → J E G 3 0 0 σ 7 [(0, .ref (gA G i)), (1, .ref (gA G j)), (2, .int v2)] [] := by
  intro fu
  induction fu with
  | zero => intro σ v2 h; rw [X3_become_7] at h; cases h
  | succ fu ih =>
    intro σ v2 h
    rw [X3_become_7] at h
    refine j_iload_n C dX3_become_7 rfl 2 rfl 8 rfl ?_
    refine j_aload_n C dX3_become_8 rfl 1 rfl 9 rfl ?_
    refine j_get C foX3 oj.1 1 (by decide) 0 rfl kw1_46 rfl dX3_become_9 (.int (σ.1 j 1)) rfl 12 rfl ?_
    refine j_icmp_ge C dX3_become_12 30 (by decide) 15 rfl (fun c => ?_) (fun c => ?_)
    · have h := it_t c h
      refine j_sub [] [] rfl ?_
      exact hK _ h
    · have h := it_f c h
      refine j_aload_n C dX3_become_15 rfl 0 rfl 16 rfl ?_
      refine j_aload_n C dX3_become_16 rfl 1 rfl 17 rfl ?_
      refine j_iload_n C dX3_become_17 rfl 2 rfl 18 rfl ?_
      obtain ⟨q3, e4, h⟩ := ob_some h
      refine j_callV C (ct_X3_at (eL E) G oj e4) oj.1 foX3 rfl vk_X3_at kw1_202 rfl ⟨Nat.le_of_ble_eq_true rfl, Nat.le_of_ble_eq_true rfl, rfl, rfl⟩ ⟨Nat.zero_le _, Nat.zero_le _⟩ (rest := [.ref (gA G i)]) rfl (Nat.le_of_ble_eq_true rfl) dX3_become_18 (st1 := [.int q3.2, .ref (gA G i)]) rfl 21 rfl ?_
      obtain ⟨q5, e6, h⟩ := ob_some h
      refine j_callV C (ct_X3_put (eL E) G o e6) o.1 foX3 rfl vk_X3_put kw1_210 rfl ⟨Nat.le_of_ble_eq_true rfl, Nat.le_of_ble_eq_true rfl, rfl, rfl⟩ ⟨Nat.zero_le _, Nat.zero_le _⟩ (rest := []) rfl (Nat.le_of_ble_eq_true rfl) dX3_become_21 (st1 := []) rfl 24 rfl ?_
      refine j_iinc C dX3_become_24 2 rfl (v2 + (1 : Int32)) rfl (by decide) [(2, .int (v2 + (1 : Int32))), (0, .ref (gA G i)), (1, .ref (gA G j))] rfl 27 rfl ?_
      refine j_goto C dX3_become_27 7 (by decide) ?_
      refine j_sub [(0, .ref (gA G i)), (1, .ref (gA G j)), (2, .int (v2 + (1 : Int32)))] [1, 2, 0] rfl ?_
      exact ih _ _ h
def X3_become (i : Nat) (j : Nat) (σ : Mem) : Option (Mem × Unit) :=
  ((some (setI σ i 1 (0 : Int32))).bind fun σ1 => X3_become_7 i j (fun (σ : Mem)  => some (σ, ())) FU σ1 (0 : Int32))
set_option maxHeartbeats 4000000 in
set_option maxRecDepth 100000 in
theorem ct_X3_become (l : Launch) (G : Gw) {i : Nat} (o : RowOk i) {j : Nat} (oj : RowOk j) {σ : Mem} {out : Mem × Unit} (h : X3_become i j σ = some out) : Ct l G yX3_become cX3_become 3 none { frames := 2, cells := 0, slots := 0, locals := 42 } [.ref (gA G i), .ref (gA G j)] σ out.1 (none) := by
  refine Ct.of (by decide +kernel) (Nat.le_of_ble_eq_true rfl) (fun E hE C F => ?_)
  subst hE
  have C : Cx E G RX3 cX3_become 3 { frames := 2, cells := 0, slots := 0, locals := 42 } := C
  unfold X3_become at h
  show J E G 3 0 0 σ 0 [(0, .ref (gA G i)), (1, .ref (gA G j))] []
  refine j_aload_n C dX3_become_0 rfl 0 rfl 1 rfl ?_
  refine j_iconst C dX3_become_1 (0 : Int32) (by decide) 2 rfl ?_
  obtain ⟨σ1, e2, h⟩ := ob_some h
  refine j_putI C foX3 o.1 1 (by decide) rfl kw1_46 rfl rfl rfl rfl dX3_become_2 σ1 (Option.some.inj e2) 5 rfl ?_
  refine j_iconst C dX3_become_5 (0 : Int32) (by decide) 6 rfl ?_
  refine j_istore_n C dX3_become_6 rfl (by decide) [(2, .int (0 : Int32)), (0, .ref (gA G i)), (1, .ref (gA G j))] rfl 7 rfl ?_
  refine j_sub [(0, .ref (gA G i)), (1, .ref (gA G j)), (2, .int (0 : Int32))] [1, 2, 0] rfl ?_
  refine w_X3_become_7 C F o oj (fun σ  h => ?_) FU _ _ h
  exact j_vret C F dX3_become_30 h
