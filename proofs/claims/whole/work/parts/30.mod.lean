-- ===== StenoChordsModel.thrown()I
theorem vk_X7_thrown : VK yX7_thrown cX7_thrown 1 (some .int) 0 := ⟨kw4_237, kw4_235, kw4_236, kw1_9, by decide +kernel⟩
def X7_thrown (σ : Mem) : Option (Mem × Int32) :=
  some (σ, (σ.1 82 0))
set_option maxHeartbeats 4000000 in
set_option maxRecDepth 100000 in
theorem ct_X7_thrown (l : Launch) (G : Gw)  {σ : Mem} {out : Mem × Int32} (h : X7_thrown σ = some out) : Ct l G yX7_thrown cX7_thrown 1 (some .int) { frames := 0, cells := 0, slots := 0, locals := 0 } [.ref (gA G 82)] σ out.1 (some (.int out.2)) := by
  refine Ct.of (by decide +kernel) (Nat.le_of_ble_eq_true rfl) (fun E hE C F => ?_)
  subst hE
  have C : Cx E G RX7 cX7_thrown 1 { frames := 0, cells := 0, slots := 0, locals := 0 } := C
  unfold X7_thrown at h
  show J E G 1 0 0 σ 0 [(0, .ref (gA G 82))] []
  refine j_aload_n C dX7_thrown_0 rfl 0 rfl 1 rfl ?_
  refine j_get C foX7 sh82 0 (by decide) 0 rfl kw4_182 rfl dX7_thrown_1 (.int (σ.1 82 0)) rfl 4 rfl ?_
  exact j_iret C F dX7_thrown_4 h

-- ===== StenoChordsModel.in(III)Z
theorem vk_X7_in : SK yX7_in cX7_in 3 (some .boolean) 3 := ⟨kw5_4, kw5_3, kw1_9, by decide +kernel⟩
def X7_in (σ : Mem) (p0 : Int32) (p1 : Int32) (p2 : Int32) : Option (Mem × Int32) :=
  (if p0 < p1 then some (σ, (0 : Int32)) else (if p2 < p0 then some (σ, (0 : Int32)) else some (σ, (1 : Int32))))
set_option maxHeartbeats 4000000 in
set_option maxRecDepth 100000 in
theorem ct_X7_in (l : Launch) (G : Gw)  {σ : Mem} {p0 : Int32} {p1 : Int32} {p2 : Int32} {out : Mem × Int32} (h : X7_in σ p0 p1 p2 = some out) : Ct l G yX7_in cX7_in 3 (some .boolean) { frames := 0, cells := 0, slots := 0, locals := 0 } [.int p0, .int p1, .int p2] σ out.1 (some (.int out.2)) := by
  refine Ct.of (by decide +kernel) (Nat.le_of_ble_eq_true rfl) (fun E hE C F => ?_)
  subst hE
  have C : Cx E G RX7 cX7_in 3 { frames := 0, cells := 0, slots := 0, locals := 0 } := C
  unfold X7_in at h
  show J E G 3 0 0 σ 0 [(0, .int p0), (1, .int p1), (2, .int p2)] []
  refine j_iload_n C dX7_in_0 rfl 0 rfl 1 rfl ?_
  refine j_iload_n C dX7_in_1 rfl 1 rfl 2 rfl ?_
  refine j_icmp_lt C dX7_in_2 14 (by decide) 5 rfl (fun c => ?_) (fun c => ?_)
  · have h := it_t c h
    refine j_iconst C dX7_in_14 (0 : Int32) (by decide) 15 rfl ?_
    exact j_zret C F dX7_in_15 (by decide) h
  · have h := it_f c h
    refine j_iload_n C dX7_in_5 rfl 0 rfl 6 rfl ?_
    refine j_iload_n C dX7_in_6 rfl 2 rfl 7 rfl ?_
    refine j_icmp_gt C dX7_in_7 14 (by decide) 10 rfl (fun c => ?_) (fun c => ?_)
    · have h := it_t c h
      refine j_iconst C dX7_in_14 (0 : Int32) (by decide) 15 rfl ?_
      exact j_zret C F dX7_in_15 (by decide) h
    · have h := it_f c h
      refine j_iconst C dX7_in_10 (1 : Int32) (by decide) 11 rfl ?_
      refine j_goto C dX7_in_11 15 (by decide) ?_
      exact j_zret C F dX7_in_15 (by decide) h

-- ===== StenoChordsModel.holds(I)Z
theorem vk_X7_holds : VK yX7_holds cX7_holds 2 (some .boolean) 1 := ⟨kw5_12, kw5_11, kwS_24, kw1_9, by decide +kernel⟩
def X7_holds (σ : Mem) (p1 : Int32) : Option (Mem × Int32) :=
  ((some (setI σ 82 0 p1)).bind fun σ1 => (if p1 = 0 then some (σ1, (1 : Int32)) else some (σ1, (0 : Int32))))
set_option maxHeartbeats 4000000 in
set_option maxRecDepth 100000 in
theorem ct_X7_holds (l : Launch) (G : Gw)  {σ : Mem} {p1 : Int32} {out : Mem × Int32} (h : X7_holds σ p1 = some out) : Ct l G yX7_holds cX7_holds 2 (some .boolean) { frames := 0, cells := 0, slots := 0, locals := 0 } [.ref (gA G 82), .int p1] σ out.1 (some (.int out.2)) := by
  refine Ct.of (by decide +kernel) (Nat.le_of_ble_eq_true rfl) (fun E hE C F => ?_)
  subst hE
  have C : Cx E G RX7 cX7_holds 2 { frames := 0, cells := 0, slots := 0, locals := 0 } := C
  unfold X7_holds at h
  show J E G 2 0 0 σ 0 [(0, .ref (gA G 82)), (1, .int p1)] []
  refine j_aload_n C dX7_holds_0 rfl 0 rfl 1 rfl ?_
  refine j_iload_n C dX7_holds_1 rfl 1 rfl 2 rfl ?_
  obtain ⟨σ1, e2, h⟩ := ob_some h
  refine j_putI C foX7 sh82 0 (by decide) rfl kw4_182 rfl rfl rfl rfl dX7_holds_2 σ1 (Option.some.inj e2) 5 rfl ?_
  refine j_iload_n C dX7_holds_5 rfl 1 rfl 6 rfl ?_
  refine j_if_ne C dX7_holds_6 13 (by decide) 9 rfl (fun c => ?_) (fun c => ?_)
  · have h := it_f c h
    refine j_iconst C dX7_holds_13 (0 : Int32) (by decide) 14 rfl ?_
    exact j_zret C F dX7_holds_14 (by decide) h
  · have h := it_t c h
    refine j_iconst C dX7_holds_9 (1 : Int32) (by decide) 10 rfl ?_
    refine j_goto C dX7_holds_10 14 (by decide) ?_
    exact j_zret C F dX7_holds_14 (by decide) h

-- ===== StenoChordsModel.keysOf(I)I
theorem vk_X7_keysOf : SK yX7_keysOf cX7_keysOf 3 (some .int) 1 := ⟨kw5_27, kw5_26, kw1_9, by decide +kernel⟩
def X7_keysOf_4 (K : Mem → Int32 → Option (Mem × Int32)) : Nat → Mem → Int32 → Int32 → Int32 → Option (Mem × Int32)
  | 0, _, _, _, _ => none
  | fu + 1, σ, v0, v1, v2 => (if (10 : Int32) ≤ v2 then K σ v1 else X7_keysOf_4 K fu σ v0 (v1 + ((v0 >>> (v2 &&& 31)) &&& (1 : Int32))) (v2 + (1 : Int32)))
set_option maxHeartbeats 4000000 in
set_option maxRecDepth 100000 in
theorem w_X7_keysOf_4 {E : Ev} {G : Gw} (C : Cx E G RX7 cX7_keysOf 3 { frames := 0, cells := 0, slots := 0, locals := 0 }) {out : Mem × Int32} (F : Ef E G out.1 (some (.int out.2)) (some .int) 0 0)  {K : Mem → Int32 → Option (Mem × Int32)} (hK : ∀ (σ : Mem) (v1 : Int32), K σ v1 = some out → J E G 3 0 0 σ 24 [(1, .int v1)] []) : ∀ (fu : Nat) (σ : Mem) (v0 : Int32) (v1 : Int32) (v2 : Int32), X7_keysOf_4 K fu σ v0 v1 v2 = some out → J E G 3 0 0 σ 4 [(0, .int v0), (1, .int v1), (2, .int v2)] [] := by
  intro fu
  induction fu with
  | zero => intro σ v0 v1 v2 h; rw [X7_keysOf_4] at h; cases h
  | succ fu ih =>
    intro σ v0 v1 v2 h
    rw [X7_keysOf_4] at h
    refine j_iload_n C dX7_keysOf_4 rfl 2 rfl 5 rfl ?_
    refine j_bipush C dX7_keysOf_5 (10 : Int32) (by decide) 7 rfl ?_
    refine j_icmp_ge C dX7_keysOf_7 24 (by decide) 10 rfl (fun c => ?_) (fun c => ?_)
    · have h := it_t c h
      refine j_sub [(1, .int v1)] [1] rfl ?_
      exact hK _ _ h
    · have h := it_f c h
      refine j_iload_n C dX7_keysOf_10 rfl 1 rfl 11 rfl ?_
      refine j_iload_n C dX7_keysOf_11 rfl 0 rfl 12 rfl ?_
      refine j_iload_n C dX7_keysOf_12 rfl 2 rfl 13 rfl ?_
      refine j_ishr C dX7_keysOf_13 14 rfl ?_
      refine j_iconst C dX7_keysOf_14 (1 : Int32) (by decide) 15 rfl ?_
      refine j_iand C dX7_keysOf_15 16 rfl ?_
      refine j_iadd C dX7_keysOf_16 17 rfl ?_
      refine j_istore_n C dX7_keysOf_17 rfl (by decide) [(1, .int (v1 + ((v0 >>> (v2 &&& 31)) &&& (1 : Int32)))), (0, .int v0), (2, .int v2)] rfl 18 rfl ?_
      refine j_iinc C dX7_keysOf_18 2 rfl (v2 + (1 : Int32)) rfl (by decide) [(2, .int (v2 + (1 : Int32))), (1, .int (v1 + ((v0 >>> (v2 &&& 31)) &&& (1 : Int32)))), (0, .int v0)] rfl 21 rfl ?_
      refine j_goto C dX7_keysOf_21 4 (by decide) ?_
      refine j_sub [(0, .int v0), (1, .int (v1 + ((v0 >>> (v2 &&& 31)) &&& (1 : Int32)))), (2, .int (v2 + (1 : Int32)))] [2, 1, 0] rfl ?_
      exact ih _ _ _ _ h
def X7_keysOf (σ : Mem) (p0 : Int32) : Option (Mem × Int32) :=
  X7_keysOf_4 (fun (σ : Mem) (v1 : Int32) => some (σ, v1)) FU σ p0 (0 : Int32) (0 : Int32)
set_option maxHeartbeats 4000000 in
set_option maxRecDepth 100000 in
theorem ct_X7_keysOf (l : Launch) (G : Gw)  {σ : Mem} {p0 : Int32} {out : Mem × Int32} (h : X7_keysOf σ p0 = some out) : Ct l G yX7_keysOf cX7_keysOf 3 (some .int) { frames := 0, cells := 0, slots := 0, locals := 0 } [.int p0] σ out.1 (some (.int out.2)) := by
  refine Ct.of (by decide +kernel) (Nat.le_of_ble_eq_true rfl) (fun E hE C F => ?_)
  subst hE
  have C : Cx E G RX7 cX7_keysOf 3 { frames := 0, cells := 0, slots := 0, locals := 0 } := C
  unfold X7_keysOf at h
  show J E G 3 0 0 σ 0 [(0, .int p0)] []
  refine j_iconst C dX7_keysOf_0 (0 : Int32) (by decide) 1 rfl ?_
  refine j_istore_n C dX7_keysOf_1 rfl (by decide) [(1, .int (0 : Int32)), (0, .int p0)] rfl 2 rfl ?_
  refine j_iconst C dX7_keysOf_2 (0 : Int32) (by decide) 3 rfl ?_
  refine j_istore_n C dX7_keysOf_3 rfl (by decide) [(2, .int (0 : Int32)), (1, .int (0 : Int32)), (0, .int p0)] rfl 4 rfl ?_
  refine j_sub [(0, .int p0), (1, .int (0 : Int32)), (2, .int (0 : Int32))] [2, 1, 0] rfl ?_
  refine w_X7_keysOf_4 C F  (fun σ v1 h => ?_) FU _ _ _ _ h
  refine j_iload_n C dX7_keysOf_24 rfl 0 rfl 25 rfl ?_
  exact j_iret C F dX7_keysOf_25 h

-- ===== StenoChordsModel.isEntry(I)Z
theorem vk_X7_isEntry : VK yX7_isEntry cX7_isEntry 2 (some .boolean) 1 := ⟨kw5_82, kw5_81, kwS_37, kw1_9, by decide +kernel⟩
def X7_isEntry (σ : Mem) (p1 : Int32) : Option (Mem × Int32) :=
  ((X7_in σ p1 (0 : Int32) ((σ.1 83 1) - (1 : Int32))).bind fun q1 => (if q1.2 &&& 1 = q1.2 then some (q1.1, q1.2) else none))
set_option maxHeartbeats 4000000 in
set_option maxRecDepth 100000 in
theorem ct_X7_isEntry (l : Launch) (G : Gw)  {σ : Mem} {p1 : Int32} {out : Mem × Int32} (h : X7_isEntry σ p1 = some out) : Ct l G yX7_isEntry cX7_isEntry 2 (some .boolean) { frames := 1, cells := 0, slots := 0, locals := 22 } [.ref (gA G 82), .int p1] σ out.1 (some (.int out.2)) := by
  refine Ct.of (by decide +kernel) (Nat.le_of_ble_eq_true rfl) (fun E hE C F => ?_)
  subst hE
  have C : Cx E G RX7 cX7_isEntry 2 { frames := 1, cells := 0, slots := 0, locals := 22 } := C
  unfold X7_isEntry at h
  show J E G 2 0 0 σ 0 [(0, .ref (gA G 82)), (1, .int p1)] []
  refine j_iload_n C dX7_isEntry_0 rfl 1 rfl 1 rfl ?_
  refine j_iconst C dX7_isEntry_1 (0 : Int32) (by decide) 2 rfl ?_
  refine j_aload_n C dX7_isEntry_2 rfl 0 rfl 3 rfl ?_
  refine j_get C foX7 sh82 1 (by decide) 85 rfl kw4_183 rfl dX7_isEntry_3 (.ref (gA G 83)) (fv_r rfl) 6 rfl ?_
  refine j_iconst C dX7_isEntry_6 (1 : Int32) (by decide) 7 rfl ?_
  refine j_iald C sh83 (by decide) dX7_isEntry_7 1 rfl 8 rfl ?_
  refine j_iconst C dX7_isEntry_8 (1 : Int32) (by decide) 9 rfl ?_
  refine j_isub C dX7_isEntry_9 10 rfl ?_
  obtain ⟨q1, e2, h⟩ := ob_some h
  refine j_callS C (ct_X7_in (eL E) G  e2) vk_X7_in kw5_2 rfl ⟨Nat.le_of_ble_eq_true rfl, Nat.le_of_ble_eq_true rfl, rfl, rfl⟩ ⟨Nat.zero_le _, Nat.zero_le _⟩ (rest := []) rfl (Nat.le_of_ble_eq_true rfl) dX7_isEntry_10 (st1 := [.int q1.2]) rfl 13 rfl ?_
  obtain ⟨hb, h⟩ := if_some h
  exact j_zret C F dX7_isEntry_13 hb h

-- ===== StenoChordsModel.of(II)I
theorem vk_X7_of : VK yX7_of cX7_of 3 (some .int) 2 := ⟨kw5_43, kw5_42, kwS_31, kw1_9, by decide +kernel⟩
def X7_of (σ : Mem) (p1 : Int32) (p2 : Int32) : Option (Mem × Int32) :=
  (if inA (((68 : Int32) + ((7 : Int32) * p1)) + p2) 1888 then some (σ, (σ.1 83 (((68 : Int32) + ((7 : Int32) * p1)) + p2).toNatClampNeg)) else none)
set_option maxHeartbeats 4000000 in
set_option maxRecDepth 100000 in
theorem ct_X7_of (l : Launch) (G : Gw)  {σ : Mem} {p1 : Int32} {p2 : Int32} {out : Mem × Int32} (h : X7_of σ p1 p2 = some out) : Ct l G yX7_of cX7_of 3 (some .int) { frames := 0, cells := 0, slots := 0, locals := 0 } [.ref (gA G 82), .int p1, .int p2] σ out.1 (some (.int out.2)) := by
  refine Ct.of (by decide +kernel) (Nat.le_of_ble_eq_true rfl) (fun E hE C F => ?_)
  subst hE
  have C : Cx E G RX7 cX7_of 3 { frames := 0, cells := 0, slots := 0, locals := 0 } := C
  unfold X7_of at h
  show J E G 3 0 0 σ 0 [(0, .ref (gA G 82)), (1, .int p1), (2, .int p2)] []
  refine j_aload_n C dX7_of_0 rfl 0 rfl 1 rfl ?_
  refine j_get C foX7 sh82 1 (by decide) 85 rfl kw4_183 rfl dX7_of_1 (.ref (gA G 83)) (fv_r rfl) 4 rfl ?_
  refine j_bipush C dX7_of_4 (68 : Int32) (by decide) 6 rfl ?_
  refine j_bipush C dX7_of_6 (7 : Int32) (by decide) 8 rfl ?_
  refine j_iload_n C dX7_of_8 rfl 1 rfl 9 rfl ?_
  refine j_imul C dX7_of_9 10 rfl ?_
  refine j_iadd C dX7_of_10 11 rfl ?_
  refine j_iload_n C dX7_of_11 rfl 2 rfl 12 rfl ?_
  refine j_iadd C dX7_of_12 13 rfl ?_
  obtain ⟨hc, h⟩ := if_some h
  refine j_iald C sh83 hc dX7_of_13 (((68 : Int32) + ((7 : Int32) * p1)) + p2).toNatClampNeg rfl 14 rfl ?_
  exact j_iret C F dX7_of_14 h

-- ===== StenoChordsModel.lay(III)V
theorem vk_X7_lay : VK yX7_lay cX7_lay 4 none 3 := ⟨kw5_86, kw5_85, kwS_38, kw1_9, by decide +kernel⟩
def X7_lay (σ : Mem) (p1 : Int32) (p2 : Int32) (p3 : Int32) : Option (Mem × Unit) :=
  (if inA (((68 : Int32) + ((7 : Int32) * p1)) + p2) 1888 then ((some (setI σ 83 (((68 : Int32) + ((7 : Int32) * p1)) + p2).toNatClampNeg p3)).bind fun σ1 => some (σ1, ())) else none)
set_option maxHeartbeats 4000000 in
set_option maxRecDepth 100000 in
theorem ct_X7_lay (l : Launch) (G : Gw)  {σ : Mem} {p1 : Int32} {p2 : Int32} {p3 : Int32} {out : Mem × Unit} (h : X7_lay σ p1 p2 p3 = some out) : Ct l G yX7_lay cX7_lay 4 none { frames := 0, cells := 0, slots := 0, locals := 0 } [.ref (gA G 82), .int p1, .int p2, .int p3] σ out.1 (none) := by
  refine Ct.of (by decide +kernel) (Nat.le_of_ble_eq_true rfl) (fun E hE C F => ?_)
  subst hE
  have C : Cx E G RX7 cX7_lay 4 { frames := 0, cells := 0, slots := 0, locals := 0 } := C
  unfold X7_lay at h
  show J E G 4 0 0 σ 0 [(0, .ref (gA G 82)), (1, .int p1), (2, .int p2), (3, .int p3)] []
  refine j_aload_n C dX7_lay_0 rfl 0 rfl 1 rfl ?_
  refine j_get C foX7 sh82 1 (by decide) 85 rfl kw4_183 rfl dX7_lay_1 (.ref (gA G 83)) (fv_r rfl) 4 rfl ?_
  refine j_bipush C dX7_lay_4 (68 : Int32) (by decide) 6 rfl ?_
  refine j_bipush C dX7_lay_6 (7 : Int32) (by decide) 8 rfl ?_
  refine j_iload_n C dX7_lay_8 rfl 1 rfl 9 rfl ?_
  refine j_imul C dX7_lay_9 10 rfl ?_
  refine j_iadd C dX7_lay_10 11 rfl ?_
  refine j_iload_n C dX7_lay_11 rfl 2 rfl 12 rfl ?_
  refine j_iadd C dX7_lay_12 13 rfl ?_
  refine j_iload_n C dX7_lay_13 rfl 3 rfl 14 rfl ?_
  obtain ⟨hc, h⟩ := if_some h
  obtain ⟨σ1, e2, h⟩ := ob_some h
  refine j_iast C sh83 hc dX7_lay_14 (((68 : Int32) + ((7 : Int32) * p1)) + p2).toNatClampNeg rfl σ1 (Option.some.inj e2) 15 rfl ?_
  exact j_vret C F dX7_lay_15 h

-- ===== StenoChordsModel.areRivals(II)Z
theorem vk_X7_areRivals : VK yX7_areRivals cX7_areRivals 5 (some .boolean) 2 := ⟨kw5_55, kw5_54, kwS_34, kw1_9, by decide +kernel⟩
def X7_areRivals_24 (K : Mem → Int32 → Option (Mem × Int32)) : Nat → Mem → Int32 → Int32 → Int32 → Int32 → Option (Mem × Int32)
  | 0, _, _, _, _, _ => none
  | fu + 1, σ, v1, v2, v3, v4 => ((X7_of σ v1 (0 : Int32)).bind fun q5 => (if q5.2 ≤ v4 then K q5.1 v3 else (if v3 = 0 then K q5.1 v3 else ((X7_of q5.1 v1 ((1 : Int32) + v4)).bind fun q7 => ((X7_of q7.1 v2 ((1 : Int32) + v4)).bind fun q9 => (if q7.2 = q9.2 then X7_areRivals_24 K fu q9.1 v1 v2 (1 : Int32) (v4 + (1 : Int32)) else X7_areRivals_24 K fu q9.1 v1 v2 (0 : Int32) (v4 + (1 : Int32))))))))
set_option maxHeartbeats 4000000 in
set_option maxRecDepth 100000 in
theorem w_X7_areRivals_24 {E : Ev} {G : Gw} (C : Cx E G RX7 cX7_areRivals 5 { frames := 1, cells := 0, slots := 0, locals := 22 }) {out : Mem × Int32} (F : Ef E G out.1 (some (.int out.2)) (some .boolean) 0 0)  {K : Mem → Int32 → Option (Mem × Int32)} (hK : ∀ (σ : Mem) (v3 : Int32), K σ v3 = some out → J E G 5 0 0 σ 72 [(3, .int v3)] []) : ∀ (fu : Nat) (σ : Mem) (v1 : Int32) (v2 : Int32) (v3 : Int32) (v4 : Int32), X7_areRivals_24 K fu σ v1 v2 v3 v4 = some out → J E G 5 0 0 σ 24 [(0, .ref (gA G 82)), (1, .int v1), (2, .int v2), (3, .int v3), (4, .int v4)] [] := by
  intro fu
  induction fu with
  | zero => intro σ v1 v2 v3 v4 h; rw [X7_areRivals_24] at h; cases h
  | succ fu ih =>
    intro σ v1 v2 v3 v4 h
    rw [X7_areRivals_24] at h
    refine j_iload C dX7_areRivals_24 4 rfl 26 rfl ?_
    refine j_aload_n C dX7_areRivals_26 rfl 0 rfl 27 rfl ?_
    refine j_iload_n C dX7_areRivals_27 rfl 1 rfl 28 rfl ?_
    refine j_iconst C dX7_areRivals_28 (0 : Int32) (by decide) 29 rfl ?_
    obtain ⟨q5, e6, h⟩ := ob_some h
    refine j_callV C (ct_X7_of (eL E) G  e6) sh82 foX7 rfl vk_X7_of kw5_40 rfl ⟨Nat.le_of_ble_eq_true rfl, Nat.le_of_ble_eq_true rfl, rfl, rfl⟩ ⟨Nat.zero_le _, Nat.zero_le _⟩ (rest := [.int v4]) rfl (Nat.le_of_ble_eq_true rfl) dX7_areRivals_29 (st1 := [.int q5.2, .int v4]) rfl 32 rfl ?_
    refine j_icmp_ge C dX7_areRivals_32 72 (by decide) 35 rfl (fun c => ?_) (fun c => ?_)
    · have h := it_t c h
      refine j_sub [(3, .int v3)] [3] rfl ?_
      exact hK _ _ h
    · have h := it_f c h
      refine j_iload_n C dX7_areRivals_35 rfl 3 rfl 36 rfl ?_
      refine j_if_eq C dX7_areRivals_36 72 (by decide) 39 rfl (fun c => ?_) (fun c => ?_)
      · have h := it_t c h
        refine j_sub [(3, .int v3)] [3] rfl ?_
        exact hK _ _ h
      · have h := it_f c h
        refine j_aload_n C dX7_areRivals_39 rfl 0 rfl 40 rfl ?_
        refine j_iload_n C dX7_areRivals_40 rfl 1 rfl 41 rfl ?_
        refine j_iconst C dX7_areRivals_41 (1 : Int32) (by decide) 42 rfl ?_
        refine j_iload C dX7_areRivals_42 4 rfl 44 rfl ?_
        refine j_iadd C dX7_areRivals_44 45 rfl ?_
        obtain ⟨q7, e8, h⟩ := ob_some h
        refine j_callV C (ct_X7_of (eL E) G  e8) sh82 foX7 rfl vk_X7_of kw5_40 rfl ⟨Nat.le_of_ble_eq_true rfl, Nat.le_of_ble_eq_true rfl, rfl, rfl⟩ ⟨Nat.zero_le _, Nat.zero_le _⟩ (rest := []) rfl (Nat.le_of_ble_eq_true rfl) dX7_areRivals_45 (st1 := [.int q7.2]) rfl 48 rfl ?_
        refine j_aload_n C dX7_areRivals_48 rfl 0 rfl 49 rfl ?_
        refine j_iload_n C dX7_areRivals_49 rfl 2 rfl 50 rfl ?_
        refine j_iconst C dX7_areRivals_50 (1 : Int32) (by decide) 51 rfl ?_
        refine j_iload C dX7_areRivals_51 4 rfl 53 rfl ?_
        refine j_iadd C dX7_areRivals_53 54 rfl ?_
        obtain ⟨q9, e10, h⟩ := ob_some h
        refine j_callV C (ct_X7_of (eL E) G  e10) sh82 foX7 rfl vk_X7_of kw5_40 rfl ⟨Nat.le_of_ble_eq_true rfl, Nat.le_of_ble_eq_true rfl, rfl, rfl⟩ ⟨Nat.zero_le _, Nat.zero_le _⟩ (rest := [.int q7.2]) rfl (Nat.le_of_ble_eq_true rfl) dX7_areRivals_54 (st1 := [.int q9.2, .int q7.2]) rfl 57 rfl ?_
        refine j_icmp_ne C dX7_areRivals_57 64 (by decide) 60 rfl (fun c => ?_) (fun c => ?_)
        · have h := it_f c h
          refine j_iconst C dX7_areRivals_64 (0 : Int32) (by decide) 65 rfl ?_
          refine j_istore_n C dX7_areRivals_65 rfl (by decide) [(3, .int (0 : Int32)), (0, .ref (gA G 82)), (1, .int v1), (2, .int v2), (4, .int v4)] rfl 66 rfl ?_
          refine j_iinc C dX7_areRivals_66 4 rfl (v4 + (1 : Int32)) rfl (by decide) [(4, .int (v4 + (1 : Int32))), (3, .int (0 : Int32)), (0, .ref (gA G 82)), (1, .int v1), (2, .int v2)] rfl 69 rfl ?_
          refine j_goto C dX7_areRivals_69 24 (by decide) ?_
          refine j_sub [(0, .ref (gA G 82)), (1, .int v1), (2, .int v2), (3, .int (0 : Int32)), (4, .int (v4 + (1 : Int32)))] [2, 3, 4, 1, 0] rfl ?_
          exact ih _ _ _ _ _ h
        · have h := it_t c h
          refine j_iconst C dX7_areRivals_60 (1 : Int32) (by decide) 61 rfl ?_
          refine j_goto C dX7_areRivals_61 65 (by decide) ?_
          refine j_istore_n C dX7_areRivals_65 rfl (by decide) [(3, .int (1 : Int32)), (0, .ref (gA G 82)), (1, .int v1), (2, .int v2), (4, .int v4)] rfl 66 rfl ?_
          refine j_iinc C dX7_areRivals_66 4 rfl (v4 + (1 : Int32)) rfl (by decide) [(4, .int (v4 + (1 : Int32))), (3, .int (1 : Int32)), (0, .ref (gA G 82)), (1, .int v1), (2, .int v2)] rfl 69 rfl ?_
          refine j_goto C dX7_areRivals_69 24 (by decide) ?_
          refine j_sub [(0, .ref (gA G 82)), (1, .int v1), (2, .int v2), (3, .int (1 : Int32)), (4, .int (v4 + (1 : Int32)))] [2, 3, 4, 1, 0] rfl ?_
          exact ih _ _ _ _ _ h
def X7_areRivals (σ : Mem) (p1 : Int32) (p2 : Int32) : Option (Mem × Int32) :=
  ((X7_of σ p1 (0 : Int32)).bind fun q1 => ((X7_of q1.1 p2 (0 : Int32)).bind fun q3 => (if q1.2 = q3.2 then X7_areRivals_24 (fun (σ : Mem) (v3 : Int32) => (if v3 &&& 1 = v3 then some (σ, v3) else none)) FU q3.1 p1 p2 (1 : Int32) (0 : Int32) else X7_areRivals_24 (fun (σ : Mem) (v3 : Int32) => (if v3 &&& 1 = v3 then some (σ, v3) else none)) FU q3.1 p1 p2 (0 : Int32) (0 : Int32))))
set_option maxHeartbeats 4000000 in
set_option maxRecDepth 100000 in
theorem ct_X7_areRivals (l : Launch) (G : Gw)  {σ : Mem} {p1 : Int32} {p2 : Int32} {out : Mem × Int32} (h : X7_areRivals σ p1 p2 = some out) : Ct l G yX7_areRivals cX7_areRivals 5 (some .boolean) { frames := 1, cells := 0, slots := 0, locals := 22 } [.ref (gA G 82), .int p1, .int p2] σ out.1 (some (.int out.2)) := by
  refine Ct.of (by decide +kernel) (Nat.le_of_ble_eq_true rfl) (fun E hE C F => ?_)
  subst hE
  have C : Cx E G RX7 cX7_areRivals 5 { frames := 1, cells := 0, slots := 0, locals := 22 } := C
  unfold X7_areRivals at h
  show J E G 5 0 0 σ 0 [(0, .ref (gA G 82)), (1, .int p1), (2, .int p2)] []
  refine j_aload_n C dX7_areRivals_0 rfl 0 rfl 1 rfl ?_
  refine j_iload_n C dX7_areRivals_1 rfl 1 rfl 2 rfl ?_
  refine j_iconst C dX7_areRivals_2 (0 : Int32) (by decide) 3 rfl ?_
  obtain ⟨q1, e2, h⟩ := ob_some h
  refine j_callV C (ct_X7_of (eL E) G  e2) sh82 foX7 rfl vk_X7_of kw5_40 rfl ⟨Nat.le_of_ble_eq_true rfl, Nat.le_of_ble_eq_true rfl, rfl, rfl⟩ ⟨Nat.zero_le _, Nat.zero_le _⟩ (rest := []) rfl (Nat.le_of_ble_eq_true rfl) dX7_areRivals_3 (st1 := [.int q1.2]) rfl 6 rfl ?_
  refine j_aload_n C dX7_areRivals_6 rfl 0 rfl 7 rfl ?_
  refine j_iload_n C dX7_areRivals_7 rfl 2 rfl 8 rfl ?_
  refine j_iconst C dX7_areRivals_8 (0 : Int32) (by decide) 9 rfl ?_
  obtain ⟨q3, e4, h⟩ := ob_some h
  refine j_callV C (ct_X7_of (eL E) G  e4) sh82 foX7 rfl vk_X7_of kw5_40 rfl ⟨Nat.le_of_ble_eq_true rfl, Nat.le_of_ble_eq_true rfl, rfl, rfl⟩ ⟨Nat.zero_le _, Nat.zero_le _⟩ (rest := [.int q1.2]) rfl (Nat.le_of_ble_eq_true rfl) dX7_areRivals_9 (st1 := [.int q3.2, .int q1.2]) rfl 12 rfl ?_
  refine j_icmp_ne C dX7_areRivals_12 19 (by decide) 15 rfl (fun c => ?_) (fun c => ?_)
  · have h := it_f c h
    refine j_iconst C dX7_areRivals_19 (0 : Int32) (by decide) 20 rfl ?_
    refine j_istore_n C dX7_areRivals_20 rfl (by decide) [(3, .int (0 : Int32)), (0, .ref (gA G 82)), (1, .int p1), (2, .int p2)] rfl 21 rfl ?_
    refine j_iconst C dX7_areRivals_21 (0 : Int32) (by decide) 22 rfl ?_
    refine j_istore C dX7_areRivals_22 (by decide) [(4, .int (0 : Int32)), (3, .int (0 : Int32)), (0, .ref (gA G 82)), (1, .int p1), (2, .int p2)] rfl 24 rfl ?_
    refine j_sub [(0, .ref (gA G 82)), (1, .int p1), (2, .int p2), (3, .int (0 : Int32)), (4, .int (0 : Int32))] [2, 3, 4, 1, 0] rfl ?_
    refine w_X7_areRivals_24 C F  (fun σ v3 h => ?_) FU _ _ _ _ _ h
    refine j_iload_n C dX7_areRivals_72 rfl 0 rfl 73 rfl ?_
    obtain ⟨hb, h⟩ := if_some h
    exact j_zret C F dX7_areRivals_73 hb h
  · have h := it_t c h
    refine j_iconst C dX7_areRivals_15 (1 : Int32) (by decide) 16 rfl ?_
    refine j_goto C dX7_areRivals_16 20 (by decide) ?_
    refine j_istore_n C dX7_areRivals_20 rfl (by decide) [(3, .int (1 : Int32)), (0, .ref (gA G 82)), (1, .int p1), (2, .int p2)] rfl 21 rfl ?_
    refine j_iconst C dX7_areRivals_21 (0 : Int32) (by decide) 22 rfl ?_
    refine j_istore C dX7_areRivals_22 (by decide) [(4, .int (0 : Int32)), (3, .int (1 : Int32)), (0, .ref (gA G 82)), (1, .int p1), (2, .int p2)] rfl 24 rfl ?_
    refine j_sub [(0, .ref (gA G 82)), (1, .int p1), (2, .int p2), (3, .int (1 : Int32)), (4, .int (0 : Int32))] [2, 3, 4, 1, 0] rfl ?_
    refine w_X7_areRivals_24 C F  (fun σ v3 h => ?_) FU _ _ _ _ _ h
    refine j_iload_n C dX7_areRivals_72 rfl 0 rfl 73 rfl ?_
    obtain ⟨hb, h⟩ := if_some h
    exact j_zret C F dX7_areRivals_73 hb h

-- ===== StenoChordsModel.leads(I)Z
theorem vk_X7_leads : VK yX7_leads cX7_leads 5 (some .boolean) 1 := ⟨kw5_51, kw5_50, kwS_33, kw1_9, by decide +kernel⟩
def X7_leads_4 (K : Mem → Int32 → Option (Mem × Int32)) : Nat → Mem → Int32 → Int32 → Int32 → Option (Mem × Int32)
  | 0, _, _, _, _ => none
  | fu + 1, σ, v1, v2, v3 => (if (σ.1 83 1) ≤ v3 then K σ v2 else ((X7_of σ v3 (6 : Int32)).bind fun q1 => ((X7_of q1.1 v1 (6 : Int32)).bind fun q3 => (if v2 = 0 then X7_leads_4 K fu q3.1 v1 (0 : Int32) (v3 + (1 : Int32)) else (if 0 < (q1.2 - q3.2) then ((X7_areRivals q3.1 v3 v1).bind fun q5 => (if q5.2 = 0 then X7_leads_4 K fu q5.1 v1 (1 : Int32) (v3 + (1 : Int32)) else X7_leads_4 K fu q5.1 v1 (0 : Int32) (v3 + (1 : Int32)))) else (if (q1.2 - q3.2) = 0 then (if v1 ≤ v3 then X7_leads_4 K fu q3.1 v1 (1 : Int32) (v3 + (1 : Int32)) else ((X7_areRivals q3.1 v3 v1).bind fun q7 => (if q7.2 = 0 then X7_leads_4 K fu q7.1 v1 (1 : Int32) (v3 + (1 : Int32)) else X7_leads_4 K fu q7.1 v1 (0 : Int32) (v3 + (1 : Int32))))) else X7_leads_4 K fu q3.1 v1 (1 : Int32) (v3 + (1 : Int32))))))))
set_option maxHeartbeats 4000000 in
set_option maxRecDepth 100000 in
theorem w_X7_leads_4 {E : Ev} {G : Gw} (C : Cx E G RX7 cX7_leads 5 { frames := 2, cells := 0, slots := 0, locals := 46 }) {out : Mem × Int32} (F : Ef E G out.1 (some (.int out.2)) (some .boolean) 0 0)  {K : Mem → Int32 → Option (Mem × Int32)} (hK : ∀ (σ : Mem) (v2 : Int32), K σ v2 = some out → J E G 5 0 0 σ 71 [(2, .int v2)] []) : ∀ (fu : Nat) (σ : Mem) (v1 : Int32) (v2 : Int32) (v3 : Int32), X7_leads_4 K fu σ v1 v2 v3 = some out → J E G 5 0 0 σ 4 [(0, .ref (gA G 82)), (1, .int v1), (2, .int v2), (3, .int v3)] [] := by
  intro fu
  induction fu with
  | zero => intro σ v1 v2 v3 h; rw [X7_leads_4] at h; cases h
  | succ fu ih =>
    intro σ v1 v2 v3 h
    rw [X7_leads_4] at h
    refine j_iload_n C dX7_leads_4 rfl 3 rfl 5 rfl ?_
    refine j_aload_n C dX7_leads_5 rfl 0 rfl 6 rfl ?_
    refine j_get C foX7 sh82 1 (by decide) 85 rfl kw4_183 rfl dX7_leads_6 (.ref (gA G 83)) (fv_r rfl) 9 rfl ?_
    refine j_iconst C dX7_leads_9 (1 : Int32) (by decide) 10 rfl ?_
    refine j_iald C sh83 (by decide) dX7_leads_10 1 rfl 11 rfl ?_
    refine j_icmp_ge C dX7_leads_11 71 (by decide) 14 rfl (fun c => ?_) (fun c => ?_)
    · have h := it_t c h
      refine j_sub [(2, .int v2)] [2] rfl ?_
      exact hK _ _ h
    · have h := it_f c h
      refine j_aload_n C dX7_leads_14 rfl 0 rfl 15 rfl ?_
      refine j_iload_n C dX7_leads_15 rfl 3 rfl 16 rfl ?_
      refine j_bipush C dX7_leads_16 (6 : Int32) (by decide) 18 rfl ?_
      obtain ⟨q1, e2, h⟩ := ob_some h
      refine j_callV C (ct_X7_of (eL E) G  e2) sh82 foX7 rfl vk_X7_of kw5_40 rfl ⟨Nat.le_of_ble_eq_true rfl, Nat.le_of_ble_eq_true rfl, rfl, rfl⟩ ⟨Nat.zero_le _, Nat.zero_le _⟩ (rest := []) rfl (Nat.le_of_ble_eq_true rfl) dX7_leads_18 (st1 := [.int q1.2]) rfl 21 rfl ?_
      refine j_aload_n C dX7_leads_21 rfl 0 rfl 22 rfl ?_
      refine j_iload_n C dX7_leads_22 rfl 1 rfl 23 rfl ?_
      refine j_bipush C dX7_leads_23 (6 : Int32) (by decide) 25 rfl ?_
      obtain ⟨q3, e4, h⟩ := ob_some h
      refine j_callV C (ct_X7_of (eL E) G  e4) sh82 foX7 rfl vk_X7_of kw5_40 rfl ⟨Nat.le_of_ble_eq_true rfl, Nat.le_of_ble_eq_true rfl, rfl, rfl⟩ ⟨Nat.zero_le _, Nat.zero_le _⟩ (rest := [.int q1.2]) rfl (Nat.le_of_ble_eq_true rfl) dX7_leads_25 (st1 := [.int q3.2, .int q1.2]) rfl 28 rfl ?_
      refine j_isub C dX7_leads_28 29 rfl ?_
      refine j_istore C dX7_leads_29 (by decide) [(4, .int (q1.2 - q3.2)), (0, .ref (gA G 82)), (1, .int v1), (2, .int v2), (3, .int v3)] rfl 31 rfl ?_
      refine j_iload_n C dX7_leads_31 rfl 3 rfl 32 rfl ?_
      refine j_if_eq C dX7_leads_32 63 (by decide) 35 rfl (fun c => ?_) (fun c => ?_)
      · have h := it_t c h
        refine j_iconst C dX7_leads_63 (0 : Int32) (by decide) 64 rfl ?_
        refine j_istore_n C dX7_leads_64 rfl (by decide) [(2, .int (0 : Int32)), (4, .int (q1.2 - q3.2)), (0, .ref (gA G 82)), (1, .int v1), (3, .int v3)] rfl 65 rfl ?_
        refine j_iinc C dX7_leads_65 4 rfl (v3 + (1 : Int32)) rfl (by decide) [(3, .int (v3 + (1 : Int32))), (2, .int (0 : Int32)), (4, .int (q1.2 - q3.2)), (0, .ref (gA G 82)), (1, .int v1)] rfl 68 rfl ?_
        refine j_goto C dX7_leads_68 4 (by decide) ?_
        refine j_sub [(0, .ref (gA G 82)), (1, .int v1), (2, .int (0 : Int32)), (3, .int (v3 + (1 : Int32)))] [3, 4, 1, 0] rfl ?_
        exact ih _ _ _ _ h
      · have h := it_f c h
        refine j_iload C dX7_leads_35 0 rfl 37 rfl ?_
        refine j_if_gt C dX7_leads_37 50 (by decide) 40 rfl (fun c => ?_) (fun c => ?_)
        · have h := it_t c h
          refine j_aload_n C dX7_leads_50 rfl 1 rfl 51 rfl ?_
          refine j_iload_n C dX7_leads_51 rfl 4 rfl 52 rfl ?_
          refine j_iload_n C dX7_leads_52 rfl 2 rfl 53 rfl ?_
          obtain ⟨q5, e6, h⟩ := ob_some h
          refine j_callV C (ct_X7_areRivals (eL E) G  e6) sh82 foX7 rfl vk_X7_areRivals kw5_52 rfl ⟨Nat.le_of_ble_eq_true rfl, Nat.le_of_ble_eq_true rfl, rfl, rfl⟩ ⟨Nat.zero_le _, Nat.zero_le _⟩ (rest := []) rfl (Nat.le_of_ble_eq_true rfl) dX7_leads_53 (st1 := [.int q5.2]) rfl 56 rfl ?_
          refine j_if_ne C dX7_leads_56 63 (by decide) 59 rfl (fun c => ?_) (fun c => ?_)
          · have h := it_f c h
            refine j_iconst C dX7_leads_63 (0 : Int32) (by decide) 64 rfl ?_
            refine j_istore_n C dX7_leads_64 rfl (by decide) [(2, .int (0 : Int32)), (4, .int (q1.2 - q3.2)), (0, .ref (gA G 82)), (1, .int v1), (3, .int v3)] rfl 65 rfl ?_
            refine j_iinc C dX7_leads_65 4 rfl (v3 + (1 : Int32)) rfl (by decide) [(3, .int (v3 + (1 : Int32))), (2, .int (0 : Int32)), (4, .int (q1.2 - q3.2)), (0, .ref (gA G 82)), (1, .int v1)] rfl 68 rfl ?_
            refine j_goto C dX7_leads_68 4 (by decide) ?_
            refine j_sub [(0, .ref (gA G 82)), (1, .int v1), (2, .int (0 : Int32)), (3, .int (v3 + (1 : Int32)))] [3, 4, 1, 0] rfl ?_
            exact ih _ _ _ _ h
          · have h := it_t c h
            refine j_iconst C dX7_leads_59 (1 : Int32) (by decide) 60 rfl ?_
            refine j_goto C dX7_leads_60 64 (by decide) ?_
            refine j_istore_n C dX7_leads_64 rfl (by decide) [(2, .int (1 : Int32)), (4, .int (q1.2 - q3.2)), (0, .ref (gA G 82)), (1, .int v1), (3, .int v3)] rfl 65 rfl ?_
            refine j_iinc C dX7_leads_65 4 rfl (v3 + (1 : Int32)) rfl (by decide) [(3, .int (v3 + (1 : Int32))), (2, .int (1 : Int32)), (4, .int (q1.2 - q3.2)), (0, .ref (gA G 82)), (1, .int v1)] rfl 68 rfl ?_
            refine j_goto C dX7_leads_68 4 (by decide) ?_
            refine j_sub [(0, .ref (gA G 82)), (1, .int v1), (2, .int (1 : Int32)), (3, .int (v3 + (1 : Int32)))] [3, 4, 1, 0] rfl ?_
            exact ih _ _ _ _ h
        · have h := it_f c h
          refine j_iload C dX7_leads_40 0 rfl 42 rfl ?_
          refine j_if_ne C dX7_leads_42 59 (by decide) 45 rfl (fun c => ?_) (fun c => ?_)
          · have h := it_f c h
            refine j_iconst C dX7_leads_59 (1 : Int32) (by decide) 60 rfl ?_
            refine j_goto C dX7_leads_60 64 (by decide) ?_
            refine j_istore_n C dX7_leads_64 rfl (by decide) [(2, .int (1 : Int32)), (4, .int (q1.2 - q3.2)), (0, .ref (gA G 82)), (1, .int v1), (3, .int v3)] rfl 65 rfl ?_
            refine j_iinc C dX7_leads_65 4 rfl (v3 + (1 : Int32)) rfl (by decide) [(3, .int (v3 + (1 : Int32))), (2, .int (1 : Int32)), (4, .int (q1.2 - q3.2)), (0, .ref (gA G 82)), (1, .int v1)] rfl 68 rfl ?_
            refine j_goto C dX7_leads_68 4 (by decide) ?_
            refine j_sub [(0, .ref (gA G 82)), (1, .int v1), (2, .int (1 : Int32)), (3, .int (v3 + (1 : Int32)))] [3, 4, 1, 0] rfl ?_
            exact ih _ _ _ _ h
          · have h := it_t c h
            refine j_iload_n C dX7_leads_45 rfl 4 rfl 46 rfl ?_
            refine j_iload_n C dX7_leads_46 rfl 2 rfl 47 rfl ?_
            refine j_icmp_ge C dX7_leads_47 59 (by decide) 50 rfl (fun c => ?_) (fun c => ?_)
            · have h := it_t c h
              refine j_iconst C dX7_leads_59 (1 : Int32) (by decide) 60 rfl ?_
              refine j_goto C dX7_leads_60 64 (by decide) ?_
              refine j_istore_n C dX7_leads_64 rfl (by decide) [(2, .int (1 : Int32)), (4, .int (q1.2 - q3.2)), (0, .ref (gA G 82)), (1, .int v1), (3, .int v3)] rfl 65 rfl ?_
              refine j_iinc C dX7_leads_65 4 rfl (v3 + (1 : Int32)) rfl (by decide) [(3, .int (v3 + (1 : Int32))), (2, .int (1 : Int32)), (4, .int (q1.2 - q3.2)), (0, .ref (gA G 82)), (1, .int v1)] rfl 68 rfl ?_
              refine j_goto C dX7_leads_68 4 (by decide) ?_
              refine j_sub [(0, .ref (gA G 82)), (1, .int v1), (2, .int (1 : Int32)), (3, .int (v3 + (1 : Int32)))] [3, 4, 1, 0] rfl ?_
              exact ih _ _ _ _ h
            · have h := it_f c h
              refine j_aload_n C dX7_leads_50 rfl 1 rfl 51 rfl ?_
              refine j_iload_n C dX7_leads_51 rfl 4 rfl 52 rfl ?_
              refine j_iload_n C dX7_leads_52 rfl 2 rfl 53 rfl ?_
              obtain ⟨q7, e8, h⟩ := ob_some h
              refine j_callV C (ct_X7_areRivals (eL E) G  e8) sh82 foX7 rfl vk_X7_areRivals kw5_52 rfl ⟨Nat.le_of_ble_eq_true rfl, Nat.le_of_ble_eq_true rfl, rfl, rfl⟩ ⟨Nat.zero_le _, Nat.zero_le _⟩ (rest := []) rfl (Nat.le_of_ble_eq_true rfl) dX7_leads_53 (st1 := [.int q7.2]) rfl 56 rfl ?_
              refine j_if_ne C dX7_leads_56 63 (by decide) 59 rfl (fun c => ?_) (fun c => ?_)
              · have h := it_f c h
                refine j_iconst C dX7_leads_63 (0 : Int32) (by decide) 64 rfl ?_
                refine j_istore_n C dX7_leads_64 rfl (by decide) [(2, .int (0 : Int32)), (4, .int (q1.2 - q3.2)), (0, .ref (gA G 82)), (1, .int v1), (3, .int v3)] rfl 65 rfl ?_
                refine j_iinc C dX7_leads_65 4 rfl (v3 + (1 : Int32)) rfl (by decide) [(3, .int (v3 + (1 : Int32))), (2, .int (0 : Int32)), (4, .int (q1.2 - q3.2)), (0, .ref (gA G 82)), (1, .int v1)] rfl 68 rfl ?_
                refine j_goto C dX7_leads_68 4 (by decide) ?_
                refine j_sub [(0, .ref (gA G 82)), (1, .int v1), (2, .int (0 : Int32)), (3, .int (v3 + (1 : Int32)))] [3, 4, 1, 0] rfl ?_
                exact ih _ _ _ _ h
              · have h := it_t c h
                refine j_iconst C dX7_leads_59 (1 : Int32) (by decide) 60 rfl ?_
                refine j_goto C dX7_leads_60 64 (by decide) ?_
                refine j_istore_n C dX7_leads_64 rfl (by decide) [(2, .int (1 : Int32)), (4, .int (q1.2 - q3.2)), (0, .ref (gA G 82)), (1, .int v1), (3, .int v3)] rfl 65 rfl ?_
                refine j_iinc C dX7_leads_65 4 rfl (v3 + (1 : Int32)) rfl (by decide) [(3, .int (v3 + (1 : Int32))), (2, .int (1 : Int32)), (4, .int (q1.2 - q3.2)), (0, .ref (gA G 82)), (1, .int v1)] rfl 68 rfl ?_
                refine j_goto C dX7_leads_68 4 (by decide) ?_
                refine j_sub [(0, .ref (gA G 82)), (1, .int v1), (2, .int (1 : Int32)), (3, .int (v3 + (1 : Int32)))] [3, 4, 1, 0] rfl ?_
                exact ih _ _ _ _ h
def X7_leads (σ : Mem) (p1 : Int32) : Option (Mem × Int32) :=
  X7_leads_4 (fun (σ : Mem) (v2 : Int32) => (if v2 &&& 1 = v2 then some (σ, v2) else none)) FU σ p1 (1 : Int32) (0 : Int32)
set_option maxHeartbeats 4000000 in
set_option maxRecDepth 100000 in
theorem ct_X7_leads (l : Launch) (G : Gw)  {σ : Mem} {p1 : Int32} {out : Mem × Int32} (h : X7_leads σ p1 = some out) : Ct l G yX7_leads cX7_leads 5 (some .boolean) { frames := 2, cells := 0, slots := 0, locals := 46 } [.ref (gA G 82), .int p1] σ out.1 (some (.int out.2)) := by
  refine Ct.of (by decide +kernel) (Nat.le_of_ble_eq_true rfl) (fun E hE C F => ?_)
  subst hE
  have C : Cx E G RX7 cX7_leads 5 { frames := 2, cells := 0, slots := 0, locals := 46 } := C
  unfold X7_leads at h
  show J E G 5 0 0 σ 0 [(0, .ref (gA G 82)), (1, .int p1)] []
  refine j_iconst C dX7_leads_0 (1 : Int32) (by decide) 1 rfl ?_
  refine j_istore_n C dX7_leads_1 rfl (by decide) [(2, .int (1 : Int32)), (0, .ref (gA G 82)), (1, .int p1)] rfl 2 rfl ?_
  refine j_iconst C dX7_leads_2 (0 : Int32) (by decide) 3 rfl ?_
  refine j_istore_n C dX7_leads_3 rfl (by decide) [(3, .int (0 : Int32)), (2, .int (1 : Int32)), (0, .ref (gA G 82)), (1, .int p1)] rfl 4 rfl ?_
  refine j_sub [(0, .ref (gA G 82)), (1, .int p1), (2, .int (1 : Int32)), (3, .int (0 : Int32))] [2, 3, 1, 0] rfl ?_
  refine w_X7_leads_4 C F  (fun σ v2 h => ?_) FU _ _ _ _ h
  refine j_iload_n C dX7_leads_71 rfl 0 rfl 72 rfl ?_
  obtain ⟨hb, h⟩ := if_some h
  exact j_zret C F dX7_leads_72 hb h

-- ===== StenoChordsModel.keysOfEntry(I)I
theorem vk_X7_keysOfEntry : VK yX7_keysOfEntry cX7_keysOfEntry 4 (some .int) 1 := ⟨kw5_162, kw5_161, kwS_45, kw1_9, by decide +kernel⟩
def X7_keysOfEntry_4 (K : Mem → Int32 → Option (Mem × Int32)) : Nat → Mem → Int32 → Int32 → Int32 → Option (Mem × Int32)
  | 0, _, _, _, _ => none
  | fu + 1, σ, v1, v2, v3 => ((X7_of σ v1 (0 : Int32)).bind fun q1 => (if q1.2 ≤ v3 then K q1.1 v2 else ((X7_of q1.1 v1 ((1 : Int32) + v3)).bind fun q3 => ((X7_keysOf q3.1 q3.2).bind fun q5 => X7_keysOfEntry_4 K fu q5.1 v1 (v2 + q5.2) (v3 + (1 : Int32))))))
set_option maxHeartbeats 4000000 in
set_option maxRecDepth 100000 in
theorem w_X7_keysOfEntry_4 {E : Ev} {G : Gw} (C : Cx E G RX7 cX7_keysOfEntry 4 { frames := 1, cells := 0, slots := 0, locals := 22 }) {out : Mem × Int32} (F : Ef E G out.1 (some (.int out.2)) (some .int) 0 0)  {K : Mem → Int32 → Option (Mem × Int32)} (hK : ∀ (σ : Mem) (v2 : Int32), K σ v2 = some out → J E G 4 0 0 σ 34 [(2, .int v2)] []) : ∀ (fu : Nat) (σ : Mem) (v1 : Int32) (v2 : Int32) (v3 : Int32), X7_keysOfEntry_4 K fu σ v1 v2 v3 = some out → J E G 4 0 0 σ 4 [(0, .ref (gA G 82)), (1, .int v1), (2, .int v2), (3, .int v3)] [] := by
  intro fu
  induction fu with
  | zero => intro σ v1 v2 v3 h; rw [X7_keysOfEntry_4] at h; cases h
  | succ fu ih =>
    intro σ v1 v2 v3 h
    rw [X7_keysOfEntry_4] at h
    refine j_iload_n C dX7_keysOfEntry_4 rfl 3 rfl 5 rfl ?_
    refine j_aload_n C dX7_keysOfEntry_5 rfl 0 rfl 6 rfl ?_
    refine j_iload_n C dX7_keysOfEntry_6 rfl 1 rfl 7 rfl ?_
    refine j_iconst C dX7_keysOfEntry_7 (0 : Int32) (by decide) 8 rfl ?_
    obtain ⟨q1, e2, h⟩ := ob_some h
    refine j_callV C (ct_X7_of (eL E) G  e2) sh82 foX7 rfl vk_X7_of kw5_40 rfl ⟨Nat.le_of_ble_eq_true rfl, Nat.le_of_ble_eq_true rfl, rfl, rfl⟩ ⟨Nat.zero_le _, Nat.zero_le _⟩ (rest := [.int v3]) rfl (Nat.le_of_ble_eq_true rfl) dX7_keysOfEntry_8 (st1 := [.int q1.2, .int v3]) rfl 11 rfl ?_
    refine j_icmp_ge C dX7_keysOfEntry_11 34 (by decide) 14 rfl (fun c => ?_) (fun c => ?_)
    · have h := it_t c h
      refine j_sub [(2, .int v2)] [2] rfl ?_
      exact hK _ _ h
    · have h := it_f c h
      refine j_iload_n C dX7_keysOfEntry_14 rfl 2 rfl 15 rfl ?_
      refine j_aload_n C dX7_keysOfEntry_15 rfl 0 rfl 16 rfl ?_
      refine j_iload_n C dX7_keysOfEntry_16 rfl 1 rfl 17 rfl ?_
      refine j_iconst C dX7_keysOfEntry_17 (1 : Int32) (by decide) 18 rfl ?_
      refine j_iload_n C dX7_keysOfEntry_18 rfl 3 rfl 19 rfl ?_
      refine j_iadd C dX7_keysOfEntry_19 20 rfl ?_
      obtain ⟨q3, e4, h⟩ := ob_some h
      refine j_callV C (ct_X7_of (eL E) G  e4) sh82 foX7 rfl vk_X7_of kw5_40 rfl ⟨Nat.le_of_ble_eq_true rfl, Nat.le_of_ble_eq_true rfl, rfl, rfl⟩ ⟨Nat.zero_le _, Nat.zero_le _⟩ (rest := [.int v2]) rfl (Nat.le_of_ble_eq_true rfl) dX7_keysOfEntry_20 (st1 := [.int q3.2, .int v2]) rfl 23 rfl ?_
      obtain ⟨q5, e6, h⟩ := ob_some h
      refine j_callS C (ct_X7_keysOf (eL E) G  e6) vk_X7_keysOf kw5_25 rfl ⟨Nat.le_of_ble_eq_true rfl, Nat.le_of_ble_eq_true rfl, rfl, rfl⟩ ⟨Nat.zero_le _, Nat.zero_le _⟩ (rest := [.int v2]) rfl (Nat.le_of_ble_eq_true rfl) dX7_keysOfEntry_23 (st1 := [.int q5.2, .int v2]) rfl 26 rfl ?_
      refine j_iadd C dX7_keysOfEntry_26 27 rfl ?_
      refine j_istore_n C dX7_keysOfEntry_27 rfl (by decide) [(2, .int (v2 + q5.2)), (0, .ref (gA G 82)), (1, .int v1), (3, .int v3)] rfl 28 rfl ?_
      refine j_iinc C dX7_keysOfEntry_28 3 rfl (v3 + (1 : Int32)) rfl (by decide) [(3, .int (v3 + (1 : Int32))), (2, .int (v2 + q5.2)), (0, .ref (gA G 82)), (1, .int v1)] rfl 31 rfl ?_
      refine j_goto C dX7_keysOfEntry_31 4 (by decide) ?_
      refine j_sub [(0, .ref (gA G 82)), (1, .int v1), (2, .int (v2 + q5.2)), (3, .int (v3 + (1 : Int32)))] [2, 3, 1, 0] rfl ?_
      exact ih _ _ _ _ h
def X7_keysOfEntry (σ : Mem) (p1 : Int32) : Option (Mem × Int32) :=
  X7_keysOfEntry_4 (fun (σ : Mem) (v2 : Int32) => some (σ, v2)) FU σ p1 (0 : Int32) (0 : Int32)
set_option maxHeartbeats 4000000 in
set_option maxRecDepth 100000 in
theorem ct_X7_keysOfEntry (l : Launch) (G : Gw)  {σ : Mem} {p1 : Int32} {out : Mem × Int32} (h : X7_keysOfEntry σ p1 = some out) : Ct l G yX7_keysOfEntry cX7_keysOfEntry 4 (some .int) { frames := 1, cells := 0, slots := 0, locals := 22 } [.ref (gA G 82), .int p1] σ out.1 (some (.int out.2)) := by
  refine Ct.of (by decide +kernel) (Nat.le_of_ble_eq_true rfl) (fun E hE C F => ?_)
  subst hE
  have C : Cx E G RX7 cX7_keysOfEntry 4 { frames := 1, cells := 0, slots := 0, locals := 22 } := C
  unfold X7_keysOfEntry at h
  show J E G 4 0 0 σ 0 [(0, .ref (gA G 82)), (1, .int p1)] []
  refine j_iconst C dX7_keysOfEntry_0 (0 : Int32) (by decide) 1 rfl ?_
  refine j_istore_n C dX7_keysOfEntry_1 rfl (by decide) [(2, .int (0 : Int32)), (0, .ref (gA G 82)), (1, .int p1)] rfl 2 rfl ?_
  refine j_iconst C dX7_keysOfEntry_2 (0 : Int32) (by decide) 3 rfl ?_
  refine j_istore_n C dX7_keysOfEntry_3 rfl (by decide) [(3, .int (0 : Int32)), (2, .int (0 : Int32)), (0, .ref (gA G 82)), (1, .int p1)] rfl 4 rfl ?_
  refine j_sub [(0, .ref (gA G 82)), (1, .int p1), (2, .int (0 : Int32)), (3, .int (0 : Int32))] [2, 3, 1, 0] rfl ?_
  refine w_X7_keysOfEntry_4 C F  (fun σ v2 h => ?_) FU _ _ _ _ h
  refine j_iload_n C dX7_keysOfEntry_34 rfl 0 rfl 35 rfl ?_
  exact j_iret C F dX7_keysOfEntry_35 h

-- ===== StenoChordsModel.isRow(II)Z
theorem vk_X7_isRow : VK yX7_isRow cX7_isRow 6 (some .boolean) 2 := ⟨kw5_47, kw5_46, kwS_32, kw1_9, by decide +kernel⟩
def X7_isRow_27 (K : Mem → Int32 → Option (Mem × Int32)) : Nat → Mem → Int32 → Int32 → Int32 → Int32 → Int32 → Option (Mem × Int32)
  | 0, _, _, _, _, _, _ => none
  | fu + 1, σ, v1, v2, v3, v4, v5 => (if v3 ≤ v5 then K σ v4 else (if v4 = 0 then K σ v4 else (if inA (v2 + v5) 61 then ((X7_of σ v1 ((1 : Int32) + v5)).bind fun q3 => (if (σ.1 86 (v2 + v5).toNatClampNeg) = q3.2 then X7_isRow_27 K fu q3.1 v1 v2 v3 (1 : Int32) (v5 + (1 : Int32)) else X7_isRow_27 K fu q3.1 v1 v2 v3 (0 : Int32) (v5 + (1 : Int32)))) else none)))
set_option maxHeartbeats 4000000 in
set_option maxRecDepth 100000 in
theorem w_X7_isRow_27 {E : Ev} {G : Gw} (C : Cx E G RX7 cX7_isRow 6 { frames := 1, cells := 0, slots := 0, locals := 22 }) {out : Mem × Int32} (F : Ef E G out.1 (some (.int out.2)) (some .boolean) 0 0)  {K : Mem → Int32 → Option (Mem × Int32)} (hK : ∀ (σ : Mem) (v4 : Int32), K σ v4 = some out → J E G 6 0 0 σ 72 [(4, .int v4)] []) : ∀ (fu : Nat) (σ : Mem) (v1 : Int32) (v2 : Int32) (v3 : Int32) (v4 : Int32) (v5 : Int32), X7_isRow_27 K fu σ v1 v2 v3 v4 v5 = some out → J E G 6 0 0 σ 27 [(0, .ref (gA G 82)), (1, .int v1), (2, .int v2), (3, .int v3), (4, .int v4), (5, .int v5)] [] := by
  intro fu
  induction fu with
  | zero => intro σ v1 v2 v3 v4 v5 h; rw [X7_isRow_27] at h; cases h
  | succ fu ih =>
    intro σ v1 v2 v3 v4 v5 h
    rw [X7_isRow_27] at h
    refine j_iload C dX7_isRow_27 5 rfl 29 rfl ?_
    refine j_iload_n C dX7_isRow_29 rfl 3 rfl 30 rfl ?_
    refine j_icmp_ge C dX7_isRow_30 72 (by decide) 33 rfl (fun c => ?_) (fun c => ?_)
    · have h := it_t c h
      refine j_sub [(4, .int v4)] [4] rfl ?_
      exact hK _ _ h
    · have h := it_f c h
      refine j_iload C dX7_isRow_33 4 rfl 35 rfl ?_
      refine j_if_eq C dX7_isRow_35 72 (by decide) 38 rfl (fun c => ?_) (fun c => ?_)
      · have h := it_t c h
        refine j_sub [(4, .int v4)] [4] rfl ?_
        exact hK _ _ h
      · have h := it_f c h
        refine j_aload_n C dX7_isRow_38 rfl 0 rfl 39 rfl ?_
        refine j_get C foX7 sh82 9 (by decide) 88 rfl kw4_191 rfl dX7_isRow_39 (.ref (gA G 86)) (fv_r rfl) 42 rfl ?_
        refine j_iload_n C dX7_isRow_42 rfl 2 rfl 43 rfl ?_
        refine j_iload C dX7_isRow_43 5 rfl 45 rfl ?_
        refine j_iadd C dX7_isRow_45 46 rfl ?_
        obtain ⟨hc, h⟩ := if_some h
        refine j_iald C sh86 hc dX7_isRow_46 (v2 + v5).toNatClampNeg rfl 47 rfl ?_
        refine j_aload_n C dX7_isRow_47 rfl 0 rfl 48 rfl ?_
        refine j_iload_n C dX7_isRow_48 rfl 1 rfl 49 rfl ?_
        refine j_iconst C dX7_isRow_49 (1 : Int32) (by decide) 50 rfl ?_
        refine j_iload C dX7_isRow_50 5 rfl 52 rfl ?_
        refine j_iadd C dX7_isRow_52 53 rfl ?_
        obtain ⟨q3, e4, h⟩ := ob_some h
        refine j_callV C (ct_X7_of (eL E) G  e4) sh82 foX7 rfl vk_X7_of kw5_40 rfl ⟨Nat.le_of_ble_eq_true rfl, Nat.le_of_ble_eq_true rfl, rfl, rfl⟩ ⟨Nat.zero_le _, Nat.zero_le _⟩ (rest := [.int (σ.1 86 (v2 + v5).toNatClampNeg)]) rfl (Nat.le_of_ble_eq_true rfl) dX7_isRow_53 (st1 := [.int q3.2, .int (σ.1 86 (v2 + v5).toNatClampNeg)]) rfl 56 rfl ?_
        refine j_icmp_ne C dX7_isRow_56 63 (by decide) 59 rfl (fun c => ?_) (fun c => ?_)
        · have h := it_f c h
          refine j_iconst C dX7_isRow_63 (0 : Int32) (by decide) 64 rfl ?_
          refine j_istore C dX7_isRow_64 (by decide) [(4, .int (0 : Int32)), (0, .ref (gA G 82)), (1, .int v1), (2, .int v2), (3, .int v3), (5, .int v5)] rfl 66 rfl ?_
          refine j_iinc C dX7_isRow_66 5 rfl (v5 + (1 : Int32)) rfl (by decide) [(5, .int (v5 + (1 : Int32))), (4, .int (0 : Int32)), (0, .ref (gA G 82)), (1, .int v1), (2, .int v2), (3, .int v3)] rfl 69 rfl ?_
          refine j_goto C dX7_isRow_69 27 (by decide) ?_
          refine j_sub [(0, .ref (gA G 82)), (1, .int v1), (2, .int v2), (3, .int v3), (4, .int (0 : Int32)), (5, .int (v5 + (1 : Int32)))] [2, 3, 4, 5, 1, 0] rfl ?_
          exact ih _ _ _ _ _ _ h
        · have h := it_t c h
          refine j_iconst C dX7_isRow_59 (1 : Int32) (by decide) 60 rfl ?_
          refine j_goto C dX7_isRow_60 64 (by decide) ?_
          refine j_istore C dX7_isRow_64 (by decide) [(4, .int (1 : Int32)), (0, .ref (gA G 82)), (1, .int v1), (2, .int v2), (3, .int v3), (5, .int v5)] rfl 66 rfl ?_
          refine j_iinc C dX7_isRow_66 5 rfl (v5 + (1 : Int32)) rfl (by decide) [(5, .int (v5 + (1 : Int32))), (4, .int (1 : Int32)), (0, .ref (gA G 82)), (1, .int v1), (2, .int v2), (3, .int v3)] rfl 69 rfl ?_
          refine j_goto C dX7_isRow_69 27 (by decide) ?_
          refine j_sub [(0, .ref (gA G 82)), (1, .int v1), (2, .int v2), (3, .int v3), (4, .int (1 : Int32)), (5, .int (v5 + (1 : Int32)))] [2, 3, 4, 5, 1, 0] rfl ?_
          exact ih _ _ _ _ _ _ h
def X7_isRow (σ : Mem) (p1 : Int32) (p2 : Int32) : Option (Mem × Int32) :=
  ((X7_of σ p1 (0 : Int32)).bind fun q1 => (if (q1.1.1 82 10) < (p2 + q1.2) then X7_isRow_27 (fun (σ : Mem) (v4 : Int32) => (if v4 &&& 1 = v4 then some (σ, v4) else none)) FU q1.1 p1 p2 q1.2 (0 : Int32) (0 : Int32) else X7_isRow_27 (fun (σ : Mem) (v4 : Int32) => (if v4 &&& 1 = v4 then some (σ, v4) else none)) FU q1.1 p1 p2 q1.2 (1 : Int32) (0 : Int32)))
set_option maxHeartbeats 4000000 in
set_option maxRecDepth 100000 in
theorem ct_X7_isRow (l : Launch) (G : Gw)  {σ : Mem} {p1 : Int32} {p2 : Int32} {out : Mem × Int32} (h : X7_isRow σ p1 p2 = some out) : Ct l G yX7_isRow cX7_isRow 6 (some .boolean) { frames := 1, cells := 0, slots := 0, locals := 22 } [.ref (gA G 82), .int p1, .int p2] σ out.1 (some (.int out.2)) := by
  refine Ct.of (by decide +kernel) (Nat.le_of_ble_eq_true rfl) (fun E hE C F => ?_)
  subst hE
  have C : Cx E G RX7 cX7_isRow 6 { frames := 1, cells := 0, slots := 0, locals := 22 } := C
  unfold X7_isRow at h
  show J E G 6 0 0 σ 0 [(0, .ref (gA G 82)), (1, .int p1), (2, .int p2)] []
  refine j_aload_n C dX7_isRow_0 rfl 0 rfl 1 rfl ?_
  refine j_iload_n C dX7_isRow_1 rfl 1 rfl 2 rfl ?_
  refine j_iconst C dX7_isRow_2 (0 : Int32) (by decide) 3 rfl ?_
  obtain ⟨q1, e2, h⟩ := ob_some h
  refine j_callV C (ct_X7_of (eL E) G  e2) sh82 foX7 rfl vk_X7_of kw5_40 rfl ⟨Nat.le_of_ble_eq_true rfl, Nat.le_of_ble_eq_true rfl, rfl, rfl⟩ ⟨Nat.zero_le _, Nat.zero_le _⟩ (rest := []) rfl (Nat.le_of_ble_eq_true rfl) dX7_isRow_3 (st1 := [.int q1.2]) rfl 6 rfl ?_
  refine j_istore_n C dX7_isRow_6 rfl (by decide) [(3, .int q1.2), (0, .ref (gA G 82)), (1, .int p1), (2, .int p2)] rfl 7 rfl ?_
  refine j_iload_n C dX7_isRow_7 rfl 3 rfl 8 rfl ?_
  refine j_iload_n C dX7_isRow_8 rfl 0 rfl 9 rfl ?_
  refine j_iadd C dX7_isRow_9 10 rfl ?_
  refine j_aload_n C dX7_isRow_10 rfl 1 rfl 11 rfl ?_
  refine j_get C foX7 sh82 10 (by decide) 0 rfl kw4_192 rfl dX7_isRow_11 (.int (q1.1.1 82 10)) rfl 14 rfl ?_
  refine j_icmp_gt C dX7_isRow_14 21 (by decide) 17 rfl (fun c => ?_) (fun c => ?_)
  · have h := it_t c h
    refine j_iconst C dX7_isRow_21 (0 : Int32) (by decide) 22 rfl ?_
    refine j_istore C dX7_isRow_22 (by decide) [(4, .int (0 : Int32)), (3, .int q1.2), (0, .ref (gA G 82)), (1, .int p1), (2, .int p2)] rfl 24 rfl ?_
    refine j_iconst C dX7_isRow_24 (0 : Int32) (by decide) 25 rfl ?_
    refine j_istore C dX7_isRow_25 (by decide) [(5, .int (0 : Int32)), (4, .int (0 : Int32)), (3, .int q1.2), (0, .ref (gA G 82)), (1, .int p1), (2, .int p2)] rfl 27 rfl ?_
    refine j_sub [(0, .ref (gA G 82)), (1, .int p1), (2, .int p2), (3, .int q1.2), (4, .int (0 : Int32)), (5, .int (0 : Int32))] [3, 4, 5, 2, 1, 0] rfl ?_
    refine w_X7_isRow_27 C F  (fun σ v4 h => ?_) FU _ _ _ _ _ _ h
    refine j_iload C dX7_isRow_72 0 rfl 74 rfl ?_
    obtain ⟨hb, h⟩ := if_some h
    exact j_zret C F dX7_isRow_74 hb h
  · have h := it_f c h
    refine j_iconst C dX7_isRow_17 (1 : Int32) (by decide) 18 rfl ?_
    refine j_goto C dX7_isRow_18 22 (by decide) ?_
    refine j_istore C dX7_isRow_22 (by decide) [(4, .int (1 : Int32)), (3, .int q1.2), (0, .ref (gA G 82)), (1, .int p1), (2, .int p2)] rfl 24 rfl ?_
    refine j_iconst C dX7_isRow_24 (0 : Int32) (by decide) 25 rfl ?_
    refine j_istore C dX7_isRow_25 (by decide) [(5, .int (0 : Int32)), (4, .int (1 : Int32)), (3, .int q1.2), (0, .ref (gA G 82)), (1, .int p1), (2, .int p2)] rfl 27 rfl ?_
    refine j_sub [(0, .ref (gA G 82)), (1, .int p1), (2, .int p2), (3, .int q1.2), (4, .int (1 : Int32)), (5, .int (0 : Int32))] [3, 4, 5, 2, 1, 0] rfl ?_
    refine w_X7_isRow_27 C F  (fun σ v4 h => ?_) FU _ _ _ _ _ _ h
    refine j_iload C dX7_isRow_72 0 rfl 74 rfl ?_
    obtain ⟨hb, h⟩ := if_some h
    exact j_zret C F dX7_isRow_74 hb h

-- ===== StenoChordsModel.entryAt(I)I
theorem vk_X7_entryAt : VK yX7_entryAt cX7_entryAt 5 (some .int) 1 := ⟨kw5_39, kw5_38, kwS_30, kw1_9, by decide +kernel⟩
def X7_entryAt_36 (K : Mem → Int32 → Option (Mem × Int32)) (rc : Mem → Int32 → Int32 → Int32 → Option (Mem × Int32)) (σ : Mem) (v1 : Int32) (v2 : Int32) (v3 : Int32) (s0 : Int32) : Option (Mem × Int32) :=
  (if s0 ≤ 0 then rc σ v1 v2 (v3 + (1 : Int32)) else ((X7_of σ v3 (0 : Int32)).bind fun q5 => (if (q5.1.1 83 3) < q5.2 then rc q5.1 v1 v2 (v3 + (1 : Int32)) else ((X7_isRow q5.1 v3 v1).bind fun q7 => (if q7.2 = 0 then rc q7.1 v1 v2 (v3 + (1 : Int32)) else ((X7_leads q7.1 v3).bind fun q9 => (if q9.2 = 0 then rc q9.1 v1 v2 (v3 + (1 : Int32)) else rc q9.1 v1 v3 (v3 + (1 : Int32)))))))))
set_option maxHeartbeats 4000000 in
set_option maxRecDepth 100000 in
theorem w_X7_entryAt_36 {E : Ev} {G : Gw} (C : Cx E G RX7 cX7_entryAt 5 { frames := 3, cells := 0, slots := 0, locals := 70 }) {out : Mem × Int32} (F : Ef E G out.1 (some (.int out.2)) (some .int) 0 0)  {K : Mem → Int32 → Option (Mem × Int32)} (hK : ∀ (σ : Mem) (v2 : Int32), K σ v2 = some out → J E G 5 0 0 σ 83 [(2, .int v2)] []) {rc : Mem → Int32 → Int32 → Int32 → Option (Mem × Int32)} (hrc : ∀ (σ : Mem) (v1 : Int32) (v2 : Int32) (v3 : Int32), rc σ v1 v2 v3 = some out → J E G 5 0 0 σ 4 [(0, .ref (gA G 82)), (1, .int v1), (2, .int v2), (3, .int v3)] []) (σ : Mem) (v1 : Int32) (v2 : Int32) (v3 : Int32) (s0 : Int32) (h : X7_entryAt_36 K rc σ v1 v2 v3 s0 = some out) : J E G 5 0 0 σ 36 [(0, .ref (gA G 82)), (1, .int v1), (2, .int v2), (3, .int v3)] [.int s0] := by
  unfold X7_entryAt_36 at h
  refine j_istore C dX7_entryAt_36 (by decide) [(4, .int s0), (0, .ref (gA G 82)), (1, .int v1), (2, .int v2), (3, .int v3)] rfl 38 rfl ?_
  refine j_iload C dX7_entryAt_38 0 rfl 40 rfl ?_
  refine j_if_le C dX7_entryAt_40 77 (by decide) 43 rfl (fun c => ?_) (fun c => ?_)
  · have h := it_t c h
    refine j_iinc C dX7_entryAt_77 4 rfl (v3 + (1 : Int32)) rfl (by decide) [(3, .int (v3 + (1 : Int32))), (4, .int s0), (0, .ref (gA G 82)), (1, .int v1), (2, .int v2)] rfl 80 rfl ?_
    refine j_goto C dX7_entryAt_80 4 (by decide) ?_
    refine j_sub [(0, .ref (gA G 82)), (1, .int v1), (2, .int v2), (3, .int (v3 + (1 : Int32)))] [2, 3, 4, 0] rfl ?_
    exact hrc _ _ _ _ h
  · have h := it_f c h
    refine j_aload_n C dX7_entryAt_43 rfl 1 rfl 44 rfl ?_
    refine j_iload_n C dX7_entryAt_44 rfl 4 rfl 45 rfl ?_
    refine j_iconst C dX7_entryAt_45 (0 : Int32) (by decide) 46 rfl ?_
    obtain ⟨q5, e6, h⟩ := ob_some h
    refine j_callV C (ct_X7_of (eL E) G  e6) sh82 foX7 rfl vk_X7_of kw5_40 rfl ⟨Nat.le_of_ble_eq_true rfl, Nat.le_of_ble_eq_true rfl, rfl, rfl⟩ ⟨Nat.zero_le _, Nat.zero_le _⟩ (rest := []) rfl (Nat.le_of_ble_eq_true rfl) dX7_entryAt_46 (st1 := [.int q5.2]) rfl 49 rfl ?_
    refine j_aload_n C dX7_entryAt_49 rfl 1 rfl 50 rfl ?_
    refine j_get C foX7 sh82 1 (by decide) 85 rfl kw4_183 rfl dX7_entryAt_50 (.ref (gA G 83)) (fv_r rfl) 53 rfl ?_
    refine j_iconst C dX7_entryAt_53 (3 : Int32) (by decide) 54 rfl ?_
    refine j_iald C sh83 (by decide) dX7_entryAt_54 3 rfl 55 rfl ?_
    refine j_icmp_gt C dX7_entryAt_55 77 (by decide) 58 rfl (fun c => ?_) (fun c => ?_)
    · have h := it_t c h
      refine j_iinc C dX7_entryAt_77 4 rfl (v3 + (1 : Int32)) rfl (by decide) [(3, .int (v3 + (1 : Int32))), (4, .int s0), (0, .ref (gA G 82)), (1, .int v1), (2, .int v2)] rfl 80 rfl ?_
      refine j_goto C dX7_entryAt_80 4 (by decide) ?_
      refine j_sub [(0, .ref (gA G 82)), (1, .int v1), (2, .int v2), (3, .int (v3 + (1 : Int32)))] [2, 3, 4, 0] rfl ?_
      exact hrc _ _ _ _ h
    · have h := it_f c h
      refine j_aload_n C dX7_entryAt_58 rfl 1 rfl 59 rfl ?_
      refine j_iload_n C dX7_entryAt_59 rfl 4 rfl 60 rfl ?_
      refine j_iload_n C dX7_entryAt_60 rfl 2 rfl 61 rfl ?_
      obtain ⟨q7, e8, h⟩ := ob_some h
      refine j_callV C (ct_X7_isRow (eL E) G  e8) sh82 foX7 rfl vk_X7_isRow kw5_44 rfl ⟨Nat.le_of_ble_eq_true rfl, Nat.le_of_ble_eq_true rfl, rfl, rfl⟩ ⟨Nat.zero_le _, Nat.zero_le _⟩ (rest := []) rfl (Nat.le_of_ble_eq_true rfl) dX7_entryAt_61 (st1 := [.int q7.2]) rfl 64 rfl ?_
      refine j_if_eq C dX7_entryAt_64 77 (by decide) 67 rfl (fun c => ?_) (fun c => ?_)
      · have h := it_t c h
        refine j_iinc C dX7_entryAt_77 4 rfl (v3 + (1 : Int32)) rfl (by decide) [(3, .int (v3 + (1 : Int32))), (4, .int s0), (0, .ref (gA G 82)), (1, .int v1), (2, .int v2)] rfl 80 rfl ?_
        refine j_goto C dX7_entryAt_80 4 (by decide) ?_
        refine j_sub [(0, .ref (gA G 82)), (1, .int v1), (2, .int v2), (3, .int (v3 + (1 : Int32)))] [2, 3, 4, 0] rfl ?_
        exact hrc _ _ _ _ h
      · have h := it_f c h
        refine j_aload_n C dX7_entryAt_67 rfl 1 rfl 68 rfl ?_
        refine j_iload_n C dX7_entryAt_68 rfl 4 rfl 69 rfl ?_
        obtain ⟨q9, e10, h⟩ := ob_some h
        refine j_callV C (ct_X7_leads (eL E) G  e10) sh82 foX7 rfl vk_X7_leads kw5_48 rfl ⟨Nat.le_of_ble_eq_true rfl, Nat.le_of_ble_eq_true rfl, rfl, rfl⟩ ⟨Nat.zero_le _, Nat.zero_le _⟩ (rest := []) rfl (Nat.le_of_ble_eq_true rfl) dX7_entryAt_69 (st1 := [.int q9.2]) rfl 72 rfl ?_
        refine j_if_eq C dX7_entryAt_72 77 (by decide) 75 rfl (fun c => ?_) (fun c => ?_)
        · have h := it_t c h
          refine j_iinc C dX7_entryAt_77 4 rfl (v3 + (1 : Int32)) rfl (by decide) [(3, .int (v3 + (1 : Int32))), (4, .int s0), (0, .ref (gA G 82)), (1, .int v1), (2, .int v2)] rfl 80 rfl ?_
          refine j_goto C dX7_entryAt_80 4 (by decide) ?_
          refine j_sub [(0, .ref (gA G 82)), (1, .int v1), (2, .int v2), (3, .int (v3 + (1 : Int32)))] [2, 3, 4, 0] rfl ?_
          exact hrc _ _ _ _ h
        · have h := it_f c h
          refine j_iload_n C dX7_entryAt_75 rfl 4 rfl 76 rfl ?_
          refine j_istore_n C dX7_entryAt_76 rfl (by decide) [(2, .int v3), (4, .int s0), (0, .ref (gA G 82)), (1, .int v1), (3, .int v3)] rfl 77 rfl ?_
          refine j_iinc C dX7_entryAt_77 4 rfl (v3 + (1 : Int32)) rfl (by decide) [(3, .int (v3 + (1 : Int32))), (2, .int v3), (4, .int s0), (0, .ref (gA G 82)), (1, .int v1)] rfl 80 rfl ?_
          refine j_goto C dX7_entryAt_80 4 (by decide) ?_
          refine j_sub [(0, .ref (gA G 82)), (1, .int v1), (2, .int v3), (3, .int (v3 + (1 : Int32)))] [3, 4, 1, 0] rfl ?_
          exact hrc _ _ _ _ h
def X7_entryAt_4 (K : Mem → Int32 → Option (Mem × Int32)) : Nat → Mem → Int32 → Int32 → Int32 → Option (Mem × Int32)
  | 0, _, _, _, _ => none
  | fu + 1, σ, v1, v2, v3 => (if (σ.1 83 1) ≤ v3 then K σ v2 else (if v2 = (-1 : Int32) then X7_entryAt_36 K (X7_entryAt_4 K fu) σ v1 v2 v3 (1 : Int32) else ((X7_of σ v3 (0 : Int32)).bind fun q1 => ((X7_of q1.1 v2 (0 : Int32)).bind fun q3 => X7_entryAt_36 K (X7_entryAt_4 K fu) q3.1 v1 v2 v3 (q1.2 - q3.2)))))
set_option maxHeartbeats 4000000 in
set_option maxRecDepth 100000 in
theorem w_X7_entryAt_4 {E : Ev} {G : Gw} (C : Cx E G RX7 cX7_entryAt 5 { frames := 3, cells := 0, slots := 0, locals := 70 }) {out : Mem × Int32} (F : Ef E G out.1 (some (.int out.2)) (some .int) 0 0)  {K : Mem → Int32 → Option (Mem × Int32)} (hK : ∀ (σ : Mem) (v2 : Int32), K σ v2 = some out → J E G 5 0 0 σ 83 [(2, .int v2)] []) : ∀ (fu : Nat) (σ : Mem) (v1 : Int32) (v2 : Int32) (v3 : Int32), X7_entryAt_4 K fu σ v1 v2 v3 = some out → J E G 5 0 0 σ 4 [(0, .ref (gA G 82)), (1, .int v1), (2, .int v2), (3, .int v3)] [] := by
  intro fu
  induction fu with
  | zero => intro σ v1 v2 v3 h; rw [X7_entryAt_4] at h; cases h
  | succ fu ih =>
    intro σ v1 v2 v3 h
    rw [X7_entryAt_4] at h
    refine j_iload_n C dX7_entryAt_4 rfl 3 rfl 5 rfl ?_
    refine j_aload_n C dX7_entryAt_5 rfl 0 rfl 6 rfl ?_
    refine j_get C foX7 sh82 1 (by decide) 85 rfl kw4_183 rfl dX7_entryAt_6 (.ref (gA G 83)) (fv_r rfl) 9 rfl ?_
    refine j_iconst C dX7_entryAt_9 (1 : Int32) (by decide) 10 rfl ?_
    refine j_iald C sh83 (by decide) dX7_entryAt_10 1 rfl 11 rfl ?_
    refine j_icmp_ge C dX7_entryAt_11 83 (by decide) 14 rfl (fun c => ?_) (fun c => ?_)
    · have h := it_t c h
      refine j_sub [(2, .int v2)] [2] rfl ?_
      exact hK _ _ h
    · have h := it_f c h
      refine j_iload_n C dX7_entryAt_14 rfl 2 rfl 15 rfl ?_
      refine j_iconst C dX7_entryAt_15 (-1 : Int32) (by decide) 16 rfl ?_
      refine j_icmp_ne C dX7_entryAt_16 23 (by decide) 19 rfl (fun c => ?_) (fun c => ?_)
      · have h := it_f c h
        refine j_aload_n C dX7_entryAt_23 rfl 0 rfl 24 rfl ?_
        refine j_iload_n C dX7_entryAt_24 rfl 3 rfl 25 rfl ?_
        refine j_iconst C dX7_entryAt_25 (0 : Int32) (by decide) 26 rfl ?_
        obtain ⟨q1, e2, h⟩ := ob_some h
        refine j_callV C (ct_X7_of (eL E) G  e2) sh82 foX7 rfl vk_X7_of kw5_40 rfl ⟨Nat.le_of_ble_eq_true rfl, Nat.le_of_ble_eq_true rfl, rfl, rfl⟩ ⟨Nat.zero_le _, Nat.zero_le _⟩ (rest := []) rfl (Nat.le_of_ble_eq_true rfl) dX7_entryAt_26 (st1 := [.int q1.2]) rfl 29 rfl ?_
        refine j_aload_n C dX7_entryAt_29 rfl 0 rfl 30 rfl ?_
        refine j_iload_n C dX7_entryAt_30 rfl 2 rfl 31 rfl ?_
        refine j_iconst C dX7_entryAt_31 (0 : Int32) (by decide) 32 rfl ?_
        obtain ⟨q3, e4, h⟩ := ob_some h
        refine j_callV C (ct_X7_of (eL E) G  e4) sh82 foX7 rfl vk_X7_of kw5_40 rfl ⟨Nat.le_of_ble_eq_true rfl, Nat.le_of_ble_eq_true rfl, rfl, rfl⟩ ⟨Nat.zero_le _, Nat.zero_le _⟩ (rest := [.int q1.2]) rfl (Nat.le_of_ble_eq_true rfl) dX7_entryAt_32 (st1 := [.int q3.2, .int q1.2]) rfl 35 rfl ?_
        refine j_isub C dX7_entryAt_35 36 rfl ?_
        exact w_X7_entryAt_36 C F  hK ih _ _ _ _ _ h
      · have h := it_t c h
        refine j_iconst C dX7_entryAt_19 (1 : Int32) (by decide) 20 rfl ?_
        refine j_goto C dX7_entryAt_20 36 (by decide) ?_
        exact w_X7_entryAt_36 C F  hK ih _ _ _ _ _ h
def X7_entryAt (σ : Mem) (p1 : Int32) : Option (Mem × Int32) :=
  X7_entryAt_4 (fun (σ : Mem) (v2 : Int32) => some (σ, v2)) FU σ p1 (-1 : Int32) (0 : Int32)
set_option maxHeartbeats 4000000 in
set_option maxRecDepth 100000 in
theorem ct_X7_entryAt (l : Launch) (G : Gw)  {σ : Mem} {p1 : Int32} {out : Mem × Int32} (h : X7_entryAt σ p1 = some out) : Ct l G yX7_entryAt cX7_entryAt 5 (some .int) { frames := 3, cells := 0, slots := 0, locals := 70 } [.ref (gA G 82), .int p1] σ out.1 (some (.int out.2)) := by
  refine Ct.of (by decide +kernel) (Nat.le_of_ble_eq_true rfl) (fun E hE C F => ?_)
  subst hE
  have C : Cx E G RX7 cX7_entryAt 5 { frames := 3, cells := 0, slots := 0, locals := 70 } := C
  unfold X7_entryAt at h
  show J E G 5 0 0 σ 0 [(0, .ref (gA G 82)), (1, .int p1)] []
  refine j_iconst C dX7_entryAt_0 (-1 : Int32) (by decide) 1 rfl ?_
  refine j_istore_n C dX7_entryAt_1 rfl (by decide) [(2, .int (-1 : Int32)), (0, .ref (gA G 82)), (1, .int p1)] rfl 2 rfl ?_
  refine j_iconst C dX7_entryAt_2 (0 : Int32) (by decide) 3 rfl ?_
  refine j_istore_n C dX7_entryAt_3 rfl (by decide) [(3, .int (0 : Int32)), (2, .int (-1 : Int32)), (0, .ref (gA G 82)), (1, .int p1)] rfl 4 rfl ?_
  refine j_sub [(0, .ref (gA G 82)), (1, .int p1), (2, .int (-1 : Int32)), (3, .int (0 : Int32))] [2, 3, 1, 0] rfl ?_
  refine w_X7_entryAt_4 C F  (fun σ v2 h => ?_) FU _ _ _ _ h
  refine j_iload_n C dX7_entryAt_83 rfl 0 rfl 84 rfl ?_
  exact j_iret C F dX7_entryAt_84 h

-- ===== StenoChordsModel.reads()V
theorem vk_X7_reads : VK yX7_reads cX7_reads 3 none 0 := ⟨kw5_35, kw5_34, kwS_29, kw1_9, by decide +kernel⟩
def X7_reads_64 (K : Mem → Option (Mem × Unit)) (rc : Mem → Int32 → Option (Mem × Unit)) (σ : Mem) (v1 : Int32) (s0 : Int32) (s1 : Int32) : Option (Mem × Unit) :=
  (if inA s1 61 then ((some (setI σ 88 s1.toNatClampNeg s0)).bind fun σ11 => (if inA (σ11.1 82 14) 61 then ((some (setI σ11 82 14 ((σ11.1 82 14) + (1 : Int32)))).bind fun σ13 => rc σ13 (v1 + (σ11.1 88 (σ11.1 82 14).toNatClampNeg))) else none)) else none)
set_option maxHeartbeats 4000000 in
set_option maxRecDepth 100000 in
theorem w_X7_reads_64 {E : Ev} {G : Gw} (C : Cx E G RX7 cX7_reads 3 { frames := 4, cells := 0, slots := 0, locals := 94 }) {out : Mem × Unit} (F : Ef E G out.1 (none) none 0 0)  {K : Mem → Option (Mem × Unit)} (hK : ∀ (σ : Mem) , K σ  = some out → J E G 3 0 0 σ 90 [] []) {rc : Mem → Int32 → Option (Mem × Unit)} (hrc : ∀ (σ : Mem) (v1 : Int32), rc σ v1 = some out → J E G 3 0 0 σ 7 [(0, .ref (gA G 82)), (1, .int v1)] []) (σ : Mem) (v1 : Int32) (s0 : Int32) (s1 : Int32) (h : X7_reads_64 K rc σ v1 s0 s1 = some out) : J E G 3 0 0 σ 64 [(0, .ref (gA G 82)), (1, .int v1)] [.int s0, .int s1, .ref (gA G 88)] := by
  unfold X7_reads_64 at h
  obtain ⟨hc, h⟩ := if_some h
  obtain ⟨σ11, e12, h⟩ := ob_some h
  refine j_iast C sh88 hc dX7_reads_64 s1.toNatClampNeg rfl σ11 (Option.some.inj e12) 65 rfl ?_
  refine j_iload_n C dX7_reads_65 rfl 1 rfl 66 rfl ?_
  refine j_aload_n C dX7_reads_66 rfl 0 rfl 67 rfl ?_
  refine j_get C foX7 sh82 12 (by decide) 90 rfl kw4_194 rfl dX7_reads_67 (.ref (gA G 88)) (fv_r rfl) 70 rfl ?_
  refine j_aload_n C dX7_reads_70 rfl 0 rfl 71 rfl ?_
  refine j_get C foX7 sh82 14 (by decide) 0 rfl kw4_196 rfl dX7_reads_71 (.int (σ11.1 82 14)) rfl 74 rfl ?_
  obtain ⟨hc, h⟩ := if_some h
  refine j_iald C sh88 hc dX7_reads_74 (σ11.1 82 14).toNatClampNeg rfl 75 rfl ?_
  refine j_iadd C dX7_reads_75 76 rfl ?_
  refine j_istore_n C dX7_reads_76 rfl (by decide) [(1, .int (v1 + (σ11.1 88 (σ11.1 82 14).toNatClampNeg))), (0, .ref (gA G 82))] rfl 77 rfl ?_
  refine j_aload_n C dX7_reads_77 rfl 1 rfl 78 rfl ?_
  refine j_dup C dX7_reads_78 rfl 79 rfl ?_
  refine j_get C foX7 sh82 14 (by decide) 0 rfl kw4_196 rfl dX7_reads_79 (.int (σ11.1 82 14)) rfl 82 rfl ?_
  refine j_iconst C dX7_reads_82 (1 : Int32) (by decide) 83 rfl ?_
  refine j_iadd C dX7_reads_83 84 rfl ?_
  obtain ⟨σ13, e14, h⟩ := ob_some h
  refine j_putI C foX7 sh82 14 (by decide) rfl kw4_196 rfl rfl rfl rfl dX7_reads_84 σ13 (Option.some.inj e14) 87 rfl ?_
  refine j_goto C dX7_reads_87 7 (by decide) ?_
  refine j_sub [(0, .ref (gA G 82)), (1, .int (v1 + (σ11.1 88 (σ11.1 82 14).toNatClampNeg)))] [1, 0] rfl ?_
  exact hrc _ _ h
def X7_reads_7 (K : Mem → Option (Mem × Unit)) : Nat → Mem → Int32 → Option (Mem × Unit)
  | 0, _, _ => none
  | fu + 1, σ, v1 => (if (σ.1 82 10) ≤ v1 then K σ else ((X7_entryAt σ v1).bind fun q3 => (if inA (q3.1.1 82 14) 61 then ((some (setI q3.1 87 (q3.1.1 82 14).toNatClampNeg v1)).bind fun σ5 => (if inA (σ5.1 82 14) 61 then ((some (setI σ5 89 (σ5.1 82 14).toNatClampNeg q3.2)).bind fun σ7 => (if q3.2 = (-1 : Int32) then X7_reads_64 K (X7_reads_7 K fu) σ7 v1 (1 : Int32) (σ7.1 82 14) else ((X7_of σ7 q3.2 (0 : Int32)).bind fun q9 => X7_reads_64 K (X7_reads_7 K fu) q9.1 v1 q9.2 (σ7.1 82 14)))) else none)) else none)))
set_option maxHeartbeats 4000000 in
set_option maxRecDepth 100000 in
theorem w_X7_reads_7 {E : Ev} {G : Gw} (C : Cx E G RX7 cX7_reads 3 { frames := 4, cells := 0, slots := 0, locals := 94 }) {out : Mem × Unit} (F : Ef E G out.1 (none) none 0 0)  {K : Mem → Option (Mem × Unit)} (hK : ∀ (σ : Mem) , K σ  = some out → J E G 3 0 0 σ 90 [] []) : ∀ (fu : Nat) (σ : Mem) (v1 : Int32), X7_reads_7 K fu σ v1 = some out → J E G 3 0 0 σ 7 [(0, .ref (gA G 82)), (1, .int v1)] [] := by
  intro fu
  induction fu with
  | zero => intro σ v1 h; rw [X7_reads_7] at h; cases h
  | succ fu ih =>
    intro σ v1 h
    rw [X7_reads_7] at h
    refine j_iload_n C dX7_reads_7 rfl 1 rfl 8 rfl ?_
    refine j_aload_n C dX7_reads_8 rfl 0 rfl 9 rfl ?_
    refine j_get C foX7 sh82 10 (by decide) 0 rfl kw4_192 rfl dX7_reads_9 (.int (σ.1 82 10)) rfl 12 rfl ?_
    refine j_icmp_ge C dX7_reads_12 90 (by decide) 15 rfl (fun c => ?_) (fun c => ?_)
    · have h := it_t c h
      refine j_sub [] [] rfl ?_
      exact hK _ h
    · have h := it_f c h
      refine j_aload_n C dX7_reads_15 rfl 0 rfl 16 rfl ?_
      refine j_iload_n C dX7_reads_16 rfl 1 rfl 17 rfl ?_
      obtain ⟨q3, e4, h⟩ := ob_some h
      refine j_callV C (ct_X7_entryAt (eL E) G  e4) sh82 foX7 rfl vk_X7_entryAt kw5_36 rfl ⟨Nat.le_of_ble_eq_true rfl, Nat.le_of_ble_eq_true rfl, rfl, rfl⟩ ⟨Nat.zero_le _, Nat.zero_le _⟩ (rest := []) rfl (Nat.le_of_ble_eq_true rfl) dX7_reads_17 (st1 := [.int q3.2]) rfl 20 rfl ?_
      refine j_istore_n C dX7_reads_20 rfl (by decide) [(2, .int q3.2), (0, .ref (gA G 82)), (1, .int v1)] rfl 21 rfl ?_
      refine j_aload_n C dX7_reads_21 rfl 1 rfl 22 rfl ?_
      refine j_get C foX7 sh82 11 (by decide) 89 rfl kw4_193 rfl dX7_reads_22 (.ref (gA G 87)) (fv_r rfl) 25 rfl ?_
      refine j_aload_n C dX7_reads_25 rfl 1 rfl 26 rfl ?_
      refine j_get C foX7 sh82 14 (by decide) 0 rfl kw4_196 rfl dX7_reads_26 (.int (q3.1.1 82 14)) rfl 29 rfl ?_
      refine j_iload_n C dX7_reads_29 rfl 2 rfl 30 rfl ?_
      obtain ⟨hc, h⟩ := if_some h
      obtain ⟨σ5, e6, h⟩ := ob_some h
      refine j_iast C sh87 hc dX7_reads_30 (q3.1.1 82 14).toNatClampNeg rfl σ5 (Option.some.inj e6) 31 rfl ?_
      refine j_aload_n C dX7_reads_31 rfl 1 rfl 32 rfl ?_
      refine j_get C foX7 sh82 13 (by decide) 91 rfl kw4_195 rfl dX7_reads_32 (.ref (gA G 89)) (fv_r rfl) 35 rfl ?_
      refine j_aload_n C dX7_reads_35 rfl 1 rfl 36 rfl ?_
      refine j_get C foX7 sh82 14 (by decide) 0 rfl kw4_196 rfl dX7_reads_36 (.int (σ5.1 82 14)) rfl 39 rfl ?_
      refine j_iload_n C dX7_reads_39 rfl 0 rfl 40 rfl ?_
      obtain ⟨hc, h⟩ := if_some h
      obtain ⟨σ7, e8, h⟩ := ob_some h
      refine j_iast C sh89 hc dX7_reads_40 (σ5.1 82 14).toNatClampNeg rfl σ7 (Option.some.inj e8) 41 rfl ?_
      refine j_aload_n C dX7_reads_41 rfl 1 rfl 42 rfl ?_
      refine j_get C foX7 sh82 12 (by decide) 90 rfl kw4_194 rfl dX7_reads_42 (.ref (gA G 88)) (fv_r rfl) 45 rfl ?_
      refine j_aload_n C dX7_reads_45 rfl 1 rfl 46 rfl ?_
      refine j_get C foX7 sh82 14 (by decide) 0 rfl kw4_196 rfl dX7_reads_46 (.int (σ7.1 82 14)) rfl 49 rfl ?_
      refine j_iload_n C dX7_reads_49 rfl 0 rfl 50 rfl ?_
      refine j_iconst C dX7_reads_50 (-1 : Int32) (by decide) 51 rfl ?_
      refine j_icmp_ne C dX7_reads_51 58 (by decide) 54 rfl (fun c => ?_) (fun c => ?_)
      · have h := it_f c h
        refine j_aload_n C dX7_reads_58 rfl 1 rfl 59 rfl ?_
        refine j_iload_n C dX7_reads_59 rfl 0 rfl 60 rfl ?_
        refine j_iconst C dX7_reads_60 (0 : Int32) (by decide) 61 rfl ?_
        obtain ⟨q9, e10, h⟩ := ob_some h
        refine j_callV C (ct_X7_of (eL E) G  e10) sh82 foX7 rfl vk_X7_of kw5_40 rfl ⟨Nat.le_of_ble_eq_true rfl, Nat.le_of_ble_eq_true rfl, rfl, rfl⟩ ⟨Nat.zero_le _, Nat.zero_le _⟩ (rest := [.int (σ7.1 82 14), .ref (gA G 88)]) rfl (Nat.le_of_ble_eq_true rfl) dX7_reads_61 (st1 := [.int q9.2, .int (σ7.1 82 14), .ref (gA G 88)]) rfl 64 rfl ?_
        refine j_sub [(0, .ref (gA G 82)), (1, .int v1)] [1, 2] rfl ?_
        exact w_X7_reads_64 C F  hK ih _ _ _ _ h
      · have h := it_t c h
        refine j_iconst C dX7_reads_54 (1 : Int32) (by decide) 55 rfl ?_
        refine j_goto C dX7_reads_55 64 (by decide) ?_
        refine j_sub [(0, .ref (gA G 82)), (1, .int v1)] [1, 2] rfl ?_
        exact w_X7_reads_64 C F  hK ih _ _ _ _ h
def X7_reads (σ : Mem) : Option (Mem × Unit) :=
  ((some (setI σ 82 14 (0 : Int32))).bind fun σ1 => X7_reads_7 (fun (σ : Mem)  => some (σ, ())) FU σ1 (0 : Int32))
set_option maxHeartbeats 4000000 in
set_option maxRecDepth 100000 in
theorem ct_X7_reads (l : Launch) (G : Gw)  {σ : Mem} {out : Mem × Unit} (h : X7_reads σ = some out) : Ct l G yX7_reads cX7_reads 3 none { frames := 4, cells := 0, slots := 0, locals := 94 } [.ref (gA G 82)] σ out.1 (none) := by
  refine Ct.of (by decide +kernel) (Nat.le_of_ble_eq_true rfl) (fun E hE C F => ?_)
  subst hE
  have C : Cx E G RX7 cX7_reads 3 { frames := 4, cells := 0, slots := 0, locals := 94 } := C
  unfold X7_reads at h
  show J E G 3 0 0 σ 0 [(0, .ref (gA G 82))] []
  refine j_aload_n C dX7_reads_0 rfl 0 rfl 1 rfl ?_
  refine j_iconst C dX7_reads_1 (0 : Int32) (by decide) 2 rfl ?_
  obtain ⟨σ1, e2, h⟩ := ob_some h
  refine j_putI C foX7 sh82 14 (by decide) rfl kw4_196 rfl rfl rfl rfl dX7_reads_2 σ1 (Option.some.inj e2) 5 rfl ?_
  refine j_iconst C dX7_reads_5 (0 : Int32) (by decide) 6 rfl ?_
  refine j_istore_n C dX7_reads_6 rfl (by decide) [(1, .int (0 : Int32)), (0, .ref (gA G 82))] rfl 7 rfl ?_
  refine j_sub [(0, .ref (gA G 82)), (1, .int (0 : Int32))] [1, 0] rfl ?_
  refine w_X7_reads_7 C F  (fun σ  h => ?_) FU _ _ h
  exact j_vret C F dX7_reads_90 h

-- ===== StenoChordsModel.readsPaper()V
theorem vk_X7_readsPaper : VK yX7_readsPaper cX7_readsPaper 2 none 0 := ⟨kw5_31, kw5_30, kwS_28, kw1_9, by decide +kernel⟩
def X7_readsPaper_12 (K : Mem → Option (Mem × Unit)) : Nat → Mem → Int32 → Option (Mem × Unit)
  | 0, _, _ => none
  | fu + 1, σ, v1 => (if (σ.1 82 10) ≤ v1 then K σ else (if inA ((8 : Int32) + v1) 1888 then (if inA v1 61 then ((some (setI σ 86 v1.toNatClampNeg (σ.1 83 ((8 : Int32) + v1).toNatClampNeg))).bind fun σ3 => X7_readsPaper_12 K fu σ3 (v1 + (1 : Int32))) else none) else none))
set_option maxHeartbeats 4000000 in
set_option maxRecDepth 100000 in
theorem w_X7_readsPaper_12 {E : Ev} {G : Gw} (C : Cx E G RX7 cX7_readsPaper 2 { frames := 5, cells := 0, slots := 0, locals := 116 }) {out : Mem × Unit} (F : Ef E G out.1 (none) none 0 0)  {K : Mem → Option (Mem × Unit)} (hK : ∀ (σ : Mem) , K σ  = some out → J E G 2 0 0 σ 41 [(0, .ref (gA G 82))] []) : ∀ (fu : Nat) (σ : Mem) (v1 : Int32), X7_readsPaper_12 K fu σ v1 = some out → J E G 2 0 0 σ 12 [(0, .ref (gA G 82)), (1, .int v1)] [] := by
  intro fu
  induction fu with
  | zero => intro σ v1 h; rw [X7_readsPaper_12] at h; cases h
  | succ fu ih =>
    intro σ v1 h
    rw [X7_readsPaper_12] at h
    refine j_iload_n C dX7_readsPaper_12 rfl 1 rfl 13 rfl ?_
    refine j_aload_n C dX7_readsPaper_13 rfl 0 rfl 14 rfl ?_
    refine j_get C foX7 sh82 10 (by decide) 0 rfl kw4_192 rfl dX7_readsPaper_14 (.int (σ.1 82 10)) rfl 17 rfl ?_
    refine j_icmp_ge C dX7_readsPaper_17 41 (by decide) 20 rfl (fun c => ?_) (fun c => ?_)
    · have h := it_t c h
      refine j_sub [(0, .ref (gA G 82))] [0] rfl ?_
      exact hK _ h
    · have h := it_f c h
      refine j_aload_n C dX7_readsPaper_20 rfl 0 rfl 21 rfl ?_
      refine j_get C foX7 sh82 9 (by decide) 88 rfl kw4_191 rfl dX7_readsPaper_21 (.ref (gA G 86)) (fv_r rfl) 24 rfl ?_
      refine j_iload_n C dX7_readsPaper_24 rfl 1 rfl 25 rfl ?_
      refine j_aload_n C dX7_readsPaper_25 rfl 0 rfl 26 rfl ?_
      refine j_get C foX7 sh82 1 (by decide) 85 rfl kw4_183 rfl dX7_readsPaper_26 (.ref (gA G 83)) (fv_r rfl) 29 rfl ?_
      refine j_bipush C dX7_readsPaper_29 (8 : Int32) (by decide) 31 rfl ?_
      refine j_iload_n C dX7_readsPaper_31 rfl 1 rfl 32 rfl ?_
      refine j_iadd C dX7_readsPaper_32 33 rfl ?_
      obtain ⟨hc, h⟩ := if_some h
      refine j_iald C sh83 hc dX7_readsPaper_33 ((8 : Int32) + v1).toNatClampNeg rfl 34 rfl ?_
      obtain ⟨hc, h⟩ := if_some h
      obtain ⟨σ3, e4, h⟩ := ob_some h
      refine j_iast C sh86 hc dX7_readsPaper_34 v1.toNatClampNeg rfl σ3 (Option.some.inj e4) 35 rfl ?_
      refine j_iinc C dX7_readsPaper_35 1 rfl (v1 + (1 : Int32)) rfl (by decide) [(1, .int (v1 + (1 : Int32))), (0, .ref (gA G 82))] rfl 38 rfl ?_
      refine j_goto C dX7_readsPaper_38 12 (by decide) ?_
      refine j_sub [(0, .ref (gA G 82)), (1, .int (v1 + (1 : Int32)))] [1, 0] rfl ?_
      exact ih _ _ h
def X7_readsPaper (σ : Mem) : Option (Mem × Unit) :=
  ((some (setI σ 82 10 (σ.1 83 0))).bind fun σ1 => X7_readsPaper_12 (fun (σ : Mem)  => ((X7_reads σ).bind fun q5 => some (q5.1, ()))) FU σ1 (0 : Int32))
set_option maxHeartbeats 4000000 in
set_option maxRecDepth 100000 in
theorem ct_X7_readsPaper (l : Launch) (G : Gw)  {σ : Mem} {out : Mem × Unit} (h : X7_readsPaper σ = some out) : Ct l G yX7_readsPaper cX7_readsPaper 2 none { frames := 5, cells := 0, slots := 0, locals := 116 } [.ref (gA G 82)] σ out.1 (none) := by
  refine Ct.of (by decide +kernel) (Nat.le_of_ble_eq_true rfl) (fun E hE C F => ?_)
  subst hE
  have C : Cx E G RX7 cX7_readsPaper 2 { frames := 5, cells := 0, slots := 0, locals := 116 } := C
  unfold X7_readsPaper at h
  show J E G 2 0 0 σ 0 [(0, .ref (gA G 82))] []
  refine j_aload_n C dX7_readsPaper_0 rfl 0 rfl 1 rfl ?_
  refine j_aload_n C dX7_readsPaper_1 rfl 0 rfl 2 rfl ?_
  refine j_get C foX7 sh82 1 (by decide) 85 rfl kw4_183 rfl dX7_readsPaper_2 (.ref (gA G 83)) (fv_r rfl) 5 rfl ?_
  refine j_iconst C dX7_readsPaper_5 (0 : Int32) (by decide) 6 rfl ?_
  refine j_iald C sh83 (by decide) dX7_readsPaper_6 0 rfl 7 rfl ?_
  obtain ⟨σ1, e2, h⟩ := ob_some h
  refine j_putI C foX7 sh82 10 (by decide) rfl kw4_192 rfl rfl rfl rfl dX7_readsPaper_7 σ1 (Option.some.inj e2) 10 rfl ?_
  refine j_iconst C dX7_readsPaper_10 (0 : Int32) (by decide) 11 rfl ?_
  refine j_istore_n C dX7_readsPaper_11 rfl (by decide) [(1, .int (0 : Int32)), (0, .ref (gA G 82))] rfl 12 rfl ?_
  refine j_sub [(0, .ref (gA G 82)), (1, .int (0 : Int32))] [1, 0] rfl ?_
  refine w_X7_readsPaper_12 C F  (fun σ  h => ?_) FU _ _ h
  refine j_aload_n C dX7_readsPaper_41 rfl 0 rfl 42 rfl ?_
  obtain ⟨q5, e6, h⟩ := ob_some h
  refine j_callV C (ct_X7_reads (eL E) G  e6) sh82 foX7 rfl vk_X7_reads kw5_32 rfl ⟨Nat.le_of_ble_eq_true rfl, Nat.le_of_ble_eq_true rfl, rfl, rfl⟩ ⟨Nat.zero_le _, Nat.zero_le _⟩ (rest := []) rfl (Nat.le_of_ble_eq_true rfl) dX7_readsPaper_42 (st1 := []) rfl 45 rfl ?_
  exact j_vret C F dX7_readsPaper_45 h

-- ===== StenoChordsModel.wordOf(I)I
theorem vk_X7_wordOf : VK yX7_wordOf cX7_wordOf 2 (some .int) 1 := ⟨kw5_146, kw5_145, kwS_42, kw1_9, by decide +kernel⟩
def X7_wordOf (σ : Mem) (p1 : Int32) : Option (Mem × Int32) :=
  (if inA p1 61 then (if (σ.1 89 p1.toNatClampNeg) = (-1 : Int32) then some (σ, (-1 : Int32)) else (if inA p1 61 then ((X7_of σ (σ.1 89 p1.toNatClampNeg) (5 : Int32)).bind fun q1 => some (q1.1, q1.2)) else none)) else none)
set_option maxHeartbeats 4000000 in
set_option maxRecDepth 100000 in
theorem ct_X7_wordOf (l : Launch) (G : Gw)  {σ : Mem} {p1 : Int32} {out : Mem × Int32} (h : X7_wordOf σ p1 = some out) : Ct l G yX7_wordOf cX7_wordOf 2 (some .int) { frames := 1, cells := 0, slots := 0, locals := 22 } [.ref (gA G 82), .int p1] σ out.1 (some (.int out.2)) := by
  refine Ct.of (by decide +kernel) (Nat.le_of_ble_eq_true rfl) (fun E hE C F => ?_)
  subst hE
  have C : Cx E G RX7 cX7_wordOf 2 { frames := 1, cells := 0, slots := 0, locals := 22 } := C
  unfold X7_wordOf at h
  show J E G 2 0 0 σ 0 [(0, .ref (gA G 82)), (1, .int p1)] []
  refine j_aload_n C dX7_wordOf_0 rfl 0 rfl 1 rfl ?_
  refine j_get C foX7 sh82 13 (by decide) 91 rfl kw4_195 rfl dX7_wordOf_1 (.ref (gA G 89)) (fv_r rfl) 4 rfl ?_
  refine j_iload_n C dX7_wordOf_4 rfl 1 rfl 5 rfl ?_
  obtain ⟨hc, h⟩ := if_some h
  refine j_iald C sh89 hc dX7_wordOf_5 p1.toNatClampNeg rfl 6 rfl ?_
  refine j_iconst C dX7_wordOf_6 (-1 : Int32) (by decide) 7 rfl ?_
  refine j_icmp_ne C dX7_wordOf_7 14 (by decide) 10 rfl (fun c => ?_) (fun c => ?_)
  · have h := it_f c h
    refine j_aload_n C dX7_wordOf_14 rfl 0 rfl 15 rfl ?_
    refine j_aload_n C dX7_wordOf_15 rfl 0 rfl 16 rfl ?_
    refine j_get C foX7 sh82 13 (by decide) 91 rfl kw4_195 rfl dX7_wordOf_16 (.ref (gA G 89)) (fv_r rfl) 19 rfl ?_
    refine j_iload_n C dX7_wordOf_19 rfl 1 rfl 20 rfl ?_
    obtain ⟨hc, h⟩ := if_some h
    refine j_iald C sh89 hc dX7_wordOf_20 p1.toNatClampNeg rfl 21 rfl ?_
    refine j_iconst C dX7_wordOf_21 (5 : Int32) (by decide) 22 rfl ?_
    obtain ⟨q1, e2, h⟩ := ob_some h
    refine j_callV C (ct_X7_of (eL E) G  e2) sh82 foX7 rfl vk_X7_of kw5_40 rfl ⟨Nat.le_of_ble_eq_true rfl, Nat.le_of_ble_eq_true rfl, rfl, rfl⟩ ⟨Nat.zero_le _, Nat.zero_le _⟩ (rest := []) rfl (Nat.le_of_ble_eq_true rfl) dX7_wordOf_22 (st1 := [.int q1.2]) rfl 25 rfl ?_
    exact j_iret C F dX7_wordOf_25 h
  · have h := it_t c h
    refine j_iconst C dX7_wordOf_10 (-1 : Int32) (by decide) 11 rfl ?_
    refine j_goto C dX7_wordOf_11 25 (by decide) ?_
    exact j_iret C F dX7_wordOf_25 h

-- ===== StenoChordsModel.canStrike(I)Z
theorem vk_X7_canStrike : VK yX7_canStrike cX7_canStrike 2 (some .boolean) 1 := ⟨kw5_8, kw5_7, kwS_23, kw1_9, by decide +kernel⟩
def X7_canStrike (σ : Mem) (p1 : Int32) : Option (Mem × Int32) :=
  (if p1 = 0 then (if (σ.1 83 0) ≤ 0 then some (σ, (0 : Int32)) else some (σ, (1 : Int32))) else (if (60 : Int32) ≤ (σ.1 83 0) then some (σ, (0 : Int32)) else some (σ, (1 : Int32))))
set_option maxHeartbeats 4000000 in
set_option maxRecDepth 100000 in
theorem ct_X7_canStrike (l : Launch) (G : Gw)  {σ : Mem} {p1 : Int32} {out : Mem × Int32} (h : X7_canStrike σ p1 = some out) : Ct l G yX7_canStrike cX7_canStrike 2 (some .boolean) { frames := 0, cells := 0, slots := 0, locals := 0 } [.ref (gA G 82), .int p1] σ out.1 (some (.int out.2)) := by
  refine Ct.of (by decide +kernel) (Nat.le_of_ble_eq_true rfl) (fun E hE C F => ?_)
  subst hE
  have C : Cx E G RX7 cX7_canStrike 2 { frames := 0, cells := 0, slots := 0, locals := 0 } := C
  unfold X7_canStrike at h
  show J E G 2 0 0 σ 0 [(0, .ref (gA G 82)), (1, .int p1)] []
  refine j_iload_n C dX7_canStrike_0 rfl 1 rfl 1 rfl ?_
  refine j_if_ne C dX7_canStrike_1 21 (by decide) 4 rfl (fun c => ?_) (fun c => ?_)
  · have h := it_f c h
    refine j_aload_n C dX7_canStrike_21 rfl 0 rfl 22 rfl ?_
    refine j_get C foX7 sh82 1 (by decide) 85 rfl kw4_183 rfl dX7_canStrike_22 (.ref (gA G 83)) (fv_r rfl) 25 rfl ?_
    refine j_iconst C dX7_canStrike_25 (0 : Int32) (by decide) 26 rfl ?_
    refine j_iald C sh83 (by decide) dX7_canStrike_26 0 rfl 27 rfl ?_
    refine j_bipush C dX7_canStrike_27 (60 : Int32) (by decide) 29 rfl ?_
    refine j_icmp_ge C dX7_canStrike_29 36 (by decide) 32 rfl (fun c => ?_) (fun c => ?_)
    · have h := it_t c h
      refine j_iconst C dX7_canStrike_36 (0 : Int32) (by decide) 37 rfl ?_
      exact j_zret C F dX7_canStrike_37 (by decide) h
    · have h := it_f c h
      refine j_iconst C dX7_canStrike_32 (1 : Int32) (by decide) 33 rfl ?_
      refine j_goto C dX7_canStrike_33 37 (by decide) ?_
      exact j_zret C F dX7_canStrike_37 (by decide) h
  · have h := it_t c h
    refine j_aload_n C dX7_canStrike_4 rfl 0 rfl 5 rfl ?_
    refine j_get C foX7 sh82 1 (by decide) 85 rfl kw4_183 rfl dX7_canStrike_5 (.ref (gA G 83)) (fv_r rfl) 8 rfl ?_
    refine j_iconst C dX7_canStrike_8 (0 : Int32) (by decide) 9 rfl ?_
    refine j_iald C sh83 (by decide) dX7_canStrike_9 0 rfl 10 rfl ?_
    refine j_if_le C dX7_canStrike_10 17 (by decide) 13 rfl (fun c => ?_) (fun c => ?_)
    · have h := it_t c h
      refine j_iconst C dX7_canStrike_17 (0 : Int32) (by decide) 18 rfl ?_
      refine j_goto C dX7_canStrike_18 37 (by decide) ?_
      exact j_zret C F dX7_canStrike_37 (by decide) h
    · have h := it_f c h
      refine j_iconst C dX7_canStrike_13 (1 : Int32) (by decide) 14 rfl ?_
      refine j_goto C dX7_canStrike_14 37 (by decide) ?_
      exact j_zret C F dX7_canStrike_37 (by decide) h

-- ===== StenoChordsModel.strikes(I)V
theorem vk_X7_strikes : VK yX7_strikes cX7_strikes 3 none 1 := ⟨kw5_24, kw5_23, kwS_27, kw1_9, by decide +kernel⟩
def X7_strikes_82 (σ : Mem) (s0 : Int32) : Option (Mem × Unit) :=
  ((some (setI σ 83 0 ((σ.1 83 0) - s0))).bind fun σ3 => ((some (setI σ3 83 5 ((σ3.1 83 5) + s0))).bind fun σ5 => ((some (setI σ5 83 6 ((σ5.1 83 6) + (1 : Int32)))).bind fun σ7 => some (σ7, ()))))
set_option maxHeartbeats 4000000 in
set_option maxRecDepth 100000 in
theorem w_X7_strikes_82 {E : Ev} {G : Gw} (C : Cx E G RX7 cX7_strikes 3 { frames := 6, cells := 0, slots := 0, locals := 137 }) {out : Mem × Unit} (F : Ef E G out.1 (none) none 0 0)  (σ : Mem) (s0 : Int32) (h : X7_strikes_82 σ s0 = some out) : J E G 3 0 0 σ 82 [(0, .ref (gA G 82))] [.int s0] := by
  unfold X7_strikes_82 at h
  refine j_istore_n C dX7_strikes_82 rfl (by decide) [(2, .int s0), (0, .ref (gA G 82))] rfl 83 rfl ?_
  refine j_aload_n C dX7_strikes_83 rfl 1 rfl 84 rfl ?_
  refine j_get C foX7 sh82 1 (by decide) 85 rfl kw4_183 rfl dX7_strikes_84 (.ref (gA G 83)) (fv_r rfl) 87 rfl ?_
  refine j_iconst C dX7_strikes_87 (0 : Int32) (by decide) 88 rfl ?_
  refine j_dup2 C dX7_strikes_88 rfl rfl 89 rfl ?_
  refine j_iald C sh83 (by decide) dX7_strikes_89 0 rfl 90 rfl ?_
  refine j_iload_n C dX7_strikes_90 rfl 0 rfl 91 rfl ?_
  refine j_isub C dX7_strikes_91 92 rfl ?_
  obtain ⟨σ3, e4, h⟩ := ob_some h
  refine j_iast C sh83 (by decide) dX7_strikes_92 0 rfl σ3 (Option.some.inj e4) 93 rfl ?_
  refine j_aload_n C dX7_strikes_93 rfl 1 rfl 94 rfl ?_
  refine j_get C foX7 sh82 1 (by decide) 85 rfl kw4_183 rfl dX7_strikes_94 (.ref (gA G 83)) (fv_r rfl) 97 rfl ?_
  refine j_iconst C dX7_strikes_97 (5 : Int32) (by decide) 98 rfl ?_
  refine j_dup2 C dX7_strikes_98 rfl rfl 99 rfl ?_
  refine j_iald C sh83 (by decide) dX7_strikes_99 5 rfl 100 rfl ?_
  refine j_iload_n C dX7_strikes_100 rfl 0 rfl 101 rfl ?_
  refine j_iadd C dX7_strikes_101 102 rfl ?_
  obtain ⟨σ5, e6, h⟩ := ob_some h
  refine j_iast C sh83 (by decide) dX7_strikes_102 5 rfl σ5 (Option.some.inj e6) 103 rfl ?_
  refine j_aload_n C dX7_strikes_103 rfl 1 rfl 104 rfl ?_
  refine j_get C foX7 sh82 1 (by decide) 85 rfl kw4_183 rfl dX7_strikes_104 (.ref (gA G 83)) (fv_r rfl) 107 rfl ?_
  refine j_bipush C dX7_strikes_107 (6 : Int32) (by decide) 109 rfl ?_
  refine j_dup2 C dX7_strikes_109 rfl rfl 110 rfl ?_
  refine j_iald C sh83 (by decide) dX7_strikes_110 6 rfl 111 rfl ?_
  refine j_iconst C dX7_strikes_111 (1 : Int32) (by decide) 112 rfl ?_
  refine j_iadd C dX7_strikes_112 113 rfl ?_
  obtain ⟨σ7, e8, h⟩ := ob_some h
  refine j_iast C sh83 (by decide) dX7_strikes_113 6 rfl σ7 (Option.some.inj e8) 114 rfl ?_
  exact j_vret C F dX7_strikes_114 h
def X7_strikes (σ : Mem) (p1 : Int32) : Option (Mem × Unit) :=
  (if p1 ≤ 0 then ((X7_readsPaper σ).bind fun q1 => (if (q1.1.1 83 2) = 0 then X7_strikes_82 q1.1 (1 : Int32) else (if inA ((q1.1.1 82 14) - (1 : Int32)) 61 then X7_strikes_82 q1.1 (q1.1.1 88 ((q1.1.1 82 14) - (1 : Int32)).toNatClampNeg) else none))) else (if inA ((8 : Int32) + (σ.1 83 0)) 1888 then ((some (setI σ 83 ((8 : Int32) + (σ.1 83 0)).toNatClampNeg p1)).bind fun σ9 => ((some (setI σ9 83 0 ((σ9.1 83 0) + (1 : Int32)))).bind fun σ11 => ((some (setI σ11 83 4 ((σ11.1 83 4) + (1 : Int32)))).bind fun σ13 => ((X7_keysOf σ13 p1).bind fun q15 => ((some (setI q15.1 83 7 ((σ13.1 83 7) + q15.2))).bind fun σ17 => some (σ17, ())))))) else none))
set_option maxHeartbeats 4000000 in
set_option maxRecDepth 100000 in
theorem ct_X7_strikes (l : Launch) (G : Gw)  {σ : Mem} {p1 : Int32} {out : Mem × Unit} (h : X7_strikes σ p1 = some out) : Ct l G yX7_strikes cX7_strikes 3 none { frames := 6, cells := 0, slots := 0, locals := 137 } [.ref (gA G 82), .int p1] σ out.1 (none) := by
  refine Ct.of (by decide +kernel) (Nat.le_of_ble_eq_true rfl) (fun E hE C F => ?_)
  subst hE
  have C : Cx E G RX7 cX7_strikes 3 { frames := 6, cells := 0, slots := 0, locals := 137 } := C
  unfold X7_strikes at h
  show J E G 3 0 0 σ 0 [(0, .ref (gA G 82)), (1, .int p1)] []
  refine j_iload_n C dX7_strikes_0 rfl 1 rfl 1 rfl ?_
  refine j_if_le C dX7_strikes_1 54 (by decide) 4 rfl (fun c => ?_) (fun c => ?_)
  · have h := it_t c h
    refine j_aload_n C dX7_strikes_54 rfl 0 rfl 55 rfl ?_
    obtain ⟨q1, e2, h⟩ := ob_some h
    refine j_callV C (ct_X7_readsPaper (eL E) G  e2) sh82 foX7 rfl vk_X7_readsPaper kw5_28 rfl ⟨Nat.le_of_ble_eq_true rfl, Nat.le_of_ble_eq_true rfl, rfl, rfl⟩ ⟨Nat.zero_le _, Nat.zero_le _⟩ (rest := []) rfl (Nat.le_of_ble_eq_true rfl) dX7_strikes_55 (st1 := []) rfl 58 rfl ?_
    refine j_aload_n C dX7_strikes_58 rfl 0 rfl 59 rfl ?_
    refine j_get C foX7 sh82 1 (by decide) 85 rfl kw4_183 rfl dX7_strikes_59 (.ref (gA G 83)) (fv_r rfl) 62 rfl ?_
    refine j_iconst C dX7_strikes_62 (2 : Int32) (by decide) 63 rfl ?_
    refine j_iald C sh83 (by decide) dX7_strikes_63 2 rfl 64 rfl ?_
    refine j_if_ne C dX7_strikes_64 71 (by decide) 67 rfl (fun c => ?_) (fun c => ?_)
    · have h := it_f c h
      refine j_aload_n C dX7_strikes_71 rfl 0 rfl 72 rfl ?_
      refine j_get C foX7 sh82 12 (by decide) 90 rfl kw4_194 rfl dX7_strikes_72 (.ref (gA G 88)) (fv_r rfl) 75 rfl ?_
      refine j_aload_n C dX7_strikes_75 rfl 0 rfl 76 rfl ?_
      refine j_get C foX7 sh82 14 (by decide) 0 rfl kw4_196 rfl dX7_strikes_76 (.int (q1.1.1 82 14)) rfl 79 rfl ?_
      refine j_iconst C dX7_strikes_79 (1 : Int32) (by decide) 80 rfl ?_
      refine j_isub C dX7_strikes_80 81 rfl ?_
      obtain ⟨hc, h⟩ := if_some h
      refine j_iald C sh88 hc dX7_strikes_81 ((q1.1.1 82 14) - (1 : Int32)).toNatClampNeg rfl 82 rfl ?_
      refine j_sub [(0, .ref (gA G 82))] [0] rfl ?_
      exact w_X7_strikes_82 C F  _ _ h
    · have h := it_t c h
      refine j_iconst C dX7_strikes_67 (1 : Int32) (by decide) 68 rfl ?_
      refine j_goto C dX7_strikes_68 82 (by decide) ?_
      refine j_sub [(0, .ref (gA G 82))] [0] rfl ?_
      exact w_X7_strikes_82 C F  _ _ h
  · have h := it_f c h
    refine j_aload_n C dX7_strikes_4 rfl 0 rfl 5 rfl ?_
    refine j_get C foX7 sh82 1 (by decide) 85 rfl kw4_183 rfl dX7_strikes_5 (.ref (gA G 83)) (fv_r rfl) 8 rfl ?_
    refine j_bipush C dX7_strikes_8 (8 : Int32) (by decide) 10 rfl ?_
    refine j_aload_n C dX7_strikes_10 rfl 0 rfl 11 rfl ?_
    refine j_get C foX7 sh82 1 (by decide) 85 rfl kw4_183 rfl dX7_strikes_11 (.ref (gA G 83)) (fv_r rfl) 14 rfl ?_
    refine j_iconst C dX7_strikes_14 (0 : Int32) (by decide) 15 rfl ?_
    refine j_iald C sh83 (by decide) dX7_strikes_15 0 rfl 16 rfl ?_
    refine j_iadd C dX7_strikes_16 17 rfl ?_
    refine j_iload_n C dX7_strikes_17 rfl 1 rfl 18 rfl ?_
    obtain ⟨hc, h⟩ := if_some h
    obtain ⟨σ9, e10, h⟩ := ob_some h
    refine j_iast C sh83 hc dX7_strikes_18 ((8 : Int32) + (σ.1 83 0)).toNatClampNeg rfl σ9 (Option.some.inj e10) 19 rfl ?_
    refine j_aload_n C dX7_strikes_19 rfl 0 rfl 20 rfl ?_
    refine j_get C foX7 sh82 1 (by decide) 85 rfl kw4_183 rfl dX7_strikes_20 (.ref (gA G 83)) (fv_r rfl) 23 rfl ?_
    refine j_iconst C dX7_strikes_23 (0 : Int32) (by decide) 24 rfl ?_
    refine j_dup2 C dX7_strikes_24 rfl rfl 25 rfl ?_
    refine j_iald C sh83 (by decide) dX7_strikes_25 0 rfl 26 rfl ?_
    refine j_iconst C dX7_strikes_26 (1 : Int32) (by decide) 27 rfl ?_
    refine j_iadd C dX7_strikes_27 28 rfl ?_
    obtain ⟨σ11, e12, h⟩ := ob_some h
    refine j_iast C sh83 (by decide) dX7_strikes_28 0 rfl σ11 (Option.some.inj e12) 29 rfl ?_
    refine j_aload_n C dX7_strikes_29 rfl 0 rfl 30 rfl ?_
    refine j_get C foX7 sh82 1 (by decide) 85 rfl kw4_183 rfl dX7_strikes_30 (.ref (gA G 83)) (fv_r rfl) 33 rfl ?_
    refine j_iconst C dX7_strikes_33 (4 : Int32) (by decide) 34 rfl ?_
    refine j_dup2 C dX7_strikes_34 rfl rfl 35 rfl ?_
    refine j_iald C sh83 (by decide) dX7_strikes_35 4 rfl 36 rfl ?_
    refine j_iconst C dX7_strikes_36 (1 : Int32) (by decide) 37 rfl ?_
    refine j_iadd C dX7_strikes_37 38 rfl ?_
    obtain ⟨σ13, e14, h⟩ := ob_some h
    refine j_iast C sh83 (by decide) dX7_strikes_38 4 rfl σ13 (Option.some.inj e14) 39 rfl ?_
    refine j_aload_n C dX7_strikes_39 rfl 0 rfl 40 rfl ?_
    refine j_get C foX7 sh82 1 (by decide) 85 rfl kw4_183 rfl dX7_strikes_40 (.ref (gA G 83)) (fv_r rfl) 43 rfl ?_
    refine j_bipush C dX7_strikes_43 (7 : Int32) (by decide) 45 rfl ?_
    refine j_dup2 C dX7_strikes_45 rfl rfl 46 rfl ?_
    refine j_iald C sh83 (by decide) dX7_strikes_46 7 rfl 47 rfl ?_
    refine j_iload_n C dX7_strikes_47 rfl 1 rfl 48 rfl ?_
    obtain ⟨q15, e16, h⟩ := ob_some h
    refine j_callS C (ct_X7_keysOf (eL E) G  e16) vk_X7_keysOf kw5_25 rfl ⟨Nat.le_of_ble_eq_true rfl, Nat.le_of_ble_eq_true rfl, rfl, rfl⟩ ⟨Nat.zero_le _, Nat.zero_le _⟩ (rest := [.int (σ13.1 83 7), .int (7 : Int32), .ref (gA G 83)]) rfl (Nat.le_of_ble_eq_true rfl) dX7_strikes_48 (st1 := [.int q15.2, .int (σ13.1 83 7), .int (7 : Int32), .ref (gA G 83)]) rfl 51 rfl ?_
    refine j_iadd C dX7_strikes_51 52 rfl ?_
    obtain ⟨σ17, e18, h⟩ := ob_some h
    refine j_iast C sh83 (by decide) dX7_strikes_52 7 rfl σ17 (Option.some.inj e18) 53 rfl ?_
    exact j_vret C F dX7_strikes_53 h

-- ===== StenoChordsModel.copies(II)V
theorem vk_X7_copies : VK yX7_copies cX7_copies 4 none 2 := ⟨kw5_20, kw5_19, kwS_26, kw1_9, by decide +kernel⟩
def X7_copies_2 (K : Mem → Option (Mem × Unit)) : Nat → Mem → Int32 → Int32 → Int32 → Option (Mem × Unit)
  | 0, _, _, _, _ => none
  | fu + 1, σ, v1, v2, v3 => (if (236 : Int32) ≤ v3 then K σ else (if inA (((236 : Int32) * v1) + v3) 1888 then (if inA (((236 : Int32) * v2) + v3) 1888 then ((some (setI σ 83 (((236 : Int32) * v2) + v3).toNatClampNeg (σ.1 83 (((236 : Int32) * v1) + v3).toNatClampNeg))).bind fun σ1 => X7_copies_2 K fu σ1 v1 v2 (v3 + (1 : Int32))) else none) else none))
set_option maxHeartbeats 4000000 in
set_option maxRecDepth 100000 in
theorem w_X7_copies_2 {E : Ev} {G : Gw} (C : Cx E G RX7 cX7_copies 4 { frames := 0, cells := 0, slots := 0, locals := 0 }) {out : Mem × Unit} (F : Ef E G out.1 (none) none 0 0)  {K : Mem → Option (Mem × Unit)} (hK : ∀ (σ : Mem) , K σ  = some out → J E G 4 0 0 σ 39 [] []) : ∀ (fu : Nat) (σ : Mem) (v1 : Int32) (v2 : Int32) (v3 : Int32), X7_copies_2 K fu σ v1 v2 v3 = some out → J E G 4 0 0 σ 2 [(0, .ref (gA G 82)), (1, .int v1), (2, .int v2), (3, .int v3)] [] := by
  intro fu
  induction fu with
  | zero => intro σ v1 v2 v3 h; rw [X7_copies_2] at h; cases h
  | succ fu ih =>
    intro σ v1 v2 v3 h
    rw [X7_copies_2] at h
    refine j_iload_n C dX7_copies_2 rfl 3 rfl 3 rfl ?_
    refine j_sipush C dX7_copies_3 (236 : Int32) (by decide) 6 rfl ?_
    refine j_icmp_ge C dX7_copies_6 39 (by decide) 9 rfl (fun c => ?_) (fun c => ?_)
    · have h := it_t c h
      refine j_sub [] [] rfl ?_
      exact hK _ h
    · have h := it_f c h
      refine j_aload_n C dX7_copies_9 rfl 0 rfl 10 rfl ?_
      refine j_get C foX7 sh82 1 (by decide) 85 rfl kw4_183 rfl dX7_copies_10 (.ref (gA G 83)) (fv_r rfl) 13 rfl ?_
      refine j_sipush C dX7_copies_13 (236 : Int32) (by decide) 16 rfl ?_
      refine j_iload_n C dX7_copies_16 rfl 2 rfl 17 rfl ?_
      refine j_imul C dX7_copies_17 18 rfl ?_
      refine j_iload_n C dX7_copies_18 rfl 3 rfl 19 rfl ?_
      refine j_iadd C dX7_copies_19 20 rfl ?_
      refine j_aload_n C dX7_copies_20 rfl 0 rfl 21 rfl ?_
      refine j_get C foX7 sh82 1 (by decide) 85 rfl kw4_183 rfl dX7_copies_21 (.ref (gA G 83)) (fv_r rfl) 24 rfl ?_
      refine j_sipush C dX7_copies_24 (236 : Int32) (by decide) 27 rfl ?_
      refine j_iload_n C dX7_copies_27 rfl 1 rfl 28 rfl ?_
      refine j_imul C dX7_copies_28 29 rfl ?_
      refine j_iload_n C dX7_copies_29 rfl 3 rfl 30 rfl ?_
      refine j_iadd C dX7_copies_30 31 rfl ?_
      obtain ⟨hc, h⟩ := if_some h
      refine j_iald C sh83 hc dX7_copies_31 (((236 : Int32) * v1) + v3).toNatClampNeg rfl 32 rfl ?_
      obtain ⟨hc, h⟩ := if_some h
      obtain ⟨σ1, e2, h⟩ := ob_some h
      refine j_iast C sh83 hc dX7_copies_32 (((236 : Int32) * v2) + v3).toNatClampNeg rfl σ1 (Option.some.inj e2) 33 rfl ?_
      refine j_iinc C dX7_copies_33 3 rfl (v3 + (1 : Int32)) rfl (by decide) [(3, .int (v3 + (1 : Int32))), (0, .ref (gA G 82)), (1, .int v1), (2, .int v2)] rfl 36 rfl ?_
      refine j_goto C dX7_copies_36 2 (by decide) ?_
      refine j_sub [(0, .ref (gA G 82)), (1, .int v1), (2, .int v2), (3, .int (v3 + (1 : Int32)))] [1, 2, 3, 0] rfl ?_
      exact ih _ _ _ _ h
def X7_copies (σ : Mem) (p1 : Int32) (p2 : Int32) : Option (Mem × Unit) :=
  X7_copies_2 (fun (σ : Mem)  => some (σ, ())) FU σ p1 p2 (0 : Int32)
set_option maxHeartbeats 4000000 in
set_option maxRecDepth 100000 in
theorem ct_X7_copies (l : Launch) (G : Gw)  {σ : Mem} {p1 : Int32} {p2 : Int32} {out : Mem × Unit} (h : X7_copies σ p1 p2 = some out) : Ct l G yX7_copies cX7_copies 4 none { frames := 0, cells := 0, slots := 0, locals := 0 } [.ref (gA G 82), .int p1, .int p2] σ out.1 (none) := by
  refine Ct.of (by decide +kernel) (Nat.le_of_ble_eq_true rfl) (fun E hE C F => ?_)
  subst hE
  have C : Cx E G RX7 cX7_copies 4 { frames := 0, cells := 0, slots := 0, locals := 0 } := C
  unfold X7_copies at h
  show J E G 4 0 0 σ 0 [(0, .ref (gA G 82)), (1, .int p1), (2, .int p2)] []
  refine j_iconst C dX7_copies_0 (0 : Int32) (by decide) 1 rfl ?_
  refine j_istore_n C dX7_copies_1 rfl (by decide) [(3, .int (0 : Int32)), (0, .ref (gA G 82)), (1, .int p1), (2, .int p2)] rfl 2 rfl ?_
  refine j_sub [(0, .ref (gA G 82)), (1, .int p1), (2, .int p2), (3, .int (0 : Int32))] [1, 2, 3, 0] rfl ?_
  refine w_X7_copies_2 C F  (fun σ  h => ?_) FU _ _ _ _ h
  exact j_vret C F dX7_copies_39 h

-- ===== StenoChordsModel.save()V
theorem vk_X7_save : VK yX7_save cX7_save 2 none 0 := ⟨kw5_16, kw5_15, kwS_25, kw1_9, by decide +kernel⟩
def X7_save_2 (K : Mem → Option (Mem × Unit)) : Nat → Mem → Int32 → Option (Mem × Unit)
  | 0, _, _ => none
  | fu + 1, σ, v1 => (if (6 : Int32) ≤ v1 then K σ else (if (σ.1 82 2) = (6 : Int32) then ((X7_copies σ (v1 + (1 : Int32)) v1).bind fun q1 => X7_save_2 K fu q1.1 (v1 + (1 : Int32))) else K σ))
set_option maxHeartbeats 4000000 in
set_option maxRecDepth 100000 in
theorem w_X7_save_2 {E : Ev} {G : Gw} (C : Cx E G RX7 cX7_save 2 { frames := 1, cells := 0, slots := 0, locals := 23 }) {out : Mem × Unit} (F : Ef E G out.1 (none) none 0 0)  {K : Mem → Option (Mem × Unit)} (hK : ∀ (σ : Mem) , K σ  = some out → J E G 2 0 0 σ 31 [(0, .ref (gA G 82))] []) : ∀ (fu : Nat) (σ : Mem) (v1 : Int32), X7_save_2 K fu σ v1 = some out → J E G 2 0 0 σ 2 [(0, .ref (gA G 82)), (1, .int v1)] [] := by
  intro fu
  induction fu with
  | zero => intro σ v1 h; rw [X7_save_2] at h; cases h
  | succ fu ih =>
    intro σ v1 h
    rw [X7_save_2] at h
    refine j_iload_n C dX7_save_2 rfl 1 rfl 3 rfl ?_
    refine j_bipush C dX7_save_3 (6 : Int32) (by decide) 5 rfl ?_
    refine j_icmp_ge C dX7_save_5 31 (by decide) 8 rfl (fun c => ?_) (fun c => ?_)
    · have h := it_t c h
      refine j_sub [(0, .ref (gA G 82))] [0] rfl ?_
      exact hK _ h
    · have h := it_f c h
      refine j_aload_n C dX7_save_8 rfl 0 rfl 9 rfl ?_
      refine j_get C foX7 sh82 2 (by decide) 0 rfl kw4_184 rfl dX7_save_9 (.int (σ.1 82 2)) rfl 12 rfl ?_
      refine j_bipush C dX7_save_12 (6 : Int32) (by decide) 14 rfl ?_
      refine j_icmp_ne C dX7_save_14 31 (by decide) 17 rfl (fun c => ?_) (fun c => ?_)
      · have h := it_f c h
        refine j_sub [(0, .ref (gA G 82))] [0] rfl ?_
        exact hK _ h
      · have h := it_t c h
        refine j_aload_n C dX7_save_17 rfl 0 rfl 18 rfl ?_
        refine j_iload_n C dX7_save_18 rfl 1 rfl 19 rfl ?_
        refine j_iconst C dX7_save_19 (1 : Int32) (by decide) 20 rfl ?_
        refine j_iadd C dX7_save_20 21 rfl ?_
        refine j_iload_n C dX7_save_21 rfl 1 rfl 22 rfl ?_
        obtain ⟨q1, e2, h⟩ := ob_some h
        refine j_callV C (ct_X7_copies (eL E) G  e2) sh82 foX7 rfl vk_X7_copies kw5_17 rfl ⟨Nat.le_of_ble_eq_true rfl, Nat.le_of_ble_eq_true rfl, rfl, rfl⟩ ⟨Nat.zero_le _, Nat.zero_le _⟩ (rest := []) rfl (Nat.le_of_ble_eq_true rfl) dX7_save_22 (st1 := []) rfl 25 rfl ?_
        refine j_iinc C dX7_save_25 1 rfl (v1 + (1 : Int32)) rfl (by decide) [(1, .int (v1 + (1 : Int32))), (0, .ref (gA G 82))] rfl 28 rfl ?_
        refine j_goto C dX7_save_28 2 (by decide) ?_
        refine j_sub [(0, .ref (gA G 82)), (1, .int (v1 + (1 : Int32)))] [1, 0] rfl ?_
        exact ih _ _ h
def X7_save_31 (σ : Mem)  : Option (Mem × Unit) :=
  (if (6 : Int32) ≤ (σ.1 82 2) then ((some (setI σ 82 2 ((σ.1 82 2) + (0 : Int32)))).bind fun σ3 => ((X7_copies σ3 (0 : Int32) (σ3.1 82 2)).bind fun q5 => some (q5.1, ()))) else ((some (setI σ 82 2 ((σ.1 82 2) + (1 : Int32)))).bind fun σ7 => ((X7_copies σ7 (0 : Int32) (σ7.1 82 2)).bind fun q9 => some (q9.1, ()))))
set_option maxHeartbeats 4000000 in
set_option maxRecDepth 100000 in
theorem w_X7_save_31 {E : Ev} {G : Gw} (C : Cx E G RX7 cX7_save 2 { frames := 1, cells := 0, slots := 0, locals := 23 }) {out : Mem × Unit} (F : Ef E G out.1 (none) none 0 0)  (σ : Mem)  (h : X7_save_31 σ = some out) : J E G 2 0 0 σ 31 [(0, .ref (gA G 82))] [] := by
  unfold X7_save_31 at h
  refine j_aload_n C dX7_save_31 rfl 0 rfl 32 rfl ?_
  refine j_dup C dX7_save_32 rfl 33 rfl ?_
  refine j_get C foX7 sh82 2 (by decide) 0 rfl kw4_184 rfl dX7_save_33 (.int (σ.1 82 2)) rfl 36 rfl ?_
  refine j_aload_n C dX7_save_36 rfl 0 rfl 37 rfl ?_
  refine j_get C foX7 sh82 2 (by decide) 0 rfl kw4_184 rfl dX7_save_37 (.int (σ.1 82 2)) rfl 40 rfl ?_
  refine j_bipush C dX7_save_40 (6 : Int32) (by decide) 42 rfl ?_
  refine j_icmp_ge C dX7_save_42 49 (by decide) 45 rfl (fun c => ?_) (fun c => ?_)
  · have h := it_t c h
    refine j_iconst C dX7_save_49 (0 : Int32) (by decide) 50 rfl ?_
    refine j_iadd C dX7_save_50 51 rfl ?_
    obtain ⟨σ3, e4, h⟩ := ob_some h
    refine j_putI C foX7 sh82 2 (by decide) rfl kw4_184 rfl rfl rfl rfl dX7_save_51 σ3 (Option.some.inj e4) 54 rfl ?_
    refine j_aload_n C dX7_save_54 rfl 0 rfl 55 rfl ?_
    refine j_iconst C dX7_save_55 (0 : Int32) (by decide) 56 rfl ?_
    refine j_aload_n C dX7_save_56 rfl 0 rfl 57 rfl ?_
    refine j_get C foX7 sh82 2 (by decide) 0 rfl kw4_184 rfl dX7_save_57 (.int (σ3.1 82 2)) rfl 60 rfl ?_
    obtain ⟨q5, e6, h⟩ := ob_some h
    refine j_callV C (ct_X7_copies (eL E) G  e6) sh82 foX7 rfl vk_X7_copies kw5_17 rfl ⟨Nat.le_of_ble_eq_true rfl, Nat.le_of_ble_eq_true rfl, rfl, rfl⟩ ⟨Nat.zero_le _, Nat.zero_le _⟩ (rest := []) rfl (Nat.le_of_ble_eq_true rfl) dX7_save_60 (st1 := []) rfl 63 rfl ?_
    exact j_vret C F dX7_save_63 h
  · have h := it_f c h
    refine j_iconst C dX7_save_45 (1 : Int32) (by decide) 46 rfl ?_
    refine j_goto C dX7_save_46 50 (by decide) ?_
    refine j_iadd C dX7_save_50 51 rfl ?_
    obtain ⟨σ7, e8, h⟩ := ob_some h
    refine j_putI C foX7 sh82 2 (by decide) rfl kw4_184 rfl rfl rfl rfl dX7_save_51 σ7 (Option.some.inj e8) 54 rfl ?_
    refine j_aload_n C dX7_save_54 rfl 0 rfl 55 rfl ?_
    refine j_iconst C dX7_save_55 (0 : Int32) (by decide) 56 rfl ?_
    refine j_aload_n C dX7_save_56 rfl 0 rfl 57 rfl ?_
    refine j_get C foX7 sh82 2 (by decide) 0 rfl kw4_184 rfl dX7_save_57 (.int (σ7.1 82 2)) rfl 60 rfl ?_
    obtain ⟨q9, e10, h⟩ := ob_some h
    refine j_callV C (ct_X7_copies (eL E) G  e10) sh82 foX7 rfl vk_X7_copies kw5_17 rfl ⟨Nat.le_of_ble_eq_true rfl, Nat.le_of_ble_eq_true rfl, rfl, rfl⟩ ⟨Nat.zero_le _, Nat.zero_le _⟩ (rest := []) rfl (Nat.le_of_ble_eq_true rfl) dX7_save_60 (st1 := []) rfl 63 rfl ?_
    exact j_vret C F dX7_save_63 h
def X7_save (σ : Mem) : Option (Mem × Unit) :=
  X7_save_2 (fun (σ : Mem)  => X7_save_31 σ) FU σ (1 : Int32)
set_option maxHeartbeats 4000000 in
set_option maxRecDepth 100000 in
theorem ct_X7_save (l : Launch) (G : Gw)  {σ : Mem} {out : Mem × Unit} (h : X7_save σ = some out) : Ct l G yX7_save cX7_save 2 none { frames := 1, cells := 0, slots := 0, locals := 23 } [.ref (gA G 82)] σ out.1 (none) := by
  refine Ct.of (by decide +kernel) (Nat.le_of_ble_eq_true rfl) (fun E hE C F => ?_)
  subst hE
  have C : Cx E G RX7 cX7_save 2 { frames := 1, cells := 0, slots := 0, locals := 23 } := C
  unfold X7_save at h
  show J E G 2 0 0 σ 0 [(0, .ref (gA G 82))] []
  refine j_iconst C dX7_save_0 (1 : Int32) (by decide) 1 rfl ?_
  refine j_istore_n C dX7_save_1 rfl (by decide) [(1, .int (1 : Int32)), (0, .ref (gA G 82))] rfl 2 rfl ?_
  refine j_sub [(0, .ref (gA G 82)), (1, .int (1 : Int32))] [1, 0] rfl ?_
  refine w_X7_save_2 C F  (fun σ  h => ?_) FU _ _ h
  exact w_X7_save_31 C F  _ h

-- ===== StenoChordsModel.strike(I)I
theorem vk_X7_strike : VK yX7_strike cX7_strike 2 (some .int) 1 := ⟨kw5_1, kw4_239, kw5_0, kw1_9, by decide +kernel⟩
def X7_strike (σ : Mem) (p1 : Int32) : Option (Mem × Int32) :=
  ((X7_in σ p1 (0 : Int32) (1023 : Int32)).bind fun q1 => (if q1.2 = 0 then ((X7_holds q1.1 (1 : Int32)).bind fun q21 => (if q21.2 = 0 then some (q21.1, (0 : Int32)) else ((X7_save q21.1).bind fun q23 => ((X7_strikes q23.1 p1).bind fun q25 => ((X7_readsPaper q25.1).bind fun q27 => some (q27.1, (q27.1.1 82 14))))))) else ((X7_canStrike q1.1 p1).bind fun q3 => (if q3.2 = 0 then ((X7_holds q3.1 (2 : Int32)).bind fun q13 => (if q13.2 = 0 then some (q13.1, (0 : Int32)) else ((X7_save q13.1).bind fun q15 => ((X7_strikes q15.1 p1).bind fun q17 => ((X7_readsPaper q17.1).bind fun q19 => some (q19.1, (q19.1.1 82 14))))))) else ((X7_holds q3.1 (0 : Int32)).bind fun q5 => (if q5.2 = 0 then some (q5.1, (0 : Int32)) else ((X7_save q5.1).bind fun q7 => ((X7_strikes q7.1 p1).bind fun q9 => ((X7_readsPaper q9.1).bind fun q11 => some (q11.1, (q11.1.1 82 14)))))))))))
set_option maxHeartbeats 4000000 in
set_option maxRecDepth 100000 in
theorem ct_X7_strike (l : Launch) (G : Gw)  {σ : Mem} {p1 : Int32} {out : Mem × Int32} (h : X7_strike σ p1 = some out) : Ct l G yX7_strike cX7_strike 2 (some .int) { frames := 7, cells := 0, slots := 0, locals := 159 } [.ref (gA G 82), .int p1] σ out.1 (some (.int out.2)) := by
  refine Ct.of (by decide +kernel) (Nat.le_of_ble_eq_true rfl) (fun E hE C F => ?_)
  subst hE
  have C : Cx E G RX7 cX7_strike 2 { frames := 7, cells := 0, slots := 0, locals := 159 } := C
  unfold X7_strike at h
  show J E G 2 0 0 σ 0 [(0, .ref (gA G 82)), (1, .int p1)] []
  refine j_aload_n C dX7_strike_0 rfl 0 rfl 1 rfl ?_
  refine j_iload_n C dX7_strike_1 rfl 1 rfl 2 rfl ?_
  refine j_iconst C dX7_strike_2 (0 : Int32) (by decide) 3 rfl ?_
  refine j_sipush C dX7_strike_3 (1023 : Int32) (by decide) 6 rfl ?_
  obtain ⟨q1, e2, h⟩ := ob_some h
  refine j_callS C (ct_X7_in (eL E) G  e2) vk_X7_in kw5_2 rfl ⟨Nat.le_of_ble_eq_true rfl, Nat.le_of_ble_eq_true rfl, rfl, rfl⟩ ⟨Nat.zero_le _, Nat.zero_le _⟩ (rest := [.ref (gA G 82)]) rfl (Nat.le_of_ble_eq_true rfl) dX7_strike_6 (st1 := [.int q1.2, .ref (gA G 82)]) rfl 9 rfl ?_
  refine j_if_ne C dX7_strike_9 16 (by decide) 12 rfl (fun c => ?_) (fun c => ?_)
  · have h := it_f c h
    refine j_aload_n C dX7_strike_16 rfl 0 rfl 17 rfl ?_
    refine j_iload_n C dX7_strike_17 rfl 1 rfl 18 rfl ?_
    obtain ⟨q3, e4, h⟩ := ob_some h
    refine j_callV C (ct_X7_canStrike (eL E) G  e4) sh82 foX7 rfl vk_X7_canStrike kw5_5 rfl ⟨Nat.le_of_ble_eq_true rfl, Nat.le_of_ble_eq_true rfl, rfl, rfl⟩ ⟨Nat.zero_le _, Nat.zero_le _⟩ (rest := [.ref (gA G 82)]) rfl (Nat.le_of_ble_eq_true rfl) dX7_strike_18 (st1 := [.int q3.2, .ref (gA G 82)]) rfl 21 rfl ?_
    refine j_if_ne C dX7_strike_21 28 (by decide) 24 rfl (fun c => ?_) (fun c => ?_)
    · have h := it_f c h
      refine j_iconst C dX7_strike_28 (0 : Int32) (by decide) 29 rfl ?_
      obtain ⟨q5, e6, h⟩ := ob_some h
      refine j_callV C (ct_X7_holds (eL E) G  e6) sh82 foX7 rfl vk_X7_holds kw5_9 rfl ⟨Nat.le_of_ble_eq_true rfl, Nat.le_of_ble_eq_true rfl, rfl, rfl⟩ ⟨Nat.zero_le _, Nat.zero_le _⟩ (rest := []) rfl (Nat.le_of_ble_eq_true rfl) dX7_strike_29 (st1 := [.int q5.2]) rfl 32 rfl ?_
      refine j_if_ne C dX7_strike_32 37 (by decide) 35 rfl (fun c => ?_) (fun c => ?_)
      · have h := it_f c h
        refine j_aload_n C dX7_strike_37 rfl 0 rfl 38 rfl ?_
        obtain ⟨q7, e8, h⟩ := ob_some h
        refine j_callV C (ct_X7_save (eL E) G  e8) sh82 foX7 rfl vk_X7_save kw5_13 rfl ⟨Nat.le_of_ble_eq_true rfl, Nat.le_of_ble_eq_true rfl, rfl, rfl⟩ ⟨Nat.zero_le _, Nat.zero_le _⟩ (rest := []) rfl (Nat.le_of_ble_eq_true rfl) dX7_strike_38 (st1 := []) rfl 41 rfl ?_
        refine j_aload_n C dX7_strike_41 rfl 0 rfl 42 rfl ?_
        refine j_iload_n C dX7_strike_42 rfl 1 rfl 43 rfl ?_
        obtain ⟨q9, e10, h⟩ := ob_some h
        refine j_callV C (ct_X7_strikes (eL E) G  e10) sh82 foX7 rfl vk_X7_strikes kw5_21 rfl ⟨Nat.le_of_ble_eq_true rfl, Nat.le_of_ble_eq_true rfl, rfl, rfl⟩ ⟨Nat.zero_le _, Nat.zero_le _⟩ (rest := []) rfl (Nat.le_of_ble_eq_true rfl) dX7_strike_43 (st1 := []) rfl 46 rfl ?_
        refine j_aload_n C dX7_strike_46 rfl 0 rfl 47 rfl ?_
        obtain ⟨q11, e12, h⟩ := ob_some h
        refine j_callV C (ct_X7_readsPaper (eL E) G  e12) sh82 foX7 rfl vk_X7_readsPaper kw5_28 rfl ⟨Nat.le_of_ble_eq_true rfl, Nat.le_of_ble_eq_true rfl, rfl, rfl⟩ ⟨Nat.zero_le _, Nat.zero_le _⟩ (rest := []) rfl (Nat.le_of_ble_eq_true rfl) dX7_strike_47 (st1 := []) rfl 50 rfl ?_
        refine j_aload_n C dX7_strike_50 rfl 0 rfl 51 rfl ?_
        refine j_get C foX7 sh82 14 (by decide) 0 rfl kw4_196 rfl dX7_strike_51 (.int (q11.1.1 82 14)) rfl 54 rfl ?_
        exact j_iret C F dX7_strike_54 h
      · have h := it_t c h
        refine j_iconst C dX7_strike_35 (0 : Int32) (by decide) 36 rfl ?_
        exact j_iret C F dX7_strike_36 h
    · have h := it_t c h
      refine j_iconst C dX7_strike_24 (2 : Int32) (by decide) 25 rfl ?_
      refine j_goto C dX7_strike_25 29 (by decide) ?_
      obtain ⟨q13, e14, h⟩ := ob_some h
      refine j_callV C (ct_X7_holds (eL E) G  e14) sh82 foX7 rfl vk_X7_holds kw5_9 rfl ⟨Nat.le_of_ble_eq_true rfl, Nat.le_of_ble_eq_true rfl, rfl, rfl⟩ ⟨Nat.zero_le _, Nat.zero_le _⟩ (rest := []) rfl (Nat.le_of_ble_eq_true rfl) dX7_strike_29 (st1 := [.int q13.2]) rfl 32 rfl ?_
      refine j_if_ne C dX7_strike_32 37 (by decide) 35 rfl (fun c => ?_) (fun c => ?_)
      · have h := it_f c h
        refine j_aload_n C dX7_strike_37 rfl 0 rfl 38 rfl ?_
        obtain ⟨q15, e16, h⟩ := ob_some h
        refine j_callV C (ct_X7_save (eL E) G  e16) sh82 foX7 rfl vk_X7_save kw5_13 rfl ⟨Nat.le_of_ble_eq_true rfl, Nat.le_of_ble_eq_true rfl, rfl, rfl⟩ ⟨Nat.zero_le _, Nat.zero_le _⟩ (rest := []) rfl (Nat.le_of_ble_eq_true rfl) dX7_strike_38 (st1 := []) rfl 41 rfl ?_
        refine j_aload_n C dX7_strike_41 rfl 0 rfl 42 rfl ?_
        refine j_iload_n C dX7_strike_42 rfl 1 rfl 43 rfl ?_
        obtain ⟨q17, e18, h⟩ := ob_some h
        refine j_callV C (ct_X7_strikes (eL E) G  e18) sh82 foX7 rfl vk_X7_strikes kw5_21 rfl ⟨Nat.le_of_ble_eq_true rfl, Nat.le_of_ble_eq_true rfl, rfl, rfl⟩ ⟨Nat.zero_le _, Nat.zero_le _⟩ (rest := []) rfl (Nat.le_of_ble_eq_true rfl) dX7_strike_43 (st1 := []) rfl 46 rfl ?_
        refine j_aload_n C dX7_strike_46 rfl 0 rfl 47 rfl ?_
        obtain ⟨q19, e20, h⟩ := ob_some h
        refine j_callV C (ct_X7_readsPaper (eL E) G  e20) sh82 foX7 rfl vk_X7_readsPaper kw5_28 rfl ⟨Nat.le_of_ble_eq_true rfl, Nat.le_of_ble_eq_true rfl, rfl, rfl⟩ ⟨Nat.zero_le _, Nat.zero_le _⟩ (rest := []) rfl (Nat.le_of_ble_eq_true rfl) dX7_strike_47 (st1 := []) rfl 50 rfl ?_
        refine j_aload_n C dX7_strike_50 rfl 0 rfl 51 rfl ?_
        refine j_get C foX7 sh82 14 (by decide) 0 rfl kw4_196 rfl dX7_strike_51 (.int (q19.1.1 82 14)) rfl 54 rfl ?_
        exact j_iret C F dX7_strike_54 h
      · have h := it_t c h
        refine j_iconst C dX7_strike_35 (0 : Int32) (by decide) 36 rfl ?_
        exact j_iret C F dX7_strike_36 h
  · have h := it_t c h
    refine j_iconst C dX7_strike_12 (1 : Int32) (by decide) 13 rfl ?_
    refine j_goto C dX7_strike_13 29 (by decide) ?_
    obtain ⟨q21, e22, h⟩ := ob_some h
    refine j_callV C (ct_X7_holds (eL E) G  e22) sh82 foX7 rfl vk_X7_holds kw5_9 rfl ⟨Nat.le_of_ble_eq_true rfl, Nat.le_of_ble_eq_true rfl, rfl, rfl⟩ ⟨Nat.zero_le _, Nat.zero_le _⟩ (rest := []) rfl (Nat.le_of_ble_eq_true rfl) dX7_strike_29 (st1 := [.int q21.2]) rfl 32 rfl ?_
    refine j_if_ne C dX7_strike_32 37 (by decide) 35 rfl (fun c => ?_) (fun c => ?_)
    · have h := it_f c h
      refine j_aload_n C dX7_strike_37 rfl 0 rfl 38 rfl ?_
      obtain ⟨q23, e24, h⟩ := ob_some h
      refine j_callV C (ct_X7_save (eL E) G  e24) sh82 foX7 rfl vk_X7_save kw5_13 rfl ⟨Nat.le_of_ble_eq_true rfl, Nat.le_of_ble_eq_true rfl, rfl, rfl⟩ ⟨Nat.zero_le _, Nat.zero_le _⟩ (rest := []) rfl (Nat.le_of_ble_eq_true rfl) dX7_strike_38 (st1 := []) rfl 41 rfl ?_
      refine j_aload_n C dX7_strike_41 rfl 0 rfl 42 rfl ?_
      refine j_iload_n C dX7_strike_42 rfl 1 rfl 43 rfl ?_
      obtain ⟨q25, e26, h⟩ := ob_some h
      refine j_callV C (ct_X7_strikes (eL E) G  e26) sh82 foX7 rfl vk_X7_strikes kw5_21 rfl ⟨Nat.le_of_ble_eq_true rfl, Nat.le_of_ble_eq_true rfl, rfl, rfl⟩ ⟨Nat.zero_le _, Nat.zero_le _⟩ (rest := []) rfl (Nat.le_of_ble_eq_true rfl) dX7_strike_43 (st1 := []) rfl 46 rfl ?_
      refine j_aload_n C dX7_strike_46 rfl 0 rfl 47 rfl ?_
      obtain ⟨q27, e28, h⟩ := ob_some h
      refine j_callV C (ct_X7_readsPaper (eL E) G  e28) sh82 foX7 rfl vk_X7_readsPaper kw5_28 rfl ⟨Nat.le_of_ble_eq_true rfl, Nat.le_of_ble_eq_true rfl, rfl, rfl⟩ ⟨Nat.zero_le _, Nat.zero_le _⟩ (rest := []) rfl (Nat.le_of_ble_eq_true rfl) dX7_strike_47 (st1 := []) rfl 50 rfl ?_
      refine j_aload_n C dX7_strike_50 rfl 0 rfl 51 rfl ?_
      refine j_get C foX7 sh82 14 (by decide) 0 rfl kw4_196 rfl dX7_strike_51 (.int (q27.1.1 82 14)) rfl 54 rfl ?_
      exact j_iret C F dX7_strike_54 h
    · have h := it_t c h
      refine j_iconst C dX7_strike_35 (0 : Int32) (by decide) 36 rfl ?_
      exact j_iret C F dX7_strike_36 h

-- ===== StenoChordsModel.keyOf(I)I
theorem vk_X7_keyOf : SK yX7_keyOf cX7_keyOf 1 (some .int) 1 := ⟨kw5_70, kw5_69, kw1_9, by decide +kernel⟩
def X7_keyOf (σ : Mem) (p0 : Int32) : Option (Mem × Int32) :=
  (if p0 = (97 : Int32) then some (σ, (4 : Int32)) else (if p0 = (98 : Int32) then some (σ, (-1 : Int32)) else (if p0 = (99 : Int32) then some (σ, (-1 : Int32)) else (if p0 = (100 : Int32) then some (σ, (9 : Int32)) else (if p0 = (101 : Int32) then some (σ, (6 : Int32)) else (if p0 = (102 : Int32) then some (σ, (-1 : Int32)) else (if p0 = (103 : Int32) then some (σ, (-1 : Int32)) else (if p0 = (104 : Int32) then some (σ, (-1 : Int32)) else (if p0 = (105 : Int32) then some (σ, (-1 : Int32)) else (if p0 = (106 : Int32) then some (σ, (-1 : Int32)) else (if p0 = (107 : Int32) then some (σ, (2 : Int32)) else (if p0 = (108 : Int32) then some (σ, (8 : Int32)) else (if p0 = (109 : Int32) then some (σ, (-1 : Int32)) else (if p0 = (110 : Int32) then some (σ, (-1 : Int32)) else (if p0 = (111 : Int32) then some (σ, (5 : Int32)) else (if p0 = (112 : Int32) then some (σ, (3 : Int32)) else (if p0 = (113 : Int32) then some (σ, (-1 : Int32)) else (if p0 = (114 : Int32) then some (σ, (7 : Int32)) else (if p0 = (115 : Int32) then some (σ, (0 : Int32)) else (if p0 = (116 : Int32) then some (σ, (1 : Int32)) else some (σ, (-1 : Int32))))))))))))))))))))))
set_option maxHeartbeats 4000000 in
set_option maxRecDepth 100000 in
theorem ct_X7_keyOf (l : Launch) (G : Gw)  {σ : Mem} {p0 : Int32} {out : Mem × Int32} (h : X7_keyOf σ p0 = some out) : Ct l G yX7_keyOf cX7_keyOf 1 (some .int) { frames := 0, cells := 0, slots := 0, locals := 0 } [.int p0] σ out.1 (some (.int out.2)) := by
  refine Ct.of (by decide +kernel) (Nat.le_of_ble_eq_true rfl) (fun E hE C F => ?_)
  subst hE
  have C : Cx E G RX7 cX7_keyOf 1 { frames := 0, cells := 0, slots := 0, locals := 0 } := C
  unfold X7_keyOf at h
  show J E G 1 0 0 σ 0 [(0, .int p0)] []
  refine j_iload_n C dX7_keyOf_0 rfl 0 rfl 1 rfl ?_
  by_cases c0 : p0 = (97 : Int32)
  · have h := it_t c0 h
    refine j_tableIn C dX7_keyOf_1 (by rw [c0]; decide) (by rw [c0]; decide) (off := 103) (by rw [c0]; rfl) 104 (by decide) ?_
    refine j_iconst C dX7_keyOf_104 (4 : Int32) (by decide) 105 rfl ?_
    exact j_iret C F dX7_keyOf_105 h
  have h := it_f c0 h
  by_cases c1 : p0 = (98 : Int32)
  · have h := it_t c1 h
    refine j_tableIn C dX7_keyOf_1 (by rw [c1]; decide) (by rw [c1]; decide) (off := 119) (by rw [c1]; rfl) 120 (by decide) ?_
    refine j_iconst C dX7_keyOf_120 (-1 : Int32) (by decide) 121 rfl ?_
    exact j_iret C F dX7_keyOf_121 h
  have h := it_f c1 h
  by_cases c2 : p0 = (99 : Int32)
  · have h := it_t c2 h
    refine j_tableIn C dX7_keyOf_1 (by rw [c2]; decide) (by rw [c2]; decide) (off := 119) (by rw [c2]; rfl) 120 (by decide) ?_
    refine j_iconst C dX7_keyOf_120 (-1 : Int32) (by decide) 121 rfl ?_
    exact j_iret C F dX7_keyOf_121 h
  have h := it_f c2 h
  by_cases c3 : p0 = (100 : Int32)
  · have h := it_t c3 h
    refine j_tableIn C dX7_keyOf_1 (by rw [c3]; decide) (by rw [c3]; decide) (off := 116) (by rw [c3]; rfl) 117 (by decide) ?_
    refine j_bipush C dX7_keyOf_117 (9 : Int32) (by decide) 119 rfl ?_
    exact j_iret C F dX7_keyOf_119 h
  have h := it_f c3 h
  by_cases c4 : p0 = (101 : Int32)
  · have h := it_t c4 h
    refine j_tableIn C dX7_keyOf_1 (by rw [c4]; decide) (by rw [c4]; decide) (off := 107) (by rw [c4]; rfl) 108 (by decide) ?_
    refine j_bipush C dX7_keyOf_108 (6 : Int32) (by decide) 110 rfl ?_
    exact j_iret C F dX7_keyOf_110 h
  have h := it_f c4 h
  by_cases c5 : p0 = (102 : Int32)
  · have h := it_t c5 h
    refine j_tableIn C dX7_keyOf_1 (by rw [c5]; decide) (by rw [c5]; decide) (off := 119) (by rw [c5]; rfl) 120 (by decide) ?_
    refine j_iconst C dX7_keyOf_120 (-1 : Int32) (by decide) 121 rfl ?_
    exact j_iret C F dX7_keyOf_121 h
  have h := it_f c5 h
  by_cases c6 : p0 = (103 : Int32)
  · have h := it_t c6 h
    refine j_tableIn C dX7_keyOf_1 (by rw [c6]; decide) (by rw [c6]; decide) (off := 119) (by rw [c6]; rfl) 120 (by decide) ?_
    refine j_iconst C dX7_keyOf_120 (-1 : Int32) (by decide) 121 rfl ?_
    exact j_iret C F dX7_keyOf_121 h
  have h := it_f c6 h
  by_cases c7 : p0 = (104 : Int32)
  · have h := it_t c7 h
    refine j_tableIn C dX7_keyOf_1 (by rw [c7]; decide) (by rw [c7]; decide) (off := 119) (by rw [c7]; rfl) 120 (by decide) ?_
    refine j_iconst C dX7_keyOf_120 (-1 : Int32) (by decide) 121 rfl ?_
    exact j_iret C F dX7_keyOf_121 h
  have h := it_f c7 h
  by_cases c8 : p0 = (105 : Int32)
  · have h := it_t c8 h
    refine j_tableIn C dX7_keyOf_1 (by rw [c8]; decide) (by rw [c8]; decide) (off := 119) (by rw [c8]; rfl) 120 (by decide) ?_
    refine j_iconst C dX7_keyOf_120 (-1 : Int32) (by decide) 121 rfl ?_
    exact j_iret C F dX7_keyOf_121 h
  have h := it_f c8 h
  by_cases c9 : p0 = (106 : Int32)
  · have h := it_t c9 h
    refine j_tableIn C dX7_keyOf_1 (by rw [c9]; decide) (by rw [c9]; decide) (off := 119) (by rw [c9]; rfl) 120 (by decide) ?_
    refine j_iconst C dX7_keyOf_120 (-1 : Int32) (by decide) 121 rfl ?_
    exact j_iret C F dX7_keyOf_121 h
  have h := it_f c9 h
  by_cases c10 : p0 = (107 : Int32)
  · have h := it_t c10 h
    refine j_tableIn C dX7_keyOf_1 (by rw [c10]; decide) (by rw [c10]; decide) (off := 99) (by rw [c10]; rfl) 100 (by decide) ?_
    refine j_iconst C dX7_keyOf_100 (2 : Int32) (by decide) 101 rfl ?_
    exact j_iret C F dX7_keyOf_101 h
  have h := it_f c10 h
  by_cases c11 : p0 = (108 : Int32)
  · have h := it_t c11 h
    refine j_tableIn C dX7_keyOf_1 (by rw [c11]; decide) (by rw [c11]; decide) (off := 113) (by rw [c11]; rfl) 114 (by decide) ?_
    refine j_bipush C dX7_keyOf_114 (8 : Int32) (by decide) 116 rfl ?_
    exact j_iret C F dX7_keyOf_116 h
  have h := it_f c11 h
  by_cases c12 : p0 = (109 : Int32)
  · have h := it_t c12 h
    refine j_tableIn C dX7_keyOf_1 (by rw [c12]; decide) (by rw [c12]; decide) (off := 119) (by rw [c12]; rfl) 120 (by decide) ?_
    refine j_iconst C dX7_keyOf_120 (-1 : Int32) (by decide) 121 rfl ?_
    exact j_iret C F dX7_keyOf_121 h
  have h := it_f c12 h
  by_cases c13 : p0 = (110 : Int32)
  · have h := it_t c13 h
    refine j_tableIn C dX7_keyOf_1 (by rw [c13]; decide) (by rw [c13]; decide) (off := 119) (by rw [c13]; rfl) 120 (by decide) ?_
    refine j_iconst C dX7_keyOf_120 (-1 : Int32) (by decide) 121 rfl ?_
    exact j_iret C F dX7_keyOf_121 h
  have h := it_f c13 h
  by_cases c14 : p0 = (111 : Int32)
  · have h := it_t c14 h
    refine j_tableIn C dX7_keyOf_1 (by rw [c14]; decide) (by rw [c14]; decide) (off := 105) (by rw [c14]; rfl) 106 (by decide) ?_
    refine j_iconst C dX7_keyOf_106 (5 : Int32) (by decide) 107 rfl ?_
    exact j_iret C F dX7_keyOf_107 h
  have h := it_f c14 h
  by_cases c15 : p0 = (112 : Int32)
  · have h := it_t c15 h
    refine j_tableIn C dX7_keyOf_1 (by rw [c15]; decide) (by rw [c15]; decide) (off := 101) (by rw [c15]; rfl) 102 (by decide) ?_
    refine j_iconst C dX7_keyOf_102 (3 : Int32) (by decide) 103 rfl ?_
    exact j_iret C F dX7_keyOf_103 h
  have h := it_f c15 h
  by_cases c16 : p0 = (113 : Int32)
  · have h := it_t c16 h
    refine j_tableIn C dX7_keyOf_1 (by rw [c16]; decide) (by rw [c16]; decide) (off := 119) (by rw [c16]; rfl) 120 (by decide) ?_
    refine j_iconst C dX7_keyOf_120 (-1 : Int32) (by decide) 121 rfl ?_
    exact j_iret C F dX7_keyOf_121 h
  have h := it_f c16 h
  by_cases c17 : p0 = (114 : Int32)
  · have h := it_t c17 h
    refine j_tableIn C dX7_keyOf_1 (by rw [c17]; decide) (by rw [c17]; decide) (off := 110) (by rw [c17]; rfl) 111 (by decide) ?_
    refine j_bipush C dX7_keyOf_111 (7 : Int32) (by decide) 113 rfl ?_
    exact j_iret C F dX7_keyOf_113 h
  have h := it_f c17 h
  by_cases c18 : p0 = (115 : Int32)
  · have h := it_t c18 h
    refine j_tableIn C dX7_keyOf_1 (by rw [c18]; decide) (by rw [c18]; decide) (off := 95) (by rw [c18]; rfl) 96 (by decide) ?_
    refine j_iconst C dX7_keyOf_96 (0 : Int32) (by decide) 97 rfl ?_
    exact j_iret C F dX7_keyOf_97 h
  have h := it_f c18 h
  by_cases c19 : p0 = (116 : Int32)
  · have h := it_t c19 h
    refine j_tableIn C dX7_keyOf_1 (by rw [c19]; decide) (by rw [c19]; decide) (off := 97) (by rw [c19]; rfl) 98 (by decide) ?_
    refine j_iconst C dX7_keyOf_98 (1 : Int32) (by decide) 99 rfl ?_
    exact j_iret C F dX7_keyOf_99 h
  have h := it_f c19 h
  refine j_tableOut C dX7_keyOf_1 (by have n0 := tsw_ne (z := 97) (by decide) c0; have n1 := tsw_ne (z := 98) (by decide) c1; have n2 := tsw_ne (z := 99) (by decide) c2; have n3 := tsw_ne (z := 100) (by decide) c3; have n4 := tsw_ne (z := 101) (by decide) c4; have n5 := tsw_ne (z := 102) (by decide) c5; have n6 := tsw_ne (z := 103) (by decide) c6; have n7 := tsw_ne (z := 104) (by decide) c7; have n8 := tsw_ne (z := 105) (by decide) c8; have n9 := tsw_ne (z := 106) (by decide) c9; have n10 := tsw_ne (z := 107) (by decide) c10; have n11 := tsw_ne (z := 108) (by decide) c11; have n12 := tsw_ne (z := 109) (by decide) c12; have n13 := tsw_ne (z := 110) (by decide) c13; have n14 := tsw_ne (z := 111) (by decide) c14; have n15 := tsw_ne (z := 112) (by decide) c15; have n16 := tsw_ne (z := 113) (by decide) c16; have n17 := tsw_ne (z := 114) (by decide) c17; have n18 := tsw_ne (z := 115) (by decide) c18; have n19 := tsw_ne (z := 116) (by decide) c19; omega) 120 (by decide) ?_
  refine j_iconst C dX7_keyOf_120 (-1 : Int32) (by decide) 121 rfl ?_
  exact j_iret C F dX7_keyOf_121 h

-- ===== StenoChordsModel.readsStroke()I
theorem vk_X7_readsStroke : VK yX7_readsStroke cX7_readsStroke 2 (some .int) 0 := ⟨kw5_67, kw5_66, kwS_36, kw1_9, by decide +kernel⟩
def X7_readsStroke_39 (K : Mem → Int32 → Option (Mem × Int32)) : Nat → Mem → Int32 → Option (Mem × Int32)
  | 0, _, _ => none
  | fu + 1, σ, v1 => (if (σ.1 82 5) ≤ (σ.1 82 6) then K σ v1 else (if inA (σ.1 82 6) 60 then ((X7_keyOf σ (σ.1 84 (σ.1 82 6).toNatClampNeg)).bind fun q1 => (if q1.2 = (-1 : Int32) then K q1.1 v1 else (if inA (q1.1.1 82 6) 60 then ((X7_keyOf q1.1 (q1.1.1 84 (q1.1.1 82 6).toNatClampNeg)).bind fun q3 => (if (v1 >>> (q3.2 &&& 31)) = 0 then (if inA (q3.1.1 82 6) 60 then ((X7_keyOf q3.1 (q3.1.1 84 (q3.1.1 82 6).toNatClampNeg)).bind fun q5 => ((some (setI q5.1 82 6 ((q5.1.1 82 6) + (1 : Int32)))).bind fun σ7 => X7_readsStroke_39 K fu σ7 (v1 + ((1 : Int32) <<< (q5.2 &&& 31))))) else none) else K q3.1 v1)) else none))) else none))
set_option maxHeartbeats 4000000 in
set_option maxRecDepth 100000 in
theorem w_X7_readsStroke_39 {E : Ev} {G : Gw} (C : Cx E G RX7 cX7_readsStroke 2 { frames := 1, cells := 0, slots := 0, locals := 20 }) {out : Mem × Int32} (F : Ef E G out.1 (some (.int out.2)) (some .int) 0 0)  {K : Mem → Int32 → Option (Mem × Int32)} (hK : ∀ (σ : Mem) (v1 : Int32), K σ v1 = some out → J E G 2 0 0 σ 113 [(1, .int v1)] []) : ∀ (fu : Nat) (σ : Mem) (v1 : Int32), X7_readsStroke_39 K fu σ v1 = some out → J E G 2 0 0 σ 39 [(0, .ref (gA G 82)), (1, .int v1)] [] := by
  intro fu
  induction fu with
  | zero => intro σ v1 h; rw [X7_readsStroke_39] at h; cases h
  | succ fu ih =>
    intro σ v1 h
    rw [X7_readsStroke_39] at h
    refine j_aload_n C dX7_readsStroke_39 rfl 0 rfl 40 rfl ?_
    refine j_get C foX7 sh82 6 (by decide) 0 rfl kw4_188 rfl dX7_readsStroke_40 (.int (σ.1 82 6)) rfl 43 rfl ?_
    refine j_aload_n C dX7_readsStroke_43 rfl 0 rfl 44 rfl ?_
    refine j_get C foX7 sh82 5 (by decide) 0 rfl kw4_187 rfl dX7_readsStroke_44 (.int (σ.1 82 5)) rfl 47 rfl ?_
    refine j_icmp_ge C dX7_readsStroke_47 113 (by decide) 50 rfl (fun c => ?_) (fun c => ?_)
    · have h := it_t c h
      refine j_sub [(1, .int v1)] [1] rfl ?_
      exact hK _ _ h
    · have h := it_f c h
      refine j_aload_n C dX7_readsStroke_50 rfl 0 rfl 51 rfl ?_
      refine j_get C foX7 sh82 4 (by decide) 86 rfl kw4_186 rfl dX7_readsStroke_51 (.ref (gA G 84)) (fv_r rfl) 54 rfl ?_
      refine j_aload_n C dX7_readsStroke_54 rfl 0 rfl 55 rfl ?_
      refine j_get C foX7 sh82 6 (by decide) 0 rfl kw4_188 rfl dX7_readsStroke_55 (.int (σ.1 82 6)) rfl 58 rfl ?_
      obtain ⟨hc, h⟩ := if_some h
      refine j_iald C sh84 hc dX7_readsStroke_58 (σ.1 82 6).toNatClampNeg rfl 59 rfl ?_
      obtain ⟨q1, e2, h⟩ := ob_some h
      refine j_callS C (ct_X7_keyOf (eL E) G  e2) vk_X7_keyOf kw5_68 rfl ⟨Nat.le_of_ble_eq_true rfl, Nat.le_of_ble_eq_true rfl, rfl, rfl⟩ ⟨Nat.zero_le _, Nat.zero_le _⟩ (rest := []) rfl (Nat.le_of_ble_eq_true rfl) dX7_readsStroke_59 (st1 := [.int q1.2]) rfl 62 rfl ?_
      refine j_iconst C dX7_readsStroke_62 (-1 : Int32) (by decide) 63 rfl ?_
      refine j_icmp_eq C dX7_readsStroke_63 113 (by decide) 66 rfl (fun c => ?_) (fun c => ?_)
      · have h := it_t c h
        refine j_sub [(1, .int v1)] [1] rfl ?_
        exact hK _ _ h
      · have h := it_f c h
        refine j_iload_n C dX7_readsStroke_66 rfl 1 rfl 67 rfl ?_
        refine j_aload_n C dX7_readsStroke_67 rfl 0 rfl 68 rfl ?_
        refine j_get C foX7 sh82 4 (by decide) 86 rfl kw4_186 rfl dX7_readsStroke_68 (.ref (gA G 84)) (fv_r rfl) 71 rfl ?_
        refine j_aload_n C dX7_readsStroke_71 rfl 0 rfl 72 rfl ?_
        refine j_get C foX7 sh82 6 (by decide) 0 rfl kw4_188 rfl dX7_readsStroke_72 (.int (q1.1.1 82 6)) rfl 75 rfl ?_
        obtain ⟨hc, h⟩ := if_some h
        refine j_iald C sh84 hc dX7_readsStroke_75 (q1.1.1 82 6).toNatClampNeg rfl 76 rfl ?_
        obtain ⟨q3, e4, h⟩ := ob_some h
        refine j_callS C (ct_X7_keyOf (eL E) G  e4) vk_X7_keyOf kw5_68 rfl ⟨Nat.le_of_ble_eq_true rfl, Nat.le_of_ble_eq_true rfl, rfl, rfl⟩ ⟨Nat.zero_le _, Nat.zero_le _⟩ (rest := [.int v1]) rfl (Nat.le_of_ble_eq_true rfl) dX7_readsStroke_76 (st1 := [.int q3.2, .int v1]) rfl 79 rfl ?_
        refine j_ishr C dX7_readsStroke_79 80 rfl ?_
        refine j_if_ne C dX7_readsStroke_80 113 (by decide) 83 rfl (fun c => ?_) (fun c => ?_)
        · have h := it_f c h
          refine j_sub [(1, .int v1)] [1] rfl ?_
          exact hK _ _ h
        · have h := it_t c h
          refine j_iload_n C dX7_readsStroke_83 rfl 1 rfl 84 rfl ?_
          refine j_iconst C dX7_readsStroke_84 (1 : Int32) (by decide) 85 rfl ?_
          refine j_aload_n C dX7_readsStroke_85 rfl 0 rfl 86 rfl ?_
          refine j_get C foX7 sh82 4 (by decide) 86 rfl kw4_186 rfl dX7_readsStroke_86 (.ref (gA G 84)) (fv_r rfl) 89 rfl ?_
          refine j_aload_n C dX7_readsStroke_89 rfl 0 rfl 90 rfl ?_
          refine j_get C foX7 sh82 6 (by decide) 0 rfl kw4_188 rfl dX7_readsStroke_90 (.int (q3.1.1 82 6)) rfl 93 rfl ?_
          obtain ⟨hc, h⟩ := if_some h
          refine j_iald C sh84 hc dX7_readsStroke_93 (q3.1.1 82 6).toNatClampNeg rfl 94 rfl ?_
          obtain ⟨q5, e6, h⟩ := ob_some h
          refine j_callS C (ct_X7_keyOf (eL E) G  e6) vk_X7_keyOf kw5_68 rfl ⟨Nat.le_of_ble_eq_true rfl, Nat.le_of_ble_eq_true rfl, rfl, rfl⟩ ⟨Nat.zero_le _, Nat.zero_le _⟩ (rest := [.int (1 : Int32), .int v1]) rfl (Nat.le_of_ble_eq_true rfl) dX7_readsStroke_94 (st1 := [.int q5.2, .int (1 : Int32), .int v1]) rfl 97 rfl ?_
          refine j_ishl C dX7_readsStroke_97 98 rfl ?_
          refine j_iadd C dX7_readsStroke_98 99 rfl ?_
          refine j_istore_n C dX7_readsStroke_99 rfl (by decide) [(1, .int (v1 + ((1 : Int32) <<< (q5.2 &&& 31)))), (0, .ref (gA G 82))] rfl 100 rfl ?_
          refine j_aload_n C dX7_readsStroke_100 rfl 1 rfl 101 rfl ?_
          refine j_dup C dX7_readsStroke_101 rfl 102 rfl ?_
          refine j_get C foX7 sh82 6 (by decide) 0 rfl kw4_188 rfl dX7_readsStroke_102 (.int (q5.1.1 82 6)) rfl 105 rfl ?_
          refine j_iconst C dX7_readsStroke_105 (1 : Int32) (by decide) 106 rfl ?_
          refine j_iadd C dX7_readsStroke_106 107 rfl ?_
          obtain ⟨σ7, e8, h⟩ := ob_some h
          refine j_putI C foX7 sh82 6 (by decide) rfl kw4_188 rfl rfl rfl rfl dX7_readsStroke_107 σ7 (Option.some.inj e8) 110 rfl ?_
          refine j_goto C dX7_readsStroke_110 39 (by decide) ?_
          refine j_sub [(0, .ref (gA G 82)), (1, .int (v1 + ((1 : Int32) <<< (q5.2 &&& 31))))] [1, 0] rfl ?_
          exact ih _ _ h
def X7_readsStroke (σ : Mem) : Option (Mem × Int32) :=
  (if (σ.1 82 5) ≤ (σ.1 82 6) then X7_readsStroke_39 (fun (σ : Mem) (v1 : Int32) => (if v1 = 0 then some (σ, (-1 : Int32)) else some (σ, v1))) FU σ (0 : Int32) else (if inA (σ.1 82 6) 60 then (if (σ.1 84 (σ.1 82 6).toNatClampNeg) = (42 : Int32) then ((some (setI σ 82 6 ((σ.1 82 6) + (1 : Int32)))).bind fun σ9 => some (σ9, (0 : Int32))) else X7_readsStroke_39 (fun (σ : Mem) (v1 : Int32) => (if v1 = 0 then some (σ, (-1 : Int32)) else some (σ, v1))) FU σ (0 : Int32)) else none))
set_option maxHeartbeats 4000000 in
set_option maxRecDepth 100000 in
theorem ct_X7_readsStroke (l : Launch) (G : Gw)  {σ : Mem} {out : Mem × Int32} (h : X7_readsStroke σ = some out) : Ct l G yX7_readsStroke cX7_readsStroke 2 (some .int) { frames := 1, cells := 0, slots := 0, locals := 20 } [.ref (gA G 82)] σ out.1 (some (.int out.2)) := by
  refine Ct.of (by decide +kernel) (Nat.le_of_ble_eq_true rfl) (fun E hE C F => ?_)
  subst hE
  have C : Cx E G RX7 cX7_readsStroke 2 { frames := 1, cells := 0, slots := 0, locals := 20 } := C
  unfold X7_readsStroke at h
  show J E G 2 0 0 σ 0 [(0, .ref (gA G 82))] []
  refine j_aload_n C dX7_readsStroke_0 rfl 0 rfl 1 rfl ?_
  refine j_get C foX7 sh82 6 (by decide) 0 rfl kw4_188 rfl dX7_readsStroke_1 (.int (σ.1 82 6)) rfl 4 rfl ?_
  refine j_aload_n C dX7_readsStroke_4 rfl 0 rfl 5 rfl ?_
  refine j_get C foX7 sh82 5 (by decide) 0 rfl kw4_187 rfl dX7_readsStroke_5 (.int (σ.1 82 5)) rfl 8 rfl ?_
  refine j_icmp_ge C dX7_readsStroke_8 37 (by decide) 11 rfl (fun c => ?_) (fun c => ?_)
  · have h := it_t c h
    refine j_iconst C dX7_readsStroke_37 (0 : Int32) (by decide) 38 rfl ?_
    refine j_istore_n C dX7_readsStroke_38 rfl (by decide) [(1, .int (0 : Int32)), (0, .ref (gA G 82))] rfl 39 rfl ?_
    refine j_sub [(0, .ref (gA G 82)), (1, .int (0 : Int32))] [1, 0] rfl ?_
    refine w_X7_readsStroke_39 C F  (fun σ v1 h => ?_) FU _ _ h
    refine j_iload_n C dX7_readsStroke_113 rfl 0 rfl 114 rfl ?_
    refine j_if_ne C dX7_readsStroke_114 121 (by decide) 117 rfl (fun c => ?_) (fun c => ?_)
    · have h := it_f c h
      refine j_iload_n C dX7_readsStroke_121 rfl 0 rfl 122 rfl ?_
      exact j_iret C F dX7_readsStroke_122 h
    · have h := it_t c h
      refine j_iconst C dX7_readsStroke_117 (-1 : Int32) (by decide) 118 rfl ?_
      refine j_goto C dX7_readsStroke_118 122 (by decide) ?_
      exact j_iret C F dX7_readsStroke_122 h
  · have h := it_f c h
    refine j_aload_n C dX7_readsStroke_11 rfl 0 rfl 12 rfl ?_
    refine j_get C foX7 sh82 4 (by decide) 86 rfl kw4_186 rfl dX7_readsStroke_12 (.ref (gA G 84)) (fv_r rfl) 15 rfl ?_
    refine j_aload_n C dX7_readsStroke_15 rfl 0 rfl 16 rfl ?_
    refine j_get C foX7 sh82 6 (by decide) 0 rfl kw4_188 rfl dX7_readsStroke_16 (.int (σ.1 82 6)) rfl 19 rfl ?_
    obtain ⟨hc, h⟩ := if_some h
    refine j_iald C sh84 hc dX7_readsStroke_19 (σ.1 82 6).toNatClampNeg rfl 20 rfl ?_
    refine j_bipush C dX7_readsStroke_20 (42 : Int32) (by decide) 22 rfl ?_
    refine j_icmp_ne C dX7_readsStroke_22 37 (by decide) 25 rfl (fun c => ?_) (fun c => ?_)
    · have h := it_f c h
      refine j_iconst C dX7_readsStroke_37 (0 : Int32) (by decide) 38 rfl ?_
      refine j_istore_n C dX7_readsStroke_38 rfl (by decide) [(1, .int (0 : Int32)), (0, .ref (gA G 82))] rfl 39 rfl ?_
      refine j_sub [(0, .ref (gA G 82)), (1, .int (0 : Int32))] [1, 0] rfl ?_
      refine w_X7_readsStroke_39 C F  (fun σ v1 h => ?_) FU _ _ h
      refine j_iload_n C dX7_readsStroke_113 rfl 0 rfl 114 rfl ?_
      refine j_if_ne C dX7_readsStroke_114 121 (by decide) 117 rfl (fun c => ?_) (fun c => ?_)
      · have h := it_f c h
        refine j_iload_n C dX7_readsStroke_121 rfl 0 rfl 122 rfl ?_
        exact j_iret C F dX7_readsStroke_122 h
      · have h := it_t c h
        refine j_iconst C dX7_readsStroke_117 (-1 : Int32) (by decide) 118 rfl ?_
        refine j_goto C dX7_readsStroke_118 122 (by decide) ?_
        exact j_iret C F dX7_readsStroke_122 h
    · have h := it_t c h
      refine j_aload_n C dX7_readsStroke_25 rfl 0 rfl 26 rfl ?_
      refine j_dup C dX7_readsStroke_26 rfl 27 rfl ?_
      refine j_get C foX7 sh82 6 (by decide) 0 rfl kw4_188 rfl dX7_readsStroke_27 (.int (σ.1 82 6)) rfl 30 rfl ?_
      refine j_iconst C dX7_readsStroke_30 (1 : Int32) (by decide) 31 rfl ?_
      refine j_iadd C dX7_readsStroke_31 32 rfl ?_
      obtain ⟨σ9, e10, h⟩ := ob_some h
      refine j_putI C foX7 sh82 6 (by decide) rfl kw4_188 rfl rfl rfl rfl dX7_readsStroke_32 σ9 (Option.some.inj e10) 35 rfl ?_
      refine j_iconst C dX7_readsStroke_35 (0 : Int32) (by decide) 36 rfl ?_
      exact j_iret C F dX7_readsStroke_36 h

-- ===== StenoChordsModel.areStrokes()Z
theorem vk_X7_areStrokes : VK yX7_areStrokes cX7_areStrokes 2 (some .boolean) 0 := ⟨kw5_63, kw5_62, kwS_35, kw1_9, by decide +kernel⟩
def X7_areStrokes_15 (K : Mem → Option (Mem × Int32)) : Nat → Mem → Int32 → Option (Mem × Int32)
  | 0, _, _ => none
  | fu + 1, σ, v1 => (if v1 = (-1 : Int32) then K σ else (if inA (σ.1 82 8) 31 then ((some (setI σ 85 (σ.1 82 8).toNatClampNeg v1)).bind fun σ7 => ((some (setI σ7 82 8 ((σ7.1 82 8) + (1 : Int32)))).bind fun σ9 => (if (σ9.1 82 6) = (σ9.1 82 5) then some (σ9, (1 : Int32)) else (if inA (σ9.1 82 6) 60 then (if (σ9.1 84 (σ9.1 82 6).toNatClampNeg) = (47 : Int32) then ((some (setI σ9 82 6 ((σ9.1 82 6) + (1 : Int32)))).bind fun σ11 => ((X7_readsStroke σ11).bind fun q13 => X7_areStrokes_15 K fu q13.1 q13.2)) else some (σ9, (0 : Int32))) else none)))) else none))
set_option maxHeartbeats 4000000 in
set_option maxRecDepth 100000 in
theorem w_X7_areStrokes_15 {E : Ev} {G : Gw} (C : Cx E G RX7 cX7_areStrokes 2 { frames := 2, cells := 0, slots := 0, locals := 41 }) {out : Mem × Int32} (F : Ef E G out.1 (some (.int out.2)) (some .boolean) 0 0)  {K : Mem → Option (Mem × Int32)} (hK : ∀ (σ : Mem) , K σ  = some out → J E G 2 0 0 σ 87 [] []) : ∀ (fu : Nat) (σ : Mem) (v1 : Int32), X7_areStrokes_15 K fu σ v1 = some out → J E G 2 0 0 σ 15 [(0, .ref (gA G 82)), (1, .int v1)] [] := by
  intro fu
  induction fu with
  | zero => intro σ v1 h; rw [X7_areStrokes_15] at h; cases h
  | succ fu ih =>
    intro σ v1 h
    rw [X7_areStrokes_15] at h
    refine j_iload_n C dX7_areStrokes_15 rfl 1 rfl 16 rfl ?_
    refine j_iconst C dX7_areStrokes_16 (-1 : Int32) (by decide) 17 rfl ?_
    refine j_icmp_eq C dX7_areStrokes_17 87 (by decide) 20 rfl (fun c => ?_) (fun c => ?_)
    · have h := it_t c h
      refine j_sub [] [] rfl ?_
      exact hK _ h
    · have h := it_f c h
      refine j_aload_n C dX7_areStrokes_20 rfl 0 rfl 21 rfl ?_
      refine j_get C foX7 sh82 7 (by decide) 87 rfl kw4_189 rfl dX7_areStrokes_21 (.ref (gA G 85)) (fv_r rfl) 24 rfl ?_
      refine j_aload_n C dX7_areStrokes_24 rfl 0 rfl 25 rfl ?_
      refine j_get C foX7 sh82 8 (by decide) 0 rfl kw4_190 rfl dX7_areStrokes_25 (.int (σ.1 82 8)) rfl 28 rfl ?_
      refine j_iload_n C dX7_areStrokes_28 rfl 1 rfl 29 rfl ?_
      obtain ⟨hc, h⟩ := if_some h
      obtain ⟨σ7, e8, h⟩ := ob_some h
      refine j_iast C sh85 hc dX7_areStrokes_29 (σ.1 82 8).toNatClampNeg rfl σ7 (Option.some.inj e8) 30 rfl ?_
      refine j_aload_n C dX7_areStrokes_30 rfl 0 rfl 31 rfl ?_
      refine j_dup C dX7_areStrokes_31 rfl 32 rfl ?_
      refine j_get C foX7 sh82 8 (by decide) 0 rfl kw4_190 rfl dX7_areStrokes_32 (.int (σ7.1 82 8)) rfl 35 rfl ?_
      refine j_iconst C dX7_areStrokes_35 (1 : Int32) (by decide) 36 rfl ?_
      refine j_iadd C dX7_areStrokes_36 37 rfl ?_
      obtain ⟨σ9, e10, h⟩ := ob_some h
      refine j_putI C foX7 sh82 8 (by decide) rfl kw4_190 rfl rfl rfl rfl dX7_areStrokes_37 σ9 (Option.some.inj e10) 40 rfl ?_
      refine j_aload_n C dX7_areStrokes_40 rfl 0 rfl 41 rfl ?_
      refine j_get C foX7 sh82 6 (by decide) 0 rfl kw4_188 rfl dX7_areStrokes_41 (.int (σ9.1 82 6)) rfl 44 rfl ?_
      refine j_aload_n C dX7_areStrokes_44 rfl 0 rfl 45 rfl ?_
      refine j_get C foX7 sh82 5 (by decide) 0 rfl kw4_187 rfl dX7_areStrokes_45 (.int (σ9.1 82 5)) rfl 48 rfl ?_
      refine j_icmp_ne C dX7_areStrokes_48 53 (by decide) 51 rfl (fun c => ?_) (fun c => ?_)
      · have h := it_f c h
        refine j_aload_n C dX7_areStrokes_53 rfl 0 rfl 54 rfl ?_
        refine j_get C foX7 sh82 4 (by decide) 86 rfl kw4_186 rfl dX7_areStrokes_54 (.ref (gA G 84)) (fv_r rfl) 57 rfl ?_
        refine j_aload_n C dX7_areStrokes_57 rfl 0 rfl 58 rfl ?_
        refine j_get C foX7 sh82 6 (by decide) 0 rfl kw4_188 rfl dX7_areStrokes_58 (.int (σ9.1 82 6)) rfl 61 rfl ?_
        obtain ⟨hc, h⟩ := if_some h
        refine j_iald C sh84 hc dX7_areStrokes_61 (σ9.1 82 6).toNatClampNeg rfl 62 rfl ?_
        refine j_bipush C dX7_areStrokes_62 (47 : Int32) (by decide) 64 rfl ?_
        refine j_icmp_eq C dX7_areStrokes_64 69 (by decide) 67 rfl (fun c => ?_) (fun c => ?_)
        · have h := it_t c h
          refine j_aload_n C dX7_areStrokes_69 rfl 0 rfl 70 rfl ?_
          refine j_dup C dX7_areStrokes_70 rfl 71 rfl ?_
          refine j_get C foX7 sh82 6 (by decide) 0 rfl kw4_188 rfl dX7_areStrokes_71 (.int (σ9.1 82 6)) rfl 74 rfl ?_
          refine j_iconst C dX7_areStrokes_74 (1 : Int32) (by decide) 75 rfl ?_
          refine j_iadd C dX7_areStrokes_75 76 rfl ?_
          obtain ⟨σ11, e12, h⟩ := ob_some h
          refine j_putI C foX7 sh82 6 (by decide) rfl kw4_188 rfl rfl rfl rfl dX7_areStrokes_76 σ11 (Option.some.inj e12) 79 rfl ?_
          refine j_aload_n C dX7_areStrokes_79 rfl 0 rfl 80 rfl ?_
          obtain ⟨q13, e14, h⟩ := ob_some h
          refine j_callV C (ct_X7_readsStroke (eL E) G  e14) sh82 foX7 rfl vk_X7_readsStroke kw5_64 rfl ⟨Nat.le_of_ble_eq_true rfl, Nat.le_of_ble_eq_true rfl, rfl, rfl⟩ ⟨Nat.zero_le _, Nat.zero_le _⟩ (rest := []) rfl (Nat.le_of_ble_eq_true rfl) dX7_areStrokes_80 (st1 := [.int q13.2]) rfl 83 rfl ?_
          refine j_istore_n C dX7_areStrokes_83 rfl (by decide) [(1, .int q13.2), (0, .ref (gA G 82))] rfl 84 rfl ?_
          refine j_goto C dX7_areStrokes_84 15 (by decide) ?_
          refine j_sub [(0, .ref (gA G 82)), (1, .int q13.2)] [1, 0] rfl ?_
          exact ih _ _ h
        · have h := it_f c h
          refine j_iconst C dX7_areStrokes_67 (0 : Int32) (by decide) 68 rfl ?_
          exact j_zret C F dX7_areStrokes_68 (by decide) h
      · have h := it_t c h
        refine j_iconst C dX7_areStrokes_51 (1 : Int32) (by decide) 52 rfl ?_
        exact j_zret C F dX7_areStrokes_52 (by decide) h
def X7_areStrokes (σ : Mem) : Option (Mem × Int32) :=
  ((some (setI σ 82 6 (0 : Int32))).bind fun σ1 => ((some (setI σ1 82 8 (0 : Int32))).bind fun σ3 => ((X7_readsStroke σ3).bind fun q5 => X7_areStrokes_15 (fun (σ : Mem)  => some (σ, (0 : Int32))) FU q5.1 q5.2)))
set_option maxHeartbeats 4000000 in
set_option maxRecDepth 100000 in
theorem ct_X7_areStrokes (l : Launch) (G : Gw)  {σ : Mem} {out : Mem × Int32} (h : X7_areStrokes σ = some out) : Ct l G yX7_areStrokes cX7_areStrokes 2 (some .boolean) { frames := 2, cells := 0, slots := 0, locals := 41 } [.ref (gA G 82)] σ out.1 (some (.int out.2)) := by
  refine Ct.of (by decide +kernel) (Nat.le_of_ble_eq_true rfl) (fun E hE C F => ?_)
  subst hE
  have C : Cx E G RX7 cX7_areStrokes 2 { frames := 2, cells := 0, slots := 0, locals := 41 } := C
  unfold X7_areStrokes at h
  show J E G 2 0 0 σ 0 [(0, .ref (gA G 82))] []
  refine j_aload_n C dX7_areStrokes_0 rfl 0 rfl 1 rfl ?_
  refine j_iconst C dX7_areStrokes_1 (0 : Int32) (by decide) 2 rfl ?_
  obtain ⟨σ1, e2, h⟩ := ob_some h
  refine j_putI C foX7 sh82 6 (by decide) rfl kw4_188 rfl rfl rfl rfl dX7_areStrokes_2 σ1 (Option.some.inj e2) 5 rfl ?_
  refine j_aload_n C dX7_areStrokes_5 rfl 0 rfl 6 rfl ?_
  refine j_iconst C dX7_areStrokes_6 (0 : Int32) (by decide) 7 rfl ?_
  obtain ⟨σ3, e4, h⟩ := ob_some h
  refine j_putI C foX7 sh82 8 (by decide) rfl kw4_190 rfl rfl rfl rfl dX7_areStrokes_7 σ3 (Option.some.inj e4) 10 rfl ?_
  refine j_aload_n C dX7_areStrokes_10 rfl 0 rfl 11 rfl ?_
  obtain ⟨q5, e6, h⟩ := ob_some h
  refine j_callV C (ct_X7_readsStroke (eL E) G  e6) sh82 foX7 rfl vk_X7_readsStroke kw5_64 rfl ⟨Nat.le_of_ble_eq_true rfl, Nat.le_of_ble_eq_true rfl, rfl, rfl⟩ ⟨Nat.zero_le _, Nat.zero_le _⟩ (rest := []) rfl (Nat.le_of_ble_eq_true rfl) dX7_areStrokes_11 (st1 := [.int q5.2]) rfl 14 rfl ?_
  refine j_istore_n C dX7_areStrokes_14 rfl (by decide) [(1, .int q5.2), (0, .ref (gA G 82))] rfl 15 rfl ?_
  refine j_sub [(0, .ref (gA G 82)), (1, .int q5.2)] [1, 0] rfl ?_
  refine w_X7_areStrokes_15 C F  (fun σ  h => ?_) FU _ _ h
  refine j_iconst C dX7_areStrokes_87 (0 : Int32) (by decide) 88 rfl ?_
  exact j_zret C F dX7_areStrokes_88 (by decide) h

-- ===== StenoChordsModel.play()I
theorem vk_X7_play : VK yX7_play cX7_play 2 (some .int) 0 := ⟨kw5_59, kw5_57, kw5_58, kw1_9, by decide +kernel⟩
def X7_play_27 (K : Mem → Int32 → Option (Mem × Int32)) : Nat → Mem → Int32 → Option (Mem × Int32)
  | 0, _, _ => none
  | fu + 1, σ, v1 => (if (σ.1 82 8) ≤ v1 then K σ v1 else (if inA v1 31 then ((X7_canStrike σ (σ.1 85 v1.toNatClampNeg)).bind fun q7 => (if q7.2 = 0 then K q7.1 v1 else (if inA v1 31 then ((X7_strikes q7.1 (q7.1.1 85 v1.toNatClampNeg)).bind fun q9 => X7_play_27 K fu q9.1 (v1 + (1 : Int32))) else none))) else none))
set_option maxHeartbeats 4000000 in
set_option maxRecDepth 100000 in
theorem w_X7_play_27 {E : Ev} {G : Gw} (C : Cx E G RX7 cX7_play 2 { frames := 7, cells := 0, slots := 0, locals := 159 }) {out : Mem × Int32} (F : Ef E G out.1 (some (.int out.2)) (some .int) 0 0)  {K : Mem → Int32 → Option (Mem × Int32)} (hK : ∀ (σ : Mem) (v1 : Int32), K σ v1 = some out → J E G 2 0 0 σ 64 [(0, .ref (gA G 82)), (1, .int v1)] []) : ∀ (fu : Nat) (σ : Mem) (v1 : Int32), X7_play_27 K fu σ v1 = some out → J E G 2 0 0 σ 27 [(0, .ref (gA G 82)), (1, .int v1)] [] := by
  intro fu
  induction fu with
  | zero => intro σ v1 h; rw [X7_play_27] at h; cases h
  | succ fu ih =>
    intro σ v1 h
    rw [X7_play_27] at h
    refine j_iload_n C dX7_play_27 rfl 1 rfl 28 rfl ?_
    refine j_aload_n C dX7_play_28 rfl 0 rfl 29 rfl ?_
    refine j_get C foX7 sh82 8 (by decide) 0 rfl kw4_190 rfl dX7_play_29 (.int (σ.1 82 8)) rfl 32 rfl ?_
    refine j_icmp_ge C dX7_play_32 64 (by decide) 35 rfl (fun c => ?_) (fun c => ?_)
    · have h := it_t c h
      exact hK _ _ h
    · have h := it_f c h
      refine j_aload_n C dX7_play_35 rfl 0 rfl 36 rfl ?_
      refine j_aload_n C dX7_play_36 rfl 0 rfl 37 rfl ?_
      refine j_get C foX7 sh82 7 (by decide) 87 rfl kw4_189 rfl dX7_play_37 (.ref (gA G 85)) (fv_r rfl) 40 rfl ?_
      refine j_iload_n C dX7_play_40 rfl 1 rfl 41 rfl ?_
      obtain ⟨hc, h⟩ := if_some h
      refine j_iald C sh85 hc dX7_play_41 v1.toNatClampNeg rfl 42 rfl ?_
      obtain ⟨q7, e8, h⟩ := ob_some h
      refine j_callV C (ct_X7_canStrike (eL E) G  e8) sh82 foX7 rfl vk_X7_canStrike kw5_5 rfl ⟨Nat.le_of_ble_eq_true rfl, Nat.le_of_ble_eq_true rfl, rfl, rfl⟩ ⟨Nat.zero_le _, Nat.zero_le _⟩ (rest := []) rfl (Nat.le_of_ble_eq_true rfl) dX7_play_42 (st1 := [.int q7.2]) rfl 45 rfl ?_
      refine j_if_eq C dX7_play_45 64 (by decide) 48 rfl (fun c => ?_) (fun c => ?_)
      · have h := it_t c h
        exact hK _ _ h
      · have h := it_f c h
        refine j_aload_n C dX7_play_48 rfl 0 rfl 49 rfl ?_
        refine j_aload_n C dX7_play_49 rfl 0 rfl 50 rfl ?_
        refine j_get C foX7 sh82 7 (by decide) 87 rfl kw4_189 rfl dX7_play_50 (.ref (gA G 85)) (fv_r rfl) 53 rfl ?_
        refine j_iload_n C dX7_play_53 rfl 1 rfl 54 rfl ?_
        obtain ⟨hc, h⟩ := if_some h
        refine j_iald C sh85 hc dX7_play_54 v1.toNatClampNeg rfl 55 rfl ?_
        obtain ⟨q9, e10, h⟩ := ob_some h
        refine j_callV C (ct_X7_strikes (eL E) G  e10) sh82 foX7 rfl vk_X7_strikes kw5_21 rfl ⟨Nat.le_of_ble_eq_true rfl, Nat.le_of_ble_eq_true rfl, rfl, rfl⟩ ⟨Nat.zero_le _, Nat.zero_le _⟩ (rest := []) rfl (Nat.le_of_ble_eq_true rfl) dX7_play_55 (st1 := []) rfl 58 rfl ?_
        refine j_iinc C dX7_play_58 1 rfl (v1 + (1 : Int32)) rfl (by decide) [(1, .int (v1 + (1 : Int32))), (0, .ref (gA G 82))] rfl 61 rfl ?_
        refine j_goto C dX7_play_61 27 (by decide) ?_
        refine j_sub [(0, .ref (gA G 82)), (1, .int (v1 + (1 : Int32)))] [1, 0] rfl ?_
        exact ih _ _ h
def X7_play (σ : Mem) : Option (Mem × Int32) :=
  ((X7_areStrokes σ).bind fun q1 => (if q1.2 = 0 then ((X7_holds q1.1 (1 : Int32)).bind fun q3 => (if q3.2 = 0 then some (q3.1, (0 : Int32)) else ((X7_save q3.1).bind fun q5 => X7_play_27 (fun (σ : Mem) (v1 : Int32) => ((some (setI σ 82 5 (0 : Int32))).bind fun σ11 => some (σ11, v1))) FU q5.1 (0 : Int32)))) else ((X7_holds q1.1 (0 : Int32)).bind fun q13 => (if q13.2 = 0 then some (q13.1, (0 : Int32)) else ((X7_save q13.1).bind fun q15 => X7_play_27 (fun (σ : Mem) (v1 : Int32) => ((some (setI σ 82 5 (0 : Int32))).bind fun σ17 => some (σ17, v1))) FU q15.1 (0 : Int32))))))
set_option maxHeartbeats 4000000 in
set_option maxRecDepth 100000 in
theorem ct_X7_play (l : Launch) (G : Gw)  {σ : Mem} {out : Mem × Int32} (h : X7_play σ = some out) : Ct l G yX7_play cX7_play 2 (some .int) { frames := 7, cells := 0, slots := 0, locals := 159 } [.ref (gA G 82)] σ out.1 (some (.int out.2)) := by
  refine Ct.of (by decide +kernel) (Nat.le_of_ble_eq_true rfl) (fun E hE C F => ?_)
  subst hE
  have C : Cx E G RX7 cX7_play 2 { frames := 7, cells := 0, slots := 0, locals := 159 } := C
  unfold X7_play at h
  show J E G 2 0 0 σ 0 [(0, .ref (gA G 82))] []
  refine j_aload_n C dX7_play_0 rfl 0 rfl 1 rfl ?_
  refine j_aload_n C dX7_play_1 rfl 0 rfl 2 rfl ?_
  obtain ⟨q1, e2, h⟩ := ob_some h
  refine j_callV C (ct_X7_areStrokes (eL E) G  e2) sh82 foX7 rfl vk_X7_areStrokes kw5_60 rfl ⟨Nat.le_of_ble_eq_true rfl, Nat.le_of_ble_eq_true rfl, rfl, rfl⟩ ⟨Nat.zero_le _, Nat.zero_le _⟩ (rest := [.ref (gA G 82)]) rfl (Nat.le_of_ble_eq_true rfl) dX7_play_2 (st1 := [.int q1.2, .ref (gA G 82)]) rfl 5 rfl ?_
  refine j_if_eq C dX7_play_5 12 (by decide) 8 rfl (fun c => ?_) (fun c => ?_)
  · have h := it_t c h
    refine j_iconst C dX7_play_12 (1 : Int32) (by decide) 13 rfl ?_
    obtain ⟨q3, e4, h⟩ := ob_some h
    refine j_callV C (ct_X7_holds (eL E) G  e4) sh82 foX7 rfl vk_X7_holds kw5_9 rfl ⟨Nat.le_of_ble_eq_true rfl, Nat.le_of_ble_eq_true rfl, rfl, rfl⟩ ⟨Nat.zero_le _, Nat.zero_le _⟩ (rest := []) rfl (Nat.le_of_ble_eq_true rfl) dX7_play_13 (st1 := [.int q3.2]) rfl 16 rfl ?_
    refine j_if_ne C dX7_play_16 21 (by decide) 19 rfl (fun c => ?_) (fun c => ?_)
    · have h := it_f c h
      refine j_aload_n C dX7_play_21 rfl 0 rfl 22 rfl ?_
      obtain ⟨q5, e6, h⟩ := ob_some h
      refine j_callV C (ct_X7_save (eL E) G  e6) sh82 foX7 rfl vk_X7_save kw5_13 rfl ⟨Nat.le_of_ble_eq_true rfl, Nat.le_of_ble_eq_true rfl, rfl, rfl⟩ ⟨Nat.zero_le _, Nat.zero_le _⟩ (rest := []) rfl (Nat.le_of_ble_eq_true rfl) dX7_play_22 (st1 := []) rfl 25 rfl ?_
      refine j_iconst C dX7_play_25 (0 : Int32) (by decide) 26 rfl ?_
      refine j_istore_n C dX7_play_26 rfl (by decide) [(1, .int (0 : Int32)), (0, .ref (gA G 82))] rfl 27 rfl ?_
      refine j_sub [(0, .ref (gA G 82)), (1, .int (0 : Int32))] [1, 0] rfl ?_
      refine w_X7_play_27 C F  (fun σ v1 h => ?_) FU _ _ h
      refine j_aload_n C dX7_play_64 rfl 0 rfl 65 rfl ?_
      refine j_iconst C dX7_play_65 (0 : Int32) (by decide) 66 rfl ?_
      obtain ⟨σ11, e12, h⟩ := ob_some h
      refine j_putI C foX7 sh82 5 (by decide) rfl kw4_187 rfl rfl rfl rfl dX7_play_66 σ11 (Option.some.inj e12) 69 rfl ?_
      refine j_iload_n C dX7_play_69 rfl 1 rfl 70 rfl ?_
      exact j_iret C F dX7_play_70 h
    · have h := it_t c h
      refine j_iconst C dX7_play_19 (0 : Int32) (by decide) 20 rfl ?_
      exact j_iret C F dX7_play_20 h
  · have h := it_f c h
    refine j_iconst C dX7_play_8 (0 : Int32) (by decide) 9 rfl ?_
    refine j_goto C dX7_play_9 13 (by decide) ?_
    obtain ⟨q13, e14, h⟩ := ob_some h
    refine j_callV C (ct_X7_holds (eL E) G  e14) sh82 foX7 rfl vk_X7_holds kw5_9 rfl ⟨Nat.le_of_ble_eq_true rfl, Nat.le_of_ble_eq_true rfl, rfl, rfl⟩ ⟨Nat.zero_le _, Nat.zero_le _⟩ (rest := []) rfl (Nat.le_of_ble_eq_true rfl) dX7_play_13 (st1 := [.int q13.2]) rfl 16 rfl ?_
    refine j_if_ne C dX7_play_16 21 (by decide) 19 rfl (fun c => ?_) (fun c => ?_)
    · have h := it_f c h
      refine j_aload_n C dX7_play_21 rfl 0 rfl 22 rfl ?_
      obtain ⟨q15, e16, h⟩ := ob_some h
      refine j_callV C (ct_X7_save (eL E) G  e16) sh82 foX7 rfl vk_X7_save kw5_13 rfl ⟨Nat.le_of_ble_eq_true rfl, Nat.le_of_ble_eq_true rfl, rfl, rfl⟩ ⟨Nat.zero_le _, Nat.zero_le _⟩ (rest := []) rfl (Nat.le_of_ble_eq_true rfl) dX7_play_22 (st1 := []) rfl 25 rfl ?_
      refine j_iconst C dX7_play_25 (0 : Int32) (by decide) 26 rfl ?_
      refine j_istore_n C dX7_play_26 rfl (by decide) [(1, .int (0 : Int32)), (0, .ref (gA G 82))] rfl 27 rfl ?_
      refine j_sub [(0, .ref (gA G 82)), (1, .int (0 : Int32))] [1, 0] rfl ?_
      refine w_X7_play_27 C F  (fun σ v1 h => ?_) FU _ _ h
      refine j_aload_n C dX7_play_64 rfl 0 rfl 65 rfl ?_
      refine j_iconst C dX7_play_65 (0 : Int32) (by decide) 66 rfl ?_
      obtain ⟨σ17, e18, h⟩ := ob_some h
      refine j_putI C foX7 sh82 5 (by decide) rfl kw4_187 rfl rfl rfl rfl dX7_play_66 σ17 (Option.some.inj e18) 69 rfl ?_
      refine j_iload_n C dX7_play_69 rfl 1 rfl 70 rfl ?_
      exact j_iret C F dX7_play_70 h
    · have h := it_t c h
      refine j_iconst C dX7_play_19 (0 : Int32) (by decide) 20 rfl ?_
      exact j_iret C F dX7_play_20 h

-- ===== StenoChordsModel.tear()I
theorem vk_X7_tear : VK yX7_tear cX7_tear 2 (some .int) 0 := ⟨kw5_74, kw5_72, kw5_73, kw1_9, by decide +kernel⟩
def X7_tear (σ : Mem) : Option (Mem × Int32) :=
  ((some (setI σ 82 0 (0 : Int32))).bind fun σ1 => ((X7_save σ1).bind fun q3 => ((some (setI q3.1 83 0 (0 : Int32))).bind fun σ5 => some (σ5, (q3.1.1 83 0)))))
set_option maxHeartbeats 4000000 in
set_option maxRecDepth 100000 in
theorem ct_X7_tear (l : Launch) (G : Gw)  {σ : Mem} {out : Mem × Int32} (h : X7_tear σ = some out) : Ct l G yX7_tear cX7_tear 2 (some .int) { frames := 2, cells := 0, slots := 0, locals := 44 } [.ref (gA G 82)] σ out.1 (some (.int out.2)) := by
  refine Ct.of (by decide +kernel) (Nat.le_of_ble_eq_true rfl) (fun E hE C F => ?_)
  subst hE
  have C : Cx E G RX7 cX7_tear 2 { frames := 2, cells := 0, slots := 0, locals := 44 } := C
  unfold X7_tear at h
  show J E G 2 0 0 σ 0 [(0, .ref (gA G 82))] []
  refine j_aload_n C dX7_tear_0 rfl 0 rfl 1 rfl ?_
  refine j_iconst C dX7_tear_1 (0 : Int32) (by decide) 2 rfl ?_
  obtain ⟨σ1, e2, h⟩ := ob_some h
  refine j_putI C foX7 sh82 0 (by decide) rfl kw4_182 rfl rfl rfl rfl dX7_tear_2 σ1 (Option.some.inj e2) 5 rfl ?_
  refine j_aload_n C dX7_tear_5 rfl 0 rfl 6 rfl ?_
  obtain ⟨q3, e4, h⟩ := ob_some h
  refine j_callV C (ct_X7_save (eL E) G  e4) sh82 foX7 rfl vk_X7_save kw5_13 rfl ⟨Nat.le_of_ble_eq_true rfl, Nat.le_of_ble_eq_true rfl, rfl, rfl⟩ ⟨Nat.zero_le _, Nat.zero_le _⟩ (rest := []) rfl (Nat.le_of_ble_eq_true rfl) dX7_tear_6 (st1 := []) rfl 9 rfl ?_
  refine j_aload_n C dX7_tear_9 rfl 0 rfl 10 rfl ?_
  refine j_get C foX7 sh82 1 (by decide) 85 rfl kw4_183 rfl dX7_tear_10 (.ref (gA G 83)) (fv_r rfl) 13 rfl ?_
  refine j_iconst C dX7_tear_13 (0 : Int32) (by decide) 14 rfl ?_
  refine j_iald C sh83 (by decide) dX7_tear_14 0 rfl 15 rfl ?_
  refine j_istore_n C dX7_tear_15 rfl (by decide) [(1, .int (q3.1.1 83 0)), (0, .ref (gA G 82))] rfl 16 rfl ?_
  refine j_aload_n C dX7_tear_16 rfl 1 rfl 17 rfl ?_
  refine j_get C foX7 sh82 1 (by decide) 85 rfl kw4_183 rfl dX7_tear_17 (.ref (gA G 83)) (fv_r rfl) 20 rfl ?_
  refine j_iconst C dX7_tear_20 (0 : Int32) (by decide) 21 rfl ?_
  refine j_iconst C dX7_tear_21 (0 : Int32) (by decide) 22 rfl ?_
  obtain ⟨σ5, e6, h⟩ := ob_some h
  refine j_iast C sh83 (by decide) dX7_tear_22 0 rfl σ5 (Option.some.inj e6) 23 rfl ?_
  refine j_iload_n C dX7_tear_23 rfl 0 rfl 24 rfl ?_
  exact j_iret C F dX7_tear_24 h

-- ===== StenoChordsModel.pick(II)I
theorem vk_X7_pick : VK yX7_pick cX7_pick 5 (some .int) 2 := ⟨kw5_78, kw5_76, kw5_77, kw1_9, by decide +kernel⟩
def X7_pick_91 (σ : Mem) (v2 : Int32) (s0 : Int32) : Option (Mem × Int32) :=
  ((X7_holds σ s0).bind fun q5 => (if q5.2 = 0 then some (q5.1, (0 : Int32)) else ((X7_save q5.1).bind fun q7 => ((X7_of q7.1 v2 (6 : Int32)).bind fun q9 => ((X7_lay q9.1 v2 (6 : Int32) (q9.2 + (1 : Int32))).bind fun q11 => ((X7_of q11.1 v2 (6 : Int32)).bind fun q13 => some (q13.1, q13.2)))))))
set_option maxHeartbeats 4000000 in
set_option maxRecDepth 100000 in
theorem w_X7_pick_91 {E : Ev} {G : Gw} (C : Cx E G RX7 cX7_pick 5 { frames := 6, cells := 0, slots := 0, locals := 137 }) {out : Mem × Int32} (F : Ef E G out.1 (some (.int out.2)) (some .int) 0 0)  (σ : Mem) (v2 : Int32) (s0 : Int32) (h : X7_pick_91 σ v2 s0 = some out) : J E G 5 0 0 σ 91 [(0, .ref (gA G 82)), (2, .int v2)] [.int s0, .ref (gA G 82)] := by
  unfold X7_pick_91 at h
  obtain ⟨q5, e6, h⟩ := ob_some h
  refine j_callV C (ct_X7_holds (eL E) G  e6) sh82 foX7 rfl vk_X7_holds kw5_9 rfl ⟨Nat.le_of_ble_eq_true rfl, Nat.le_of_ble_eq_true rfl, rfl, rfl⟩ ⟨Nat.zero_le _, Nat.zero_le _⟩ (rest := []) rfl (Nat.le_of_ble_eq_true rfl) dX7_pick_91 (st1 := [.int q5.2]) rfl 94 rfl ?_
  refine j_if_ne C dX7_pick_94 99 (by decide) 97 rfl (fun c => ?_) (fun c => ?_)
  · have h := it_f c h
    refine j_aload_n C dX7_pick_99 rfl 0 rfl 100 rfl ?_
    obtain ⟨q7, e8, h⟩ := ob_some h
    refine j_callV C (ct_X7_save (eL E) G  e8) sh82 foX7 rfl vk_X7_save kw5_13 rfl ⟨Nat.le_of_ble_eq_true rfl, Nat.le_of_ble_eq_true rfl, rfl, rfl⟩ ⟨Nat.zero_le _, Nat.zero_le _⟩ (rest := []) rfl (Nat.le_of_ble_eq_true rfl) dX7_pick_100 (st1 := []) rfl 103 rfl ?_
    refine j_aload_n C dX7_pick_103 rfl 0 rfl 104 rfl ?_
    refine j_iload_n C dX7_pick_104 rfl 1 rfl 105 rfl ?_
    refine j_bipush C dX7_pick_105 (6 : Int32) (by decide) 107 rfl ?_
    refine j_aload_n C dX7_pick_107 rfl 0 rfl 108 rfl ?_
    refine j_iload_n C dX7_pick_108 rfl 1 rfl 109 rfl ?_
    refine j_bipush C dX7_pick_109 (6 : Int32) (by decide) 111 rfl ?_
    obtain ⟨q9, e10, h⟩ := ob_some h
    refine j_callV C (ct_X7_of (eL E) G  e10) sh82 foX7 rfl vk_X7_of kw5_40 rfl ⟨Nat.le_of_ble_eq_true rfl, Nat.le_of_ble_eq_true rfl, rfl, rfl⟩ ⟨Nat.zero_le _, Nat.zero_le _⟩ (rest := [.int (6 : Int32), .int v2, .ref (gA G 82)]) rfl (Nat.le_of_ble_eq_true rfl) dX7_pick_111 (st1 := [.int q9.2, .int (6 : Int32), .int v2, .ref (gA G 82)]) rfl 114 rfl ?_
    refine j_iconst C dX7_pick_114 (1 : Int32) (by decide) 115 rfl ?_
    refine j_iadd C dX7_pick_115 116 rfl ?_
    obtain ⟨q11, e12, h⟩ := ob_some h
    refine j_callV C (ct_X7_lay (eL E) G  e12) sh82 foX7 rfl vk_X7_lay kw5_83 rfl ⟨Nat.le_of_ble_eq_true rfl, Nat.le_of_ble_eq_true rfl, rfl, rfl⟩ ⟨Nat.zero_le _, Nat.zero_le _⟩ (rest := []) rfl (Nat.le_of_ble_eq_true rfl) dX7_pick_116 (st1 := []) rfl 119 rfl ?_
    refine j_aload_n C dX7_pick_119 rfl 0 rfl 120 rfl ?_
    refine j_iload_n C dX7_pick_120 rfl 1 rfl 121 rfl ?_
    refine j_bipush C dX7_pick_121 (6 : Int32) (by decide) 123 rfl ?_
    obtain ⟨q13, e14, h⟩ := ob_some h
    refine j_callV C (ct_X7_of (eL E) G  e14) sh82 foX7 rfl vk_X7_of kw5_40 rfl ⟨Nat.le_of_ble_eq_true rfl, Nat.le_of_ble_eq_true rfl, rfl, rfl⟩ ⟨Nat.zero_le _, Nat.zero_le _⟩ (rest := []) rfl (Nat.le_of_ble_eq_true rfl) dX7_pick_123 (st1 := [.int q13.2]) rfl 126 rfl ?_
    exact j_iret C F dX7_pick_126 h
  · have h := it_t c h
    refine j_iconst C dX7_pick_97 (0 : Int32) (by decide) 98 rfl ?_
    exact j_iret C F dX7_pick_98 h
def X7_pick_70 (σ : Mem) (v2 : Int32) (v3 : Int32) (s0 : Int32) : Option (Mem × Int32) :=
  (if v3 = 0 then X7_pick_91 σ v2 (1 : Int32) else (if s0 = 0 then X7_pick_91 σ v2 (2 : Int32) else X7_pick_91 σ v2 (0 : Int32)))
set_option maxHeartbeats 4000000 in
set_option maxRecDepth 100000 in
theorem w_X7_pick_70 {E : Ev} {G : Gw} (C : Cx E G RX7 cX7_pick 5 { frames := 6, cells := 0, slots := 0, locals := 137 }) {out : Mem × Int32} (F : Ef E G out.1 (some (.int out.2)) (some .int) 0 0)  (σ : Mem) (v2 : Int32) (v3 : Int32) (s0 : Int32) (h : X7_pick_70 σ v2 v3 s0 = some out) : J E G 5 0 0 σ 70 [(0, .ref (gA G 82)), (2, .int v2), (3, .int v3)] [.int s0] := by
  unfold X7_pick_70 at h
  refine j_istore C dX7_pick_70 (by decide) [(4, .int s0), (0, .ref (gA G 82)), (2, .int v2), (3, .int v3)] rfl 72 rfl ?_
  refine j_aload_n C dX7_pick_72 rfl 1 rfl 73 rfl ?_
  refine j_iload_n C dX7_pick_73 rfl 3 rfl 74 rfl ?_
  refine j_if_ne C dX7_pick_74 81 (by decide) 77 rfl (fun c => ?_) (fun c => ?_)
  · have h := it_f c h
    refine j_iload C dX7_pick_81 0 rfl 83 rfl ?_
    refine j_if_ne C dX7_pick_83 90 (by decide) 86 rfl (fun c => ?_) (fun c => ?_)
    · have h := it_f c h
      refine j_iconst C dX7_pick_90 (0 : Int32) (by decide) 91 rfl ?_
      refine j_sub [(0, .ref (gA G 82)), (2, .int v2)] [1, 2] rfl ?_
      exact w_X7_pick_91 C F  _ _ _ h
    · have h := it_t c h
      refine j_iconst C dX7_pick_86 (2 : Int32) (by decide) 87 rfl ?_
      refine j_goto C dX7_pick_87 91 (by decide) ?_
      refine j_sub [(0, .ref (gA G 82)), (2, .int v2)] [1, 2] rfl ?_
      exact w_X7_pick_91 C F  _ _ _ h
  · have h := it_t c h
    refine j_iconst C dX7_pick_77 (1 : Int32) (by decide) 78 rfl ?_
    refine j_goto C dX7_pick_78 91 (by decide) ?_
    refine j_sub [(0, .ref (gA G 82)), (2, .int v2)] [1, 2] rfl ?_
    exact w_X7_pick_91 C F  _ _ _ h
def X7_pick_69 (σ : Mem) (v2 : Int32) (v3 : Int32) : Option (Mem × Int32) :=
  X7_pick_70 σ v2 v3 (0 : Int32)
set_option maxHeartbeats 4000000 in
set_option maxRecDepth 100000 in
theorem w_X7_pick_69 {E : Ev} {G : Gw} (C : Cx E G RX7 cX7_pick 5 { frames := 6, cells := 0, slots := 0, locals := 137 }) {out : Mem × Int32} (F : Ef E G out.1 (some (.int out.2)) (some .int) 0 0)  (σ : Mem) (v2 : Int32) (v3 : Int32) (h : X7_pick_69 σ v2 v3 = some out) : J E G 5 0 0 σ 69 [(0, .ref (gA G 82)), (2, .int v2), (3, .int v3)] [] := by
  unfold X7_pick_69 at h
  refine j_iconst C dX7_pick_69 (0 : Int32) (by decide) 70 rfl ?_
  exact w_X7_pick_70 C F  _ _ _ _ h
def X7_pick_31 (σ : Mem) (v1 : Int32) (v2 : Int32) (s0 : Int32) : Option (Mem × Int32) :=
  (if s0 = 0 then X7_pick_69 σ v2 s0 else (if inA v1 61 then ((X7_of σ v2 (0 : Int32)).bind fun q15 => (if (σ.1 88 v1.toNatClampNeg) = q15.2 then (if inA v1 61 then ((X7_isRow q15.1 v2 (q15.1.1 87 v1.toNatClampNeg)).bind fun q17 => (if q17.2 = 0 then X7_pick_69 q17.1 v2 s0 else X7_pick_70 q17.1 v2 s0 (1 : Int32))) else none) else X7_pick_69 q15.1 v2 s0)) else none))
set_option maxHeartbeats 4000000 in
set_option maxRecDepth 100000 in
theorem w_X7_pick_31 {E : Ev} {G : Gw} (C : Cx E G RX7 cX7_pick 5 { frames := 6, cells := 0, slots := 0, locals := 137 }) {out : Mem × Int32} (F : Ef E G out.1 (some (.int out.2)) (some .int) 0 0)  (σ : Mem) (v1 : Int32) (v2 : Int32) (s0 : Int32) (h : X7_pick_31 σ v1 v2 s0 = some out) : J E G 5 0 0 σ 31 [(0, .ref (gA G 82)), (1, .int v1), (2, .int v2)] [.int s0] := by
  unfold X7_pick_31 at h
  refine j_istore_n C dX7_pick_31 rfl (by decide) [(3, .int s0), (0, .ref (gA G 82)), (1, .int v1), (2, .int v2)] rfl 32 rfl ?_
  refine j_iload_n C dX7_pick_32 rfl 0 rfl 33 rfl ?_
  refine j_if_eq C dX7_pick_33 69 (by decide) 36 rfl (fun c => ?_) (fun c => ?_)
  · have h := it_t c h
    refine j_sub [(0, .ref (gA G 82)), (2, .int v2), (3, .int s0)] [1, 3, 0] rfl ?_
    exact w_X7_pick_69 C F  _ _ _ h
  · have h := it_f c h
    refine j_aload_n C dX7_pick_36 rfl 1 rfl 37 rfl ?_
    refine j_get C foX7 sh82 12 (by decide) 90 rfl kw4_194 rfl dX7_pick_37 (.ref (gA G 88)) (fv_r rfl) 40 rfl ?_
    refine j_iload_n C dX7_pick_40 rfl 2 rfl 41 rfl ?_
    obtain ⟨hc, h⟩ := if_some h
    refine j_iald C sh88 hc dX7_pick_41 v1.toNatClampNeg rfl 42 rfl ?_
    refine j_aload_n C dX7_pick_42 rfl 1 rfl 43 rfl ?_
    refine j_iload_n C dX7_pick_43 rfl 3 rfl 44 rfl ?_
    refine j_iconst C dX7_pick_44 (0 : Int32) (by decide) 45 rfl ?_
    obtain ⟨q15, e16, h⟩ := ob_some h
    refine j_callV C (ct_X7_of (eL E) G  e16) sh82 foX7 rfl vk_X7_of kw5_40 rfl ⟨Nat.le_of_ble_eq_true rfl, Nat.le_of_ble_eq_true rfl, rfl, rfl⟩ ⟨Nat.zero_le _, Nat.zero_le _⟩ (rest := [.int (σ.1 88 v1.toNatClampNeg)]) rfl (Nat.le_of_ble_eq_true rfl) dX7_pick_45 (st1 := [.int q15.2, .int (σ.1 88 v1.toNatClampNeg)]) rfl 48 rfl ?_
    refine j_icmp_ne C dX7_pick_48 69 (by decide) 51 rfl (fun c => ?_) (fun c => ?_)
    · have h := it_f c h
      refine j_sub [(0, .ref (gA G 82)), (2, .int v2), (3, .int s0)] [1, 3, 0] rfl ?_
      exact w_X7_pick_69 C F  _ _ _ h
    · have h := it_t c h
      refine j_aload_n C dX7_pick_51 rfl 1 rfl 52 rfl ?_
      refine j_iload_n C dX7_pick_52 rfl 3 rfl 53 rfl ?_
      refine j_aload_n C dX7_pick_53 rfl 1 rfl 54 rfl ?_
      refine j_get C foX7 sh82 11 (by decide) 89 rfl kw4_193 rfl dX7_pick_54 (.ref (gA G 87)) (fv_r rfl) 57 rfl ?_
      refine j_iload_n C dX7_pick_57 rfl 2 rfl 58 rfl ?_
      obtain ⟨hc, h⟩ := if_some h
      refine j_iald C sh87 hc dX7_pick_58 v1.toNatClampNeg rfl 59 rfl ?_
      obtain ⟨q17, e18, h⟩ := ob_some h
      refine j_callV C (ct_X7_isRow (eL E) G  e18) sh82 foX7 rfl vk_X7_isRow kw5_44 rfl ⟨Nat.le_of_ble_eq_true rfl, Nat.le_of_ble_eq_true rfl, rfl, rfl⟩ ⟨Nat.zero_le _, Nat.zero_le _⟩ (rest := []) rfl (Nat.le_of_ble_eq_true rfl) dX7_pick_59 (st1 := [.int q17.2]) rfl 62 rfl ?_
      refine j_if_eq C dX7_pick_62 69 (by decide) 65 rfl (fun c => ?_) (fun c => ?_)
      · have h := it_t c h
        refine j_sub [(0, .ref (gA G 82)), (2, .int v2), (3, .int s0)] [1, 3, 0] rfl ?_
        exact w_X7_pick_69 C F  _ _ _ h
      · have h := it_f c h
        refine j_iconst C dX7_pick_65 (1 : Int32) (by decide) 66 rfl ?_
        refine j_goto C dX7_pick_66 70 (by decide) ?_
        refine j_sub [(0, .ref (gA G 82)), (2, .int v2), (3, .int s0)] [1, 3, 0] rfl ?_
        exact w_X7_pick_70 C F  _ _ _ _ h
def X7_pick_30 (σ : Mem) (v1 : Int32) (v2 : Int32) : Option (Mem × Int32) :=
  X7_pick_31 σ v1 v2 (0 : Int32)
set_option maxHeartbeats 4000000 in
set_option maxRecDepth 100000 in
theorem w_X7_pick_30 {E : Ev} {G : Gw} (C : Cx E G RX7 cX7_pick 5 { frames := 6, cells := 0, slots := 0, locals := 137 }) {out : Mem × Int32} (F : Ef E G out.1 (some (.int out.2)) (some .int) 0 0)  (σ : Mem) (v1 : Int32) (v2 : Int32) (h : X7_pick_30 σ v1 v2 = some out) : J E G 5 0 0 σ 30 [(0, .ref (gA G 82)), (1, .int v1), (2, .int v2)] [] := by
  unfold X7_pick_30 at h
  refine j_iconst C dX7_pick_30 (0 : Int32) (by decide) 31 rfl ?_
  exact w_X7_pick_31 C F  _ _ _ _ h
def X7_pick (σ : Mem) (p1 : Int32) (p2 : Int32) : Option (Mem × Int32) :=
  ((X7_readsPaper σ).bind fun q1 => ((X7_in q1.1 p1 (0 : Int32) ((q1.1.1 82 14) - (1 : Int32))).bind fun q3 => (if q3.2 = 0 then X7_pick_30 q3.1 p1 p2 else ((X7_isEntry q3.1 p2).bind fun q19 => (if q19.2 = 0 then X7_pick_30 q19.1 p1 p2 else X7_pick_31 q19.1 p1 p2 (1 : Int32))))))
set_option maxHeartbeats 4000000 in
set_option maxRecDepth 100000 in
theorem ct_X7_pick (l : Launch) (G : Gw)  {σ : Mem} {p1 : Int32} {p2 : Int32} {out : Mem × Int32} (h : X7_pick σ p1 p2 = some out) : Ct l G yX7_pick cX7_pick 5 (some .int) { frames := 6, cells := 0, slots := 0, locals := 137 } [.ref (gA G 82), .int p1, .int p2] σ out.1 (some (.int out.2)) := by
  refine Ct.of (by decide +kernel) (Nat.le_of_ble_eq_true rfl) (fun E hE C F => ?_)
  subst hE
  have C : Cx E G RX7 cX7_pick 5 { frames := 6, cells := 0, slots := 0, locals := 137 } := C
  unfold X7_pick at h
  show J E G 5 0 0 σ 0 [(0, .ref (gA G 82)), (1, .int p1), (2, .int p2)] []
  refine j_aload_n C dX7_pick_0 rfl 0 rfl 1 rfl ?_
  obtain ⟨q1, e2, h⟩ := ob_some h
  refine j_callV C (ct_X7_readsPaper (eL E) G  e2) sh82 foX7 rfl vk_X7_readsPaper kw5_28 rfl ⟨Nat.le_of_ble_eq_true rfl, Nat.le_of_ble_eq_true rfl, rfl, rfl⟩ ⟨Nat.zero_le _, Nat.zero_le _⟩ (rest := []) rfl (Nat.le_of_ble_eq_true rfl) dX7_pick_1 (st1 := []) rfl 4 rfl ?_
  refine j_iload_n C dX7_pick_4 rfl 1 rfl 5 rfl ?_
  refine j_iconst C dX7_pick_5 (0 : Int32) (by decide) 6 rfl ?_
  refine j_aload_n C dX7_pick_6 rfl 0 rfl 7 rfl ?_
  refine j_get C foX7 sh82 14 (by decide) 0 rfl kw4_196 rfl dX7_pick_7 (.int (q1.1.1 82 14)) rfl 10 rfl ?_
  refine j_iconst C dX7_pick_10 (1 : Int32) (by decide) 11 rfl ?_
  refine j_isub C dX7_pick_11 12 rfl ?_
  obtain ⟨q3, e4, h⟩ := ob_some h
  refine j_callS C (ct_X7_in (eL E) G  e4) vk_X7_in kw5_2 rfl ⟨Nat.le_of_ble_eq_true rfl, Nat.le_of_ble_eq_true rfl, rfl, rfl⟩ ⟨Nat.zero_le _, Nat.zero_le _⟩ (rest := []) rfl (Nat.le_of_ble_eq_true rfl) dX7_pick_12 (st1 := [.int q3.2]) rfl 15 rfl ?_
  refine j_if_eq C dX7_pick_15 30 (by decide) 18 rfl (fun c => ?_) (fun c => ?_)
  · have h := it_t c h
    exact w_X7_pick_30 C F  _ _ _ h
  · have h := it_f c h
    refine j_aload_n C dX7_pick_18 rfl 0 rfl 19 rfl ?_
    refine j_iload_n C dX7_pick_19 rfl 2 rfl 20 rfl ?_
    obtain ⟨q19, e20, h⟩ := ob_some h
    refine j_callV C (ct_X7_isEntry (eL E) G  e20) sh82 foX7 rfl vk_X7_isEntry kw5_79 rfl ⟨Nat.le_of_ble_eq_true rfl, Nat.le_of_ble_eq_true rfl, rfl, rfl⟩ ⟨Nat.zero_le _, Nat.zero_le _⟩ (rest := []) rfl (Nat.le_of_ble_eq_true rfl) dX7_pick_20 (st1 := [.int q19.2]) rfl 23 rfl ?_
    refine j_if_eq C dX7_pick_23 30 (by decide) 26 rfl (fun c => ?_) (fun c => ?_)
    · have h := it_t c h
      exact w_X7_pick_30 C F  _ _ _ h
    · have h := it_f c h
      refine j_iconst C dX7_pick_26 (1 : Int32) (by decide) 27 rfl ?_
      refine j_goto C dX7_pick_27 31 (by decide) ?_
      exact w_X7_pick_31 C F  _ _ _ _ h

-- ===== StenoChordsModel.hasAsterisk()Z
theorem vk_X7_hasAsterisk : VK yX7_hasAsterisk cX7_hasAsterisk 3 (some .boolean) 0 := ⟨kw5_94, kw5_93, kwS_39, kw1_9, by decide +kernel⟩
def X7_hasAsterisk_4 (K : Mem → Int32 → Option (Mem × Int32)) : Nat → Mem → Int32 → Int32 → Option (Mem × Int32)
  | 0, _, _, _ => none
  | fu + 1, σ, v1, v2 => (if (σ.1 82 8) ≤ v2 then K σ v1 else (if v1 = 0 then (if inA v2 31 then (if (σ.1 85 v2.toNatClampNeg) = 0 then X7_hasAsterisk_4 K fu σ (1 : Int32) (v2 + (1 : Int32)) else X7_hasAsterisk_4 K fu σ (0 : Int32) (v2 + (1 : Int32))) else none) else X7_hasAsterisk_4 K fu σ (1 : Int32) (v2 + (1 : Int32))))
set_option maxHeartbeats 4000000 in
set_option maxRecDepth 100000 in
theorem w_X7_hasAsterisk_4 {E : Ev} {G : Gw} (C : Cx E G RX7 cX7_hasAsterisk 3 { frames := 0, cells := 0, slots := 0, locals := 0 }) {out : Mem × Int32} (F : Ef E G out.1 (some (.int out.2)) (some .boolean) 0 0)  {K : Mem → Int32 → Option (Mem × Int32)} (hK : ∀ (σ : Mem) (v1 : Int32), K σ v1 = some out → J E G 3 0 0 σ 37 [(1, .int v1)] []) : ∀ (fu : Nat) (σ : Mem) (v1 : Int32) (v2 : Int32), X7_hasAsterisk_4 K fu σ v1 v2 = some out → J E G 3 0 0 σ 4 [(0, .ref (gA G 82)), (1, .int v1), (2, .int v2)] [] := by
  intro fu
  induction fu with
  | zero => intro σ v1 v2 h; rw [X7_hasAsterisk_4] at h; cases h
  | succ fu ih =>
    intro σ v1 v2 h
    rw [X7_hasAsterisk_4] at h
    refine j_iload_n C dX7_hasAsterisk_4 rfl 2 rfl 5 rfl ?_
    refine j_aload_n C dX7_hasAsterisk_5 rfl 0 rfl 6 rfl ?_
    refine j_get C foX7 sh82 8 (by decide) 0 rfl kw4_190 rfl dX7_hasAsterisk_6 (.int (σ.1 82 8)) rfl 9 rfl ?_
    refine j_icmp_ge C dX7_hasAsterisk_9 37 (by decide) 12 rfl (fun c => ?_) (fun c => ?_)
    · have h := it_t c h
      refine j_sub [(1, .int v1)] [1] rfl ?_
      exact hK _ _ h
    · have h := it_f c h
      refine j_iload_n C dX7_hasAsterisk_12 rfl 1 rfl 13 rfl ?_
      refine j_if_ne C dX7_hasAsterisk_13 25 (by decide) 16 rfl (fun c => ?_) (fun c => ?_)
      · have h := it_f c h
        refine j_iconst C dX7_hasAsterisk_25 (1 : Int32) (by decide) 26 rfl ?_
        refine j_goto C dX7_hasAsterisk_26 30 (by decide) ?_
        refine j_istore_n C dX7_hasAsterisk_30 rfl (by decide) [(1, .int (1 : Int32)), (0, .ref (gA G 82)), (2, .int v2)] rfl 31 rfl ?_
        refine j_iinc C dX7_hasAsterisk_31 2 rfl (v2 + (1 : Int32)) rfl (by decide) [(2, .int (v2 + (1 : Int32))), (1, .int (1 : Int32)), (0, .ref (gA G 82))] rfl 34 rfl ?_
        refine j_goto C dX7_hasAsterisk_34 4 (by decide) ?_
        refine j_sub [(0, .ref (gA G 82)), (1, .int (1 : Int32)), (2, .int (v2 + (1 : Int32)))] [2, 1, 0] rfl ?_
        exact ih _ _ _ h
      · have h := it_t c h
        refine j_aload_n C dX7_hasAsterisk_16 rfl 0 rfl 17 rfl ?_
        refine j_get C foX7 sh82 7 (by decide) 87 rfl kw4_189 rfl dX7_hasAsterisk_17 (.ref (gA G 85)) (fv_r rfl) 20 rfl ?_
        refine j_iload_n C dX7_hasAsterisk_20 rfl 2 rfl 21 rfl ?_
        obtain ⟨hc, h⟩ := if_some h
        refine j_iald C sh85 hc dX7_hasAsterisk_21 v2.toNatClampNeg rfl 22 rfl ?_
        refine j_if_ne C dX7_hasAsterisk_22 29 (by decide) 25 rfl (fun c => ?_) (fun c => ?_)
        · have h := it_f c h
          refine j_iconst C dX7_hasAsterisk_29 (0 : Int32) (by decide) 30 rfl ?_
          refine j_istore_n C dX7_hasAsterisk_30 rfl (by decide) [(1, .int (0 : Int32)), (0, .ref (gA G 82)), (2, .int v2)] rfl 31 rfl ?_
          refine j_iinc C dX7_hasAsterisk_31 2 rfl (v2 + (1 : Int32)) rfl (by decide) [(2, .int (v2 + (1 : Int32))), (1, .int (0 : Int32)), (0, .ref (gA G 82))] rfl 34 rfl ?_
          refine j_goto C dX7_hasAsterisk_34 4 (by decide) ?_
          refine j_sub [(0, .ref (gA G 82)), (1, .int (0 : Int32)), (2, .int (v2 + (1 : Int32)))] [2, 1, 0] rfl ?_
          exact ih _ _ _ h
        · have h := it_t c h
          refine j_iconst C dX7_hasAsterisk_25 (1 : Int32) (by decide) 26 rfl ?_
          refine j_goto C dX7_hasAsterisk_26 30 (by decide) ?_
          refine j_istore_n C dX7_hasAsterisk_30 rfl (by decide) [(1, .int (1 : Int32)), (0, .ref (gA G 82)), (2, .int v2)] rfl 31 rfl ?_
          refine j_iinc C dX7_hasAsterisk_31 2 rfl (v2 + (1 : Int32)) rfl (by decide) [(2, .int (v2 + (1 : Int32))), (1, .int (1 : Int32)), (0, .ref (gA G 82))] rfl 34 rfl ?_
          refine j_goto C dX7_hasAsterisk_34 4 (by decide) ?_
          refine j_sub [(0, .ref (gA G 82)), (1, .int (1 : Int32)), (2, .int (v2 + (1 : Int32)))] [2, 1, 0] rfl ?_
          exact ih _ _ _ h
def X7_hasAsterisk (σ : Mem) : Option (Mem × Int32) :=
  X7_hasAsterisk_4 (fun (σ : Mem) (v1 : Int32) => (if v1 &&& 1 = v1 then some (σ, v1) else none)) FU σ (0 : Int32) (0 : Int32)
set_option maxHeartbeats 4000000 in
set_option maxRecDepth 100000 in
theorem ct_X7_hasAsterisk (l : Launch) (G : Gw)  {σ : Mem} {out : Mem × Int32} (h : X7_hasAsterisk σ = some out) : Ct l G yX7_hasAsterisk cX7_hasAsterisk 3 (some .boolean) { frames := 0, cells := 0, slots := 0, locals := 0 } [.ref (gA G 82)] σ out.1 (some (.int out.2)) := by
  refine Ct.of (by decide +kernel) (Nat.le_of_ble_eq_true rfl) (fun E hE C F => ?_)
  subst hE
  have C : Cx E G RX7 cX7_hasAsterisk 3 { frames := 0, cells := 0, slots := 0, locals := 0 } := C
  unfold X7_hasAsterisk at h
  show J E G 3 0 0 σ 0 [(0, .ref (gA G 82))] []
  refine j_iconst C dX7_hasAsterisk_0 (0 : Int32) (by decide) 1 rfl ?_
  refine j_istore_n C dX7_hasAsterisk_1 rfl (by decide) [(1, .int (0 : Int32)), (0, .ref (gA G 82))] rfl 2 rfl ?_
  refine j_iconst C dX7_hasAsterisk_2 (0 : Int32) (by decide) 3 rfl ?_
  refine j_istore_n C dX7_hasAsterisk_3 rfl (by decide) [(2, .int (0 : Int32)), (1, .int (0 : Int32)), (0, .ref (gA G 82))] rfl 4 rfl ?_
  refine j_sub [(0, .ref (gA G 82)), (1, .int (0 : Int32)), (2, .int (0 : Int32))] [2, 1, 0] rfl ?_
  refine w_X7_hasAsterisk_4 C F  (fun σ v1 h => ?_) FU _ _ _ h
  refine j_iload_n C dX7_hasAsterisk_37 rfl 0 rfl 38 rfl ?_
  obtain ⟨hb, h⟩ := if_some h
  exact j_zret C F dX7_hasAsterisk_38 hb h

-- ===== StenoChordsModel.isThere(I)Z
theorem vk_X7_isThere : VK yX7_isThere cX7_isThere 6 (some .boolean) 1 := ⟨kw5_98, kw5_97, kwS_40, kw1_9, by decide +kernel⟩
def X7_isThere_47 (K : Mem → Int32 → Int32 → Int32 → Int32 → Option (Mem × Int32)) : Nat → Mem → Int32 → Int32 → Int32 → Int32 → Int32 → Option (Mem × Int32)
  | 0, _, _, _, _, _, _ => none
  | fu + 1, σ, v1, v2, v3, v4, v5 => (if (σ.1 82 8) ≤ v5 then K σ v1 v2 v3 v4 else (if v4 = 0 then K σ v1 v2 v3 v4 else ((X7_of σ v3 ((1 : Int32) + v5)).bind fun q3 => (if inA v5 31 then (if q3.2 = (q3.1.1 85 v5.toNatClampNeg) then X7_isThere_47 K fu q3.1 v1 v2 v3 (1 : Int32) (v5 + (1 : Int32)) else X7_isThere_47 K fu q3.1 v1 v2 v3 (0 : Int32) (v5 + (1 : Int32))) else none))))
set_option maxHeartbeats 4000000 in
set_option maxRecDepth 100000 in
theorem w_X7_isThere_47 {E : Ev} {G : Gw} (C : Cx E G RX7 cX7_isThere 6 { frames := 1, cells := 0, slots := 0, locals := 22 }) {out : Mem × Int32} (F : Ef E G out.1 (some (.int out.2)) (some .boolean) 0 0)  {K : Mem → Int32 → Int32 → Int32 → Int32 → Option (Mem × Int32)} (hK : ∀ (σ : Mem) (v1 : Int32) (v2 : Int32) (v3 : Int32) (v4 : Int32), K σ v1 v2 v3 v4 = some out → J E G 6 0 0 σ 93 [(0, .ref (gA G 82)), (1, .int v1), (2, .int v2), (3, .int v3), (4, .int v4)] []) : ∀ (fu : Nat) (σ : Mem) (v1 : Int32) (v2 : Int32) (v3 : Int32) (v4 : Int32) (v5 : Int32), X7_isThere_47 K fu σ v1 v2 v3 v4 v5 = some out → J E G 6 0 0 σ 47 [(0, .ref (gA G 82)), (1, .int v1), (2, .int v2), (3, .int v3), (4, .int v4), (5, .int v5)] [] := by
  intro fu
  induction fu with
  | zero => intro σ v1 v2 v3 v4 v5 h; rw [X7_isThere_47] at h; cases h
  | succ fu ih =>
    intro σ v1 v2 v3 v4 v5 h
    rw [X7_isThere_47] at h
    refine j_iload C dX7_isThere_47 5 rfl 49 rfl ?_
    refine j_aload_n C dX7_isThere_49 rfl 0 rfl 50 rfl ?_
    refine j_get C foX7 sh82 8 (by decide) 0 rfl kw4_190 rfl dX7_isThere_50 (.int (σ.1 82 8)) rfl 53 rfl ?_
    refine j_icmp_ge C dX7_isThere_53 93 (by decide) 56 rfl (fun c => ?_) (fun c => ?_)
    · have h := it_t c h
      refine j_sub [(0, .ref (gA G 82)), (1, .int v1), (2, .int v2), (3, .int v3), (4, .int v4)] [0, 1, 2, 3, 4] rfl ?_
      exact hK _ _ _ _ _ h
    · have h := it_f c h
      refine j_iload C dX7_isThere_56 4 rfl 58 rfl ?_
      refine j_if_eq C dX7_isThere_58 93 (by decide) 61 rfl (fun c => ?_) (fun c => ?_)
      · have h := it_t c h
        refine j_sub [(0, .ref (gA G 82)), (1, .int v1), (2, .int v2), (3, .int v3), (4, .int v4)] [0, 1, 2, 3, 4] rfl ?_
        exact hK _ _ _ _ _ h
      · have h := it_f c h
        refine j_aload_n C dX7_isThere_61 rfl 0 rfl 62 rfl ?_
        refine j_iload_n C dX7_isThere_62 rfl 3 rfl 63 rfl ?_
        refine j_iconst C dX7_isThere_63 (1 : Int32) (by decide) 64 rfl ?_
        refine j_iload C dX7_isThere_64 5 rfl 66 rfl ?_
        refine j_iadd C dX7_isThere_66 67 rfl ?_
        obtain ⟨q3, e4, h⟩ := ob_some h
        refine j_callV C (ct_X7_of (eL E) G  e4) sh82 foX7 rfl vk_X7_of kw5_40 rfl ⟨Nat.le_of_ble_eq_true rfl, Nat.le_of_ble_eq_true rfl, rfl, rfl⟩ ⟨Nat.zero_le _, Nat.zero_le _⟩ (rest := []) rfl (Nat.le_of_ble_eq_true rfl) dX7_isThere_67 (st1 := [.int q3.2]) rfl 70 rfl ?_
        refine j_aload_n C dX7_isThere_70 rfl 0 rfl 71 rfl ?_
        refine j_get C foX7 sh82 7 (by decide) 87 rfl kw4_189 rfl dX7_isThere_71 (.ref (gA G 85)) (fv_r rfl) 74 rfl ?_
        refine j_iload C dX7_isThere_74 5 rfl 76 rfl ?_
        obtain ⟨hc, h⟩ := if_some h
        refine j_iald C sh85 hc dX7_isThere_76 v5.toNatClampNeg rfl 77 rfl ?_
        refine j_icmp_ne C dX7_isThere_77 84 (by decide) 80 rfl (fun c => ?_) (fun c => ?_)
        · have h := it_f c h
          refine j_iconst C dX7_isThere_84 (0 : Int32) (by decide) 85 rfl ?_
          refine j_istore C dX7_isThere_85 (by decide) [(4, .int (0 : Int32)), (0, .ref (gA G 82)), (1, .int v1), (2, .int v2), (3, .int v3), (5, .int v5)] rfl 87 rfl ?_
          refine j_iinc C dX7_isThere_87 5 rfl (v5 + (1 : Int32)) rfl (by decide) [(5, .int (v5 + (1 : Int32))), (4, .int (0 : Int32)), (0, .ref (gA G 82)), (1, .int v1), (2, .int v2), (3, .int v3)] rfl 90 rfl ?_
          refine j_goto C dX7_isThere_90 47 (by decide) ?_
          refine j_sub [(0, .ref (gA G 82)), (1, .int v1), (2, .int v2), (3, .int v3), (4, .int (0 : Int32)), (5, .int (v5 + (1 : Int32)))] [2, 3, 4, 5, 1, 0] rfl ?_
          exact ih _ _ _ _ _ _ h
        · have h := it_t c h
          refine j_iconst C dX7_isThere_80 (1 : Int32) (by decide) 81 rfl ?_
          refine j_goto C dX7_isThere_81 85 (by decide) ?_
          refine j_istore C dX7_isThere_85 (by decide) [(4, .int (1 : Int32)), (0, .ref (gA G 82)), (1, .int v1), (2, .int v2), (3, .int v3), (5, .int v5)] rfl 87 rfl ?_
          refine j_iinc C dX7_isThere_87 5 rfl (v5 + (1 : Int32)) rfl (by decide) [(5, .int (v5 + (1 : Int32))), (4, .int (1 : Int32)), (0, .ref (gA G 82)), (1, .int v1), (2, .int v2), (3, .int v3)] rfl 90 rfl ?_
          refine j_goto C dX7_isThere_90 47 (by decide) ?_
          refine j_sub [(0, .ref (gA G 82)), (1, .int v1), (2, .int v2), (3, .int v3), (4, .int (1 : Int32)), (5, .int (v5 + (1 : Int32)))] [2, 3, 4, 5, 1, 0] rfl ?_
          exact ih _ _ _ _ _ _ h
def X7_isThere_4 (K : Mem → Int32 → Option (Mem × Int32)) : Nat → Mem → Int32 → Int32 → Int32 → Option (Mem × Int32)
  | 0, _, _, _, _ => none
  | fu + 1, σ, v1, v2, v3 => (if (σ.1 83 1) ≤ v3 then K σ v2 else ((X7_of σ v3 (0 : Int32)).bind fun q1 => (if q1.2 = (q1.1.1 82 8) then ((X7_of q1.1 v3 (5 : Int32)).bind fun q5 => (if q5.2 = v1 then X7_isThere_47 (fun (σ : Mem) (v1 : Int32) (v2 : Int32) (v3 : Int32) (v4 : Int32) => (if v2 = 0 then (if v4 = 0 then X7_isThere_4 K fu σ v1 (0 : Int32) (v3 + (1 : Int32)) else X7_isThere_4 K fu σ v1 (1 : Int32) (v3 + (1 : Int32))) else X7_isThere_4 K fu σ v1 (1 : Int32) (v3 + (1 : Int32)))) FU q5.1 v1 v2 v3 (1 : Int32) (0 : Int32) else X7_isThere_47 (fun (σ : Mem) (v1 : Int32) (v2 : Int32) (v3 : Int32) (v4 : Int32) => (if v2 = 0 then (if v4 = 0 then X7_isThere_4 K fu σ v1 (0 : Int32) (v3 + (1 : Int32)) else X7_isThere_4 K fu σ v1 (1 : Int32) (v3 + (1 : Int32))) else X7_isThere_4 K fu σ v1 (1 : Int32) (v3 + (1 : Int32)))) FU q5.1 v1 v2 v3 (0 : Int32) (0 : Int32))) else X7_isThere_47 (fun (σ : Mem) (v1 : Int32) (v2 : Int32) (v3 : Int32) (v4 : Int32) => (if v2 = 0 then (if v4 = 0 then X7_isThere_4 K fu σ v1 (0 : Int32) (v3 + (1 : Int32)) else X7_isThere_4 K fu σ v1 (1 : Int32) (v3 + (1 : Int32))) else X7_isThere_4 K fu σ v1 (1 : Int32) (v3 + (1 : Int32)))) FU q1.1 v1 v2 v3 (0 : Int32) (0 : Int32))))
set_option maxHeartbeats 4000000 in
set_option maxRecDepth 100000 in
theorem w_X7_isThere_4 {E : Ev} {G : Gw} (C : Cx E G RX7 cX7_isThere 6 { frames := 1, cells := 0, slots := 0, locals := 22 }) {out : Mem × Int32} (F : Ef E G out.1 (some (.int out.2)) (some .boolean) 0 0)  {K : Mem → Int32 → Option (Mem × Int32)} (hK : ∀ (σ : Mem) (v2 : Int32), K σ v2 = some out → J E G 6 0 0 σ 114 [(2, .int v2)] []) : ∀ (fu : Nat) (σ : Mem) (v1 : Int32) (v2 : Int32) (v3 : Int32), X7_isThere_4 K fu σ v1 v2 v3 = some out → J E G 6 0 0 σ 4 [(0, .ref (gA G 82)), (1, .int v1), (2, .int v2), (3, .int v3)] [] := by
  intro fu
  induction fu with
  | zero => intro σ v1 v2 v3 h; rw [X7_isThere_4] at h; cases h
  | succ fu ih =>
    intro σ v1 v2 v3 h
    rw [X7_isThere_4] at h
    refine j_iload_n C dX7_isThere_4 rfl 3 rfl 5 rfl ?_
    refine j_aload_n C dX7_isThere_5 rfl 0 rfl 6 rfl ?_
    refine j_get C foX7 sh82 1 (by decide) 85 rfl kw4_183 rfl dX7_isThere_6 (.ref (gA G 83)) (fv_r rfl) 9 rfl ?_
    refine j_iconst C dX7_isThere_9 (1 : Int32) (by decide) 10 rfl ?_
    refine j_iald C sh83 (by decide) dX7_isThere_10 1 rfl 11 rfl ?_
    refine j_icmp_ge C dX7_isThere_11 114 (by decide) 14 rfl (fun c => ?_) (fun c => ?_)
    · have h := it_t c h
      refine j_sub [(2, .int v2)] [2] rfl ?_
      exact hK _ _ h
    · have h := it_f c h
      refine j_aload_n C dX7_isThere_14 rfl 0 rfl 15 rfl ?_
      refine j_iload_n C dX7_isThere_15 rfl 3 rfl 16 rfl ?_
      refine j_iconst C dX7_isThere_16 (0 : Int32) (by decide) 17 rfl ?_
      obtain ⟨q1, e2, h⟩ := ob_some h
      refine j_callV C (ct_X7_of (eL E) G  e2) sh82 foX7 rfl vk_X7_of kw5_40 rfl ⟨Nat.le_of_ble_eq_true rfl, Nat.le_of_ble_eq_true rfl, rfl, rfl⟩ ⟨Nat.zero_le _, Nat.zero_le _⟩ (rest := []) rfl (Nat.le_of_ble_eq_true rfl) dX7_isThere_17 (st1 := [.int q1.2]) rfl 20 rfl ?_
      refine j_aload_n C dX7_isThere_20 rfl 0 rfl 21 rfl ?_
      refine j_get C foX7 sh82 8 (by decide) 0 rfl kw4_190 rfl dX7_isThere_21 (.int (q1.1.1 82 8)) rfl 24 rfl ?_
      refine j_icmp_ne C dX7_isThere_24 41 (by decide) 27 rfl (fun c => ?_) (fun c => ?_)
      · have h := it_f c h
        refine j_iconst C dX7_isThere_41 (0 : Int32) (by decide) 42 rfl ?_
        refine j_istore C dX7_isThere_42 (by decide) [(4, .int (0 : Int32)), (0, .ref (gA G 82)), (1, .int v1), (2, .int v2), (3, .int v3)] rfl 44 rfl ?_
        refine j_iconst C dX7_isThere_44 (0 : Int32) (by decide) 45 rfl ?_
        refine j_istore C dX7_isThere_45 (by decide) [(5, .int (0 : Int32)), (4, .int (0 : Int32)), (0, .ref (gA G 82)), (1, .int v1), (2, .int v2), (3, .int v3)] rfl 47 rfl ?_
        refine j_sub [(0, .ref (gA G 82)), (1, .int v1), (2, .int v2), (3, .int v3), (4, .int (0 : Int32)), (5, .int (0 : Int32))] [2, 3, 4, 5, 1, 0] rfl ?_
        refine w_X7_isThere_47 C F  (fun σ v1 v2 v3 v4 h => ?_) FU _ _ _ _ _ _ h
        refine j_iload_n C dX7_isThere_93 rfl 2 rfl 94 rfl ?_
        refine j_if_ne C dX7_isThere_94 102 (by decide) 97 rfl (fun c => ?_) (fun c => ?_)
        · have h := it_f c h
          refine j_iconst C dX7_isThere_102 (1 : Int32) (by decide) 103 rfl ?_
          refine j_goto C dX7_isThere_103 107 (by decide) ?_
          refine j_istore_n C dX7_isThere_107 rfl (by decide) [(2, .int (1 : Int32)), (0, .ref (gA G 82)), (1, .int v1), (3, .int v3), (4, .int v4)] rfl 108 rfl ?_
          refine j_iinc C dX7_isThere_108 3 rfl (v3 + (1 : Int32)) rfl (by decide) [(3, .int (v3 + (1 : Int32))), (2, .int (1 : Int32)), (0, .ref (gA G 82)), (1, .int v1), (4, .int v4)] rfl 111 rfl ?_
          refine j_goto C dX7_isThere_111 4 (by decide) ?_
          refine j_sub [(0, .ref (gA G 82)), (1, .int v1), (2, .int (1 : Int32)), (3, .int (v3 + (1 : Int32)))] [2, 3, 1, 0] rfl ?_
          exact ih _ _ _ _ h
        · have h := it_t c h
          refine j_iload C dX7_isThere_97 4 rfl 99 rfl ?_
          refine j_if_eq C dX7_isThere_99 106 (by decide) 102 rfl (fun c => ?_) (fun c => ?_)
          · have h := it_t c h
            refine j_iconst C dX7_isThere_106 (0 : Int32) (by decide) 107 rfl ?_
            refine j_istore_n C dX7_isThere_107 rfl (by decide) [(2, .int (0 : Int32)), (0, .ref (gA G 82)), (1, .int v1), (3, .int v3), (4, .int v4)] rfl 108 rfl ?_
            refine j_iinc C dX7_isThere_108 3 rfl (v3 + (1 : Int32)) rfl (by decide) [(3, .int (v3 + (1 : Int32))), (2, .int (0 : Int32)), (0, .ref (gA G 82)), (1, .int v1), (4, .int v4)] rfl 111 rfl ?_
            refine j_goto C dX7_isThere_111 4 (by decide) ?_
            refine j_sub [(0, .ref (gA G 82)), (1, .int v1), (2, .int (0 : Int32)), (3, .int (v3 + (1 : Int32)))] [2, 3, 1, 0] rfl ?_
            exact ih _ _ _ _ h
          · have h := it_f c h
            refine j_iconst C dX7_isThere_102 (1 : Int32) (by decide) 103 rfl ?_
            refine j_goto C dX7_isThere_103 107 (by decide) ?_
            refine j_istore_n C dX7_isThere_107 rfl (by decide) [(2, .int (1 : Int32)), (0, .ref (gA G 82)), (1, .int v1), (3, .int v3), (4, .int v4)] rfl 108 rfl ?_
            refine j_iinc C dX7_isThere_108 3 rfl (v3 + (1 : Int32)) rfl (by decide) [(3, .int (v3 + (1 : Int32))), (2, .int (1 : Int32)), (0, .ref (gA G 82)), (1, .int v1), (4, .int v4)] rfl 111 rfl ?_
            refine j_goto C dX7_isThere_111 4 (by decide) ?_
            refine j_sub [(0, .ref (gA G 82)), (1, .int v1), (2, .int (1 : Int32)), (3, .int (v3 + (1 : Int32)))] [2, 3, 1, 0] rfl ?_
            exact ih _ _ _ _ h
      · have h := it_t c h
        refine j_aload_n C dX7_isThere_27 rfl 0 rfl 28 rfl ?_
        refine j_iload_n C dX7_isThere_28 rfl 3 rfl 29 rfl ?_
        refine j_iconst C dX7_isThere_29 (5 : Int32) (by decide) 30 rfl ?_
        obtain ⟨q5, e6, h⟩ := ob_some h
        refine j_callV C (ct_X7_of (eL E) G  e6) sh82 foX7 rfl vk_X7_of kw5_40 rfl ⟨Nat.le_of_ble_eq_true rfl, Nat.le_of_ble_eq_true rfl, rfl, rfl⟩ ⟨Nat.zero_le _, Nat.zero_le _⟩ (rest := []) rfl (Nat.le_of_ble_eq_true rfl) dX7_isThere_30 (st1 := [.int q5.2]) rfl 33 rfl ?_
        refine j_iload_n C dX7_isThere_33 rfl 1 rfl 34 rfl ?_
        refine j_icmp_ne C dX7_isThere_34 41 (by decide) 37 rfl (fun c => ?_) (fun c => ?_)
        · have h := it_f c h
          refine j_iconst C dX7_isThere_41 (0 : Int32) (by decide) 42 rfl ?_
          refine j_istore C dX7_isThere_42 (by decide) [(4, .int (0 : Int32)), (0, .ref (gA G 82)), (1, .int v1), (2, .int v2), (3, .int v3)] rfl 44 rfl ?_
          refine j_iconst C dX7_isThere_44 (0 : Int32) (by decide) 45 rfl ?_
          refine j_istore C dX7_isThere_45 (by decide) [(5, .int (0 : Int32)), (4, .int (0 : Int32)), (0, .ref (gA G 82)), (1, .int v1), (2, .int v2), (3, .int v3)] rfl 47 rfl ?_
          refine j_sub [(0, .ref (gA G 82)), (1, .int v1), (2, .int v2), (3, .int v3), (4, .int (0 : Int32)), (5, .int (0 : Int32))] [2, 3, 4, 5, 1, 0] rfl ?_
          refine w_X7_isThere_47 C F  (fun σ v1 v2 v3 v4 h => ?_) FU _ _ _ _ _ _ h
          refine j_iload_n C dX7_isThere_93 rfl 2 rfl 94 rfl ?_
          refine j_if_ne C dX7_isThere_94 102 (by decide) 97 rfl (fun c => ?_) (fun c => ?_)
          · have h := it_f c h
            refine j_iconst C dX7_isThere_102 (1 : Int32) (by decide) 103 rfl ?_
            refine j_goto C dX7_isThere_103 107 (by decide) ?_
            refine j_istore_n C dX7_isThere_107 rfl (by decide) [(2, .int (1 : Int32)), (0, .ref (gA G 82)), (1, .int v1), (3, .int v3), (4, .int v4)] rfl 108 rfl ?_
            refine j_iinc C dX7_isThere_108 3 rfl (v3 + (1 : Int32)) rfl (by decide) [(3, .int (v3 + (1 : Int32))), (2, .int (1 : Int32)), (0, .ref (gA G 82)), (1, .int v1), (4, .int v4)] rfl 111 rfl ?_
            refine j_goto C dX7_isThere_111 4 (by decide) ?_
            refine j_sub [(0, .ref (gA G 82)), (1, .int v1), (2, .int (1 : Int32)), (3, .int (v3 + (1 : Int32)))] [2, 3, 1, 0] rfl ?_
            exact ih _ _ _ _ h
          · have h := it_t c h
            refine j_iload C dX7_isThere_97 4 rfl 99 rfl ?_
            refine j_if_eq C dX7_isThere_99 106 (by decide) 102 rfl (fun c => ?_) (fun c => ?_)
            · have h := it_t c h
              refine j_iconst C dX7_isThere_106 (0 : Int32) (by decide) 107 rfl ?_
              refine j_istore_n C dX7_isThere_107 rfl (by decide) [(2, .int (0 : Int32)), (0, .ref (gA G 82)), (1, .int v1), (3, .int v3), (4, .int v4)] rfl 108 rfl ?_
              refine j_iinc C dX7_isThere_108 3 rfl (v3 + (1 : Int32)) rfl (by decide) [(3, .int (v3 + (1 : Int32))), (2, .int (0 : Int32)), (0, .ref (gA G 82)), (1, .int v1), (4, .int v4)] rfl 111 rfl ?_
              refine j_goto C dX7_isThere_111 4 (by decide) ?_
              refine j_sub [(0, .ref (gA G 82)), (1, .int v1), (2, .int (0 : Int32)), (3, .int (v3 + (1 : Int32)))] [2, 3, 1, 0] rfl ?_
              exact ih _ _ _ _ h
            · have h := it_f c h
              refine j_iconst C dX7_isThere_102 (1 : Int32) (by decide) 103 rfl ?_
              refine j_goto C dX7_isThere_103 107 (by decide) ?_
              refine j_istore_n C dX7_isThere_107 rfl (by decide) [(2, .int (1 : Int32)), (0, .ref (gA G 82)), (1, .int v1), (3, .int v3), (4, .int v4)] rfl 108 rfl ?_
              refine j_iinc C dX7_isThere_108 3 rfl (v3 + (1 : Int32)) rfl (by decide) [(3, .int (v3 + (1 : Int32))), (2, .int (1 : Int32)), (0, .ref (gA G 82)), (1, .int v1), (4, .int v4)] rfl 111 rfl ?_
              refine j_goto C dX7_isThere_111 4 (by decide) ?_
              refine j_sub [(0, .ref (gA G 82)), (1, .int v1), (2, .int (1 : Int32)), (3, .int (v3 + (1 : Int32)))] [2, 3, 1, 0] rfl ?_
              exact ih _ _ _ _ h
        · have h := it_t c h
          refine j_iconst C dX7_isThere_37 (1 : Int32) (by decide) 38 rfl ?_
          refine j_goto C dX7_isThere_38 42 (by decide) ?_
          refine j_istore C dX7_isThere_42 (by decide) [(4, .int (1 : Int32)), (0, .ref (gA G 82)), (1, .int v1), (2, .int v2), (3, .int v3)] rfl 44 rfl ?_
          refine j_iconst C dX7_isThere_44 (0 : Int32) (by decide) 45 rfl ?_
          refine j_istore C dX7_isThere_45 (by decide) [(5, .int (0 : Int32)), (4, .int (1 : Int32)), (0, .ref (gA G 82)), (1, .int v1), (2, .int v2), (3, .int v3)] rfl 47 rfl ?_
          refine j_sub [(0, .ref (gA G 82)), (1, .int v1), (2, .int v2), (3, .int v3), (4, .int (1 : Int32)), (5, .int (0 : Int32))] [2, 3, 4, 5, 1, 0] rfl ?_
          refine w_X7_isThere_47 C F  (fun σ v1 v2 v3 v4 h => ?_) FU _ _ _ _ _ _ h
          refine j_iload_n C dX7_isThere_93 rfl 2 rfl 94 rfl ?_
          refine j_if_ne C dX7_isThere_94 102 (by decide) 97 rfl (fun c => ?_) (fun c => ?_)
          · have h := it_f c h
            refine j_iconst C dX7_isThere_102 (1 : Int32) (by decide) 103 rfl ?_
            refine j_goto C dX7_isThere_103 107 (by decide) ?_
            refine j_istore_n C dX7_isThere_107 rfl (by decide) [(2, .int (1 : Int32)), (0, .ref (gA G 82)), (1, .int v1), (3, .int v3), (4, .int v4)] rfl 108 rfl ?_
            refine j_iinc C dX7_isThere_108 3 rfl (v3 + (1 : Int32)) rfl (by decide) [(3, .int (v3 + (1 : Int32))), (2, .int (1 : Int32)), (0, .ref (gA G 82)), (1, .int v1), (4, .int v4)] rfl 111 rfl ?_
            refine j_goto C dX7_isThere_111 4 (by decide) ?_
            refine j_sub [(0, .ref (gA G 82)), (1, .int v1), (2, .int (1 : Int32)), (3, .int (v3 + (1 : Int32)))] [2, 3, 1, 0] rfl ?_
            exact ih _ _ _ _ h
          · have h := it_t c h
            refine j_iload C dX7_isThere_97 4 rfl 99 rfl ?_
            refine j_if_eq C dX7_isThere_99 106 (by decide) 102 rfl (fun c => ?_) (fun c => ?_)
            · have h := it_t c h
              refine j_iconst C dX7_isThere_106 (0 : Int32) (by decide) 107 rfl ?_
              refine j_istore_n C dX7_isThere_107 rfl (by decide) [(2, .int (0 : Int32)), (0, .ref (gA G 82)), (1, .int v1), (3, .int v3), (4, .int v4)] rfl 108 rfl ?_
              refine j_iinc C dX7_isThere_108 3 rfl (v3 + (1 : Int32)) rfl (by decide) [(3, .int (v3 + (1 : Int32))), (2, .int (0 : Int32)), (0, .ref (gA G 82)), (1, .int v1), (4, .int v4)] rfl 111 rfl ?_
              refine j_goto C dX7_isThere_111 4 (by decide) ?_
              refine j_sub [(0, .ref (gA G 82)), (1, .int v1), (2, .int (0 : Int32)), (3, .int (v3 + (1 : Int32)))] [2, 3, 1, 0] rfl ?_
              exact ih _ _ _ _ h
            · have h := it_f c h
              refine j_iconst C dX7_isThere_102 (1 : Int32) (by decide) 103 rfl ?_
              refine j_goto C dX7_isThere_103 107 (by decide) ?_
              refine j_istore_n C dX7_isThere_107 rfl (by decide) [(2, .int (1 : Int32)), (0, .ref (gA G 82)), (1, .int v1), (3, .int v3), (4, .int v4)] rfl 108 rfl ?_
              refine j_iinc C dX7_isThere_108 3 rfl (v3 + (1 : Int32)) rfl (by decide) [(3, .int (v3 + (1 : Int32))), (2, .int (1 : Int32)), (0, .ref (gA G 82)), (1, .int v1), (4, .int v4)] rfl 111 rfl ?_
              refine j_goto C dX7_isThere_111 4 (by decide) ?_
              refine j_sub [(0, .ref (gA G 82)), (1, .int v1), (2, .int (1 : Int32)), (3, .int (v3 + (1 : Int32)))] [2, 3, 1, 0] rfl ?_
              exact ih _ _ _ _ h
def X7_isThere (σ : Mem) (p1 : Int32) : Option (Mem × Int32) :=
  X7_isThere_4 (fun (σ : Mem) (v2 : Int32) => (if v2 &&& 1 = v2 then some (σ, v2) else none)) FU σ p1 (0 : Int32) (0 : Int32)
set_option maxHeartbeats 4000000 in
set_option maxRecDepth 100000 in
theorem ct_X7_isThere (l : Launch) (G : Gw)  {σ : Mem} {p1 : Int32} {out : Mem × Int32} (h : X7_isThere σ p1 = some out) : Ct l G yX7_isThere cX7_isThere 6 (some .boolean) { frames := 1, cells := 0, slots := 0, locals := 22 } [.ref (gA G 82), .int p1] σ out.1 (some (.int out.2)) := by
  refine Ct.of (by decide +kernel) (Nat.le_of_ble_eq_true rfl) (fun E hE C F => ?_)
  subst hE
  have C : Cx E G RX7 cX7_isThere 6 { frames := 1, cells := 0, slots := 0, locals := 22 } := C
  unfold X7_isThere at h
  show J E G 6 0 0 σ 0 [(0, .ref (gA G 82)), (1, .int p1)] []
  refine j_iconst C dX7_isThere_0 (0 : Int32) (by decide) 1 rfl ?_
  refine j_istore_n C dX7_isThere_1 rfl (by decide) [(2, .int (0 : Int32)), (0, .ref (gA G 82)), (1, .int p1)] rfl 2 rfl ?_
  refine j_iconst C dX7_isThere_2 (0 : Int32) (by decide) 3 rfl ?_
  refine j_istore_n C dX7_isThere_3 rfl (by decide) [(3, .int (0 : Int32)), (2, .int (0 : Int32)), (0, .ref (gA G 82)), (1, .int p1)] rfl 4 rfl ?_
  refine j_sub [(0, .ref (gA G 82)), (1, .int p1), (2, .int (0 : Int32)), (3, .int (0 : Int32))] [2, 3, 1, 0] rfl ?_
  refine w_X7_isThere_4 C F  (fun σ v2 h => ?_) FU _ _ _ _ h
  refine j_iload_n C dX7_isThere_114 rfl 0 rfl 115 rfl ?_
  obtain ⟨hb, h⟩ := if_some h
  exact j_zret C F dX7_isThere_115 hb h

-- ===== StenoChordsModel.define(I)I
theorem vk_X7_define : VK yX7_define cX7_define 5 (some .int) 1 := ⟨kw5_90, kw5_88, kw5_89, kw1_9, by decide +kernel⟩
def X7_define_103 (K : Mem → Int32 → Int32 → Option (Mem × Int32)) : Nat → Mem → Int32 → Int32 → Int32 → Option (Mem × Int32)
  | 0, _, _, _, _ => none
  | fu + 1, σ, v1, v3, v4 => (if (4 : Int32) ≤ v4 then K σ v1 v3 else (if (σ.1 82 8) ≤ v4 then ((X7_lay σ v3 ((1 : Int32) + v4) (-1 : Int32)).bind fun q9 => X7_define_103 K fu q9.1 v1 v3 (v4 + (1 : Int32))) else (if inA v4 31 then ((X7_lay σ v3 ((1 : Int32) + v4) (σ.1 85 v4.toNatClampNeg)).bind fun q11 => X7_define_103 K fu q11.1 v1 v3 (v4 + (1 : Int32))) else none)))
set_option maxHeartbeats 4000000 in
set_option maxRecDepth 100000 in
theorem w_X7_define_103 {E : Ev} {G : Gw} (C : Cx E G RX7 cX7_define 5 { frames := 3, cells := 0, slots := 0, locals := 62 }) {out : Mem × Int32} (F : Ef E G out.1 (some (.int out.2)) (some .int) 0 0)  {K : Mem → Int32 → Int32 → Option (Mem × Int32)} (hK : ∀ (σ : Mem) (v1 : Int32) (v3 : Int32), K σ v1 v3 = some out → J E G 5 0 0 σ 144 [(0, .ref (gA G 82)), (1, .int v1), (3, .int v3)] []) : ∀ (fu : Nat) (σ : Mem) (v1 : Int32) (v3 : Int32) (v4 : Int32), X7_define_103 K fu σ v1 v3 v4 = some out → J E G 5 0 0 σ 103 [(0, .ref (gA G 82)), (1, .int v1), (3, .int v3), (4, .int v4)] [] := by
  intro fu
  induction fu with
  | zero => intro σ v1 v3 v4 h; rw [X7_define_103] at h; cases h
  | succ fu ih =>
    intro σ v1 v3 v4 h
    rw [X7_define_103] at h
    refine j_iload C dX7_define_103 3 rfl 105 rfl ?_
    refine j_iconst C dX7_define_105 (4 : Int32) (by decide) 106 rfl ?_
    refine j_icmp_ge C dX7_define_106 144 (by decide) 109 rfl (fun c => ?_) (fun c => ?_)
    · have h := it_t c h
      refine j_sub [(0, .ref (gA G 82)), (1, .int v1), (3, .int v3)] [0, 1, 2] rfl ?_
      exact hK _ _ _ h
    · have h := it_f c h
      refine j_aload_n C dX7_define_109 rfl 0 rfl 110 rfl ?_
      refine j_iload_n C dX7_define_110 rfl 2 rfl 111 rfl ?_
      refine j_iconst C dX7_define_111 (1 : Int32) (by decide) 112 rfl ?_
      refine j_iload C dX7_define_112 3 rfl 114 rfl ?_
      refine j_iadd C dX7_define_114 115 rfl ?_
      refine j_iload C dX7_define_115 3 rfl 117 rfl ?_
      refine j_aload_n C dX7_define_117 rfl 0 rfl 118 rfl ?_
      refine j_get C foX7 sh82 8 (by decide) 0 rfl kw4_190 rfl dX7_define_118 (.int (σ.1 82 8)) rfl 121 rfl ?_
      refine j_icmp_ge C dX7_define_121 134 (by decide) 124 rfl (fun c => ?_) (fun c => ?_)
      · have h := it_t c h
        refine j_iconst C dX7_define_134 (-1 : Int32) (by decide) 135 rfl ?_
        obtain ⟨q9, e10, h⟩ := ob_some h
        refine j_callV C (ct_X7_lay (eL E) G  e10) sh82 foX7 rfl vk_X7_lay kw5_83 rfl ⟨Nat.le_of_ble_eq_true rfl, Nat.le_of_ble_eq_true rfl, rfl, rfl⟩ ⟨Nat.zero_le _, Nat.zero_le _⟩ (rest := []) rfl (Nat.le_of_ble_eq_true rfl) dX7_define_135 (st1 := []) rfl 138 rfl ?_
        refine j_iinc C dX7_define_138 3 rfl (v4 + (1 : Int32)) rfl (by decide) [(4, .int (v4 + (1 : Int32))), (0, .ref (gA G 82)), (1, .int v1), (3, .int v3)] rfl 141 rfl ?_
        refine j_goto C dX7_define_141 103 (by decide) ?_
        refine j_sub [(0, .ref (gA G 82)), (1, .int v1), (3, .int v3), (4, .int (v4 + (1 : Int32)))] [1, 2, 3, 0] rfl ?_
        exact ih _ _ _ _ h
      · have h := it_f c h
        refine j_aload_n C dX7_define_124 rfl 0 rfl 125 rfl ?_
        refine j_get C foX7 sh82 7 (by decide) 87 rfl kw4_189 rfl dX7_define_125 (.ref (gA G 85)) (fv_r rfl) 128 rfl ?_
        refine j_iload C dX7_define_128 3 rfl 130 rfl ?_
        obtain ⟨hc, h⟩ := if_some h
        refine j_iald C sh85 hc dX7_define_130 v4.toNatClampNeg rfl 131 rfl ?_
        refine j_goto C dX7_define_131 135 (by decide) ?_
        obtain ⟨q11, e12, h⟩ := ob_some h
        refine j_callV C (ct_X7_lay (eL E) G  e12) sh82 foX7 rfl vk_X7_lay kw5_83 rfl ⟨Nat.le_of_ble_eq_true rfl, Nat.le_of_ble_eq_true rfl, rfl, rfl⟩ ⟨Nat.zero_le _, Nat.zero_le _⟩ (rest := []) rfl (Nat.le_of_ble_eq_true rfl) dX7_define_135 (st1 := []) rfl 138 rfl ?_
        refine j_iinc C dX7_define_138 3 rfl (v4 + (1 : Int32)) rfl (by decide) [(4, .int (v4 + (1 : Int32))), (0, .ref (gA G 82)), (1, .int v1), (3, .int v3)] rfl 141 rfl ?_
        refine j_goto C dX7_define_141 103 (by decide) ?_
        refine j_sub [(0, .ref (gA G 82)), (1, .int v1), (3, .int v3), (4, .int (v4 + (1 : Int32)))] [1, 2, 3, 0] rfl ?_
        exact ih _ _ _ _ h
def X7_define_71 (σ : Mem) (v1 : Int32) (s0 : Int32) : Option (Mem × Int32) :=
  ((X7_holds σ s0).bind fun q3 => (if q3.2 = 0 then some (q3.1, (0 : Int32)) else ((X7_save q3.1).bind fun q5 => ((X7_lay q5.1 (q5.1.1 83 1) (0 : Int32) (q5.1.1 82 8)).bind fun q7 => X7_define_103 (fun (σ : Mem) (v1 : Int32) (v3 : Int32) => ((X7_lay σ v3 (5 : Int32) v1).bind fun q13 => ((X7_lay q13.1 v3 (6 : Int32) (0 : Int32)).bind fun q15 => ((some (setI q15.1 83 1 ((q15.1.1 83 1) + (1 : Int32)))).bind fun σ17 => ((some (setI σ17 82 5 (0 : Int32))).bind fun σ19 => some (σ19, v3)))))) FU q7.1 v1 (q5.1.1 83 1) (0 : Int32)))))
set_option maxHeartbeats 4000000 in
set_option maxRecDepth 100000 in
theorem w_X7_define_71 {E : Ev} {G : Gw} (C : Cx E G RX7 cX7_define 5 { frames := 3, cells := 0, slots := 0, locals := 62 }) {out : Mem × Int32} (F : Ef E G out.1 (some (.int out.2)) (some .int) 0 0)  (σ : Mem) (v1 : Int32) (s0 : Int32) (h : X7_define_71 σ v1 s0 = some out) : J E G 5 0 0 σ 71 [(0, .ref (gA G 82)), (1, .int v1)] [.int s0, .ref (gA G 82)] := by
  unfold X7_define_71 at h
  obtain ⟨q3, e4, h⟩ := ob_some h
  refine j_callV C (ct_X7_holds (eL E) G  e4) sh82 foX7 rfl vk_X7_holds kw5_9 rfl ⟨Nat.le_of_ble_eq_true rfl, Nat.le_of_ble_eq_true rfl, rfl, rfl⟩ ⟨Nat.zero_le _, Nat.zero_le _⟩ (rest := []) rfl (Nat.le_of_ble_eq_true rfl) dX7_define_71 (st1 := [.int q3.2]) rfl 74 rfl ?_
  refine j_if_ne C dX7_define_74 79 (by decide) 77 rfl (fun c => ?_) (fun c => ?_)
  · have h := it_f c h
    refine j_aload_n C dX7_define_79 rfl 0 rfl 80 rfl ?_
    obtain ⟨q5, e6, h⟩ := ob_some h
    refine j_callV C (ct_X7_save (eL E) G  e6) sh82 foX7 rfl vk_X7_save kw5_13 rfl ⟨Nat.le_of_ble_eq_true rfl, Nat.le_of_ble_eq_true rfl, rfl, rfl⟩ ⟨Nat.zero_le _, Nat.zero_le _⟩ (rest := []) rfl (Nat.le_of_ble_eq_true rfl) dX7_define_80 (st1 := []) rfl 83 rfl ?_
    refine j_aload_n C dX7_define_83 rfl 0 rfl 84 rfl ?_
    refine j_get C foX7 sh82 1 (by decide) 85 rfl kw4_183 rfl dX7_define_84 (.ref (gA G 83)) (fv_r rfl) 87 rfl ?_
    refine j_iconst C dX7_define_87 (1 : Int32) (by decide) 88 rfl ?_
    refine j_iald C sh83 (by decide) dX7_define_88 1 rfl 89 rfl ?_
    refine j_istore_n C dX7_define_89 rfl (by decide) [(3, .int (q5.1.1 83 1)), (0, .ref (gA G 82)), (1, .int v1)] rfl 90 rfl ?_
    refine j_aload_n C dX7_define_90 rfl 1 rfl 91 rfl ?_
    refine j_iload_n C dX7_define_91 rfl 0 rfl 92 rfl ?_
    refine j_iconst C dX7_define_92 (0 : Int32) (by decide) 93 rfl ?_
    refine j_aload_n C dX7_define_93 rfl 1 rfl 94 rfl ?_
    refine j_get C foX7 sh82 8 (by decide) 0 rfl kw4_190 rfl dX7_define_94 (.int (q5.1.1 82 8)) rfl 97 rfl ?_
    obtain ⟨q7, e8, h⟩ := ob_some h
    refine j_callV C (ct_X7_lay (eL E) G  e8) sh82 foX7 rfl vk_X7_lay kw5_83 rfl ⟨Nat.le_of_ble_eq_true rfl, Nat.le_of_ble_eq_true rfl, rfl, rfl⟩ ⟨Nat.zero_le _, Nat.zero_le _⟩ (rest := []) rfl (Nat.le_of_ble_eq_true rfl) dX7_define_97 (st1 := []) rfl 100 rfl ?_
    refine j_iconst C dX7_define_100 (0 : Int32) (by decide) 101 rfl ?_
    refine j_istore C dX7_define_101 (by decide) [(4, .int (0 : Int32)), (3, .int (q5.1.1 83 1)), (0, .ref (gA G 82)), (1, .int v1)] rfl 103 rfl ?_
    refine j_sub [(0, .ref (gA G 82)), (1, .int v1), (3, .int (q5.1.1 83 1)), (4, .int (0 : Int32))] [2, 3, 1, 0] rfl ?_
    refine w_X7_define_103 C F  (fun σ v1 v3 h => ?_) FU _ _ _ _ h
    refine j_aload_n C dX7_define_144 rfl 0 rfl 145 rfl ?_
    refine j_iload_n C dX7_define_145 rfl 2 rfl 146 rfl ?_
    refine j_iconst C dX7_define_146 (5 : Int32) (by decide) 147 rfl ?_
    refine j_iload_n C dX7_define_147 rfl 1 rfl 148 rfl ?_
    obtain ⟨q13, e14, h⟩ := ob_some h
    refine j_callV C (ct_X7_lay (eL E) G  e14) sh82 foX7 rfl vk_X7_lay kw5_83 rfl ⟨Nat.le_of_ble_eq_true rfl, Nat.le_of_ble_eq_true rfl, rfl, rfl⟩ ⟨Nat.zero_le _, Nat.zero_le _⟩ (rest := []) rfl (Nat.le_of_ble_eq_true rfl) dX7_define_148 (st1 := []) rfl 151 rfl ?_
    refine j_aload_n C dX7_define_151 rfl 0 rfl 152 rfl ?_
    refine j_iload_n C dX7_define_152 rfl 2 rfl 153 rfl ?_
    refine j_bipush C dX7_define_153 (6 : Int32) (by decide) 155 rfl ?_
    refine j_iconst C dX7_define_155 (0 : Int32) (by decide) 156 rfl ?_
    obtain ⟨q15, e16, h⟩ := ob_some h
    refine j_callV C (ct_X7_lay (eL E) G  e16) sh82 foX7 rfl vk_X7_lay kw5_83 rfl ⟨Nat.le_of_ble_eq_true rfl, Nat.le_of_ble_eq_true rfl, rfl, rfl⟩ ⟨Nat.zero_le _, Nat.zero_le _⟩ (rest := []) rfl (Nat.le_of_ble_eq_true rfl) dX7_define_156 (st1 := []) rfl 159 rfl ?_
    refine j_aload_n C dX7_define_159 rfl 0 rfl 160 rfl ?_
    refine j_get C foX7 sh82 1 (by decide) 85 rfl kw4_183 rfl dX7_define_160 (.ref (gA G 83)) (fv_r rfl) 163 rfl ?_
    refine j_iconst C dX7_define_163 (1 : Int32) (by decide) 164 rfl ?_
    refine j_dup2 C dX7_define_164 rfl rfl 165 rfl ?_
    refine j_iald C sh83 (by decide) dX7_define_165 1 rfl 166 rfl ?_
    refine j_iconst C dX7_define_166 (1 : Int32) (by decide) 167 rfl ?_
    refine j_iadd C dX7_define_167 168 rfl ?_
    obtain ⟨σ17, e18, h⟩ := ob_some h
    refine j_iast C sh83 (by decide) dX7_define_168 1 rfl σ17 (Option.some.inj e18) 169 rfl ?_
    refine j_aload_n C dX7_define_169 rfl 0 rfl 170 rfl ?_
    refine j_iconst C dX7_define_170 (0 : Int32) (by decide) 171 rfl ?_
    obtain ⟨σ19, e20, h⟩ := ob_some h
    refine j_putI C foX7 sh82 5 (by decide) rfl kw4_187 rfl rfl rfl rfl dX7_define_171 σ19 (Option.some.inj e20) 174 rfl ?_
    refine j_iload_n C dX7_define_174 rfl 2 rfl 175 rfl ?_
    exact j_iret C F dX7_define_175 h
  · have h := it_t c h
    refine j_iconst C dX7_define_77 (0 : Int32) (by decide) 78 rfl ?_
    exact j_iret C F dX7_define_78 h
def X7_define_66 (σ : Mem) (v1 : Int32) : Option (Mem × Int32) :=
  X7_define_71 σ v1 (2 : Int32)
set_option maxHeartbeats 4000000 in
set_option maxRecDepth 100000 in
theorem w_X7_define_66 {E : Ev} {G : Gw} (C : Cx E G RX7 cX7_define 5 { frames := 3, cells := 0, slots := 0, locals := 62 }) {out : Mem × Int32} (F : Ef E G out.1 (some (.int out.2)) (some .int) 0 0)  (σ : Mem) (v1 : Int32) (h : X7_define_66 σ v1 = some out) : J E G 5 0 0 σ 66 [(0, .ref (gA G 82)), (1, .int v1)] [.ref (gA G 82)] := by
  unfold X7_define_66 at h
  refine j_iconst C dX7_define_66 (2 : Int32) (by decide) 67 rfl ?_
  refine j_goto C dX7_define_67 71 (by decide) ?_
  exact w_X7_define_71 C F  _ _ _ h
def X7_define_37 (σ : Mem) (v1 : Int32) (s0 : Int32) : Option (Mem × Int32) :=
  (if s0 = 0 then X7_define_71 σ v1 (1 : Int32) else (if (σ.1 83 1) = (24 : Int32) then X7_define_66 σ v1 else ((X7_isThere σ v1).bind fun q21 => (if q21.2 = 0 then X7_define_71 q21.1 v1 (0 : Int32) else X7_define_66 q21.1 v1))))
set_option maxHeartbeats 4000000 in
set_option maxRecDepth 100000 in
theorem w_X7_define_37 {E : Ev} {G : Gw} (C : Cx E G RX7 cX7_define 5 { frames := 3, cells := 0, slots := 0, locals := 62 }) {out : Mem × Int32} (F : Ef E G out.1 (some (.int out.2)) (some .int) 0 0)  (σ : Mem) (v1 : Int32) (s0 : Int32) (h : X7_define_37 σ v1 s0 = some out) : J E G 5 0 0 σ 37 [(0, .ref (gA G 82)), (1, .int v1)] [.int s0] := by
  unfold X7_define_37 at h
  refine j_istore_n C dX7_define_37 rfl (by decide) [(2, .int s0), (0, .ref (gA G 82)), (1, .int v1)] rfl 38 rfl ?_
  refine j_aload_n C dX7_define_38 rfl 1 rfl 39 rfl ?_
  refine j_iload_n C dX7_define_39 rfl 0 rfl 40 rfl ?_
  refine j_if_ne C dX7_define_40 47 (by decide) 43 rfl (fun c => ?_) (fun c => ?_)
  · have h := it_f c h
    refine j_aload_n C dX7_define_47 rfl 1 rfl 48 rfl ?_
    refine j_get C foX7 sh82 1 (by decide) 85 rfl kw4_183 rfl dX7_define_48 (.ref (gA G 83)) (fv_r rfl) 51 rfl ?_
    refine j_iconst C dX7_define_51 (1 : Int32) (by decide) 52 rfl ?_
    refine j_iald C sh83 (by decide) dX7_define_52 1 rfl 53 rfl ?_
    refine j_bipush C dX7_define_53 (24 : Int32) (by decide) 55 rfl ?_
    refine j_icmp_eq C dX7_define_55 66 (by decide) 58 rfl (fun c => ?_) (fun c => ?_)
    · have h := it_t c h
      refine j_sub [(0, .ref (gA G 82)), (1, .int v1)] [1, 2] rfl ?_
      exact w_X7_define_66 C F  _ _ h
    · have h := it_f c h
      refine j_aload_n C dX7_define_58 rfl 1 rfl 59 rfl ?_
      refine j_iload_n C dX7_define_59 rfl 2 rfl 60 rfl ?_
      obtain ⟨q21, e22, h⟩ := ob_some h
      refine j_callV C (ct_X7_isThere (eL E) G  e22) sh82 foX7 rfl vk_X7_isThere kw5_95 rfl ⟨Nat.le_of_ble_eq_true rfl, Nat.le_of_ble_eq_true rfl, rfl, rfl⟩ ⟨Nat.zero_le _, Nat.zero_le _⟩ (rest := [.ref (gA G 82)]) rfl (Nat.le_of_ble_eq_true rfl) dX7_define_60 (st1 := [.int q21.2, .ref (gA G 82)]) rfl 63 rfl ?_
      refine j_if_eq C dX7_define_63 70 (by decide) 66 rfl (fun c => ?_) (fun c => ?_)
      · have h := it_t c h
        refine j_iconst C dX7_define_70 (0 : Int32) (by decide) 71 rfl ?_
        refine j_sub [(0, .ref (gA G 82)), (1, .int v1)] [1, 2] rfl ?_
        exact w_X7_define_71 C F  _ _ _ h
      · have h := it_f c h
        refine j_sub [(0, .ref (gA G 82)), (1, .int v1)] [1, 2] rfl ?_
        exact w_X7_define_66 C F  _ _ h
  · have h := it_t c h
    refine j_iconst C dX7_define_43 (1 : Int32) (by decide) 44 rfl ?_
    refine j_goto C dX7_define_44 71 (by decide) ?_
    refine j_sub [(0, .ref (gA G 82)), (1, .int v1)] [1, 2] rfl ?_
    exact w_X7_define_71 C F  _ _ _ h
def X7_define_36 (σ : Mem) (v1 : Int32) : Option (Mem × Int32) :=
  X7_define_37 σ v1 (0 : Int32)
set_option maxHeartbeats 4000000 in
set_option maxRecDepth 100000 in
theorem w_X7_define_36 {E : Ev} {G : Gw} (C : Cx E G RX7 cX7_define 5 { frames := 3, cells := 0, slots := 0, locals := 62 }) {out : Mem × Int32} (F : Ef E G out.1 (some (.int out.2)) (some .int) 0 0)  (σ : Mem) (v1 : Int32) (h : X7_define_36 σ v1 = some out) : J E G 5 0 0 σ 36 [(0, .ref (gA G 82)), (1, .int v1)] [] := by
  unfold X7_define_36 at h
  refine j_iconst C dX7_define_36 (0 : Int32) (by decide) 37 rfl ?_
  exact w_X7_define_37 C F  _ _ _ h
def X7_define (σ : Mem) (p1 : Int32) : Option (Mem × Int32) :=
  ((X7_in σ p1 (0 : Int32) (99 : Int32)).bind fun q1 => (if q1.2 = 0 then X7_define_36 q1.1 p1 else ((X7_areStrokes q1.1).bind fun q23 => (if q23.2 = 0 then X7_define_36 q23.1 p1 else (if (4 : Int32) < (q23.1.1 82 8) then X7_define_36 q23.1 p1 else ((X7_hasAsterisk q23.1).bind fun q25 => (if q25.2 = 0 then X7_define_37 q25.1 p1 (1 : Int32) else X7_define_36 q25.1 p1)))))))
set_option maxHeartbeats 4000000 in
set_option maxRecDepth 100000 in
theorem ct_X7_define (l : Launch) (G : Gw)  {σ : Mem} {p1 : Int32} {out : Mem × Int32} (h : X7_define σ p1 = some out) : Ct l G yX7_define cX7_define 5 (some .int) { frames := 3, cells := 0, slots := 0, locals := 62 } [.ref (gA G 82), .int p1] σ out.1 (some (.int out.2)) := by
  refine Ct.of (by decide +kernel) (Nat.le_of_ble_eq_true rfl) (fun E hE C F => ?_)
  subst hE
  have C : Cx E G RX7 cX7_define 5 { frames := 3, cells := 0, slots := 0, locals := 62 } := C
  unfold X7_define at h
  show J E G 5 0 0 σ 0 [(0, .ref (gA G 82)), (1, .int p1)] []
  refine j_iload_n C dX7_define_0 rfl 1 rfl 1 rfl ?_
  refine j_iconst C dX7_define_1 (0 : Int32) (by decide) 2 rfl ?_
  refine j_bipush C dX7_define_2 (99 : Int32) (by decide) 4 rfl ?_
  obtain ⟨q1, e2, h⟩ := ob_some h
  refine j_callS C (ct_X7_in (eL E) G  e2) vk_X7_in kw5_2 rfl ⟨Nat.le_of_ble_eq_true rfl, Nat.le_of_ble_eq_true rfl, rfl, rfl⟩ ⟨Nat.zero_le _, Nat.zero_le _⟩ (rest := []) rfl (Nat.le_of_ble_eq_true rfl) dX7_define_4 (st1 := [.int q1.2]) rfl 7 rfl ?_
  refine j_if_eq C dX7_define_7 36 (by decide) 10 rfl (fun c => ?_) (fun c => ?_)
  · have h := it_t c h
    exact w_X7_define_36 C F  _ _ h
  · have h := it_f c h
    refine j_aload_n C dX7_define_10 rfl 0 rfl 11 rfl ?_
    obtain ⟨q23, e24, h⟩ := ob_some h
    refine j_callV C (ct_X7_areStrokes (eL E) G  e24) sh82 foX7 rfl vk_X7_areStrokes kw5_60 rfl ⟨Nat.le_of_ble_eq_true rfl, Nat.le_of_ble_eq_true rfl, rfl, rfl⟩ ⟨Nat.zero_le _, Nat.zero_le _⟩ (rest := []) rfl (Nat.le_of_ble_eq_true rfl) dX7_define_11 (st1 := [.int q23.2]) rfl 14 rfl ?_
    refine j_if_eq C dX7_define_14 36 (by decide) 17 rfl (fun c => ?_) (fun c => ?_)
    · have h := it_t c h
      exact w_X7_define_36 C F  _ _ h
    · have h := it_f c h
      refine j_aload_n C dX7_define_17 rfl 0 rfl 18 rfl ?_
      refine j_get C foX7 sh82 8 (by decide) 0 rfl kw4_190 rfl dX7_define_18 (.int (q23.1.1 82 8)) rfl 21 rfl ?_
      refine j_iconst C dX7_define_21 (4 : Int32) (by decide) 22 rfl ?_
      refine j_icmp_gt C dX7_define_22 36 (by decide) 25 rfl (fun c => ?_) (fun c => ?_)
      · have h := it_t c h
        exact w_X7_define_36 C F  _ _ h
      · have h := it_f c h
        refine j_aload_n C dX7_define_25 rfl 0 rfl 26 rfl ?_
        obtain ⟨q25, e26, h⟩ := ob_some h
        refine j_callV C (ct_X7_hasAsterisk (eL E) G  e26) sh82 foX7 rfl vk_X7_hasAsterisk kw5_91 rfl ⟨Nat.le_of_ble_eq_true rfl, Nat.le_of_ble_eq_true rfl, rfl, rfl⟩ ⟨Nat.zero_le _, Nat.zero_le _⟩ (rest := []) rfl (Nat.le_of_ble_eq_true rfl) dX7_define_26 (st1 := [.int q25.2]) rfl 29 rfl ?_
        refine j_if_ne C dX7_define_29 36 (by decide) 32 rfl (fun c => ?_) (fun c => ?_)
        · have h := it_f c h
          exact w_X7_define_36 C F  _ _ h
        · have h := it_t c h
          refine j_iconst C dX7_define_32 (1 : Int32) (by decide) 33 rfl ?_
          refine j_goto C dX7_define_33 37 (by decide) ?_
          exact w_X7_define_37 C F  _ _ _ h

-- ===== StenoChordsModel.remove(I)I
theorem vk_X7_remove : VK yX7_remove cX7_remove 3 (some .int) 1 := ⟨kw5_102, kw5_100, kw5_101, kw1_9, by decide +kernel⟩
def X7_remove_41 (K : Mem → Option (Mem × Int32)) : Nat → Mem → Int32 → Option (Mem × Int32)
  | 0, _, _ => none
  | fu + 1, σ, v2 => (if ((7 : Int32) * (σ.1 83 1)) ≤ v2 then K σ else (if inA (((68 : Int32) + v2) + (7 : Int32)) 1888 then (if inA ((68 : Int32) + v2) 1888 then ((some (setI σ 83 ((68 : Int32) + v2).toNatClampNeg (σ.1 83 (((68 : Int32) + v2) + (7 : Int32)).toNatClampNeg))).bind fun σ9 => X7_remove_41 K fu σ9 (v2 + (1 : Int32))) else none) else none))
set_option maxHeartbeats 4000000 in
set_option maxRecDepth 100000 in
theorem w_X7_remove_41 {E : Ev} {G : Gw} (C : Cx E G RX7 cX7_remove 3 { frames := 2, cells := 0, slots := 0, locals := 44 }) {out : Mem × Int32} (F : Ef E G out.1 (some (.int out.2)) (some .int) 0 0)  {K : Mem → Option (Mem × Int32)} (hK : ∀ (σ : Mem) , K σ  = some out → J E G 3 0 0 σ 81 [(0, .ref (gA G 82))] []) : ∀ (fu : Nat) (σ : Mem) (v2 : Int32), X7_remove_41 K fu σ v2 = some out → J E G 3 0 0 σ 41 [(0, .ref (gA G 82)), (2, .int v2)] [] := by
  intro fu
  induction fu with
  | zero => intro σ v2 h; rw [X7_remove_41] at h; cases h
  | succ fu ih =>
    intro σ v2 h
    rw [X7_remove_41] at h
    refine j_iload_n C dX7_remove_41 rfl 1 rfl 42 rfl ?_
    refine j_bipush C dX7_remove_42 (7 : Int32) (by decide) 44 rfl ?_
    refine j_aload_n C dX7_remove_44 rfl 0 rfl 45 rfl ?_
    refine j_get C foX7 sh82 1 (by decide) 85 rfl kw4_183 rfl dX7_remove_45 (.ref (gA G 83)) (fv_r rfl) 48 rfl ?_
    refine j_iconst C dX7_remove_48 (1 : Int32) (by decide) 49 rfl ?_
    refine j_iald C sh83 (by decide) dX7_remove_49 1 rfl 50 rfl ?_
    refine j_imul C dX7_remove_50 51 rfl ?_
    refine j_icmp_ge C dX7_remove_51 81 (by decide) 54 rfl (fun c => ?_) (fun c => ?_)
    · have h := it_t c h
      refine j_sub [(0, .ref (gA G 82))] [0] rfl ?_
      exact hK _ h
    · have h := it_f c h
      refine j_aload_n C dX7_remove_54 rfl 0 rfl 55 rfl ?_
      refine j_get C foX7 sh82 1 (by decide) 85 rfl kw4_183 rfl dX7_remove_55 (.ref (gA G 83)) (fv_r rfl) 58 rfl ?_
      refine j_bipush C dX7_remove_58 (68 : Int32) (by decide) 60 rfl ?_
      refine j_iload_n C dX7_remove_60 rfl 1 rfl 61 rfl ?_
      refine j_iadd C dX7_remove_61 62 rfl ?_
      refine j_aload_n C dX7_remove_62 rfl 0 rfl 63 rfl ?_
      refine j_get C foX7 sh82 1 (by decide) 85 rfl kw4_183 rfl dX7_remove_63 (.ref (gA G 83)) (fv_r rfl) 66 rfl ?_
      refine j_bipush C dX7_remove_66 (68 : Int32) (by decide) 68 rfl ?_
      refine j_iload_n C dX7_remove_68 rfl 1 rfl 69 rfl ?_
      refine j_iadd C dX7_remove_69 70 rfl ?_
      refine j_bipush C dX7_remove_70 (7 : Int32) (by decide) 72 rfl ?_
      refine j_iadd C dX7_remove_72 73 rfl ?_
      obtain ⟨hc, h⟩ := if_some h
      refine j_iald C sh83 hc dX7_remove_73 (((68 : Int32) + v2) + (7 : Int32)).toNatClampNeg rfl 74 rfl ?_
      obtain ⟨hc, h⟩ := if_some h
      obtain ⟨σ9, e10, h⟩ := ob_some h
      refine j_iast C sh83 hc dX7_remove_74 ((68 : Int32) + v2).toNatClampNeg rfl σ9 (Option.some.inj e10) 75 rfl ?_
      refine j_iinc C dX7_remove_75 1 rfl (v2 + (1 : Int32)) rfl (by decide) [(2, .int (v2 + (1 : Int32))), (0, .ref (gA G 82))] rfl 78 rfl ?_
      refine j_goto C dX7_remove_78 41 (by decide) ?_
      refine j_sub [(0, .ref (gA G 82)), (2, .int (v2 + (1 : Int32)))] [1, 0] rfl ?_
      exact ih _ _ h
def X7_remove_14 (σ : Mem) (v1 : Int32) (s0 : Int32) : Option (Mem × Int32) :=
  ((X7_holds σ s0).bind fun q3 => (if q3.2 = 0 then some (q3.1, (0 : Int32)) else ((X7_save q3.1).bind fun q5 => ((some (setI q5.1 83 1 ((q5.1.1 83 1) - (1 : Int32)))).bind fun σ7 => X7_remove_41 (fun (σ : Mem)  => some (σ, (σ.1 83 1))) FU σ7 ((7 : Int32) * v1)))))
set_option maxHeartbeats 4000000 in
set_option maxRecDepth 100000 in
theorem w_X7_remove_14 {E : Ev} {G : Gw} (C : Cx E G RX7 cX7_remove 3 { frames := 2, cells := 0, slots := 0, locals := 44 }) {out : Mem × Int32} (F : Ef E G out.1 (some (.int out.2)) (some .int) 0 0)  (σ : Mem) (v1 : Int32) (s0 : Int32) (h : X7_remove_14 σ v1 s0 = some out) : J E G 3 0 0 σ 14 [(0, .ref (gA G 82)), (1, .int v1)] [.int s0, .ref (gA G 82)] := by
  unfold X7_remove_14 at h
  obtain ⟨q3, e4, h⟩ := ob_some h
  refine j_callV C (ct_X7_holds (eL E) G  e4) sh82 foX7 rfl vk_X7_holds kw5_9 rfl ⟨Nat.le_of_ble_eq_true rfl, Nat.le_of_ble_eq_true rfl, rfl, rfl⟩ ⟨Nat.zero_le _, Nat.zero_le _⟩ (rest := []) rfl (Nat.le_of_ble_eq_true rfl) dX7_remove_14 (st1 := [.int q3.2]) rfl 17 rfl ?_
  refine j_if_ne C dX7_remove_17 22 (by decide) 20 rfl (fun c => ?_) (fun c => ?_)
  · have h := it_f c h
    refine j_aload_n C dX7_remove_22 rfl 0 rfl 23 rfl ?_
    obtain ⟨q5, e6, h⟩ := ob_some h
    refine j_callV C (ct_X7_save (eL E) G  e6) sh82 foX7 rfl vk_X7_save kw5_13 rfl ⟨Nat.le_of_ble_eq_true rfl, Nat.le_of_ble_eq_true rfl, rfl, rfl⟩ ⟨Nat.zero_le _, Nat.zero_le _⟩ (rest := []) rfl (Nat.le_of_ble_eq_true rfl) dX7_remove_23 (st1 := []) rfl 26 rfl ?_
    refine j_aload_n C dX7_remove_26 rfl 0 rfl 27 rfl ?_
    refine j_get C foX7 sh82 1 (by decide) 85 rfl kw4_183 rfl dX7_remove_27 (.ref (gA G 83)) (fv_r rfl) 30 rfl ?_
    refine j_iconst C dX7_remove_30 (1 : Int32) (by decide) 31 rfl ?_
    refine j_dup2 C dX7_remove_31 rfl rfl 32 rfl ?_
    refine j_iald C sh83 (by decide) dX7_remove_32 1 rfl 33 rfl ?_
    refine j_iconst C dX7_remove_33 (1 : Int32) (by decide) 34 rfl ?_
    refine j_isub C dX7_remove_34 35 rfl ?_
    obtain ⟨σ7, e8, h⟩ := ob_some h
    refine j_iast C sh83 (by decide) dX7_remove_35 1 rfl σ7 (Option.some.inj e8) 36 rfl ?_
    refine j_bipush C dX7_remove_36 (7 : Int32) (by decide) 38 rfl ?_
    refine j_iload_n C dX7_remove_38 rfl 1 rfl 39 rfl ?_
    refine j_imul C dX7_remove_39 40 rfl ?_
    refine j_istore_n C dX7_remove_40 rfl (by decide) [(2, .int ((7 : Int32) * v1)), (0, .ref (gA G 82)), (1, .int v1)] rfl 41 rfl ?_
    refine j_sub [(0, .ref (gA G 82)), (2, .int ((7 : Int32) * v1))] [1, 0] rfl ?_
    refine w_X7_remove_41 C F  (fun σ  h => ?_) FU _ _ h
    refine j_aload_n C dX7_remove_81 rfl 0 rfl 82 rfl ?_
    refine j_get C foX7 sh82 1 (by decide) 85 rfl kw4_183 rfl dX7_remove_82 (.ref (gA G 83)) (fv_r rfl) 85 rfl ?_
    refine j_iconst C dX7_remove_85 (1 : Int32) (by decide) 86 rfl ?_
    refine j_iald C sh83 (by decide) dX7_remove_86 1 rfl 87 rfl ?_
    exact j_iret C F dX7_remove_87 h
  · have h := it_t c h
    refine j_iconst C dX7_remove_20 (0 : Int32) (by decide) 21 rfl ?_
    exact j_iret C F dX7_remove_21 h
def X7_remove (σ : Mem) (p1 : Int32) : Option (Mem × Int32) :=
  ((X7_isEntry σ p1).bind fun q1 => (if q1.2 = 0 then X7_remove_14 q1.1 p1 (1 : Int32) else X7_remove_14 q1.1 p1 (0 : Int32)))
set_option maxHeartbeats 4000000 in
set_option maxRecDepth 100000 in
theorem ct_X7_remove (l : Launch) (G : Gw)  {σ : Mem} {p1 : Int32} {out : Mem × Int32} (h : X7_remove σ p1 = some out) : Ct l G yX7_remove cX7_remove 3 (some .int) { frames := 2, cells := 0, slots := 0, locals := 44 } [.ref (gA G 82), .int p1] σ out.1 (some (.int out.2)) := by
  refine Ct.of (by decide +kernel) (Nat.le_of_ble_eq_true rfl) (fun E hE C F => ?_)
  subst hE
  have C : Cx E G RX7 cX7_remove 3 { frames := 2, cells := 0, slots := 0, locals := 44 } := C
  unfold X7_remove at h
  show J E G 3 0 0 σ 0 [(0, .ref (gA G 82)), (1, .int p1)] []
  refine j_aload_n C dX7_remove_0 rfl 0 rfl 1 rfl ?_
  refine j_aload_n C dX7_remove_1 rfl 0 rfl 2 rfl ?_
  refine j_iload_n C dX7_remove_2 rfl 1 rfl 3 rfl ?_
  obtain ⟨q1, e2, h⟩ := ob_some h
  refine j_callV C (ct_X7_isEntry (eL E) G  e2) sh82 foX7 rfl vk_X7_isEntry kw5_79 rfl ⟨Nat.le_of_ble_eq_true rfl, Nat.le_of_ble_eq_true rfl, rfl, rfl⟩ ⟨Nat.zero_le _, Nat.zero_le _⟩ (rest := [.ref (gA G 82)]) rfl (Nat.le_of_ble_eq_true rfl) dX7_remove_3 (st1 := [.int q1.2, .ref (gA G 82)]) rfl 6 rfl ?_
  refine j_if_eq C dX7_remove_6 13 (by decide) 9 rfl (fun c => ?_) (fun c => ?_)
  · have h := it_t c h
    refine j_iconst C dX7_remove_13 (1 : Int32) (by decide) 14 rfl ?_
    exact w_X7_remove_14 C F  _ _ _ h
  · have h := it_f c h
    refine j_iconst C dX7_remove_9 (0 : Int32) (by decide) 10 rfl ?_
    refine j_goto C dX7_remove_10 14 (by decide) ?_
    exact w_X7_remove_14 C F  _ _ _ h

-- ===== StenoChordsModel.set(II)I
theorem vk_X7_set : VK yX7_set cX7_set 4 (some .int) 2 := ⟨kw5_106, kw5_104, kw5_105, kw1_9, by decide +kernel⟩
def X7_set_36 (σ : Mem) (v1 : Int32) (v2 : Int32) (s0 : Int32) : Option (Mem × Int32) :=
  ((X7_holds σ s0).bind fun q5 => (if q5.2 = 0 then some (q5.1, (0 : Int32)) else ((X7_save q5.1).bind fun q7 => (if inA ((2 : Int32) + v1) 1888 then (if inA ((2 : Int32) + v1) 1888 then ((some (setI q7.1 83 ((2 : Int32) + v1).toNatClampNeg v2)).bind fun σ9 => some (σ9, (q7.1.1 83 ((2 : Int32) + v1).toNatClampNeg))) else none) else none))))
set_option maxHeartbeats 4000000 in
set_option maxRecDepth 100000 in
theorem w_X7_set_36 {E : Ev} {G : Gw} (C : Cx E G RX7 cX7_set 4 { frames := 2, cells := 0, slots := 0, locals := 44 }) {out : Mem × Int32} (F : Ef E G out.1 (some (.int out.2)) (some .int) 0 0)  (σ : Mem) (v1 : Int32) (v2 : Int32) (s0 : Int32) (h : X7_set_36 σ v1 v2 s0 = some out) : J E G 4 0 0 σ 36 [(0, .ref (gA G 82)), (1, .int v1), (2, .int v2)] [.int s0, .ref (gA G 82)] := by
  unfold X7_set_36 at h
  obtain ⟨q5, e6, h⟩ := ob_some h
  refine j_callV C (ct_X7_holds (eL E) G  e6) sh82 foX7 rfl vk_X7_holds kw5_9 rfl ⟨Nat.le_of_ble_eq_true rfl, Nat.le_of_ble_eq_true rfl, rfl, rfl⟩ ⟨Nat.zero_le _, Nat.zero_le _⟩ (rest := []) rfl (Nat.le_of_ble_eq_true rfl) dX7_set_36 (st1 := [.int q5.2]) rfl 39 rfl ?_
  refine j_if_ne C dX7_set_39 44 (by decide) 42 rfl (fun c => ?_) (fun c => ?_)
  · have h := it_f c h
    refine j_aload_n C dX7_set_44 rfl 0 rfl 45 rfl ?_
    obtain ⟨q7, e8, h⟩ := ob_some h
    refine j_callV C (ct_X7_save (eL E) G  e8) sh82 foX7 rfl vk_X7_save kw5_13 rfl ⟨Nat.le_of_ble_eq_true rfl, Nat.le_of_ble_eq_true rfl, rfl, rfl⟩ ⟨Nat.zero_le _, Nat.zero_le _⟩ (rest := []) rfl (Nat.le_of_ble_eq_true rfl) dX7_set_45 (st1 := []) rfl 48 rfl ?_
    refine j_aload_n C dX7_set_48 rfl 0 rfl 49 rfl ?_
    refine j_get C foX7 sh82 1 (by decide) 85 rfl kw4_183 rfl dX7_set_49 (.ref (gA G 83)) (fv_r rfl) 52 rfl ?_
    refine j_iconst C dX7_set_52 (2 : Int32) (by decide) 53 rfl ?_
    refine j_iload_n C dX7_set_53 rfl 1 rfl 54 rfl ?_
    refine j_iadd C dX7_set_54 55 rfl ?_
    obtain ⟨hc, h⟩ := if_some h
    refine j_iald C sh83 hc dX7_set_55 ((2 : Int32) + v1).toNatClampNeg rfl 56 rfl ?_
    refine j_istore_n C dX7_set_56 rfl (by decide) [(3, .int (q7.1.1 83 ((2 : Int32) + v1).toNatClampNeg)), (0, .ref (gA G 82)), (1, .int v1), (2, .int v2)] rfl 57 rfl ?_
    refine j_aload_n C dX7_set_57 rfl 1 rfl 58 rfl ?_
    refine j_get C foX7 sh82 1 (by decide) 85 rfl kw4_183 rfl dX7_set_58 (.ref (gA G 83)) (fv_r rfl) 61 rfl ?_
    refine j_iconst C dX7_set_61 (2 : Int32) (by decide) 62 rfl ?_
    refine j_iload_n C dX7_set_62 rfl 2 rfl 63 rfl ?_
    refine j_iadd C dX7_set_63 64 rfl ?_
    refine j_iload_n C dX7_set_64 rfl 3 rfl 65 rfl ?_
    obtain ⟨hc, h⟩ := if_some h
    obtain ⟨σ9, e10, h⟩ := ob_some h
    refine j_iast C sh83 hc dX7_set_65 ((2 : Int32) + v1).toNatClampNeg rfl σ9 (Option.some.inj e10) 66 rfl ?_
    refine j_iload_n C dX7_set_66 rfl 0 rfl 67 rfl ?_
    exact j_iret C F dX7_set_67 h
  · have h := it_t c h
    refine j_iconst C dX7_set_42 (0 : Int32) (by decide) 43 rfl ?_
    exact j_iret C F dX7_set_43 h
def X7_set_25 (σ : Mem) (v1 : Int32) (v2 : Int32) (s0 : Int32) (s1 : Int32) (s2 : Int32) : Option (Mem × Int32) :=
  ((X7_in σ s2 s1 s0).bind fun q3 => (if q3.2 = 0 then X7_set_36 q3.1 v1 v2 (2 : Int32) else X7_set_36 q3.1 v1 v2 (0 : Int32)))
set_option maxHeartbeats 4000000 in
set_option maxRecDepth 100000 in
theorem w_X7_set_25 {E : Ev} {G : Gw} (C : Cx E G RX7 cX7_set 4 { frames := 2, cells := 0, slots := 0, locals := 44 }) {out : Mem × Int32} (F : Ef E G out.1 (some (.int out.2)) (some .int) 0 0)  (σ : Mem) (v1 : Int32) (v2 : Int32) (s0 : Int32) (s1 : Int32) (s2 : Int32) (h : X7_set_25 σ v1 v2 s0 s1 s2 = some out) : J E G 4 0 0 σ 25 [(0, .ref (gA G 82)), (1, .int v1), (2, .int v2)] [.int s0, .int s1, .int s2, .ref (gA G 82)] := by
  unfold X7_set_25 at h
  obtain ⟨q3, e4, h⟩ := ob_some h
  refine j_callS C (ct_X7_in (eL E) G  e4) vk_X7_in kw5_2 rfl ⟨Nat.le_of_ble_eq_true rfl, Nat.le_of_ble_eq_true rfl, rfl, rfl⟩ ⟨Nat.zero_le _, Nat.zero_le _⟩ (rest := [.ref (gA G 82)]) rfl (Nat.le_of_ble_eq_true rfl) dX7_set_25 (st1 := [.int q3.2, .ref (gA G 82)]) rfl 28 rfl ?_
  refine j_if_ne C dX7_set_28 35 (by decide) 31 rfl (fun c => ?_) (fun c => ?_)
  · have h := it_f c h
    refine j_iconst C dX7_set_35 (0 : Int32) (by decide) 36 rfl ?_
    exact w_X7_set_36 C F  _ _ _ _ h
  · have h := it_t c h
    refine j_iconst C dX7_set_31 (2 : Int32) (by decide) 32 rfl ?_
    refine j_goto C dX7_set_32 36 (by decide) ?_
    exact w_X7_set_36 C F  _ _ _ _ h
def X7_set (σ : Mem) (p1 : Int32) (p2 : Int32) : Option (Mem × Int32) :=
  ((X7_in σ p1 (0 : Int32) (1 : Int32)).bind fun q1 => (if q1.2 = 0 then X7_set_36 q1.1 p1 p2 (1 : Int32) else (if p1 = 0 then X7_set_25 q1.1 p1 p2 (1 : Int32) p1 p2 else X7_set_25 q1.1 p1 p2 (4 : Int32) p1 p2)))
set_option maxHeartbeats 4000000 in
set_option maxRecDepth 100000 in
theorem ct_X7_set (l : Launch) (G : Gw)  {σ : Mem} {p1 : Int32} {p2 : Int32} {out : Mem × Int32} (h : X7_set σ p1 p2 = some out) : Ct l G yX7_set cX7_set 4 (some .int) { frames := 2, cells := 0, slots := 0, locals := 44 } [.ref (gA G 82), .int p1, .int p2] σ out.1 (some (.int out.2)) := by
  refine Ct.of (by decide +kernel) (Nat.le_of_ble_eq_true rfl) (fun E hE C F => ?_)
  subst hE
  have C : Cx E G RX7 cX7_set 4 { frames := 2, cells := 0, slots := 0, locals := 44 } := C
  unfold X7_set at h
  show J E G 4 0 0 σ 0 [(0, .ref (gA G 82)), (1, .int p1), (2, .int p2)] []
  refine j_aload_n C dX7_set_0 rfl 0 rfl 1 rfl ?_
  refine j_iload_n C dX7_set_1 rfl 1 rfl 2 rfl ?_
  refine j_iconst C dX7_set_2 (0 : Int32) (by decide) 3 rfl ?_
  refine j_iconst C dX7_set_3 (1 : Int32) (by decide) 4 rfl ?_
  obtain ⟨q1, e2, h⟩ := ob_some h
  refine j_callS C (ct_X7_in (eL E) G  e2) vk_X7_in kw5_2 rfl ⟨Nat.le_of_ble_eq_true rfl, Nat.le_of_ble_eq_true rfl, rfl, rfl⟩ ⟨Nat.zero_le _, Nat.zero_le _⟩ (rest := [.ref (gA G 82)]) rfl (Nat.le_of_ble_eq_true rfl) dX7_set_4 (st1 := [.int q1.2, .ref (gA G 82)]) rfl 7 rfl ?_
  refine j_if_ne C dX7_set_7 14 (by decide) 10 rfl (fun c => ?_) (fun c => ?_)
  · have h := it_f c h
    refine j_iload_n C dX7_set_14 rfl 2 rfl 15 rfl ?_
    refine j_iload_n C dX7_set_15 rfl 1 rfl 16 rfl ?_
    refine j_iload_n C dX7_set_16 rfl 1 rfl 17 rfl ?_
    refine j_if_ne C dX7_set_17 24 (by decide) 20 rfl (fun c => ?_) (fun c => ?_)
    · have h := it_f c h
      refine j_iconst C dX7_set_24 (4 : Int32) (by decide) 25 rfl ?_
      exact w_X7_set_25 C F  _ _ _ _ _ _ h
    · have h := it_t c h
      refine j_iconst C dX7_set_20 (1 : Int32) (by decide) 21 rfl ?_
      refine j_goto C dX7_set_21 25 (by decide) ?_
      exact w_X7_set_25 C F  _ _ _ _ _ _ h
  · have h := it_t c h
    refine j_iconst C dX7_set_10 (1 : Int32) (by decide) 11 rfl ?_
    refine j_goto C dX7_set_11 36 (by decide) ?_
    exact w_X7_set_36 C F  _ _ _ _ h

-- ===== StenoChordsModel.append(I)I
theorem vk_X7_append : VK yX7_append cX7_append 2 (some .int) 1 := ⟨kw5_110, kw5_108, kw5_109, kw1_9, by decide +kernel⟩
def X7_append_30 (σ : Mem) (v1 : Int32) (s0 : Int32) : Option (Mem × Int32) :=
  ((X7_holds σ s0).bind fun q3 => (if q3.2 = 0 then some (q3.1, (0 : Int32)) else (if inA (q3.1.1 82 5) 60 then ((some (setI q3.1 84 (q3.1.1 82 5).toNatClampNeg v1)).bind fun σ5 => ((some (setI σ5 82 5 ((σ5.1 82 5) + (1 : Int32)))).bind fun σ7 => some (σ7, (σ7.1 82 5)))) else none)))
set_option maxHeartbeats 4000000 in
set_option maxRecDepth 100000 in
theorem w_X7_append_30 {E : Ev} {G : Gw} (C : Cx E G RX7 cX7_append 2 { frames := 1, cells := 0, slots := 0, locals := 22 }) {out : Mem × Int32} (F : Ef E G out.1 (some (.int out.2)) (some .int) 0 0)  (σ : Mem) (v1 : Int32) (s0 : Int32) (h : X7_append_30 σ v1 s0 = some out) : J E G 2 0 0 σ 30 [(0, .ref (gA G 82)), (1, .int v1)] [.int s0, .ref (gA G 82)] := by
  unfold X7_append_30 at h
  obtain ⟨q3, e4, h⟩ := ob_some h
  refine j_callV C (ct_X7_holds (eL E) G  e4) sh82 foX7 rfl vk_X7_holds kw5_9 rfl ⟨Nat.le_of_ble_eq_true rfl, Nat.le_of_ble_eq_true rfl, rfl, rfl⟩ ⟨Nat.zero_le _, Nat.zero_le _⟩ (rest := []) rfl (Nat.le_of_ble_eq_true rfl) dX7_append_30 (st1 := [.int q3.2]) rfl 33 rfl ?_
  refine j_if_ne C dX7_append_33 38 (by decide) 36 rfl (fun c => ?_) (fun c => ?_)
  · have h := it_f c h
    refine j_aload_n C dX7_append_38 rfl 0 rfl 39 rfl ?_
    refine j_get C foX7 sh82 4 (by decide) 86 rfl kw4_186 rfl dX7_append_39 (.ref (gA G 84)) (fv_r rfl) 42 rfl ?_
    refine j_aload_n C dX7_append_42 rfl 0 rfl 43 rfl ?_
    refine j_get C foX7 sh82 5 (by decide) 0 rfl kw4_187 rfl dX7_append_43 (.int (q3.1.1 82 5)) rfl 46 rfl ?_
    refine j_iload_n C dX7_append_46 rfl 1 rfl 47 rfl ?_
    obtain ⟨hc, h⟩ := if_some h
    obtain ⟨σ5, e6, h⟩ := ob_some h
    refine j_iast C sh84 hc dX7_append_47 (q3.1.1 82 5).toNatClampNeg rfl σ5 (Option.some.inj e6) 48 rfl ?_
    refine j_aload_n C dX7_append_48 rfl 0 rfl 49 rfl ?_
    refine j_dup C dX7_append_49 rfl 50 rfl ?_
    refine j_get C foX7 sh82 5 (by decide) 0 rfl kw4_187 rfl dX7_append_50 (.int (σ5.1 82 5)) rfl 53 rfl ?_
    refine j_iconst C dX7_append_53 (1 : Int32) (by decide) 54 rfl ?_
    refine j_iadd C dX7_append_54 55 rfl ?_
    obtain ⟨σ7, e8, h⟩ := ob_some h
    refine j_putI C foX7 sh82 5 (by decide) rfl kw4_187 rfl rfl rfl rfl dX7_append_55 σ7 (Option.some.inj e8) 58 rfl ?_
    refine j_aload_n C dX7_append_58 rfl 0 rfl 59 rfl ?_
    refine j_get C foX7 sh82 5 (by decide) 0 rfl kw4_187 rfl dX7_append_59 (.int (σ7.1 82 5)) rfl 62 rfl ?_
    exact j_iret C F dX7_append_62 h
  · have h := it_t c h
    refine j_iconst C dX7_append_36 (0 : Int32) (by decide) 37 rfl ?_
    exact j_iret C F dX7_append_37 h
def X7_append (σ : Mem) (p1 : Int32) : Option (Mem × Int32) :=
  ((X7_in σ p1 (33 : Int32) (126 : Int32)).bind fun q1 => (if q1.2 = 0 then X7_append_30 q1.1 p1 (1 : Int32) else (if (q1.1.1 82 5) = (60 : Int32) then X7_append_30 q1.1 p1 (2 : Int32) else X7_append_30 q1.1 p1 (0 : Int32))))
set_option maxHeartbeats 4000000 in
set_option maxRecDepth 100000 in
theorem ct_X7_append (l : Launch) (G : Gw)  {σ : Mem} {p1 : Int32} {out : Mem × Int32} (h : X7_append σ p1 = some out) : Ct l G yX7_append cX7_append 2 (some .int) { frames := 1, cells := 0, slots := 0, locals := 22 } [.ref (gA G 82), .int p1] σ out.1 (some (.int out.2)) := by
  refine Ct.of (by decide +kernel) (Nat.le_of_ble_eq_true rfl) (fun E hE C F => ?_)
  subst hE
  have C : Cx E G RX7 cX7_append 2 { frames := 1, cells := 0, slots := 0, locals := 22 } := C
  unfold X7_append at h
  show J E G 2 0 0 σ 0 [(0, .ref (gA G 82)), (1, .int p1)] []
  refine j_aload_n C dX7_append_0 rfl 0 rfl 1 rfl ?_
  refine j_iload_n C dX7_append_1 rfl 1 rfl 2 rfl ?_
  refine j_bipush C dX7_append_2 (33 : Int32) (by decide) 4 rfl ?_
  refine j_bipush C dX7_append_4 (126 : Int32) (by decide) 6 rfl ?_
  obtain ⟨q1, e2, h⟩ := ob_some h
  refine j_callS C (ct_X7_in (eL E) G  e2) vk_X7_in kw5_2 rfl ⟨Nat.le_of_ble_eq_true rfl, Nat.le_of_ble_eq_true rfl, rfl, rfl⟩ ⟨Nat.zero_le _, Nat.zero_le _⟩ (rest := [.ref (gA G 82)]) rfl (Nat.le_of_ble_eq_true rfl) dX7_append_6 (st1 := [.int q1.2, .ref (gA G 82)]) rfl 9 rfl ?_
  refine j_if_ne C dX7_append_9 16 (by decide) 12 rfl (fun c => ?_) (fun c => ?_)
  · have h := it_f c h
    refine j_aload_n C dX7_append_16 rfl 0 rfl 17 rfl ?_
    refine j_get C foX7 sh82 5 (by decide) 0 rfl kw4_187 rfl dX7_append_17 (.int (q1.1.1 82 5)) rfl 20 rfl ?_
    refine j_bipush C dX7_append_20 (60 : Int32) (by decide) 22 rfl ?_
    refine j_icmp_ne C dX7_append_22 29 (by decide) 25 rfl (fun c => ?_) (fun c => ?_)
    · have h := it_f c h
      refine j_iconst C dX7_append_29 (0 : Int32) (by decide) 30 rfl ?_
      exact w_X7_append_30 C F  _ _ _ h
    · have h := it_t c h
      refine j_iconst C dX7_append_25 (2 : Int32) (by decide) 26 rfl ?_
      refine j_goto C dX7_append_26 30 (by decide) ?_
      exact w_X7_append_30 C F  _ _ _ h
  · have h := it_t c h
    refine j_iconst C dX7_append_12 (1 : Int32) (by decide) 13 rfl ?_
    refine j_goto C dX7_append_13 30 (by decide) ?_
    exact w_X7_append_30 C F  _ _ _ h

-- ===== StenoChordsModel.clearBuffer()I
theorem vk_X7_clearBuffer : VK yX7_clearBuffer cX7_clearBuffer 2 (some .int) 0 := ⟨kw5_114, kw5_112, kw5_113, kw1_9, by decide +kernel⟩
def X7_clearBuffer (σ : Mem) : Option (Mem × Int32) :=
  ((some (setI σ 82 0 (0 : Int32))).bind fun σ1 => ((some (setI σ1 82 5 (0 : Int32))).bind fun σ3 => some (σ3, (σ1.1 82 5))))
set_option maxHeartbeats 4000000 in
set_option maxRecDepth 100000 in
theorem ct_X7_clearBuffer (l : Launch) (G : Gw)  {σ : Mem} {out : Mem × Int32} (h : X7_clearBuffer σ = some out) : Ct l G yX7_clearBuffer cX7_clearBuffer 2 (some .int) { frames := 0, cells := 0, slots := 0, locals := 0 } [.ref (gA G 82)] σ out.1 (some (.int out.2)) := by
  refine Ct.of (by decide +kernel) (Nat.le_of_ble_eq_true rfl) (fun E hE C F => ?_)
  subst hE
  have C : Cx E G RX7 cX7_clearBuffer 2 { frames := 0, cells := 0, slots := 0, locals := 0 } := C
  unfold X7_clearBuffer at h
  show J E G 2 0 0 σ 0 [(0, .ref (gA G 82))] []
  refine j_aload_n C dX7_clearBuffer_0 rfl 0 rfl 1 rfl ?_
  refine j_iconst C dX7_clearBuffer_1 (0 : Int32) (by decide) 2 rfl ?_
  obtain ⟨σ1, e2, h⟩ := ob_some h
  refine j_putI C foX7 sh82 0 (by decide) rfl kw4_182 rfl rfl rfl rfl dX7_clearBuffer_2 σ1 (Option.some.inj e2) 5 rfl ?_
  refine j_aload_n C dX7_clearBuffer_5 rfl 0 rfl 6 rfl ?_
  refine j_get C foX7 sh82 5 (by decide) 0 rfl kw4_187 rfl dX7_clearBuffer_6 (.int (σ1.1 82 5)) rfl 9 rfl ?_
  refine j_istore_n C dX7_clearBuffer_9 rfl (by decide) [(1, .int (σ1.1 82 5)), (0, .ref (gA G 82))] rfl 10 rfl ?_
  refine j_aload_n C dX7_clearBuffer_10 rfl 1 rfl 11 rfl ?_
  refine j_iconst C dX7_clearBuffer_11 (0 : Int32) (by decide) 12 rfl ?_
  obtain ⟨σ3, e4, h⟩ := ob_some h
  refine j_putI C foX7 sh82 5 (by decide) rfl kw4_187 rfl rfl rfl rfl dX7_clearBuffer_12 σ3 (Option.some.inj e4) 15 rfl ?_
  refine j_iload_n C dX7_clearBuffer_15 rfl 0 rfl 16 rfl ?_
  exact j_iret C F dX7_clearBuffer_16 h

-- ===== StenoChordsModel.firstError()I
theorem vk_X7_firstError : VK yX7_firstError cX7_firstError 1 (some .int) 0 := ⟨kw5_118, kw5_116, kw5_117, kw1_9, by decide +kernel⟩
def X7_firstError (σ : Mem) : Option (Mem × Int32) :=
  ((some (setI σ 82 0 (0 : Int32))).bind fun σ1 => ((X7_areStrokes σ1).bind fun q3 => some (q3.1, (q3.1.1 82 6))))
set_option maxHeartbeats 4000000 in
set_option maxRecDepth 100000 in
theorem ct_X7_firstError (l : Launch) (G : Gw)  {σ : Mem} {out : Mem × Int32} (h : X7_firstError σ = some out) : Ct l G yX7_firstError cX7_firstError 1 (some .int) { frames := 3, cells := 0, slots := 0, locals := 62 } [.ref (gA G 82)] σ out.1 (some (.int out.2)) := by
  refine Ct.of (by decide +kernel) (Nat.le_of_ble_eq_true rfl) (fun E hE C F => ?_)
  subst hE
  have C : Cx E G RX7 cX7_firstError 1 { frames := 3, cells := 0, slots := 0, locals := 62 } := C
  unfold X7_firstError at h
  show J E G 1 0 0 σ 0 [(0, .ref (gA G 82))] []
  refine j_aload_n C dX7_firstError_0 rfl 0 rfl 1 rfl ?_
  refine j_iconst C dX7_firstError_1 (0 : Int32) (by decide) 2 rfl ?_
  obtain ⟨σ1, e2, h⟩ := ob_some h
  refine j_putI C foX7 sh82 0 (by decide) rfl kw4_182 rfl rfl rfl rfl dX7_firstError_2 σ1 (Option.some.inj e2) 5 rfl ?_
  refine j_aload_n C dX7_firstError_5 rfl 0 rfl 6 rfl ?_
  obtain ⟨q3, e4, h⟩ := ob_some h
  refine j_callV C (ct_X7_areStrokes (eL E) G  e4) sh82 foX7 rfl vk_X7_areStrokes kw5_60 rfl ⟨Nat.le_of_ble_eq_true rfl, Nat.le_of_ble_eq_true rfl, rfl, rfl⟩ ⟨Nat.zero_le _, Nat.zero_le _⟩ (rest := []) rfl (Nat.le_of_ble_eq_true rfl) dX7_firstError_6 (st1 := [.int q3.2]) rfl 9 rfl ?_
  refine j_pop C dX7_firstError_9 rfl 10 rfl ?_
  refine j_aload_n C dX7_firstError_10 rfl 0 rfl 11 rfl ?_
  refine j_get C foX7 sh82 6 (by decide) 0 rfl kw4_188 rfl dX7_firstError_11 (.int (q3.1.1 82 6)) rfl 14 rfl ?_
  exact j_iret C F dX7_firstError_14 h

-- ===== StenoChordsModel.keep()I
theorem vk_X7_keep : VK yX7_keep cX7_keep 1 (some .int) 0 := ⟨kw5_122, kw5_120, kw5_121, kw1_9, by decide +kernel⟩
def X7_keep (σ : Mem) : Option (Mem × Int32) :=
  ((some (setI σ 82 0 (0 : Int32))).bind fun σ1 => ((X7_copies σ1 (0 : Int32) (7 : Int32)).bind fun q3 => ((some (setI q3.1 82 3 (1 : Int32))).bind fun σ5 => some (σ5, (σ5.1 83 0)))))
set_option maxHeartbeats 4000000 in
set_option maxRecDepth 100000 in
theorem ct_X7_keep (l : Launch) (G : Gw)  {σ : Mem} {out : Mem × Int32} (h : X7_keep σ = some out) : Ct l G yX7_keep cX7_keep 1 (some .int) { frames := 1, cells := 0, slots := 0, locals := 23 } [.ref (gA G 82)] σ out.1 (some (.int out.2)) := by
  refine Ct.of (by decide +kernel) (Nat.le_of_ble_eq_true rfl) (fun E hE C F => ?_)
  subst hE
  have C : Cx E G RX7 cX7_keep 1 { frames := 1, cells := 0, slots := 0, locals := 23 } := C
  unfold X7_keep at h
  show J E G 1 0 0 σ 0 [(0, .ref (gA G 82))] []
  refine j_aload_n C dX7_keep_0 rfl 0 rfl 1 rfl ?_
  refine j_iconst C dX7_keep_1 (0 : Int32) (by decide) 2 rfl ?_
  obtain ⟨σ1, e2, h⟩ := ob_some h
  refine j_putI C foX7 sh82 0 (by decide) rfl kw4_182 rfl rfl rfl rfl dX7_keep_2 σ1 (Option.some.inj e2) 5 rfl ?_
  refine j_aload_n C dX7_keep_5 rfl 0 rfl 6 rfl ?_
  refine j_iconst C dX7_keep_6 (0 : Int32) (by decide) 7 rfl ?_
  refine j_bipush C dX7_keep_7 (7 : Int32) (by decide) 9 rfl ?_
  obtain ⟨q3, e4, h⟩ := ob_some h
  refine j_callV C (ct_X7_copies (eL E) G  e4) sh82 foX7 rfl vk_X7_copies kw5_17 rfl ⟨Nat.le_of_ble_eq_true rfl, Nat.le_of_ble_eq_true rfl, rfl, rfl⟩ ⟨Nat.zero_le _, Nat.zero_le _⟩ (rest := []) rfl (Nat.le_of_ble_eq_true rfl) dX7_keep_9 (st1 := []) rfl 12 rfl ?_
  refine j_aload_n C dX7_keep_12 rfl 0 rfl 13 rfl ?_
  refine j_iconst C dX7_keep_13 (1 : Int32) (by decide) 14 rfl ?_
  obtain ⟨σ5, e6, h⟩ := ob_some h
  refine j_putI C foX7 sh82 3 (by decide) rfl kw4_185 rfl rfl rfl rfl dX7_keep_14 σ5 (Option.some.inj e6) 17 rfl ?_
  refine j_aload_n C dX7_keep_17 rfl 0 rfl 18 rfl ?_
  refine j_get C foX7 sh82 1 (by decide) 85 rfl kw4_183 rfl dX7_keep_18 (.ref (gA G 83)) (fv_r rfl) 21 rfl ?_
  refine j_iconst C dX7_keep_21 (0 : Int32) (by decide) 22 rfl ?_
  refine j_iald C sh83 (by decide) dX7_keep_22 0 rfl 23 rfl ?_
  exact j_iret C F dX7_keep_23 h

-- ===== StenoChordsModel.goBack()I
theorem vk_X7_goBack : VK yX7_goBack cX7_goBack 1 (some .int) 0 := ⟨kw5_126, kw5_124, kw5_125, kw1_9, by decide +kernel⟩
def X7_goBack_13 (σ : Mem) (s0 : Int32) : Option (Mem × Int32) :=
  ((X7_holds σ s0).bind fun q1 => (if q1.2 = 0 then some (q1.1, (0 : Int32)) else ((X7_save q1.1).bind fun q3 => ((X7_copies q3.1 (7 : Int32) (0 : Int32)).bind fun q5 => some (q5.1, (q5.1.1 83 0))))))
set_option maxHeartbeats 4000000 in
set_option maxRecDepth 100000 in
theorem w_X7_goBack_13 {E : Ev} {G : Gw} (C : Cx E G RX7 cX7_goBack 1 { frames := 2, cells := 0, slots := 0, locals := 44 }) {out : Mem × Int32} (F : Ef E G out.1 (some (.int out.2)) (some .int) 0 0)  (σ : Mem) (s0 : Int32) (h : X7_goBack_13 σ s0 = some out) : J E G 1 0 0 σ 13 [(0, .ref (gA G 82))] [.int s0, .ref (gA G 82)] := by
  unfold X7_goBack_13 at h
  obtain ⟨q1, e2, h⟩ := ob_some h
  refine j_callV C (ct_X7_holds (eL E) G  e2) sh82 foX7 rfl vk_X7_holds kw5_9 rfl ⟨Nat.le_of_ble_eq_true rfl, Nat.le_of_ble_eq_true rfl, rfl, rfl⟩ ⟨Nat.zero_le _, Nat.zero_le _⟩ (rest := []) rfl (Nat.le_of_ble_eq_true rfl) dX7_goBack_13 (st1 := [.int q1.2]) rfl 16 rfl ?_
  refine j_if_ne C dX7_goBack_16 21 (by decide) 19 rfl (fun c => ?_) (fun c => ?_)
  · have h := it_f c h
    refine j_aload_n C dX7_goBack_21 rfl 0 rfl 22 rfl ?_
    obtain ⟨q3, e4, h⟩ := ob_some h
    refine j_callV C (ct_X7_save (eL E) G  e4) sh82 foX7 rfl vk_X7_save kw5_13 rfl ⟨Nat.le_of_ble_eq_true rfl, Nat.le_of_ble_eq_true rfl, rfl, rfl⟩ ⟨Nat.zero_le _, Nat.zero_le _⟩ (rest := []) rfl (Nat.le_of_ble_eq_true rfl) dX7_goBack_22 (st1 := []) rfl 25 rfl ?_
    refine j_aload_n C dX7_goBack_25 rfl 0 rfl 26 rfl ?_
    refine j_bipush C dX7_goBack_26 (7 : Int32) (by decide) 28 rfl ?_
    refine j_iconst C dX7_goBack_28 (0 : Int32) (by decide) 29 rfl ?_
    obtain ⟨q5, e6, h⟩ := ob_some h
    refine j_callV C (ct_X7_copies (eL E) G  e6) sh82 foX7 rfl vk_X7_copies kw5_17 rfl ⟨Nat.le_of_ble_eq_true rfl, Nat.le_of_ble_eq_true rfl, rfl, rfl⟩ ⟨Nat.zero_le _, Nat.zero_le _⟩ (rest := []) rfl (Nat.le_of_ble_eq_true rfl) dX7_goBack_29 (st1 := []) rfl 32 rfl ?_
    refine j_aload_n C dX7_goBack_32 rfl 0 rfl 33 rfl ?_
    refine j_get C foX7 sh82 1 (by decide) 85 rfl kw4_183 rfl dX7_goBack_33 (.ref (gA G 83)) (fv_r rfl) 36 rfl ?_
    refine j_iconst C dX7_goBack_36 (0 : Int32) (by decide) 37 rfl ?_
    refine j_iald C sh83 (by decide) dX7_goBack_37 0 rfl 38 rfl ?_
    exact j_iret C F dX7_goBack_38 h
  · have h := it_t c h
    refine j_iconst C dX7_goBack_19 (0 : Int32) (by decide) 20 rfl ?_
    exact j_iret C F dX7_goBack_20 h
def X7_goBack (σ : Mem) : Option (Mem × Int32) :=
  (if (σ.1 82 3) = 0 then X7_goBack_13 σ (1 : Int32) else X7_goBack_13 σ (0 : Int32))
set_option maxHeartbeats 4000000 in
set_option maxRecDepth 100000 in
theorem ct_X7_goBack (l : Launch) (G : Gw)  {σ : Mem} {out : Mem × Int32} (h : X7_goBack σ = some out) : Ct l G yX7_goBack cX7_goBack 1 (some .int) { frames := 2, cells := 0, slots := 0, locals := 44 } [.ref (gA G 82)] σ out.1 (some (.int out.2)) := by
  refine Ct.of (by decide +kernel) (Nat.le_of_ble_eq_true rfl) (fun E hE C F => ?_)
  subst hE
  have C : Cx E G RX7 cX7_goBack 1 { frames := 2, cells := 0, slots := 0, locals := 44 } := C
  unfold X7_goBack at h
  show J E G 1 0 0 σ 0 [(0, .ref (gA G 82))] []
  refine j_aload_n C dX7_goBack_0 rfl 0 rfl 1 rfl ?_
  refine j_aload_n C dX7_goBack_1 rfl 0 rfl 2 rfl ?_
  refine j_get C foX7 sh82 3 (by decide) 0 rfl kw4_185 rfl dX7_goBack_2 (.int (σ.1 82 3)) rfl 5 rfl ?_
  refine j_if_eq C dX7_goBack_5 12 (by decide) 8 rfl (fun c => ?_) (fun c => ?_)
  · have h := it_t c h
    refine j_iconst C dX7_goBack_12 (1 : Int32) (by decide) 13 rfl ?_
    exact w_X7_goBack_13 C F  _ _ h
  · have h := it_f c h
    refine j_iconst C dX7_goBack_8 (0 : Int32) (by decide) 9 rfl ?_
    refine j_goto C dX7_goBack_9 13 (by decide) ?_
    exact w_X7_goBack_13 C F  _ _ h

-- ===== StenoChordsModel.undo()I
theorem vk_X7_undo : VK yX7_undo cX7_undo 1 (some .int) 0 := ⟨kw5_130, kw5_128, kw5_129, kw1_9, by decide +kernel⟩
def X7_undo_13 (σ : Mem) (s0 : Int32) : Option (Mem × Int32) :=
  ((X7_holds σ s0).bind fun q1 => (if q1.2 = 0 then some (q1.1, (0 : Int32)) else ((X7_copies q1.1 (q1.1.1 82 2) (0 : Int32)).bind fun q3 => ((some (setI q3.1 82 2 ((q3.1.1 82 2) - (1 : Int32)))).bind fun σ5 => some (σ5, (σ5.1 82 2))))))
set_option maxHeartbeats 4000000 in
set_option maxRecDepth 100000 in
theorem w_X7_undo_13 {E : Ev} {G : Gw} (C : Cx E G RX7 cX7_undo 1 { frames := 1, cells := 0, slots := 0, locals := 23 }) {out : Mem × Int32} (F : Ef E G out.1 (some (.int out.2)) (some .int) 0 0)  (σ : Mem) (s0 : Int32) (h : X7_undo_13 σ s0 = some out) : J E G 1 0 0 σ 13 [(0, .ref (gA G 82))] [.int s0, .ref (gA G 82)] := by
  unfold X7_undo_13 at h
  obtain ⟨q1, e2, h⟩ := ob_some h
  refine j_callV C (ct_X7_holds (eL E) G  e2) sh82 foX7 rfl vk_X7_holds kw5_9 rfl ⟨Nat.le_of_ble_eq_true rfl, Nat.le_of_ble_eq_true rfl, rfl, rfl⟩ ⟨Nat.zero_le _, Nat.zero_le _⟩ (rest := []) rfl (Nat.le_of_ble_eq_true rfl) dX7_undo_13 (st1 := [.int q1.2]) rfl 16 rfl ?_
  refine j_if_ne C dX7_undo_16 21 (by decide) 19 rfl (fun c => ?_) (fun c => ?_)
  · have h := it_f c h
    refine j_aload_n C dX7_undo_21 rfl 0 rfl 22 rfl ?_
    refine j_aload_n C dX7_undo_22 rfl 0 rfl 23 rfl ?_
    refine j_get C foX7 sh82 2 (by decide) 0 rfl kw4_184 rfl dX7_undo_23 (.int (q1.1.1 82 2)) rfl 26 rfl ?_
    refine j_iconst C dX7_undo_26 (0 : Int32) (by decide) 27 rfl ?_
    obtain ⟨q3, e4, h⟩ := ob_some h
    refine j_callV C (ct_X7_copies (eL E) G  e4) sh82 foX7 rfl vk_X7_copies kw5_17 rfl ⟨Nat.le_of_ble_eq_true rfl, Nat.le_of_ble_eq_true rfl, rfl, rfl⟩ ⟨Nat.zero_le _, Nat.zero_le _⟩ (rest := []) rfl (Nat.le_of_ble_eq_true rfl) dX7_undo_27 (st1 := []) rfl 30 rfl ?_
    refine j_aload_n C dX7_undo_30 rfl 0 rfl 31 rfl ?_
    refine j_dup C dX7_undo_31 rfl 32 rfl ?_
    refine j_get C foX7 sh82 2 (by decide) 0 rfl kw4_184 rfl dX7_undo_32 (.int (q3.1.1 82 2)) rfl 35 rfl ?_
    refine j_iconst C dX7_undo_35 (1 : Int32) (by decide) 36 rfl ?_
    refine j_isub C dX7_undo_36 37 rfl ?_
    obtain ⟨σ5, e6, h⟩ := ob_some h
    refine j_putI C foX7 sh82 2 (by decide) rfl kw4_184 rfl rfl rfl rfl dX7_undo_37 σ5 (Option.some.inj e6) 40 rfl ?_
    refine j_aload_n C dX7_undo_40 rfl 0 rfl 41 rfl ?_
    refine j_get C foX7 sh82 2 (by decide) 0 rfl kw4_184 rfl dX7_undo_41 (.int (σ5.1 82 2)) rfl 44 rfl ?_
    exact j_iret C F dX7_undo_44 h
  · have h := it_t c h
    refine j_iconst C dX7_undo_19 (0 : Int32) (by decide) 20 rfl ?_
    exact j_iret C F dX7_undo_20 h
def X7_undo (σ : Mem) : Option (Mem × Int32) :=
  (if (σ.1 82 2) ≤ 0 then X7_undo_13 σ (1 : Int32) else X7_undo_13 σ (0 : Int32))
set_option maxHeartbeats 4000000 in
set_option maxRecDepth 100000 in
theorem ct_X7_undo (l : Launch) (G : Gw)  {σ : Mem} {out : Mem × Int32} (h : X7_undo σ = some out) : Ct l G yX7_undo cX7_undo 1 (some .int) { frames := 1, cells := 0, slots := 0, locals := 23 } [.ref (gA G 82)] σ out.1 (some (.int out.2)) := by
  refine Ct.of (by decide +kernel) (Nat.le_of_ble_eq_true rfl) (fun E hE C F => ?_)
  subst hE
  have C : Cx E G RX7 cX7_undo 1 { frames := 1, cells := 0, slots := 0, locals := 23 } := C
  unfold X7_undo at h
  show J E G 1 0 0 σ 0 [(0, .ref (gA G 82))] []
  refine j_aload_n C dX7_undo_0 rfl 0 rfl 1 rfl ?_
  refine j_aload_n C dX7_undo_1 rfl 0 rfl 2 rfl ?_
  refine j_get C foX7 sh82 2 (by decide) 0 rfl kw4_184 rfl dX7_undo_2 (.int (σ.1 82 2)) rfl 5 rfl ?_
  refine j_if_le C dX7_undo_5 12 (by decide) 8 rfl (fun c => ?_) (fun c => ?_)
  · have h := it_t c h
    refine j_iconst C dX7_undo_12 (1 : Int32) (by decide) 13 rfl ?_
    exact w_X7_undo_13 C F  _ _ h
  · have h := it_f c h
    refine j_iconst C dX7_undo_8 (0 : Int32) (by decide) 9 rfl ?_
    refine j_goto C dX7_undo_9 13 (by decide) ?_
    exact w_X7_undo_13 C F  _ _ h

-- ===== StenoChordsModel.stroke(I)I
theorem vk_X7_stroke : VK yX7_stroke cX7_stroke 2 (some .int) 1 := ⟨kw5_134, kw5_132, kw5_133, kw1_9, by decide +kernel⟩
def X7_stroke (σ : Mem) (p1 : Int32) : Option (Mem × Int32) :=
  ((X7_in σ p1 (0 : Int32) ((σ.1 83 0) - (1 : Int32))).bind fun q1 => (if q1.2 = 0 then ((X7_holds q1.1 (1 : Int32)).bind fun q3 => (if q3.2 = 0 then some (q3.1, (0 : Int32)) else (if inA ((8 : Int32) + p1) 1888 then some (q3.1, (q3.1.1 83 ((8 : Int32) + p1).toNatClampNeg)) else none))) else ((X7_holds q1.1 (0 : Int32)).bind fun q5 => (if q5.2 = 0 then some (q5.1, (0 : Int32)) else (if inA ((8 : Int32) + p1) 1888 then some (q5.1, (q5.1.1 83 ((8 : Int32) + p1).toNatClampNeg)) else none)))))
set_option maxHeartbeats 4000000 in
set_option maxRecDepth 100000 in
theorem ct_X7_stroke (l : Launch) (G : Gw)  {σ : Mem} {p1 : Int32} {out : Mem × Int32} (h : X7_stroke σ p1 = some out) : Ct l G yX7_stroke cX7_stroke 2 (some .int) { frames := 1, cells := 0, slots := 0, locals := 22 } [.ref (gA G 82), .int p1] σ out.1 (some (.int out.2)) := by
  refine Ct.of (by decide +kernel) (Nat.le_of_ble_eq_true rfl) (fun E hE C F => ?_)
  subst hE
  have C : Cx E G RX7 cX7_stroke 2 { frames := 1, cells := 0, slots := 0, locals := 22 } := C
  unfold X7_stroke at h
  show J E G 2 0 0 σ 0 [(0, .ref (gA G 82)), (1, .int p1)] []
  refine j_aload_n C dX7_stroke_0 rfl 0 rfl 1 rfl ?_
  refine j_iload_n C dX7_stroke_1 rfl 1 rfl 2 rfl ?_
  refine j_iconst C dX7_stroke_2 (0 : Int32) (by decide) 3 rfl ?_
  refine j_aload_n C dX7_stroke_3 rfl 0 rfl 4 rfl ?_
  refine j_get C foX7 sh82 1 (by decide) 85 rfl kw4_183 rfl dX7_stroke_4 (.ref (gA G 83)) (fv_r rfl) 7 rfl ?_
  refine j_iconst C dX7_stroke_7 (0 : Int32) (by decide) 8 rfl ?_
  refine j_iald C sh83 (by decide) dX7_stroke_8 0 rfl 9 rfl ?_
  refine j_iconst C dX7_stroke_9 (1 : Int32) (by decide) 10 rfl ?_
  refine j_isub C dX7_stroke_10 11 rfl ?_
  obtain ⟨q1, e2, h⟩ := ob_some h
  refine j_callS C (ct_X7_in (eL E) G  e2) vk_X7_in kw5_2 rfl ⟨Nat.le_of_ble_eq_true rfl, Nat.le_of_ble_eq_true rfl, rfl, rfl⟩ ⟨Nat.zero_le _, Nat.zero_le _⟩ (rest := [.ref (gA G 82)]) rfl (Nat.le_of_ble_eq_true rfl) dX7_stroke_11 (st1 := [.int q1.2, .ref (gA G 82)]) rfl 14 rfl ?_
  refine j_if_eq C dX7_stroke_14 21 (by decide) 17 rfl (fun c => ?_) (fun c => ?_)
  · have h := it_t c h
    refine j_iconst C dX7_stroke_21 (1 : Int32) (by decide) 22 rfl ?_
    obtain ⟨q3, e4, h⟩ := ob_some h
    refine j_callV C (ct_X7_holds (eL E) G  e4) sh82 foX7 rfl vk_X7_holds kw5_9 rfl ⟨Nat.le_of_ble_eq_true rfl, Nat.le_of_ble_eq_true rfl, rfl, rfl⟩ ⟨Nat.zero_le _, Nat.zero_le _⟩ (rest := []) rfl (Nat.le_of_ble_eq_true rfl) dX7_stroke_22 (st1 := [.int q3.2]) rfl 25 rfl ?_
    refine j_if_eq C dX7_stroke_25 40 (by decide) 28 rfl (fun c => ?_) (fun c => ?_)
    · have h := it_t c h
      refine j_iconst C dX7_stroke_40 (0 : Int32) (by decide) 41 rfl ?_
      exact j_iret C F dX7_stroke_41 h
    · have h := it_f c h
      refine j_aload_n C dX7_stroke_28 rfl 0 rfl 29 rfl ?_
      refine j_get C foX7 sh82 1 (by decide) 85 rfl kw4_183 rfl dX7_stroke_29 (.ref (gA G 83)) (fv_r rfl) 32 rfl ?_
      refine j_bipush C dX7_stroke_32 (8 : Int32) (by decide) 34 rfl ?_
      refine j_iload_n C dX7_stroke_34 rfl 1 rfl 35 rfl ?_
      refine j_iadd C dX7_stroke_35 36 rfl ?_
      obtain ⟨hc, h⟩ := if_some h
      refine j_iald C sh83 hc dX7_stroke_36 ((8 : Int32) + p1).toNatClampNeg rfl 37 rfl ?_
      refine j_goto C dX7_stroke_37 41 (by decide) ?_
      exact j_iret C F dX7_stroke_41 h
  · have h := it_f c h
    refine j_iconst C dX7_stroke_17 (0 : Int32) (by decide) 18 rfl ?_
    refine j_goto C dX7_stroke_18 22 (by decide) ?_
    obtain ⟨q5, e6, h⟩ := ob_some h
    refine j_callV C (ct_X7_holds (eL E) G  e6) sh82 foX7 rfl vk_X7_holds kw5_9 rfl ⟨Nat.le_of_ble_eq_true rfl, Nat.le_of_ble_eq_true rfl, rfl, rfl⟩ ⟨Nat.zero_le _, Nat.zero_le _⟩ (rest := []) rfl (Nat.le_of_ble_eq_true rfl) dX7_stroke_22 (st1 := [.int q5.2]) rfl 25 rfl ?_
    refine j_if_eq C dX7_stroke_25 40 (by decide) 28 rfl (fun c => ?_) (fun c => ?_)
    · have h := it_t c h
      refine j_iconst C dX7_stroke_40 (0 : Int32) (by decide) 41 rfl ?_
      exact j_iret C F dX7_stroke_41 h
    · have h := it_f c h
      refine j_aload_n C dX7_stroke_28 rfl 0 rfl 29 rfl ?_
      refine j_get C foX7 sh82 1 (by decide) 85 rfl kw4_183 rfl dX7_stroke_29 (.ref (gA G 83)) (fv_r rfl) 32 rfl ?_
      refine j_bipush C dX7_stroke_32 (8 : Int32) (by decide) 34 rfl ?_
      refine j_iload_n C dX7_stroke_34 rfl 1 rfl 35 rfl ?_
      refine j_iadd C dX7_stroke_35 36 rfl ?_
      obtain ⟨hc, h⟩ := if_some h
      refine j_iald C sh83 hc dX7_stroke_36 ((8 : Int32) + p1).toNatClampNeg rfl 37 rfl ?_
      refine j_goto C dX7_stroke_37 41 (by decide) ?_
      exact j_iret C F dX7_stroke_41 h

-- ===== StenoChordsModel.ofItem(II)I
theorem vk_X7_ofItem : VK yX7_ofItem cX7_ofItem 5 (some .int) 2 := ⟨kw5_142, kw5_141, kwS_41, kw1_9, by decide +kernel⟩
def X7_ofItem_64 (K : Mem → Int32 → Option (Mem × Int32)) : Nat → Mem → Int32 → Int32 → Int32 → Option (Mem × Int32)
  | 0, _, _, _, _ => none
  | fu + 1, σ, v1, v3, v4 => (if (σ.1 83 1) ≤ v4 then K σ v3 else (if inA v1 61 then (if (σ.1 89 v1.toNatClampNeg) = (-1 : Int32) then X7_ofItem_64 K fu σ v1 (v3 + (0 : Int32)) (v4 + (1 : Int32)) else (if inA v1 61 then ((X7_areRivals σ v4 (σ.1 89 v1.toNatClampNeg)).bind fun q3 => (if q3.2 = 0 then X7_ofItem_64 K fu q3.1 v1 (v3 + (0 : Int32)) (v4 + (1 : Int32)) else X7_ofItem_64 K fu q3.1 v1 (v3 + (1 : Int32)) (v4 + (1 : Int32)))) else none)) else none))
set_option maxHeartbeats 4000000 in
set_option maxRecDepth 100000 in
theorem w_X7_ofItem_64 {E : Ev} {G : Gw} (C : Cx E G RX7 cX7_ofItem 5 { frames := 2, cells := 0, slots := 0, locals := 46 }) {out : Mem × Int32} (F : Ef E G out.1 (some (.int out.2)) (some .int) 0 0)  {K : Mem → Int32 → Option (Mem × Int32)} (hK : ∀ (σ : Mem) (v3 : Int32), K σ v3 = some out → J E G 5 0 0 σ 114 [(3, .int v3)] []) : ∀ (fu : Nat) (σ : Mem) (v1 : Int32) (v3 : Int32) (v4 : Int32), X7_ofItem_64 K fu σ v1 v3 v4 = some out → J E G 5 0 0 σ 64 [(0, .ref (gA G 82)), (1, .int v1), (3, .int v3), (4, .int v4)] [] := by
  intro fu
  induction fu with
  | zero => intro σ v1 v3 v4 h; rw [X7_ofItem_64] at h; cases h
  | succ fu ih =>
    intro σ v1 v3 v4 h
    rw [X7_ofItem_64] at h
    refine j_iload C dX7_ofItem_64 3 rfl 66 rfl ?_
    refine j_aload_n C dX7_ofItem_66 rfl 0 rfl 67 rfl ?_
    refine j_get C foX7 sh82 1 (by decide) 85 rfl kw4_183 rfl dX7_ofItem_67 (.ref (gA G 83)) (fv_r rfl) 70 rfl ?_
    refine j_iconst C dX7_ofItem_70 (1 : Int32) (by decide) 71 rfl ?_
    refine j_iald C sh83 (by decide) dX7_ofItem_71 1 rfl 72 rfl ?_
    refine j_icmp_ge C dX7_ofItem_72 114 (by decide) 75 rfl (fun c => ?_) (fun c => ?_)
    · have h := it_t c h
      refine j_sub [(3, .int v3)] [2] rfl ?_
      exact hK _ _ h
    · have h := it_f c h
      refine j_iload_n C dX7_ofItem_75 rfl 2 rfl 76 rfl ?_
      refine j_aload_n C dX7_ofItem_76 rfl 0 rfl 77 rfl ?_
      refine j_get C foX7 sh82 13 (by decide) 91 rfl kw4_195 rfl dX7_ofItem_77 (.ref (gA G 89)) (fv_r rfl) 80 rfl ?_
      refine j_iload_n C dX7_ofItem_80 rfl 1 rfl 81 rfl ?_
      obtain ⟨hc, h⟩ := if_some h
      refine j_iald C sh89 hc dX7_ofItem_81 v1.toNatClampNeg rfl 82 rfl ?_
      refine j_iconst C dX7_ofItem_82 (-1 : Int32) (by decide) 83 rfl ?_
      refine j_icmp_eq C dX7_ofItem_83 105 (by decide) 86 rfl (fun c => ?_) (fun c => ?_)
      · have h := it_t c h
        refine j_iconst C dX7_ofItem_105 (0 : Int32) (by decide) 106 rfl ?_
        refine j_iadd C dX7_ofItem_106 107 rfl ?_
        refine j_istore_n C dX7_ofItem_107 rfl (by decide) [(3, .int (v3 + (0 : Int32))), (0, .ref (gA G 82)), (1, .int v1), (4, .int v4)] rfl 108 rfl ?_
        refine j_iinc C dX7_ofItem_108 3 rfl (v4 + (1 : Int32)) rfl (by decide) [(4, .int (v4 + (1 : Int32))), (3, .int (v3 + (0 : Int32))), (0, .ref (gA G 82)), (1, .int v1)] rfl 111 rfl ?_
        refine j_goto C dX7_ofItem_111 64 (by decide) ?_
        refine j_sub [(0, .ref (gA G 82)), (1, .int v1), (3, .int (v3 + (0 : Int32))), (4, .int (v4 + (1 : Int32)))] [2, 3, 1, 0] rfl ?_
        exact ih _ _ _ _ h
      · have h := it_f c h
        refine j_aload_n C dX7_ofItem_86 rfl 0 rfl 87 rfl ?_
        refine j_iload C dX7_ofItem_87 3 rfl 89 rfl ?_
        refine j_aload_n C dX7_ofItem_89 rfl 0 rfl 90 rfl ?_
        refine j_get C foX7 sh82 13 (by decide) 91 rfl kw4_195 rfl dX7_ofItem_90 (.ref (gA G 89)) (fv_r rfl) 93 rfl ?_
        refine j_iload_n C dX7_ofItem_93 rfl 1 rfl 94 rfl ?_
        obtain ⟨hc, h⟩ := if_some h
        refine j_iald C sh89 hc dX7_ofItem_94 v1.toNatClampNeg rfl 95 rfl ?_
        obtain ⟨q3, e4, h⟩ := ob_some h
        refine j_callV C (ct_X7_areRivals (eL E) G  e4) sh82 foX7 rfl vk_X7_areRivals kw5_52 rfl ⟨Nat.le_of_ble_eq_true rfl, Nat.le_of_ble_eq_true rfl, rfl, rfl⟩ ⟨Nat.zero_le _, Nat.zero_le _⟩ (rest := [.int v3]) rfl (Nat.le_of_ble_eq_true rfl) dX7_ofItem_95 (st1 := [.int q3.2, .int v3]) rfl 98 rfl ?_
        refine j_if_eq C dX7_ofItem_98 105 (by decide) 101 rfl (fun c => ?_) (fun c => ?_)
        · have h := it_t c h
          refine j_iconst C dX7_ofItem_105 (0 : Int32) (by decide) 106 rfl ?_
          refine j_iadd C dX7_ofItem_106 107 rfl ?_
          refine j_istore_n C dX7_ofItem_107 rfl (by decide) [(3, .int (v3 + (0 : Int32))), (0, .ref (gA G 82)), (1, .int v1), (4, .int v4)] rfl 108 rfl ?_
          refine j_iinc C dX7_ofItem_108 3 rfl (v4 + (1 : Int32)) rfl (by decide) [(4, .int (v4 + (1 : Int32))), (3, .int (v3 + (0 : Int32))), (0, .ref (gA G 82)), (1, .int v1)] rfl 111 rfl ?_
          refine j_goto C dX7_ofItem_111 64 (by decide) ?_
          refine j_sub [(0, .ref (gA G 82)), (1, .int v1), (3, .int (v3 + (0 : Int32))), (4, .int (v4 + (1 : Int32)))] [2, 3, 1, 0] rfl ?_
          exact ih _ _ _ _ h
        · have h := it_f c h
          refine j_iconst C dX7_ofItem_101 (1 : Int32) (by decide) 102 rfl ?_
          refine j_goto C dX7_ofItem_102 106 (by decide) ?_
          refine j_iadd C dX7_ofItem_106 107 rfl ?_
          refine j_istore_n C dX7_ofItem_107 rfl (by decide) [(3, .int (v3 + (1 : Int32))), (0, .ref (gA G 82)), (1, .int v1), (4, .int v4)] rfl 108 rfl ?_
          refine j_iinc C dX7_ofItem_108 3 rfl (v4 + (1 : Int32)) rfl (by decide) [(4, .int (v4 + (1 : Int32))), (3, .int (v3 + (1 : Int32))), (0, .ref (gA G 82)), (1, .int v1)] rfl 111 rfl ?_
          refine j_goto C dX7_ofItem_111 64 (by decide) ?_
          refine j_sub [(0, .ref (gA G 82)), (1, .int v1), (3, .int (v3 + (1 : Int32))), (4, .int (v4 + (1 : Int32)))] [2, 3, 1, 0] rfl ?_
          exact ih _ _ _ _ h
def X7_ofItem (σ : Mem) (p1 : Int32) (p2 : Int32) : Option (Mem × Int32) :=
  (if p2 = (0 : Int32) then ((X7_wordOf σ p1).bind fun q1 => some (q1.1, q1.2)) else (if p2 = (1 : Int32) then (if inA p1 61 then some (σ, (σ.1 87 p1.toNatClampNeg)) else none) else (if p2 = (2 : Int32) then (if inA p1 61 then some (σ, (σ.1 88 p1.toNatClampNeg)) else none) else (if p2 = (3 : Int32) then (if inA p1 61 then some (σ, (σ.1 89 p1.toNatClampNeg)) else none) else X7_ofItem_64 (fun (σ : Mem) (v3 : Int32) => some (σ, v3)) FU σ p1 (0 : Int32) (0 : Int32)))))
set_option maxHeartbeats 4000000 in
set_option maxRecDepth 100000 in
theorem ct_X7_ofItem (l : Launch) (G : Gw)  {σ : Mem} {p1 : Int32} {p2 : Int32} {out : Mem × Int32} (h : X7_ofItem σ p1 p2 = some out) : Ct l G yX7_ofItem cX7_ofItem 5 (some .int) { frames := 2, cells := 0, slots := 0, locals := 46 } [.ref (gA G 82), .int p1, .int p2] σ out.1 (some (.int out.2)) := by
  refine Ct.of (by decide +kernel) (Nat.le_of_ble_eq_true rfl) (fun E hE C F => ?_)
  subst hE
  have C : Cx E G RX7 cX7_ofItem 5 { frames := 2, cells := 0, slots := 0, locals := 46 } := C
  unfold X7_ofItem at h
  show J E G 5 0 0 σ 0 [(0, .ref (gA G 82)), (1, .int p1), (2, .int p2)] []
  refine j_iload_n C dX7_ofItem_0 rfl 2 rfl 1 rfl ?_
  by_cases c0 : p2 = (0 : Int32)
  · have h := it_t c0 h
    refine j_tableIn C dX7_ofItem_1 (by rw [c0]; decide) (by rw [c0]; decide) (off := 31) (by rw [c0]; rfl) 32 (by decide) ?_
    refine j_aload_n C dX7_ofItem_32 rfl 0 rfl 33 rfl ?_
    refine j_iload_n C dX7_ofItem_33 rfl 1 rfl 34 rfl ?_
    obtain ⟨q1, e2, h⟩ := ob_some h
    refine j_callV C (ct_X7_wordOf (eL E) G  e2) sh82 foX7 rfl vk_X7_wordOf kw5_143 rfl ⟨Nat.le_of_ble_eq_true rfl, Nat.le_of_ble_eq_true rfl, rfl, rfl⟩ ⟨Nat.zero_le _, Nat.zero_le _⟩ (rest := []) rfl (Nat.le_of_ble_eq_true rfl) dX7_ofItem_34 (st1 := [.int q1.2]) rfl 37 rfl ?_
    exact j_iret C F dX7_ofItem_37 h
  have h := it_f c0 h
  by_cases c1 : p2 = (1 : Int32)
  · have h := it_t c1 h
    refine j_tableIn C dX7_ofItem_1 (by rw [c1]; decide) (by rw [c1]; decide) (off := 37) (by rw [c1]; rfl) 38 (by decide) ?_
    refine j_aload_n C dX7_ofItem_38 rfl 0 rfl 39 rfl ?_
    refine j_get C foX7 sh82 11 (by decide) 89 rfl kw4_193 rfl dX7_ofItem_39 (.ref (gA G 87)) (fv_r rfl) 42 rfl ?_
    refine j_iload_n C dX7_ofItem_42 rfl 1 rfl 43 rfl ?_
    obtain ⟨hc, h⟩ := if_some h
    refine j_iald C sh87 hc dX7_ofItem_43 p1.toNatClampNeg rfl 44 rfl ?_
    exact j_iret C F dX7_ofItem_44 h
  have h := it_f c1 h
  by_cases c2 : p2 = (2 : Int32)
  · have h := it_t c2 h
    refine j_tableIn C dX7_ofItem_1 (by rw [c2]; decide) (by rw [c2]; decide) (off := 44) (by rw [c2]; rfl) 45 (by decide) ?_
    refine j_aload_n C dX7_ofItem_45 rfl 0 rfl 46 rfl ?_
    refine j_get C foX7 sh82 12 (by decide) 90 rfl kw4_194 rfl dX7_ofItem_46 (.ref (gA G 88)) (fv_r rfl) 49 rfl ?_
    refine j_iload_n C dX7_ofItem_49 rfl 1 rfl 50 rfl ?_
    obtain ⟨hc, h⟩ := if_some h
    refine j_iald C sh88 hc dX7_ofItem_50 p1.toNatClampNeg rfl 51 rfl ?_
    exact j_iret C F dX7_ofItem_51 h
  have h := it_f c2 h
  by_cases c3 : p2 = (3 : Int32)
  · have h := it_t c3 h
    refine j_tableIn C dX7_ofItem_1 (by rw [c3]; decide) (by rw [c3]; decide) (off := 51) (by rw [c3]; rfl) 52 (by decide) ?_
    refine j_aload_n C dX7_ofItem_52 rfl 0 rfl 53 rfl ?_
    refine j_get C foX7 sh82 13 (by decide) 91 rfl kw4_195 rfl dX7_ofItem_53 (.ref (gA G 89)) (fv_r rfl) 56 rfl ?_
    refine j_iload_n C dX7_ofItem_56 rfl 1 rfl 57 rfl ?_
    obtain ⟨hc, h⟩ := if_some h
    refine j_iald C sh89 hc dX7_ofItem_57 p1.toNatClampNeg rfl 58 rfl ?_
    exact j_iret C F dX7_ofItem_58 h
  have h := it_f c3 h
  refine j_tableOut C dX7_ofItem_1 (by have n0 := tsw_ne (z := 0) (by decide) c0; have n1 := tsw_ne (z := 1) (by decide) c1; have n2 := tsw_ne (z := 2) (by decide) c2; have n3 := tsw_ne (z := 3) (by decide) c3; omega) 59 (by decide) ?_
  refine j_iconst C dX7_ofItem_59 (0 : Int32) (by decide) 60 rfl ?_
  refine j_istore_n C dX7_ofItem_60 rfl (by decide) [(3, .int (0 : Int32)), (0, .ref (gA G 82)), (1, .int p1), (2, .int p2)] rfl 61 rfl ?_
  refine j_iconst C dX7_ofItem_61 (0 : Int32) (by decide) 62 rfl ?_
  refine j_istore C dX7_ofItem_62 (by decide) [(4, .int (0 : Int32)), (3, .int (0 : Int32)), (0, .ref (gA G 82)), (1, .int p1), (2, .int p2)] rfl 64 rfl ?_
  refine j_sub [(0, .ref (gA G 82)), (1, .int p1), (3, .int (0 : Int32)), (4, .int (0 : Int32))] [2, 3, 1, 0] rfl ?_
  refine w_X7_ofItem_64 C F  (fun σ v3 h => ?_) FU _ _ _ _ h
  refine j_iload_n C dX7_ofItem_114 rfl 0 rfl 115 rfl ?_
  exact j_iret C F dX7_ofItem_115 h

-- ===== StenoChordsModel.item(II)I
theorem vk_X7_item : VK yX7_item cX7_item 3 (some .int) 2 := ⟨kw5_138, kw5_136, kw5_137, kw1_9, by decide +kernel⟩
def X7_item (σ : Mem) (p1 : Int32) (p2 : Int32) : Option (Mem × Int32) :=
  ((X7_readsPaper σ).bind fun q1 => ((X7_in q1.1 p1 (0 : Int32) ((q1.1.1 82 14) - (1 : Int32))).bind fun q3 => (if q3.2 = 0 then ((X7_holds q3.1 (1 : Int32)).bind fun q15 => (if q15.2 = 0 then some (q15.1, (0 : Int32)) else ((X7_ofItem q15.1 p1 p2).bind fun q17 => some (q17.1, q17.2)))) else ((X7_in q3.1 p2 (0 : Int32) (4 : Int32)).bind fun q5 => (if q5.2 = 0 then ((X7_holds q5.1 (2 : Int32)).bind fun q11 => (if q11.2 = 0 then some (q11.1, (0 : Int32)) else ((X7_ofItem q11.1 p1 p2).bind fun q13 => some (q13.1, q13.2)))) else ((X7_holds q5.1 (0 : Int32)).bind fun q7 => (if q7.2 = 0 then some (q7.1, (0 : Int32)) else ((X7_ofItem q7.1 p1 p2).bind fun q9 => some (q9.1, q9.2)))))))))
set_option maxHeartbeats 4000000 in
set_option maxRecDepth 100000 in
theorem ct_X7_item (l : Launch) (G : Gw)  {σ : Mem} {p1 : Int32} {p2 : Int32} {out : Mem × Int32} (h : X7_item σ p1 p2 = some out) : Ct l G yX7_item cX7_item 3 (some .int) { frames := 6, cells := 0, slots := 0, locals := 137 } [.ref (gA G 82), .int p1, .int p2] σ out.1 (some (.int out.2)) := by
  refine Ct.of (by decide +kernel) (Nat.le_of_ble_eq_true rfl) (fun E hE C F => ?_)
  subst hE
  have C : Cx E G RX7 cX7_item 3 { frames := 6, cells := 0, slots := 0, locals := 137 } := C
  unfold X7_item at h
  show J E G 3 0 0 σ 0 [(0, .ref (gA G 82)), (1, .int p1), (2, .int p2)] []
  refine j_aload_n C dX7_item_0 rfl 0 rfl 1 rfl ?_
  obtain ⟨q1, e2, h⟩ := ob_some h
  refine j_callV C (ct_X7_readsPaper (eL E) G  e2) sh82 foX7 rfl vk_X7_readsPaper kw5_28 rfl ⟨Nat.le_of_ble_eq_true rfl, Nat.le_of_ble_eq_true rfl, rfl, rfl⟩ ⟨Nat.zero_le _, Nat.zero_le _⟩ (rest := []) rfl (Nat.le_of_ble_eq_true rfl) dX7_item_1 (st1 := []) rfl 4 rfl ?_
  refine j_aload_n C dX7_item_4 rfl 0 rfl 5 rfl ?_
  refine j_iload_n C dX7_item_5 rfl 1 rfl 6 rfl ?_
  refine j_iconst C dX7_item_6 (0 : Int32) (by decide) 7 rfl ?_
  refine j_aload_n C dX7_item_7 rfl 0 rfl 8 rfl ?_
  refine j_get C foX7 sh82 14 (by decide) 0 rfl kw4_196 rfl dX7_item_8 (.int (q1.1.1 82 14)) rfl 11 rfl ?_
  refine j_iconst C dX7_item_11 (1 : Int32) (by decide) 12 rfl ?_
  refine j_isub C dX7_item_12 13 rfl ?_
  obtain ⟨q3, e4, h⟩ := ob_some h
  refine j_callS C (ct_X7_in (eL E) G  e4) vk_X7_in kw5_2 rfl ⟨Nat.le_of_ble_eq_true rfl, Nat.le_of_ble_eq_true rfl, rfl, rfl⟩ ⟨Nat.zero_le _, Nat.zero_le _⟩ (rest := [.ref (gA G 82)]) rfl (Nat.le_of_ble_eq_true rfl) dX7_item_13 (st1 := [.int q3.2, .ref (gA G 82)]) rfl 16 rfl ?_
  refine j_if_ne C dX7_item_16 23 (by decide) 19 rfl (fun c => ?_) (fun c => ?_)
  · have h := it_f c h
    refine j_iload_n C dX7_item_23 rfl 2 rfl 24 rfl ?_
    refine j_iconst C dX7_item_24 (0 : Int32) (by decide) 25 rfl ?_
    refine j_iconst C dX7_item_25 (4 : Int32) (by decide) 26 rfl ?_
    obtain ⟨q5, e6, h⟩ := ob_some h
    refine j_callS C (ct_X7_in (eL E) G  e6) vk_X7_in kw5_2 rfl ⟨Nat.le_of_ble_eq_true rfl, Nat.le_of_ble_eq_true rfl, rfl, rfl⟩ ⟨Nat.zero_le _, Nat.zero_le _⟩ (rest := [.ref (gA G 82)]) rfl (Nat.le_of_ble_eq_true rfl) dX7_item_26 (st1 := [.int q5.2, .ref (gA G 82)]) rfl 29 rfl ?_
    refine j_if_ne C dX7_item_29 36 (by decide) 32 rfl (fun c => ?_) (fun c => ?_)
    · have h := it_f c h
      refine j_iconst C dX7_item_36 (0 : Int32) (by decide) 37 rfl ?_
      obtain ⟨q7, e8, h⟩ := ob_some h
      refine j_callV C (ct_X7_holds (eL E) G  e8) sh82 foX7 rfl vk_X7_holds kw5_9 rfl ⟨Nat.le_of_ble_eq_true rfl, Nat.le_of_ble_eq_true rfl, rfl, rfl⟩ ⟨Nat.zero_le _, Nat.zero_le _⟩ (rest := []) rfl (Nat.le_of_ble_eq_true rfl) dX7_item_37 (st1 := [.int q7.2]) rfl 40 rfl ?_
      refine j_if_eq C dX7_item_40 52 (by decide) 43 rfl (fun c => ?_) (fun c => ?_)
      · have h := it_t c h
        refine j_iconst C dX7_item_52 (0 : Int32) (by decide) 53 rfl ?_
        exact j_iret C F dX7_item_53 h
      · have h := it_f c h
        refine j_aload_n C dX7_item_43 rfl 0 rfl 44 rfl ?_
        refine j_iload_n C dX7_item_44 rfl 1 rfl 45 rfl ?_
        refine j_iload_n C dX7_item_45 rfl 2 rfl 46 rfl ?_
        obtain ⟨q9, e10, h⟩ := ob_some h
        refine j_callV C (ct_X7_ofItem (eL E) G  e10) sh82 foX7 rfl vk_X7_ofItem kw5_139 rfl ⟨Nat.le_of_ble_eq_true rfl, Nat.le_of_ble_eq_true rfl, rfl, rfl⟩ ⟨Nat.zero_le _, Nat.zero_le _⟩ (rest := []) rfl (Nat.le_of_ble_eq_true rfl) dX7_item_46 (st1 := [.int q9.2]) rfl 49 rfl ?_
        refine j_goto C dX7_item_49 53 (by decide) ?_
        exact j_iret C F dX7_item_53 h
    · have h := it_t c h
      refine j_iconst C dX7_item_32 (2 : Int32) (by decide) 33 rfl ?_
      refine j_goto C dX7_item_33 37 (by decide) ?_
      obtain ⟨q11, e12, h⟩ := ob_some h
      refine j_callV C (ct_X7_holds (eL E) G  e12) sh82 foX7 rfl vk_X7_holds kw5_9 rfl ⟨Nat.le_of_ble_eq_true rfl, Nat.le_of_ble_eq_true rfl, rfl, rfl⟩ ⟨Nat.zero_le _, Nat.zero_le _⟩ (rest := []) rfl (Nat.le_of_ble_eq_true rfl) dX7_item_37 (st1 := [.int q11.2]) rfl 40 rfl ?_
      refine j_if_eq C dX7_item_40 52 (by decide) 43 rfl (fun c => ?_) (fun c => ?_)
      · have h := it_t c h
        refine j_iconst C dX7_item_52 (0 : Int32) (by decide) 53 rfl ?_
        exact j_iret C F dX7_item_53 h
      · have h := it_f c h
        refine j_aload_n C dX7_item_43 rfl 0 rfl 44 rfl ?_
        refine j_iload_n C dX7_item_44 rfl 1 rfl 45 rfl ?_
        refine j_iload_n C dX7_item_45 rfl 2 rfl 46 rfl ?_
        obtain ⟨q13, e14, h⟩ := ob_some h
        refine j_callV C (ct_X7_ofItem (eL E) G  e14) sh82 foX7 rfl vk_X7_ofItem kw5_139 rfl ⟨Nat.le_of_ble_eq_true rfl, Nat.le_of_ble_eq_true rfl, rfl, rfl⟩ ⟨Nat.zero_le _, Nat.zero_le _⟩ (rest := []) rfl (Nat.le_of_ble_eq_true rfl) dX7_item_46 (st1 := [.int q13.2]) rfl 49 rfl ?_
        refine j_goto C dX7_item_49 53 (by decide) ?_
        exact j_iret C F dX7_item_53 h
  · have h := it_t c h
    refine j_iconst C dX7_item_19 (1 : Int32) (by decide) 20 rfl ?_
    refine j_goto C dX7_item_20 37 (by decide) ?_
    obtain ⟨q15, e16, h⟩ := ob_some h
    refine j_callV C (ct_X7_holds (eL E) G  e16) sh82 foX7 rfl vk_X7_holds kw5_9 rfl ⟨Nat.le_of_ble_eq_true rfl, Nat.le_of_ble_eq_true rfl, rfl, rfl⟩ ⟨Nat.zero_le _, Nat.zero_le _⟩ (rest := []) rfl (Nat.le_of_ble_eq_true rfl) dX7_item_37 (st1 := [.int q15.2]) rfl 40 rfl ?_
    refine j_if_eq C dX7_item_40 52 (by decide) 43 rfl (fun c => ?_) (fun c => ?_)
    · have h := it_t c h
      refine j_iconst C dX7_item_52 (0 : Int32) (by decide) 53 rfl ?_
      exact j_iret C F dX7_item_53 h
    · have h := it_f c h
      refine j_aload_n C dX7_item_43 rfl 0 rfl 44 rfl ?_
      refine j_iload_n C dX7_item_44 rfl 1 rfl 45 rfl ?_
      refine j_iload_n C dX7_item_45 rfl 2 rfl 46 rfl ?_
      obtain ⟨q17, e18, h⟩ := ob_some h
      refine j_callV C (ct_X7_ofItem (eL E) G  e18) sh82 foX7 rfl vk_X7_ofItem kw5_139 rfl ⟨Nat.le_of_ble_eq_true rfl, Nat.le_of_ble_eq_true rfl, rfl, rfl⟩ ⟨Nat.zero_le _, Nat.zero_le _⟩ (rest := []) rfl (Nat.le_of_ble_eq_true rfl) dX7_item_46 (st1 := [.int q17.2]) rfl 49 rfl ?_
      refine j_goto C dX7_item_49 53 (by decide) ?_
      exact j_iret C F dX7_item_53 h

-- ===== StenoChordsModel.standing(I)I
theorem vk_X7_standing : VK yX7_standing cX7_standing 4 (some .int) 1 := ⟨kw5_158, kw5_157, kwS_44, kw1_9, by decide +kernel⟩
def X7_standing_4 (K : Mem → Int32 → Option (Mem × Int32)) : Nat → Mem → Int32 → Int32 → Int32 → Option (Mem × Int32)
  | 0, _, _, _, _ => none
  | fu + 1, σ, v1, v2, v3 => (if (σ.1 82 14) ≤ v3 then K σ v2 else (if inA v3 61 then (if (σ.1 89 v3.toNatClampNeg) = v1 then X7_standing_4 K fu σ v1 (v2 + (1 : Int32)) (v3 + (1 : Int32)) else X7_standing_4 K fu σ v1 (v2 + (0 : Int32)) (v3 + (1 : Int32))) else none))
set_option maxHeartbeats 4000000 in
set_option maxRecDepth 100000 in
theorem w_X7_standing_4 {E : Ev} {G : Gw} (C : Cx E G RX7 cX7_standing 4 { frames := 0, cells := 0, slots := 0, locals := 0 }) {out : Mem × Int32} (F : Ef E G out.1 (some (.int out.2)) (some .int) 0 0)  {K : Mem → Int32 → Option (Mem × Int32)} (hK : ∀ (σ : Mem) (v2 : Int32), K σ v2 = some out → J E G 4 0 0 σ 36 [(2, .int v2)] []) : ∀ (fu : Nat) (σ : Mem) (v1 : Int32) (v2 : Int32) (v3 : Int32), X7_standing_4 K fu σ v1 v2 v3 = some out → J E G 4 0 0 σ 4 [(0, .ref (gA G 82)), (1, .int v1), (2, .int v2), (3, .int v3)] [] := by
  intro fu
  induction fu with
  | zero => intro σ v1 v2 v3 h; rw [X7_standing_4] at h; cases h
  | succ fu ih =>
    intro σ v1 v2 v3 h
    rw [X7_standing_4] at h
    refine j_iload_n C dX7_standing_4 rfl 3 rfl 5 rfl ?_
    refine j_aload_n C dX7_standing_5 rfl 0 rfl 6 rfl ?_
    refine j_get C foX7 sh82 14 (by decide) 0 rfl kw4_196 rfl dX7_standing_6 (.int (σ.1 82 14)) rfl 9 rfl ?_
    refine j_icmp_ge C dX7_standing_9 36 (by decide) 12 rfl (fun c => ?_) (fun c => ?_)
    · have h := it_t c h
      refine j_sub [(2, .int v2)] [2] rfl ?_
      exact hK _ _ h
    · have h := it_f c h
      refine j_iload_n C dX7_standing_12 rfl 2 rfl 13 rfl ?_
      refine j_aload_n C dX7_standing_13 rfl 0 rfl 14 rfl ?_
      refine j_get C foX7 sh82 13 (by decide) 91 rfl kw4_195 rfl dX7_standing_14 (.ref (gA G 89)) (fv_r rfl) 17 rfl ?_
      refine j_iload_n C dX7_standing_17 rfl 3 rfl 18 rfl ?_
      obtain ⟨hc, h⟩ := if_some h
      refine j_iald C sh89 hc dX7_standing_18 v3.toNatClampNeg rfl 19 rfl ?_
      refine j_iload_n C dX7_standing_19 rfl 1 rfl 20 rfl ?_
      refine j_icmp_ne C dX7_standing_20 27 (by decide) 23 rfl (fun c => ?_) (fun c => ?_)
      · have h := it_f c h
        refine j_iconst C dX7_standing_27 (0 : Int32) (by decide) 28 rfl ?_
        refine j_iadd C dX7_standing_28 29 rfl ?_
        refine j_istore_n C dX7_standing_29 rfl (by decide) [(2, .int (v2 + (0 : Int32))), (0, .ref (gA G 82)), (1, .int v1), (3, .int v3)] rfl 30 rfl ?_
        refine j_iinc C dX7_standing_30 3 rfl (v3 + (1 : Int32)) rfl (by decide) [(3, .int (v3 + (1 : Int32))), (2, .int (v2 + (0 : Int32))), (0, .ref (gA G 82)), (1, .int v1)] rfl 33 rfl ?_
        refine j_goto C dX7_standing_33 4 (by decide) ?_
        refine j_sub [(0, .ref (gA G 82)), (1, .int v1), (2, .int (v2 + (0 : Int32))), (3, .int (v3 + (1 : Int32)))] [2, 3, 1, 0] rfl ?_
        exact ih _ _ _ _ h
      · have h := it_t c h
        refine j_iconst C dX7_standing_23 (1 : Int32) (by decide) 24 rfl ?_
        refine j_goto C dX7_standing_24 28 (by decide) ?_
        refine j_iadd C dX7_standing_28 29 rfl ?_
        refine j_istore_n C dX7_standing_29 rfl (by decide) [(2, .int (v2 + (1 : Int32))), (0, .ref (gA G 82)), (1, .int v1), (3, .int v3)] rfl 30 rfl ?_
        refine j_iinc C dX7_standing_30 3 rfl (v3 + (1 : Int32)) rfl (by decide) [(3, .int (v3 + (1 : Int32))), (2, .int (v2 + (1 : Int32))), (0, .ref (gA G 82)), (1, .int v1)] rfl 33 rfl ?_
        refine j_goto C dX7_standing_33 4 (by decide) ?_
        refine j_sub [(0, .ref (gA G 82)), (1, .int v1), (2, .int (v2 + (1 : Int32))), (3, .int (v3 + (1 : Int32)))] [2, 3, 1, 0] rfl ?_
        exact ih _ _ _ _ h
def X7_standing (σ : Mem) (p1 : Int32) : Option (Mem × Int32) :=
  X7_standing_4 (fun (σ : Mem) (v2 : Int32) => some (σ, v2)) FU σ p1 (0 : Int32) (0 : Int32)
set_option maxHeartbeats 4000000 in
set_option maxRecDepth 100000 in
theorem ct_X7_standing (l : Launch) (G : Gw)  {σ : Mem} {p1 : Int32} {out : Mem × Int32} (h : X7_standing σ p1 = some out) : Ct l G yX7_standing cX7_standing 4 (some .int) { frames := 0, cells := 0, slots := 0, locals := 0 } [.ref (gA G 82), .int p1] σ out.1 (some (.int out.2)) := by
  refine Ct.of (by decide +kernel) (Nat.le_of_ble_eq_true rfl) (fun E hE C F => ?_)
  subst hE
  have C : Cx E G RX7 cX7_standing 4 { frames := 0, cells := 0, slots := 0, locals := 0 } := C
  unfold X7_standing at h
  show J E G 4 0 0 σ 0 [(0, .ref (gA G 82)), (1, .int p1)] []
  refine j_iconst C dX7_standing_0 (0 : Int32) (by decide) 1 rfl ?_
  refine j_istore_n C dX7_standing_1 rfl (by decide) [(2, .int (0 : Int32)), (0, .ref (gA G 82)), (1, .int p1)] rfl 2 rfl ?_
  refine j_iconst C dX7_standing_2 (0 : Int32) (by decide) 3 rfl ?_
  refine j_istore_n C dX7_standing_3 rfl (by decide) [(3, .int (0 : Int32)), (2, .int (0 : Int32)), (0, .ref (gA G 82)), (1, .int p1)] rfl 4 rfl ?_
  refine j_sub [(0, .ref (gA G 82)), (1, .int p1), (2, .int (0 : Int32)), (3, .int (0 : Int32))] [2, 3, 1, 0] rfl ?_
  refine w_X7_standing_4 C F  (fun σ v2 h => ?_) FU _ _ _ _ h
  refine j_iload_n C dX7_standing_36 rfl 0 rfl 37 rfl ?_
  exact j_iret C F dX7_standing_37 h

-- ===== StenoChordsModel.ofEntry(II)I
theorem vk_X7_ofEntry : VK yX7_ofEntry cX7_ofEntry 3 (some .int) 2 := ⟨kw5_154, kw5_153, kwS_43, kw1_9, by decide +kernel⟩
def X7_ofEntry (σ : Mem) (p1 : Int32) (p2 : Int32) : Option (Mem × Int32) :=
  (if p2 = (0 : Int32) then ((X7_of σ p1 (5 : Int32)).bind fun q1 => some (q1.1, q1.2)) else (if p2 = (1 : Int32) then ((X7_of σ p1 (0 : Int32)).bind fun q3 => some (q3.1, q3.2)) else (if p2 = (2 : Int32) then ((X7_of σ p1 (((1 : Int32) + p2) - (2 : Int32))).bind fun q5 => some (q5.1, q5.2)) else (if p2 = (3 : Int32) then ((X7_of σ p1 (((1 : Int32) + p2) - (2 : Int32))).bind fun q7 => some (q7.1, q7.2)) else (if p2 = (4 : Int32) then ((X7_of σ p1 (((1 : Int32) + p2) - (2 : Int32))).bind fun q9 => some (q9.1, q9.2)) else (if p2 = (5 : Int32) then ((X7_of σ p1 (((1 : Int32) + p2) - (2 : Int32))).bind fun q11 => some (q11.1, q11.2)) else (if p2 = (6 : Int32) then ((X7_of σ p1 (6 : Int32)).bind fun q13 => some (q13.1, q13.2)) else (if p2 = (7 : Int32) then ((X7_leads σ p1).bind fun q15 => (if q15.2 = 0 then some (q15.1, (0 : Int32)) else some (q15.1, (1 : Int32)))) else (if p2 = (8 : Int32) then ((X7_standing σ p1).bind fun q17 => some (q17.1, q17.2)) else (if p2 = (9 : Int32) then ((X7_keysOfEntry σ p1).bind fun q19 => some (q19.1, q19.2)) else ((X7_of σ p1 (((1 : Int32) + p2) - (2 : Int32))).bind fun q21 => some (q21.1, q21.2))))))))))))
set_option maxHeartbeats 4000000 in
set_option maxRecDepth 100000 in
theorem ct_X7_ofEntry (l : Launch) (G : Gw)  {σ : Mem} {p1 : Int32} {p2 : Int32} {out : Mem × Int32} (h : X7_ofEntry σ p1 p2 = some out) : Ct l G yX7_ofEntry cX7_ofEntry 3 (some .int) { frames := 3, cells := 0, slots := 0, locals := 70 } [.ref (gA G 82), .int p1, .int p2] σ out.1 (some (.int out.2)) := by
  refine Ct.of (by decide +kernel) (Nat.le_of_ble_eq_true rfl) (fun E hE C F => ?_)
  subst hE
  have C : Cx E G RX7 cX7_ofEntry 3 { frames := 3, cells := 0, slots := 0, locals := 70 } := C
  unfold X7_ofEntry at h
  show J E G 3 0 0 σ 0 [(0, .ref (gA G 82)), (1, .int p1), (2, .int p2)] []
  refine j_iload_n C dX7_ofEntry_0 rfl 2 rfl 1 rfl ?_
  by_cases c0 : p2 = (0 : Int32)
  · have h := it_t c0 h
    refine j_tableIn C dX7_ofEntry_1 (by rw [c0]; decide) (by rw [c0]; decide) (off := 55) (by rw [c0]; rfl) 56 (by decide) ?_
    refine j_aload_n C dX7_ofEntry_56 rfl 0 rfl 57 rfl ?_
    refine j_iload_n C dX7_ofEntry_57 rfl 1 rfl 58 rfl ?_
    refine j_iconst C dX7_ofEntry_58 (5 : Int32) (by decide) 59 rfl ?_
    obtain ⟨q1, e2, h⟩ := ob_some h
    refine j_callV C (ct_X7_of (eL E) G  e2) sh82 foX7 rfl vk_X7_of kw5_40 rfl ⟨Nat.le_of_ble_eq_true rfl, Nat.le_of_ble_eq_true rfl, rfl, rfl⟩ ⟨Nat.zero_le _, Nat.zero_le _⟩ (rest := []) rfl (Nat.le_of_ble_eq_true rfl) dX7_ofEntry_59 (st1 := [.int q1.2]) rfl 62 rfl ?_
    exact j_iret C F dX7_ofEntry_62 h
  have h := it_f c0 h
  by_cases c1 : p2 = (1 : Int32)
  · have h := it_t c1 h
    refine j_tableIn C dX7_ofEntry_1 (by rw [c1]; decide) (by rw [c1]; decide) (off := 62) (by rw [c1]; rfl) 63 (by decide) ?_
    refine j_aload_n C dX7_ofEntry_63 rfl 0 rfl 64 rfl ?_
    refine j_iload_n C dX7_ofEntry_64 rfl 1 rfl 65 rfl ?_
    refine j_iconst C dX7_ofEntry_65 (0 : Int32) (by decide) 66 rfl ?_
    obtain ⟨q3, e4, h⟩ := ob_some h
    refine j_callV C (ct_X7_of (eL E) G  e4) sh82 foX7 rfl vk_X7_of kw5_40 rfl ⟨Nat.le_of_ble_eq_true rfl, Nat.le_of_ble_eq_true rfl, rfl, rfl⟩ ⟨Nat.zero_le _, Nat.zero_le _⟩ (rest := []) rfl (Nat.le_of_ble_eq_true rfl) dX7_ofEntry_66 (st1 := [.int q3.2]) rfl 69 rfl ?_
    exact j_iret C F dX7_ofEntry_69 h
  have h := it_f c1 h
  by_cases c2 : p2 = (2 : Int32)
  · have h := it_t c2 h
    refine j_tableIn C dX7_ofEntry_1 (by rw [c2]; decide) (by rw [c2]; decide) (off := 103) (by rw [c2]; rfl) 104 (by decide) ?_
    refine j_aload_n C dX7_ofEntry_104 rfl 0 rfl 105 rfl ?_
    refine j_iload_n C dX7_ofEntry_105 rfl 1 rfl 106 rfl ?_
    refine j_iconst C dX7_ofEntry_106 (1 : Int32) (by decide) 107 rfl ?_
    refine j_iload_n C dX7_ofEntry_107 rfl 2 rfl 108 rfl ?_
    refine j_iadd C dX7_ofEntry_108 109 rfl ?_
    refine j_iconst C dX7_ofEntry_109 (2 : Int32) (by decide) 110 rfl ?_
    refine j_isub C dX7_ofEntry_110 111 rfl ?_
    obtain ⟨q5, e6, h⟩ := ob_some h
    refine j_callV C (ct_X7_of (eL E) G  e6) sh82 foX7 rfl vk_X7_of kw5_40 rfl ⟨Nat.le_of_ble_eq_true rfl, Nat.le_of_ble_eq_true rfl, rfl, rfl⟩ ⟨Nat.zero_le _, Nat.zero_le _⟩ (rest := []) rfl (Nat.le_of_ble_eq_true rfl) dX7_ofEntry_111 (st1 := [.int q5.2]) rfl 114 rfl ?_
    exact j_iret C F dX7_ofEntry_114 h
  have h := it_f c2 h
  by_cases c3 : p2 = (3 : Int32)
  · have h := it_t c3 h
    refine j_tableIn C dX7_ofEntry_1 (by rw [c3]; decide) (by rw [c3]; decide) (off := 103) (by rw [c3]; rfl) 104 (by decide) ?_
    refine j_aload_n C dX7_ofEntry_104 rfl 0 rfl 105 rfl ?_
    refine j_iload_n C dX7_ofEntry_105 rfl 1 rfl 106 rfl ?_
    refine j_iconst C dX7_ofEntry_106 (1 : Int32) (by decide) 107 rfl ?_
    refine j_iload_n C dX7_ofEntry_107 rfl 2 rfl 108 rfl ?_
    refine j_iadd C dX7_ofEntry_108 109 rfl ?_
    refine j_iconst C dX7_ofEntry_109 (2 : Int32) (by decide) 110 rfl ?_
    refine j_isub C dX7_ofEntry_110 111 rfl ?_
    obtain ⟨q7, e8, h⟩ := ob_some h
    refine j_callV C (ct_X7_of (eL E) G  e8) sh82 foX7 rfl vk_X7_of kw5_40 rfl ⟨Nat.le_of_ble_eq_true rfl, Nat.le_of_ble_eq_true rfl, rfl, rfl⟩ ⟨Nat.zero_le _, Nat.zero_le _⟩ (rest := []) rfl (Nat.le_of_ble_eq_true rfl) dX7_ofEntry_111 (st1 := [.int q7.2]) rfl 114 rfl ?_
    exact j_iret C F dX7_ofEntry_114 h
  have h := it_f c3 h
  by_cases c4 : p2 = (4 : Int32)
  · have h := it_t c4 h
    refine j_tableIn C dX7_ofEntry_1 (by rw [c4]; decide) (by rw [c4]; decide) (off := 103) (by rw [c4]; rfl) 104 (by decide) ?_
    refine j_aload_n C dX7_ofEntry_104 rfl 0 rfl 105 rfl ?_
    refine j_iload_n C dX7_ofEntry_105 rfl 1 rfl 106 rfl ?_
    refine j_iconst C dX7_ofEntry_106 (1 : Int32) (by decide) 107 rfl ?_
    refine j_iload_n C dX7_ofEntry_107 rfl 2 rfl 108 rfl ?_
    refine j_iadd C dX7_ofEntry_108 109 rfl ?_
    refine j_iconst C dX7_ofEntry_109 (2 : Int32) (by decide) 110 rfl ?_
    refine j_isub C dX7_ofEntry_110 111 rfl ?_
    obtain ⟨q9, e10, h⟩ := ob_some h
    refine j_callV C (ct_X7_of (eL E) G  e10) sh82 foX7 rfl vk_X7_of kw5_40 rfl ⟨Nat.le_of_ble_eq_true rfl, Nat.le_of_ble_eq_true rfl, rfl, rfl⟩ ⟨Nat.zero_le _, Nat.zero_le _⟩ (rest := []) rfl (Nat.le_of_ble_eq_true rfl) dX7_ofEntry_111 (st1 := [.int q9.2]) rfl 114 rfl ?_
    exact j_iret C F dX7_ofEntry_114 h
  have h := it_f c4 h
  by_cases c5 : p2 = (5 : Int32)
  · have h := it_t c5 h
    refine j_tableIn C dX7_ofEntry_1 (by rw [c5]; decide) (by rw [c5]; decide) (off := 103) (by rw [c5]; rfl) 104 (by decide) ?_
    refine j_aload_n C dX7_ofEntry_104 rfl 0 rfl 105 rfl ?_
    refine j_iload_n C dX7_ofEntry_105 rfl 1 rfl 106 rfl ?_
    refine j_iconst C dX7_ofEntry_106 (1 : Int32) (by decide) 107 rfl ?_
    refine j_iload_n C dX7_ofEntry_107 rfl 2 rfl 108 rfl ?_
    refine j_iadd C dX7_ofEntry_108 109 rfl ?_
    refine j_iconst C dX7_ofEntry_109 (2 : Int32) (by decide) 110 rfl ?_
    refine j_isub C dX7_ofEntry_110 111 rfl ?_
    obtain ⟨q11, e12, h⟩ := ob_some h
    refine j_callV C (ct_X7_of (eL E) G  e12) sh82 foX7 rfl vk_X7_of kw5_40 rfl ⟨Nat.le_of_ble_eq_true rfl, Nat.le_of_ble_eq_true rfl, rfl, rfl⟩ ⟨Nat.zero_le _, Nat.zero_le _⟩ (rest := []) rfl (Nat.le_of_ble_eq_true rfl) dX7_ofEntry_111 (st1 := [.int q11.2]) rfl 114 rfl ?_
    exact j_iret C F dX7_ofEntry_114 h
  have h := it_f c5 h
  by_cases c6 : p2 = (6 : Int32)
  · have h := it_t c6 h
    refine j_tableIn C dX7_ofEntry_1 (by rw [c6]; decide) (by rw [c6]; decide) (off := 69) (by rw [c6]; rfl) 70 (by decide) ?_
    refine j_aload_n C dX7_ofEntry_70 rfl 0 rfl 71 rfl ?_
    refine j_iload_n C dX7_ofEntry_71 rfl 1 rfl 72 rfl ?_
    refine j_bipush C dX7_ofEntry_72 (6 : Int32) (by decide) 74 rfl ?_
    obtain ⟨q13, e14, h⟩ := ob_some h
    refine j_callV C (ct_X7_of (eL E) G  e14) sh82 foX7 rfl vk_X7_of kw5_40 rfl ⟨Nat.le_of_ble_eq_true rfl, Nat.le_of_ble_eq_true rfl, rfl, rfl⟩ ⟨Nat.zero_le _, Nat.zero_le _⟩ (rest := []) rfl (Nat.le_of_ble_eq_true rfl) dX7_ofEntry_74 (st1 := [.int q13.2]) rfl 77 rfl ?_
    exact j_iret C F dX7_ofEntry_77 h
  have h := it_f c6 h
  by_cases c7 : p2 = (7 : Int32)
  · have h := it_t c7 h
    refine j_tableIn C dX7_ofEntry_1 (by rw [c7]; decide) (by rw [c7]; decide) (off := 77) (by rw [c7]; rfl) 78 (by decide) ?_
    refine j_aload_n C dX7_ofEntry_78 rfl 0 rfl 79 rfl ?_
    refine j_iload_n C dX7_ofEntry_79 rfl 1 rfl 80 rfl ?_
    obtain ⟨q15, e16, h⟩ := ob_some h
    refine j_callV C (ct_X7_leads (eL E) G  e16) sh82 foX7 rfl vk_X7_leads kw5_48 rfl ⟨Nat.le_of_ble_eq_true rfl, Nat.le_of_ble_eq_true rfl, rfl, rfl⟩ ⟨Nat.zero_le _, Nat.zero_le _⟩ (rest := []) rfl (Nat.le_of_ble_eq_true rfl) dX7_ofEntry_80 (st1 := [.int q15.2]) rfl 83 rfl ?_
    refine j_if_eq C dX7_ofEntry_83 90 (by decide) 86 rfl (fun c => ?_) (fun c => ?_)
    · have h := it_t c h
      refine j_iconst C dX7_ofEntry_90 (0 : Int32) (by decide) 91 rfl ?_
      exact j_iret C F dX7_ofEntry_91 h
    · have h := it_f c h
      refine j_iconst C dX7_ofEntry_86 (1 : Int32) (by decide) 87 rfl ?_
      refine j_goto C dX7_ofEntry_87 91 (by decide) ?_
      exact j_iret C F dX7_ofEntry_91 h
  have h := it_f c7 h
  by_cases c8 : p2 = (8 : Int32)
  · have h := it_t c8 h
    refine j_tableIn C dX7_ofEntry_1 (by rw [c8]; decide) (by rw [c8]; decide) (off := 91) (by rw [c8]; rfl) 92 (by decide) ?_
    refine j_aload_n C dX7_ofEntry_92 rfl 0 rfl 93 rfl ?_
    refine j_iload_n C dX7_ofEntry_93 rfl 1 rfl 94 rfl ?_
    obtain ⟨q17, e18, h⟩ := ob_some h
    refine j_callV C (ct_X7_standing (eL E) G  e18) sh82 foX7 rfl vk_X7_standing kw5_155 rfl ⟨Nat.le_of_ble_eq_true rfl, Nat.le_of_ble_eq_true rfl, rfl, rfl⟩ ⟨Nat.zero_le _, Nat.zero_le _⟩ (rest := []) rfl (Nat.le_of_ble_eq_true rfl) dX7_ofEntry_94 (st1 := [.int q17.2]) rfl 97 rfl ?_
    exact j_iret C F dX7_ofEntry_97 h
  have h := it_f c8 h
  by_cases c9 : p2 = (9 : Int32)
  · have h := it_t c9 h
    refine j_tableIn C dX7_ofEntry_1 (by rw [c9]; decide) (by rw [c9]; decide) (off := 97) (by rw [c9]; rfl) 98 (by decide) ?_
    refine j_aload_n C dX7_ofEntry_98 rfl 0 rfl 99 rfl ?_
    refine j_iload_n C dX7_ofEntry_99 rfl 1 rfl 100 rfl ?_
    obtain ⟨q19, e20, h⟩ := ob_some h
    refine j_callV C (ct_X7_keysOfEntry (eL E) G  e20) sh82 foX7 rfl vk_X7_keysOfEntry kw5_159 rfl ⟨Nat.le_of_ble_eq_true rfl, Nat.le_of_ble_eq_true rfl, rfl, rfl⟩ ⟨Nat.zero_le _, Nat.zero_le _⟩ (rest := []) rfl (Nat.le_of_ble_eq_true rfl) dX7_ofEntry_100 (st1 := [.int q19.2]) rfl 103 rfl ?_
    exact j_iret C F dX7_ofEntry_103 h
  have h := it_f c9 h
  refine j_tableOut C dX7_ofEntry_1 (by have n0 := tsw_ne (z := 0) (by decide) c0; have n1 := tsw_ne (z := 1) (by decide) c1; have n2 := tsw_ne (z := 2) (by decide) c2; have n3 := tsw_ne (z := 3) (by decide) c3; have n4 := tsw_ne (z := 4) (by decide) c4; have n5 := tsw_ne (z := 5) (by decide) c5; have n6 := tsw_ne (z := 6) (by decide) c6; have n7 := tsw_ne (z := 7) (by decide) c7; have n8 := tsw_ne (z := 8) (by decide) c8; have n9 := tsw_ne (z := 9) (by decide) c9; omega) 104 (by decide) ?_
  refine j_aload_n C dX7_ofEntry_104 rfl 0 rfl 105 rfl ?_
  refine j_iload_n C dX7_ofEntry_105 rfl 1 rfl 106 rfl ?_
  refine j_iconst C dX7_ofEntry_106 (1 : Int32) (by decide) 107 rfl ?_
  refine j_iload_n C dX7_ofEntry_107 rfl 2 rfl 108 rfl ?_
  refine j_iadd C dX7_ofEntry_108 109 rfl ?_
  refine j_iconst C dX7_ofEntry_109 (2 : Int32) (by decide) 110 rfl ?_
  refine j_isub C dX7_ofEntry_110 111 rfl ?_
  obtain ⟨q21, e22, h⟩ := ob_some h
  refine j_callV C (ct_X7_of (eL E) G  e22) sh82 foX7 rfl vk_X7_of kw5_40 rfl ⟨Nat.le_of_ble_eq_true rfl, Nat.le_of_ble_eq_true rfl, rfl, rfl⟩ ⟨Nat.zero_le _, Nat.zero_le _⟩ (rest := []) rfl (Nat.le_of_ble_eq_true rfl) dX7_ofEntry_111 (st1 := [.int q21.2]) rfl 114 rfl ?_
  exact j_iret C F dX7_ofEntry_114 h

-- ===== StenoChordsModel.entry(II)I
theorem vk_X7_entry : VK yX7_entry cX7_entry 3 (some .int) 2 := ⟨kw5_150, kw5_148, kw5_149, kw1_9, by decide +kernel⟩
def X7_entry (σ : Mem) (p1 : Int32) (p2 : Int32) : Option (Mem × Int32) :=
  ((X7_readsPaper σ).bind fun q1 => ((X7_isEntry q1.1 p1).bind fun q3 => (if q3.2 = 0 then ((X7_holds q3.1 (1 : Int32)).bind fun q15 => (if q15.2 = 0 then some (q15.1, (0 : Int32)) else ((X7_ofEntry q15.1 p1 p2).bind fun q17 => some (q17.1, q17.2)))) else ((X7_in q3.1 p2 (0 : Int32) (9 : Int32)).bind fun q5 => (if q5.2 = 0 then ((X7_holds q5.1 (2 : Int32)).bind fun q11 => (if q11.2 = 0 then some (q11.1, (0 : Int32)) else ((X7_ofEntry q11.1 p1 p2).bind fun q13 => some (q13.1, q13.2)))) else ((X7_holds q5.1 (0 : Int32)).bind fun q7 => (if q7.2 = 0 then some (q7.1, (0 : Int32)) else ((X7_ofEntry q7.1 p1 p2).bind fun q9 => some (q9.1, q9.2)))))))))
set_option maxHeartbeats 4000000 in
set_option maxRecDepth 100000 in
theorem ct_X7_entry (l : Launch) (G : Gw)  {σ : Mem} {p1 : Int32} {p2 : Int32} {out : Mem × Int32} (h : X7_entry σ p1 p2 = some out) : Ct l G yX7_entry cX7_entry 3 (some .int) { frames := 6, cells := 0, slots := 0, locals := 137 } [.ref (gA G 82), .int p1, .int p2] σ out.1 (some (.int out.2)) := by
  refine Ct.of (by decide +kernel) (Nat.le_of_ble_eq_true rfl) (fun E hE C F => ?_)
  subst hE
  have C : Cx E G RX7 cX7_entry 3 { frames := 6, cells := 0, slots := 0, locals := 137 } := C
  unfold X7_entry at h
  show J E G 3 0 0 σ 0 [(0, .ref (gA G 82)), (1, .int p1), (2, .int p2)] []
  refine j_aload_n C dX7_entry_0 rfl 0 rfl 1 rfl ?_
  obtain ⟨q1, e2, h⟩ := ob_some h
  refine j_callV C (ct_X7_readsPaper (eL E) G  e2) sh82 foX7 rfl vk_X7_readsPaper kw5_28 rfl ⟨Nat.le_of_ble_eq_true rfl, Nat.le_of_ble_eq_true rfl, rfl, rfl⟩ ⟨Nat.zero_le _, Nat.zero_le _⟩ (rest := []) rfl (Nat.le_of_ble_eq_true rfl) dX7_entry_1 (st1 := []) rfl 4 rfl ?_
  refine j_aload_n C dX7_entry_4 rfl 0 rfl 5 rfl ?_
  refine j_aload_n C dX7_entry_5 rfl 0 rfl 6 rfl ?_
  refine j_iload_n C dX7_entry_6 rfl 1 rfl 7 rfl ?_
  obtain ⟨q3, e4, h⟩ := ob_some h
  refine j_callV C (ct_X7_isEntry (eL E) G  e4) sh82 foX7 rfl vk_X7_isEntry kw5_79 rfl ⟨Nat.le_of_ble_eq_true rfl, Nat.le_of_ble_eq_true rfl, rfl, rfl⟩ ⟨Nat.zero_le _, Nat.zero_le _⟩ (rest := [.ref (gA G 82)]) rfl (Nat.le_of_ble_eq_true rfl) dX7_entry_7 (st1 := [.int q3.2, .ref (gA G 82)]) rfl 10 rfl ?_
  refine j_if_ne C dX7_entry_10 17 (by decide) 13 rfl (fun c => ?_) (fun c => ?_)
  · have h := it_f c h
    refine j_iload_n C dX7_entry_17 rfl 2 rfl 18 rfl ?_
    refine j_iconst C dX7_entry_18 (0 : Int32) (by decide) 19 rfl ?_
    refine j_bipush C dX7_entry_19 (9 : Int32) (by decide) 21 rfl ?_
    obtain ⟨q5, e6, h⟩ := ob_some h
    refine j_callS C (ct_X7_in (eL E) G  e6) vk_X7_in kw5_2 rfl ⟨Nat.le_of_ble_eq_true rfl, Nat.le_of_ble_eq_true rfl, rfl, rfl⟩ ⟨Nat.zero_le _, Nat.zero_le _⟩ (rest := [.ref (gA G 82)]) rfl (Nat.le_of_ble_eq_true rfl) dX7_entry_21 (st1 := [.int q5.2, .ref (gA G 82)]) rfl 24 rfl ?_
    refine j_if_ne C dX7_entry_24 31 (by decide) 27 rfl (fun c => ?_) (fun c => ?_)
    · have h := it_f c h
      refine j_iconst C dX7_entry_31 (0 : Int32) (by decide) 32 rfl ?_
      obtain ⟨q7, e8, h⟩ := ob_some h
      refine j_callV C (ct_X7_holds (eL E) G  e8) sh82 foX7 rfl vk_X7_holds kw5_9 rfl ⟨Nat.le_of_ble_eq_true rfl, Nat.le_of_ble_eq_true rfl, rfl, rfl⟩ ⟨Nat.zero_le _, Nat.zero_le _⟩ (rest := []) rfl (Nat.le_of_ble_eq_true rfl) dX7_entry_32 (st1 := [.int q7.2]) rfl 35 rfl ?_
      refine j_if_eq C dX7_entry_35 47 (by decide) 38 rfl (fun c => ?_) (fun c => ?_)
      · have h := it_t c h
        refine j_iconst C dX7_entry_47 (0 : Int32) (by decide) 48 rfl ?_
        exact j_iret C F dX7_entry_48 h
      · have h := it_f c h
        refine j_aload_n C dX7_entry_38 rfl 0 rfl 39 rfl ?_
        refine j_iload_n C dX7_entry_39 rfl 1 rfl 40 rfl ?_
        refine j_iload_n C dX7_entry_40 rfl 2 rfl 41 rfl ?_
        obtain ⟨q9, e10, h⟩ := ob_some h
        refine j_callV C (ct_X7_ofEntry (eL E) G  e10) sh82 foX7 rfl vk_X7_ofEntry kw5_151 rfl ⟨Nat.le_of_ble_eq_true rfl, Nat.le_of_ble_eq_true rfl, rfl, rfl⟩ ⟨Nat.zero_le _, Nat.zero_le _⟩ (rest := []) rfl (Nat.le_of_ble_eq_true rfl) dX7_entry_41 (st1 := [.int q9.2]) rfl 44 rfl ?_
        refine j_goto C dX7_entry_44 48 (by decide) ?_
        exact j_iret C F dX7_entry_48 h
    · have h := it_t c h
      refine j_iconst C dX7_entry_27 (2 : Int32) (by decide) 28 rfl ?_
      refine j_goto C dX7_entry_28 32 (by decide) ?_
      obtain ⟨q11, e12, h⟩ := ob_some h
      refine j_callV C (ct_X7_holds (eL E) G  e12) sh82 foX7 rfl vk_X7_holds kw5_9 rfl ⟨Nat.le_of_ble_eq_true rfl, Nat.le_of_ble_eq_true rfl, rfl, rfl⟩ ⟨Nat.zero_le _, Nat.zero_le _⟩ (rest := []) rfl (Nat.le_of_ble_eq_true rfl) dX7_entry_32 (st1 := [.int q11.2]) rfl 35 rfl ?_
      refine j_if_eq C dX7_entry_35 47 (by decide) 38 rfl (fun c => ?_) (fun c => ?_)
      · have h := it_t c h
        refine j_iconst C dX7_entry_47 (0 : Int32) (by decide) 48 rfl ?_
        exact j_iret C F dX7_entry_48 h
      · have h := it_f c h
        refine j_aload_n C dX7_entry_38 rfl 0 rfl 39 rfl ?_
        refine j_iload_n C dX7_entry_39 rfl 1 rfl 40 rfl ?_
        refine j_iload_n C dX7_entry_40 rfl 2 rfl 41 rfl ?_
        obtain ⟨q13, e14, h⟩ := ob_some h
        refine j_callV C (ct_X7_ofEntry (eL E) G  e14) sh82 foX7 rfl vk_X7_ofEntry kw5_151 rfl ⟨Nat.le_of_ble_eq_true rfl, Nat.le_of_ble_eq_true rfl, rfl, rfl⟩ ⟨Nat.zero_le _, Nat.zero_le _⟩ (rest := []) rfl (Nat.le_of_ble_eq_true rfl) dX7_entry_41 (st1 := [.int q13.2]) rfl 44 rfl ?_
        refine j_goto C dX7_entry_44 48 (by decide) ?_
        exact j_iret C F dX7_entry_48 h
  · have h := it_t c h
    refine j_iconst C dX7_entry_13 (1 : Int32) (by decide) 14 rfl ?_
    refine j_goto C dX7_entry_14 32 (by decide) ?_
    obtain ⟨q15, e16, h⟩ := ob_some h
    refine j_callV C (ct_X7_holds (eL E) G  e16) sh82 foX7 rfl vk_X7_holds kw5_9 rfl ⟨Nat.le_of_ble_eq_true rfl, Nat.le_of_ble_eq_true rfl, rfl, rfl⟩ ⟨Nat.zero_le _, Nat.zero_le _⟩ (rest := []) rfl (Nat.le_of_ble_eq_true rfl) dX7_entry_32 (st1 := [.int q15.2]) rfl 35 rfl ?_
    refine j_if_eq C dX7_entry_35 47 (by decide) 38 rfl (fun c => ?_) (fun c => ?_)
    · have h := it_t c h
      refine j_iconst C dX7_entry_47 (0 : Int32) (by decide) 48 rfl ?_
      exact j_iret C F dX7_entry_48 h
    · have h := it_f c h
      refine j_aload_n C dX7_entry_38 rfl 0 rfl 39 rfl ?_
      refine j_iload_n C dX7_entry_39 rfl 1 rfl 40 rfl ?_
      refine j_iload_n C dX7_entry_40 rfl 2 rfl 41 rfl ?_
      obtain ⟨q17, e18, h⟩ := ob_some h
      refine j_callV C (ct_X7_ofEntry (eL E) G  e18) sh82 foX7 rfl vk_X7_ofEntry kw5_151 rfl ⟨Nat.le_of_ble_eq_true rfl, Nat.le_of_ble_eq_true rfl, rfl, rfl⟩ ⟨Nat.zero_le _, Nat.zero_le _⟩ (rest := []) rfl (Nat.le_of_ble_eq_true rfl) dX7_entry_41 (st1 := [.int q17.2]) rfl 44 rfl ?_
      refine j_goto C dX7_entry_44 48 (by decide) ?_
      exact j_iret C F dX7_entry_48 h

-- ===== StenoChordsModel.counted(I)I
theorem vk_X7_counted : VK yX7_counted cX7_counted 2 (some .int) 1 := ⟨kw5_170, kw5_169, kwS_46, kw1_9, by decide +kernel⟩
def X7_counted (σ : Mem) (p1 : Int32) : Option (Mem × Int32) :=
  (if p1 = (0 : Int32) then some (σ, (σ.1 83 0)) else (if p1 = (1 : Int32) then some (σ, (σ.1 82 14)) else (if p1 = (2 : Int32) then some (σ, (σ.1 82 14)) else (if p1 = (3 : Int32) then ((X7_standing σ (-1 : Int32)).bind fun q1 => some (q1.1, q1.2)) else (if p1 = (4 : Int32) then some (σ, (σ.1 83 1)) else (if p1 = (5 : Int32) then (if inA (((4 : Int32) + p1) - (5 : Int32)) 1888 then some (σ, (σ.1 83 (((4 : Int32) + p1) - (5 : Int32)).toNatClampNeg)) else none) else (if p1 = (6 : Int32) then (if inA (((4 : Int32) + p1) - (5 : Int32)) 1888 then some (σ, (σ.1 83 (((4 : Int32) + p1) - (5 : Int32)).toNatClampNeg)) else none) else (if p1 = (7 : Int32) then (if inA (((4 : Int32) + p1) - (5 : Int32)) 1888 then some (σ, (σ.1 83 (((4 : Int32) + p1) - (5 : Int32)).toNatClampNeg)) else none) else (if p1 = (8 : Int32) then (if inA (((4 : Int32) + p1) - (5 : Int32)) 1888 then some (σ, (σ.1 83 (((4 : Int32) + p1) - (5 : Int32)).toNatClampNeg)) else none) else (if p1 = (9 : Int32) then some (σ, (σ.1 82 2)) else (if inA (((4 : Int32) + p1) - (5 : Int32)) 1888 then some (σ, (σ.1 83 (((4 : Int32) + p1) - (5 : Int32)).toNatClampNeg)) else none)))))))))))
set_option maxHeartbeats 4000000 in
set_option maxRecDepth 100000 in
theorem ct_X7_counted (l : Launch) (G : Gw)  {σ : Mem} {p1 : Int32} {out : Mem × Int32} (h : X7_counted σ p1 = some out) : Ct l G yX7_counted cX7_counted 2 (some .int) { frames := 1, cells := 0, slots := 0, locals := 23 } [.ref (gA G 82), .int p1] σ out.1 (some (.int out.2)) := by
  refine Ct.of (by decide +kernel) (Nat.le_of_ble_eq_true rfl) (fun E hE C F => ?_)
  subst hE
  have C : Cx E G RX7 cX7_counted 2 { frames := 1, cells := 0, slots := 0, locals := 23 } := C
  unfold X7_counted at h
  show J E G 2 0 0 σ 0 [(0, .ref (gA G 82)), (1, .int p1)] []
  refine j_iload_n C dX7_counted_0 rfl 1 rfl 1 rfl ?_
  by_cases c0 : p1 = (0 : Int32)
  · have h := it_t c0 h
    refine j_tableIn C dX7_counted_1 (by rw [c0]; decide) (by rw [c0]; decide) (off := 55) (by rw [c0]; rfl) 56 (by decide) ?_
    refine j_aload_n C dX7_counted_56 rfl 0 rfl 57 rfl ?_
    refine j_get C foX7 sh82 1 (by decide) 85 rfl kw4_183 rfl dX7_counted_57 (.ref (gA G 83)) (fv_r rfl) 60 rfl ?_
    refine j_iconst C dX7_counted_60 (0 : Int32) (by decide) 61 rfl ?_
    refine j_iald C sh83 (by decide) dX7_counted_61 0 rfl 62 rfl ?_
    exact j_iret C F dX7_counted_62 h
  have h := it_f c0 h
  by_cases c1 : p1 = (1 : Int32)
  · have h := it_t c1 h
    refine j_tableIn C dX7_counted_1 (by rw [c1]; decide) (by rw [c1]; decide) (off := 62) (by rw [c1]; rfl) 63 (by decide) ?_
    refine j_aload_n C dX7_counted_63 rfl 0 rfl 64 rfl ?_
    refine j_get C foX7 sh82 14 (by decide) 0 rfl kw4_196 rfl dX7_counted_64 (.int (σ.1 82 14)) rfl 67 rfl ?_
    exact j_iret C F dX7_counted_67 h
  have h := it_f c1 h
  by_cases c2 : p1 = (2 : Int32)
  · have h := it_t c2 h
    refine j_tableIn C dX7_counted_1 (by rw [c2]; decide) (by rw [c2]; decide) (off := 62) (by rw [c2]; rfl) 63 (by decide) ?_
    refine j_aload_n C dX7_counted_63 rfl 0 rfl 64 rfl ?_
    refine j_get C foX7 sh82 14 (by decide) 0 rfl kw4_196 rfl dX7_counted_64 (.int (σ.1 82 14)) rfl 67 rfl ?_
    exact j_iret C F dX7_counted_67 h
  have h := it_f c2 h
  by_cases c3 : p1 = (3 : Int32)
  · have h := it_t c3 h
    refine j_tableIn C dX7_counted_1 (by rw [c3]; decide) (by rw [c3]; decide) (off := 67) (by rw [c3]; rfl) 68 (by decide) ?_
    refine j_aload_n C dX7_counted_68 rfl 0 rfl 69 rfl ?_
    refine j_iconst C dX7_counted_69 (-1 : Int32) (by decide) 70 rfl ?_
    obtain ⟨q1, e2, h⟩ := ob_some h
    refine j_callV C (ct_X7_standing (eL E) G  e2) sh82 foX7 rfl vk_X7_standing kw5_155 rfl ⟨Nat.le_of_ble_eq_true rfl, Nat.le_of_ble_eq_true rfl, rfl, rfl⟩ ⟨Nat.zero_le _, Nat.zero_le _⟩ (rest := []) rfl (Nat.le_of_ble_eq_true rfl) dX7_counted_70 (st1 := [.int q1.2]) rfl 73 rfl ?_
    exact j_iret C F dX7_counted_73 h
  have h := it_f c3 h
  by_cases c4 : p1 = (4 : Int32)
  · have h := it_t c4 h
    refine j_tableIn C dX7_counted_1 (by rw [c4]; decide) (by rw [c4]; decide) (off := 73) (by rw [c4]; rfl) 74 (by decide) ?_
    refine j_aload_n C dX7_counted_74 rfl 0 rfl 75 rfl ?_
    refine j_get C foX7 sh82 1 (by decide) 85 rfl kw4_183 rfl dX7_counted_75 (.ref (gA G 83)) (fv_r rfl) 78 rfl ?_
    refine j_iconst C dX7_counted_78 (1 : Int32) (by decide) 79 rfl ?_
    refine j_iald C sh83 (by decide) dX7_counted_79 1 rfl 80 rfl ?_
    exact j_iret C F dX7_counted_80 h
  have h := it_f c4 h
  by_cases c5 : p1 = (5 : Int32)
  · have h := it_t c5 h
    refine j_tableIn C dX7_counted_1 (by rw [c5]; decide) (by rw [c5]; decide) (off := 85) (by rw [c5]; rfl) 86 (by decide) ?_
    refine j_aload_n C dX7_counted_86 rfl 0 rfl 87 rfl ?_
    refine j_get C foX7 sh82 1 (by decide) 85 rfl kw4_183 rfl dX7_counted_87 (.ref (gA G 83)) (fv_r rfl) 90 rfl ?_
    refine j_iconst C dX7_counted_90 (4 : Int32) (by decide) 91 rfl ?_
    refine j_iload_n C dX7_counted_91 rfl 1 rfl 92 rfl ?_
    refine j_iadd C dX7_counted_92 93 rfl ?_
    refine j_iconst C dX7_counted_93 (5 : Int32) (by decide) 94 rfl ?_
    refine j_isub C dX7_counted_94 95 rfl ?_
    obtain ⟨hc, h⟩ := if_some h
    refine j_iald C sh83 hc dX7_counted_95 (((4 : Int32) + p1) - (5 : Int32)).toNatClampNeg rfl 96 rfl ?_
    exact j_iret C F dX7_counted_96 h
  have h := it_f c5 h
  by_cases c6 : p1 = (6 : Int32)
  · have h := it_t c6 h
    refine j_tableIn C dX7_counted_1 (by rw [c6]; decide) (by rw [c6]; decide) (off := 85) (by rw [c6]; rfl) 86 (by decide) ?_
    refine j_aload_n C dX7_counted_86 rfl 0 rfl 87 rfl ?_
    refine j_get C foX7 sh82 1 (by decide) 85 rfl kw4_183 rfl dX7_counted_87 (.ref (gA G 83)) (fv_r rfl) 90 rfl ?_
    refine j_iconst C dX7_counted_90 (4 : Int32) (by decide) 91 rfl ?_
    refine j_iload_n C dX7_counted_91 rfl 1 rfl 92 rfl ?_
    refine j_iadd C dX7_counted_92 93 rfl ?_
    refine j_iconst C dX7_counted_93 (5 : Int32) (by decide) 94 rfl ?_
    refine j_isub C dX7_counted_94 95 rfl ?_
    obtain ⟨hc, h⟩ := if_some h
    refine j_iald C sh83 hc dX7_counted_95 (((4 : Int32) + p1) - (5 : Int32)).toNatClampNeg rfl 96 rfl ?_
    exact j_iret C F dX7_counted_96 h
  have h := it_f c6 h
  by_cases c7 : p1 = (7 : Int32)
  · have h := it_t c7 h
    refine j_tableIn C dX7_counted_1 (by rw [c7]; decide) (by rw [c7]; decide) (off := 85) (by rw [c7]; rfl) 86 (by decide) ?_
    refine j_aload_n C dX7_counted_86 rfl 0 rfl 87 rfl ?_
    refine j_get C foX7 sh82 1 (by decide) 85 rfl kw4_183 rfl dX7_counted_87 (.ref (gA G 83)) (fv_r rfl) 90 rfl ?_
    refine j_iconst C dX7_counted_90 (4 : Int32) (by decide) 91 rfl ?_
    refine j_iload_n C dX7_counted_91 rfl 1 rfl 92 rfl ?_
    refine j_iadd C dX7_counted_92 93 rfl ?_
    refine j_iconst C dX7_counted_93 (5 : Int32) (by decide) 94 rfl ?_
    refine j_isub C dX7_counted_94 95 rfl ?_
    obtain ⟨hc, h⟩ := if_some h
    refine j_iald C sh83 hc dX7_counted_95 (((4 : Int32) + p1) - (5 : Int32)).toNatClampNeg rfl 96 rfl ?_
    exact j_iret C F dX7_counted_96 h
  have h := it_f c7 h
  by_cases c8 : p1 = (8 : Int32)
  · have h := it_t c8 h
    refine j_tableIn C dX7_counted_1 (by rw [c8]; decide) (by rw [c8]; decide) (off := 85) (by rw [c8]; rfl) 86 (by decide) ?_
    refine j_aload_n C dX7_counted_86 rfl 0 rfl 87 rfl ?_
    refine j_get C foX7 sh82 1 (by decide) 85 rfl kw4_183 rfl dX7_counted_87 (.ref (gA G 83)) (fv_r rfl) 90 rfl ?_
    refine j_iconst C dX7_counted_90 (4 : Int32) (by decide) 91 rfl ?_
    refine j_iload_n C dX7_counted_91 rfl 1 rfl 92 rfl ?_
    refine j_iadd C dX7_counted_92 93 rfl ?_
    refine j_iconst C dX7_counted_93 (5 : Int32) (by decide) 94 rfl ?_
    refine j_isub C dX7_counted_94 95 rfl ?_
    obtain ⟨hc, h⟩ := if_some h
    refine j_iald C sh83 hc dX7_counted_95 (((4 : Int32) + p1) - (5 : Int32)).toNatClampNeg rfl 96 rfl ?_
    exact j_iret C F dX7_counted_96 h
  have h := it_f c8 h
  by_cases c9 : p1 = (9 : Int32)
  · have h := it_t c9 h
    refine j_tableIn C dX7_counted_1 (by rw [c9]; decide) (by rw [c9]; decide) (off := 80) (by rw [c9]; rfl) 81 (by decide) ?_
    refine j_aload_n C dX7_counted_81 rfl 0 rfl 82 rfl ?_
    refine j_get C foX7 sh82 2 (by decide) 0 rfl kw4_184 rfl dX7_counted_82 (.int (σ.1 82 2)) rfl 85 rfl ?_
    exact j_iret C F dX7_counted_85 h
  have h := it_f c9 h
  refine j_tableOut C dX7_counted_1 (by have n0 := tsw_ne (z := 0) (by decide) c0; have n1 := tsw_ne (z := 1) (by decide) c1; have n2 := tsw_ne (z := 2) (by decide) c2; have n3 := tsw_ne (z := 3) (by decide) c3; have n4 := tsw_ne (z := 4) (by decide) c4; have n5 := tsw_ne (z := 5) (by decide) c5; have n6 := tsw_ne (z := 6) (by decide) c6; have n7 := tsw_ne (z := 7) (by decide) c7; have n8 := tsw_ne (z := 8) (by decide) c8; have n9 := tsw_ne (z := 9) (by decide) c9; omega) 86 (by decide) ?_
  refine j_aload_n C dX7_counted_86 rfl 0 rfl 87 rfl ?_
  refine j_get C foX7 sh82 1 (by decide) 85 rfl kw4_183 rfl dX7_counted_87 (.ref (gA G 83)) (fv_r rfl) 90 rfl ?_
  refine j_iconst C dX7_counted_90 (4 : Int32) (by decide) 91 rfl ?_
  refine j_iload_n C dX7_counted_91 rfl 1 rfl 92 rfl ?_
  refine j_iadd C dX7_counted_92 93 rfl ?_
  refine j_iconst C dX7_counted_93 (5 : Int32) (by decide) 94 rfl ?_
  refine j_isub C dX7_counted_94 95 rfl ?_
  obtain ⟨hc, h⟩ := if_some h
  refine j_iald C sh83 hc dX7_counted_95 (((4 : Int32) + p1) - (5 : Int32)).toNatClampNeg rfl 96 rfl ?_
  exact j_iret C F dX7_counted_96 h

-- ===== StenoChordsModel.count(I)I
theorem vk_X7_count : VK yX7_count cX7_count 2 (some .int) 1 := ⟨kw5_166, kw5_164, kw5_165, kw1_9, by decide +kernel⟩
def X7_count (σ : Mem) (p1 : Int32) : Option (Mem × Int32) :=
  ((X7_readsPaper σ).bind fun q1 => ((X7_in q1.1 p1 (0 : Int32) (9 : Int32)).bind fun q3 => (if q3.2 = 0 then ((X7_holds q3.1 (1 : Int32)).bind fun q5 => (if q5.2 = 0 then some (q5.1, (0 : Int32)) else ((X7_counted q5.1 p1).bind fun q7 => some (q7.1, q7.2)))) else ((X7_holds q3.1 (0 : Int32)).bind fun q9 => (if q9.2 = 0 then some (q9.1, (0 : Int32)) else ((X7_counted q9.1 p1).bind fun q11 => some (q11.1, q11.2)))))))
set_option maxHeartbeats 4000000 in
set_option maxRecDepth 100000 in
theorem ct_X7_count (l : Launch) (G : Gw)  {σ : Mem} {p1 : Int32} {out : Mem × Int32} (h : X7_count σ p1 = some out) : Ct l G yX7_count cX7_count 2 (some .int) { frames := 6, cells := 0, slots := 0, locals := 137 } [.ref (gA G 82), .int p1] σ out.1 (some (.int out.2)) := by
  refine Ct.of (by decide +kernel) (Nat.le_of_ble_eq_true rfl) (fun E hE C F => ?_)
  subst hE
  have C : Cx E G RX7 cX7_count 2 { frames := 6, cells := 0, slots := 0, locals := 137 } := C
  unfold X7_count at h
  show J E G 2 0 0 σ 0 [(0, .ref (gA G 82)), (1, .int p1)] []
  refine j_aload_n C dX7_count_0 rfl 0 rfl 1 rfl ?_
  obtain ⟨q1, e2, h⟩ := ob_some h
  refine j_callV C (ct_X7_readsPaper (eL E) G  e2) sh82 foX7 rfl vk_X7_readsPaper kw5_28 rfl ⟨Nat.le_of_ble_eq_true rfl, Nat.le_of_ble_eq_true rfl, rfl, rfl⟩ ⟨Nat.zero_le _, Nat.zero_le _⟩ (rest := []) rfl (Nat.le_of_ble_eq_true rfl) dX7_count_1 (st1 := []) rfl 4 rfl ?_
  refine j_aload_n C dX7_count_4 rfl 0 rfl 5 rfl ?_
  refine j_iload_n C dX7_count_5 rfl 1 rfl 6 rfl ?_
  refine j_iconst C dX7_count_6 (0 : Int32) (by decide) 7 rfl ?_
  refine j_bipush C dX7_count_7 (9 : Int32) (by decide) 9 rfl ?_
  obtain ⟨q3, e4, h⟩ := ob_some h
  refine j_callS C (ct_X7_in (eL E) G  e4) vk_X7_in kw5_2 rfl ⟨Nat.le_of_ble_eq_true rfl, Nat.le_of_ble_eq_true rfl, rfl, rfl⟩ ⟨Nat.zero_le _, Nat.zero_le _⟩ (rest := [.ref (gA G 82)]) rfl (Nat.le_of_ble_eq_true rfl) dX7_count_9 (st1 := [.int q3.2, .ref (gA G 82)]) rfl 12 rfl ?_
  refine j_if_eq C dX7_count_12 19 (by decide) 15 rfl (fun c => ?_) (fun c => ?_)
  · have h := it_t c h
    refine j_iconst C dX7_count_19 (1 : Int32) (by decide) 20 rfl ?_
    obtain ⟨q5, e6, h⟩ := ob_some h
    refine j_callV C (ct_X7_holds (eL E) G  e6) sh82 foX7 rfl vk_X7_holds kw5_9 rfl ⟨Nat.le_of_ble_eq_true rfl, Nat.le_of_ble_eq_true rfl, rfl, rfl⟩ ⟨Nat.zero_le _, Nat.zero_le _⟩ (rest := []) rfl (Nat.le_of_ble_eq_true rfl) dX7_count_20 (st1 := [.int q5.2]) rfl 23 rfl ?_
    refine j_if_eq C dX7_count_23 34 (by decide) 26 rfl (fun c => ?_) (fun c => ?_)
    · have h := it_t c h
      refine j_iconst C dX7_count_34 (0 : Int32) (by decide) 35 rfl ?_
      exact j_iret C F dX7_count_35 h
    · have h := it_f c h
      refine j_aload_n C dX7_count_26 rfl 0 rfl 27 rfl ?_
      refine j_iload_n C dX7_count_27 rfl 1 rfl 28 rfl ?_
      obtain ⟨q7, e8, h⟩ := ob_some h
      refine j_callV C (ct_X7_counted (eL E) G  e8) sh82 foX7 rfl vk_X7_counted kw5_167 rfl ⟨Nat.le_of_ble_eq_true rfl, Nat.le_of_ble_eq_true rfl, rfl, rfl⟩ ⟨Nat.zero_le _, Nat.zero_le _⟩ (rest := []) rfl (Nat.le_of_ble_eq_true rfl) dX7_count_28 (st1 := [.int q7.2]) rfl 31 rfl ?_
      refine j_goto C dX7_count_31 35 (by decide) ?_
      exact j_iret C F dX7_count_35 h
  · have h := it_f c h
    refine j_iconst C dX7_count_15 (0 : Int32) (by decide) 16 rfl ?_
    refine j_goto C dX7_count_16 20 (by decide) ?_
    obtain ⟨q9, e10, h⟩ := ob_some h
    refine j_callV C (ct_X7_holds (eL E) G  e10) sh82 foX7 rfl vk_X7_holds kw5_9 rfl ⟨Nat.le_of_ble_eq_true rfl, Nat.le_of_ble_eq_true rfl, rfl, rfl⟩ ⟨Nat.zero_le _, Nat.zero_le _⟩ (rest := []) rfl (Nat.le_of_ble_eq_true rfl) dX7_count_20 (st1 := [.int q9.2]) rfl 23 rfl ?_
    refine j_if_eq C dX7_count_23 34 (by decide) 26 rfl (fun c => ?_) (fun c => ?_)
    · have h := it_t c h
      refine j_iconst C dX7_count_34 (0 : Int32) (by decide) 35 rfl ?_
      exact j_iret C F dX7_count_35 h
    · have h := it_f c h
      refine j_aload_n C dX7_count_26 rfl 0 rfl 27 rfl ?_
      refine j_iload_n C dX7_count_27 rfl 1 rfl 28 rfl ?_
      obtain ⟨q11, e12, h⟩ := ob_some h
      refine j_callV C (ct_X7_counted (eL E) G  e12) sh82 foX7 rfl vk_X7_counted kw5_167 rfl ⟨Nat.le_of_ble_eq_true rfl, Nat.le_of_ble_eq_true rfl, rfl, rfl⟩ ⟨Nat.zero_le _, Nat.zero_le _⟩ (rest := []) rfl (Nat.le_of_ble_eq_true rfl) dX7_count_28 (st1 := [.int q11.2]) rfl 31 rfl ?_
      refine j_goto C dX7_count_31 35 (by decide) ?_
      exact j_iret C F dX7_count_35 h

-- ===== StenoChordsModel.setting(I)I
theorem vk_X7_setting : VK yX7_setting cX7_setting 2 (some .int) 1 := ⟨kw5_174, kw5_172, kw5_173, kw1_9, by decide +kernel⟩
def X7_setting (σ : Mem) (p1 : Int32) : Option (Mem × Int32) :=
  ((X7_in σ p1 (0 : Int32) (1 : Int32)).bind fun q1 => (if q1.2 = 0 then ((X7_holds q1.1 (1 : Int32)).bind fun q3 => (if q3.2 = 0 then some (q3.1, (0 : Int32)) else (if inA ((2 : Int32) + p1) 1888 then some (q3.1, (q3.1.1 83 ((2 : Int32) + p1).toNatClampNeg)) else none))) else ((X7_holds q1.1 (0 : Int32)).bind fun q5 => (if q5.2 = 0 then some (q5.1, (0 : Int32)) else (if inA ((2 : Int32) + p1) 1888 then some (q5.1, (q5.1.1 83 ((2 : Int32) + p1).toNatClampNeg)) else none)))))
set_option maxHeartbeats 4000000 in
set_option maxRecDepth 100000 in
theorem ct_X7_setting (l : Launch) (G : Gw)  {σ : Mem} {p1 : Int32} {out : Mem × Int32} (h : X7_setting σ p1 = some out) : Ct l G yX7_setting cX7_setting 2 (some .int) { frames := 1, cells := 0, slots := 0, locals := 22 } [.ref (gA G 82), .int p1] σ out.1 (some (.int out.2)) := by
  refine Ct.of (by decide +kernel) (Nat.le_of_ble_eq_true rfl) (fun E hE C F => ?_)
  subst hE
  have C : Cx E G RX7 cX7_setting 2 { frames := 1, cells := 0, slots := 0, locals := 22 } := C
  unfold X7_setting at h
  show J E G 2 0 0 σ 0 [(0, .ref (gA G 82)), (1, .int p1)] []
  refine j_aload_n C dX7_setting_0 rfl 0 rfl 1 rfl ?_
  refine j_iload_n C dX7_setting_1 rfl 1 rfl 2 rfl ?_
  refine j_iconst C dX7_setting_2 (0 : Int32) (by decide) 3 rfl ?_
  refine j_iconst C dX7_setting_3 (1 : Int32) (by decide) 4 rfl ?_
  obtain ⟨q1, e2, h⟩ := ob_some h
  refine j_callS C (ct_X7_in (eL E) G  e2) vk_X7_in kw5_2 rfl ⟨Nat.le_of_ble_eq_true rfl, Nat.le_of_ble_eq_true rfl, rfl, rfl⟩ ⟨Nat.zero_le _, Nat.zero_le _⟩ (rest := [.ref (gA G 82)]) rfl (Nat.le_of_ble_eq_true rfl) dX7_setting_4 (st1 := [.int q1.2, .ref (gA G 82)]) rfl 7 rfl ?_
  refine j_if_eq C dX7_setting_7 14 (by decide) 10 rfl (fun c => ?_) (fun c => ?_)
  · have h := it_t c h
    refine j_iconst C dX7_setting_14 (1 : Int32) (by decide) 15 rfl ?_
    obtain ⟨q3, e4, h⟩ := ob_some h
    refine j_callV C (ct_X7_holds (eL E) G  e4) sh82 foX7 rfl vk_X7_holds kw5_9 rfl ⟨Nat.le_of_ble_eq_true rfl, Nat.le_of_ble_eq_true rfl, rfl, rfl⟩ ⟨Nat.zero_le _, Nat.zero_le _⟩ (rest := []) rfl (Nat.le_of_ble_eq_true rfl) dX7_setting_15 (st1 := [.int q3.2]) rfl 18 rfl ?_
    refine j_if_eq C dX7_setting_18 32 (by decide) 21 rfl (fun c => ?_) (fun c => ?_)
    · have h := it_t c h
      refine j_iconst C dX7_setting_32 (0 : Int32) (by decide) 33 rfl ?_
      exact j_iret C F dX7_setting_33 h
    · have h := it_f c h
      refine j_aload_n C dX7_setting_21 rfl 0 rfl 22 rfl ?_
      refine j_get C foX7 sh82 1 (by decide) 85 rfl kw4_183 rfl dX7_setting_22 (.ref (gA G 83)) (fv_r rfl) 25 rfl ?_
      refine j_iconst C dX7_setting_25 (2 : Int32) (by decide) 26 rfl ?_
      refine j_iload_n C dX7_setting_26 rfl 1 rfl 27 rfl ?_
      refine j_iadd C dX7_setting_27 28 rfl ?_
      obtain ⟨hc, h⟩ := if_some h
      refine j_iald C sh83 hc dX7_setting_28 ((2 : Int32) + p1).toNatClampNeg rfl 29 rfl ?_
      refine j_goto C dX7_setting_29 33 (by decide) ?_
      exact j_iret C F dX7_setting_33 h
  · have h := it_f c h
    refine j_iconst C dX7_setting_10 (0 : Int32) (by decide) 11 rfl ?_
    refine j_goto C dX7_setting_11 15 (by decide) ?_
    obtain ⟨q5, e6, h⟩ := ob_some h
    refine j_callV C (ct_X7_holds (eL E) G  e6) sh82 foX7 rfl vk_X7_holds kw5_9 rfl ⟨Nat.le_of_ble_eq_true rfl, Nat.le_of_ble_eq_true rfl, rfl, rfl⟩ ⟨Nat.zero_le _, Nat.zero_le _⟩ (rest := []) rfl (Nat.le_of_ble_eq_true rfl) dX7_setting_15 (st1 := [.int q5.2]) rfl 18 rfl ?_
    refine j_if_eq C dX7_setting_18 32 (by decide) 21 rfl (fun c => ?_) (fun c => ?_)
    · have h := it_t c h
      refine j_iconst C dX7_setting_32 (0 : Int32) (by decide) 33 rfl ?_
      exact j_iret C F dX7_setting_33 h
    · have h := it_f c h
      refine j_aload_n C dX7_setting_21 rfl 0 rfl 22 rfl ?_
      refine j_get C foX7 sh82 1 (by decide) 85 rfl kw4_183 rfl dX7_setting_22 (.ref (gA G 83)) (fv_r rfl) 25 rfl ?_
      refine j_iconst C dX7_setting_25 (2 : Int32) (by decide) 26 rfl ?_
      refine j_iload_n C dX7_setting_26 rfl 1 rfl 27 rfl ?_
      refine j_iadd C dX7_setting_27 28 rfl ?_
      obtain ⟨hc, h⟩ := if_some h
      refine j_iald C sh83 hc dX7_setting_28 ((2 : Int32) + p1).toNatClampNeg rfl 29 rfl ?_
      refine j_goto C dX7_setting_29 33 (by decide) ?_
      exact j_iret C F dX7_setting_33 h

-- ===== StenoChordsModel.struck(II)I
theorem vk_X7_struck : VK yX7_struck cX7_struck 3 (some .int) 2 := ⟨kw5_182, kw5_181, kwS_47, kw1_9, by decide +kernel⟩
def X7_struck (σ : Mem) (p1 : Int32) (p2 : Int32) : Option (Mem × Int32) :=
  ((X7_readsPaper σ).bind fun q1 => (if inA (q1.1.1 82 10) 61 then ((some (setI q1.1 86 (q1.1.1 82 10).toNatClampNeg p1)).bind fun σ3 => ((some (setI σ3 82 10 ((σ3.1 82 10) + (1 : Int32)))).bind fun σ5 => ((X7_reads σ5).bind fun q7 => (if p2 = 0 then ((X7_wordOf q7.1 ((q7.1.1 82 14) - (1 : Int32))).bind fun q9 => some (q9.1, q9.2)) else (if p2 = (1 : Int32) then (if inA ((q7.1.1 82 14) - (1 : Int32)) 61 then some (q7.1, (q7.1.1 88 ((q7.1.1 82 14) - (1 : Int32)).toNatClampNeg)) else none) else some (q7.1, (q7.1.1 82 14))))))) else none))
set_option maxHeartbeats 4000000 in
set_option maxRecDepth 100000 in
theorem ct_X7_struck (l : Launch) (G : Gw)  {σ : Mem} {p1 : Int32} {p2 : Int32} {out : Mem × Int32} (h : X7_struck σ p1 p2 = some out) : Ct l G yX7_struck cX7_struck 3 (some .int) { frames := 6, cells := 0, slots := 0, locals := 137 } [.ref (gA G 82), .int p1, .int p2] σ out.1 (some (.int out.2)) := by
  refine Ct.of (by decide +kernel) (Nat.le_of_ble_eq_true rfl) (fun E hE C F => ?_)
  subst hE
  have C : Cx E G RX7 cX7_struck 3 { frames := 6, cells := 0, slots := 0, locals := 137 } := C
  unfold X7_struck at h
  show J E G 3 0 0 σ 0 [(0, .ref (gA G 82)), (1, .int p1), (2, .int p2)] []
  refine j_aload_n C dX7_struck_0 rfl 0 rfl 1 rfl ?_
  obtain ⟨q1, e2, h⟩ := ob_some h
  refine j_callV C (ct_X7_readsPaper (eL E) G  e2) sh82 foX7 rfl vk_X7_readsPaper kw5_28 rfl ⟨Nat.le_of_ble_eq_true rfl, Nat.le_of_ble_eq_true rfl, rfl, rfl⟩ ⟨Nat.zero_le _, Nat.zero_le _⟩ (rest := []) rfl (Nat.le_of_ble_eq_true rfl) dX7_struck_1 (st1 := []) rfl 4 rfl ?_
  refine j_aload_n C dX7_struck_4 rfl 0 rfl 5 rfl ?_
  refine j_get C foX7 sh82 9 (by decide) 88 rfl kw4_191 rfl dX7_struck_5 (.ref (gA G 86)) (fv_r rfl) 8 rfl ?_
  refine j_aload_n C dX7_struck_8 rfl 0 rfl 9 rfl ?_
  refine j_get C foX7 sh82 10 (by decide) 0 rfl kw4_192 rfl dX7_struck_9 (.int (q1.1.1 82 10)) rfl 12 rfl ?_
  refine j_iload_n C dX7_struck_12 rfl 1 rfl 13 rfl ?_
  obtain ⟨hc, h⟩ := if_some h
  obtain ⟨σ3, e4, h⟩ := ob_some h
  refine j_iast C sh86 hc dX7_struck_13 (q1.1.1 82 10).toNatClampNeg rfl σ3 (Option.some.inj e4) 14 rfl ?_
  refine j_aload_n C dX7_struck_14 rfl 0 rfl 15 rfl ?_
  refine j_dup C dX7_struck_15 rfl 16 rfl ?_
  refine j_get C foX7 sh82 10 (by decide) 0 rfl kw4_192 rfl dX7_struck_16 (.int (σ3.1 82 10)) rfl 19 rfl ?_
  refine j_iconst C dX7_struck_19 (1 : Int32) (by decide) 20 rfl ?_
  refine j_iadd C dX7_struck_20 21 rfl ?_
  obtain ⟨σ5, e6, h⟩ := ob_some h
  refine j_putI C foX7 sh82 10 (by decide) rfl kw4_192 rfl rfl rfl rfl dX7_struck_21 σ5 (Option.some.inj e6) 24 rfl ?_
  refine j_aload_n C dX7_struck_24 rfl 0 rfl 25 rfl ?_
  obtain ⟨q7, e8, h⟩ := ob_some h
  refine j_callV C (ct_X7_reads (eL E) G  e8) sh82 foX7 rfl vk_X7_reads kw5_32 rfl ⟨Nat.le_of_ble_eq_true rfl, Nat.le_of_ble_eq_true rfl, rfl, rfl⟩ ⟨Nat.zero_le _, Nat.zero_le _⟩ (rest := []) rfl (Nat.le_of_ble_eq_true rfl) dX7_struck_25 (st1 := []) rfl 28 rfl ?_
  refine j_iload_n C dX7_struck_28 rfl 2 rfl 29 rfl ?_
  refine j_if_ne C dX7_struck_29 45 (by decide) 32 rfl (fun c => ?_) (fun c => ?_)
  · have h := it_f c h
    refine j_iload_n C dX7_struck_45 rfl 2 rfl 46 rfl ?_
    refine j_iconst C dX7_struck_46 (1 : Int32) (by decide) 47 rfl ?_
    refine j_icmp_ne C dX7_struck_47 64 (by decide) 50 rfl (fun c => ?_) (fun c => ?_)
    · have h := it_f c h
      refine j_aload_n C dX7_struck_64 rfl 0 rfl 65 rfl ?_
      refine j_get C foX7 sh82 14 (by decide) 0 rfl kw4_196 rfl dX7_struck_65 (.int (q7.1.1 82 14)) rfl 68 rfl ?_
      exact j_iret C F dX7_struck_68 h
    · have h := it_t c h
      refine j_aload_n C dX7_struck_50 rfl 0 rfl 51 rfl ?_
      refine j_get C foX7 sh82 12 (by decide) 90 rfl kw4_194 rfl dX7_struck_51 (.ref (gA G 88)) (fv_r rfl) 54 rfl ?_
      refine j_aload_n C dX7_struck_54 rfl 0 rfl 55 rfl ?_
      refine j_get C foX7 sh82 14 (by decide) 0 rfl kw4_196 rfl dX7_struck_55 (.int (q7.1.1 82 14)) rfl 58 rfl ?_
      refine j_iconst C dX7_struck_58 (1 : Int32) (by decide) 59 rfl ?_
      refine j_isub C dX7_struck_59 60 rfl ?_
      obtain ⟨hc, h⟩ := if_some h
      refine j_iald C sh88 hc dX7_struck_60 ((q7.1.1 82 14) - (1 : Int32)).toNatClampNeg rfl 61 rfl ?_
      refine j_goto C dX7_struck_61 68 (by decide) ?_
      exact j_iret C F dX7_struck_68 h
  · have h := it_t c h
    refine j_aload_n C dX7_struck_32 rfl 0 rfl 33 rfl ?_
    refine j_aload_n C dX7_struck_33 rfl 0 rfl 34 rfl ?_
    refine j_get C foX7 sh82 14 (by decide) 0 rfl kw4_196 rfl dX7_struck_34 (.int (q7.1.1 82 14)) rfl 37 rfl ?_
    refine j_iconst C dX7_struck_37 (1 : Int32) (by decide) 38 rfl ?_
    refine j_isub C dX7_struck_38 39 rfl ?_
    obtain ⟨q9, e10, h⟩ := ob_some h
    refine j_callV C (ct_X7_wordOf (eL E) G  e10) sh82 foX7 rfl vk_X7_wordOf kw5_143 rfl ⟨Nat.le_of_ble_eq_true rfl, Nat.le_of_ble_eq_true rfl, rfl, rfl⟩ ⟨Nat.zero_le _, Nat.zero_le _⟩ (rest := []) rfl (Nat.le_of_ble_eq_true rfl) dX7_struck_39 (st1 := [.int q9.2]) rfl 42 rfl ?_
    refine j_goto C dX7_struck_42 68 (by decide) ?_
    exact j_iret C F dX7_struck_68 h

-- ===== StenoChordsModel.ifStruck(II)I
theorem vk_X7_ifStruck : VK yX7_ifStruck cX7_ifStruck 3 (some .int) 2 := ⟨kw5_178, kw5_176, kw5_177, kw1_9, by decide +kernel⟩
def X7_ifStruck (σ : Mem) (p1 : Int32) (p2 : Int32) : Option (Mem × Int32) :=
  ((X7_in σ p1 (1 : Int32) (1023 : Int32)).bind fun q1 => (if q1.2 = 0 then ((X7_holds q1.1 (1 : Int32)).bind fun q3 => (if q3.2 = 0 then some (q3.1, (0 : Int32)) else ((X7_struck q3.1 p1 p2).bind fun q5 => some (q5.1, q5.2)))) else ((X7_in q1.1 p2 (0 : Int32) (2 : Int32)).bind fun q7 => (if q7.2 = 0 then ((X7_holds q7.1 (1 : Int32)).bind fun q9 => (if q9.2 = 0 then some (q9.1, (0 : Int32)) else ((X7_struck q9.1 p1 p2).bind fun q11 => some (q11.1, q11.2)))) else ((X7_holds q7.1 (0 : Int32)).bind fun q13 => (if q13.2 = 0 then some (q13.1, (0 : Int32)) else ((X7_struck q13.1 p1 p2).bind fun q15 => some (q15.1, q15.2))))))))
set_option maxHeartbeats 4000000 in
set_option maxRecDepth 100000 in
theorem ct_X7_ifStruck (l : Launch) (G : Gw)  {σ : Mem} {p1 : Int32} {p2 : Int32} {out : Mem × Int32} (h : X7_ifStruck σ p1 p2 = some out) : Ct l G yX7_ifStruck cX7_ifStruck 3 (some .int) { frames := 7, cells := 0, slots := 0, locals := 159 } [.ref (gA G 82), .int p1, .int p2] σ out.1 (some (.int out.2)) := by
  refine Ct.of (by decide +kernel) (Nat.le_of_ble_eq_true rfl) (fun E hE C F => ?_)
  subst hE
  have C : Cx E G RX7 cX7_ifStruck 3 { frames := 7, cells := 0, slots := 0, locals := 159 } := C
  unfold X7_ifStruck at h
  show J E G 3 0 0 σ 0 [(0, .ref (gA G 82)), (1, .int p1), (2, .int p2)] []
  refine j_aload_n C dX7_ifStruck_0 rfl 0 rfl 1 rfl ?_
  refine j_iload_n C dX7_ifStruck_1 rfl 1 rfl 2 rfl ?_
  refine j_iconst C dX7_ifStruck_2 (1 : Int32) (by decide) 3 rfl ?_
  refine j_sipush C dX7_ifStruck_3 (1023 : Int32) (by decide) 6 rfl ?_
  obtain ⟨q1, e2, h⟩ := ob_some h
  refine j_callS C (ct_X7_in (eL E) G  e2) vk_X7_in kw5_2 rfl ⟨Nat.le_of_ble_eq_true rfl, Nat.le_of_ble_eq_true rfl, rfl, rfl⟩ ⟨Nat.zero_le _, Nat.zero_le _⟩ (rest := [.ref (gA G 82)]) rfl (Nat.le_of_ble_eq_true rfl) dX7_ifStruck_6 (st1 := [.int q1.2, .ref (gA G 82)]) rfl 9 rfl ?_
  refine j_if_eq C dX7_ifStruck_9 25 (by decide) 12 rfl (fun c => ?_) (fun c => ?_)
  · have h := it_t c h
    refine j_iconst C dX7_ifStruck_25 (1 : Int32) (by decide) 26 rfl ?_
    obtain ⟨q3, e4, h⟩ := ob_some h
    refine j_callV C (ct_X7_holds (eL E) G  e4) sh82 foX7 rfl vk_X7_holds kw5_9 rfl ⟨Nat.le_of_ble_eq_true rfl, Nat.le_of_ble_eq_true rfl, rfl, rfl⟩ ⟨Nat.zero_le _, Nat.zero_le _⟩ (rest := []) rfl (Nat.le_of_ble_eq_true rfl) dX7_ifStruck_26 (st1 := [.int q3.2]) rfl 29 rfl ?_
    refine j_if_eq C dX7_ifStruck_29 41 (by decide) 32 rfl (fun c => ?_) (fun c => ?_)
    · have h := it_t c h
      refine j_iconst C dX7_ifStruck_41 (0 : Int32) (by decide) 42 rfl ?_
      exact j_iret C F dX7_ifStruck_42 h
    · have h := it_f c h
      refine j_aload_n C dX7_ifStruck_32 rfl 0 rfl 33 rfl ?_
      refine j_iload_n C dX7_ifStruck_33 rfl 1 rfl 34 rfl ?_
      refine j_iload_n C dX7_ifStruck_34 rfl 2 rfl 35 rfl ?_
      obtain ⟨q5, e6, h⟩ := ob_some h
      refine j_callV C (ct_X7_struck (eL E) G  e6) sh82 foX7 rfl vk_X7_struck kw5_179 rfl ⟨Nat.le_of_ble_eq_true rfl, Nat.le_of_ble_eq_true rfl, rfl, rfl⟩ ⟨Nat.zero_le _, Nat.zero_le _⟩ (rest := []) rfl (Nat.le_of_ble_eq_true rfl) dX7_ifStruck_35 (st1 := [.int q5.2]) rfl 38 rfl ?_
      refine j_goto C dX7_ifStruck_38 42 (by decide) ?_
      exact j_iret C F dX7_ifStruck_42 h
  · have h := it_f c h
    refine j_iload_n C dX7_ifStruck_12 rfl 2 rfl 13 rfl ?_
    refine j_iconst C dX7_ifStruck_13 (0 : Int32) (by decide) 14 rfl ?_
    refine j_iconst C dX7_ifStruck_14 (2 : Int32) (by decide) 15 rfl ?_
    obtain ⟨q7, e8, h⟩ := ob_some h
    refine j_callS C (ct_X7_in (eL E) G  e8) vk_X7_in kw5_2 rfl ⟨Nat.le_of_ble_eq_true rfl, Nat.le_of_ble_eq_true rfl, rfl, rfl⟩ ⟨Nat.zero_le _, Nat.zero_le _⟩ (rest := [.ref (gA G 82)]) rfl (Nat.le_of_ble_eq_true rfl) dX7_ifStruck_15 (st1 := [.int q7.2, .ref (gA G 82)]) rfl 18 rfl ?_
    refine j_if_eq C dX7_ifStruck_18 25 (by decide) 21 rfl (fun c => ?_) (fun c => ?_)
    · have h := it_t c h
      refine j_iconst C dX7_ifStruck_25 (1 : Int32) (by decide) 26 rfl ?_
      obtain ⟨q9, e10, h⟩ := ob_some h
      refine j_callV C (ct_X7_holds (eL E) G  e10) sh82 foX7 rfl vk_X7_holds kw5_9 rfl ⟨Nat.le_of_ble_eq_true rfl, Nat.le_of_ble_eq_true rfl, rfl, rfl⟩ ⟨Nat.zero_le _, Nat.zero_le _⟩ (rest := []) rfl (Nat.le_of_ble_eq_true rfl) dX7_ifStruck_26 (st1 := [.int q9.2]) rfl 29 rfl ?_
      refine j_if_eq C dX7_ifStruck_29 41 (by decide) 32 rfl (fun c => ?_) (fun c => ?_)
      · have h := it_t c h
        refine j_iconst C dX7_ifStruck_41 (0 : Int32) (by decide) 42 rfl ?_
        exact j_iret C F dX7_ifStruck_42 h
      · have h := it_f c h
        refine j_aload_n C dX7_ifStruck_32 rfl 0 rfl 33 rfl ?_
        refine j_iload_n C dX7_ifStruck_33 rfl 1 rfl 34 rfl ?_
        refine j_iload_n C dX7_ifStruck_34 rfl 2 rfl 35 rfl ?_
        obtain ⟨q11, e12, h⟩ := ob_some h
        refine j_callV C (ct_X7_struck (eL E) G  e12) sh82 foX7 rfl vk_X7_struck kw5_179 rfl ⟨Nat.le_of_ble_eq_true rfl, Nat.le_of_ble_eq_true rfl, rfl, rfl⟩ ⟨Nat.zero_le _, Nat.zero_le _⟩ (rest := []) rfl (Nat.le_of_ble_eq_true rfl) dX7_ifStruck_35 (st1 := [.int q11.2]) rfl 38 rfl ?_
        refine j_goto C dX7_ifStruck_38 42 (by decide) ?_
        exact j_iret C F dX7_ifStruck_42 h
    · have h := it_f c h
      refine j_iconst C dX7_ifStruck_21 (0 : Int32) (by decide) 22 rfl ?_
      refine j_goto C dX7_ifStruck_22 26 (by decide) ?_
      obtain ⟨q13, e14, h⟩ := ob_some h
      refine j_callV C (ct_X7_holds (eL E) G  e14) sh82 foX7 rfl vk_X7_holds kw5_9 rfl ⟨Nat.le_of_ble_eq_true rfl, Nat.le_of_ble_eq_true rfl, rfl, rfl⟩ ⟨Nat.zero_le _, Nat.zero_le _⟩ (rest := []) rfl (Nat.le_of_ble_eq_true rfl) dX7_ifStruck_26 (st1 := [.int q13.2]) rfl 29 rfl ?_
      refine j_if_eq C dX7_ifStruck_29 41 (by decide) 32 rfl (fun c => ?_) (fun c => ?_)
      · have h := it_t c h
        refine j_iconst C dX7_ifStruck_41 (0 : Int32) (by decide) 42 rfl ?_
        exact j_iret C F dX7_ifStruck_42 h
      · have h := it_f c h
        refine j_aload_n C dX7_ifStruck_32 rfl 0 rfl 33 rfl ?_
        refine j_iload_n C dX7_ifStruck_33 rfl 1 rfl 34 rfl ?_
        refine j_iload_n C dX7_ifStruck_34 rfl 2 rfl 35 rfl ?_
        obtain ⟨q15, e16, h⟩ := ob_some h
        refine j_callV C (ct_X7_struck (eL E) G  e16) sh82 foX7 rfl vk_X7_struck kw5_179 rfl ⟨Nat.le_of_ble_eq_true rfl, Nat.le_of_ble_eq_true rfl, rfl, rfl⟩ ⟨Nat.zero_le _, Nat.zero_le _⟩ (rest := []) rfl (Nat.le_of_ble_eq_true rfl) dX7_ifStruck_35 (st1 := [.int q15.2]) rfl 38 rfl ?_
        refine j_goto C dX7_ifStruck_38 42 (by decide) ?_
        exact j_iret C F dX7_ifStruck_42 h

-- ===== StenoChordsModel.begins(I)I
theorem vk_X7_begins : VK yX7_begins cX7_begins 7 (some .int) 1 := ⟨kw5_190, kw5_189, kwS_48, kw1_9, by decide +kernel⟩
def X7_begins_50 (K : Mem → Int32 → Int32 → Int32 → Int32 → Int32 → Option (Mem × Int32)) : Nat → Mem → Int32 → Int32 → Int32 → Int32 → Int32 → Int32 → Option (Mem × Int32)
  | 0, _, _, _, _, _, _, _ => none
  | fu + 1, σ, v1, v2, v3, v4, v5, v6 => (if v1 ≤ v6 then K σ v1 v2 v3 v4 v5 else (if v5 = 0 then K σ v1 v2 v3 v4 v5 else ((X7_of σ v4 ((1 : Int32) + v6)).bind fun q3 => (if inA (((8 : Int32) + v2) + v6) 1888 then (if q3.2 = (q3.1.1 83 (((8 : Int32) + v2) + v6).toNatClampNeg) then X7_begins_50 K fu q3.1 v1 v2 v3 v4 (1 : Int32) (v6 + (1 : Int32)) else X7_begins_50 K fu q3.1 v1 v2 v3 v4 (0 : Int32) (v6 + (1 : Int32))) else none))))
set_option maxHeartbeats 4000000 in
set_option maxRecDepth 100000 in
theorem w_X7_begins_50 {E : Ev} {G : Gw} (C : Cx E G RX7 cX7_begins 7 { frames := 1, cells := 0, slots := 0, locals := 22 }) {out : Mem × Int32} (F : Ef E G out.1 (some (.int out.2)) (some .int) 0 0)  {K : Mem → Int32 → Int32 → Int32 → Int32 → Int32 → Option (Mem × Int32)} (hK : ∀ (σ : Mem) (v1 : Int32) (v2 : Int32) (v3 : Int32) (v4 : Int32) (v5 : Int32), K σ v1 v2 v3 v4 v5 = some out → J E G 7 0 0 σ 99 [(0, .ref (gA G 82)), (1, .int v1), (2, .int v2), (3, .int v3), (4, .int v4), (5, .int v5)] []) : ∀ (fu : Nat) (σ : Mem) (v1 : Int32) (v2 : Int32) (v3 : Int32) (v4 : Int32) (v5 : Int32) (v6 : Int32), X7_begins_50 K fu σ v1 v2 v3 v4 v5 v6 = some out → J E G 7 0 0 σ 50 [(0, .ref (gA G 82)), (1, .int v1), (2, .int v2), (3, .int v3), (4, .int v4), (5, .int v5), (6, .int v6)] [] := by
  intro fu
  induction fu with
  | zero => intro σ v1 v2 v3 v4 v5 v6 h; rw [X7_begins_50] at h; cases h
  | succ fu ih =>
    intro σ v1 v2 v3 v4 v5 v6 h
    rw [X7_begins_50] at h
    refine j_iload C dX7_begins_50 6 rfl 52 rfl ?_
    refine j_iload_n C dX7_begins_52 rfl 1 rfl 53 rfl ?_
    refine j_icmp_ge C dX7_begins_53 99 (by decide) 56 rfl (fun c => ?_) (fun c => ?_)
    · have h := it_t c h
      refine j_sub [(0, .ref (gA G 82)), (1, .int v1), (2, .int v2), (3, .int v3), (4, .int v4), (5, .int v5)] [0, 1, 2, 3, 4, 5] rfl ?_
      exact hK _ _ _ _ _ _ h
    · have h := it_f c h
      refine j_iload C dX7_begins_56 5 rfl 58 rfl ?_
      refine j_if_eq C dX7_begins_58 99 (by decide) 61 rfl (fun c => ?_) (fun c => ?_)
      · have h := it_t c h
        refine j_sub [(0, .ref (gA G 82)), (1, .int v1), (2, .int v2), (3, .int v3), (4, .int v4), (5, .int v5)] [0, 1, 2, 3, 4, 5] rfl ?_
        exact hK _ _ _ _ _ _ h
      · have h := it_f c h
        refine j_aload_n C dX7_begins_61 rfl 0 rfl 62 rfl ?_
        refine j_iload C dX7_begins_62 4 rfl 64 rfl ?_
        refine j_iconst C dX7_begins_64 (1 : Int32) (by decide) 65 rfl ?_
        refine j_iload C dX7_begins_65 6 rfl 67 rfl ?_
        refine j_iadd C dX7_begins_67 68 rfl ?_
        obtain ⟨q3, e4, h⟩ := ob_some h
        refine j_callV C (ct_X7_of (eL E) G  e4) sh82 foX7 rfl vk_X7_of kw5_40 rfl ⟨Nat.le_of_ble_eq_true rfl, Nat.le_of_ble_eq_true rfl, rfl, rfl⟩ ⟨Nat.zero_le _, Nat.zero_le _⟩ (rest := []) rfl (Nat.le_of_ble_eq_true rfl) dX7_begins_68 (st1 := [.int q3.2]) rfl 71 rfl ?_
        refine j_aload_n C dX7_begins_71 rfl 0 rfl 72 rfl ?_
        refine j_get C foX7 sh82 1 (by decide) 85 rfl kw4_183 rfl dX7_begins_72 (.ref (gA G 83)) (fv_r rfl) 75 rfl ?_
        refine j_bipush C dX7_begins_75 (8 : Int32) (by decide) 77 rfl ?_
        refine j_iload_n C dX7_begins_77 rfl 2 rfl 78 rfl ?_
        refine j_iadd C dX7_begins_78 79 rfl ?_
        refine j_iload C dX7_begins_79 6 rfl 81 rfl ?_
        refine j_iadd C dX7_begins_81 82 rfl ?_
        obtain ⟨hc, h⟩ := if_some h
        refine j_iald C sh83 hc dX7_begins_82 (((8 : Int32) + v2) + v6).toNatClampNeg rfl 83 rfl ?_
        refine j_icmp_ne C dX7_begins_83 90 (by decide) 86 rfl (fun c => ?_) (fun c => ?_)
        · have h := it_f c h
          refine j_iconst C dX7_begins_90 (0 : Int32) (by decide) 91 rfl ?_
          refine j_istore C dX7_begins_91 (by decide) [(5, .int (0 : Int32)), (0, .ref (gA G 82)), (1, .int v1), (2, .int v2), (3, .int v3), (4, .int v4), (6, .int v6)] rfl 93 rfl ?_
          refine j_iinc C dX7_begins_93 6 rfl (v6 + (1 : Int32)) rfl (by decide) [(6, .int (v6 + (1 : Int32))), (5, .int (0 : Int32)), (0, .ref (gA G 82)), (1, .int v1), (2, .int v2), (3, .int v3), (4, .int v4)] rfl 96 rfl ?_
          refine j_goto C dX7_begins_96 50 (by decide) ?_
          refine j_sub [(0, .ref (gA G 82)), (1, .int v1), (2, .int v2), (3, .int v3), (4, .int v4), (5, .int (0 : Int32)), (6, .int (v6 + (1 : Int32)))] [2, 3, 4, 5, 6, 1, 0] rfl ?_
          exact ih _ _ _ _ _ _ _ h
        · have h := it_t c h
          refine j_iconst C dX7_begins_86 (1 : Int32) (by decide) 87 rfl ?_
          refine j_goto C dX7_begins_87 91 (by decide) ?_
          refine j_istore C dX7_begins_91 (by decide) [(5, .int (1 : Int32)), (0, .ref (gA G 82)), (1, .int v1), (2, .int v2), (3, .int v3), (4, .int v4), (6, .int v6)] rfl 93 rfl ?_
          refine j_iinc C dX7_begins_93 6 rfl (v6 + (1 : Int32)) rfl (by decide) [(6, .int (v6 + (1 : Int32))), (5, .int (1 : Int32)), (0, .ref (gA G 82)), (1, .int v1), (2, .int v2), (3, .int v3), (4, .int v4)] rfl 96 rfl ?_
          refine j_goto C dX7_begins_96 50 (by decide) ?_
          refine j_sub [(0, .ref (gA G 82)), (1, .int v1), (2, .int v2), (3, .int v3), (4, .int v4), (5, .int (1 : Int32)), (6, .int (v6 + (1 : Int32)))] [2, 3, 4, 5, 6, 1, 0] rfl ?_
          exact ih _ _ _ _ _ _ _ h
def X7_begins_14 (K : Mem → Int32 → Option (Mem × Int32)) : Nat → Mem → Int32 → Int32 → Int32 → Int32 → Option (Mem × Int32)
  | 0, _, _, _, _, _ => none
  | fu + 1, σ, v1, v2, v3, v4 => (if (σ.1 83 1) ≤ v4 then K σ v3 else (if v2 < 0 then K σ v3 else ((X7_of σ v4 (0 : Int32)).bind fun q1 => (if q1.2 ≤ v1 then X7_begins_50 (fun (σ : Mem) (v1 : Int32) (v2 : Int32) (v3 : Int32) (v4 : Int32) (v5 : Int32) => (if v5 = 0 then X7_begins_14 K fu σ v1 v2 (v3 + (0 : Int32)) (v4 + (1 : Int32)) else X7_begins_14 K fu σ v1 v2 (v3 + (1 : Int32)) (v4 + (1 : Int32)))) FU q1.1 v1 v2 v3 v4 (0 : Int32) (0 : Int32) else X7_begins_50 (fun (σ : Mem) (v1 : Int32) (v2 : Int32) (v3 : Int32) (v4 : Int32) (v5 : Int32) => (if v5 = 0 then X7_begins_14 K fu σ v1 v2 (v3 + (0 : Int32)) (v4 + (1 : Int32)) else X7_begins_14 K fu σ v1 v2 (v3 + (1 : Int32)) (v4 + (1 : Int32)))) FU q1.1 v1 v2 v3 v4 (1 : Int32) (0 : Int32)))))
set_option maxHeartbeats 4000000 in
set_option maxRecDepth 100000 in
theorem w_X7_begins_14 {E : Ev} {G : Gw} (C : Cx E G RX7 cX7_begins 7 { frames := 1, cells := 0, slots := 0, locals := 22 }) {out : Mem × Int32} (F : Ef E G out.1 (some (.int out.2)) (some .int) 0 0)  {K : Mem → Int32 → Option (Mem × Int32)} (hK : ∀ (σ : Mem) (v3 : Int32), K σ v3 = some out → J E G 7 0 0 σ 118 [(3, .int v3)] []) : ∀ (fu : Nat) (σ : Mem) (v1 : Int32) (v2 : Int32) (v3 : Int32) (v4 : Int32), X7_begins_14 K fu σ v1 v2 v3 v4 = some out → J E G 7 0 0 σ 14 [(0, .ref (gA G 82)), (1, .int v1), (2, .int v2), (3, .int v3), (4, .int v4)] [] := by
  intro fu
  induction fu with
  | zero => intro σ v1 v2 v3 v4 h; rw [X7_begins_14] at h; cases h
  | succ fu ih =>
    intro σ v1 v2 v3 v4 h
    rw [X7_begins_14] at h
    refine j_iload C dX7_begins_14 4 rfl 16 rfl ?_
    refine j_aload_n C dX7_begins_16 rfl 0 rfl 17 rfl ?_
    refine j_get C foX7 sh82 1 (by decide) 85 rfl kw4_183 rfl dX7_begins_17 (.ref (gA G 83)) (fv_r rfl) 20 rfl ?_
    refine j_iconst C dX7_begins_20 (1 : Int32) (by decide) 21 rfl ?_
    refine j_iald C sh83 (by decide) dX7_begins_21 1 rfl 22 rfl ?_
    refine j_icmp_ge C dX7_begins_22 118 (by decide) 25 rfl (fun c => ?_) (fun c => ?_)
    · have h := it_t c h
      refine j_sub [(3, .int v3)] [3] rfl ?_
      exact hK _ _ h
    · have h := it_f c h
      refine j_iload_n C dX7_begins_25 rfl 2 rfl 26 rfl ?_
      refine j_if_lt C dX7_begins_26 118 (by decide) 29 rfl (fun c => ?_) (fun c => ?_)
      · have h := it_t c h
        refine j_sub [(3, .int v3)] [3] rfl ?_
        exact hK _ _ h
      · have h := it_f c h
        refine j_aload_n C dX7_begins_29 rfl 0 rfl 30 rfl ?_
        refine j_iload C dX7_begins_30 4 rfl 32 rfl ?_
        refine j_iconst C dX7_begins_32 (0 : Int32) (by decide) 33 rfl ?_
        obtain ⟨q1, e2, h⟩ := ob_some h
        refine j_callV C (ct_X7_of (eL E) G  e2) sh82 foX7 rfl vk_X7_of kw5_40 rfl ⟨Nat.le_of_ble_eq_true rfl, Nat.le_of_ble_eq_true rfl, rfl, rfl⟩ ⟨Nat.zero_le _, Nat.zero_le _⟩ (rest := []) rfl (Nat.le_of_ble_eq_true rfl) dX7_begins_33 (st1 := [.int q1.2]) rfl 36 rfl ?_
        refine j_iload_n C dX7_begins_36 rfl 1 rfl 37 rfl ?_
        refine j_icmp_le C dX7_begins_37 44 (by decide) 40 rfl (fun c => ?_) (fun c => ?_)
        · have h := it_t c h
          refine j_iconst C dX7_begins_44 (0 : Int32) (by decide) 45 rfl ?_
          refine j_istore C dX7_begins_45 (by decide) [(5, .int (0 : Int32)), (0, .ref (gA G 82)), (1, .int v1), (2, .int v2), (3, .int v3), (4, .int v4)] rfl 47 rfl ?_
          refine j_iconst C dX7_begins_47 (0 : Int32) (by decide) 48 rfl ?_
          refine j_istore C dX7_begins_48 (by decide) [(6, .int (0 : Int32)), (5, .int (0 : Int32)), (0, .ref (gA G 82)), (1, .int v1), (2, .int v2), (3, .int v3), (4, .int v4)] rfl 50 rfl ?_
          refine j_sub [(0, .ref (gA G 82)), (1, .int v1), (2, .int v2), (3, .int v3), (4, .int v4), (5, .int (0 : Int32)), (6, .int (0 : Int32))] [2, 3, 4, 5, 6, 1, 0] rfl ?_
          refine w_X7_begins_50 C F  (fun σ v1 v2 v3 v4 v5 h => ?_) FU _ _ _ _ _ _ _ h
          refine j_iload_n C dX7_begins_99 rfl 3 rfl 100 rfl ?_
          refine j_iload C dX7_begins_100 5 rfl 102 rfl ?_
          refine j_if_eq C dX7_begins_102 109 (by decide) 105 rfl (fun c => ?_) (fun c => ?_)
          · have h := it_t c h
            refine j_iconst C dX7_begins_109 (0 : Int32) (by decide) 110 rfl ?_
            refine j_iadd C dX7_begins_110 111 rfl ?_
            refine j_istore_n C dX7_begins_111 rfl (by decide) [(3, .int (v3 + (0 : Int32))), (0, .ref (gA G 82)), (1, .int v1), (2, .int v2), (4, .int v4), (5, .int v5)] rfl 112 rfl ?_
            refine j_iinc C dX7_begins_112 4 rfl (v4 + (1 : Int32)) rfl (by decide) [(4, .int (v4 + (1 : Int32))), (3, .int (v3 + (0 : Int32))), (0, .ref (gA G 82)), (1, .int v1), (2, .int v2), (5, .int v5)] rfl 115 rfl ?_
            refine j_goto C dX7_begins_115 14 (by decide) ?_
            refine j_sub [(0, .ref (gA G 82)), (1, .int v1), (2, .int v2), (3, .int (v3 + (0 : Int32))), (4, .int (v4 + (1 : Int32)))] [2, 3, 4, 1, 0] rfl ?_
            exact ih _ _ _ _ _ h
          · have h := it_f c h
            refine j_iconst C dX7_begins_105 (1 : Int32) (by decide) 106 rfl ?_
            refine j_goto C dX7_begins_106 110 (by decide) ?_
            refine j_iadd C dX7_begins_110 111 rfl ?_
            refine j_istore_n C dX7_begins_111 rfl (by decide) [(3, .int (v3 + (1 : Int32))), (0, .ref (gA G 82)), (1, .int v1), (2, .int v2), (4, .int v4), (5, .int v5)] rfl 112 rfl ?_
            refine j_iinc C dX7_begins_112 4 rfl (v4 + (1 : Int32)) rfl (by decide) [(4, .int (v4 + (1 : Int32))), (3, .int (v3 + (1 : Int32))), (0, .ref (gA G 82)), (1, .int v1), (2, .int v2), (5, .int v5)] rfl 115 rfl ?_
            refine j_goto C dX7_begins_115 14 (by decide) ?_
            refine j_sub [(0, .ref (gA G 82)), (1, .int v1), (2, .int v2), (3, .int (v3 + (1 : Int32))), (4, .int (v4 + (1 : Int32)))] [2, 3, 4, 1, 0] rfl ?_
            exact ih _ _ _ _ _ h
        · have h := it_f c h
          refine j_iconst C dX7_begins_40 (1 : Int32) (by decide) 41 rfl ?_
          refine j_goto C dX7_begins_41 45 (by decide) ?_
          refine j_istore C dX7_begins_45 (by decide) [(5, .int (1 : Int32)), (0, .ref (gA G 82)), (1, .int v1), (2, .int v2), (3, .int v3), (4, .int v4)] rfl 47 rfl ?_
          refine j_iconst C dX7_begins_47 (0 : Int32) (by decide) 48 rfl ?_
          refine j_istore C dX7_begins_48 (by decide) [(6, .int (0 : Int32)), (5, .int (1 : Int32)), (0, .ref (gA G 82)), (1, .int v1), (2, .int v2), (3, .int v3), (4, .int v4)] rfl 50 rfl ?_
          refine j_sub [(0, .ref (gA G 82)), (1, .int v1), (2, .int v2), (3, .int v3), (4, .int v4), (5, .int (1 : Int32)), (6, .int (0 : Int32))] [2, 3, 4, 5, 6, 1, 0] rfl ?_
          refine w_X7_begins_50 C F  (fun σ v1 v2 v3 v4 v5 h => ?_) FU _ _ _ _ _ _ _ h
          refine j_iload_n C dX7_begins_99 rfl 3 rfl 100 rfl ?_
          refine j_iload C dX7_begins_100 5 rfl 102 rfl ?_
          refine j_if_eq C dX7_begins_102 109 (by decide) 105 rfl (fun c => ?_) (fun c => ?_)
          · have h := it_t c h
            refine j_iconst C dX7_begins_109 (0 : Int32) (by decide) 110 rfl ?_
            refine j_iadd C dX7_begins_110 111 rfl ?_
            refine j_istore_n C dX7_begins_111 rfl (by decide) [(3, .int (v3 + (0 : Int32))), (0, .ref (gA G 82)), (1, .int v1), (2, .int v2), (4, .int v4), (5, .int v5)] rfl 112 rfl ?_
            refine j_iinc C dX7_begins_112 4 rfl (v4 + (1 : Int32)) rfl (by decide) [(4, .int (v4 + (1 : Int32))), (3, .int (v3 + (0 : Int32))), (0, .ref (gA G 82)), (1, .int v1), (2, .int v2), (5, .int v5)] rfl 115 rfl ?_
            refine j_goto C dX7_begins_115 14 (by decide) ?_
            refine j_sub [(0, .ref (gA G 82)), (1, .int v1), (2, .int v2), (3, .int (v3 + (0 : Int32))), (4, .int (v4 + (1 : Int32)))] [2, 3, 4, 1, 0] rfl ?_
            exact ih _ _ _ _ _ h
          · have h := it_f c h
            refine j_iconst C dX7_begins_105 (1 : Int32) (by decide) 106 rfl ?_
            refine j_goto C dX7_begins_106 110 (by decide) ?_
            refine j_iadd C dX7_begins_110 111 rfl ?_
            refine j_istore_n C dX7_begins_111 rfl (by decide) [(3, .int (v3 + (1 : Int32))), (0, .ref (gA G 82)), (1, .int v1), (2, .int v2), (4, .int v4), (5, .int v5)] rfl 112 rfl ?_
            refine j_iinc C dX7_begins_112 4 rfl (v4 + (1 : Int32)) rfl (by decide) [(4, .int (v4 + (1 : Int32))), (3, .int (v3 + (1 : Int32))), (0, .ref (gA G 82)), (1, .int v1), (2, .int v2), (5, .int v5)] rfl 115 rfl ?_
            refine j_goto C dX7_begins_115 14 (by decide) ?_
            refine j_sub [(0, .ref (gA G 82)), (1, .int v1), (2, .int v2), (3, .int (v3 + (1 : Int32))), (4, .int (v4 + (1 : Int32)))] [2, 3, 4, 1, 0] rfl ?_
            exact ih _ _ _ _ _ h
def X7_begins (σ : Mem) (p1 : Int32) : Option (Mem × Int32) :=
  X7_begins_14 (fun (σ : Mem) (v3 : Int32) => some (σ, v3)) FU σ p1 ((σ.1 83 0) - p1) (0 : Int32) (0 : Int32)
set_option maxHeartbeats 4000000 in
set_option maxRecDepth 100000 in
theorem ct_X7_begins (l : Launch) (G : Gw)  {σ : Mem} {p1 : Int32} {out : Mem × Int32} (h : X7_begins σ p1 = some out) : Ct l G yX7_begins cX7_begins 7 (some .int) { frames := 1, cells := 0, slots := 0, locals := 22 } [.ref (gA G 82), .int p1] σ out.1 (some (.int out.2)) := by
  refine Ct.of (by decide +kernel) (Nat.le_of_ble_eq_true rfl) (fun E hE C F => ?_)
  subst hE
  have C : Cx E G RX7 cX7_begins 7 { frames := 1, cells := 0, slots := 0, locals := 22 } := C
  unfold X7_begins at h
  show J E G 7 0 0 σ 0 [(0, .ref (gA G 82)), (1, .int p1)] []
  refine j_aload_n C dX7_begins_0 rfl 0 rfl 1 rfl ?_
  refine j_get C foX7 sh82 1 (by decide) 85 rfl kw4_183 rfl dX7_begins_1 (.ref (gA G 83)) (fv_r rfl) 4 rfl ?_
  refine j_iconst C dX7_begins_4 (0 : Int32) (by decide) 5 rfl ?_
  refine j_iald C sh83 (by decide) dX7_begins_5 0 rfl 6 rfl ?_
  refine j_iload_n C dX7_begins_6 rfl 1 rfl 7 rfl ?_
  refine j_isub C dX7_begins_7 8 rfl ?_
  refine j_istore_n C dX7_begins_8 rfl (by decide) [(2, .int ((σ.1 83 0) - p1)), (0, .ref (gA G 82)), (1, .int p1)] rfl 9 rfl ?_
  refine j_iconst C dX7_begins_9 (0 : Int32) (by decide) 10 rfl ?_
  refine j_istore_n C dX7_begins_10 rfl (by decide) [(3, .int (0 : Int32)), (2, .int ((σ.1 83 0) - p1)), (0, .ref (gA G 82)), (1, .int p1)] rfl 11 rfl ?_
  refine j_iconst C dX7_begins_11 (0 : Int32) (by decide) 12 rfl ?_
  refine j_istore C dX7_begins_12 (by decide) [(4, .int (0 : Int32)), (3, .int (0 : Int32)), (2, .int ((σ.1 83 0) - p1)), (0, .ref (gA G 82)), (1, .int p1)] rfl 14 rfl ?_
  refine j_sub [(0, .ref (gA G 82)), (1, .int p1), (2, .int ((σ.1 83 0) - p1)), (3, .int (0 : Int32)), (4, .int (0 : Int32))] [3, 4, 2, 1, 0] rfl ?_
  refine w_X7_begins_14 C F  (fun σ v3 h => ?_) FU _ _ _ _ _ h
  refine j_iload_n C dX7_begins_118 rfl 0 rfl 119 rfl ?_
  exact j_iret C F dX7_begins_119 h

-- ===== StenoChordsModel.begun(I)I
theorem vk_X7_begun : VK yX7_begun cX7_begun 2 (some .int) 1 := ⟨kw5_186, kw5_184, kw5_185, kw1_9, by decide +kernel⟩
def X7_begun (σ : Mem) (p1 : Int32) : Option (Mem × Int32) :=
  ((X7_in σ p1 (1 : Int32) (3 : Int32)).bind fun q1 => (if q1.2 = 0 then ((X7_holds q1.1 (1 : Int32)).bind fun q3 => (if q3.2 = 0 then some (q3.1, (0 : Int32)) else ((X7_begins q3.1 p1).bind fun q5 => some (q5.1, q5.2)))) else ((X7_holds q1.1 (0 : Int32)).bind fun q7 => (if q7.2 = 0 then some (q7.1, (0 : Int32)) else ((X7_begins q7.1 p1).bind fun q9 => some (q9.1, q9.2))))))
set_option maxHeartbeats 4000000 in
set_option maxRecDepth 100000 in
theorem ct_X7_begun (l : Launch) (G : Gw)  {σ : Mem} {p1 : Int32} {out : Mem × Int32} (h : X7_begun σ p1 = some out) : Ct l G yX7_begun cX7_begun 2 (some .int) { frames := 2, cells := 0, slots := 0, locals := 48 } [.ref (gA G 82), .int p1] σ out.1 (some (.int out.2)) := by
  refine Ct.of (by decide +kernel) (Nat.le_of_ble_eq_true rfl) (fun E hE C F => ?_)
  subst hE
  have C : Cx E G RX7 cX7_begun 2 { frames := 2, cells := 0, slots := 0, locals := 48 } := C
  unfold X7_begun at h
  show J E G 2 0 0 σ 0 [(0, .ref (gA G 82)), (1, .int p1)] []
  refine j_aload_n C dX7_begun_0 rfl 0 rfl 1 rfl ?_
  refine j_iload_n C dX7_begun_1 rfl 1 rfl 2 rfl ?_
  refine j_iconst C dX7_begun_2 (1 : Int32) (by decide) 3 rfl ?_
  refine j_iconst C dX7_begun_3 (3 : Int32) (by decide) 4 rfl ?_
  obtain ⟨q1, e2, h⟩ := ob_some h
  refine j_callS C (ct_X7_in (eL E) G  e2) vk_X7_in kw5_2 rfl ⟨Nat.le_of_ble_eq_true rfl, Nat.le_of_ble_eq_true rfl, rfl, rfl⟩ ⟨Nat.zero_le _, Nat.zero_le _⟩ (rest := [.ref (gA G 82)]) rfl (Nat.le_of_ble_eq_true rfl) dX7_begun_4 (st1 := [.int q1.2, .ref (gA G 82)]) rfl 7 rfl ?_
  refine j_if_eq C dX7_begun_7 14 (by decide) 10 rfl (fun c => ?_) (fun c => ?_)
  · have h := it_t c h
    refine j_iconst C dX7_begun_14 (1 : Int32) (by decide) 15 rfl ?_
    obtain ⟨q3, e4, h⟩ := ob_some h
    refine j_callV C (ct_X7_holds (eL E) G  e4) sh82 foX7 rfl vk_X7_holds kw5_9 rfl ⟨Nat.le_of_ble_eq_true rfl, Nat.le_of_ble_eq_true rfl, rfl, rfl⟩ ⟨Nat.zero_le _, Nat.zero_le _⟩ (rest := []) rfl (Nat.le_of_ble_eq_true rfl) dX7_begun_15 (st1 := [.int q3.2]) rfl 18 rfl ?_
    refine j_if_eq C dX7_begun_18 29 (by decide) 21 rfl (fun c => ?_) (fun c => ?_)
    · have h := it_t c h
      refine j_iconst C dX7_begun_29 (0 : Int32) (by decide) 30 rfl ?_
      exact j_iret C F dX7_begun_30 h
    · have h := it_f c h
      refine j_aload_n C dX7_begun_21 rfl 0 rfl 22 rfl ?_
      refine j_iload_n C dX7_begun_22 rfl 1 rfl 23 rfl ?_
      obtain ⟨q5, e6, h⟩ := ob_some h
      refine j_callV C (ct_X7_begins (eL E) G  e6) sh82 foX7 rfl vk_X7_begins kw5_187 rfl ⟨Nat.le_of_ble_eq_true rfl, Nat.le_of_ble_eq_true rfl, rfl, rfl⟩ ⟨Nat.zero_le _, Nat.zero_le _⟩ (rest := []) rfl (Nat.le_of_ble_eq_true rfl) dX7_begun_23 (st1 := [.int q5.2]) rfl 26 rfl ?_
      refine j_goto C dX7_begun_26 30 (by decide) ?_
      exact j_iret C F dX7_begun_30 h
  · have h := it_f c h
    refine j_iconst C dX7_begun_10 (0 : Int32) (by decide) 11 rfl ?_
    refine j_goto C dX7_begun_11 15 (by decide) ?_
    obtain ⟨q7, e8, h⟩ := ob_some h
    refine j_callV C (ct_X7_holds (eL E) G  e8) sh82 foX7 rfl vk_X7_holds kw5_9 rfl ⟨Nat.le_of_ble_eq_true rfl, Nat.le_of_ble_eq_true rfl, rfl, rfl⟩ ⟨Nat.zero_le _, Nat.zero_le _⟩ (rest := []) rfl (Nat.le_of_ble_eq_true rfl) dX7_begun_15 (st1 := [.int q7.2]) rfl 18 rfl ?_
    refine j_if_eq C dX7_begun_18 29 (by decide) 21 rfl (fun c => ?_) (fun c => ?_)
    · have h := it_t c h
      refine j_iconst C dX7_begun_29 (0 : Int32) (by decide) 30 rfl ?_
      exact j_iret C F dX7_begun_30 h
    · have h := it_f c h
      refine j_aload_n C dX7_begun_21 rfl 0 rfl 22 rfl ?_
      refine j_iload_n C dX7_begun_22 rfl 1 rfl 23 rfl ?_
      obtain ⟨q9, e10, h⟩ := ob_some h
      refine j_callV C (ct_X7_begins (eL E) G  e10) sh82 foX7 rfl vk_X7_begins kw5_187 rfl ⟨Nat.le_of_ble_eq_true rfl, Nat.le_of_ble_eq_true rfl, rfl, rfl⟩ ⟨Nat.zero_le _, Nat.zero_le _⟩ (rest := []) rfl (Nat.le_of_ble_eq_true rfl) dX7_begun_23 (st1 := [.int q9.2]) rfl 26 rfl ?_
      refine j_goto C dX7_begun_26 30 (by decide) ?_
      exact j_iret C F dX7_begun_30 h

-- ===== StenoChordsModel.shortestFor(I)I
theorem vk_X7_shortestFor : VK yX7_shortestFor cX7_shortestFor 6 (some .int) 1 := ⟨kw5_198, kw5_197, kwS_49, kw1_9, by decide +kernel⟩
def X7_shortestFor_51 (K : Mem → Int32 → Option (Mem × Int32)) (rc : Mem → Int32 → Int32 → Int32 → Option (Mem × Int32)) (σ : Mem) (v1 : Int32) (v2 : Int32) (v3 : Int32) (s0 : Int32) : Option (Mem × Int32) :=
  ((X7_of σ v3 (5 : Int32)).bind fun q9 => (if q9.2 = v1 then ((X7_of q9.1 v3 (0 : Int32)).bind fun q11 => (if (q11.1.1 83 3) < q11.2 then (if (0 : Int32) = 0 then rc q11.1 v1 v2 (v3 + (1 : Int32)) else (if s0 ≤ 0 then rc q11.1 v1 v2 (v3 + (1 : Int32)) else rc q11.1 v1 v3 (v3 + (1 : Int32)))) else ((X7_leads q11.1 v3).bind fun q13 => (if q13.2 = 0 then (if (0 : Int32) = 0 then rc q13.1 v1 v2 (v3 + (1 : Int32)) else (if s0 ≤ 0 then rc q13.1 v1 v2 (v3 + (1 : Int32)) else rc q13.1 v1 v3 (v3 + (1 : Int32)))) else (if (1 : Int32) = 0 then rc q13.1 v1 v2 (v3 + (1 : Int32)) else (if s0 ≤ 0 then rc q13.1 v1 v2 (v3 + (1 : Int32)) else rc q13.1 v1 v3 (v3 + (1 : Int32)))))))) else (if (0 : Int32) = 0 then rc q9.1 v1 v2 (v3 + (1 : Int32)) else (if s0 ≤ 0 then rc q9.1 v1 v2 (v3 + (1 : Int32)) else rc q9.1 v1 v3 (v3 + (1 : Int32))))))
set_option maxHeartbeats 4000000 in
set_option maxRecDepth 100000 in
theorem w_X7_shortestFor_51 {E : Ev} {G : Gw} (C : Cx E G RX7 cX7_shortestFor 6 { frames := 3, cells := 0, slots := 0, locals := 70 }) {out : Mem × Int32} (F : Ef E G out.1 (some (.int out.2)) (some .int) 0 0)  {K : Mem → Int32 → Option (Mem × Int32)} (hK : ∀ (σ : Mem) (v2 : Int32), K σ v2 = some out → J E G 6 0 0 σ 115 [(2, .int v2)] []) {rc : Mem → Int32 → Int32 → Int32 → Option (Mem × Int32)} (hrc : ∀ (σ : Mem) (v1 : Int32) (v2 : Int32) (v3 : Int32), rc σ v1 v2 v3 = some out → J E G 6 0 0 σ 4 [(0, .ref (gA G 82)), (1, .int v1), (2, .int v2), (3, .int v3)] []) (σ : Mem) (v1 : Int32) (v2 : Int32) (v3 : Int32) (s0 : Int32) (h : X7_shortestFor_51 K rc σ v1 v2 v3 s0 = some out) : J E G 6 0 0 σ 51 [(0, .ref (gA G 82)), (1, .int v1), (2, .int v2), (3, .int v3)] [.int s0] := by
  unfold X7_shortestFor_51 at h
  refine j_istore C dX7_shortestFor_51 (by decide) [(4, .int s0), (0, .ref (gA G 82)), (1, .int v1), (2, .int v2), (3, .int v3)] rfl 53 rfl ?_
  refine j_aload_n C dX7_shortestFor_53 rfl 1 rfl 54 rfl ?_
  refine j_iload_n C dX7_shortestFor_54 rfl 4 rfl 55 rfl ?_
  refine j_iconst C dX7_shortestFor_55 (5 : Int32) (by decide) 56 rfl ?_
  obtain ⟨q9, e10, h⟩ := ob_some h
  refine j_callV C (ct_X7_of (eL E) G  e10) sh82 foX7 rfl vk_X7_of kw5_40 rfl ⟨Nat.le_of_ble_eq_true rfl, Nat.le_of_ble_eq_true rfl, rfl, rfl⟩ ⟨Nat.zero_le _, Nat.zero_le _⟩ (rest := []) rfl (Nat.le_of_ble_eq_true rfl) dX7_shortestFor_56 (st1 := [.int q9.2]) rfl 59 rfl ?_
  refine j_iload_n C dX7_shortestFor_59 rfl 2 rfl 60 rfl ?_
  refine j_icmp_ne C dX7_shortestFor_60 90 (by decide) 63 rfl (fun c => ?_) (fun c => ?_)
  · have h := it_f c h
    refine j_iconst C dX7_shortestFor_90 (0 : Int32) (by decide) 91 rfl ?_
    refine j_istore C dX7_shortestFor_91 (by decide) [(5, .int (0 : Int32)), (4, .int s0), (0, .ref (gA G 82)), (1, .int v1), (2, .int v2), (3, .int v3)] rfl 93 rfl ?_
    refine j_iload C dX7_shortestFor_93 0 rfl 95 rfl ?_
    refine j_if_eq C dX7_shortestFor_95 107 (by decide) 98 rfl (fun c => ?_) (fun c => ?_)
    · have h := it_t c h
      refine j_iload_n C dX7_shortestFor_107 rfl 4 rfl 108 rfl ?_
      refine j_istore_n C dX7_shortestFor_108 rfl (by decide) [(2, .int v2), (5, .int (0 : Int32)), (4, .int s0), (0, .ref (gA G 82)), (1, .int v1), (3, .int v3)] rfl 109 rfl ?_
      refine j_iinc C dX7_shortestFor_109 5 rfl (v3 + (1 : Int32)) rfl (by decide) [(3, .int (v3 + (1 : Int32))), (2, .int v2), (5, .int (0 : Int32)), (4, .int s0), (0, .ref (gA G 82)), (1, .int v1)] rfl 112 rfl ?_
      refine j_goto C dX7_shortestFor_112 4 (by decide) ?_
      refine j_sub [(0, .ref (gA G 82)), (1, .int v1), (2, .int v2), (3, .int (v3 + (1 : Int32)))] [4, 5, 1, 0] rfl ?_
      exact hrc _ _ _ _ h
    · have h := it_f c h
      refine j_iload C dX7_shortestFor_98 1 rfl 100 rfl ?_
      refine j_if_le C dX7_shortestFor_100 107 (by decide) 103 rfl (fun c => ?_) (fun c => ?_)
      · have h := it_t c h
        refine j_iload_n C dX7_shortestFor_107 rfl 4 rfl 108 rfl ?_
        refine j_istore_n C dX7_shortestFor_108 rfl (by decide) [(2, .int v2), (5, .int (0 : Int32)), (4, .int s0), (0, .ref (gA G 82)), (1, .int v1), (3, .int v3)] rfl 109 rfl ?_
        refine j_iinc C dX7_shortestFor_109 5 rfl (v3 + (1 : Int32)) rfl (by decide) [(3, .int (v3 + (1 : Int32))), (2, .int v2), (5, .int (0 : Int32)), (4, .int s0), (0, .ref (gA G 82)), (1, .int v1)] rfl 112 rfl ?_
        refine j_goto C dX7_shortestFor_112 4 (by decide) ?_
        refine j_sub [(0, .ref (gA G 82)), (1, .int v1), (2, .int v2), (3, .int (v3 + (1 : Int32)))] [4, 5, 1, 0] rfl ?_
        exact hrc _ _ _ _ h
      · have h := it_f c h
        refine j_iload_n C dX7_shortestFor_103 rfl 5 rfl 104 rfl ?_
        refine j_goto C dX7_shortestFor_104 108 (by decide) ?_
        refine j_istore_n C dX7_shortestFor_108 rfl (by decide) [(2, .int v3), (5, .int (0 : Int32)), (4, .int s0), (0, .ref (gA G 82)), (1, .int v1), (3, .int v3)] rfl 109 rfl ?_
        refine j_iinc C dX7_shortestFor_109 5 rfl (v3 + (1 : Int32)) rfl (by decide) [(3, .int (v3 + (1 : Int32))), (2, .int v3), (5, .int (0 : Int32)), (4, .int s0), (0, .ref (gA G 82)), (1, .int v1)] rfl 112 rfl ?_
        refine j_goto C dX7_shortestFor_112 4 (by decide) ?_
        refine j_sub [(0, .ref (gA G 82)), (1, .int v1), (2, .int v3), (3, .int (v3 + (1 : Int32)))] [4, 5, 1, 0] rfl ?_
        exact hrc _ _ _ _ h
  · have h := it_t c h
    refine j_aload_n C dX7_shortestFor_63 rfl 1 rfl 64 rfl ?_
    refine j_iload_n C dX7_shortestFor_64 rfl 4 rfl 65 rfl ?_
    refine j_iconst C dX7_shortestFor_65 (0 : Int32) (by decide) 66 rfl ?_
    obtain ⟨q11, e12, h⟩ := ob_some h
    refine j_callV C (ct_X7_of (eL E) G  e12) sh82 foX7 rfl vk_X7_of kw5_40 rfl ⟨Nat.le_of_ble_eq_true rfl, Nat.le_of_ble_eq_true rfl, rfl, rfl⟩ ⟨Nat.zero_le _, Nat.zero_le _⟩ (rest := []) rfl (Nat.le_of_ble_eq_true rfl) dX7_shortestFor_66 (st1 := [.int q11.2]) rfl 69 rfl ?_
    refine j_aload_n C dX7_shortestFor_69 rfl 1 rfl 70 rfl ?_
    refine j_get C foX7 sh82 1 (by decide) 85 rfl kw4_183 rfl dX7_shortestFor_70 (.ref (gA G 83)) (fv_r rfl) 73 rfl ?_
    refine j_iconst C dX7_shortestFor_73 (3 : Int32) (by decide) 74 rfl ?_
    refine j_iald C sh83 (by decide) dX7_shortestFor_74 3 rfl 75 rfl ?_
    refine j_icmp_gt C dX7_shortestFor_75 90 (by decide) 78 rfl (fun c => ?_) (fun c => ?_)
    · have h := it_t c h
      refine j_iconst C dX7_shortestFor_90 (0 : Int32) (by decide) 91 rfl ?_
      refine j_istore C dX7_shortestFor_91 (by decide) [(5, .int (0 : Int32)), (4, .int s0), (0, .ref (gA G 82)), (1, .int v1), (2, .int v2), (3, .int v3)] rfl 93 rfl ?_
      refine j_iload C dX7_shortestFor_93 0 rfl 95 rfl ?_
      refine j_if_eq C dX7_shortestFor_95 107 (by decide) 98 rfl (fun c => ?_) (fun c => ?_)
      · have h := it_t c h
        refine j_iload_n C dX7_shortestFor_107 rfl 4 rfl 108 rfl ?_
        refine j_istore_n C dX7_shortestFor_108 rfl (by decide) [(2, .int v2), (5, .int (0 : Int32)), (4, .int s0), (0, .ref (gA G 82)), (1, .int v1), (3, .int v3)] rfl 109 rfl ?_
        refine j_iinc C dX7_shortestFor_109 5 rfl (v3 + (1 : Int32)) rfl (by decide) [(3, .int (v3 + (1 : Int32))), (2, .int v2), (5, .int (0 : Int32)), (4, .int s0), (0, .ref (gA G 82)), (1, .int v1)] rfl 112 rfl ?_
        refine j_goto C dX7_shortestFor_112 4 (by decide) ?_
        refine j_sub [(0, .ref (gA G 82)), (1, .int v1), (2, .int v2), (3, .int (v3 + (1 : Int32)))] [4, 5, 1, 0] rfl ?_
        exact hrc _ _ _ _ h
      · have h := it_f c h
        refine j_iload C dX7_shortestFor_98 1 rfl 100 rfl ?_
        refine j_if_le C dX7_shortestFor_100 107 (by decide) 103 rfl (fun c => ?_) (fun c => ?_)
        · have h := it_t c h
          refine j_iload_n C dX7_shortestFor_107 rfl 4 rfl 108 rfl ?_
          refine j_istore_n C dX7_shortestFor_108 rfl (by decide) [(2, .int v2), (5, .int (0 : Int32)), (4, .int s0), (0, .ref (gA G 82)), (1, .int v1), (3, .int v3)] rfl 109 rfl ?_
          refine j_iinc C dX7_shortestFor_109 5 rfl (v3 + (1 : Int32)) rfl (by decide) [(3, .int (v3 + (1 : Int32))), (2, .int v2), (5, .int (0 : Int32)), (4, .int s0), (0, .ref (gA G 82)), (1, .int v1)] rfl 112 rfl ?_
          refine j_goto C dX7_shortestFor_112 4 (by decide) ?_
          refine j_sub [(0, .ref (gA G 82)), (1, .int v1), (2, .int v2), (3, .int (v3 + (1 : Int32)))] [4, 5, 1, 0] rfl ?_
          exact hrc _ _ _ _ h
        · have h := it_f c h
          refine j_iload_n C dX7_shortestFor_103 rfl 5 rfl 104 rfl ?_
          refine j_goto C dX7_shortestFor_104 108 (by decide) ?_
          refine j_istore_n C dX7_shortestFor_108 rfl (by decide) [(2, .int v3), (5, .int (0 : Int32)), (4, .int s0), (0, .ref (gA G 82)), (1, .int v1), (3, .int v3)] rfl 109 rfl ?_
          refine j_iinc C dX7_shortestFor_109 5 rfl (v3 + (1 : Int32)) rfl (by decide) [(3, .int (v3 + (1 : Int32))), (2, .int v3), (5, .int (0 : Int32)), (4, .int s0), (0, .ref (gA G 82)), (1, .int v1)] rfl 112 rfl ?_
          refine j_goto C dX7_shortestFor_112 4 (by decide) ?_
          refine j_sub [(0, .ref (gA G 82)), (1, .int v1), (2, .int v3), (3, .int (v3 + (1 : Int32)))] [4, 5, 1, 0] rfl ?_
          exact hrc _ _ _ _ h
    · have h := it_f c h
      refine j_aload_n C dX7_shortestFor_78 rfl 1 rfl 79 rfl ?_
      refine j_iload_n C dX7_shortestFor_79 rfl 4 rfl 80 rfl ?_
      obtain ⟨q13, e14, h⟩ := ob_some h
      refine j_callV C (ct_X7_leads (eL E) G  e14) sh82 foX7 rfl vk_X7_leads kw5_48 rfl ⟨Nat.le_of_ble_eq_true rfl, Nat.le_of_ble_eq_true rfl, rfl, rfl⟩ ⟨Nat.zero_le _, Nat.zero_le _⟩ (rest := []) rfl (Nat.le_of_ble_eq_true rfl) dX7_shortestFor_80 (st1 := [.int q13.2]) rfl 83 rfl ?_
      refine j_if_eq C dX7_shortestFor_83 90 (by decide) 86 rfl (fun c => ?_) (fun c => ?_)
      · have h := it_t c h
        refine j_iconst C dX7_shortestFor_90 (0 : Int32) (by decide) 91 rfl ?_
        refine j_istore C dX7_shortestFor_91 (by decide) [(5, .int (0 : Int32)), (4, .int s0), (0, .ref (gA G 82)), (1, .int v1), (2, .int v2), (3, .int v3)] rfl 93 rfl ?_
        refine j_iload C dX7_shortestFor_93 0 rfl 95 rfl ?_
        refine j_if_eq C dX7_shortestFor_95 107 (by decide) 98 rfl (fun c => ?_) (fun c => ?_)
        · have h := it_t c h
          refine j_iload_n C dX7_shortestFor_107 rfl 4 rfl 108 rfl ?_
          refine j_istore_n C dX7_shortestFor_108 rfl (by decide) [(2, .int v2), (5, .int (0 : Int32)), (4, .int s0), (0, .ref (gA G 82)), (1, .int v1), (3, .int v3)] rfl 109 rfl ?_
          refine j_iinc C dX7_shortestFor_109 5 rfl (v3 + (1 : Int32)) rfl (by decide) [(3, .int (v3 + (1 : Int32))), (2, .int v2), (5, .int (0 : Int32)), (4, .int s0), (0, .ref (gA G 82)), (1, .int v1)] rfl 112 rfl ?_
          refine j_goto C dX7_shortestFor_112 4 (by decide) ?_
          refine j_sub [(0, .ref (gA G 82)), (1, .int v1), (2, .int v2), (3, .int (v3 + (1 : Int32)))] [4, 5, 1, 0] rfl ?_
          exact hrc _ _ _ _ h
        · have h := it_f c h
          refine j_iload C dX7_shortestFor_98 1 rfl 100 rfl ?_
          refine j_if_le C dX7_shortestFor_100 107 (by decide) 103 rfl (fun c => ?_) (fun c => ?_)
          · have h := it_t c h
            refine j_iload_n C dX7_shortestFor_107 rfl 4 rfl 108 rfl ?_
            refine j_istore_n C dX7_shortestFor_108 rfl (by decide) [(2, .int v2), (5, .int (0 : Int32)), (4, .int s0), (0, .ref (gA G 82)), (1, .int v1), (3, .int v3)] rfl 109 rfl ?_
            refine j_iinc C dX7_shortestFor_109 5 rfl (v3 + (1 : Int32)) rfl (by decide) [(3, .int (v3 + (1 : Int32))), (2, .int v2), (5, .int (0 : Int32)), (4, .int s0), (0, .ref (gA G 82)), (1, .int v1)] rfl 112 rfl ?_
            refine j_goto C dX7_shortestFor_112 4 (by decide) ?_
            refine j_sub [(0, .ref (gA G 82)), (1, .int v1), (2, .int v2), (3, .int (v3 + (1 : Int32)))] [4, 5, 1, 0] rfl ?_
            exact hrc _ _ _ _ h
          · have h := it_f c h
            refine j_iload_n C dX7_shortestFor_103 rfl 5 rfl 104 rfl ?_
            refine j_goto C dX7_shortestFor_104 108 (by decide) ?_
            refine j_istore_n C dX7_shortestFor_108 rfl (by decide) [(2, .int v3), (5, .int (0 : Int32)), (4, .int s0), (0, .ref (gA G 82)), (1, .int v1), (3, .int v3)] rfl 109 rfl ?_
            refine j_iinc C dX7_shortestFor_109 5 rfl (v3 + (1 : Int32)) rfl (by decide) [(3, .int (v3 + (1 : Int32))), (2, .int v3), (5, .int (0 : Int32)), (4, .int s0), (0, .ref (gA G 82)), (1, .int v1)] rfl 112 rfl ?_
            refine j_goto C dX7_shortestFor_112 4 (by decide) ?_
            refine j_sub [(0, .ref (gA G 82)), (1, .int v1), (2, .int v3), (3, .int (v3 + (1 : Int32)))] [4, 5, 1, 0] rfl ?_
            exact hrc _ _ _ _ h
      · have h := it_f c h
        refine j_iconst C dX7_shortestFor_86 (1 : Int32) (by decide) 87 rfl ?_
        refine j_goto C dX7_shortestFor_87 91 (by decide) ?_
        refine j_istore C dX7_shortestFor_91 (by decide) [(5, .int (1 : Int32)), (4, .int s0), (0, .ref (gA G 82)), (1, .int v1), (2, .int v2), (3, .int v3)] rfl 93 rfl ?_
        refine j_iload C dX7_shortestFor_93 0 rfl 95 rfl ?_
        refine j_if_eq C dX7_shortestFor_95 107 (by decide) 98 rfl (fun c => ?_) (fun c => ?_)
        · have h := it_t c h
          refine j_iload_n C dX7_shortestFor_107 rfl 4 rfl 108 rfl ?_
          refine j_istore_n C dX7_shortestFor_108 rfl (by decide) [(2, .int v2), (5, .int (1 : Int32)), (4, .int s0), (0, .ref (gA G 82)), (1, .int v1), (3, .int v3)] rfl 109 rfl ?_
          refine j_iinc C dX7_shortestFor_109 5 rfl (v3 + (1 : Int32)) rfl (by decide) [(3, .int (v3 + (1 : Int32))), (2, .int v2), (5, .int (1 : Int32)), (4, .int s0), (0, .ref (gA G 82)), (1, .int v1)] rfl 112 rfl ?_
          refine j_goto C dX7_shortestFor_112 4 (by decide) ?_
          refine j_sub [(0, .ref (gA G 82)), (1, .int v1), (2, .int v2), (3, .int (v3 + (1 : Int32)))] [4, 5, 1, 0] rfl ?_
          exact hrc _ _ _ _ h
        · have h := it_f c h
          refine j_iload C dX7_shortestFor_98 1 rfl 100 rfl ?_
          refine j_if_le C dX7_shortestFor_100 107 (by decide) 103 rfl (fun c => ?_) (fun c => ?_)
          · have h := it_t c h
            refine j_iload_n C dX7_shortestFor_107 rfl 4 rfl 108 rfl ?_
            refine j_istore_n C dX7_shortestFor_108 rfl (by decide) [(2, .int v2), (5, .int (1 : Int32)), (4, .int s0), (0, .ref (gA G 82)), (1, .int v1), (3, .int v3)] rfl 109 rfl ?_
            refine j_iinc C dX7_shortestFor_109 5 rfl (v3 + (1 : Int32)) rfl (by decide) [(3, .int (v3 + (1 : Int32))), (2, .int v2), (5, .int (1 : Int32)), (4, .int s0), (0, .ref (gA G 82)), (1, .int v1)] rfl 112 rfl ?_
            refine j_goto C dX7_shortestFor_112 4 (by decide) ?_
            refine j_sub [(0, .ref (gA G 82)), (1, .int v1), (2, .int v2), (3, .int (v3 + (1 : Int32)))] [4, 5, 1, 0] rfl ?_
            exact hrc _ _ _ _ h
          · have h := it_f c h
            refine j_iload_n C dX7_shortestFor_103 rfl 5 rfl 104 rfl ?_
            refine j_goto C dX7_shortestFor_104 108 (by decide) ?_
            refine j_istore_n C dX7_shortestFor_108 rfl (by decide) [(2, .int v3), (5, .int (1 : Int32)), (4, .int s0), (0, .ref (gA G 82)), (1, .int v1), (3, .int v3)] rfl 109 rfl ?_
            refine j_iinc C dX7_shortestFor_109 5 rfl (v3 + (1 : Int32)) rfl (by decide) [(3, .int (v3 + (1 : Int32))), (2, .int v3), (5, .int (1 : Int32)), (4, .int s0), (0, .ref (gA G 82)), (1, .int v1)] rfl 112 rfl ?_
            refine j_goto C dX7_shortestFor_112 4 (by decide) ?_
            refine j_sub [(0, .ref (gA G 82)), (1, .int v1), (2, .int v3), (3, .int (v3 + (1 : Int32)))] [4, 5, 1, 0] rfl ?_
            exact hrc _ _ _ _ h
def X7_shortestFor_4 (K : Mem → Int32 → Option (Mem × Int32)) : Nat → Mem → Int32 → Int32 → Int32 → Option (Mem × Int32)
  | 0, _, _, _, _ => none
  | fu + 1, σ, v1, v2, v3 => (if (σ.1 83 1) ≤ v3 then K σ v2 else (if v2 = (-1 : Int32) then X7_shortestFor_51 K (X7_shortestFor_4 K fu) σ v1 v2 v3 (1 : Int32) else ((X7_of σ v2 (0 : Int32)).bind fun q1 => ((X7_of q1.1 v3 (0 : Int32)).bind fun q3 => ((X7_keysOfEntry q3.1 v2).bind fun q5 => ((X7_keysOfEntry q5.1 v3).bind fun q7 => X7_shortestFor_51 K (X7_shortestFor_4 K fu) q7.1 v1 v2 v3 ((((100 : Int32) * (q1.2 - q3.2)) + q5.2) - q7.2)))))))
set_option maxHeartbeats 4000000 in
set_option maxRecDepth 100000 in
theorem w_X7_shortestFor_4 {E : Ev} {G : Gw} (C : Cx E G RX7 cX7_shortestFor 6 { frames := 3, cells := 0, slots := 0, locals := 70 }) {out : Mem × Int32} (F : Ef E G out.1 (some (.int out.2)) (some .int) 0 0)  {K : Mem → Int32 → Option (Mem × Int32)} (hK : ∀ (σ : Mem) (v2 : Int32), K σ v2 = some out → J E G 6 0 0 σ 115 [(2, .int v2)] []) : ∀ (fu : Nat) (σ : Mem) (v1 : Int32) (v2 : Int32) (v3 : Int32), X7_shortestFor_4 K fu σ v1 v2 v3 = some out → J E G 6 0 0 σ 4 [(0, .ref (gA G 82)), (1, .int v1), (2, .int v2), (3, .int v3)] [] := by
  intro fu
  induction fu with
  | zero => intro σ v1 v2 v3 h; rw [X7_shortestFor_4] at h; cases h
  | succ fu ih =>
    intro σ v1 v2 v3 h
    rw [X7_shortestFor_4] at h
    refine j_iload_n C dX7_shortestFor_4 rfl 3 rfl 5 rfl ?_
    refine j_aload_n C dX7_shortestFor_5 rfl 0 rfl 6 rfl ?_
    refine j_get C foX7 sh82 1 (by decide) 85 rfl kw4_183 rfl dX7_shortestFor_6 (.ref (gA G 83)) (fv_r rfl) 9 rfl ?_
    refine j_iconst C dX7_shortestFor_9 (1 : Int32) (by decide) 10 rfl ?_
    refine j_iald C sh83 (by decide) dX7_shortestFor_10 1 rfl 11 rfl ?_
    refine j_icmp_ge C dX7_shortestFor_11 115 (by decide) 14 rfl (fun c => ?_) (fun c => ?_)
    · have h := it_t c h
      refine j_sub [(2, .int v2)] [2] rfl ?_
      exact hK _ _ h
    · have h := it_f c h
      refine j_iload_n C dX7_shortestFor_14 rfl 2 rfl 15 rfl ?_
      refine j_iconst C dX7_shortestFor_15 (-1 : Int32) (by decide) 16 rfl ?_
      refine j_icmp_ne C dX7_shortestFor_16 23 (by decide) 19 rfl (fun c => ?_) (fun c => ?_)
      · have h := it_f c h
        refine j_bipush C dX7_shortestFor_23 (100 : Int32) (by decide) 25 rfl ?_
        refine j_aload_n C dX7_shortestFor_25 rfl 0 rfl 26 rfl ?_
        refine j_iload_n C dX7_shortestFor_26 rfl 2 rfl 27 rfl ?_
        refine j_iconst C dX7_shortestFor_27 (0 : Int32) (by decide) 28 rfl ?_
        obtain ⟨q1, e2, h⟩ := ob_some h
        refine j_callV C (ct_X7_of (eL E) G  e2) sh82 foX7 rfl vk_X7_of kw5_40 rfl ⟨Nat.le_of_ble_eq_true rfl, Nat.le_of_ble_eq_true rfl, rfl, rfl⟩ ⟨Nat.zero_le _, Nat.zero_le _⟩ (rest := [.int (100 : Int32)]) rfl (Nat.le_of_ble_eq_true rfl) dX7_shortestFor_28 (st1 := [.int q1.2, .int (100 : Int32)]) rfl 31 rfl ?_
        refine j_aload_n C dX7_shortestFor_31 rfl 0 rfl 32 rfl ?_
        refine j_iload_n C dX7_shortestFor_32 rfl 3 rfl 33 rfl ?_
        refine j_iconst C dX7_shortestFor_33 (0 : Int32) (by decide) 34 rfl ?_
        obtain ⟨q3, e4, h⟩ := ob_some h
        refine j_callV C (ct_X7_of (eL E) G  e4) sh82 foX7 rfl vk_X7_of kw5_40 rfl ⟨Nat.le_of_ble_eq_true rfl, Nat.le_of_ble_eq_true rfl, rfl, rfl⟩ ⟨Nat.zero_le _, Nat.zero_le _⟩ (rest := [.int q1.2, .int (100 : Int32)]) rfl (Nat.le_of_ble_eq_true rfl) dX7_shortestFor_34 (st1 := [.int q3.2, .int q1.2, .int (100 : Int32)]) rfl 37 rfl ?_
        refine j_isub C dX7_shortestFor_37 38 rfl ?_
        refine j_imul C dX7_shortestFor_38 39 rfl ?_
        refine j_aload_n C dX7_shortestFor_39 rfl 0 rfl 40 rfl ?_
        refine j_iload_n C dX7_shortestFor_40 rfl 2 rfl 41 rfl ?_
        obtain ⟨q5, e6, h⟩ := ob_some h
        refine j_callV C (ct_X7_keysOfEntry (eL E) G  e6) sh82 foX7 rfl vk_X7_keysOfEntry kw5_159 rfl ⟨Nat.le_of_ble_eq_true rfl, Nat.le_of_ble_eq_true rfl, rfl, rfl⟩ ⟨Nat.zero_le _, Nat.zero_le _⟩ (rest := [.int ((100 : Int32) * (q1.2 - q3.2))]) rfl (Nat.le_of_ble_eq_true rfl) dX7_shortestFor_41 (st1 := [.int q5.2, .int ((100 : Int32) * (q1.2 - q3.2))]) rfl 44 rfl ?_
        refine j_iadd C dX7_shortestFor_44 45 rfl ?_
        refine j_aload_n C dX7_shortestFor_45 rfl 0 rfl 46 rfl ?_
        refine j_iload_n C dX7_shortestFor_46 rfl 3 rfl 47 rfl ?_
        obtain ⟨q7, e8, h⟩ := ob_some h
        refine j_callV C (ct_X7_keysOfEntry (eL E) G  e8) sh82 foX7 rfl vk_X7_keysOfEntry kw5_159 rfl ⟨Nat.le_of_ble_eq_true rfl, Nat.le_of_ble_eq_true rfl, rfl, rfl⟩ ⟨Nat.zero_le _, Nat.zero_le _⟩ (rest := [.int (((100 : Int32) * (q1.2 - q3.2)) + q5.2)]) rfl (Nat.le_of_ble_eq_true rfl) dX7_shortestFor_47 (st1 := [.int q7.2, .int (((100 : Int32) * (q1.2 - q3.2)) + q5.2)]) rfl 50 rfl ?_
        refine j_isub C dX7_shortestFor_50 51 rfl ?_
        exact w_X7_shortestFor_51 C F  hK ih _ _ _ _ _ h
      · have h := it_t c h
        refine j_iconst C dX7_shortestFor_19 (1 : Int32) (by decide) 20 rfl ?_
        refine j_goto C dX7_shortestFor_20 51 (by decide) ?_
        exact w_X7_shortestFor_51 C F  hK ih _ _ _ _ _ h
def X7_shortestFor (σ : Mem) (p1 : Int32) : Option (Mem × Int32) :=
  X7_shortestFor_4 (fun (σ : Mem) (v2 : Int32) => some (σ, v2)) FU σ p1 (-1 : Int32) (0 : Int32)
set_option maxHeartbeats 4000000 in
set_option maxRecDepth 100000 in
theorem ct_X7_shortestFor (l : Launch) (G : Gw)  {σ : Mem} {p1 : Int32} {out : Mem × Int32} (h : X7_shortestFor σ p1 = some out) : Ct l G yX7_shortestFor cX7_shortestFor 6 (some .int) { frames := 3, cells := 0, slots := 0, locals := 70 } [.ref (gA G 82), .int p1] σ out.1 (some (.int out.2)) := by
  refine Ct.of (by decide +kernel) (Nat.le_of_ble_eq_true rfl) (fun E hE C F => ?_)
  subst hE
  have C : Cx E G RX7 cX7_shortestFor 6 { frames := 3, cells := 0, slots := 0, locals := 70 } := C
  unfold X7_shortestFor at h
  show J E G 6 0 0 σ 0 [(0, .ref (gA G 82)), (1, .int p1)] []
  refine j_iconst C dX7_shortestFor_0 (-1 : Int32) (by decide) 1 rfl ?_
  refine j_istore_n C dX7_shortestFor_1 rfl (by decide) [(2, .int (-1 : Int32)), (0, .ref (gA G 82)), (1, .int p1)] rfl 2 rfl ?_
  refine j_iconst C dX7_shortestFor_2 (0 : Int32) (by decide) 3 rfl ?_
  refine j_istore_n C dX7_shortestFor_3 rfl (by decide) [(3, .int (0 : Int32)), (2, .int (-1 : Int32)), (0, .ref (gA G 82)), (1, .int p1)] rfl 4 rfl ?_
  refine j_sub [(0, .ref (gA G 82)), (1, .int p1), (2, .int (-1 : Int32)), (3, .int (0 : Int32))] [2, 3, 1, 0] rfl ?_
  refine w_X7_shortestFor_4 C F  (fun σ v2 h => ?_) FU _ _ _ _ h
  refine j_iload_n C dX7_shortestFor_115 rfl 0 rfl 116 rfl ?_
  exact j_iret C F dX7_shortestFor_116 h

-- ===== StenoChordsModel.shortest(I)I
theorem vk_X7_shortest : VK yX7_shortest cX7_shortest 2 (some .int) 1 := ⟨kw5_194, kw5_192, kw5_193, kw1_9, by decide +kernel⟩
def X7_shortest (σ : Mem) (p1 : Int32) : Option (Mem × Int32) :=
  ((X7_in σ p1 (0 : Int32) (99 : Int32)).bind fun q1 => (if q1.2 = 0 then ((X7_holds q1.1 (1 : Int32)).bind fun q3 => (if q3.2 = 0 then some (q3.1, (0 : Int32)) else ((X7_shortestFor q3.1 p1).bind fun q5 => some (q5.1, q5.2)))) else ((X7_holds q1.1 (0 : Int32)).bind fun q7 => (if q7.2 = 0 then some (q7.1, (0 : Int32)) else ((X7_shortestFor q7.1 p1).bind fun q9 => some (q9.1, q9.2))))))
set_option maxHeartbeats 4000000 in
set_option maxRecDepth 100000 in
theorem ct_X7_shortest (l : Launch) (G : Gw)  {σ : Mem} {p1 : Int32} {out : Mem × Int32} (h : X7_shortest σ p1 = some out) : Ct l G yX7_shortest cX7_shortest 2 (some .int) { frames := 4, cells := 0, slots := 0, locals := 95 } [.ref (gA G 82), .int p1] σ out.1 (some (.int out.2)) := by
  refine Ct.of (by decide +kernel) (Nat.le_of_ble_eq_true rfl) (fun E hE C F => ?_)
  subst hE
  have C : Cx E G RX7 cX7_shortest 2 { frames := 4, cells := 0, slots := 0, locals := 95 } := C
  unfold X7_shortest at h
  show J E G 2 0 0 σ 0 [(0, .ref (gA G 82)), (1, .int p1)] []
  refine j_aload_n C dX7_shortest_0 rfl 0 rfl 1 rfl ?_
  refine j_iload_n C dX7_shortest_1 rfl 1 rfl 2 rfl ?_
  refine j_iconst C dX7_shortest_2 (0 : Int32) (by decide) 3 rfl ?_
  refine j_bipush C dX7_shortest_3 (99 : Int32) (by decide) 5 rfl ?_
  obtain ⟨q1, e2, h⟩ := ob_some h
  refine j_callS C (ct_X7_in (eL E) G  e2) vk_X7_in kw5_2 rfl ⟨Nat.le_of_ble_eq_true rfl, Nat.le_of_ble_eq_true rfl, rfl, rfl⟩ ⟨Nat.zero_le _, Nat.zero_le _⟩ (rest := [.ref (gA G 82)]) rfl (Nat.le_of_ble_eq_true rfl) dX7_shortest_5 (st1 := [.int q1.2, .ref (gA G 82)]) rfl 8 rfl ?_
  refine j_if_eq C dX7_shortest_8 15 (by decide) 11 rfl (fun c => ?_) (fun c => ?_)
  · have h := it_t c h
    refine j_iconst C dX7_shortest_15 (1 : Int32) (by decide) 16 rfl ?_
    obtain ⟨q3, e4, h⟩ := ob_some h
    refine j_callV C (ct_X7_holds (eL E) G  e4) sh82 foX7 rfl vk_X7_holds kw5_9 rfl ⟨Nat.le_of_ble_eq_true rfl, Nat.le_of_ble_eq_true rfl, rfl, rfl⟩ ⟨Nat.zero_le _, Nat.zero_le _⟩ (rest := []) rfl (Nat.le_of_ble_eq_true rfl) dX7_shortest_16 (st1 := [.int q3.2]) rfl 19 rfl ?_
    refine j_if_eq C dX7_shortest_19 30 (by decide) 22 rfl (fun c => ?_) (fun c => ?_)
    · have h := it_t c h
      refine j_iconst C dX7_shortest_30 (0 : Int32) (by decide) 31 rfl ?_
      exact j_iret C F dX7_shortest_31 h
    · have h := it_f c h
      refine j_aload_n C dX7_shortest_22 rfl 0 rfl 23 rfl ?_
      refine j_iload_n C dX7_shortest_23 rfl 1 rfl 24 rfl ?_
      obtain ⟨q5, e6, h⟩ := ob_some h
      refine j_callV C (ct_X7_shortestFor (eL E) G  e6) sh82 foX7 rfl vk_X7_shortestFor kw5_195 rfl ⟨Nat.le_of_ble_eq_true rfl, Nat.le_of_ble_eq_true rfl, rfl, rfl⟩ ⟨Nat.zero_le _, Nat.zero_le _⟩ (rest := []) rfl (Nat.le_of_ble_eq_true rfl) dX7_shortest_24 (st1 := [.int q5.2]) rfl 27 rfl ?_
      refine j_goto C dX7_shortest_27 31 (by decide) ?_
      exact j_iret C F dX7_shortest_31 h
  · have h := it_f c h
    refine j_iconst C dX7_shortest_11 (0 : Int32) (by decide) 12 rfl ?_
    refine j_goto C dX7_shortest_12 16 (by decide) ?_
    obtain ⟨q7, e8, h⟩ := ob_some h
    refine j_callV C (ct_X7_holds (eL E) G  e8) sh82 foX7 rfl vk_X7_holds kw5_9 rfl ⟨Nat.le_of_ble_eq_true rfl, Nat.le_of_ble_eq_true rfl, rfl, rfl⟩ ⟨Nat.zero_le _, Nat.zero_le _⟩ (rest := []) rfl (Nat.le_of_ble_eq_true rfl) dX7_shortest_16 (st1 := [.int q7.2]) rfl 19 rfl ?_
    refine j_if_eq C dX7_shortest_19 30 (by decide) 22 rfl (fun c => ?_) (fun c => ?_)
    · have h := it_t c h
      refine j_iconst C dX7_shortest_30 (0 : Int32) (by decide) 31 rfl ?_
      exact j_iret C F dX7_shortest_31 h
    · have h := it_f c h
      refine j_aload_n C dX7_shortest_22 rfl 0 rfl 23 rfl ?_
      refine j_iload_n C dX7_shortest_23 rfl 1 rfl 24 rfl ?_
      obtain ⟨q9, e10, h⟩ := ob_some h
      refine j_callV C (ct_X7_shortestFor (eL E) G  e10) sh82 foX7 rfl vk_X7_shortestFor kw5_195 rfl ⟨Nat.le_of_ble_eq_true rfl, Nat.le_of_ble_eq_true rfl, rfl, rfl⟩ ⟨Nat.zero_le _, Nat.zero_le _⟩ (rest := []) rfl (Nat.le_of_ble_eq_true rfl) dX7_shortest_24 (st1 := [.int q9.2]) rfl 27 rfl ?_
      refine j_goto C dX7_shortest_27 31 (by decide) ?_
      exact j_iret C F dX7_shortest_31 h

-- ===== StenoChordsModel.pairOf(II)I
theorem vk_X7_pairOf : VK yX7_pairOf cX7_pairOf 5 (some .int) 2 := ⟨kw5_206, kw5_205, kwS_50, kw1_9, by decide +kernel⟩
def X7_pairOf_22 (K : Mem → Int32 → Option (Mem × Int32)) : Nat → Mem → Int32 → Int32 → Int32 → Int32 → Option (Mem × Int32)
  | 0, _, _, _, _, _ => none
  | fu + 1, σ, v1, v2, v3, v4 => (if (σ.1 82 10) ≤ v4 then K σ v3 else (if v3 ≤ v4 then ((X7_of σ v2 (((1 : Int32) + v4) - v3)).bind fun q7 => (if inA v4 61 then ((some (setI q7.1 86 v4.toNatClampNeg q7.2)).bind fun σ9 => X7_pairOf_22 K fu σ9 v1 v2 v3 (v4 + (1 : Int32))) else none)) else ((X7_of σ v1 ((1 : Int32) + v4)).bind fun q11 => (if inA v4 61 then ((some (setI q11.1 86 v4.toNatClampNeg q11.2)).bind fun σ13 => X7_pairOf_22 K fu σ13 v1 v2 v3 (v4 + (1 : Int32))) else none))))
set_option maxHeartbeats 4000000 in
set_option maxRecDepth 100000 in
theorem w_X7_pairOf_22 {E : Ev} {G : Gw} (C : Cx E G RX7 cX7_pairOf 5 { frames := 5, cells := 0, slots := 0, locals := 116 }) {out : Mem × Int32} (F : Ef E G out.1 (some (.int out.2)) (some .int) 0 0)  {K : Mem → Int32 → Option (Mem × Int32)} (hK : ∀ (σ : Mem) (v3 : Int32), K σ v3 = some out → J E G 5 0 0 σ 73 [(0, .ref (gA G 82)), (3, .int v3)] []) : ∀ (fu : Nat) (σ : Mem) (v1 : Int32) (v2 : Int32) (v3 : Int32) (v4 : Int32), X7_pairOf_22 K fu σ v1 v2 v3 v4 = some out → J E G 5 0 0 σ 22 [(0, .ref (gA G 82)), (1, .int v1), (2, .int v2), (3, .int v3), (4, .int v4)] [] := by
  intro fu
  induction fu with
  | zero => intro σ v1 v2 v3 v4 h; rw [X7_pairOf_22] at h; cases h
  | succ fu ih =>
    intro σ v1 v2 v3 v4 h
    rw [X7_pairOf_22] at h
    refine j_iload C dX7_pairOf_22 4 rfl 24 rfl ?_
    refine j_aload_n C dX7_pairOf_24 rfl 0 rfl 25 rfl ?_
    refine j_get C foX7 sh82 10 (by decide) 0 rfl kw4_192 rfl dX7_pairOf_25 (.int (σ.1 82 10)) rfl 28 rfl ?_
    refine j_icmp_ge C dX7_pairOf_28 73 (by decide) 31 rfl (fun c => ?_) (fun c => ?_)
    · have h := it_t c h
      refine j_sub [(0, .ref (gA G 82)), (3, .int v3)] [0, 3] rfl ?_
      exact hK _ _ h
    · have h := it_f c h
      refine j_aload_n C dX7_pairOf_31 rfl 0 rfl 32 rfl ?_
      refine j_get C foX7 sh82 9 (by decide) 88 rfl kw4_191 rfl dX7_pairOf_32 (.ref (gA G 86)) (fv_r rfl) 35 rfl ?_
      refine j_iload C dX7_pairOf_35 4 rfl 37 rfl ?_
      refine j_iload C dX7_pairOf_37 4 rfl 39 rfl ?_
      refine j_iload_n C dX7_pairOf_39 rfl 3 rfl 40 rfl ?_
      refine j_icmp_ge C dX7_pairOf_40 55 (by decide) 43 rfl (fun c => ?_) (fun c => ?_)
      · have h := it_t c h
        refine j_aload_n C dX7_pairOf_55 rfl 0 rfl 56 rfl ?_
        refine j_iload_n C dX7_pairOf_56 rfl 2 rfl 57 rfl ?_
        refine j_iconst C dX7_pairOf_57 (1 : Int32) (by decide) 58 rfl ?_
        refine j_iload C dX7_pairOf_58 4 rfl 60 rfl ?_
        refine j_iadd C dX7_pairOf_60 61 rfl ?_
        refine j_iload_n C dX7_pairOf_61 rfl 3 rfl 62 rfl ?_
        refine j_isub C dX7_pairOf_62 63 rfl ?_
        obtain ⟨q7, e8, h⟩ := ob_some h
        refine j_callV C (ct_X7_of (eL E) G  e8) sh82 foX7 rfl vk_X7_of kw5_40 rfl ⟨Nat.le_of_ble_eq_true rfl, Nat.le_of_ble_eq_true rfl, rfl, rfl⟩ ⟨Nat.zero_le _, Nat.zero_le _⟩ (rest := [.int v4, .ref (gA G 86)]) rfl (Nat.le_of_ble_eq_true rfl) dX7_pairOf_63 (st1 := [.int q7.2, .int v4, .ref (gA G 86)]) rfl 66 rfl ?_
        obtain ⟨hc, h⟩ := if_some h
        obtain ⟨σ9, e10, h⟩ := ob_some h
        refine j_iast C sh86 hc dX7_pairOf_66 v4.toNatClampNeg rfl σ9 (Option.some.inj e10) 67 rfl ?_
        refine j_iinc C dX7_pairOf_67 4 rfl (v4 + (1 : Int32)) rfl (by decide) [(4, .int (v4 + (1 : Int32))), (0, .ref (gA G 82)), (1, .int v1), (2, .int v2), (3, .int v3)] rfl 70 rfl ?_
        refine j_goto C dX7_pairOf_70 22 (by decide) ?_
        refine j_sub [(0, .ref (gA G 82)), (1, .int v1), (2, .int v2), (3, .int v3), (4, .int (v4 + (1 : Int32)))] [1, 2, 3, 4, 0] rfl ?_
        exact ih _ _ _ _ _ h
      · have h := it_f c h
        refine j_aload_n C dX7_pairOf_43 rfl 0 rfl 44 rfl ?_
        refine j_iload_n C dX7_pairOf_44 rfl 1 rfl 45 rfl ?_
        refine j_iconst C dX7_pairOf_45 (1 : Int32) (by decide) 46 rfl ?_
        refine j_iload C dX7_pairOf_46 4 rfl 48 rfl ?_
        refine j_iadd C dX7_pairOf_48 49 rfl ?_
        obtain ⟨q11, e12, h⟩ := ob_some h
        refine j_callV C (ct_X7_of (eL E) G  e12) sh82 foX7 rfl vk_X7_of kw5_40 rfl ⟨Nat.le_of_ble_eq_true rfl, Nat.le_of_ble_eq_true rfl, rfl, rfl⟩ ⟨Nat.zero_le _, Nat.zero_le _⟩ (rest := [.int v4, .ref (gA G 86)]) rfl (Nat.le_of_ble_eq_true rfl) dX7_pairOf_49 (st1 := [.int q11.2, .int v4, .ref (gA G 86)]) rfl 52 rfl ?_
        refine j_goto C dX7_pairOf_52 66 (by decide) ?_
        obtain ⟨hc, h⟩ := if_some h
        obtain ⟨σ13, e14, h⟩ := ob_some h
        refine j_iast C sh86 hc dX7_pairOf_66 v4.toNatClampNeg rfl σ13 (Option.some.inj e14) 67 rfl ?_
        refine j_iinc C dX7_pairOf_67 4 rfl (v4 + (1 : Int32)) rfl (by decide) [(4, .int (v4 + (1 : Int32))), (0, .ref (gA G 82)), (1, .int v1), (2, .int v2), (3, .int v3)] rfl 70 rfl ?_
        refine j_goto C dX7_pairOf_70 22 (by decide) ?_
        refine j_sub [(0, .ref (gA G 82)), (1, .int v1), (2, .int v2), (3, .int v3), (4, .int (v4 + (1 : Int32)))] [1, 2, 3, 4, 0] rfl ?_
        exact ih _ _ _ _ _ h
def X7_pairOf (σ : Mem) (p1 : Int32) (p2 : Int32) : Option (Mem × Int32) :=
  ((X7_of σ p1 (0 : Int32)).bind fun q1 => ((X7_of q1.1 p2 (0 : Int32)).bind fun q3 => ((some (setI q3.1 82 10 (q1.2 + q3.2))).bind fun σ5 => X7_pairOf_22 (fun (σ : Mem) (v3 : Int32) => ((X7_reads σ).bind fun q15 => (if (q15.1.1 82 14) = (2 : Int32) then (if (q15.1.1 89 0) = (-1 : Int32) then (if (q15.1.1 82 14) = (1 : Int32) then some (q15.1, (1 : Int32)) else (if (0 : Int32) = 0 then some (q15.1, (2 : Int32)) else some (q15.1, (0 : Int32)))) else (if (q15.1.1 89 1) = (-1 : Int32) then (if (q15.1.1 82 14) = (1 : Int32) then some (q15.1, (1 : Int32)) else (if (0 : Int32) = 0 then some (q15.1, (2 : Int32)) else some (q15.1, (0 : Int32)))) else (if (q15.1.1 88 0) = v3 then (if (q15.1.1 82 14) = (1 : Int32) then some (q15.1, (1 : Int32)) else (if (1 : Int32) = 0 then some (q15.1, (2 : Int32)) else some (q15.1, (0 : Int32)))) else (if (q15.1.1 82 14) = (1 : Int32) then some (q15.1, (1 : Int32)) else (if (0 : Int32) = 0 then some (q15.1, (2 : Int32)) else some (q15.1, (0 : Int32))))))) else (if (q15.1.1 82 14) = (1 : Int32) then some (q15.1, (1 : Int32)) else (if (0 : Int32) = 0 then some (q15.1, (2 : Int32)) else some (q15.1, (0 : Int32))))))) FU σ5 p1 p2 q1.2 (0 : Int32))))
set_option maxHeartbeats 4000000 in
set_option maxRecDepth 100000 in
theorem ct_X7_pairOf (l : Launch) (G : Gw)  {σ : Mem} {p1 : Int32} {p2 : Int32} {out : Mem × Int32} (h : X7_pairOf σ p1 p2 = some out) : Ct l G yX7_pairOf cX7_pairOf 5 (some .int) { frames := 5, cells := 0, slots := 0, locals := 116 } [.ref (gA G 82), .int p1, .int p2] σ out.1 (some (.int out.2)) := by
  refine Ct.of (by decide +kernel) (Nat.le_of_ble_eq_true rfl) (fun E hE C F => ?_)
  subst hE
  have C : Cx E G RX7 cX7_pairOf 5 { frames := 5, cells := 0, slots := 0, locals := 116 } := C
  unfold X7_pairOf at h
  show J E G 5 0 0 σ 0 [(0, .ref (gA G 82)), (1, .int p1), (2, .int p2)] []
  refine j_aload_n C dX7_pairOf_0 rfl 0 rfl 1 rfl ?_
  refine j_iload_n C dX7_pairOf_1 rfl 1 rfl 2 rfl ?_
  refine j_iconst C dX7_pairOf_2 (0 : Int32) (by decide) 3 rfl ?_
  obtain ⟨q1, e2, h⟩ := ob_some h
  refine j_callV C (ct_X7_of (eL E) G  e2) sh82 foX7 rfl vk_X7_of kw5_40 rfl ⟨Nat.le_of_ble_eq_true rfl, Nat.le_of_ble_eq_true rfl, rfl, rfl⟩ ⟨Nat.zero_le _, Nat.zero_le _⟩ (rest := []) rfl (Nat.le_of_ble_eq_true rfl) dX7_pairOf_3 (st1 := [.int q1.2]) rfl 6 rfl ?_
  refine j_istore_n C dX7_pairOf_6 rfl (by decide) [(3, .int q1.2), (0, .ref (gA G 82)), (1, .int p1), (2, .int p2)] rfl 7 rfl ?_
  refine j_aload_n C dX7_pairOf_7 rfl 1 rfl 8 rfl ?_
  refine j_iload_n C dX7_pairOf_8 rfl 0 rfl 9 rfl ?_
  refine j_aload_n C dX7_pairOf_9 rfl 1 rfl 10 rfl ?_
  refine j_iload_n C dX7_pairOf_10 rfl 3 rfl 11 rfl ?_
  refine j_iconst C dX7_pairOf_11 (0 : Int32) (by decide) 12 rfl ?_
  obtain ⟨q3, e4, h⟩ := ob_some h
  refine j_callV C (ct_X7_of (eL E) G  e4) sh82 foX7 rfl vk_X7_of kw5_40 rfl ⟨Nat.le_of_ble_eq_true rfl, Nat.le_of_ble_eq_true rfl, rfl, rfl⟩ ⟨Nat.zero_le _, Nat.zero_le _⟩ (rest := [.int q1.2, .ref (gA G 82)]) rfl (Nat.le_of_ble_eq_true rfl) dX7_pairOf_12 (st1 := [.int q3.2, .int q1.2, .ref (gA G 82)]) rfl 15 rfl ?_
  refine j_iadd C dX7_pairOf_15 16 rfl ?_
  obtain ⟨σ5, e6, h⟩ := ob_some h
  refine j_putI C foX7 sh82 10 (by decide) rfl kw4_192 rfl rfl rfl rfl dX7_pairOf_16 σ5 (Option.some.inj e6) 19 rfl ?_
  refine j_iconst C dX7_pairOf_19 (0 : Int32) (by decide) 20 rfl ?_
  refine j_istore C dX7_pairOf_20 (by decide) [(4, .int (0 : Int32)), (3, .int q1.2), (0, .ref (gA G 82)), (1, .int p1), (2, .int p2)] rfl 22 rfl ?_
  refine j_sub [(0, .ref (gA G 82)), (1, .int p1), (2, .int p2), (3, .int q1.2), (4, .int (0 : Int32))] [2, 3, 4, 1, 0] rfl ?_
  refine w_X7_pairOf_22 C F  (fun σ v3 h => ?_) FU _ _ _ _ _ h
  refine j_aload_n C dX7_pairOf_73 rfl 0 rfl 74 rfl ?_
  obtain ⟨q15, e16, h⟩ := ob_some h
  refine j_callV C (ct_X7_reads (eL E) G  e16) sh82 foX7 rfl vk_X7_reads kw5_32 rfl ⟨Nat.le_of_ble_eq_true rfl, Nat.le_of_ble_eq_true rfl, rfl, rfl⟩ ⟨Nat.zero_le _, Nat.zero_le _⟩ (rest := []) rfl (Nat.le_of_ble_eq_true rfl) dX7_pairOf_74 (st1 := []) rfl 77 rfl ?_
  refine j_aload_n C dX7_pairOf_77 rfl 0 rfl 78 rfl ?_
  refine j_get C foX7 sh82 14 (by decide) 0 rfl kw4_196 rfl dX7_pairOf_78 (.int (q15.1.1 82 14)) rfl 81 rfl ?_
  refine j_iconst C dX7_pairOf_81 (2 : Int32) (by decide) 82 rfl ?_
  refine j_icmp_ne C dX7_pairOf_82 119 (by decide) 85 rfl (fun c => ?_) (fun c => ?_)
  · have h := it_f c h
    refine j_iconst C dX7_pairOf_119 (0 : Int32) (by decide) 120 rfl ?_
    refine j_istore C dX7_pairOf_120 (by decide) [(4, .int (0 : Int32)), (0, .ref (gA G 82)), (3, .int v3)] rfl 122 rfl ?_
    refine j_aload_n C dX7_pairOf_122 rfl 1 rfl 123 rfl ?_
    refine j_get C foX7 sh82 14 (by decide) 0 rfl kw4_196 rfl dX7_pairOf_123 (.int (q15.1.1 82 14)) rfl 126 rfl ?_
    refine j_iconst C dX7_pairOf_126 (1 : Int32) (by decide) 127 rfl ?_
    refine j_icmp_ne C dX7_pairOf_127 134 (by decide) 130 rfl (fun c => ?_) (fun c => ?_)
    · have h := it_f c h
      refine j_iload C dX7_pairOf_134 0 rfl 136 rfl ?_
      refine j_if_eq C dX7_pairOf_136 143 (by decide) 139 rfl (fun c => ?_) (fun c => ?_)
      · have h := it_t c h
        refine j_iconst C dX7_pairOf_143 (2 : Int32) (by decide) 144 rfl ?_
        exact j_iret C F dX7_pairOf_144 h
      · have h := it_f c h
        refine j_iconst C dX7_pairOf_139 (0 : Int32) (by decide) 140 rfl ?_
        refine j_goto C dX7_pairOf_140 144 (by decide) ?_
        exact j_iret C F dX7_pairOf_144 h
    · have h := it_t c h
      refine j_iconst C dX7_pairOf_130 (1 : Int32) (by decide) 131 rfl ?_
      refine j_goto C dX7_pairOf_131 144 (by decide) ?_
      exact j_iret C F dX7_pairOf_144 h
  · have h := it_t c h
    refine j_aload_n C dX7_pairOf_85 rfl 0 rfl 86 rfl ?_
    refine j_get C foX7 sh82 13 (by decide) 91 rfl kw4_195 rfl dX7_pairOf_86 (.ref (gA G 89)) (fv_r rfl) 89 rfl ?_
    refine j_iconst C dX7_pairOf_89 (0 : Int32) (by decide) 90 rfl ?_
    refine j_iald C sh89 (by decide) dX7_pairOf_90 0 rfl 91 rfl ?_
    refine j_iconst C dX7_pairOf_91 (-1 : Int32) (by decide) 92 rfl ?_
    refine j_icmp_eq C dX7_pairOf_92 119 (by decide) 95 rfl (fun c => ?_) (fun c => ?_)
    · have h := it_t c h
      refine j_iconst C dX7_pairOf_119 (0 : Int32) (by decide) 120 rfl ?_
      refine j_istore C dX7_pairOf_120 (by decide) [(4, .int (0 : Int32)), (0, .ref (gA G 82)), (3, .int v3)] rfl 122 rfl ?_
      refine j_aload_n C dX7_pairOf_122 rfl 1 rfl 123 rfl ?_
      refine j_get C foX7 sh82 14 (by decide) 0 rfl kw4_196 rfl dX7_pairOf_123 (.int (q15.1.1 82 14)) rfl 126 rfl ?_
      refine j_iconst C dX7_pairOf_126 (1 : Int32) (by decide) 127 rfl ?_
      refine j_icmp_ne C dX7_pairOf_127 134 (by decide) 130 rfl (fun c => ?_) (fun c => ?_)
      · have h := it_f c h
        refine j_iload C dX7_pairOf_134 0 rfl 136 rfl ?_
        refine j_if_eq C dX7_pairOf_136 143 (by decide) 139 rfl (fun c => ?_) (fun c => ?_)
        · have h := it_t c h
          refine j_iconst C dX7_pairOf_143 (2 : Int32) (by decide) 144 rfl ?_
          exact j_iret C F dX7_pairOf_144 h
        · have h := it_f c h
          refine j_iconst C dX7_pairOf_139 (0 : Int32) (by decide) 140 rfl ?_
          refine j_goto C dX7_pairOf_140 144 (by decide) ?_
          exact j_iret C F dX7_pairOf_144 h
      · have h := it_t c h
        refine j_iconst C dX7_pairOf_130 (1 : Int32) (by decide) 131 rfl ?_
        refine j_goto C dX7_pairOf_131 144 (by decide) ?_
        exact j_iret C F dX7_pairOf_144 h
    · have h := it_f c h
      refine j_aload_n C dX7_pairOf_95 rfl 0 rfl 96 rfl ?_
      refine j_get C foX7 sh82 13 (by decide) 91 rfl kw4_195 rfl dX7_pairOf_96 (.ref (gA G 89)) (fv_r rfl) 99 rfl ?_
      refine j_iconst C dX7_pairOf_99 (1 : Int32) (by decide) 100 rfl ?_
      refine j_iald C sh89 (by decide) dX7_pairOf_100 1 rfl 101 rfl ?_
      refine j_iconst C dX7_pairOf_101 (-1 : Int32) (by decide) 102 rfl ?_
      refine j_icmp_eq C dX7_pairOf_102 119 (by decide) 105 rfl (fun c => ?_) (fun c => ?_)
      · have h := it_t c h
        refine j_iconst C dX7_pairOf_119 (0 : Int32) (by decide) 120 rfl ?_
        refine j_istore C dX7_pairOf_120 (by decide) [(4, .int (0 : Int32)), (0, .ref (gA G 82)), (3, .int v3)] rfl 122 rfl ?_
        refine j_aload_n C dX7_pairOf_122 rfl 1 rfl 123 rfl ?_
        refine j_get C foX7 sh82 14 (by decide) 0 rfl kw4_196 rfl dX7_pairOf_123 (.int (q15.1.1 82 14)) rfl 126 rfl ?_
        refine j_iconst C dX7_pairOf_126 (1 : Int32) (by decide) 127 rfl ?_
        refine j_icmp_ne C dX7_pairOf_127 134 (by decide) 130 rfl (fun c => ?_) (fun c => ?_)
        · have h := it_f c h
          refine j_iload C dX7_pairOf_134 0 rfl 136 rfl ?_
          refine j_if_eq C dX7_pairOf_136 143 (by decide) 139 rfl (fun c => ?_) (fun c => ?_)
          · have h := it_t c h
            refine j_iconst C dX7_pairOf_143 (2 : Int32) (by decide) 144 rfl ?_
            exact j_iret C F dX7_pairOf_144 h
          · have h := it_f c h
            refine j_iconst C dX7_pairOf_139 (0 : Int32) (by decide) 140 rfl ?_
            refine j_goto C dX7_pairOf_140 144 (by decide) ?_
            exact j_iret C F dX7_pairOf_144 h
        · have h := it_t c h
          refine j_iconst C dX7_pairOf_130 (1 : Int32) (by decide) 131 rfl ?_
          refine j_goto C dX7_pairOf_131 144 (by decide) ?_
          exact j_iret C F dX7_pairOf_144 h
      · have h := it_f c h
        refine j_aload_n C dX7_pairOf_105 rfl 0 rfl 106 rfl ?_
        refine j_get C foX7 sh82 12 (by decide) 90 rfl kw4_194 rfl dX7_pairOf_106 (.ref (gA G 88)) (fv_r rfl) 109 rfl ?_
        refine j_iconst C dX7_pairOf_109 (0 : Int32) (by decide) 110 rfl ?_
        refine j_iald C sh88 (by decide) dX7_pairOf_110 0 rfl 111 rfl ?_
        refine j_iload_n C dX7_pairOf_111 rfl 1 rfl 112 rfl ?_
        refine j_icmp_ne C dX7_pairOf_112 119 (by decide) 115 rfl (fun c => ?_) (fun c => ?_)
        · have h := it_f c h
          refine j_iconst C dX7_pairOf_119 (0 : Int32) (by decide) 120 rfl ?_
          refine j_istore C dX7_pairOf_120 (by decide) [(4, .int (0 : Int32)), (0, .ref (gA G 82)), (3, .int v3)] rfl 122 rfl ?_
          refine j_aload_n C dX7_pairOf_122 rfl 1 rfl 123 rfl ?_
          refine j_get C foX7 sh82 14 (by decide) 0 rfl kw4_196 rfl dX7_pairOf_123 (.int (q15.1.1 82 14)) rfl 126 rfl ?_
          refine j_iconst C dX7_pairOf_126 (1 : Int32) (by decide) 127 rfl ?_
          refine j_icmp_ne C dX7_pairOf_127 134 (by decide) 130 rfl (fun c => ?_) (fun c => ?_)
          · have h := it_f c h
            refine j_iload C dX7_pairOf_134 0 rfl 136 rfl ?_
            refine j_if_eq C dX7_pairOf_136 143 (by decide) 139 rfl (fun c => ?_) (fun c => ?_)
            · have h := it_t c h
              refine j_iconst C dX7_pairOf_143 (2 : Int32) (by decide) 144 rfl ?_
              exact j_iret C F dX7_pairOf_144 h
            · have h := it_f c h
              refine j_iconst C dX7_pairOf_139 (0 : Int32) (by decide) 140 rfl ?_
              refine j_goto C dX7_pairOf_140 144 (by decide) ?_
              exact j_iret C F dX7_pairOf_144 h
          · have h := it_t c h
            refine j_iconst C dX7_pairOf_130 (1 : Int32) (by decide) 131 rfl ?_
            refine j_goto C dX7_pairOf_131 144 (by decide) ?_
            exact j_iret C F dX7_pairOf_144 h
        · have h := it_t c h
          refine j_iconst C dX7_pairOf_115 (1 : Int32) (by decide) 116 rfl ?_
          refine j_goto C dX7_pairOf_116 120 (by decide) ?_
          refine j_istore C dX7_pairOf_120 (by decide) [(4, .int (1 : Int32)), (0, .ref (gA G 82)), (3, .int v3)] rfl 122 rfl ?_
          refine j_aload_n C dX7_pairOf_122 rfl 1 rfl 123 rfl ?_
          refine j_get C foX7 sh82 14 (by decide) 0 rfl kw4_196 rfl dX7_pairOf_123 (.int (q15.1.1 82 14)) rfl 126 rfl ?_
          refine j_iconst C dX7_pairOf_126 (1 : Int32) (by decide) 127 rfl ?_
          refine j_icmp_ne C dX7_pairOf_127 134 (by decide) 130 rfl (fun c => ?_) (fun c => ?_)
          · have h := it_f c h
            refine j_iload C dX7_pairOf_134 0 rfl 136 rfl ?_
            refine j_if_eq C dX7_pairOf_136 143 (by decide) 139 rfl (fun c => ?_) (fun c => ?_)
            · have h := it_t c h
              refine j_iconst C dX7_pairOf_143 (2 : Int32) (by decide) 144 rfl ?_
              exact j_iret C F dX7_pairOf_144 h
            · have h := it_f c h
              refine j_iconst C dX7_pairOf_139 (0 : Int32) (by decide) 140 rfl ?_
              refine j_goto C dX7_pairOf_140 144 (by decide) ?_
              exact j_iret C F dX7_pairOf_144 h
          · have h := it_t c h
            refine j_iconst C dX7_pairOf_130 (1 : Int32) (by decide) 131 rfl ?_
            refine j_goto C dX7_pairOf_131 144 (by decide) ?_
            exact j_iret C F dX7_pairOf_144 h

-- ===== StenoChordsModel.behind(II)I
theorem vk_X7_behind : VK yX7_behind cX7_behind 3 (some .int) 2 := ⟨kw5_202, kw5_200, kw5_201, kw1_9, by decide +kernel⟩
def X7_behind (σ : Mem) (p1 : Int32) (p2 : Int32) : Option (Mem × Int32) :=
  ((X7_isEntry σ p1).bind fun q1 => (if q1.2 = 0 then ((X7_holds q1.1 (1 : Int32)).bind fun q3 => (if q3.2 = 0 then some (q3.1, (0 : Int32)) else ((X7_pairOf q3.1 p1 p2).bind fun q5 => some (q5.1, q5.2)))) else ((X7_isEntry q1.1 p2).bind fun q7 => (if q7.2 = 0 then ((X7_holds q7.1 (1 : Int32)).bind fun q9 => (if q9.2 = 0 then some (q9.1, (0 : Int32)) else ((X7_pairOf q9.1 p1 p2).bind fun q11 => some (q11.1, q11.2)))) else ((X7_holds q7.1 (0 : Int32)).bind fun q13 => (if q13.2 = 0 then some (q13.1, (0 : Int32)) else ((X7_pairOf q13.1 p1 p2).bind fun q15 => some (q15.1, q15.2))))))))
set_option maxHeartbeats 4000000 in
set_option maxRecDepth 100000 in
theorem ct_X7_behind (l : Launch) (G : Gw)  {σ : Mem} {p1 : Int32} {p2 : Int32} {out : Mem × Int32} (h : X7_behind σ p1 p2 = some out) : Ct l G yX7_behind cX7_behind 3 (some .int) { frames := 6, cells := 0, slots := 0, locals := 140 } [.ref (gA G 82), .int p1, .int p2] σ out.1 (some (.int out.2)) := by
  refine Ct.of (by decide +kernel) (Nat.le_of_ble_eq_true rfl) (fun E hE C F => ?_)
  subst hE
  have C : Cx E G RX7 cX7_behind 3 { frames := 6, cells := 0, slots := 0, locals := 140 } := C
  unfold X7_behind at h
  show J E G 3 0 0 σ 0 [(0, .ref (gA G 82)), (1, .int p1), (2, .int p2)] []
  refine j_aload_n C dX7_behind_0 rfl 0 rfl 1 rfl ?_
  refine j_aload_n C dX7_behind_1 rfl 0 rfl 2 rfl ?_
  refine j_iload_n C dX7_behind_2 rfl 1 rfl 3 rfl ?_
  obtain ⟨q1, e2, h⟩ := ob_some h
  refine j_callV C (ct_X7_isEntry (eL E) G  e2) sh82 foX7 rfl vk_X7_isEntry kw5_79 rfl ⟨Nat.le_of_ble_eq_true rfl, Nat.le_of_ble_eq_true rfl, rfl, rfl⟩ ⟨Nat.zero_le _, Nat.zero_le _⟩ (rest := [.ref (gA G 82)]) rfl (Nat.le_of_ble_eq_true rfl) dX7_behind_3 (st1 := [.int q1.2, .ref (gA G 82)]) rfl 6 rfl ?_
  refine j_if_eq C dX7_behind_6 21 (by decide) 9 rfl (fun c => ?_) (fun c => ?_)
  · have h := it_t c h
    refine j_iconst C dX7_behind_21 (1 : Int32) (by decide) 22 rfl ?_
    obtain ⟨q3, e4, h⟩ := ob_some h
    refine j_callV C (ct_X7_holds (eL E) G  e4) sh82 foX7 rfl vk_X7_holds kw5_9 rfl ⟨Nat.le_of_ble_eq_true rfl, Nat.le_of_ble_eq_true rfl, rfl, rfl⟩ ⟨Nat.zero_le _, Nat.zero_le _⟩ (rest := []) rfl (Nat.le_of_ble_eq_true rfl) dX7_behind_22 (st1 := [.int q3.2]) rfl 25 rfl ?_
    refine j_if_eq C dX7_behind_25 37 (by decide) 28 rfl (fun c => ?_) (fun c => ?_)
    · have h := it_t c h
      refine j_iconst C dX7_behind_37 (0 : Int32) (by decide) 38 rfl ?_
      exact j_iret C F dX7_behind_38 h
    · have h := it_f c h
      refine j_aload_n C dX7_behind_28 rfl 0 rfl 29 rfl ?_
      refine j_iload_n C dX7_behind_29 rfl 1 rfl 30 rfl ?_
      refine j_iload_n C dX7_behind_30 rfl 2 rfl 31 rfl ?_
      obtain ⟨q5, e6, h⟩ := ob_some h
      refine j_callV C (ct_X7_pairOf (eL E) G  e6) sh82 foX7 rfl vk_X7_pairOf kw5_203 rfl ⟨Nat.le_of_ble_eq_true rfl, Nat.le_of_ble_eq_true rfl, rfl, rfl⟩ ⟨Nat.zero_le _, Nat.zero_le _⟩ (rest := []) rfl (Nat.le_of_ble_eq_true rfl) dX7_behind_31 (st1 := [.int q5.2]) rfl 34 rfl ?_
      refine j_goto C dX7_behind_34 38 (by decide) ?_
      exact j_iret C F dX7_behind_38 h
  · have h := it_f c h
    refine j_aload_n C dX7_behind_9 rfl 0 rfl 10 rfl ?_
    refine j_iload_n C dX7_behind_10 rfl 2 rfl 11 rfl ?_
    obtain ⟨q7, e8, h⟩ := ob_some h
    refine j_callV C (ct_X7_isEntry (eL E) G  e8) sh82 foX7 rfl vk_X7_isEntry kw5_79 rfl ⟨Nat.le_of_ble_eq_true rfl, Nat.le_of_ble_eq_true rfl, rfl, rfl⟩ ⟨Nat.zero_le _, Nat.zero_le _⟩ (rest := [.ref (gA G 82)]) rfl (Nat.le_of_ble_eq_true rfl) dX7_behind_11 (st1 := [.int q7.2, .ref (gA G 82)]) rfl 14 rfl ?_
    refine j_if_eq C dX7_behind_14 21 (by decide) 17 rfl (fun c => ?_) (fun c => ?_)
    · have h := it_t c h
      refine j_iconst C dX7_behind_21 (1 : Int32) (by decide) 22 rfl ?_
      obtain ⟨q9, e10, h⟩ := ob_some h
      refine j_callV C (ct_X7_holds (eL E) G  e10) sh82 foX7 rfl vk_X7_holds kw5_9 rfl ⟨Nat.le_of_ble_eq_true rfl, Nat.le_of_ble_eq_true rfl, rfl, rfl⟩ ⟨Nat.zero_le _, Nat.zero_le _⟩ (rest := []) rfl (Nat.le_of_ble_eq_true rfl) dX7_behind_22 (st1 := [.int q9.2]) rfl 25 rfl ?_
      refine j_if_eq C dX7_behind_25 37 (by decide) 28 rfl (fun c => ?_) (fun c => ?_)
      · have h := it_t c h
        refine j_iconst C dX7_behind_37 (0 : Int32) (by decide) 38 rfl ?_
        exact j_iret C F dX7_behind_38 h
      · have h := it_f c h
        refine j_aload_n C dX7_behind_28 rfl 0 rfl 29 rfl ?_
        refine j_iload_n C dX7_behind_29 rfl 1 rfl 30 rfl ?_
        refine j_iload_n C dX7_behind_30 rfl 2 rfl 31 rfl ?_
        obtain ⟨q11, e12, h⟩ := ob_some h
        refine j_callV C (ct_X7_pairOf (eL E) G  e12) sh82 foX7 rfl vk_X7_pairOf kw5_203 rfl ⟨Nat.le_of_ble_eq_true rfl, Nat.le_of_ble_eq_true rfl, rfl, rfl⟩ ⟨Nat.zero_le _, Nat.zero_le _⟩ (rest := []) rfl (Nat.le_of_ble_eq_true rfl) dX7_behind_31 (st1 := [.int q11.2]) rfl 34 rfl ?_
        refine j_goto C dX7_behind_34 38 (by decide) ?_
        exact j_iret C F dX7_behind_38 h
    · have h := it_f c h
      refine j_iconst C dX7_behind_17 (0 : Int32) (by decide) 18 rfl ?_
      refine j_goto C dX7_behind_18 22 (by decide) ?_
      obtain ⟨q13, e14, h⟩ := ob_some h
      refine j_callV C (ct_X7_holds (eL E) G  e14) sh82 foX7 rfl vk_X7_holds kw5_9 rfl ⟨Nat.le_of_ble_eq_true rfl, Nat.le_of_ble_eq_true rfl, rfl, rfl⟩ ⟨Nat.zero_le _, Nat.zero_le _⟩ (rest := []) rfl (Nat.le_of_ble_eq_true rfl) dX7_behind_22 (st1 := [.int q13.2]) rfl 25 rfl ?_
      refine j_if_eq C dX7_behind_25 37 (by decide) 28 rfl (fun c => ?_) (fun c => ?_)
      · have h := it_t c h
        refine j_iconst C dX7_behind_37 (0 : Int32) (by decide) 38 rfl ?_
        exact j_iret C F dX7_behind_38 h
      · have h := it_f c h
        refine j_aload_n C dX7_behind_28 rfl 0 rfl 29 rfl ?_
        refine j_iload_n C dX7_behind_29 rfl 1 rfl 30 rfl ?_
        refine j_iload_n C dX7_behind_30 rfl 2 rfl 31 rfl ?_
        obtain ⟨q15, e16, h⟩ := ob_some h
        refine j_callV C (ct_X7_pairOf (eL E) G  e16) sh82 foX7 rfl vk_X7_pairOf kw5_203 rfl ⟨Nat.le_of_ble_eq_true rfl, Nat.le_of_ble_eq_true rfl, rfl, rfl⟩ ⟨Nat.zero_le _, Nat.zero_le _⟩ (rest := []) rfl (Nat.le_of_ble_eq_true rfl) dX7_behind_31 (st1 := [.int q15.2]) rfl 34 rfl ?_
        refine j_goto C dX7_behind_34 38 (by decide) ?_
        exact j_iret C F dX7_behind_38 h

-- ===== StenoChordsModel.clashesOf()I
theorem vk_X7_clashesOf : VK yX7_clashesOf cX7_clashesOf 3 (some .int) 0 := ⟨kw5_214, kw5_213, kwS_51, kw1_9, by decide +kernel⟩
def X7_clashesOf_4 (K : Mem → Int32 → Option (Mem × Int32)) : Nat → Mem → Int32 → Int32 → Option (Mem × Int32)
  | 0, _, _, _ => none
  | fu + 1, σ, v1, v2 => (if ((σ.1 83 1) * (σ.1 83 1)) ≤ v2 then K σ v1 else (if ¬ (σ.1 83 1) = 0 then (if ¬ (σ.1 83 1) = 0 then ((X7_pairOf σ (v2 / (σ.1 83 1)) (v2 - v2 / (σ.1 83 1) * (σ.1 83 1))).bind fun q1 => (if q1.2 = 0 then X7_clashesOf_4 K fu q1.1 (v1 + (0 : Int32)) (v2 + (1 : Int32)) else X7_clashesOf_4 K fu q1.1 (v1 + (1 : Int32)) (v2 + (1 : Int32)))) else none) else none))
set_option maxHeartbeats 4000000 in
set_option maxRecDepth 100000 in
theorem w_X7_clashesOf_4 {E : Ev} {G : Gw} (C : Cx E G RX7 cX7_clashesOf 3 { frames := 6, cells := 0, slots := 0, locals := 140 }) {out : Mem × Int32} (F : Ef E G out.1 (some (.int out.2)) (some .int) 0 0)  {K : Mem → Int32 → Option (Mem × Int32)} (hK : ∀ (σ : Mem) (v1 : Int32), K σ v1 = some out → J E G 3 0 0 σ 58 [(1, .int v1)] []) : ∀ (fu : Nat) (σ : Mem) (v1 : Int32) (v2 : Int32), X7_clashesOf_4 K fu σ v1 v2 = some out → J E G 3 0 0 σ 4 [(0, .ref (gA G 82)), (1, .int v1), (2, .int v2)] [] := by
  intro fu
  induction fu with
  | zero => intro σ v1 v2 h; rw [X7_clashesOf_4] at h; cases h
  | succ fu ih =>
    intro σ v1 v2 h
    rw [X7_clashesOf_4] at h
    refine j_iload_n C dX7_clashesOf_4 rfl 2 rfl 5 rfl ?_
    refine j_aload_n C dX7_clashesOf_5 rfl 0 rfl 6 rfl ?_
    refine j_get C foX7 sh82 1 (by decide) 85 rfl kw4_183 rfl dX7_clashesOf_6 (.ref (gA G 83)) (fv_r rfl) 9 rfl ?_
    refine j_iconst C dX7_clashesOf_9 (1 : Int32) (by decide) 10 rfl ?_
    refine j_iald C sh83 (by decide) dX7_clashesOf_10 1 rfl 11 rfl ?_
    refine j_aload_n C dX7_clashesOf_11 rfl 0 rfl 12 rfl ?_
    refine j_get C foX7 sh82 1 (by decide) 85 rfl kw4_183 rfl dX7_clashesOf_12 (.ref (gA G 83)) (fv_r rfl) 15 rfl ?_
    refine j_iconst C dX7_clashesOf_15 (1 : Int32) (by decide) 16 rfl ?_
    refine j_iald C sh83 (by decide) dX7_clashesOf_16 1 rfl 17 rfl ?_
    refine j_imul C dX7_clashesOf_17 18 rfl ?_
    refine j_icmp_ge C dX7_clashesOf_18 58 (by decide) 21 rfl (fun c => ?_) (fun c => ?_)
    · have h := it_t c h
      refine j_sub [(1, .int v1)] [1] rfl ?_
      exact hK _ _ h
    · have h := it_f c h
      refine j_iload_n C dX7_clashesOf_21 rfl 1 rfl 22 rfl ?_
      refine j_aload_n C dX7_clashesOf_22 rfl 0 rfl 23 rfl ?_
      refine j_iload_n C dX7_clashesOf_23 rfl 2 rfl 24 rfl ?_
      refine j_aload_n C dX7_clashesOf_24 rfl 0 rfl 25 rfl ?_
      refine j_get C foX7 sh82 1 (by decide) 85 rfl kw4_183 rfl dX7_clashesOf_25 (.ref (gA G 83)) (fv_r rfl) 28 rfl ?_
      refine j_iconst C dX7_clashesOf_28 (1 : Int32) (by decide) 29 rfl ?_
      refine j_iald C sh83 (by decide) dX7_clashesOf_29 1 rfl 30 rfl ?_
      obtain ⟨hc, h⟩ := if_some h
      refine j_idiv C dX7_clashesOf_30 hc 31 rfl ?_
      refine j_iload_n C dX7_clashesOf_31 rfl 2 rfl 32 rfl ?_
      refine j_aload_n C dX7_clashesOf_32 rfl 0 rfl 33 rfl ?_
      refine j_get C foX7 sh82 1 (by decide) 85 rfl kw4_183 rfl dX7_clashesOf_33 (.ref (gA G 83)) (fv_r rfl) 36 rfl ?_
      refine j_iconst C dX7_clashesOf_36 (1 : Int32) (by decide) 37 rfl ?_
      refine j_iald C sh83 (by decide) dX7_clashesOf_37 1 rfl 38 rfl ?_
      obtain ⟨hc, h⟩ := if_some h
      refine j_irem C dX7_clashesOf_38 hc 39 rfl ?_
      obtain ⟨q1, e2, h⟩ := ob_some h
      refine j_callV C (ct_X7_pairOf (eL E) G  e2) sh82 foX7 rfl vk_X7_pairOf kw5_203 rfl ⟨Nat.le_of_ble_eq_true rfl, Nat.le_of_ble_eq_true rfl, rfl, rfl⟩ ⟨Nat.zero_le _, Nat.zero_le _⟩ (rest := [.int v1]) rfl (Nat.le_of_ble_eq_true rfl) dX7_clashesOf_39 (st1 := [.int q1.2, .int v1]) rfl 42 rfl ?_
      refine j_if_ne C dX7_clashesOf_42 49 (by decide) 45 rfl (fun c => ?_) (fun c => ?_)
      · have h := it_f c h
        refine j_iconst C dX7_clashesOf_49 (1 : Int32) (by decide) 50 rfl ?_
        refine j_iadd C dX7_clashesOf_50 51 rfl ?_
        refine j_istore_n C dX7_clashesOf_51 rfl (by decide) [(1, .int (v1 + (1 : Int32))), (0, .ref (gA G 82)), (2, .int v2)] rfl 52 rfl ?_
        refine j_iinc C dX7_clashesOf_52 2 rfl (v2 + (1 : Int32)) rfl (by decide) [(2, .int (v2 + (1 : Int32))), (1, .int (v1 + (1 : Int32))), (0, .ref (gA G 82))] rfl 55 rfl ?_
        refine j_goto C dX7_clashesOf_55 4 (by decide) ?_
        refine j_sub [(0, .ref (gA G 82)), (1, .int (v1 + (1 : Int32))), (2, .int (v2 + (1 : Int32)))] [2, 1, 0] rfl ?_
        exact ih _ _ _ h
      · have h := it_t c h
        refine j_iconst C dX7_clashesOf_45 (0 : Int32) (by decide) 46 rfl ?_
        refine j_goto C dX7_clashesOf_46 50 (by decide) ?_
        refine j_iadd C dX7_clashesOf_50 51 rfl ?_
        refine j_istore_n C dX7_clashesOf_51 rfl (by decide) [(1, .int (v1 + (0 : Int32))), (0, .ref (gA G 82)), (2, .int v2)] rfl 52 rfl ?_
        refine j_iinc C dX7_clashesOf_52 2 rfl (v2 + (1 : Int32)) rfl (by decide) [(2, .int (v2 + (1 : Int32))), (1, .int (v1 + (0 : Int32))), (0, .ref (gA G 82))] rfl 55 rfl ?_
        refine j_goto C dX7_clashesOf_55 4 (by decide) ?_
        refine j_sub [(0, .ref (gA G 82)), (1, .int (v1 + (0 : Int32))), (2, .int (v2 + (1 : Int32)))] [2, 1, 0] rfl ?_
        exact ih _ _ _ h
def X7_clashesOf (σ : Mem) : Option (Mem × Int32) :=
  X7_clashesOf_4 (fun (σ : Mem) (v1 : Int32) => some (σ, v1)) FU σ (0 : Int32) (0 : Int32)
set_option maxHeartbeats 4000000 in
set_option maxRecDepth 100000 in
theorem ct_X7_clashesOf (l : Launch) (G : Gw)  {σ : Mem} {out : Mem × Int32} (h : X7_clashesOf σ = some out) : Ct l G yX7_clashesOf cX7_clashesOf 3 (some .int) { frames := 6, cells := 0, slots := 0, locals := 140 } [.ref (gA G 82)] σ out.1 (some (.int out.2)) := by
  refine Ct.of (by decide +kernel) (Nat.le_of_ble_eq_true rfl) (fun E hE C F => ?_)
  subst hE
  have C : Cx E G RX7 cX7_clashesOf 3 { frames := 6, cells := 0, slots := 0, locals := 140 } := C
  unfold X7_clashesOf at h
  show J E G 3 0 0 σ 0 [(0, .ref (gA G 82))] []
  refine j_iconst C dX7_clashesOf_0 (0 : Int32) (by decide) 1 rfl ?_
  refine j_istore_n C dX7_clashesOf_1 rfl (by decide) [(1, .int (0 : Int32)), (0, .ref (gA G 82))] rfl 2 rfl ?_
  refine j_iconst C dX7_clashesOf_2 (0 : Int32) (by decide) 3 rfl ?_
  refine j_istore_n C dX7_clashesOf_3 rfl (by decide) [(2, .int (0 : Int32)), (1, .int (0 : Int32)), (0, .ref (gA G 82))] rfl 4 rfl ?_
  refine j_sub [(0, .ref (gA G 82)), (1, .int (0 : Int32)), (2, .int (0 : Int32))] [2, 1, 0] rfl ?_
  refine w_X7_clashesOf_4 C F  (fun σ v1 h => ?_) FU _ _ _ h
  refine j_iload_n C dX7_clashesOf_58 rfl 0 rfl 59 rfl ?_
  exact j_iret C F dX7_clashesOf_59 h

-- ===== StenoChordsModel.clashes()I
theorem vk_X7_clashes : VK yX7_clashes cX7_clashes 1 (some .int) 0 := ⟨kw5_210, kw5_208, kw5_209, kw1_9, by decide +kernel⟩
def X7_clashes (σ : Mem) : Option (Mem × Int32) :=
  ((some (setI σ 82 0 (0 : Int32))).bind fun σ1 => ((X7_clashesOf σ1).bind fun q3 => some (q3.1, q3.2)))
set_option maxHeartbeats 4000000 in
set_option maxRecDepth 100000 in
theorem ct_X7_clashes (l : Launch) (G : Gw)  {σ : Mem} {out : Mem × Int32} (h : X7_clashes σ = some out) : Ct l G yX7_clashes cX7_clashes 1 (some .int) { frames := 7, cells := 0, slots := 0, locals := 162 } [.ref (gA G 82)] σ out.1 (some (.int out.2)) := by
  refine Ct.of (by decide +kernel) (Nat.le_of_ble_eq_true rfl) (fun E hE C F => ?_)
  subst hE
  have C : Cx E G RX7 cX7_clashes 1 { frames := 7, cells := 0, slots := 0, locals := 162 } := C
  unfold X7_clashes at h
  show J E G 1 0 0 σ 0 [(0, .ref (gA G 82))] []
  refine j_aload_n C dX7_clashes_0 rfl 0 rfl 1 rfl ?_
  refine j_iconst C dX7_clashes_1 (0 : Int32) (by decide) 2 rfl ?_
  obtain ⟨σ1, e2, h⟩ := ob_some h
  refine j_putI C foX7 sh82 0 (by decide) rfl kw4_182 rfl rfl rfl rfl dX7_clashes_2 σ1 (Option.some.inj e2) 5 rfl ?_
  refine j_aload_n C dX7_clashes_5 rfl 0 rfl 6 rfl ?_
  obtain ⟨q3, e4, h⟩ := ob_some h
  refine j_callV C (ct_X7_clashesOf (eL E) G  e4) sh82 foX7 rfl vk_X7_clashesOf kw5_211 rfl ⟨Nat.le_of_ble_eq_true rfl, Nat.le_of_ble_eq_true rfl, rfl, rfl⟩ ⟨Nat.zero_le _, Nat.zero_le _⟩ (rest := []) rfl (Nat.le_of_ble_eq_true rfl) dX7_clashes_6 (st1 := [.int q3.2]) rfl 9 rfl ?_
  exact j_iret C F dX7_clashes_9 h

-- ===== StenoChordsModel.leastOf()I
theorem vk_X7_leastOf : VK yX7_leastOf cX7_leastOf 3 (some .int) 0 := ⟨kw5_222, kw5_221, kwS_52, kw1_9, by decide +kernel⟩
def X7_leastOf_43 (K : Mem → Int32 → Option (Mem × Int32)) : Nat → Mem → Int32 → Int32 → Option (Mem × Int32)
  | 0, _, _, _ => none
  | fu + 1, σ, v1, v2 => (if (σ.1 83 1) ≤ v2 then K σ v1 else ((X7_of σ v2 (0 : Int32)).bind fun q7 => (if (q7.1.1 83 3) < q7.2 then X7_leastOf_43 K fu q7.1 v1 (v2 + (1 : Int32)) else ((X7_isRow q7.1 v2 v1).bind fun q9 => (if q9.2 = 0 then X7_leastOf_43 K fu q9.1 v1 (v2 + (1 : Int32)) else ((X7_of q9.1 v2 (0 : Int32)).bind fun q11 => (if inA (v1 + q11.2) 62 then (if inA v1 62 then (if (q11.1.1 90 v1.toNatClampNeg) ≤ (q11.1.1 90 (v1 + q11.2).toNatClampNeg) then X7_leastOf_43 K fu q11.1 v1 (v2 + (1 : Int32)) else ((X7_of q11.1 v2 (0 : Int32)).bind fun q13 => (if inA (v1 + q13.2) 62 then (if inA v1 62 then ((some (setI q13.1 90 v1.toNatClampNeg ((q13.1.1 90 (v1 + q13.2).toNatClampNeg) + (1 : Int32)))).bind fun σ15 => X7_leastOf_43 K fu σ15 v1 (v2 + (1 : Int32))) else none) else none))) else none) else none)))))))
set_option maxHeartbeats 4000000 in
set_option maxRecDepth 100000 in
theorem w_X7_leastOf_43 {E : Ev} {G : Gw} (C : Cx E G RX7 cX7_leastOf 3 { frames := 6, cells := 0, slots := 0, locals := 137 }) {out : Mem × Int32} (F : Ef E G out.1 (some (.int out.2)) (some .int) 0 0)  {K : Mem → Int32 → Option (Mem × Int32)} (hK : ∀ (σ : Mem) (v1 : Int32), K σ v1 = some out → J E G 3 0 0 σ 126 [(0, .ref (gA G 82)), (1, .int v1)] []) : ∀ (fu : Nat) (σ : Mem) (v1 : Int32) (v2 : Int32), X7_leastOf_43 K fu σ v1 v2 = some out → J E G 3 0 0 σ 43 [(0, .ref (gA G 82)), (1, .int v1), (2, .int v2)] [] := by
  intro fu
  induction fu with
  | zero => intro σ v1 v2 h; rw [X7_leastOf_43] at h; cases h
  | succ fu ih =>
    intro σ v1 v2 h
    rw [X7_leastOf_43] at h
    refine j_iload_n C dX7_leastOf_43 rfl 2 rfl 44 rfl ?_
    refine j_aload_n C dX7_leastOf_44 rfl 0 rfl 45 rfl ?_
    refine j_get C foX7 sh82 1 (by decide) 85 rfl kw4_183 rfl dX7_leastOf_45 (.ref (gA G 83)) (fv_r rfl) 48 rfl ?_
    refine j_iconst C dX7_leastOf_48 (1 : Int32) (by decide) 49 rfl ?_
    refine j_iald C sh83 (by decide) dX7_leastOf_49 1 rfl 50 rfl ?_
    refine j_icmp_ge C dX7_leastOf_50 126 (by decide) 53 rfl (fun c => ?_) (fun c => ?_)
    · have h := it_t c h
      refine j_sub [(0, .ref (gA G 82)), (1, .int v1)] [0, 1] rfl ?_
      exact hK _ _ h
    · have h := it_f c h
      refine j_aload_n C dX7_leastOf_53 rfl 0 rfl 54 rfl ?_
      refine j_iload_n C dX7_leastOf_54 rfl 2 rfl 55 rfl ?_
      refine j_iconst C dX7_leastOf_55 (0 : Int32) (by decide) 56 rfl ?_
      obtain ⟨q7, e8, h⟩ := ob_some h
      refine j_callV C (ct_X7_of (eL E) G  e8) sh82 foX7 rfl vk_X7_of kw5_40 rfl ⟨Nat.le_of_ble_eq_true rfl, Nat.le_of_ble_eq_true rfl, rfl, rfl⟩ ⟨Nat.zero_le _, Nat.zero_le _⟩ (rest := []) rfl (Nat.le_of_ble_eq_true rfl) dX7_leastOf_56 (st1 := [.int q7.2]) rfl 59 rfl ?_
      refine j_aload_n C dX7_leastOf_59 rfl 0 rfl 60 rfl ?_
      refine j_get C foX7 sh82 1 (by decide) 85 rfl kw4_183 rfl dX7_leastOf_60 (.ref (gA G 83)) (fv_r rfl) 63 rfl ?_
      refine j_iconst C dX7_leastOf_63 (3 : Int32) (by decide) 64 rfl ?_
      refine j_iald C sh83 (by decide) dX7_leastOf_64 3 rfl 65 rfl ?_
      refine j_icmp_gt C dX7_leastOf_65 120 (by decide) 68 rfl (fun c => ?_) (fun c => ?_)
      · have h := it_t c h
        refine j_iinc C dX7_leastOf_120 2 rfl (v2 + (1 : Int32)) rfl (by decide) [(2, .int (v2 + (1 : Int32))), (0, .ref (gA G 82)), (1, .int v1)] rfl 123 rfl ?_
        refine j_goto C dX7_leastOf_123 43 (by decide) ?_
        refine j_sub [(0, .ref (gA G 82)), (1, .int v1), (2, .int (v2 + (1 : Int32)))] [1, 2, 0] rfl ?_
        exact ih _ _ _ h
      · have h := it_f c h
        refine j_aload_n C dX7_leastOf_68 rfl 0 rfl 69 rfl ?_
        refine j_iload_n C dX7_leastOf_69 rfl 2 rfl 70 rfl ?_
        refine j_iload_n C dX7_leastOf_70 rfl 1 rfl 71 rfl ?_
        obtain ⟨q9, e10, h⟩ := ob_some h
        refine j_callV C (ct_X7_isRow (eL E) G  e10) sh82 foX7 rfl vk_X7_isRow kw5_44 rfl ⟨Nat.le_of_ble_eq_true rfl, Nat.le_of_ble_eq_true rfl, rfl, rfl⟩ ⟨Nat.zero_le _, Nat.zero_le _⟩ (rest := []) rfl (Nat.le_of_ble_eq_true rfl) dX7_leastOf_71 (st1 := [.int q9.2]) rfl 74 rfl ?_
        refine j_if_eq C dX7_leastOf_74 120 (by decide) 77 rfl (fun c => ?_) (fun c => ?_)
        · have h := it_t c h
          refine j_iinc C dX7_leastOf_120 2 rfl (v2 + (1 : Int32)) rfl (by decide) [(2, .int (v2 + (1 : Int32))), (0, .ref (gA G 82)), (1, .int v1)] rfl 123 rfl ?_
          refine j_goto C dX7_leastOf_123 43 (by decide) ?_
          refine j_sub [(0, .ref (gA G 82)), (1, .int v1), (2, .int (v2 + (1 : Int32)))] [1, 2, 0] rfl ?_
          exact ih _ _ _ h
        · have h := it_f c h
          refine j_aload_n C dX7_leastOf_77 rfl 0 rfl 78 rfl ?_
          refine j_get C foX7 sh82 15 (by decide) 92 rfl kw4_197 rfl dX7_leastOf_78 (.ref (gA G 90)) (fv_r rfl) 81 rfl ?_
          refine j_iload_n C dX7_leastOf_81 rfl 1 rfl 82 rfl ?_
          refine j_aload_n C dX7_leastOf_82 rfl 0 rfl 83 rfl ?_
          refine j_iload_n C dX7_leastOf_83 rfl 2 rfl 84 rfl ?_
          refine j_iconst C dX7_leastOf_84 (0 : Int32) (by decide) 85 rfl ?_
          obtain ⟨q11, e12, h⟩ := ob_some h
          refine j_callV C (ct_X7_of (eL E) G  e12) sh82 foX7 rfl vk_X7_of kw5_40 rfl ⟨Nat.le_of_ble_eq_true rfl, Nat.le_of_ble_eq_true rfl, rfl, rfl⟩ ⟨Nat.zero_le _, Nat.zero_le _⟩ (rest := [.int v1, .ref (gA G 90)]) rfl (Nat.le_of_ble_eq_true rfl) dX7_leastOf_85 (st1 := [.int q11.2, .int v1, .ref (gA G 90)]) rfl 88 rfl ?_
          refine j_iadd C dX7_leastOf_88 89 rfl ?_
          obtain ⟨hc, h⟩ := if_some h
          refine j_iald C sh90 hc dX7_leastOf_89 (v1 + q11.2).toNatClampNeg rfl 90 rfl ?_
          refine j_aload_n C dX7_leastOf_90 rfl 0 rfl 91 rfl ?_
          refine j_get C foX7 sh82 15 (by decide) 92 rfl kw4_197 rfl dX7_leastOf_91 (.ref (gA G 90)) (fv_r rfl) 94 rfl ?_
          refine j_iload_n C dX7_leastOf_94 rfl 1 rfl 95 rfl ?_
          obtain ⟨hc, h⟩ := if_some h
          refine j_iald C sh90 hc dX7_leastOf_95 v1.toNatClampNeg rfl 96 rfl ?_
          refine j_icmp_ge C dX7_leastOf_96 120 (by decide) 99 rfl (fun c => ?_) (fun c => ?_)
          · have h := it_t c h
            refine j_iinc C dX7_leastOf_120 2 rfl (v2 + (1 : Int32)) rfl (by decide) [(2, .int (v2 + (1 : Int32))), (0, .ref (gA G 82)), (1, .int v1)] rfl 123 rfl ?_
            refine j_goto C dX7_leastOf_123 43 (by decide) ?_
            refine j_sub [(0, .ref (gA G 82)), (1, .int v1), (2, .int (v2 + (1 : Int32)))] [1, 2, 0] rfl ?_
            exact ih _ _ _ h
          · have h := it_f c h
            refine j_aload_n C dX7_leastOf_99 rfl 0 rfl 100 rfl ?_
            refine j_get C foX7 sh82 15 (by decide) 92 rfl kw4_197 rfl dX7_leastOf_100 (.ref (gA G 90)) (fv_r rfl) 103 rfl ?_
            refine j_iload_n C dX7_leastOf_103 rfl 1 rfl 104 rfl ?_
            refine j_aload_n C dX7_leastOf_104 rfl 0 rfl 105 rfl ?_
            refine j_get C foX7 sh82 15 (by decide) 92 rfl kw4_197 rfl dX7_leastOf_105 (.ref (gA G 90)) (fv_r rfl) 108 rfl ?_
            refine j_iload_n C dX7_leastOf_108 rfl 1 rfl 109 rfl ?_
            refine j_aload_n C dX7_leastOf_109 rfl 0 rfl 110 rfl ?_
            refine j_iload_n C dX7_leastOf_110 rfl 2 rfl 111 rfl ?_
            refine j_iconst C dX7_leastOf_111 (0 : Int32) (by decide) 112 rfl ?_
            obtain ⟨q13, e14, h⟩ := ob_some h
            refine j_callV C (ct_X7_of (eL E) G  e14) sh82 foX7 rfl vk_X7_of kw5_40 rfl ⟨Nat.le_of_ble_eq_true rfl, Nat.le_of_ble_eq_true rfl, rfl, rfl⟩ ⟨Nat.zero_le _, Nat.zero_le _⟩ (rest := [.int v1, .ref (gA G 90), .int v1, .ref (gA G 90)]) rfl (Nat.le_of_ble_eq_true rfl) dX7_leastOf_112 (st1 := [.int q13.2, .int v1, .ref (gA G 90), .int v1, .ref (gA G 90)]) rfl 115 rfl ?_
            refine j_iadd C dX7_leastOf_115 116 rfl ?_
            obtain ⟨hc, h⟩ := if_some h
            refine j_iald C sh90 hc dX7_leastOf_116 (v1 + q13.2).toNatClampNeg rfl 117 rfl ?_
            refine j_iconst C dX7_leastOf_117 (1 : Int32) (by decide) 118 rfl ?_
            refine j_iadd C dX7_leastOf_118 119 rfl ?_
            obtain ⟨hc, h⟩ := if_some h
            obtain ⟨σ15, e16, h⟩ := ob_some h
            refine j_iast C sh90 hc dX7_leastOf_119 v1.toNatClampNeg rfl σ15 (Option.some.inj e16) 120 rfl ?_
            refine j_iinc C dX7_leastOf_120 2 rfl (v2 + (1 : Int32)) rfl (by decide) [(2, .int (v2 + (1 : Int32))), (0, .ref (gA G 82)), (1, .int v1)] rfl 123 rfl ?_
            refine j_goto C dX7_leastOf_123 43 (by decide) ?_
            refine j_sub [(0, .ref (gA G 82)), (1, .int v1), (2, .int (v2 + (1 : Int32)))] [1, 2, 0] rfl ?_
            exact ih _ _ _ h
def X7_leastOf_21 (K : Mem → Option (Mem × Int32)) : Nat → Mem → Int32 → Option (Mem × Int32)
  | 0, _, _ => none
  | fu + 1, σ, v1 => (if v1 < 0 then K σ else (if inA (v1 + (1 : Int32)) 62 then (if inA v1 62 then ((some (setI σ 90 v1.toNatClampNeg ((σ.1 90 (v1 + (1 : Int32)).toNatClampNeg) + (1 : Int32)))).bind fun σ5 => X7_leastOf_43 (fun (σ : Mem) (v1 : Int32) => X7_leastOf_21 K fu σ (v1 + (-1 : Int32))) FU σ5 v1 (0 : Int32)) else none) else none))
set_option maxHeartbeats 4000000 in
set_option maxRecDepth 100000 in
theorem w_X7_leastOf_21 {E : Ev} {G : Gw} (C : Cx E G RX7 cX7_leastOf 3 { frames := 6, cells := 0, slots := 0, locals := 137 }) {out : Mem × Int32} (F : Ef E G out.1 (some (.int out.2)) (some .int) 0 0)  {K : Mem → Option (Mem × Int32)} (hK : ∀ (σ : Mem) , K σ  = some out → J E G 3 0 0 σ 132 [(0, .ref (gA G 82))] []) : ∀ (fu : Nat) (σ : Mem) (v1 : Int32), X7_leastOf_21 K fu σ v1 = some out → J E G 3 0 0 σ 21 [(0, .ref (gA G 82)), (1, .int v1)] [] := by
  intro fu
  induction fu with
  | zero => intro σ v1 h; rw [X7_leastOf_21] at h; cases h
  | succ fu ih =>
    intro σ v1 h
    rw [X7_leastOf_21] at h
    refine j_iload_n C dX7_leastOf_21 rfl 1 rfl 22 rfl ?_
    refine j_if_lt C dX7_leastOf_22 132 (by decide) 25 rfl (fun c => ?_) (fun c => ?_)
    · have h := it_t c h
      refine j_sub [(0, .ref (gA G 82))] [0] rfl ?_
      exact hK _ h
    · have h := it_f c h
      refine j_aload_n C dX7_leastOf_25 rfl 0 rfl 26 rfl ?_
      refine j_get C foX7 sh82 15 (by decide) 92 rfl kw4_197 rfl dX7_leastOf_26 (.ref (gA G 90)) (fv_r rfl) 29 rfl ?_
      refine j_iload_n C dX7_leastOf_29 rfl 1 rfl 30 rfl ?_
      refine j_aload_n C dX7_leastOf_30 rfl 0 rfl 31 rfl ?_
      refine j_get C foX7 sh82 15 (by decide) 92 rfl kw4_197 rfl dX7_leastOf_31 (.ref (gA G 90)) (fv_r rfl) 34 rfl ?_
      refine j_iload_n C dX7_leastOf_34 rfl 1 rfl 35 rfl ?_
      refine j_iconst C dX7_leastOf_35 (1 : Int32) (by decide) 36 rfl ?_
      refine j_iadd C dX7_leastOf_36 37 rfl ?_
      obtain ⟨hc, h⟩ := if_some h
      refine j_iald C sh90 hc dX7_leastOf_37 (v1 + (1 : Int32)).toNatClampNeg rfl 38 rfl ?_
      refine j_iconst C dX7_leastOf_38 (1 : Int32) (by decide) 39 rfl ?_
      refine j_iadd C dX7_leastOf_39 40 rfl ?_
      obtain ⟨hc, h⟩ := if_some h
      obtain ⟨σ5, e6, h⟩ := ob_some h
      refine j_iast C sh90 hc dX7_leastOf_40 v1.toNatClampNeg rfl σ5 (Option.some.inj e6) 41 rfl ?_
      refine j_iconst C dX7_leastOf_41 (0 : Int32) (by decide) 42 rfl ?_
      refine j_istore_n C dX7_leastOf_42 rfl (by decide) [(2, .int (0 : Int32)), (0, .ref (gA G 82)), (1, .int v1)] rfl 43 rfl ?_
      refine j_sub [(0, .ref (gA G 82)), (1, .int v1), (2, .int (0 : Int32))] [1, 2, 0] rfl ?_
      refine w_X7_leastOf_43 C F  (fun σ v1 h => ?_) FU _ _ _ h
      refine j_iinc C dX7_leastOf_126 1 rfl (v1 + (-1 : Int32)) rfl (by decide) [(1, .int (v1 + (-1 : Int32))), (0, .ref (gA G 82))] rfl 129 rfl ?_
      refine j_goto C dX7_leastOf_129 21 (by decide) ?_
      refine j_sub [(0, .ref (gA G 82)), (1, .int (v1 + (-1 : Int32)))] [1, 0] rfl ?_
      exact ih _ _ h
def X7_leastOf (σ : Mem) : Option (Mem × Int32) :=
  ((X7_readsPaper σ).bind fun q1 => (if inA (q1.1.1 82 10) 62 then ((some (setI q1.1 90 (q1.1.1 82 10).toNatClampNeg (0 : Int32))).bind fun σ3 => X7_leastOf_21 (fun (σ : Mem)  => some (σ, (σ.1 90 0))) FU σ3 ((σ3.1 82 10) - (1 : Int32))) else none))
set_option maxHeartbeats 4000000 in
set_option maxRecDepth 100000 in
theorem ct_X7_leastOf (l : Launch) (G : Gw)  {σ : Mem} {out : Mem × Int32} (h : X7_leastOf σ = some out) : Ct l G yX7_leastOf cX7_leastOf 3 (some .int) { frames := 6, cells := 0, slots := 0, locals := 137 } [.ref (gA G 82)] σ out.1 (some (.int out.2)) := by
  refine Ct.of (by decide +kernel) (Nat.le_of_ble_eq_true rfl) (fun E hE C F => ?_)
  subst hE
  have C : Cx E G RX7 cX7_leastOf 3 { frames := 6, cells := 0, slots := 0, locals := 137 } := C
  unfold X7_leastOf at h
  show J E G 3 0 0 σ 0 [(0, .ref (gA G 82))] []
  refine j_aload_n C dX7_leastOf_0 rfl 0 rfl 1 rfl ?_
  obtain ⟨q1, e2, h⟩ := ob_some h
  refine j_callV C (ct_X7_readsPaper (eL E) G  e2) sh82 foX7 rfl vk_X7_readsPaper kw5_28 rfl ⟨Nat.le_of_ble_eq_true rfl, Nat.le_of_ble_eq_true rfl, rfl, rfl⟩ ⟨Nat.zero_le _, Nat.zero_le _⟩ (rest := []) rfl (Nat.le_of_ble_eq_true rfl) dX7_leastOf_1 (st1 := []) rfl 4 rfl ?_
  refine j_aload_n C dX7_leastOf_4 rfl 0 rfl 5 rfl ?_
  refine j_get C foX7 sh82 15 (by decide) 92 rfl kw4_197 rfl dX7_leastOf_5 (.ref (gA G 90)) (fv_r rfl) 8 rfl ?_
  refine j_aload_n C dX7_leastOf_8 rfl 0 rfl 9 rfl ?_
  refine j_get C foX7 sh82 10 (by decide) 0 rfl kw4_192 rfl dX7_leastOf_9 (.int (q1.1.1 82 10)) rfl 12 rfl ?_
  refine j_iconst C dX7_leastOf_12 (0 : Int32) (by decide) 13 rfl ?_
  obtain ⟨hc, h⟩ := if_some h
  obtain ⟨σ3, e4, h⟩ := ob_some h
  refine j_iast C sh90 hc dX7_leastOf_13 (q1.1.1 82 10).toNatClampNeg rfl σ3 (Option.some.inj e4) 14 rfl ?_
  refine j_aload_n C dX7_leastOf_14 rfl 0 rfl 15 rfl ?_
  refine j_get C foX7 sh82 10 (by decide) 0 rfl kw4_192 rfl dX7_leastOf_15 (.int (σ3.1 82 10)) rfl 18 rfl ?_
  refine j_iconst C dX7_leastOf_18 (1 : Int32) (by decide) 19 rfl ?_
  refine j_isub C dX7_leastOf_19 20 rfl ?_
  refine j_istore_n C dX7_leastOf_20 rfl (by decide) [(1, .int ((σ3.1 82 10) - (1 : Int32))), (0, .ref (gA G 82))] rfl 21 rfl ?_
  refine j_sub [(0, .ref (gA G 82)), (1, .int ((σ3.1 82 10) - (1 : Int32)))] [1, 0] rfl ?_
  refine w_X7_leastOf_21 C F  (fun σ  h => ?_) FU _ _ h
  refine j_aload_n C dX7_leastOf_132 rfl 0 rfl 133 rfl ?_
  refine j_get C foX7 sh82 15 (by decide) 92 rfl kw4_197 rfl dX7_leastOf_133 (.ref (gA G 90)) (fv_r rfl) 136 rfl ?_
  refine j_iconst C dX7_leastOf_136 (0 : Int32) (by decide) 137 rfl ?_
  refine j_iald C sh90 (by decide) dX7_leastOf_137 0 rfl 138 rfl ?_
  exact j_iret C F dX7_leastOf_138 h

-- ===== StenoChordsModel.least()I
theorem vk_X7_least : VK yX7_least cX7_least 1 (some .int) 0 := ⟨kw5_218, kw5_216, kw5_217, kw1_9, by decide +kernel⟩
def X7_least (σ : Mem) : Option (Mem × Int32) :=
  ((some (setI σ 82 0 (0 : Int32))).bind fun σ1 => ((X7_leastOf σ1).bind fun q3 => some (q3.1, q3.2)))
set_option maxHeartbeats 4000000 in
set_option maxRecDepth 100000 in
theorem ct_X7_least (l : Launch) (G : Gw)  {σ : Mem} {out : Mem × Int32} (h : X7_least σ = some out) : Ct l G yX7_least cX7_least 1 (some .int) { frames := 7, cells := 0, slots := 0, locals := 159 } [.ref (gA G 82)] σ out.1 (some (.int out.2)) := by
  refine Ct.of (by decide +kernel) (Nat.le_of_ble_eq_true rfl) (fun E hE C F => ?_)
  subst hE
  have C : Cx E G RX7 cX7_least 1 { frames := 7, cells := 0, slots := 0, locals := 159 } := C
  unfold X7_least at h
  show J E G 1 0 0 σ 0 [(0, .ref (gA G 82))] []
  refine j_aload_n C dX7_least_0 rfl 0 rfl 1 rfl ?_
  refine j_iconst C dX7_least_1 (0 : Int32) (by decide) 2 rfl ?_
  obtain ⟨σ1, e2, h⟩ := ob_some h
  refine j_putI C foX7 sh82 0 (by decide) rfl kw4_182 rfl rfl rfl rfl dX7_least_2 σ1 (Option.some.inj e2) 5 rfl ?_
  refine j_aload_n C dX7_least_5 rfl 0 rfl 6 rfl ?_
  obtain ⟨q3, e4, h⟩ := ob_some h
  refine j_callV C (ct_X7_leastOf (eL E) G  e4) sh82 foX7 rfl vk_X7_leastOf kw5_219 rfl ⟨Nat.le_of_ble_eq_true rfl, Nat.le_of_ble_eq_true rfl, rfl, rfl⟩ ⟨Nat.zero_le _, Nat.zero_le _⟩ (rest := []) rfl (Nat.le_of_ble_eq_true rfl) dX7_least_6 (st1 := [.int q3.2]) rfl 9 rfl ?_
  exact j_iret C F dX7_least_9 h

-- ===== StenoChordsModel.share()D
theorem vk_X7_share : VK yX7_share cX7_share 1 (some .double) 0 := ⟨kw5_230, kw5_229, kwS_53, kw1_9, by decide +kernel⟩
def X7_share (σ : Mem) : Option (Mem × UInt64) :=
  ((X7_readsPaper σ).bind fun q1 => (if (q1.1.1 82 10) = 0 then some (q1.1, FP.dconst1) else ((X7_standing q1.1 (-1 : Int32)).bind fun q3 => (if ((FP.ddiv (FP.i2d ((q1.1.1 82 10) - q3.2)) (FP.i2d (q3.1.1 82 10))) &&& 0x7fffffffffffffff ≤ 0x7ff0000000000000) then some (q3.1, (FP.ddiv (FP.i2d ((q1.1.1 82 10) - q3.2)) (FP.i2d (q3.1.1 82 10)))) else none))))
set_option maxHeartbeats 4000000 in
set_option maxRecDepth 100000 in
theorem ct_X7_share (l : Launch) (G : Gw)  {σ : Mem} {out : Mem × UInt64} (h : X7_share σ = some out) : Ct l G yX7_share cX7_share 1 (some .double) { frames := 6, cells := 0, slots := 0, locals := 137 } [.ref (gA G 82)] σ out.1 (some (.double out.2)) := by
  refine Ct.of (by decide +kernel) (Nat.le_of_ble_eq_true rfl) (fun E hE C F => ?_)
  subst hE
  have C : Cx E G RX7 cX7_share 1 { frames := 6, cells := 0, slots := 0, locals := 137 } := C
  unfold X7_share at h
  show J E G 1 0 0 σ 0 [(0, .ref (gA G 82))] []
  refine j_aload_n C dX7_share_0 rfl 0 rfl 1 rfl ?_
  obtain ⟨q1, e2, h⟩ := ob_some h
  refine j_callV C (ct_X7_readsPaper (eL E) G  e2) sh82 foX7 rfl vk_X7_readsPaper kw5_28 rfl ⟨Nat.le_of_ble_eq_true rfl, Nat.le_of_ble_eq_true rfl, rfl, rfl⟩ ⟨Nat.zero_le _, Nat.zero_le _⟩ (rest := []) rfl (Nat.le_of_ble_eq_true rfl) dX7_share_1 (st1 := []) rfl 4 rfl ?_
  refine j_aload_n C dX7_share_4 rfl 0 rfl 5 rfl ?_
  refine j_get C foX7 sh82 10 (by decide) 0 rfl kw4_192 rfl dX7_share_5 (.int (q1.1.1 82 10)) rfl 8 rfl ?_
  refine j_if_ne C dX7_share_8 15 (by decide) 11 rfl (fun c => ?_) (fun c => ?_)
  · have h := it_f c h
    refine j_aload_n C dX7_share_15 rfl 0 rfl 16 rfl ?_
    refine j_get C foX7 sh82 10 (by decide) 0 rfl kw4_192 rfl dX7_share_16 (.int (q1.1.1 82 10)) rfl 19 rfl ?_
    refine j_aload_n C dX7_share_19 rfl 0 rfl 20 rfl ?_
    refine j_iconst C dX7_share_20 (-1 : Int32) (by decide) 21 rfl ?_
    obtain ⟨q3, e4, h⟩ := ob_some h
    refine j_callV C (ct_X7_standing (eL E) G  e4) sh82 foX7 rfl vk_X7_standing kw5_155 rfl ⟨Nat.le_of_ble_eq_true rfl, Nat.le_of_ble_eq_true rfl, rfl, rfl⟩ ⟨Nat.zero_le _, Nat.zero_le _⟩ (rest := [.int (q1.1.1 82 10)]) rfl (Nat.le_of_ble_eq_true rfl) dX7_share_21 (st1 := [.int q3.2, .int (q1.1.1 82 10)]) rfl 24 rfl ?_
    refine j_isub C dX7_share_24 25 rfl ?_
    refine j_i2d C dX7_share_25 26 rfl ?_
    refine j_aload_n C dX7_share_26 rfl 0 rfl 27 rfl ?_
    refine j_get C foX7 sh82 10 (by decide) 0 rfl kw4_192 rfl dX7_share_27 (.int (q3.1.1 82 10)) rfl 30 rfl ?_
    refine j_i2d C dX7_share_30 31 rfl ?_
    obtain ⟨hc, h⟩ := if_some h
    refine j_ddiv C dX7_share_31 hc 32 rfl ?_
    exact j_dret C F dX7_share_32 h
  · have h := it_t c h
    refine j_dconst1 C dX7_share_11 12 rfl ?_
    refine j_goto C dX7_share_12 32 (by decide) ?_
    exact j_dret C F dX7_share_32 h

-- ===== StenoChordsModel.readShare()D
theorem vk_X7_readShare : VK yX7_readShare cX7_readShare 1 (some .double) 0 := ⟨kw5_226, kw5_224, kw5_225, kw1_9, by decide +kernel⟩
def X7_readShare (σ : Mem) : Option (Mem × UInt64) :=
  ((some (setI σ 82 0 (0 : Int32))).bind fun σ1 => ((X7_share σ1).bind fun q3 => some (q3.1, q3.2)))
set_option maxHeartbeats 4000000 in
set_option maxRecDepth 100000 in
theorem ct_X7_readShare (l : Launch) (G : Gw)  {σ : Mem} {out : Mem × UInt64} (h : X7_readShare σ = some out) : Ct l G yX7_readShare cX7_readShare 1 (some .double) { frames := 7, cells := 0, slots := 0, locals := 157 } [.ref (gA G 82)] σ out.1 (some (.double out.2)) := by
  refine Ct.of (by decide +kernel) (Nat.le_of_ble_eq_true rfl) (fun E hE C F => ?_)
  subst hE
  have C : Cx E G RX7 cX7_readShare 1 { frames := 7, cells := 0, slots := 0, locals := 157 } := C
  unfold X7_readShare at h
  show J E G 1 0 0 σ 0 [(0, .ref (gA G 82))] []
  refine j_aload_n C dX7_readShare_0 rfl 0 rfl 1 rfl ?_
  refine j_iconst C dX7_readShare_1 (0 : Int32) (by decide) 2 rfl ?_
  obtain ⟨σ1, e2, h⟩ := ob_some h
  refine j_putI C foX7 sh82 0 (by decide) rfl kw4_182 rfl rfl rfl rfl dX7_readShare_2 σ1 (Option.some.inj e2) 5 rfl ?_
  refine j_aload_n C dX7_readShare_5 rfl 0 rfl 6 rfl ?_
  obtain ⟨q3, e4, h⟩ := ob_some h
  refine j_callV C (ct_X7_share (eL E) G  e4) sh82 foX7 rfl vk_X7_share kw5_227 rfl ⟨Nat.le_of_ble_eq_true rfl, Nat.le_of_ble_eq_true rfl, rfl, rfl⟩ ⟨Nat.zero_le _, Nat.zero_le _⟩ (rest := []) rfl (Nat.le_of_ble_eq_true rfl) dX7_readShare_6 (st1 := [.double q3.2]) rfl 9 rfl ?_
  exact j_dret C F dX7_readShare_9 h

-- ===== StenoChordsModel.mean()F
theorem vk_X7_mean : VK yX7_mean cX7_mean 1 (some .float) 0 := ⟨kw5_238, kw5_237, kwS_54, kw1_9, by decide +kernel⟩
def X7_mean (σ : Mem) : Option (Mem × UInt32) :=
  (if (σ.1 83 4) = 0 then some (σ, FP.fconst0) else (if ((FP.fdiv (FP.i2f (σ.1 83 7)) (FP.i2f (σ.1 83 4))) &&& 0x7fffffff ≤ 0x7f800000) then some (σ, (FP.fdiv (FP.i2f (σ.1 83 7)) (FP.i2f (σ.1 83 4)))) else none))
set_option maxHeartbeats 4000000 in
set_option maxRecDepth 100000 in
theorem ct_X7_mean (l : Launch) (G : Gw)  {σ : Mem} {out : Mem × UInt32} (h : X7_mean σ = some out) : Ct l G yX7_mean cX7_mean 1 (some .float) { frames := 0, cells := 0, slots := 0, locals := 0 } [.ref (gA G 82)] σ out.1 (some (.float out.2)) := by
  refine Ct.of (by decide +kernel) (Nat.le_of_ble_eq_true rfl) (fun E hE C F => ?_)
  subst hE
  have C : Cx E G RX7 cX7_mean 1 { frames := 0, cells := 0, slots := 0, locals := 0 } := C
  unfold X7_mean at h
  show J E G 1 0 0 σ 0 [(0, .ref (gA G 82))] []
  refine j_aload_n C dX7_mean_0 rfl 0 rfl 1 rfl ?_
  refine j_get C foX7 sh82 1 (by decide) 85 rfl kw4_183 rfl dX7_mean_1 (.ref (gA G 83)) (fv_r rfl) 4 rfl ?_
  refine j_iconst C dX7_mean_4 (4 : Int32) (by decide) 5 rfl ?_
  refine j_iald C sh83 (by decide) dX7_mean_5 4 rfl 6 rfl ?_
  refine j_if_ne C dX7_mean_6 13 (by decide) 9 rfl (fun c => ?_) (fun c => ?_)
  · have h := it_f c h
    refine j_aload_n C dX7_mean_13 rfl 0 rfl 14 rfl ?_
    refine j_get C foX7 sh82 1 (by decide) 85 rfl kw4_183 rfl dX7_mean_14 (.ref (gA G 83)) (fv_r rfl) 17 rfl ?_
    refine j_bipush C dX7_mean_17 (7 : Int32) (by decide) 19 rfl ?_
    refine j_iald C sh83 (by decide) dX7_mean_19 7 rfl 20 rfl ?_
    refine j_i2f C dX7_mean_20 21 rfl ?_
    refine j_aload_n C dX7_mean_21 rfl 0 rfl 22 rfl ?_
    refine j_get C foX7 sh82 1 (by decide) 85 rfl kw4_183 rfl dX7_mean_22 (.ref (gA G 83)) (fv_r rfl) 25 rfl ?_
    refine j_iconst C dX7_mean_25 (4 : Int32) (by decide) 26 rfl ?_
    refine j_iald C sh83 (by decide) dX7_mean_26 4 rfl 27 rfl ?_
    refine j_i2f C dX7_mean_27 28 rfl ?_
    obtain ⟨hc, h⟩ := if_some h
    refine j_fdiv C dX7_mean_28 hc 29 rfl ?_
    exact j_fret C F dX7_mean_29 h
  · have h := it_t c h
    refine j_fconst0 C dX7_mean_9 10 rfl ?_
    refine j_goto C dX7_mean_10 29 (by decide) ?_
    exact j_fret C F dX7_mean_29 h

-- ===== StenoChordsModel.meanKeys()F
theorem vk_X7_meanKeys : VK yX7_meanKeys cX7_meanKeys 1 (some .float) 0 := ⟨kw5_234, kw5_232, kw5_233, kw1_9, by decide +kernel⟩
def X7_meanKeys (σ : Mem) : Option (Mem × UInt32) :=
  ((some (setI σ 82 0 (0 : Int32))).bind fun σ1 => ((X7_mean σ1).bind fun q3 => some (q3.1, q3.2)))
set_option maxHeartbeats 4000000 in
set_option maxRecDepth 100000 in
theorem ct_X7_meanKeys (l : Launch) (G : Gw)  {σ : Mem} {out : Mem × UInt32} (h : X7_meanKeys σ = some out) : Ct l G yX7_meanKeys cX7_meanKeys 1 (some .float) { frames := 1, cells := 0, slots := 0, locals := 20 } [.ref (gA G 82)] σ out.1 (some (.float out.2)) := by
  refine Ct.of (by decide +kernel) (Nat.le_of_ble_eq_true rfl) (fun E hE C F => ?_)
  subst hE
  have C : Cx E G RX7 cX7_meanKeys 1 { frames := 1, cells := 0, slots := 0, locals := 20 } := C
  unfold X7_meanKeys at h
  show J E G 1 0 0 σ 0 [(0, .ref (gA G 82))] []
  refine j_aload_n C dX7_meanKeys_0 rfl 0 rfl 1 rfl ?_
  refine j_iconst C dX7_meanKeys_1 (0 : Int32) (by decide) 2 rfl ?_
  obtain ⟨σ1, e2, h⟩ := ob_some h
  refine j_putI C foX7 sh82 0 (by decide) rfl kw4_182 rfl rfl rfl rfl dX7_meanKeys_2 σ1 (Option.some.inj e2) 5 rfl ?_
  refine j_aload_n C dX7_meanKeys_5 rfl 0 rfl 6 rfl ?_
  obtain ⟨q3, e4, h⟩ := ob_some h
  refine j_callV C (ct_X7_mean (eL E) G  e4) sh82 foX7 rfl vk_X7_mean kw5_235 rfl ⟨Nat.le_of_ble_eq_true rfl, Nat.le_of_ble_eq_true rfl, rfl, rfl⟩ ⟨Nat.zero_le _, Nat.zero_le _⟩ (rest := []) rfl (Nat.le_of_ble_eq_true rfl) dX7_meanKeys_6 (st1 := [.float q3.2]) rfl 9 rfl ?_
  exact j_fret C F dX7_meanKeys_9 h

-- ===== StenoChordsModel.mix(J)V
theorem vk_X7_mix : VK yX7_mix cX7_mix 3 none 1 := ⟨kw6_7, kw6_6, kwS_55, kw1_9, by decide +kernel⟩
def X7_mix (σ : Mem) (p1 : Int64) : Option (Mem × Unit) :=
  ((some (setL σ 82 16 (((31 : Int64) * (σ.2 82 16)) + p1))).bind fun σ1 => some (σ1, ()))
set_option maxHeartbeats 4000000 in
set_option maxRecDepth 100000 in
theorem ct_X7_mix (l : Launch) (G : Gw)  {σ : Mem} {p1 : Int64} {out : Mem × Unit} (h : X7_mix σ p1 = some out) : Ct l G yX7_mix cX7_mix 3 none { frames := 0, cells := 0, slots := 0, locals := 0 } [.ref (gA G 82), .long p1] σ out.1 (none) := by
  refine Ct.of (by decide +kernel) (Nat.le_of_ble_eq_true rfl) (fun E hE C F => ?_)
  subst hE
  have C : Cx E G RX7 cX7_mix 3 { frames := 0, cells := 0, slots := 0, locals := 0 } := C
  unfold X7_mix at h
  show J E G 3 0 0 σ 0 [(0, .ref (gA G 82)), (1, .long p1)] []
  refine j_aload_n C dX7_mix_0 rfl 0 rfl 1 rfl ?_
  refine j_ldc2 C dX7_mix_1 kw6_8 4 rfl ?_
  refine j_aload_n C dX7_mix_4 rfl 0 rfl 5 rfl ?_
  refine j_get C foX7 sh82 16 (by decide) 1 rfl kw4_198 rfl dX7_mix_5 (.long (σ.2 82 16)) rfl 8 rfl ?_
  refine j_lmul C dX7_mix_8 9 rfl ?_
  refine j_lload_n C dX7_mix_9 rfl 1 rfl 10 rfl ?_
  refine j_ladd C dX7_mix_10 11 rfl ?_
  obtain ⟨σ1, e2, h⟩ := ob_some h
  refine j_putL C foX7 sh82 16 (by decide) rfl kw4_198 rfl rfl rfl rfl dX7_mix_11 σ1 (Option.some.inj e2) 14 rfl ?_
  exact j_vret C F dX7_mix_14 h
