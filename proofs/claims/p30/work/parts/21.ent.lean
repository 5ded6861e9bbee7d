-- ===== StenoChords$Entries.size()I
theorem vk_X0_size : VK yX0_size cX0_size 1 (some .int) 0 := ⟨kw2_175, kw2_173, kw2_174, kw1_5, by decide +kernel⟩
def X0_size (i : Nat) (σ : Mem) : Option (Mem × Int32) :=
  some (σ, (σ.1 i 3))
set_option maxHeartbeats 4000000 in
set_option maxRecDepth 100000 in
theorem ct_X0_size (l : Launch) (G : Gw) {i : Nat} (o : EntOk i) {σ : Mem} {out : Mem × Int32} (h : X0_size i σ = some out) : Ct l G yX0_size cX0_size 1 (some .int) { frames := 0, cells := 0, slots := 0, locals := 0 } [.ref (gA G i)] σ out.1 (some (.int out.2)) := by
  refine Ct.of (by decide +kernel) (Nat.le_of_ble_eq_true rfl) (fun E hE C F => ?_)
  subst hE
  have C : Cx E G RX0 cX0_size 1 { frames := 0, cells := 0, slots := 0, locals := 0 } := C
  unfold X0_size at h
  show J E G 1 0 0 σ 0 [(0, .ref (gA G i))] []
  refine j_aload_n C dX0_size_0 rfl 0 rfl 1 rfl ?_
  refine j_get C foX0 o.1 3 (by decide) 0 rfl kw1_62 rfl dX0_size_1 (.int (σ.1 i 3)) rfl 4 rfl ?_
  exact j_iret C F dX0_size_4 h

-- ===== StenoChords$Entries.has(I)Z
theorem vk_X0_has : VK yX0_has cX0_has 2 (some .boolean) 1 := ⟨kw1_225, kw1_223, kw1_224, kw1_5, by decide +kernel⟩
def X0_has (i : Nat) (σ : Mem) (p1 : Int32) : Option (Mem × Int32) :=
  (if p1 < 0 then some (σ, (0 : Int32)) else (if (σ.1 i 3) ≤ p1 then some (σ, (0 : Int32)) else (if (24 : Int32) ≤ p1 then some (σ, (0 : Int32)) else some (σ, (1 : Int32)))))
set_option maxHeartbeats 4000000 in
set_option maxRecDepth 100000 in
theorem ct_X0_has (l : Launch) (G : Gw) {i : Nat} (o : EntOk i) {σ : Mem} {p1 : Int32} {out : Mem × Int32} (h : X0_has i σ p1 = some out) : Ct l G yX0_has cX0_has 2 (some .boolean) { frames := 0, cells := 0, slots := 0, locals := 0 } [.ref (gA G i), .int p1] σ out.1 (some (.int out.2)) := by
  refine Ct.of (by decide +kernel) (Nat.le_of_ble_eq_true rfl) (fun E hE C F => ?_)
  subst hE
  have C : Cx E G RX0 cX0_has 2 { frames := 0, cells := 0, slots := 0, locals := 0 } := C
  unfold X0_has at h
  show J E G 2 0 0 σ 0 [(0, .ref (gA G i)), (1, .int p1)] []
  refine j_iload_n C dX0_has_0 rfl 1 rfl 1 rfl ?_
  refine j_if_lt C dX0_has_1 22 (by decide) 4 rfl (fun c => ?_) (fun c => ?_)
  · have h := it_t c h
    refine j_iconst C dX0_has_22 (0 : Int32) (by decide) 23 rfl ?_
    exact j_zret C F dX0_has_23 (by decide) h
  · have h := it_f c h
    refine j_iload_n C dX0_has_4 rfl 1 rfl 5 rfl ?_
    refine j_aload_n C dX0_has_5 rfl 0 rfl 6 rfl ?_
    refine j_get C foX0 o.1 3 (by decide) 0 rfl kw1_62 rfl dX0_has_6 (.int (σ.1 i 3)) rfl 9 rfl ?_
    refine j_icmp_ge C dX0_has_9 22 (by decide) 12 rfl (fun c => ?_) (fun c => ?_)
    · have h := it_t c h
      refine j_iconst C dX0_has_22 (0 : Int32) (by decide) 23 rfl ?_
      exact j_zret C F dX0_has_23 (by decide) h
    · have h := it_f c h
      refine j_iload_n C dX0_has_12 rfl 1 rfl 13 rfl ?_
      refine j_bipush C dX0_has_13 (24 : Int32) (by decide) 15 rfl ?_
      refine j_icmp_ge C dX0_has_15 22 (by decide) 18 rfl (fun c => ?_) (fun c => ?_)
      · have h := it_t c h
        refine j_iconst C dX0_has_22 (0 : Int32) (by decide) 23 rfl ?_
        exact j_zret C F dX0_has_23 (by decide) h
      · have h := it_f c h
        refine j_iconst C dX0_has_18 (1 : Int32) (by decide) 19 rfl ?_
        refine j_goto C dX0_has_19 23 (by decide) ?_
        exact j_zret C F dX0_has_23 (by decide) h

-- ===== StenoChords$Entries.isFull()Z
theorem vk_X0_isFull : VK yX0_isFull cX0_isFull 1 (some .boolean) 0 := ⟨kw4_27, kw4_25, kw4_26, kw1_5, by decide +kernel⟩
def X0_isFull (i : Nat) (σ : Mem) : Option (Mem × Int32) :=
  (if (σ.1 i 3) < (24 : Int32) then some (σ, (0 : Int32)) else some (σ, (1 : Int32)))
set_option maxHeartbeats 4000000 in
set_option maxRecDepth 100000 in
theorem ct_X0_isFull (l : Launch) (G : Gw) {i : Nat} (o : EntOk i) {σ : Mem} {out : Mem × Int32} (h : X0_isFull i σ = some out) : Ct l G yX0_isFull cX0_isFull 1 (some .boolean) { frames := 0, cells := 0, slots := 0, locals := 0 } [.ref (gA G i)] σ out.1 (some (.int out.2)) := by
  refine Ct.of (by decide +kernel) (Nat.le_of_ble_eq_true rfl) (fun E hE C F => ?_)
  subst hE
  have C : Cx E G RX0 cX0_isFull 1 { frames := 0, cells := 0, slots := 0, locals := 0 } := C
  unfold X0_isFull at h
  show J E G 1 0 0 σ 0 [(0, .ref (gA G i))] []
  refine j_aload_n C dX0_isFull_0 rfl 0 rfl 1 rfl ?_
  refine j_get C foX0 o.1 3 (by decide) 0 rfl kw1_62 rfl dX0_isFull_1 (.int (σ.1 i 3)) rfl 4 rfl ?_
  refine j_bipush C dX0_isFull_4 (24 : Int32) (by decide) 6 rfl ?_
  refine j_icmp_lt C dX0_isFull_6 13 (by decide) 9 rfl (fun c => ?_) (fun c => ?_)
  · have h := it_t c h
    refine j_iconst C dX0_isFull_13 (0 : Int32) (by decide) 14 rfl ?_
    exact j_zret C F dX0_isFull_14 (by decide) h
  · have h := it_f c h
    refine j_iconst C dX0_isFull_9 (1 : Int32) (by decide) 10 rfl ?_
    refine j_goto C dX0_isFull_10 14 (by decide) ?_
    exact j_zret C F dX0_isFull_14 (by decide) h

-- ===== StenoChords$Entries.rowOf(I)J
theorem vk_X0_rowOf : VK yX0_rowOf cX0_rowOf 2 (some .long) 1 := ⟨kw1_221, kw1_219, kw1_220, kw1_5, by decide +kernel⟩
def X0_rowOf (i : Nat) (σ : Mem) (p1 : Int32) : Option (Mem × Int64) :=
  ((X0_has i σ p1).bind fun q1 => (if q1.2 = 0 then some (q1.1, (0 : Int64)) else (if inA p1 24 then some (q1.1, (q1.1.2 (i + 1) p1.toNatClampNeg)) else none)))
set_option maxHeartbeats 4000000 in
set_option maxRecDepth 100000 in
theorem ct_X0_rowOf (l : Launch) (G : Gw) {i : Nat} (o : EntOk i) {σ : Mem} {p1 : Int32} {out : Mem × Int64} (h : X0_rowOf i σ p1 = some out) : Ct l G yX0_rowOf cX0_rowOf 2 (some .long) { frames := 1, cells := 0, slots := 0, locals := 21 } [.ref (gA G i), .int p1] σ out.1 (some (.long out.2)) := by
  refine Ct.of (by decide +kernel) (Nat.le_of_ble_eq_true rfl) (fun E hE C F => ?_)
  subst hE
  have C : Cx E G RX0 cX0_rowOf 2 { frames := 1, cells := 0, slots := 0, locals := 21 } := C
  unfold X0_rowOf at h
  show J E G 2 0 0 σ 0 [(0, .ref (gA G i)), (1, .int p1)] []
  refine j_aload_n C dX0_rowOf_0 rfl 0 rfl 1 rfl ?_
  refine j_iload_n C dX0_rowOf_1 rfl 1 rfl 2 rfl ?_
  obtain ⟨q1, e2, h⟩ := ob_some h
  refine j_callV C (ct_X0_has (eL E) G o e2) o.1 foX0 rfl vk_X0_has kw1_222 rfl ⟨Nat.le_of_ble_eq_true rfl, Nat.le_of_ble_eq_true rfl, rfl, rfl⟩ ⟨Nat.zero_le _, Nat.zero_le _⟩ (rest := []) rfl (Nat.le_of_ble_eq_true rfl) dX0_rowOf_2 (st1 := [.int q1.2]) rfl 5 rfl ?_
  refine j_if_eq C dX0_rowOf_5 17 (by decide) 8 rfl (fun c => ?_) (fun c => ?_)
  · have h := it_t c h
    refine j_lconst C dX0_rowOf_17 (0 : Int64) (by decide) 18 rfl ?_
    exact j_lret C F dX0_rowOf_18 h
  · have h := it_f c h
    refine j_aload_n C dX0_rowOf_8 rfl 0 rfl 9 rfl ?_
    refine j_get C foX0 o.1 0 (by decide) (i + 3) rfl kw1_59 rfl dX0_rowOf_9 (.ref (gA G (i + 1))) (fv_r rfl) 12 rfl ?_
    refine j_iload_n C dX0_rowOf_12 rfl 1 rfl 13 rfl ?_
    obtain ⟨hc, h⟩ := if_some h
    refine j_lald C o.2.1 hc dX0_rowOf_13 p1.toNatClampNeg rfl 14 rfl ?_
    refine j_goto C dX0_rowOf_14 18 (by decide) ?_
    exact j_lret C F dX0_rowOf_18 h

-- ===== StenoChords$Entries.wordOf(I)I
theorem vk_X0_wordOf : VK yX0_wordOf cX0_wordOf 2 (some .int) 1 := ⟨kw1_229, kw1_227, kw1_228, kw1_5, by decide +kernel⟩
def X0_wordOf (i : Nat) (σ : Mem) (p1 : Int32) : Option (Mem × Int32) :=
  ((X0_has i σ p1).bind fun q1 => (if q1.2 = 0 then some (q1.1, (-1 : Int32)) else (if inA p1 24 then some (q1.1, (q1.1.1 (i + 2) p1.toNatClampNeg)) else none)))
set_option maxHeartbeats 4000000 in
set_option maxRecDepth 100000 in
theorem ct_X0_wordOf (l : Launch) (G : Gw) {i : Nat} (o : EntOk i) {σ : Mem} {p1 : Int32} {out : Mem × Int32} (h : X0_wordOf i σ p1 = some out) : Ct l G yX0_wordOf cX0_wordOf 2 (some .int) { frames := 1, cells := 0, slots := 0, locals := 21 } [.ref (gA G i), .int p1] σ out.1 (some (.int out.2)) := by
  refine Ct.of (by decide +kernel) (Nat.le_of_ble_eq_true rfl) (fun E hE C F => ?_)
  subst hE
  have C : Cx E G RX0 cX0_wordOf 2 { frames := 1, cells := 0, slots := 0, locals := 21 } := C
  unfold X0_wordOf at h
  show J E G 2 0 0 σ 0 [(0, .ref (gA G i)), (1, .int p1)] []
  refine j_aload_n C dX0_wordOf_0 rfl 0 rfl 1 rfl ?_
  refine j_iload_n C dX0_wordOf_1 rfl 1 rfl 2 rfl ?_
  obtain ⟨q1, e2, h⟩ := ob_some h
  refine j_callV C (ct_X0_has (eL E) G o e2) o.1 foX0 rfl vk_X0_has kw1_222 rfl ⟨Nat.le_of_ble_eq_true rfl, Nat.le_of_ble_eq_true rfl, rfl, rfl⟩ ⟨Nat.zero_le _, Nat.zero_le _⟩ (rest := []) rfl (Nat.le_of_ble_eq_true rfl) dX0_wordOf_2 (st1 := [.int q1.2]) rfl 5 rfl ?_
  refine j_if_eq C dX0_wordOf_5 17 (by decide) 8 rfl (fun c => ?_) (fun c => ?_)
  · have h := it_t c h
    refine j_iconst C dX0_wordOf_17 (-1 : Int32) (by decide) 18 rfl ?_
    exact j_iret C F dX0_wordOf_18 h
  · have h := it_f c h
    refine j_aload_n C dX0_wordOf_8 rfl 0 rfl 9 rfl ?_
    refine j_get C foX0 o.1 1 (by decide) (i + 4) rfl kw1_60 rfl dX0_wordOf_9 (.ref (gA G (i + 2))) (fv_r rfl) 12 rfl ?_
    refine j_iload_n C dX0_wordOf_12 rfl 1 rfl 13 rfl ?_
    obtain ⟨hc, h⟩ := if_some h
    refine j_iald C o.2.2.1 hc dX0_wordOf_13 p1.toNatClampNeg rfl 14 rfl ?_
    refine j_goto C dX0_wordOf_14 18 (by decide) ?_
    exact j_iret C F dX0_wordOf_18 h

-- ===== StenoChords$Entries.picksOf(I)I
theorem vk_X0_picksOf : VK yX0_picksOf cX0_picksOf 2 (some .int) 1 := ⟨kw1_233, kw1_231, kw1_232, kw1_5, by decide +kernel⟩
def X0_picksOf (i : Nat) (σ : Mem) (p1 : Int32) : Option (Mem × Int32) :=
  ((X0_has i σ p1).bind fun q1 => (if q1.2 = 0 then some (q1.1, (0 : Int32)) else (if inA p1 24 then some (q1.1, (q1.1.1 (i + 3) p1.toNatClampNeg)) else none)))
set_option maxHeartbeats 4000000 in
set_option maxRecDepth 100000 in
theorem ct_X0_picksOf (l : Launch) (G : Gw) {i : Nat} (o : EntOk i) {σ : Mem} {p1 : Int32} {out : Mem × Int32} (h : X0_picksOf i σ p1 = some out) : Ct l G yX0_picksOf cX0_picksOf 2 (some .int) { frames := 1, cells := 0, slots := 0, locals := 21 } [.ref (gA G i), .int p1] σ out.1 (some (.int out.2)) := by
  refine Ct.of (by decide +kernel) (Nat.le_of_ble_eq_true rfl) (fun E hE C F => ?_)
  subst hE
  have C : Cx E G RX0 cX0_picksOf 2 { frames := 1, cells := 0, slots := 0, locals := 21 } := C
  unfold X0_picksOf at h
  show J E G 2 0 0 σ 0 [(0, .ref (gA G i)), (1, .int p1)] []
  refine j_aload_n C dX0_picksOf_0 rfl 0 rfl 1 rfl ?_
  refine j_iload_n C dX0_picksOf_1 rfl 1 rfl 2 rfl ?_
  obtain ⟨q1, e2, h⟩ := ob_some h
  refine j_callV C (ct_X0_has (eL E) G o e2) o.1 foX0 rfl vk_X0_has kw1_222 rfl ⟨Nat.le_of_ble_eq_true rfl, Nat.le_of_ble_eq_true rfl, rfl, rfl⟩ ⟨Nat.zero_le _, Nat.zero_le _⟩ (rest := []) rfl (Nat.le_of_ble_eq_true rfl) dX0_picksOf_2 (st1 := [.int q1.2]) rfl 5 rfl ?_
  refine j_if_eq C dX0_picksOf_5 17 (by decide) 8 rfl (fun c => ?_) (fun c => ?_)
  · have h := it_t c h
    refine j_iconst C dX0_picksOf_17 (0 : Int32) (by decide) 18 rfl ?_
    exact j_iret C F dX0_picksOf_18 h
  · have h := it_f c h
    refine j_aload_n C dX0_picksOf_8 rfl 0 rfl 9 rfl ?_
    refine j_get C foX0 o.1 2 (by decide) (i + 5) rfl kw1_61 rfl dX0_picksOf_9 (.ref (gA G (i + 3))) (fv_r rfl) 12 rfl ?_
    refine j_iload_n C dX0_picksOf_12 rfl 1 rfl 13 rfl ?_
    obtain ⟨hc, h⟩ := if_some h
    refine j_iald C o.2.2.2 hc dX0_picksOf_13 p1.toNatClampNeg rfl 14 rfl ?_
    refine j_goto C dX0_picksOf_14 18 (by decide) ?_
    exact j_iret C F dX0_picksOf_18 h

-- ===== StenoChords$Entries.hasBoth(JI)Z
theorem vk_X0_hasBoth : VK yX0_hasBoth cX0_hasBoth 5 (some .boolean) 2 := ⟨kw4_31, kw4_29, kw4_30, kw1_5, by decide +kernel⟩
def X0_hasBoth_3 (i : Nat) (K : Mem → Option (Mem × Int32)) : Nat → Mem → Int64 → Int32 → Int32 → Option (Mem × Int32)
  | 0, _, _, _, _ => none
  | fu + 1, σ, v1, v3, v4 => (if (σ.1 i 3) ≤ v4 then K σ else ((X0_rowOf i σ v4).bind fun q1 => (if (lg_cmp q1.2 v1) = 0 then ((X0_wordOf i q1.1 v4).bind fun q3 => (if q3.2 = v3 then some (q3.1, (1 : Int32)) else X0_hasBoth_3 i K fu q3.1 v1 v3 (v4 + (1 : Int32)))) else X0_hasBoth_3 i K fu q1.1 v1 v3 (v4 + (1 : Int32)))))
set_option maxHeartbeats 4000000 in
set_option maxRecDepth 100000 in
theorem w_X0_hasBoth_3 {E : Ev} {G : Gw} (C : Cx E G RX0 cX0_hasBoth 5 { frames := 2, cells := 0, slots := 0, locals := 42 }) {out : Mem × Int32} (F : Ef E G out.1 (some (.int out.2)) (some .boolean) 0 0) {i : Nat} (o : EntOk i) {K : Mem → Option (Mem × Int32)} (hK : ∀ (σ : Mem) , K σ  = some out → J E G 5 0 0 σ 41 [] []) : ∀ (fu : Nat) (σ : Mem) (v1 : Int64) (v3 : Int32) (v4 : Int32), X0_hasBoth_3 i K fu σ v1 v3 v4 = some out → J E G 5 0 0 σ 3 [(0, .ref (gA G i)), (1, .long v1), (3, .int v3), (4, .int v4)] [] := by
  intro fu
  induction fu with
  | zero => intro σ v1 v3 v4 h; rw [X0_hasBoth_3] at h; cases h
  | succ fu ih =>
    intro σ v1 v3 v4 h
    rw [X0_hasBoth_3] at h
    refine j_iload C dX0_hasBoth_3 3 rfl 5 rfl ?_
    refine j_aload_n C dX0_hasBoth_5 rfl 0 rfl 6 rfl ?_
    refine j_get C foX0 o.1 3 (by decide) 0 rfl kw1_62 rfl dX0_hasBoth_6 (.int (σ.1 i 3)) rfl 9 rfl ?_
    refine j_icmp_ge C dX0_hasBoth_9 41 (by decide) 12 rfl (fun c => ?_) (fun c => ?_)
    · have h := it_t c h
      refine j_sub [] [] rfl ?_
      exact hK _ h
    · have h := it_f c h
      refine j_aload_n C dX0_hasBoth_12 rfl 0 rfl 13 rfl ?_
      refine j_iload C dX0_hasBoth_13 3 rfl 15 rfl ?_
      obtain ⟨q1, e2, h⟩ := ob_some h
      refine j_callV C (ct_X0_rowOf (eL E) G o e2) o.1 foX0 rfl vk_X0_rowOf kw1_218 rfl ⟨Nat.le_of_ble_eq_true rfl, Nat.le_of_ble_eq_true rfl, rfl, rfl⟩ ⟨Nat.zero_le _, Nat.zero_le _⟩ (rest := []) rfl (Nat.le_of_ble_eq_true rfl) dX0_hasBoth_15 (st1 := [.long q1.2]) rfl 18 rfl ?_
      refine j_lload_n C dX0_hasBoth_18 rfl 1 rfl 19 rfl ?_
      refine j_lcmp C dX0_hasBoth_19 20 rfl ?_
      refine j_if_ne C dX0_hasBoth_20 35 (by decide) 23 rfl (fun c => ?_) (fun c => ?_)
      · have h := it_f c h
        refine j_iinc C dX0_hasBoth_35 3 rfl (v4 + (1 : Int32)) rfl (by decide) [(4, .int (v4 + (1 : Int32))), (0, .ref (gA G i)), (1, .long v1), (3, .int v3)] rfl 38 rfl ?_
        refine j_goto C dX0_hasBoth_38 3 (by decide) ?_
        refine j_sub [(0, .ref (gA G i)), (1, .long v1), (3, .int v3), (4, .int (v4 + (1 : Int32)))] [1, 2, 3, 0] rfl ?_
        exact ih _ _ _ _ h
      · have h := it_t c h
        refine j_aload_n C dX0_hasBoth_23 rfl 0 rfl 24 rfl ?_
        refine j_iload C dX0_hasBoth_24 3 rfl 26 rfl ?_
        obtain ⟨q3, e4, h⟩ := ob_some h
        refine j_callV C (ct_X0_wordOf (eL E) G o e4) o.1 foX0 rfl vk_X0_wordOf kw1_226 rfl ⟨Nat.le_of_ble_eq_true rfl, Nat.le_of_ble_eq_true rfl, rfl, rfl⟩ ⟨Nat.zero_le _, Nat.zero_le _⟩ (rest := []) rfl (Nat.le_of_ble_eq_true rfl) dX0_hasBoth_26 (st1 := [.int q3.2]) rfl 29 rfl ?_
        refine j_iload_n C dX0_hasBoth_29 rfl 2 rfl 30 rfl ?_
        refine j_icmp_ne C dX0_hasBoth_30 35 (by decide) 33 rfl (fun c => ?_) (fun c => ?_)
        · have h := it_f c h
          refine j_iinc C dX0_hasBoth_35 3 rfl (v4 + (1 : Int32)) rfl (by decide) [(4, .int (v4 + (1 : Int32))), (0, .ref (gA G i)), (1, .long v1), (3, .int v3)] rfl 38 rfl ?_
          refine j_goto C dX0_hasBoth_38 3 (by decide) ?_
          refine j_sub [(0, .ref (gA G i)), (1, .long v1), (3, .int v3), (4, .int (v4 + (1 : Int32)))] [1, 2, 3, 0] rfl ?_
          exact ih _ _ _ _ h
        · have h := it_t c h
          refine j_iconst C dX0_hasBoth_33 (1 : Int32) (by decide) 34 rfl ?_
          exact j_zret C F dX0_hasBoth_34 (by decide) h
def X0_hasBoth (i : Nat) (σ : Mem) (p1 : Int64) (p3 : Int32) : Option (Mem × Int32) :=
  X0_hasBoth_3 i (fun (σ : Mem)  => some (σ, (0 : Int32))) FU σ p1 p3 (0 : Int32)
set_option maxHeartbeats 4000000 in
set_option maxRecDepth 100000 in
theorem ct_X0_hasBoth (l : Launch) (G : Gw) {i : Nat} (o : EntOk i) {σ : Mem} {p1 : Int64} {p3 : Int32} {out : Mem × Int32} (h : X0_hasBoth i σ p1 p3 = some out) : Ct l G yX0_hasBoth cX0_hasBoth 5 (some .boolean) { frames := 2, cells := 0, slots := 0, locals := 42 } [.ref (gA G i), .long p1, .int p3] σ out.1 (some (.int out.2)) := by
  refine Ct.of (by decide +kernel) (Nat.le_of_ble_eq_true rfl) (fun E hE C F => ?_)
  subst hE
  have C : Cx E G RX0 cX0_hasBoth 5 { frames := 2, cells := 0, slots := 0, locals := 42 } := C
  unfold X0_hasBoth at h
  show J E G 5 0 0 σ 0 [(0, .ref (gA G i)), (1, .long p1), (3, .int p3)] []
  refine j_iconst C dX0_hasBoth_0 (0 : Int32) (by decide) 1 rfl ?_
  refine j_istore C dX0_hasBoth_1 (by decide) [(4, .int (0 : Int32)), (0, .ref (gA G i)), (1, .long p1), (3, .int p3)] rfl 3 rfl ?_
  refine j_sub [(0, .ref (gA G i)), (1, .long p1), (3, .int p3), (4, .int (0 : Int32))] [1, 2, 3, 0] rfl ?_
  refine w_X0_hasBoth_3 C F o (fun σ  h => ?_) FU _ _ _ _ h
  refine j_iconst C dX0_hasBoth_41 (0 : Int32) (by decide) 42 rfl ?_
  exact j_zret C F dX0_hasBoth_42 (by decide) h

-- ===== StenoChords$Entries.leaderOf(J)I
theorem vk_X0_leaderOf : VK yX0_leaderOf cX0_leaderOf 6 (some .int) 1 := ⟨kw2_147, kw2_145, kw2_146, kw1_5, by decide +kernel⟩
def X0_leaderOf_8 (i : Nat) (K : Mem → Int32 → Option (Mem × Int32)) : Nat → Mem → Int64 → Int32 → Int32 → Int32 → Option (Mem × Int32)
  | 0, _, _, _, _, _ => none
  | fu + 1, σ, v1, v3, v4, v5 => (if (σ.1 i 3) ≤ v5 then K σ v3 else (if (24 : Int32) ≤ v5 then K σ v3 else (if inA v5 24 then (if (lg_cmp (σ.2 (i + 1) v5.toNatClampNeg) v1) = 0 then (if inA v5 24 then (if (σ.1 (i + 3) v5.toNatClampNeg) ≤ v4 then X0_leaderOf_8 i K fu σ v1 v3 v4 (v5 + (1 : Int32)) else (if inA v5 24 then X0_leaderOf_8 i K fu σ v1 v5 (σ.1 (i + 3) v5.toNatClampNeg) (v5 + (1 : Int32)) else none)) else none) else X0_leaderOf_8 i K fu σ v1 v3 v4 (v5 + (1 : Int32))) else none)))
set_option maxHeartbeats 4000000 in
set_option maxRecDepth 100000 in
theorem w_X0_leaderOf_8 {E : Ev} {G : Gw} (C : Cx E G RX0 cX0_leaderOf 6 { frames := 0, cells := 0, slots := 0, locals := 0 }) {out : Mem × Int32} (F : Ef E G out.1 (some (.int out.2)) (some .int) 0 0) {i : Nat} (o : EntOk i) {K : Mem → Int32 → Option (Mem × Int32)} (hK : ∀ (σ : Mem) (v3 : Int32), K σ v3 = some out → J E G 6 0 0 σ 66 [(3, .int v3)] []) : ∀ (fu : Nat) (σ : Mem) (v1 : Int64) (v3 : Int32) (v4 : Int32) (v5 : Int32), X0_leaderOf_8 i K fu σ v1 v3 v4 v5 = some out → J E G 6 0 0 σ 8 [(0, .ref (gA G i)), (1, .long v1), (3, .int v3), (4, .int v4), (5, .int v5)] [] := by
  intro fu
  induction fu with
  | zero => intro σ v1 v3 v4 v5 h; rw [X0_leaderOf_8] at h; cases h
  | succ fu ih =>
    intro σ v1 v3 v4 v5 h
    rw [X0_leaderOf_8] at h
    refine j_iload C dX0_leaderOf_8 4 rfl 10 rfl ?_
    refine j_aload_n C dX0_leaderOf_10 rfl 0 rfl 11 rfl ?_
    refine j_get C foX0 o.1 3 (by decide) 0 rfl kw1_62 rfl dX0_leaderOf_11 (.int (σ.1 i 3)) rfl 14 rfl ?_
    refine j_icmp_ge C dX0_leaderOf_14 66 (by decide) 17 rfl (fun c => ?_) (fun c => ?_)
    · have h := it_t c h
      refine j_sub [(3, .int v3)] [2] rfl ?_
      exact hK _ _ h
    · have h := it_f c h
      refine j_iload C dX0_leaderOf_17 4 rfl 19 rfl ?_
      refine j_bipush C dX0_leaderOf_19 (24 : Int32) (by decide) 21 rfl ?_
      refine j_icmp_ge C dX0_leaderOf_21 66 (by decide) 24 rfl (fun c => ?_) (fun c => ?_)
      · have h := it_t c h
        refine j_sub [(3, .int v3)] [2] rfl ?_
        exact hK _ _ h
      · have h := it_f c h
        refine j_aload_n C dX0_leaderOf_24 rfl 0 rfl 25 rfl ?_
        refine j_get C foX0 o.1 0 (by decide) (i + 3) rfl kw1_59 rfl dX0_leaderOf_25 (.ref (gA G (i + 1))) (fv_r rfl) 28 rfl ?_
        refine j_iload C dX0_leaderOf_28 4 rfl 30 rfl ?_
        obtain ⟨hc, h⟩ := if_some h
        refine j_lald C o.2.1 hc dX0_leaderOf_30 v5.toNatClampNeg rfl 31 rfl ?_
        refine j_lload_n C dX0_leaderOf_31 rfl 1 rfl 32 rfl ?_
        refine j_lcmp C dX0_leaderOf_32 33 rfl ?_
        refine j_if_ne C dX0_leaderOf_33 60 (by decide) 36 rfl (fun c => ?_) (fun c => ?_)
        · have h := it_f c h
          refine j_iinc C dX0_leaderOf_60 4 rfl (v5 + (1 : Int32)) rfl (by decide) [(5, .int (v5 + (1 : Int32))), (0, .ref (gA G i)), (1, .long v1), (3, .int v3), (4, .int v4)] rfl 63 rfl ?_
          refine j_goto C dX0_leaderOf_63 8 (by decide) ?_
          refine j_sub [(0, .ref (gA G i)), (1, .long v1), (3, .int v3), (4, .int v4), (5, .int (v5 + (1 : Int32)))] [1, 2, 3, 4, 0] rfl ?_
          exact ih _ _ _ _ _ h
        · have h := it_t c h
          refine j_aload_n C dX0_leaderOf_36 rfl 0 rfl 37 rfl ?_
          refine j_get C foX0 o.1 2 (by decide) (i + 5) rfl kw1_61 rfl dX0_leaderOf_37 (.ref (gA G (i + 3))) (fv_r rfl) 40 rfl ?_
          refine j_iload C dX0_leaderOf_40 4 rfl 42 rfl ?_
          obtain ⟨hc, h⟩ := if_some h
          refine j_iald C o.2.2.2 hc dX0_leaderOf_42 v5.toNatClampNeg rfl 43 rfl ?_
          refine j_iload C dX0_leaderOf_43 3 rfl 45 rfl ?_
          refine j_icmp_le C dX0_leaderOf_45 60 (by decide) 48 rfl (fun c => ?_) (fun c => ?_)
          · have h := it_t c h
            refine j_iinc C dX0_leaderOf_60 4 rfl (v5 + (1 : Int32)) rfl (by decide) [(5, .int (v5 + (1 : Int32))), (0, .ref (gA G i)), (1, .long v1), (3, .int v3), (4, .int v4)] rfl 63 rfl ?_
            refine j_goto C dX0_leaderOf_63 8 (by decide) ?_
            refine j_sub [(0, .ref (gA G i)), (1, .long v1), (3, .int v3), (4, .int v4), (5, .int (v5 + (1 : Int32)))] [1, 2, 3, 4, 0] rfl ?_
            exact ih _ _ _ _ _ h
          · have h := it_f c h
            refine j_iload C dX0_leaderOf_48 4 rfl 50 rfl ?_
            refine j_istore_n C dX0_leaderOf_50 rfl (by decide) [(3, .int v5), (0, .ref (gA G i)), (1, .long v1), (4, .int v4), (5, .int v5)] rfl 51 rfl ?_
            refine j_aload_n C dX0_leaderOf_51 rfl 1 rfl 52 rfl ?_
            refine j_get C foX0 o.1 2 (by decide) (i + 5) rfl kw1_61 rfl dX0_leaderOf_52 (.ref (gA G (i + 3))) (fv_r rfl) 55 rfl ?_
            refine j_iload C dX0_leaderOf_55 4 rfl 57 rfl ?_
            obtain ⟨hc, h⟩ := if_some h
            refine j_iald C o.2.2.2 hc dX0_leaderOf_57 v5.toNatClampNeg rfl 58 rfl ?_
            refine j_istore C dX0_leaderOf_58 (by decide) [(4, .int (σ.1 (i + 3) v5.toNatClampNeg)), (3, .int v5), (0, .ref (gA G i)), (1, .long v1), (5, .int v5)] rfl 60 rfl ?_
            refine j_iinc C dX0_leaderOf_60 4 rfl (v5 + (1 : Int32)) rfl (by decide) [(5, .int (v5 + (1 : Int32))), (4, .int (σ.1 (i + 3) v5.toNatClampNeg)), (3, .int v5), (0, .ref (gA G i)), (1, .long v1)] rfl 63 rfl ?_
            refine j_goto C dX0_leaderOf_63 8 (by decide) ?_
            refine j_sub [(0, .ref (gA G i)), (1, .long v1), (3, .int v5), (4, .int (σ.1 (i + 3) v5.toNatClampNeg)), (5, .int (v5 + (1 : Int32)))] [3, 4, 2, 1, 0] rfl ?_
            exact ih _ _ _ _ _ h
def X0_leaderOf (i : Nat) (σ : Mem) (p1 : Int64) : Option (Mem × Int32) :=
  X0_leaderOf_8 i (fun (σ : Mem) (v3 : Int32) => some (σ, v3)) FU σ p1 (-1 : Int32) (-1 : Int32) (0 : Int32)
set_option maxHeartbeats 4000000 in
set_option maxRecDepth 100000 in
theorem ct_X0_leaderOf (l : Launch) (G : Gw) {i : Nat} (o : EntOk i) {σ : Mem} {p1 : Int64} {out : Mem × Int32} (h : X0_leaderOf i σ p1 = some out) : Ct l G yX0_leaderOf cX0_leaderOf 6 (some .int) { frames := 0, cells := 0, slots := 0, locals := 0 } [.ref (gA G i), .long p1] σ out.1 (some (.int out.2)) := by
  refine Ct.of (by decide +kernel) (Nat.le_of_ble_eq_true rfl) (fun E hE C F => ?_)
  subst hE
  have C : Cx E G RX0 cX0_leaderOf 6 { frames := 0, cells := 0, slots := 0, locals := 0 } := C
  unfold X0_leaderOf at h
  show J E G 6 0 0 σ 0 [(0, .ref (gA G i)), (1, .long p1)] []
  refine j_iconst C dX0_leaderOf_0 (-1 : Int32) (by decide) 1 rfl ?_
  refine j_istore_n C dX0_leaderOf_1 rfl (by decide) [(3, .int (-1 : Int32)), (0, .ref (gA G i)), (1, .long p1)] rfl 2 rfl ?_
  refine j_iconst C dX0_leaderOf_2 (-1 : Int32) (by decide) 3 rfl ?_
  refine j_istore C dX0_leaderOf_3 (by decide) [(4, .int (-1 : Int32)), (3, .int (-1 : Int32)), (0, .ref (gA G i)), (1, .long p1)] rfl 5 rfl ?_
  refine j_iconst C dX0_leaderOf_5 (0 : Int32) (by decide) 6 rfl ?_
  refine j_istore C dX0_leaderOf_6 (by decide) [(5, .int (0 : Int32)), (4, .int (-1 : Int32)), (3, .int (-1 : Int32)), (0, .ref (gA G i)), (1, .long p1)] rfl 8 rfl ?_
  refine j_sub [(0, .ref (gA G i)), (1, .long p1), (3, .int (-1 : Int32)), (4, .int (-1 : Int32)), (5, .int (0 : Int32))] [3, 4, 2, 1, 0] rfl ?_
  refine w_X0_leaderOf_8 C F o (fun σ v3 h => ?_) FU _ _ _ _ _ h
  refine j_iload_n C dX0_leaderOf_66 rfl 0 rfl 67 rfl ?_
  exact j_iret C F dX0_leaderOf_67 h

-- ===== StenoChords$Entries.rivals(J)I
theorem vk_X0_rivals : VK yX0_rivals cX0_rivals 5 (some .int) 1 := ⟨kw3_44, kw3_42, kw3_43, kw1_5, by decide +kernel⟩
def X0_rivals_5 (i : Nat) (K : Mem → Int32 → Option (Mem × Int32)) : Nat → Mem → Int64 → Int32 → Int32 → Option (Mem × Int32)
  | 0, _, _, _, _ => none
  | fu + 1, σ, v1, v3, v4 => (if (σ.1 i 3) ≤ v4 then K σ v3 else ((X0_rowOf i σ v4).bind fun q1 => (if (lg_cmp q1.2 v1) = 0 then X0_rivals_5 i K fu q1.1 v1 (v3 + (1 : Int32)) (v4 + (1 : Int32)) else X0_rivals_5 i K fu q1.1 v1 v3 (v4 + (1 : Int32)))))
set_option maxHeartbeats 4000000 in
set_option maxRecDepth 100000 in
theorem w_X0_rivals_5 {E : Ev} {G : Gw} (C : Cx E G RX0 cX0_rivals 5 { frames := 2, cells := 0, slots := 0, locals := 42 }) {out : Mem × Int32} (F : Ef E G out.1 (some (.int out.2)) (some .int) 0 0) {i : Nat} (o : EntOk i) {K : Mem → Int32 → Option (Mem × Int32)} (hK : ∀ (σ : Mem) (v3 : Int32), K σ v3 = some out → J E G 5 0 0 σ 34 [(3, .int v3)] []) : ∀ (fu : Nat) (σ : Mem) (v1 : Int64) (v3 : Int32) (v4 : Int32), X0_rivals_5 i K fu σ v1 v3 v4 = some out → J E G 5 0 0 σ 5 [(0, .ref (gA G i)), (1, .long v1), (3, .int v3), (4, .int v4)] [] := by
  intro fu
  induction fu with
  | zero => intro σ v1 v3 v4 h; rw [X0_rivals_5] at h; cases h
  | succ fu ih =>
    intro σ v1 v3 v4 h
    rw [X0_rivals_5] at h
    refine j_iload C dX0_rivals_5 3 rfl 7 rfl ?_
    refine j_aload_n C dX0_rivals_7 rfl 0 rfl 8 rfl ?_
    refine j_get C foX0 o.1 3 (by decide) 0 rfl kw1_62 rfl dX0_rivals_8 (.int (σ.1 i 3)) rfl 11 rfl ?_
    refine j_icmp_ge C dX0_rivals_11 34 (by decide) 14 rfl (fun c => ?_) (fun c => ?_)
    · have h := it_t c h
      refine j_sub [(3, .int v3)] [2] rfl ?_
      exact hK _ _ h
    · have h := it_f c h
      refine j_aload_n C dX0_rivals_14 rfl 0 rfl 15 rfl ?_
      refine j_iload C dX0_rivals_15 3 rfl 17 rfl ?_
      obtain ⟨q1, e2, h⟩ := ob_some h
      refine j_callV C (ct_X0_rowOf (eL E) G o e2) o.1 foX0 rfl vk_X0_rowOf kw1_218 rfl ⟨Nat.le_of_ble_eq_true rfl, Nat.le_of_ble_eq_true rfl, rfl, rfl⟩ ⟨Nat.zero_le _, Nat.zero_le _⟩ (rest := []) rfl (Nat.le_of_ble_eq_true rfl) dX0_rivals_17 (st1 := [.long q1.2]) rfl 20 rfl ?_
      refine j_lload_n C dX0_rivals_20 rfl 1 rfl 21 rfl ?_
      refine j_lcmp C dX0_rivals_21 22 rfl ?_
      refine j_if_ne C dX0_rivals_22 28 (by decide) 25 rfl (fun c => ?_) (fun c => ?_)
      · have h := it_f c h
        refine j_iinc C dX0_rivals_28 3 rfl (v4 + (1 : Int32)) rfl (by decide) [(4, .int (v4 + (1 : Int32))), (0, .ref (gA G i)), (1, .long v1), (3, .int v3)] rfl 31 rfl ?_
        refine j_goto C dX0_rivals_31 5 (by decide) ?_
        refine j_sub [(0, .ref (gA G i)), (1, .long v1), (3, .int v3), (4, .int (v4 + (1 : Int32)))] [1, 2, 3, 0] rfl ?_
        exact ih _ _ _ _ h
      · have h := it_t c h
        refine j_iinc C dX0_rivals_25 2 rfl (v3 + (1 : Int32)) rfl (by decide) [(3, .int (v3 + (1 : Int32))), (0, .ref (gA G i)), (1, .long v1), (4, .int v4)] rfl 28 rfl ?_
        refine j_iinc C dX0_rivals_28 3 rfl (v4 + (1 : Int32)) rfl (by decide) [(4, .int (v4 + (1 : Int32))), (3, .int (v3 + (1 : Int32))), (0, .ref (gA G i)), (1, .long v1)] rfl 31 rfl ?_
        refine j_goto C dX0_rivals_31 5 (by decide) ?_
        refine j_sub [(0, .ref (gA G i)), (1, .long v1), (3, .int (v3 + (1 : Int32))), (4, .int (v4 + (1 : Int32)))] [2, 3, 1, 0] rfl ?_
        exact ih _ _ _ _ h
def X0_rivals (i : Nat) (σ : Mem) (p1 : Int64) : Option (Mem × Int32) :=
  X0_rivals_5 i (fun (σ : Mem) (v3 : Int32) => some (σ, v3)) FU σ p1 (0 : Int32) (0 : Int32)
set_option maxHeartbeats 4000000 in
set_option maxRecDepth 100000 in
theorem ct_X0_rivals (l : Launch) (G : Gw) {i : Nat} (o : EntOk i) {σ : Mem} {p1 : Int64} {out : Mem × Int32} (h : X0_rivals i σ p1 = some out) : Ct l G yX0_rivals cX0_rivals 5 (some .int) { frames := 2, cells := 0, slots := 0, locals := 42 } [.ref (gA G i), .long p1] σ out.1 (some (.int out.2)) := by
  refine Ct.of (by decide +kernel) (Nat.le_of_ble_eq_true rfl) (fun E hE C F => ?_)
  subst hE
  have C : Cx E G RX0 cX0_rivals 5 { frames := 2, cells := 0, slots := 0, locals := 42 } := C
  unfold X0_rivals at h
  show J E G 5 0 0 σ 0 [(0, .ref (gA G i)), (1, .long p1)] []
  refine j_iconst C dX0_rivals_0 (0 : Int32) (by decide) 1 rfl ?_
  refine j_istore_n C dX0_rivals_1 rfl (by decide) [(3, .int (0 : Int32)), (0, .ref (gA G i)), (1, .long p1)] rfl 2 rfl ?_
  refine j_iconst C dX0_rivals_2 (0 : Int32) (by decide) 3 rfl ?_
  refine j_istore C dX0_rivals_3 (by decide) [(4, .int (0 : Int32)), (3, .int (0 : Int32)), (0, .ref (gA G i)), (1, .long p1)] rfl 5 rfl ?_
  refine j_sub [(0, .ref (gA G i)), (1, .long p1), (3, .int (0 : Int32)), (4, .int (0 : Int32))] [2, 3, 1, 0] rfl ?_
  refine w_X0_rivals_5 C F o (fun σ v3 h => ?_) FU _ _ _ _ h
  refine j_iload_n C dX0_rivals_34 rfl 0 rfl 35 rfl ?_
  exact j_iret C F dX0_rivals_35 h

-- ===== StenoChords$Entries.longerThan(JI)I
theorem vk_X0_longerThan : VK yX0_longerThan cX0_longerThan 10 (some .int) 2 := ⟨kw3_93, kw3_91, kw3_92, kw1_5, by decide +kernel⟩
def X0_longerThan_16 (i : Nat) (K : Mem → Int32 → Option (Mem × Int32)) : Nat → Mem → Int64 → Int64 → Int32 → Int32 → Option (Mem × Int32)
  | 0, _, _, _, _, _ => none
  | fu + 1, σ, v1, v4, v6, v7 => (if (σ.1 i 3) ≤ v7 then K σ v6 else ((X0_rowOf i σ v7).bind fun q1 => (if (lg_cmp (q1.2 &&& v4) v1) = 0 then (if (lg_cmp q1.2 v1) = 0 then X0_longerThan_16 i K fu q1.1 v1 v4 v6 (v7 + (1 : Int32)) else X0_longerThan_16 i K fu q1.1 v1 v4 (v6 + (1 : Int32)) (v7 + (1 : Int32))) else X0_longerThan_16 i K fu q1.1 v1 v4 v6 (v7 + (1 : Int32)))))
set_option maxHeartbeats 4000000 in
set_option maxRecDepth 100000 in
theorem w_X0_longerThan_16 {E : Ev} {G : Gw} (C : Cx E G RX0 cX0_longerThan 10 { frames := 2, cells := 0, slots := 0, locals := 42 }) {out : Mem × Int32} (F : Ef E G out.1 (some (.int out.2)) (some .int) 0 0) {i : Nat} (o : EntOk i) {K : Mem → Int32 → Option (Mem × Int32)} (hK : ∀ (σ : Mem) (v6 : Int32), K σ v6 = some out → J E G 10 0 0 σ 59 [(6, .int v6)] []) : ∀ (fu : Nat) (σ : Mem) (v1 : Int64) (v4 : Int64) (v6 : Int32) (v7 : Int32), X0_longerThan_16 i K fu σ v1 v4 v6 v7 = some out → J E G 10 0 0 σ 16 [(0, .ref (gA G i)), (1, .long v1), (4, .long v4), (6, .int v6), (7, .int v7)] [] := by
  intro fu
  induction fu with
  | zero => intro σ v1 v4 v6 v7 h; rw [X0_longerThan_16] at h; cases h
  | succ fu ih =>
    intro σ v1 v4 v6 v7 h
    rw [X0_longerThan_16] at h
    refine j_iload C dX0_longerThan_16 4 rfl 18 rfl ?_
    refine j_aload_n C dX0_longerThan_18 rfl 0 rfl 19 rfl ?_
    refine j_get C foX0 o.1 3 (by decide) 0 rfl kw1_62 rfl dX0_longerThan_19 (.int (σ.1 i 3)) rfl 22 rfl ?_
    refine j_icmp_ge C dX0_longerThan_22 59 (by decide) 25 rfl (fun c => ?_) (fun c => ?_)
    · have h := it_t c h
      refine j_sub [(6, .int v6)] [3] rfl ?_
      exact hK _ _ h
    · have h := it_f c h
      refine j_aload_n C dX0_longerThan_25 rfl 0 rfl 26 rfl ?_
      refine j_iload C dX0_longerThan_26 4 rfl 28 rfl ?_
      obtain ⟨q1, e2, h⟩ := ob_some h
      refine j_callV C (ct_X0_rowOf (eL E) G o e2) o.1 foX0 rfl vk_X0_rowOf kw1_218 rfl ⟨Nat.le_of_ble_eq_true rfl, Nat.le_of_ble_eq_true rfl, rfl, rfl⟩ ⟨Nat.zero_le _, Nat.zero_le _⟩ (rest := []) rfl (Nat.le_of_ble_eq_true rfl) dX0_longerThan_28 (st1 := [.long q1.2]) rfl 31 rfl ?_
      refine j_lstore C dX0_longerThan_31 (by decide) [(8, .long q1.2), (0, .ref (gA G i)), (1, .long v1), (4, .long v4), (6, .int v6), (7, .int v7)] rfl 33 rfl ?_
      refine j_lload C dX0_longerThan_33 0 rfl 35 rfl ?_
      refine j_lload C dX0_longerThan_35 3 rfl 37 rfl ?_
      refine j_land C dX0_longerThan_37 38 rfl ?_
      refine j_lload_n C dX0_longerThan_38 rfl 2 rfl 39 rfl ?_
      refine j_lcmp C dX0_longerThan_39 40 rfl ?_
      refine j_if_ne C dX0_longerThan_40 53 (by decide) 43 rfl (fun c => ?_) (fun c => ?_)
      · have h := it_f c h
        refine j_iinc C dX0_longerThan_53 5 rfl (v7 + (1 : Int32)) rfl (by decide) [(7, .int (v7 + (1 : Int32))), (8, .long q1.2), (0, .ref (gA G i)), (1, .long v1), (4, .long v4), (6, .int v6)] rfl 56 rfl ?_
        refine j_goto C dX0_longerThan_56 16 (by decide) ?_
        refine j_sub [(0, .ref (gA G i)), (1, .long v1), (4, .long v4), (6, .int v6), (7, .int (v7 + (1 : Int32)))] [2, 3, 4, 5, 0] rfl ?_
        exact ih _ _ _ _ _ h
      · have h := it_t c h
        refine j_lload C dX0_longerThan_43 0 rfl 45 rfl ?_
        refine j_lload_n C dX0_longerThan_45 rfl 2 rfl 46 rfl ?_
        refine j_lcmp C dX0_longerThan_46 47 rfl ?_
        refine j_if_eq C dX0_longerThan_47 53 (by decide) 50 rfl (fun c => ?_) (fun c => ?_)
        · have h := it_t c h
          refine j_iinc C dX0_longerThan_53 5 rfl (v7 + (1 : Int32)) rfl (by decide) [(7, .int (v7 + (1 : Int32))), (8, .long q1.2), (0, .ref (gA G i)), (1, .long v1), (4, .long v4), (6, .int v6)] rfl 56 rfl ?_
          refine j_goto C dX0_longerThan_56 16 (by decide) ?_
          refine j_sub [(0, .ref (gA G i)), (1, .long v1), (4, .long v4), (6, .int v6), (7, .int (v7 + (1 : Int32)))] [2, 3, 4, 5, 0] rfl ?_
          exact ih _ _ _ _ _ h
        · have h := it_f c h
          refine j_iinc C dX0_longerThan_50 4 rfl (v6 + (1 : Int32)) rfl (by decide) [(6, .int (v6 + (1 : Int32))), (8, .long q1.2), (0, .ref (gA G i)), (1, .long v1), (4, .long v4), (7, .int v7)] rfl 53 rfl ?_
          refine j_iinc C dX0_longerThan_53 5 rfl (v7 + (1 : Int32)) rfl (by decide) [(7, .int (v7 + (1 : Int32))), (6, .int (v6 + (1 : Int32))), (8, .long q1.2), (0, .ref (gA G i)), (1, .long v1), (4, .long v4)] rfl 56 rfl ?_
          refine j_goto C dX0_longerThan_56 16 (by decide) ?_
          refine j_sub [(0, .ref (gA G i)), (1, .long v1), (4, .long v4), (6, .int (v6 + (1 : Int32))), (7, .int (v7 + (1 : Int32)))] [3, 4, 5, 1, 0] rfl ?_
          exact ih _ _ _ _ _ h
def X0_longerThan (i : Nat) (σ : Mem) (p1 : Int64) (p3 : Int32) : Option (Mem × Int32) :=
  X0_longerThan_16 i (fun (σ : Mem) (v6 : Int32) => some (σ, v6)) FU σ p1 (((1 : Int64) <<< (((10 : Int32) * p3).toInt64 &&& 63)) - (1 : Int64)) (0 : Int32) (0 : Int32)
set_option maxHeartbeats 4000000 in
set_option maxRecDepth 100000 in
theorem ct_X0_longerThan (l : Launch) (G : Gw) {i : Nat} (o : EntOk i) {σ : Mem} {p1 : Int64} {p3 : Int32} {out : Mem × Int32} (h : X0_longerThan i σ p1 p3 = some out) : Ct l G yX0_longerThan cX0_longerThan 10 (some .int) { frames := 2, cells := 0, slots := 0, locals := 42 } [.ref (gA G i), .long p1, .int p3] σ out.1 (some (.int out.2)) := by
  refine Ct.of (by decide +kernel) (Nat.le_of_ble_eq_true rfl) (fun E hE C F => ?_)
  subst hE
  have C : Cx E G RX0 cX0_longerThan 10 { frames := 2, cells := 0, slots := 0, locals := 42 } := C
  unfold X0_longerThan at h
  show J E G 10 0 0 σ 0 [(0, .ref (gA G i)), (1, .long p1), (3, .int p3)] []
  refine j_lconst C dX0_longerThan_0 (1 : Int64) (by decide) 1 rfl ?_
  refine j_bipush C dX0_longerThan_1 (10 : Int32) (by decide) 3 rfl ?_
  refine j_iload_n C dX0_longerThan_3 rfl 2 rfl 4 rfl ?_
  refine j_imul C dX0_longerThan_4 5 rfl ?_
  refine j_lshl C dX0_longerThan_5 6 rfl ?_
  refine j_lconst C dX0_longerThan_6 (1 : Int64) (by decide) 7 rfl ?_
  refine j_lsub C dX0_longerThan_7 8 rfl ?_
  refine j_lstore C dX0_longerThan_8 (by decide) [(4, .long (((1 : Int64) <<< (((10 : Int32) * p3).toInt64 &&& 63)) - (1 : Int64))), (0, .ref (gA G i)), (1, .long p1), (3, .int p3)] rfl 10 rfl ?_
  refine j_iconst C dX0_longerThan_10 (0 : Int32) (by decide) 11 rfl ?_
  refine j_istore C dX0_longerThan_11 (by decide) [(6, .int (0 : Int32)), (4, .long (((1 : Int64) <<< (((10 : Int32) * p3).toInt64 &&& 63)) - (1 : Int64))), (0, .ref (gA G i)), (1, .long p1), (3, .int p3)] rfl 13 rfl ?_
  refine j_iconst C dX0_longerThan_13 (0 : Int32) (by decide) 14 rfl ?_
  refine j_istore C dX0_longerThan_14 (by decide) [(7, .int (0 : Int32)), (6, .int (0 : Int32)), (4, .long (((1 : Int64) <<< (((10 : Int32) * p3).toInt64 &&& 63)) - (1 : Int64))), (0, .ref (gA G i)), (1, .long p1), (3, .int p3)] rfl 16 rfl ?_
  refine j_sub [(0, .ref (gA G i)), (1, .long p1), (4, .long (((1 : Int64) <<< (((10 : Int32) * p3).toInt64 &&& 63)) - (1 : Int64))), (6, .int (0 : Int32)), (7, .int (0 : Int32))] [3, 4, 2, 1, 0] rfl ?_
  refine w_X0_longerThan_16 C F o (fun σ v6 h => ?_) FU _ _ _ _ _ h
  refine j_iload C dX0_longerThan_59 0 rfl 61 rfl ?_
  exact j_iret C F dX0_longerThan_61 h

-- ===== StenoChords$Entries.longestAt(LStenoChords$Row;II)I
theorem vk_X0_longestAt : VK yX0_longestAt cX0_longestAt 5 (some .int) 3 := ⟨kw2_135, kw2_133, kw2_134, kw1_5, by decide +kernel⟩
def X0_longestAt_12 (i : Nat) (j : Nat) (K : Mem → Option (Mem × Int32)) : Nat → Mem → Int32 → Int32 → Option (Mem × Int32)
  | 0, _, _, _ => none
  | fu + 1, σ, v2, v4 => (if v4 ≤ 0 then K σ else ((X3_packed j σ v2 v4).bind fun q3 => ((X0_leaderOf i q3.1 q3.2).bind fun q5 => (if q5.2 = (-1 : Int32) then X0_longestAt_12 i j K fu q5.1 v2 (v4 + (-1 : Int32)) else some (q5.1, v4)))))
set_option maxHeartbeats 4000000 in
set_option maxRecDepth 100000 in
theorem w_X0_longestAt_12 {E : Ev} {G : Gw} (C : Cx E G RX0 cX0_longestAt 5 { frames := 1, cells := 0, slots := 0, locals := 26 }) {out : Mem × Int32} (F : Ef E G out.1 (some (.int out.2)) (some .int) 0 0) {i : Nat} (o : EntOk i) {j : Nat} (oj : RowOk j) {K : Mem → Option (Mem × Int32)} (hK : ∀ (σ : Mem) , K σ  = some out → J E G 5 0 0 σ 41 [] []) : ∀ (fu : Nat) (σ : Mem) (v2 : Int32) (v4 : Int32), X0_longestAt_12 i j K fu σ v2 v4 = some out → J E G 5 0 0 σ 12 [(0, .ref (gA G i)), (1, .ref (gA G j)), (2, .int v2), (4, .int v4)] [] := by
  intro fu
  induction fu with
  | zero => intro σ v2 v4 h; rw [X0_longestAt_12] at h; cases h
  | succ fu ih =>
    intro σ v2 v4 h
    rw [X0_longestAt_12] at h
    refine j_iload C dX0_longestAt_12 3 rfl 14 rfl ?_
    refine j_if_le C dX0_longestAt_14 41 (by decide) 17 rfl (fun c => ?_) (fun c => ?_)
    · have h := it_t c h
      refine j_sub [] [] rfl ?_
      exact hK _ h
    · have h := it_f c h
      refine j_aload_n C dX0_longestAt_17 rfl 0 rfl 18 rfl ?_
      refine j_aload_n C dX0_longestAt_18 rfl 1 rfl 19 rfl ?_
      refine j_iload_n C dX0_longestAt_19 rfl 2 rfl 20 rfl ?_
      refine j_iload C dX0_longestAt_20 3 rfl 22 rfl ?_
      obtain ⟨q3, e4, h⟩ := ob_some h
      refine j_callV C (ct_X3_packed (eL E) G oj e4) oj.1 foX3 rfl vk_X3_packed kw2_140 rfl ⟨Nat.le_of_ble_eq_true rfl, Nat.le_of_ble_eq_true rfl, rfl, rfl⟩ ⟨Nat.zero_le _, Nat.zero_le _⟩ (rest := [.ref (gA G i)]) rfl (Nat.le_of_ble_eq_true rfl) dX0_longestAt_22 (st1 := [.long q3.2, .ref (gA G i)]) rfl 25 rfl ?_
      obtain ⟨q5, e6, h⟩ := ob_some h
      refine j_callV C (ct_X0_leaderOf (eL E) G o e6) o.1 foX0 rfl vk_X0_leaderOf kw2_144 rfl ⟨Nat.le_of_ble_eq_true rfl, Nat.le_of_ble_eq_true rfl, rfl, rfl⟩ ⟨Nat.zero_le _, Nat.zero_le _⟩ (rest := []) rfl (Nat.le_of_ble_eq_true rfl) dX0_longestAt_25 (st1 := [.int q5.2]) rfl 28 rfl ?_
      refine j_iconst C dX0_longestAt_28 (-1 : Int32) (by decide) 29 rfl ?_
      refine j_icmp_eq C dX0_longestAt_29 35 (by decide) 32 rfl (fun c => ?_) (fun c => ?_)
      · have h := it_t c h
        refine j_iinc C dX0_longestAt_35 3 rfl (v4 + (-1 : Int32)) rfl (by decide) [(4, .int (v4 + (-1 : Int32))), (0, .ref (gA G i)), (1, .ref (gA G j)), (2, .int v2)] rfl 38 rfl ?_
        refine j_goto C dX0_longestAt_38 12 (by decide) ?_
        refine j_sub [(0, .ref (gA G i)), (1, .ref (gA G j)), (2, .int v2), (4, .int (v4 + (-1 : Int32)))] [1, 2, 3, 0] rfl ?_
        exact ih _ _ _ h
      · have h := it_f c h
        refine j_iload C dX0_longestAt_32 3 rfl 34 rfl ?_
        exact j_iret C F dX0_longestAt_34 h
def X0_longestAt (i : Nat) (j : Nat) (σ : Mem) (p2 : Int32) (p3 : Int32) : Option (Mem × Int32) :=
  ((X3_length j σ).bind fun q1 => X0_longestAt_12 i j (fun (σ : Mem)  => some (σ, (0 : Int32))) FU q1.1 p2 (if (q1.2 - p2) < p3 then (q1.2 - p2) else p3))
set_option maxHeartbeats 4000000 in
set_option maxRecDepth 100000 in
theorem ct_X0_longestAt (l : Launch) (G : Gw) {i : Nat} (o : EntOk i) {j : Nat} (oj : RowOk j) {σ : Mem} {p2 : Int32} {p3 : Int32} {out : Mem × Int32} (h : X0_longestAt i j σ p2 p3 = some out) : Ct l G yX0_longestAt cX0_longestAt 5 (some .int) { frames := 1, cells := 0, slots := 0, locals := 26 } [.ref (gA G i), .ref (gA G j), .int p2, .int p3] σ out.1 (some (.int out.2)) := by
  refine Ct.of (by decide +kernel) (Nat.le_of_ble_eq_true rfl) (fun E hE C F => ?_)
  subst hE
  have C : Cx E G RX0 cX0_longestAt 5 { frames := 1, cells := 0, slots := 0, locals := 26 } := C
  unfold X0_longestAt at h
  show J E G 5 0 0 σ 0 [(0, .ref (gA G i)), (1, .ref (gA G j)), (2, .int p2), (3, .int p3)] []
  refine j_iload_n C dX0_longestAt_0 rfl 3 rfl 1 rfl ?_
  refine j_aload_n C dX0_longestAt_1 rfl 1 rfl 2 rfl ?_
  obtain ⟨q1, e2, h⟩ := ob_some h
  refine j_callV C (ct_X3_length (eL E) G oj e2) oj.1 foX3 rfl vk_X3_length kw2_136 rfl ⟨Nat.le_of_ble_eq_true rfl, Nat.le_of_ble_eq_true rfl, rfl, rfl⟩ ⟨Nat.zero_le _, Nat.zero_le _⟩ (rest := [.int p3]) rfl (Nat.le_of_ble_eq_true rfl) dX0_longestAt_2 (st1 := [.int q1.2, .int p3]) rfl 5 rfl ?_
  refine j_iload_n C dX0_longestAt_5 rfl 2 rfl 6 rfl ?_
  refine j_isub C dX0_longestAt_6 7 rfl ?_
  refine j_min C kw2_139 kw2_137 kw2_138 kw1_4 ⟨by decide, by decide⟩ ⟨Nat.zero_le _, Nat.zero_le _⟩ (Nat.le_of_ble_eq_true rfl) dX0_longestAt_7 10 rfl ?_
  refine j_istore C dX0_longestAt_10 (by decide) [(4, .int (if (q1.2 - p2) < p3 then (q1.2 - p2) else p3)), (0, .ref (gA G i)), (1, .ref (gA G j)), (2, .int p2), (3, .int p3)] rfl 12 rfl ?_
  refine j_sub [(0, .ref (gA G i)), (1, .ref (gA G j)), (2, .int p2), (4, .int (if (q1.2 - p2) < p3 then (q1.2 - p2) else p3))] [1, 2, 3, 0] rfl ?_
  refine w_X0_longestAt_12 C F o oj (fun σ  h => ?_) FU _ _ _ h
  refine j_iconst C dX0_longestAt_41 (0 : Int32) (by decide) 42 rfl ?_
  exact j_iret C F dX0_longestAt_42 h

-- ===== StenoChords$Entries.pickOnce(I)V
theorem vk_X0_pickOnce : VK yX0_pickOnce cX0_pickOnce 2 none 1 := ⟨kw4_54, kw4_52, kw4_53, kw1_5, by decide +kernel⟩
def X0_pickOnce (i : Nat) (σ : Mem) (p1 : Int32) : Option (Mem × Unit) :=
  ((X0_has i σ p1).bind fun q1 => (if q1.2 = 0 then some (q1.1, ()) else (if inA p1 24 then (if inA p1 24 then ((some (setI q1.1 (i + 3) p1.toNatClampNeg ((q1.1.1 (i + 3) p1.toNatClampNeg) + (1 : Int32)))).bind fun σ3 => some (σ3, ())) else none) else none)))
set_option maxHeartbeats 4000000 in
set_option maxRecDepth 100000 in
theorem ct_X0_pickOnce (l : Launch) (G : Gw) {i : Nat} (o : EntOk i) {σ : Mem} {p1 : Int32} {out : Mem × Unit} (h : X0_pickOnce i σ p1 = some out) : Ct l G yX0_pickOnce cX0_pickOnce 2 none { frames := 1, cells := 0, slots := 0, locals := 21 } [.ref (gA G i), .int p1] σ out.1 (none) := by
  refine Ct.of (by decide +kernel) (Nat.le_of_ble_eq_true rfl) (fun E hE C F => ?_)
  subst hE
  have C : Cx E G RX0 cX0_pickOnce 2 { frames := 1, cells := 0, slots := 0, locals := 21 } := C
  unfold X0_pickOnce at h
  show J E G 2 0 0 σ 0 [(0, .ref (gA G i)), (1, .int p1)] []
  refine j_aload_n C dX0_pickOnce_0 rfl 0 rfl 1 rfl ?_
  refine j_iload_n C dX0_pickOnce_1 rfl 1 rfl 2 rfl ?_
  obtain ⟨q1, e2, h⟩ := ob_some h
  refine j_callV C (ct_X0_has (eL E) G o e2) o.1 foX0 rfl vk_X0_has kw1_222 rfl ⟨Nat.le_of_ble_eq_true rfl, Nat.le_of_ble_eq_true rfl, rfl, rfl⟩ ⟨Nat.zero_le _, Nat.zero_le _⟩ (rest := []) rfl (Nat.le_of_ble_eq_true rfl) dX0_pickOnce_2 (st1 := [.int q1.2]) rfl 5 rfl ?_
  refine j_if_eq C dX0_pickOnce_5 18 (by decide) 8 rfl (fun c => ?_) (fun c => ?_)
  · have h := it_t c h
    exact j_vret C F dX0_pickOnce_18 h
  · have h := it_f c h
    refine j_aload_n C dX0_pickOnce_8 rfl 0 rfl 9 rfl ?_
    refine j_get C foX0 o.1 2 (by decide) (i + 5) rfl kw1_61 rfl dX0_pickOnce_9 (.ref (gA G (i + 3))) (fv_r rfl) 12 rfl ?_
    refine j_iload_n C dX0_pickOnce_12 rfl 1 rfl 13 rfl ?_
    refine j_dup2 C dX0_pickOnce_13 rfl rfl 14 rfl ?_
    obtain ⟨hc, h⟩ := if_some h
    refine j_iald C o.2.2.2 hc dX0_pickOnce_14 p1.toNatClampNeg rfl 15 rfl ?_
    refine j_iconst C dX0_pickOnce_15 (1 : Int32) (by decide) 16 rfl ?_
    refine j_iadd C dX0_pickOnce_16 17 rfl ?_
    obtain ⟨hc, h⟩ := if_some h
    obtain ⟨σ3, e4, h⟩ := ob_some h
    refine j_iast C o.2.2.2 hc dX0_pickOnce_17 p1.toNatClampNeg rfl σ3 (Option.some.inj e4) 18 rfl ?_
    exact j_vret C F dX0_pickOnce_18 h

-- ===== StenoChords$Entries.put(JII)V
theorem vk_X0_put_ : VK yX0_put_ cX0_put_ 5 none 3 := ⟨kw1_237, kw1_236, kwS_0, kw1_5, by decide +kernel⟩
def X0_put_ (i : Nat) (σ : Mem) (p1 : Int64) (p3 : Int32) (p4 : Int32) : Option (Mem × Unit) :=
  (if (σ.1 i 3) < 0 then some (σ, ()) else (if (24 : Int32) ≤ (σ.1 i 3) then some (σ, ()) else (if inA (σ.1 i 3) 24 then ((some (setL σ (i + 1) (σ.1 i 3).toNatClampNeg p1)).bind fun σ1 => (if inA (σ1.1 i 3) 24 then ((some (setI σ1 (i + 2) (σ1.1 i 3).toNatClampNeg p3)).bind fun σ3 => (if inA (σ3.1 i 3) 24 then ((some (setI σ3 (i + 3) (σ3.1 i 3).toNatClampNeg p4)).bind fun σ5 => ((some (setI σ5 i 3 ((σ5.1 i 3) + (1 : Int32)))).bind fun σ7 => some (σ7, ()))) else none)) else none)) else none)))
set_option maxHeartbeats 4000000 in
set_option maxRecDepth 100000 in
theorem ct_X0_put_ (l : Launch) (G : Gw) {i : Nat} (o : EntOk i) {σ : Mem} {p1 : Int64} {p3 : Int32} {p4 : Int32} {out : Mem × Unit} (h : X0_put_ i σ p1 p3 p4 = some out) : Ct l G yX0_put_ cX0_put_ 5 none { frames := 0, cells := 0, slots := 0, locals := 0 } [.ref (gA G i), .long p1, .int p3, .int p4] σ out.1 (none) := by
  refine Ct.of (by decide +kernel) (Nat.le_of_ble_eq_true rfl) (fun E hE C F => ?_)
  subst hE
  have C : Cx E G RX0 cX0_put_ 5 { frames := 0, cells := 0, slots := 0, locals := 0 } := C
  unfold X0_put_ at h
  show J E G 5 0 0 σ 0 [(0, .ref (gA G i)), (1, .long p1), (3, .int p3), (4, .int p4)] []
  refine j_aload_n C dX0_put__0 rfl 0 rfl 1 rfl ?_
  refine j_get C foX0 o.1 3 (by decide) 0 rfl kw1_62 rfl dX0_put__1 (.int (σ.1 i 3)) rfl 4 rfl ?_
  refine j_if_lt C dX0_put__4 57 (by decide) 7 rfl (fun c => ?_) (fun c => ?_)
  · have h := it_t c h
    exact j_vret C F dX0_put__57 h
  · have h := it_f c h
    refine j_aload_n C dX0_put__7 rfl 0 rfl 8 rfl ?_
    refine j_get C foX0 o.1 3 (by decide) 0 rfl kw1_62 rfl dX0_put__8 (.int (σ.1 i 3)) rfl 11 rfl ?_
    refine j_bipush C dX0_put__11 (24 : Int32) (by decide) 13 rfl ?_
    refine j_icmp_ge C dX0_put__13 57 (by decide) 16 rfl (fun c => ?_) (fun c => ?_)
    · have h := it_t c h
      exact j_vret C F dX0_put__57 h
    · have h := it_f c h
      refine j_aload_n C dX0_put__16 rfl 0 rfl 17 rfl ?_
      refine j_get C foX0 o.1 0 (by decide) (i + 3) rfl kw1_59 rfl dX0_put__17 (.ref (gA G (i + 1))) (fv_r rfl) 20 rfl ?_
      refine j_aload_n C dX0_put__20 rfl 0 rfl 21 rfl ?_
      refine j_get C foX0 o.1 3 (by decide) 0 rfl kw1_62 rfl dX0_put__21 (.int (σ.1 i 3)) rfl 24 rfl ?_
      refine j_lload_n C dX0_put__24 rfl 1 rfl 25 rfl ?_
      obtain ⟨hc, h⟩ := if_some h
      obtain ⟨σ1, e2, h⟩ := ob_some h
      refine j_last C o.2.1 hc dX0_put__25 (σ.1 i 3).toNatClampNeg rfl σ1 (Option.some.inj e2) 26 rfl ?_
      refine j_aload_n C dX0_put__26 rfl 0 rfl 27 rfl ?_
      refine j_get C foX0 o.1 1 (by decide) (i + 4) rfl kw1_60 rfl dX0_put__27 (.ref (gA G (i + 2))) (fv_r rfl) 30 rfl ?_
      refine j_aload_n C dX0_put__30 rfl 0 rfl 31 rfl ?_
      refine j_get C foX0 o.1 3 (by decide) 0 rfl kw1_62 rfl dX0_put__31 (.int (σ1.1 i 3)) rfl 34 rfl ?_
      refine j_iload_n C dX0_put__34 rfl 2 rfl 35 rfl ?_
      obtain ⟨hc, h⟩ := if_some h
      obtain ⟨σ3, e4, h⟩ := ob_some h
      refine j_iast C o.2.2.1 hc dX0_put__35 (σ1.1 i 3).toNatClampNeg rfl σ3 (Option.some.inj e4) 36 rfl ?_
      refine j_aload_n C dX0_put__36 rfl 0 rfl 37 rfl ?_
      refine j_get C foX0 o.1 2 (by decide) (i + 5) rfl kw1_61 rfl dX0_put__37 (.ref (gA G (i + 3))) (fv_r rfl) 40 rfl ?_
      refine j_aload_n C dX0_put__40 rfl 0 rfl 41 rfl ?_
      refine j_get C foX0 o.1 3 (by decide) 0 rfl kw1_62 rfl dX0_put__41 (.int (σ3.1 i 3)) rfl 44 rfl ?_
      refine j_iload C dX0_put__44 3 rfl 46 rfl ?_
      obtain ⟨hc, h⟩ := if_some h
      obtain ⟨σ5, e6, h⟩ := ob_some h
      refine j_iast C o.2.2.2 hc dX0_put__46 (σ3.1 i 3).toNatClampNeg rfl σ5 (Option.some.inj e6) 47 rfl ?_
      refine j_aload_n C dX0_put__47 rfl 0 rfl 48 rfl ?_
      refine j_dup C dX0_put__48 rfl 49 rfl ?_
      refine j_get C foX0 o.1 3 (by decide) 0 rfl kw1_62 rfl dX0_put__49 (.int (σ5.1 i 3)) rfl 52 rfl ?_
      refine j_iconst C dX0_put__52 (1 : Int32) (by decide) 53 rfl ?_
      refine j_iadd C dX0_put__53 54 rfl ?_
      obtain ⟨σ7, e8, h⟩ := ob_some h
      refine j_putI C foX0 o.1 3 (by decide) rfl kw1_62 rfl rfl rfl rfl dX0_put__54 σ7 (Option.some.inj e8) 57 rfl ?_
      exact j_vret C F dX0_put__57 h

-- ===== StenoChords$Entries.put(JI)V
theorem vk_X0_put : VK yX0_put cX0_put 4 none 2 := ⟨kw4_36, kw4_34, kw4_35, kw1_5, by decide +kernel⟩
def X0_put (i : Nat) (σ : Mem) (p1 : Int64) (p3 : Int32) : Option (Mem × Unit) :=
  ((X0_put_ i σ p1 p3 (0 : Int32)).bind fun q1 => some (q1.1, ()))
set_option maxHeartbeats 4000000 in
set_option maxRecDepth 100000 in
theorem ct_X0_put (l : Launch) (G : Gw) {i : Nat} (o : EntOk i) {σ : Mem} {p1 : Int64} {p3 : Int32} {out : Mem × Unit} (h : X0_put i σ p1 p3 = some out) : Ct l G yX0_put cX0_put 4 none { frames := 1, cells := 0, slots := 0, locals := 24 } [.ref (gA G i), .long p1, .int p3] σ out.1 (none) := by
  refine Ct.of (by decide +kernel) (Nat.le_of_ble_eq_true rfl) (fun E hE C F => ?_)
  subst hE
  have C : Cx E G RX0 cX0_put 4 { frames := 1, cells := 0, slots := 0, locals := 24 } := C
  unfold X0_put at h
  show J E G 4 0 0 σ 0 [(0, .ref (gA G i)), (1, .long p1), (3, .int p3)] []
  refine j_aload_n C dX0_put_0 rfl 0 rfl 1 rfl ?_
  refine j_lload_n C dX0_put_1 rfl 1 rfl 2 rfl ?_
  refine j_iload_n C dX0_put_2 rfl 2 rfl 3 rfl ?_
  refine j_iconst C dX0_put_3 (0 : Int32) (by decide) 4 rfl ?_
  obtain ⟨q1, e2, h⟩ := ob_some h
  refine j_callV C (ct_X0_put_ (eL E) G o e2) o.1 foX0 rfl vk_X0_put_ kw1_234 rfl ⟨Nat.le_of_ble_eq_true rfl, Nat.le_of_ble_eq_true rfl, rfl, rfl⟩ ⟨Nat.zero_le _, Nat.zero_le _⟩ (rest := []) rfl (Nat.le_of_ble_eq_true rfl) dX0_put_4 (st1 := []) rfl 7 rfl ?_
  exact j_vret C F dX0_put_7 h

-- ===== StenoChords$Entries.takeAway(I)V
theorem vk_X0_takeAway : VK yX0_takeAway cX0_takeAway 3 none 1 := ⟨kw4_44, kw4_42, kw4_43, kw1_5, by decide +kernel⟩
def X0_takeAway_13 (i : Nat) (K : Mem → Option (Mem × Unit)) : Nat → Mem → Int32 → Option (Mem × Unit)
  | 0, _, _ => none
  | fu + 1, σ, v2 => (if (σ.1 i 3) ≤ v2 then K σ else (if (24 : Int32) ≤ v2 then K σ else (if inA v2 24 then (if inA (v2 - (1 : Int32)) 24 then ((some (setL σ (i + 1) (v2 - (1 : Int32)).toNatClampNeg (σ.2 (i + 1) v2.toNatClampNeg))).bind fun σ3 => (if inA v2 24 then (if inA (v2 - (1 : Int32)) 24 then ((some (setI σ3 (i + 2) (v2 - (1 : Int32)).toNatClampNeg (σ3.1 (i + 2) v2.toNatClampNeg))).bind fun σ5 => (if inA v2 24 then (if inA (v2 - (1 : Int32)) 24 then ((some (setI σ5 (i + 3) (v2 - (1 : Int32)).toNatClampNeg (σ5.1 (i + 3) v2.toNatClampNeg))).bind fun σ7 => X0_takeAway_13 i K fu σ7 (v2 + (1 : Int32))) else none) else none)) else none) else none)) else none) else none)))
set_option maxHeartbeats 4000000 in
set_option maxRecDepth 100000 in
theorem w_X0_takeAway_13 {E : Ev} {G : Gw} (C : Cx E G RX0 cX0_takeAway 3 { frames := 1, cells := 0, slots := 0, locals := 21 }) {out : Mem × Unit} (F : Ef E G out.1 (none) none 0 0) {i : Nat} (o : EntOk i) {K : Mem → Option (Mem × Unit)} (hK : ∀ (σ : Mem) , K σ  = some out → J E G 3 0 0 σ 75 [(0, .ref (gA G i))] []) : ∀ (fu : Nat) (σ : Mem) (v2 : Int32), X0_takeAway_13 i K fu σ v2 = some out → J E G 3 0 0 σ 13 [(0, .ref (gA G i)), (2, .int v2)] [] := by
  intro fu
  induction fu with
  | zero => intro σ v2 h; rw [X0_takeAway_13] at h; cases h
  | succ fu ih =>
    intro σ v2 h
    rw [X0_takeAway_13] at h
    refine j_iload_n C dX0_takeAway_13 rfl 1 rfl 14 rfl ?_
    refine j_aload_n C dX0_takeAway_14 rfl 0 rfl 15 rfl ?_
    refine j_get C foX0 o.1 3 (by decide) 0 rfl kw1_62 rfl dX0_takeAway_15 (.int (σ.1 i 3)) rfl 18 rfl ?_
    refine j_icmp_ge C dX0_takeAway_18 75 (by decide) 21 rfl (fun c => ?_) (fun c => ?_)
    · have h := it_t c h
      refine j_sub [(0, .ref (gA G i))] [0] rfl ?_
      exact hK _ h
    · have h := it_f c h
      refine j_iload_n C dX0_takeAway_21 rfl 1 rfl 22 rfl ?_
      refine j_bipush C dX0_takeAway_22 (24 : Int32) (by decide) 24 rfl ?_
      refine j_icmp_ge C dX0_takeAway_24 75 (by decide) 27 rfl (fun c => ?_) (fun c => ?_)
      · have h := it_t c h
        refine j_sub [(0, .ref (gA G i))] [0] rfl ?_
        exact hK _ h
      · have h := it_f c h
        refine j_aload_n C dX0_takeAway_27 rfl 0 rfl 28 rfl ?_
        refine j_get C foX0 o.1 0 (by decide) (i + 3) rfl kw1_59 rfl dX0_takeAway_28 (.ref (gA G (i + 1))) (fv_r rfl) 31 rfl ?_
        refine j_iload_n C dX0_takeAway_31 rfl 1 rfl 32 rfl ?_
        refine j_iconst C dX0_takeAway_32 (1 : Int32) (by decide) 33 rfl ?_
        refine j_isub C dX0_takeAway_33 34 rfl ?_
        refine j_aload_n C dX0_takeAway_34 rfl 0 rfl 35 rfl ?_
        refine j_get C foX0 o.1 0 (by decide) (i + 3) rfl kw1_59 rfl dX0_takeAway_35 (.ref (gA G (i + 1))) (fv_r rfl) 38 rfl ?_
        refine j_iload_n C dX0_takeAway_38 rfl 1 rfl 39 rfl ?_
        obtain ⟨hc, h⟩ := if_some h
        refine j_lald C o.2.1 hc dX0_takeAway_39 v2.toNatClampNeg rfl 40 rfl ?_
        obtain ⟨hc, h⟩ := if_some h
        obtain ⟨σ3, e4, h⟩ := ob_some h
        refine j_last C o.2.1 hc dX0_takeAway_40 (v2 - (1 : Int32)).toNatClampNeg rfl σ3 (Option.some.inj e4) 41 rfl ?_
        refine j_aload_n C dX0_takeAway_41 rfl 0 rfl 42 rfl ?_
        refine j_get C foX0 o.1 1 (by decide) (i + 4) rfl kw1_60 rfl dX0_takeAway_42 (.ref (gA G (i + 2))) (fv_r rfl) 45 rfl ?_
        refine j_iload_n C dX0_takeAway_45 rfl 1 rfl 46 rfl ?_
        refine j_iconst C dX0_takeAway_46 (1 : Int32) (by decide) 47 rfl ?_
        refine j_isub C dX0_takeAway_47 48 rfl ?_
        refine j_aload_n C dX0_takeAway_48 rfl 0 rfl 49 rfl ?_
        refine j_get C foX0 o.1 1 (by decide) (i + 4) rfl kw1_60 rfl dX0_takeAway_49 (.ref (gA G (i + 2))) (fv_r rfl) 52 rfl ?_
        refine j_iload_n C dX0_takeAway_52 rfl 1 rfl 53 rfl ?_
        obtain ⟨hc, h⟩ := if_some h
        refine j_iald C o.2.2.1 hc dX0_takeAway_53 v2.toNatClampNeg rfl 54 rfl ?_
        obtain ⟨hc, h⟩ := if_some h
        obtain ⟨σ5, e6, h⟩ := ob_some h
        refine j_iast C o.2.2.1 hc dX0_takeAway_54 (v2 - (1 : Int32)).toNatClampNeg rfl σ5 (Option.some.inj e6) 55 rfl ?_
        refine j_aload_n C dX0_takeAway_55 rfl 0 rfl 56 rfl ?_
        refine j_get C foX0 o.1 2 (by decide) (i + 5) rfl kw1_61 rfl dX0_takeAway_56 (.ref (gA G (i + 3))) (fv_r rfl) 59 rfl ?_
        refine j_iload_n C dX0_takeAway_59 rfl 1 rfl 60 rfl ?_
        refine j_iconst C dX0_takeAway_60 (1 : Int32) (by decide) 61 rfl ?_
        refine j_isub C dX0_takeAway_61 62 rfl ?_
        refine j_aload_n C dX0_takeAway_62 rfl 0 rfl 63 rfl ?_
        refine j_get C foX0 o.1 2 (by decide) (i + 5) rfl kw1_61 rfl dX0_takeAway_63 (.ref (gA G (i + 3))) (fv_r rfl) 66 rfl ?_
        refine j_iload_n C dX0_takeAway_66 rfl 1 rfl 67 rfl ?_
        obtain ⟨hc, h⟩ := if_some h
        refine j_iald C o.2.2.2 hc dX0_takeAway_67 v2.toNatClampNeg rfl 68 rfl ?_
        obtain ⟨hc, h⟩ := if_some h
        obtain ⟨σ7, e8, h⟩ := ob_some h
        refine j_iast C o.2.2.2 hc dX0_takeAway_68 (v2 - (1 : Int32)).toNatClampNeg rfl σ7 (Option.some.inj e8) 69 rfl ?_
        refine j_iinc C dX0_takeAway_69 1 rfl (v2 + (1 : Int32)) rfl (by decide) [(2, .int (v2 + (1 : Int32))), (0, .ref (gA G i))] rfl 72 rfl ?_
        refine j_goto C dX0_takeAway_72 13 (by decide) ?_
        refine j_sub [(0, .ref (gA G i)), (2, .int (v2 + (1 : Int32)))] [1, 0] rfl ?_
        exact ih _ _ h
def X0_takeAway (i : Nat) (σ : Mem) (p1 : Int32) : Option (Mem × Unit) :=
  ((X0_has i σ p1).bind fun q1 => (if q1.2 = 0 then some (q1.1, ()) else X0_takeAway_13 i (fun (σ : Mem)  => ((some (setI σ i 3 ((σ.1 i 3) - (1 : Int32)))).bind fun σ9 => some (σ9, ()))) FU q1.1 (p1 + (1 : Int32))))
set_option maxHeartbeats 4000000 in
set_option maxRecDepth 100000 in
theorem ct_X0_takeAway (l : Launch) (G : Gw) {i : Nat} (o : EntOk i) {σ : Mem} {p1 : Int32} {out : Mem × Unit} (h : X0_takeAway i σ p1 = some out) : Ct l G yX0_takeAway cX0_takeAway 3 none { frames := 1, cells := 0, slots := 0, locals := 21 } [.ref (gA G i), .int p1] σ out.1 (none) := by
  refine Ct.of (by decide +kernel) (Nat.le_of_ble_eq_true rfl) (fun E hE C F => ?_)
  subst hE
  have C : Cx E G RX0 cX0_takeAway 3 { frames := 1, cells := 0, slots := 0, locals := 21 } := C
  unfold X0_takeAway at h
  show J E G 3 0 0 σ 0 [(0, .ref (gA G i)), (1, .int p1)] []
  refine j_aload_n C dX0_takeAway_0 rfl 0 rfl 1 rfl ?_
  refine j_iload_n C dX0_takeAway_1 rfl 1 rfl 2 rfl ?_
  obtain ⟨q1, e2, h⟩ := ob_some h
  refine j_callV C (ct_X0_has (eL E) G o e2) o.1 foX0 rfl vk_X0_has kw1_222 rfl ⟨Nat.le_of_ble_eq_true rfl, Nat.le_of_ble_eq_true rfl, rfl, rfl⟩ ⟨Nat.zero_le _, Nat.zero_le _⟩ (rest := []) rfl (Nat.le_of_ble_eq_true rfl) dX0_takeAway_2 (st1 := [.int q1.2]) rfl 5 rfl ?_
  refine j_if_ne C dX0_takeAway_5 9 (by decide) 8 rfl (fun c => ?_) (fun c => ?_)
  · have h := it_f c h
    refine j_iload_n C dX0_takeAway_9 rfl 1 rfl 10 rfl ?_
    refine j_iconst C dX0_takeAway_10 (1 : Int32) (by decide) 11 rfl ?_
    refine j_iadd C dX0_takeAway_11 12 rfl ?_
    refine j_istore_n C dX0_takeAway_12 rfl (by decide) [(2, .int (p1 + (1 : Int32))), (0, .ref (gA G i)), (1, .int p1)] rfl 13 rfl ?_
    refine j_sub [(0, .ref (gA G i)), (2, .int (p1 + (1 : Int32)))] [1, 0] rfl ?_
    refine w_X0_takeAway_13 C F o (fun σ  h => ?_) FU _ _ h
    refine j_aload_n C dX0_takeAway_75 rfl 0 rfl 76 rfl ?_
    refine j_dup C dX0_takeAway_76 rfl 77 rfl ?_
    refine j_get C foX0 o.1 3 (by decide) 0 rfl kw1_62 rfl dX0_takeAway_77 (.int (σ.1 i 3)) rfl 80 rfl ?_
    refine j_iconst C dX0_takeAway_80 (1 : Int32) (by decide) 81 rfl ?_
    refine j_isub C dX0_takeAway_81 82 rfl ?_
    obtain ⟨σ9, e10, h⟩ := ob_some h
    refine j_putI C foX0 o.1 3 (by decide) rfl kw1_62 rfl rfl rfl rfl dX0_takeAway_82 σ9 (Option.some.inj e10) 85 rfl ?_
    exact j_vret C F dX0_takeAway_85 h
  · have h := it_t c h
    exact j_vret C F dX0_takeAway_8 h

-- ===== StenoChords$Entries.become(LStenoChords$Entries;)V
theorem vk_X0_become : VK yX0_become cX0_become 3 none 1 := ⟨kw1_217, kw1_215, kw1_216, kw1_5, by decide +kernel⟩
def X0_become_7 (i : Nat) (j : Nat) (K : Mem → Option (Mem × Unit)) : Nat → Mem → Int32 → Option (Mem × Unit)
  | 0, _, _ => none
  | fu + 1, σ, v2 => (if (σ.1 j 3) ≤ v2 then K σ else ((X0_rowOf j σ v2).bind fun q3 => ((X0_wordOf j q3.1 v2).bind fun q5 => ((X0_picksOf j q5.1 v2).bind fun q7 => ((X0_put_ i q7.1 q3.2 q5.2 q7.2).bind fun q9 => X0_become_7 i j K fu q9.1 (v2 + (1 : Int32)))))))
set_option maxHeartbeats 4000000 in
set_option maxRecDepth 100000 in
theorem w_X0_become_7 {E : Ev} {G : Gw} (C : Cx E G RX0 cX0_become 3 { frames := 2, cells := 0, slots := 0, locals := 42 }) {out : Mem × Unit} (F : Ef E G out.1 (none) none 0 0) {i : Nat} (o : EntOk i) {j : Nat} (oj : EntOk j) {K : Mem → Option (Mem × Unit)} (hK : ∀ (σ : Mem) , K σ  = some out → J E G 3 0 0 σ 40 [] []) : ∀ (fu : Nat) (σ : Mem) (v2 : Int32), X0_become_7 i j K fu σ v2 = some out → J E G 3 0 0 σ 7 [(0, .ref (gA G i)), (1, .ref (gA G j)), (2, .int v2)] [] := by
  intro fu
  induction fu with
  | zero => intro σ v2 h; rw [X0_become_7] at h; cases h
  | succ fu ih =>
    intro σ v2 h
    rw [X0_become_7] at h
    refine j_iload_n C dX0_become_7 rfl 2 rfl 8 rfl ?_
    refine j_aload_n C dX0_become_8 rfl 1 rfl 9 rfl ?_
    refine j_get C foX0 oj.1 3 (by decide) 0 rfl kw1_62 rfl dX0_become_9 (.int (σ.1 j 3)) rfl 12 rfl ?_
    refine j_icmp_ge C dX0_become_12 40 (by decide) 15 rfl (fun c => ?_) (fun c => ?_)
    · have h := it_t c h
      refine j_sub [] [] rfl ?_
      exact hK _ h
    · have h := it_f c h
      refine j_aload_n C dX0_become_15 rfl 0 rfl 16 rfl ?_
      refine j_aload_n C dX0_become_16 rfl 1 rfl 17 rfl ?_
      refine j_iload_n C dX0_become_17 rfl 2 rfl 18 rfl ?_
      obtain ⟨q3, e4, h⟩ := ob_some h
      refine j_callV C (ct_X0_rowOf (eL E) G oj e4) oj.1 foX0 rfl vk_X0_rowOf kw1_218 rfl ⟨Nat.le_of_ble_eq_true rfl, Nat.le_of_ble_eq_true rfl, rfl, rfl⟩ ⟨Nat.zero_le _, Nat.zero_le _⟩ (rest := [.ref (gA G i)]) rfl (Nat.le_of_ble_eq_true rfl) dX0_become_18 (st1 := [.long q3.2, .ref (gA G i)]) rfl 21 rfl ?_
      refine j_aload_n C dX0_become_21 rfl 1 rfl 22 rfl ?_
      refine j_iload_n C dX0_become_22 rfl 2 rfl 23 rfl ?_
      obtain ⟨q5, e6, h⟩ := ob_some h
      refine j_callV C (ct_X0_wordOf (eL E) G oj e6) oj.1 foX0 rfl vk_X0_wordOf kw1_226 rfl ⟨Nat.le_of_ble_eq_true rfl, Nat.le_of_ble_eq_true rfl, rfl, rfl⟩ ⟨Nat.zero_le _, Nat.zero_le _⟩ (rest := [.long q3.2, .ref (gA G i)]) rfl (Nat.le_of_ble_eq_true rfl) dX0_become_23 (st1 := [.int q5.2, .long q3.2, .ref (gA G i)]) rfl 26 rfl ?_
      refine j_aload_n C dX0_become_26 rfl 1 rfl 27 rfl ?_
      refine j_iload_n C dX0_become_27 rfl 2 rfl 28 rfl ?_
      obtain ⟨q7, e8, h⟩ := ob_some h
      refine j_callV C (ct_X0_picksOf (eL E) G oj e8) oj.1 foX0 rfl vk_X0_picksOf kw1_230 rfl ⟨Nat.le_of_ble_eq_true rfl, Nat.le_of_ble_eq_true rfl, rfl, rfl⟩ ⟨Nat.zero_le _, Nat.zero_le _⟩ (rest := [.int q5.2, .long q3.2, .ref (gA G i)]) rfl (Nat.le_of_ble_eq_true rfl) dX0_become_28 (st1 := [.int q7.2, .int q5.2, .long q3.2, .ref (gA G i)]) rfl 31 rfl ?_
      obtain ⟨q9, e10, h⟩ := ob_some h
      refine j_callV C (ct_X0_put_ (eL E) G o e10) o.1 foX0 rfl vk_X0_put_ kw1_234 rfl ⟨Nat.le_of_ble_eq_true rfl, Nat.le_of_ble_eq_true rfl, rfl, rfl⟩ ⟨Nat.zero_le _, Nat.zero_le _⟩ (rest := []) rfl (Nat.le_of_ble_eq_true rfl) dX0_become_31 (st1 := []) rfl 34 rfl ?_
      refine j_iinc C dX0_become_34 2 rfl (v2 + (1 : Int32)) rfl (by decide) [(2, .int (v2 + (1 : Int32))), (0, .ref (gA G i)), (1, .ref (gA G j))] rfl 37 rfl ?_
      refine j_goto C dX0_become_37 7 (by decide) ?_
      refine j_sub [(0, .ref (gA G i)), (1, .ref (gA G j)), (2, .int (v2 + (1 : Int32)))] [1, 2, 0] rfl ?_
      exact ih _ _ h
def X0_become (i : Nat) (j : Nat) (σ : Mem) : Option (Mem × Unit) :=
  ((some (setI σ i 3 (0 : Int32))).bind fun σ1 => X0_become_7 i j (fun (σ : Mem)  => some (σ, ())) FU σ1 (0 : Int32))
set_option maxHeartbeats 4000000 in
set_option maxRecDepth 100000 in
theorem ct_X0_become (l : Launch) (G : Gw) {i : Nat} (o : EntOk i) {j : Nat} (oj : EntOk j) {σ : Mem} {out : Mem × Unit} (h : X0_become i j σ = some out) : Ct l G yX0_become cX0_become 3 none { frames := 2, cells := 0, slots := 0, locals := 42 } [.ref (gA G i), .ref (gA G j)] σ out.1 (none) := by
  refine Ct.of (by decide +kernel) (Nat.le_of_ble_eq_true rfl) (fun E hE C F => ?_)
  subst hE
  have C : Cx E G RX0 cX0_become 3 { frames := 2, cells := 0, slots := 0, locals := 42 } := C
  unfold X0_become at h
  show J E G 3 0 0 σ 0 [(0, .ref (gA G i)), (1, .ref (gA G j))] []
  refine j_aload_n C dX0_become_0 rfl 0 rfl 1 rfl ?_
  refine j_iconst C dX0_become_1 (0 : Int32) (by decide) 2 rfl ?_
  obtain ⟨σ1, e2, h⟩ := ob_some h
  refine j_putI C foX0 o.1 3 (by decide) rfl kw1_62 rfl rfl rfl rfl dX0_become_2 σ1 (Option.some.inj e2) 5 rfl ?_
  refine j_iconst C dX0_become_5 (0 : Int32) (by decide) 6 rfl ?_
  refine j_istore_n C dX0_become_6 rfl (by decide) [(2, .int (0 : Int32)), (0, .ref (gA G i)), (1, .ref (gA G j))] rfl 7 rfl ?_
  refine j_sub [(0, .ref (gA G i)), (1, .ref (gA G j)), (2, .int (0 : Int32))] [1, 2, 0] rfl ?_
  refine w_X0_become_7 C F o oj (fun σ  h => ?_) FU _ _ h
  exact j_vret C F dX0_become_40 h
