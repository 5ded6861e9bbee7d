-- ===== StenoChords.mixWhatWouldBe(J)J
theorem vk_X6_mixWhatWouldBe : VK yX6_mixWhatWouldBe cX6_mixWhatWouldBe 6 (some .long) 1 := ⟨kw3_62, kw3_61, kwS_16, kw1_1, by decide +kernel⟩
def X6_mixWhatWouldBe_5 (K : Mem → Int64 → Option (Mem × Int64)) : Nat → Mem → Int64 → Int32 → Option (Mem × Int64)
  | 0, _, _, _ => none
  | fu + 1, σ, v3, v5 => (if (4 : Int32) ≤ v5 then K σ v3 else ((xlv (X6_begun σ v5)).bind fun q1 => ((X6_mix q1.1 v3 q1.2.toInt64).bind fun q3 => X6_mixWhatWouldBe_5 K fu q3.1 q3.2 (v5 + (1 : Int32)))))
set_option maxHeartbeats 4000000 in
set_option maxRecDepth 100000 in
theorem w_X6_mixWhatWouldBe_5 {E : Ev} {G : Gw} (C : Cx E G RX6 cX6_mixWhatWouldBe 6 { frames := 7, cells := 0, slots := 0, locals := 118 }) {out : Mem × Int64} (F : Ef E G out.1 (some (.long out.2)) (some .long) 0 0)  {K : Mem → Int64 → Option (Mem × Int64)} (hK : ∀ (σ : Mem) (v3 : Int64), K σ v3 = some out → J E G 6 0 0 σ 29 [(0, .ref (gA G 81)), (3, .long v3)] []) : ∀ (fu : Nat) (σ : Mem) (v3 : Int64) (v5 : Int32), X6_mixWhatWouldBe_5 K fu σ v3 v5 = some out → J E G 6 0 0 σ 5 [(0, .ref (gA G 81)), (3, .long v3), (5, .int v5)] [] := by
  intro fu
  induction fu with
  | zero => intro σ v3 v5 h; rw [X6_mixWhatWouldBe_5] at h; cases h
  | succ fu ih =>
    intro σ v3 v5 h
    rw [X6_mixWhatWouldBe_5] at h
    refine j_iload C dX6_mixWhatWouldBe_5 2 rfl 7 rfl ?_
    refine j_iconst C dX6_mixWhatWouldBe_7 (4 : Int32) (by decide) 8 rfl ?_
    refine j_icmp_ge C dX6_mixWhatWouldBe_8 29 (by decide) 11 rfl (fun c => ?_) (fun c => ?_)
    · have h := it_t c h
      refine j_sub [(0, .ref (gA G 81)), (3, .long v3)] [0, 1] rfl ?_
      exact hK _ _ h
    · have h := it_f c h
      refine j_lload_n C dX6_mixWhatWouldBe_11 rfl 1 rfl 12 rfl ?_
      refine j_aload_n C dX6_mixWhatWouldBe_12 rfl 0 rfl 13 rfl ?_
      refine j_iload C dX6_mixWhatWouldBe_13 2 rfl 15 rfl ?_
      obtain ⟨q1, e2, h⟩ := ob_some h
      refine j_callV C (ct_X6_begun (eL E) G  (xlv_some e2)) sh81 foX6 rfl vk_X6_begun kw3_63 rfl ⟨Nat.le_of_ble_eq_true rfl, Nat.le_of_ble_eq_true rfl, rfl, rfl⟩ ⟨Nat.zero_le _, Nat.zero_le _⟩ (rest := [.long v3]) rfl (Nat.le_of_ble_eq_true rfl) dX6_mixWhatWouldBe_15 (st1 := [.int q1.2, .long v3]) rfl 18 rfl ?_
      refine j_i2l C dX6_mixWhatWouldBe_18 19 rfl ?_
      obtain ⟨q3, e4, h⟩ := ob_some h
      refine j_callS C (ct_X6_mix (eL E) G  e4) vk_X6_mix kw3_7 rfl ⟨Nat.le_of_ble_eq_true rfl, Nat.le_of_ble_eq_true rfl, rfl, rfl⟩ ⟨Nat.zero_le _, Nat.zero_le _⟩ (rest := []) rfl (Nat.le_of_ble_eq_true rfl) dX6_mixWhatWouldBe_19 (st1 := [.long q3.2]) rfl 22 rfl ?_
      refine j_lstore_n C dX6_mixWhatWouldBe_22 rfl (by decide) [(3, .long q3.2), (0, .ref (gA G 81)), (5, .int v5)] rfl 23 rfl ?_
      refine j_iinc C dX6_mixWhatWouldBe_23 2 rfl (v5 + (1 : Int32)) rfl (by decide) [(5, .int (v5 + (1 : Int32))), (3, .long q3.2), (0, .ref (gA G 81))] rfl 26 rfl ?_
      refine j_goto C dX6_mixWhatWouldBe_26 5 (by decide) ?_
      refine j_sub [(0, .ref (gA G 81)), (3, .long q3.2), (5, .int (v5 + (1 : Int32)))] [2, 1, 0] rfl ?_
      exact ih _ _ _ h
def X6_mixWhatWouldBe_32 (K : Mem → Int64 → Option (Mem × Int64)) : Nat → Mem → Int64 → Int32 → Option (Mem × Int64)
  | 0, _, _, _ => none
  | fu + 1, σ, v3, v5 => (if (3 : Int32) ≤ v5 then K σ v3 else ((xlv (X6_ifStruck σ (1 : Int32) v5)).bind fun q5 => ((X6_mix q5.1 v3 q5.2.toInt64).bind fun q7 => X6_mixWhatWouldBe_32 K fu q7.1 q7.2 (v5 + (1 : Int32)))))
set_option maxHeartbeats 4000000 in
set_option maxRecDepth 100000 in
theorem w_X6_mixWhatWouldBe_32 {E : Ev} {G : Gw} (C : Cx E G RX6 cX6_mixWhatWouldBe 6 { frames := 7, cells := 0, slots := 0, locals := 118 }) {out : Mem × Int64} (F : Ef E G out.1 (some (.long out.2)) (some .long) 0 0)  {K : Mem → Int64 → Option (Mem × Int64)} (hK : ∀ (σ : Mem) (v3 : Int64), K σ v3 = some out → J E G 6 0 0 σ 57 [(0, .ref (gA G 81)), (3, .long v3)] []) : ∀ (fu : Nat) (σ : Mem) (v3 : Int64) (v5 : Int32), X6_mixWhatWouldBe_32 K fu σ v3 v5 = some out → J E G 6 0 0 σ 32 [(0, .ref (gA G 81)), (3, .long v3), (5, .int v5)] [] := by
  intro fu
  induction fu with
  | zero => intro σ v3 v5 h; rw [X6_mixWhatWouldBe_32] at h; cases h
  | succ fu ih =>
    intro σ v3 v5 h
    rw [X6_mixWhatWouldBe_32] at h
    refine j_iload C dX6_mixWhatWouldBe_32 2 rfl 34 rfl ?_
    refine j_iconst C dX6_mixWhatWouldBe_34 (3 : Int32) (by decide) 35 rfl ?_
    refine j_icmp_ge C dX6_mixWhatWouldBe_35 57 (by decide) 38 rfl (fun c => ?_) (fun c => ?_)
    · have h := it_t c h
      refine j_sub [(0, .ref (gA G 81)), (3, .long v3)] [0, 1] rfl ?_
      exact hK _ _ h
    · have h := it_f c h
      refine j_lload_n C dX6_mixWhatWouldBe_38 rfl 1 rfl 39 rfl ?_
      refine j_aload_n C dX6_mixWhatWouldBe_39 rfl 0 rfl 40 rfl ?_
      refine j_iconst C dX6_mixWhatWouldBe_40 (1 : Int32) (by decide) 41 rfl ?_
      refine j_iload C dX6_mixWhatWouldBe_41 2 rfl 43 rfl ?_
      obtain ⟨q5, e6, h⟩ := ob_some h
      refine j_callV C (ct_X6_ifStruck (eL E) G  (xlv_some e6)) sh81 foX6 rfl vk_X6_ifStruck kw3_138 rfl ⟨Nat.le_of_ble_eq_true rfl, Nat.le_of_ble_eq_true rfl, rfl, rfl⟩ ⟨Nat.zero_le _, Nat.zero_le _⟩ (rest := [.long v3]) rfl (Nat.le_of_ble_eq_true rfl) dX6_mixWhatWouldBe_43 (st1 := [.int q5.2, .long v3]) rfl 46 rfl ?_
      refine j_i2l C dX6_mixWhatWouldBe_46 47 rfl ?_
      obtain ⟨q7, e8, h⟩ := ob_some h
      refine j_callS C (ct_X6_mix (eL E) G  e8) vk_X6_mix kw3_7 rfl ⟨Nat.le_of_ble_eq_true rfl, Nat.le_of_ble_eq_true rfl, rfl, rfl⟩ ⟨Nat.zero_le _, Nat.zero_le _⟩ (rest := []) rfl (Nat.le_of_ble_eq_true rfl) dX6_mixWhatWouldBe_47 (st1 := [.long q7.2]) rfl 50 rfl ?_
      refine j_lstore_n C dX6_mixWhatWouldBe_50 rfl (by decide) [(3, .long q7.2), (0, .ref (gA G 81)), (5, .int v5)] rfl 51 rfl ?_
      refine j_iinc C dX6_mixWhatWouldBe_51 2 rfl (v5 + (1 : Int32)) rfl (by decide) [(5, .int (v5 + (1 : Int32))), (3, .long q7.2), (0, .ref (gA G 81))] rfl 54 rfl ?_
      refine j_goto C dX6_mixWhatWouldBe_54 32 (by decide) ?_
      refine j_sub [(0, .ref (gA G 81)), (3, .long q7.2), (5, .int (v5 + (1 : Int32)))] [2, 1, 0] rfl ?_
      exact ih _ _ _ h
def X6_mixWhatWouldBe_60 (K : Mem → Int64 → Option (Mem × Int64)) : Nat → Mem → Int64 → Int32 → Option (Mem × Int64)
  | 0, _, _, _ => none
  | fu + 1, σ, v3, v5 => (if (10 : Int32) ≤ v5 then K σ v3 else ((xlv (X6_shortest σ v5)).bind fun q9 => ((X6_mix q9.1 v3 q9.2.toInt64).bind fun q11 => X6_mixWhatWouldBe_60 K fu q11.1 q11.2 (v5 + (1 : Int32)))))
set_option maxHeartbeats 4000000 in
set_option maxRecDepth 100000 in
theorem w_X6_mixWhatWouldBe_60 {E : Ev} {G : Gw} (C : Cx E G RX6 cX6_mixWhatWouldBe 6 { frames := 7, cells := 0, slots := 0, locals := 118 }) {out : Mem × Int64} (F : Ef E G out.1 (some (.long out.2)) (some .long) 0 0)  {K : Mem → Int64 → Option (Mem × Int64)} (hK : ∀ (σ : Mem) (v3 : Int64), K σ v3 = some out → J E G 6 0 0 σ 85 [(0, .ref (gA G 81)), (3, .long v3)] []) : ∀ (fu : Nat) (σ : Mem) (v3 : Int64) (v5 : Int32), X6_mixWhatWouldBe_60 K fu σ v3 v5 = some out → J E G 6 0 0 σ 60 [(0, .ref (gA G 81)), (3, .long v3), (5, .int v5)] [] := by
  intro fu
  induction fu with
  | zero => intro σ v3 v5 h; rw [X6_mixWhatWouldBe_60] at h; cases h
  | succ fu ih =>
    intro σ v3 v5 h
    rw [X6_mixWhatWouldBe_60] at h
    refine j_iload C dX6_mixWhatWouldBe_60 2 rfl 62 rfl ?_
    refine j_bipush C dX6_mixWhatWouldBe_62 (10 : Int32) (by decide) 64 rfl ?_
    refine j_icmp_ge C dX6_mixWhatWouldBe_64 85 (by decide) 67 rfl (fun c => ?_) (fun c => ?_)
    · have h := it_t c h
      refine j_sub [(0, .ref (gA G 81)), (3, .long v3)] [0, 1] rfl ?_
      exact hK _ _ h
    · have h := it_f c h
      refine j_lload_n C dX6_mixWhatWouldBe_67 rfl 1 rfl 68 rfl ?_
      refine j_aload_n C dX6_mixWhatWouldBe_68 rfl 0 rfl 69 rfl ?_
      refine j_iload C dX6_mixWhatWouldBe_69 2 rfl 71 rfl ?_
      obtain ⟨q9, e10, h⟩ := ob_some h
      refine j_callV C (ct_X6_shortest (eL E) G  (xlv_some e10)) sh81 foX6 rfl vk_X6_shortest kw3_145 rfl ⟨Nat.le_of_ble_eq_true rfl, Nat.le_of_ble_eq_true rfl, rfl, rfl⟩ ⟨Nat.zero_le _, Nat.zero_le _⟩ (rest := [.long v3]) rfl (Nat.le_of_ble_eq_true rfl) dX6_mixWhatWouldBe_71 (st1 := [.int q9.2, .long v3]) rfl 74 rfl ?_
      refine j_i2l C dX6_mixWhatWouldBe_74 75 rfl ?_
      obtain ⟨q11, e12, h⟩ := ob_some h
      refine j_callS C (ct_X6_mix (eL E) G  e12) vk_X6_mix kw3_7 rfl ⟨Nat.le_of_ble_eq_true rfl, Nat.le_of_ble_eq_true rfl, rfl, rfl⟩ ⟨Nat.zero_le _, Nat.zero_le _⟩ (rest := []) rfl (Nat.le_of_ble_eq_true rfl) dX6_mixWhatWouldBe_75 (st1 := [.long q11.2]) rfl 78 rfl ?_
      refine j_lstore_n C dX6_mixWhatWouldBe_78 rfl (by decide) [(3, .long q11.2), (0, .ref (gA G 81)), (5, .int v5)] rfl 79 rfl ?_
      refine j_iinc C dX6_mixWhatWouldBe_79 2 rfl (v5 + (1 : Int32)) rfl (by decide) [(5, .int (v5 + (1 : Int32))), (3, .long q11.2), (0, .ref (gA G 81))] rfl 82 rfl ?_
      refine j_goto C dX6_mixWhatWouldBe_82 60 (by decide) ?_
      refine j_sub [(0, .ref (gA G 81)), (3, .long q11.2), (5, .int (v5 + (1 : Int32)))] [2, 1, 0] rfl ?_
      exact ih _ _ _ h
def X6_mixWhatWouldBe (σ : Mem) (p1 : Int64) : Option (Mem × Int64) :=
  X6_mixWhatWouldBe_5 (fun (σ : Mem) (v3 : Int64) => X6_mixWhatWouldBe_32 (fun (σ : Mem) (v3 : Int64) => X6_mixWhatWouldBe_60 (fun (σ : Mem) (v3 : Int64) => ((X6_clashes σ).bind fun q13 => ((X6_mix q13.1 v3 q13.2.toInt64).bind fun q15 => ((X6_least q15.1).bind fun q17 => ((X6_mix q17.1 q15.2 q17.2.toInt64).bind fun q19 => some (q19.1, q19.2)))))) FU σ v3 (0 : Int32)) FU σ v3 (0 : Int32)) FU σ p1 (1 : Int32)
set_option maxHeartbeats 4000000 in
set_option maxRecDepth 100000 in
theorem ct_X6_mixWhatWouldBe (l : Launch) (G : Gw)  {σ : Mem} {p1 : Int64} {out : Mem × Int64} (h : X6_mixWhatWouldBe σ p1 = some out) : Ct l G yX6_mixWhatWouldBe cX6_mixWhatWouldBe 6 (some .long) { frames := 7, cells := 0, slots := 0, locals := 118 } [.ref (gA G 81), .long p1] σ out.1 (some (.long out.2)) := by
  refine Ct.of (by decide +kernel) (Nat.le_of_ble_eq_true rfl) (fun E hE C F => ?_)
  subst hE
  have C : Cx E G RX6 cX6_mixWhatWouldBe 6 { frames := 7, cells := 0, slots := 0, locals := 118 } := C
  unfold X6_mixWhatWouldBe at h
  show J E G 6 0 0 σ 0 [(0, .ref (gA G 81)), (1, .long p1)] []
  refine j_lload_n C dX6_mixWhatWouldBe_0 rfl 1 rfl 1 rfl ?_
  refine j_lstore_n C dX6_mixWhatWouldBe_1 rfl (by decide) [(3, .long p1), (0, .ref (gA G 81)), (1, .long p1)] rfl 2 rfl ?_
  refine j_iconst C dX6_mixWhatWouldBe_2 (1 : Int32) (by decide) 3 rfl ?_
  refine j_istore C dX6_mixWhatWouldBe_3 (by decide) [(5, .int (1 : Int32)), (3, .long p1), (0, .ref (gA G 81)), (1, .long p1)] rfl 5 rfl ?_
  refine j_sub [(0, .ref (gA G 81)), (3, .long p1), (5, .int (1 : Int32))] [2, 1, 0] rfl ?_
  refine w_X6_mixWhatWouldBe_5 C F  (fun σ v3 h => ?_) FU _ _ _ h
  refine j_iconst C dX6_mixWhatWouldBe_29 (0 : Int32) (by decide) 30 rfl ?_
  refine j_istore C dX6_mixWhatWouldBe_30 (by decide) [(5, .int (0 : Int32)), (0, .ref (gA G 81)), (3, .long v3)] rfl 32 rfl ?_
  refine j_sub [(0, .ref (gA G 81)), (3, .long v3), (5, .int (0 : Int32))] [1, 2, 0] rfl ?_
  refine w_X6_mixWhatWouldBe_32 C F  (fun σ v3 h => ?_) FU _ _ _ h
  refine j_iconst C dX6_mixWhatWouldBe_57 (0 : Int32) (by decide) 58 rfl ?_
  refine j_istore C dX6_mixWhatWouldBe_58 (by decide) [(5, .int (0 : Int32)), (0, .ref (gA G 81)), (3, .long v3)] rfl 60 rfl ?_
  refine j_sub [(0, .ref (gA G 81)), (3, .long v3), (5, .int (0 : Int32))] [1, 2, 0] rfl ?_
  refine w_X6_mixWhatWouldBe_60 C F  (fun σ v3 h => ?_) FU _ _ _ h
  refine j_lload_n C dX6_mixWhatWouldBe_85 rfl 1 rfl 86 rfl ?_
  refine j_aload_n C dX6_mixWhatWouldBe_86 rfl 0 rfl 87 rfl ?_
  obtain ⟨q13, e14, h⟩ := ob_some h
  refine j_callV C (ct_X6_clashes (eL E) G  e14) sh81 foX6 rfl vk_X6_clashes kw3_158 rfl ⟨Nat.le_of_ble_eq_true rfl, Nat.le_of_ble_eq_true rfl, rfl, rfl⟩ ⟨Nat.zero_le _, Nat.zero_le _⟩ (rest := [.long v3]) rfl (Nat.le_of_ble_eq_true rfl) dX6_mixWhatWouldBe_87 (st1 := [.int q13.2, .long v3]) rfl 90 rfl ?_
  refine j_i2l C dX6_mixWhatWouldBe_90 91 rfl ?_
  obtain ⟨q15, e16, h⟩ := ob_some h
  refine j_callS C (ct_X6_mix (eL E) G  e16) vk_X6_mix kw3_7 rfl ⟨Nat.le_of_ble_eq_true rfl, Nat.le_of_ble_eq_true rfl, rfl, rfl⟩ ⟨Nat.zero_le _, Nat.zero_le _⟩ (rest := []) rfl (Nat.le_of_ble_eq_true rfl) dX6_mixWhatWouldBe_91 (st1 := [.long q15.2]) rfl 94 rfl ?_
  refine j_aload_n C dX6_mixWhatWouldBe_94 rfl 0 rfl 95 rfl ?_
  obtain ⟨q17, e18, h⟩ := ob_some h
  refine j_callV C (ct_X6_least (eL E) G  e18) sh81 foX6 rfl vk_X6_least kw3_159 rfl ⟨Nat.le_of_ble_eq_true rfl, Nat.le_of_ble_eq_true rfl, rfl, rfl⟩ ⟨Nat.zero_le _, Nat.zero_le _⟩ (rest := [.long q15.2]) rfl (Nat.le_of_ble_eq_true rfl) dX6_mixWhatWouldBe_95 (st1 := [.int q17.2, .long q15.2]) rfl 98 rfl ?_
  refine j_i2l C dX6_mixWhatWouldBe_98 99 rfl ?_
  obtain ⟨q19, e20, h⟩ := ob_some h
  refine j_callS C (ct_X6_mix (eL E) G  e20) vk_X6_mix kw3_7 rfl ⟨Nat.le_of_ble_eq_true rfl, Nat.le_of_ble_eq_true rfl, rfl, rfl⟩ ⟨Nat.zero_le _, Nat.zero_le _⟩ (rest := []) rfl (Nat.le_of_ble_eq_true rfl) dX6_mixWhatWouldBe_99 (st1 := [.long q19.2]) rfl 102 rfl ?_
  exact j_lret C F dX6_mixWhatWouldBe_102 h

-- ===== StenoChords.digest()J
theorem vk_X6_digest : VK yX6_digest cX6_digest 4 (some .long) 0 := ⟨kw2_228, kw2_226, kw2_227, kw1_1, by decide +kernel⟩
def X6_digest_87 (K : Mem → Int64 → Option (Mem × Int64)) : Nat → Mem → Int64 → Int32 → Option (Mem × Int64)
  | 0, _, _, _ => none
  | fu + 1, σ, v1, v3 => ((X1_length σ).bind fun q29 => (if q29.2 ≤ v3 then K q29.1 v1 else ((X1_codeAt q29.1 v3).bind fun q31 => ((X6_mix q31.1 v1 q31.2.toInt64).bind fun q33 => X6_digest_87 K fu q33.1 q33.2 (v3 + (1 : Int32))))))
set_option maxHeartbeats 4000000 in
set_option maxRecDepth 100000 in
theorem w_X6_digest_87 {E : Ev} {G : Gw} (C : Cx E G RX6 cX6_digest 4 { frames := 8, cells := 0, slots := 0, locals := 143 }) {out : Mem × Int64} (F : Ef E G out.1 (some (.long out.2)) (some .long) 0 0)  {K : Mem → Int64 → Option (Mem × Int64)} (hK : ∀ (σ : Mem) (v1 : Int64), K σ v1 = some out → J E G 4 0 0 σ 118 [(1, .long v1)] []) : ∀ (fu : Nat) (σ : Mem) (v1 : Int64) (v3 : Int32), X6_digest_87 K fu σ v1 v3 = some out → J E G 4 0 0 σ 87 [(0, .ref (gA G 81)), (1, .long v1), (3, .int v3)] [] := by
  intro fu
  induction fu with
  | zero => intro σ v1 v3 h; rw [X6_digest_87] at h; cases h
  | succ fu ih =>
    intro σ v1 v3 h
    rw [X6_digest_87] at h
    refine j_iload_n C dX6_digest_87 rfl 2 rfl 88 rfl ?_
    refine j_aload_n C dX6_digest_88 rfl 0 rfl 89 rfl ?_
    refine j_get C foX6 sh81 3 (by decide) 60 rfl kw1_163 rfl dX6_digest_89 (.ref (gA G 58)) (fv_r rfl) 92 rfl ?_
    obtain ⟨q29, e30, h⟩ := ob_some h
    refine j_callV C (ct_X1_length (eL E) G  e30) sh58 foX1 rfl vk_X1_length kw2_22 rfl ⟨Nat.le_of_ble_eq_true rfl, Nat.le_of_ble_eq_true rfl, rfl, rfl⟩ ⟨Nat.zero_le _, Nat.zero_le _⟩ (rest := [.int v3]) rfl (Nat.le_of_ble_eq_true rfl) dX6_digest_92 (st1 := [.int q29.2, .int v3]) rfl 95 rfl ?_
    refine j_icmp_ge C dX6_digest_95 118 (by decide) 98 rfl (fun c => ?_) (fun c => ?_)
    · have h := it_t c h
      refine j_sub [(1, .long v1)] [1] rfl ?_
      exact hK _ _ h
    · have h := it_f c h
      refine j_lload_n C dX6_digest_98 rfl 1 rfl 99 rfl ?_
      refine j_aload_n C dX6_digest_99 rfl 0 rfl 100 rfl ?_
      refine j_get C foX6 sh81 3 (by decide) 60 rfl kw1_163 rfl dX6_digest_100 (.ref (gA G 58)) (fv_r rfl) 103 rfl ?_
      refine j_iload_n C dX6_digest_103 rfl 2 rfl 104 rfl ?_
      obtain ⟨q31, e32, h⟩ := ob_some h
      refine j_callV C (ct_X1_codeAt (eL E) G  e32) sh58 foX1 rfl vk_X1_codeAt kw3_172 rfl ⟨Nat.le_of_ble_eq_true rfl, Nat.le_of_ble_eq_true rfl, rfl, rfl⟩ ⟨Nat.zero_le _, Nat.zero_le _⟩ (rest := [.long v1]) rfl (Nat.le_of_ble_eq_true rfl) dX6_digest_104 (st1 := [.int q31.2, .long v1]) rfl 107 rfl ?_
      refine j_i2l C dX6_digest_107 108 rfl ?_
      obtain ⟨q33, e34, h⟩ := ob_some h
      refine j_callS C (ct_X6_mix (eL E) G  e34) vk_X6_mix kw3_7 rfl ⟨Nat.le_of_ble_eq_true rfl, Nat.le_of_ble_eq_true rfl, rfl, rfl⟩ ⟨Nat.zero_le _, Nat.zero_le _⟩ (rest := []) rfl (Nat.le_of_ble_eq_true rfl) dX6_digest_108 (st1 := [.long q33.2]) rfl 111 rfl ?_
      refine j_lstore_n C dX6_digest_111 rfl (by decide) [(1, .long q33.2), (0, .ref (gA G 81)), (3, .int v3)] rfl 112 rfl ?_
      refine j_iinc C dX6_digest_112 2 rfl (v3 + (1 : Int32)) rfl (by decide) [(3, .int (v3 + (1 : Int32))), (1, .long q33.2), (0, .ref (gA G 81))] rfl 115 rfl ?_
      refine j_goto C dX6_digest_115 87 (by decide) ?_
      refine j_sub [(0, .ref (gA G 81)), (1, .long q33.2), (3, .int (v3 + (1 : Int32)))] [2, 1, 0] rfl ?_
      exact ih _ _ _ h
def X6_digest (σ : Mem) : Option (Mem × Int64) :=
  ((X6_readPaper σ).bind fun q1 => ((X6_mixNumbers q1.1 (3643 : Int64)).bind fun q3 => ((X6_mixItems q3.1 q3.2).bind fun q5 => ((X6_mixEntries q5.1 q5.2).bind fun q7 => ((X6_mixWhatWouldBe q7.1 q7.2).bind fun q9 => ((X6_readShare q9.1).bind fun q11 => ((X6_bitsOfShare q11.1 q11.2).bind fun q13 => ((X6_mix q13.1 q9.2 q13.2).bind fun q15 => ((X6_meanKeys q15.1).bind fun q17 => ((X6_bitsOfMean q17.1 q17.2).bind fun q19 => ((X6_mix q19.1 q15.2 q19.2.toInt64).bind fun q21 => (if (q21.1.1 81 9) = 0 then ((X6_mix q21.1 q21.2 (0 : Int64)).bind fun q23 => ((X1_length q23.1).bind fun q25 => ((X6_mix q25.1 q23.2 q25.2.toInt64).bind fun q27 => X6_digest_87 (fun (σ : Mem) (v1 : Int64) => some (σ, v1)) FU q27.1 q27.2 (0 : Int32)))) else ((X6_mix q21.1 q21.2 (1 : Int64)).bind fun q35 => ((X1_length q35.1).bind fun q37 => ((X6_mix q37.1 q35.2 q37.2.toInt64).bind fun q39 => X6_digest_87 (fun (σ : Mem) (v1 : Int64) => some (σ, v1)) FU q39.1 q39.2 (0 : Int32))))))))))))))))
set_option maxHeartbeats 4000000 in
set_option maxRecDepth 100000 in
theorem ct_X6_digest (l : Launch) (G : Gw)  {σ : Mem} {out : Mem × Int64} (h : X6_digest σ = some out) : Ct l G yX6_digest cX6_digest 4 (some .long) { frames := 8, cells := 0, slots := 0, locals := 143 } [.ref (gA G 81)] σ out.1 (some (.long out.2)) := by
  refine Ct.of (by decide +kernel) (Nat.le_of_ble_eq_true rfl) (fun E hE C F => ?_)
  subst hE
  have C : Cx E G RX6 cX6_digest 4 { frames := 8, cells := 0, slots := 0, locals := 143 } := C
  unfold X6_digest at h
  show J E G 4 0 0 σ 0 [(0, .ref (gA G 81))] []
  refine j_aload_n C dX6_digest_0 rfl 0 rfl 1 rfl ?_
  obtain ⟨q1, e2, h⟩ := ob_some h
  refine j_callV C (ct_X6_readPaper (eL E) G  e2) sh81 foX6 rfl vk_X6_readPaper kw2_189 rfl ⟨Nat.le_of_ble_eq_true rfl, Nat.le_of_ble_eq_true rfl, rfl, rfl⟩ ⟨Nat.zero_le _, Nat.zero_le _⟩ (rest := []) rfl (Nat.le_of_ble_eq_true rfl) dX6_digest_1 (st1 := []) rfl 4 rfl ?_
  refine j_aload_n C dX6_digest_4 rfl 0 rfl 5 rfl ?_
  refine j_ldc2 C dX6_digest_5 kw2_229 8 rfl ?_
  obtain ⟨q3, e4, h⟩ := ob_some h
  refine j_callV C (ct_X6_mixNumbers (eL E) G  e4) sh81 foX6 rfl vk_X6_mixNumbers kw2_230 rfl ⟨Nat.le_of_ble_eq_true rfl, Nat.le_of_ble_eq_true rfl, rfl, rfl⟩ ⟨Nat.zero_le _, Nat.zero_le _⟩ (rest := []) rfl (Nat.le_of_ble_eq_true rfl) dX6_digest_8 (st1 := [.long q3.2]) rfl 11 rfl ?_
  refine j_lstore_n C dX6_digest_11 rfl (by decide) [(1, .long q3.2), (0, .ref (gA G 81))] rfl 12 rfl ?_
  refine j_aload_n C dX6_digest_12 rfl 1 rfl 13 rfl ?_
  refine j_lload_n C dX6_digest_13 rfl 0 rfl 14 rfl ?_
  obtain ⟨q5, e6, h⟩ := ob_some h
  refine j_callV C (ct_X6_mixItems (eL E) G  e6) sh81 foX6 rfl vk_X6_mixItems kw3_15 rfl ⟨Nat.le_of_ble_eq_true rfl, Nat.le_of_ble_eq_true rfl, rfl, rfl⟩ ⟨Nat.zero_le _, Nat.zero_le _⟩ (rest := []) rfl (Nat.le_of_ble_eq_true rfl) dX6_digest_14 (st1 := [.long q5.2]) rfl 17 rfl ?_
  refine j_lstore_n C dX6_digest_17 rfl (by decide) [(1, .long q5.2), (0, .ref (gA G 81))] rfl 18 rfl ?_
  refine j_aload_n C dX6_digest_18 rfl 1 rfl 19 rfl ?_
  refine j_lload_n C dX6_digest_19 rfl 0 rfl 20 rfl ?_
  obtain ⟨q7, e8, h⟩ := ob_some h
  refine j_callV C (ct_X6_mixEntries (eL E) G  e8) sh81 foX6 rfl vk_X6_mixEntries kw3_44 rfl ⟨Nat.le_of_ble_eq_true rfl, Nat.le_of_ble_eq_true rfl, rfl, rfl⟩ ⟨Nat.zero_le _, Nat.zero_le _⟩ (rest := []) rfl (Nat.le_of_ble_eq_true rfl) dX6_digest_20 (st1 := [.long q7.2]) rfl 23 rfl ?_
  refine j_lstore_n C dX6_digest_23 rfl (by decide) [(1, .long q7.2), (0, .ref (gA G 81))] rfl 24 rfl ?_
  refine j_aload_n C dX6_digest_24 rfl 1 rfl 25 rfl ?_
  refine j_lload_n C dX6_digest_25 rfl 0 rfl 26 rfl ?_
  obtain ⟨q9, e10, h⟩ := ob_some h
  refine j_callV C (ct_X6_mixWhatWouldBe (eL E) G  e10) sh81 foX6 rfl vk_X6_mixWhatWouldBe kw3_59 rfl ⟨Nat.le_of_ble_eq_true rfl, Nat.le_of_ble_eq_true rfl, rfl, rfl⟩ ⟨Nat.zero_le _, Nat.zero_le _⟩ (rest := []) rfl (Nat.le_of_ble_eq_true rfl) dX6_digest_26 (st1 := [.long q9.2]) rfl 29 rfl ?_
  refine j_lstore_n C dX6_digest_29 rfl (by decide) [(1, .long q9.2), (0, .ref (gA G 81))] rfl 30 rfl ?_
  refine j_lload_n C dX6_digest_30 rfl 0 rfl 31 rfl ?_
  refine j_aload_n C dX6_digest_31 rfl 1 rfl 32 rfl ?_
  obtain ⟨q11, e12, h⟩ := ob_some h
  refine j_callV C (ct_X6_readShare (eL E) G  e12) sh81 foX6 rfl vk_X6_readShare kw3_160 rfl ⟨Nat.le_of_ble_eq_true rfl, Nat.le_of_ble_eq_true rfl, rfl, rfl⟩ ⟨Nat.zero_le _, Nat.zero_le _⟩ (rest := [.long q9.2]) rfl (Nat.le_of_ble_eq_true rfl) dX6_digest_32 (st1 := [.double q11.2, .long q9.2]) rfl 35 rfl ?_
  obtain ⟨q13, e14, h⟩ := ob_some h
  refine j_callS C (ct_X6_bitsOfShare (eL E) G  e14) vk_X6_bitsOfShare kw3_161 rfl ⟨Nat.le_of_ble_eq_true rfl, Nat.le_of_ble_eq_true rfl, rfl, rfl⟩ ⟨Nat.zero_le _, Nat.zero_le _⟩ (rest := [.long q9.2]) rfl (Nat.le_of_ble_eq_true rfl) dX6_digest_35 (st1 := [.long q13.2, .long q9.2]) rfl 38 rfl ?_
  obtain ⟨q15, e16, h⟩ := ob_some h
  refine j_callS C (ct_X6_mix (eL E) G  e16) vk_X6_mix kw3_7 rfl ⟨Nat.le_of_ble_eq_true rfl, Nat.le_of_ble_eq_true rfl, rfl, rfl⟩ ⟨Nat.zero_le _, Nat.zero_le _⟩ (rest := []) rfl (Nat.le_of_ble_eq_true rfl) dX6_digest_38 (st1 := [.long q15.2]) rfl 41 rfl ?_
  refine j_lstore_n C dX6_digest_41 rfl (by decide) [(1, .long q15.2), (0, .ref (gA G 81))] rfl 42 rfl ?_
  refine j_lload_n C dX6_digest_42 rfl 0 rfl 43 rfl ?_
  refine j_aload_n C dX6_digest_43 rfl 1 rfl 44 rfl ?_
  obtain ⟨q17, e18, h⟩ := ob_some h
  refine j_callV C (ct_X6_meanKeys (eL E) G  e18) sh81 foX6 rfl vk_X6_meanKeys kw3_167 rfl ⟨Nat.le_of_ble_eq_true rfl, Nat.le_of_ble_eq_true rfl, rfl, rfl⟩ ⟨Nat.zero_le _, Nat.zero_le _⟩ (rest := [.long q15.2]) rfl (Nat.le_of_ble_eq_true rfl) dX6_digest_44 (st1 := [.float q17.2, .long q15.2]) rfl 47 rfl ?_
  obtain ⟨q19, e20, h⟩ := ob_some h
  refine j_callS C (ct_X6_bitsOfMean (eL E) G  e20) vk_X6_bitsOfMean kw3_168 rfl ⟨Nat.le_of_ble_eq_true rfl, Nat.le_of_ble_eq_true rfl, rfl, rfl⟩ ⟨Nat.zero_le _, Nat.zero_le _⟩ (rest := [.long q15.2]) rfl (Nat.le_of_ble_eq_true rfl) dX6_digest_47 (st1 := [.int q19.2, .long q15.2]) rfl 50 rfl ?_
  refine j_i2l C dX6_digest_50 51 rfl ?_
  obtain ⟨q21, e22, h⟩ := ob_some h
  refine j_callS C (ct_X6_mix (eL E) G  e22) vk_X6_mix kw3_7 rfl ⟨Nat.le_of_ble_eq_true rfl, Nat.le_of_ble_eq_true rfl, rfl, rfl⟩ ⟨Nat.zero_le _, Nat.zero_le _⟩ (rest := []) rfl (Nat.le_of_ble_eq_true rfl) dX6_digest_51 (st1 := [.long q21.2]) rfl 54 rfl ?_
  refine j_lstore_n C dX6_digest_54 rfl (by decide) [(1, .long q21.2), (0, .ref (gA G 81))] rfl 55 rfl ?_
  refine j_lload_n C dX6_digest_55 rfl 0 rfl 56 rfl ?_
  refine j_aload_n C dX6_digest_56 rfl 1 rfl 57 rfl ?_
  refine j_get C foX6 sh81 9 (by decide) 0 rfl kw1_169 rfl dX6_digest_57 (.int (q21.1.1 81 9)) rfl 60 rfl ?_
  refine j_if_eq C dX6_digest_60 67 (by decide) 63 rfl (fun c => ?_) (fun c => ?_)
  · have h := it_t c h
    refine j_lconst C dX6_digest_67 (0 : Int64) (by decide) 68 rfl ?_
    obtain ⟨q23, e24, h⟩ := ob_some h
    refine j_callS C (ct_X6_mix (eL E) G  e24) vk_X6_mix kw3_7 rfl ⟨Nat.le_of_ble_eq_true rfl, Nat.le_of_ble_eq_true rfl, rfl, rfl⟩ ⟨Nat.zero_le _, Nat.zero_le _⟩ (rest := []) rfl (Nat.le_of_ble_eq_true rfl) dX6_digest_68 (st1 := [.long q23.2]) rfl 71 rfl ?_
    refine j_lstore_n C dX6_digest_71 rfl (by decide) [(1, .long q23.2), (0, .ref (gA G 81))] rfl 72 rfl ?_
    refine j_lload_n C dX6_digest_72 rfl 0 rfl 73 rfl ?_
    refine j_aload_n C dX6_digest_73 rfl 1 rfl 74 rfl ?_
    refine j_get C foX6 sh81 3 (by decide) 60 rfl kw1_163 rfl dX6_digest_74 (.ref (gA G 58)) (fv_r rfl) 77 rfl ?_
    obtain ⟨q25, e26, h⟩ := ob_some h
    refine j_callV C (ct_X1_length (eL E) G  e26) sh58 foX1 rfl vk_X1_length kw2_22 rfl ⟨Nat.le_of_ble_eq_true rfl, Nat.le_of_ble_eq_true rfl, rfl, rfl⟩ ⟨Nat.zero_le _, Nat.zero_le _⟩ (rest := [.long q23.2]) rfl (Nat.le_of_ble_eq_true rfl) dX6_digest_77 (st1 := [.int q25.2, .long q23.2]) rfl 80 rfl ?_
    refine j_i2l C dX6_digest_80 81 rfl ?_
    obtain ⟨q27, e28, h⟩ := ob_some h
    refine j_callS C (ct_X6_mix (eL E) G  e28) vk_X6_mix kw3_7 rfl ⟨Nat.le_of_ble_eq_true rfl, Nat.le_of_ble_eq_true rfl, rfl, rfl⟩ ⟨Nat.zero_le _, Nat.zero_le _⟩ (rest := []) rfl (Nat.le_of_ble_eq_true rfl) dX6_digest_81 (st1 := [.long q27.2]) rfl 84 rfl ?_
    refine j_lstore_n C dX6_digest_84 rfl (by decide) [(1, .long q27.2), (0, .ref (gA G 81))] rfl 85 rfl ?_
    refine j_iconst C dX6_digest_85 (0 : Int32) (by decide) 86 rfl ?_
    refine j_istore_n C dX6_digest_86 rfl (by decide) [(3, .int (0 : Int32)), (1, .long q27.2), (0, .ref (gA G 81))] rfl 87 rfl ?_
    refine j_sub [(0, .ref (gA G 81)), (1, .long q27.2), (3, .int (0 : Int32))] [2, 1, 0] rfl ?_
    refine w_X6_digest_87 C F  (fun σ v1 h => ?_) FU _ _ _ h
    refine j_lload_n C dX6_digest_118 rfl 0 rfl 119 rfl ?_
    exact j_lret C F dX6_digest_119 h
  · have h := it_f c h
    refine j_lconst C dX6_digest_63 (1 : Int64) (by decide) 64 rfl ?_
    refine j_goto C dX6_digest_64 68 (by decide) ?_
    obtain ⟨q35, e36, h⟩ := ob_some h
    refine j_callS C (ct_X6_mix (eL E) G  e36) vk_X6_mix kw3_7 rfl ⟨Nat.le_of_ble_eq_true rfl, Nat.le_of_ble_eq_true rfl, rfl, rfl⟩ ⟨Nat.zero_le _, Nat.zero_le _⟩ (rest := []) rfl (Nat.le_of_ble_eq_true rfl) dX6_digest_68 (st1 := [.long q35.2]) rfl 71 rfl ?_
    refine j_lstore_n C dX6_digest_71 rfl (by decide) [(1, .long q35.2), (0, .ref (gA G 81))] rfl 72 rfl ?_
    refine j_lload_n C dX6_digest_72 rfl 0 rfl 73 rfl ?_
    refine j_aload_n C dX6_digest_73 rfl 1 rfl 74 rfl ?_
    refine j_get C foX6 sh81 3 (by decide) 60 rfl kw1_163 rfl dX6_digest_74 (.ref (gA G 58)) (fv_r rfl) 77 rfl ?_
    obtain ⟨q37, e38, h⟩ := ob_some h
    refine j_callV C (ct_X1_length (eL E) G  e38) sh58 foX1 rfl vk_X1_length kw2_22 rfl ⟨Nat.le_of_ble_eq_true rfl, Nat.le_of_ble_eq_true rfl, rfl, rfl⟩ ⟨Nat.zero_le _, Nat.zero_le _⟩ (rest := [.long q35.2]) rfl (Nat.le_of_ble_eq_true rfl) dX6_digest_77 (st1 := [.int q37.2, .long q35.2]) rfl 80 rfl ?_
    refine j_i2l C dX6_digest_80 81 rfl ?_
    obtain ⟨q39, e40, h⟩ := ob_some h
    refine j_callS C (ct_X6_mix (eL E) G  e40) vk_X6_mix kw3_7 rfl ⟨Nat.le_of_ble_eq_true rfl, Nat.le_of_ble_eq_true rfl, rfl, rfl⟩ ⟨Nat.zero_le _, Nat.zero_le _⟩ (rest := []) rfl (Nat.le_of_ble_eq_true rfl) dX6_digest_81 (st1 := [.long q39.2]) rfl 84 rfl ?_
    refine j_lstore_n C dX6_digest_84 rfl (by decide) [(1, .long q39.2), (0, .ref (gA G 81))] rfl 85 rfl ?_
    refine j_iconst C dX6_digest_85 (0 : Int32) (by decide) 86 rfl ?_
    refine j_istore_n C dX6_digest_86 rfl (by decide) [(3, .int (0 : Int32)), (1, .long q39.2), (0, .ref (gA G 81))] rfl 87 rfl ?_
    refine j_sub [(0, .ref (gA G 81)), (1, .long q39.2), (3, .int (0 : Int32))] [2, 1, 0] rfl ?_
    refine w_X6_digest_87 C F  (fun σ v1 h => ?_) FU _ _ _ h
    refine j_lload_n C dX6_digest_118 rfl 0 rfl 119 rfl ?_
    exact j_lret C F dX6_digest_119 h
