-- ===== StenoChordsLaw.up(II)I
theorem vk_L_up : SK yL_up cL_up 2 (some .int) 2 := ⟨kw2_182, kw2_181, kw1_0, by decide +kernel⟩
def L_up (σ : Mem) (p0 : Int32) (p1 : Int32) : Option (Mem × Int32) :=
  (if ¬ p1 = 0 then some (σ, ((p0 &&& (2147483647 : Int32)) - (p0 &&& (2147483647 : Int32)) / p1 * p1)) else none)
set_option maxHeartbeats 4000000 in
set_option maxRecDepth 100000 in
theorem ct_L_up (l : Launch) (G : Gw)  {σ : Mem} {p0 : Int32} {p1 : Int32} {out : Mem × Int32} (h : L_up σ p0 p1 = some out) : Ct l G yL_up cL_up 2 (some .int) { frames := 0, cells := 0, slots := 0, locals := 0 } [.int p0, .int p1] σ out.1 (some (.int out.2)) := by
  refine Ct.of (by decide +kernel) (Nat.le_of_ble_eq_true rfl) (fun E hE C F => ?_)
  subst hE
  have C : Cx E G RL cL_up 2 { frames := 0, cells := 0, slots := 0, locals := 0 } := C
  unfold L_up at h
  show J E G 2 0 0 σ 0 [(0, .int p0), (1, .int p1)] []
  refine j_iload_n C dL_up_0 rfl 0 rfl 1 rfl ?_
  refine j_ldc C dL_up_1 kw2_183 3 rfl ?_
  refine j_iand C dL_up_3 4 rfl ?_
  refine j_iload_n C dL_up_4 rfl 1 rfl 5 rfl ?_
  obtain ⟨hc, h⟩ := if_some h
  refine j_irem C dL_up_5 hc 6 rfl ?_
  exact j_iret C F dL_up_6 h

-- ===== StenoChordsLaw.looks(LStenoChords;)J
theorem vk_L_looks : SK yL_looks cL_looks 4 (some .long) 1 := ⟨kw2_186, kw2_185, kw1_0, by decide +kernel⟩
def L_looks_6 (K : Mem → Int64 → Option (Mem × Int64)) : Nat → Mem → Int64 → Int32 → Option (Mem × Int64)
  | 0, _, _, _ => none
  | fu + 1, σ, v1, v3 => (if (9 : Int32) ≤ v3 then K σ v1 else ((xlv (X6_count σ v3)).bind fun q1 => L_looks_6 K fu q1.1 (((31 : Int64) * v1) + q1.2.toInt64) (v3 + (1 : Int32))))
set_option maxHeartbeats 4000000 in
set_option maxRecDepth 100000 in
theorem w_L_looks_6 {E : Ev} {G : Gw} (C : Cx E G RL cL_looks 4 { frames := 7, cells := 0, slots := 0, locals := 139 }) {out : Mem × Int64} (F : Ef E G out.1 (some (.long out.2)) (some .long) 0 0)  {K : Mem → Int64 → Option (Mem × Int64)} (hK : ∀ (σ : Mem) (v1 : Int64), K σ v1 = some out → J E G 4 0 0 σ 31 [(0, .ref (gA G 81)), (1, .long v1)] []) : ∀ (fu : Nat) (σ : Mem) (v1 : Int64) (v3 : Int32), L_looks_6 K fu σ v1 v3 = some out → J E G 4 0 0 σ 6 [(0, .ref (gA G 81)), (1, .long v1), (3, .int v3)] [] := by
  intro fu
  induction fu with
  | zero => intro σ v1 v3 h; rw [L_looks_6] at h; cases h
  | succ fu ih =>
    intro σ v1 v3 h
    rw [L_looks_6] at h
    refine j_iload_n C dL_looks_6 rfl 2 rfl 7 rfl ?_
    refine j_bipush C dL_looks_7 (9 : Int32) (by decide) 9 rfl ?_
    refine j_icmp_ge C dL_looks_9 31 (by decide) 12 rfl (fun c => ?_) (fun c => ?_)
    · have h := it_t c h
      refine j_sub [(0, .ref (gA G 81)), (1, .long v1)] [0, 1] rfl ?_
      exact hK _ _ h
    · have h := it_f c h
      refine j_ldc2 C dL_looks_12 kw2_188 15 rfl ?_
      refine j_lload_n C dL_looks_15 rfl 1 rfl 16 rfl ?_
      refine j_lmul C dL_looks_16 17 rfl ?_
      refine j_aload_n C dL_looks_17 rfl 0 rfl 18 rfl ?_
      refine j_iload_n C dL_looks_18 rfl 2 rfl 19 rfl ?_
      obtain ⟨q1, e2, h⟩ := ob_some h
      refine j_callV C (ct_X6_count (eL E) G  (xlv_some e2)) sh81 foX6 rfl vk_X6_count kw2_90 rfl ⟨Nat.le_of_ble_eq_true rfl, Nat.le_of_ble_eq_true rfl, rfl, rfl⟩ ⟨Nat.zero_le _, Nat.zero_le _⟩ (rest := [.long ((31 : Int64) * v1)]) rfl (Nat.le_of_ble_eq_true rfl) dL_looks_19 (st1 := [.int q1.2, .long ((31 : Int64) * v1)]) rfl 22 rfl ?_
      refine j_i2l C dL_looks_22 23 rfl ?_
      refine j_ladd C dL_looks_23 24 rfl ?_
      refine j_lstore_n C dL_looks_24 rfl (by decide) [(1, .long (((31 : Int64) * v1) + q1.2.toInt64)), (0, .ref (gA G 81)), (3, .int v3)] rfl 25 rfl ?_
      refine j_iinc C dL_looks_25 2 rfl (v3 + (1 : Int32)) rfl (by decide) [(3, .int (v3 + (1 : Int32))), (1, .long (((31 : Int64) * v1) + q1.2.toInt64)), (0, .ref (gA G 81))] rfl 28 rfl ?_
      refine j_goto C dL_looks_28 6 (by decide) ?_
      refine j_sub [(0, .ref (gA G 81)), (1, .long (((31 : Int64) * v1) + q1.2.toInt64)), (3, .int (v3 + (1 : Int32)))] [2, 1, 0] rfl ?_
      exact ih _ _ _ h
def L_looks_33 (K : Mem → Int64 → Option (Mem × Int64)) : Nat → Mem → Int64 → Int32 → Option (Mem × Int64)
  | 0, _, _, _ => none
  | fu + 1, σ, v1, v3 => ((xlv (X6_count σ (0 : Int32))).bind fun q3 => (if q3.2 ≤ v3 then K q3.1 v1 else ((xlv (X6_stroke q3.1 v3)).bind fun q5 => L_looks_33 K fu q5.1 (((31 : Int64) * v1) + q5.2.toInt64) (v3 + (1 : Int32)))))
set_option maxHeartbeats 4000000 in
set_option maxRecDepth 100000 in
theorem w_L_looks_33 {E : Ev} {G : Gw} (C : Cx E G RL cL_looks 4 { frames := 7, cells := 0, slots := 0, locals := 139 }) {out : Mem × Int64} (F : Ef E G out.1 (some (.long out.2)) (some .long) 0 0)  {K : Mem → Int64 → Option (Mem × Int64)} (hK : ∀ (σ : Mem) (v1 : Int64), K σ v1 = some out → J E G 4 0 0 σ 61 [(0, .ref (gA G 81)), (1, .long v1)] []) : ∀ (fu : Nat) (σ : Mem) (v1 : Int64) (v3 : Int32), L_looks_33 K fu σ v1 v3 = some out → J E G 4 0 0 σ 33 [(0, .ref (gA G 81)), (1, .long v1), (3, .int v3)] [] := by
  intro fu
  induction fu with
  | zero => intro σ v1 v3 h; rw [L_looks_33] at h; cases h
  | succ fu ih =>
    intro σ v1 v3 h
    rw [L_looks_33] at h
    refine j_iload_n C dL_looks_33 rfl 2 rfl 34 rfl ?_
    refine j_aload_n C dL_looks_34 rfl 0 rfl 35 rfl ?_
    refine j_iconst C dL_looks_35 (0 : Int32) (by decide) 36 rfl ?_
    obtain ⟨q3, e4, h⟩ := ob_some h
    refine j_callV C (ct_X6_count (eL E) G  (xlv_some e4)) sh81 foX6 rfl vk_X6_count kw2_90 rfl ⟨Nat.le_of_ble_eq_true rfl, Nat.le_of_ble_eq_true rfl, rfl, rfl⟩ ⟨Nat.zero_le _, Nat.zero_le _⟩ (rest := [.int v3]) rfl (Nat.le_of_ble_eq_true rfl) dL_looks_36 (st1 := [.int q3.2, .int v3]) rfl 39 rfl ?_
    refine j_icmp_ge C dL_looks_39 61 (by decide) 42 rfl (fun c => ?_) (fun c => ?_)
    · have h := it_t c h
      refine j_sub [(0, .ref (gA G 81)), (1, .long v1)] [0, 1] rfl ?_
      exact hK _ _ h
    · have h := it_f c h
      refine j_ldc2 C dL_looks_42 kw2_188 45 rfl ?_
      refine j_lload_n C dL_looks_45 rfl 1 rfl 46 rfl ?_
      refine j_lmul C dL_looks_46 47 rfl ?_
      refine j_aload_n C dL_looks_47 rfl 0 rfl 48 rfl ?_
      refine j_iload_n C dL_looks_48 rfl 2 rfl 49 rfl ?_
      obtain ⟨q5, e6, h⟩ := ob_some h
      refine j_callV C (ct_X6_stroke (eL E) G  (xlv_some e6)) sh81 foX6 rfl vk_X6_stroke kw2_189 rfl ⟨Nat.le_of_ble_eq_true rfl, Nat.le_of_ble_eq_true rfl, rfl, rfl⟩ ⟨Nat.zero_le _, Nat.zero_le _⟩ (rest := [.long ((31 : Int64) * v1)]) rfl (Nat.le_of_ble_eq_true rfl) dL_looks_49 (st1 := [.int q5.2, .long ((31 : Int64) * v1)]) rfl 52 rfl ?_
      refine j_i2l C dL_looks_52 53 rfl ?_
      refine j_ladd C dL_looks_53 54 rfl ?_
      refine j_lstore_n C dL_looks_54 rfl (by decide) [(1, .long (((31 : Int64) * v1) + q5.2.toInt64)), (0, .ref (gA G 81)), (3, .int v3)] rfl 55 rfl ?_
      refine j_iinc C dL_looks_55 2 rfl (v3 + (1 : Int32)) rfl (by decide) [(3, .int (v3 + (1 : Int32))), (1, .long (((31 : Int64) * v1) + q5.2.toInt64)), (0, .ref (gA G 81))] rfl 58 rfl ?_
      refine j_goto C dL_looks_58 33 (by decide) ?_
      refine j_sub [(0, .ref (gA G 81)), (1, .long (((31 : Int64) * v1) + q5.2.toInt64)), (3, .int (v3 + (1 : Int32)))] [2, 1, 0] rfl ?_
      exact ih _ _ _ h
def L_looks_63 (K : Mem → Int64 → Option (Mem × Int64)) : Nat → Mem → Int64 → Int32 → Option (Mem × Int64)
  | 0, _, _, _ => none
  | fu + 1, σ, v1, v3 => ((xlv (X6_count σ (4 : Int32))).bind fun q7 => (if ((10 : Int32) * q7.2) ≤ v3 then K q7.1 v1 else ((xlv (X6_entry q7.1 (v3 / (10 : Int32)) (v3 - v3 / (10 : Int32) * (10 : Int32)))).bind fun q9 => L_looks_63 K fu q9.1 (((31 : Int64) * v1) + q9.2.toInt64) (v3 + (1 : Int32)))))
set_option maxHeartbeats 4000000 in
set_option maxRecDepth 100000 in
theorem w_L_looks_63 {E : Ev} {G : Gw} (C : Cx E G RL cL_looks 4 { frames := 7, cells := 0, slots := 0, locals := 139 }) {out : Mem × Int64} (F : Ef E G out.1 (some (.long out.2)) (some .long) 0 0)  {K : Mem → Int64 → Option (Mem × Int64)} (hK : ∀ (σ : Mem) (v1 : Int64), K σ v1 = some out → J E G 4 0 0 σ 101 [(0, .ref (gA G 81)), (1, .long v1)] []) : ∀ (fu : Nat) (σ : Mem) (v1 : Int64) (v3 : Int32), L_looks_63 K fu σ v1 v3 = some out → J E G 4 0 0 σ 63 [(0, .ref (gA G 81)), (1, .long v1), (3, .int v3)] [] := by
  intro fu
  induction fu with
  | zero => intro σ v1 v3 h; rw [L_looks_63] at h; cases h
  | succ fu ih =>
    intro σ v1 v3 h
    rw [L_looks_63] at h
    refine j_iload_n C dL_looks_63 rfl 2 rfl 64 rfl ?_
    refine j_bipush C dL_looks_64 (10 : Int32) (by decide) 66 rfl ?_
    refine j_aload_n C dL_looks_66 rfl 0 rfl 67 rfl ?_
    refine j_iconst C dL_looks_67 (4 : Int32) (by decide) 68 rfl ?_
    obtain ⟨q7, e8, h⟩ := ob_some h
    refine j_callV C (ct_X6_count (eL E) G  (xlv_some e8)) sh81 foX6 rfl vk_X6_count kw2_90 rfl ⟨Nat.le_of_ble_eq_true rfl, Nat.le_of_ble_eq_true rfl, rfl, rfl⟩ ⟨Nat.zero_le _, Nat.zero_le _⟩ (rest := [.int (10 : Int32), .int v3]) rfl (Nat.le_of_ble_eq_true rfl) dL_looks_68 (st1 := [.int q7.2, .int (10 : Int32), .int v3]) rfl 71 rfl ?_
    refine j_imul C dL_looks_71 72 rfl ?_
    refine j_icmp_ge C dL_looks_72 101 (by decide) 75 rfl (fun c => ?_) (fun c => ?_)
    · have h := it_t c h
      refine j_sub [(0, .ref (gA G 81)), (1, .long v1)] [0, 1] rfl ?_
      exact hK _ _ h
    · have h := it_f c h
      refine j_ldc2 C dL_looks_75 kw2_188 78 rfl ?_
      refine j_lload_n C dL_looks_78 rfl 1 rfl 79 rfl ?_
      refine j_lmul C dL_looks_79 80 rfl ?_
      refine j_aload_n C dL_looks_80 rfl 0 rfl 81 rfl ?_
      refine j_iload_n C dL_looks_81 rfl 2 rfl 82 rfl ?_
      refine j_bipush C dL_looks_82 (10 : Int32) (by decide) 84 rfl ?_
      refine j_idiv C dL_looks_84 (by decide) 85 rfl ?_
      refine j_iload_n C dL_looks_85 rfl 2 rfl 86 rfl ?_
      refine j_bipush C dL_looks_86 (10 : Int32) (by decide) 88 rfl ?_
      refine j_irem C dL_looks_88 (by decide) 89 rfl ?_
      obtain ⟨q9, e10, h⟩ := ob_some h
      refine j_callV C (ct_X6_entry (eL E) G  (xlv_some e10)) sh81 foX6 rfl vk_X6_entry kw2_210 rfl ⟨Nat.le_of_ble_eq_true rfl, Nat.le_of_ble_eq_true rfl, rfl, rfl⟩ ⟨Nat.zero_le _, Nat.zero_le _⟩ (rest := [.long ((31 : Int64) * v1)]) rfl (Nat.le_of_ble_eq_true rfl) dL_looks_89 (st1 := [.int q9.2, .long ((31 : Int64) * v1)]) rfl 92 rfl ?_
      refine j_i2l C dL_looks_92 93 rfl ?_
      refine j_ladd C dL_looks_93 94 rfl ?_
      refine j_lstore_n C dL_looks_94 rfl (by decide) [(1, .long (((31 : Int64) * v1) + q9.2.toInt64)), (0, .ref (gA G 81)), (3, .int v3)] rfl 95 rfl ?_
      refine j_iinc C dL_looks_95 2 rfl (v3 + (1 : Int32)) rfl (by decide) [(3, .int (v3 + (1 : Int32))), (1, .long (((31 : Int64) * v1) + q9.2.toInt64)), (0, .ref (gA G 81))] rfl 98 rfl ?_
      refine j_goto C dL_looks_98 63 (by decide) ?_
      refine j_sub [(0, .ref (gA G 81)), (1, .long (((31 : Int64) * v1) + q9.2.toInt64)), (3, .int (v3 + (1 : Int32)))] [2, 1, 0] rfl ?_
      exact ih _ _ _ h
def L_looks (σ : Mem) : Option (Mem × Int64) :=
  L_looks_6 (fun (σ : Mem) (v1 : Int64) => L_looks_33 (fun (σ : Mem) (v1 : Int64) => L_looks_63 (fun (σ : Mem) (v1 : Int64) => ((xlv (X6_setting σ (0 : Int32))).bind fun q11 => ((xlv (X6_setting q11.1 (1 : Int32))).bind fun q13 => some (q13.1, (((31 : Int64) * (((31 : Int64) * v1) + q11.2.toInt64)) + q13.2.toInt64))))) FU σ v1 (0 : Int32)) FU σ v1 (0 : Int32)) FU σ (73 : Int64) (0 : Int32)
set_option maxHeartbeats 4000000 in
set_option maxRecDepth 100000 in
theorem ct_L_looks (l : Launch) (G : Gw)  {σ : Mem} {out : Mem × Int64} (h : L_looks σ = some out) : Ct l G yL_looks cL_looks 4 (some .long) { frames := 7, cells := 0, slots := 0, locals := 139 } [.ref (gA G 81)] σ out.1 (some (.long out.2)) := by
  refine Ct.of (by decide +kernel) (Nat.le_of_ble_eq_true rfl) (fun E hE C F => ?_)
  subst hE
  have C : Cx E G RL cL_looks 4 { frames := 7, cells := 0, slots := 0, locals := 139 } := C
  unfold L_looks at h
  show J E G 4 0 0 σ 0 [(0, .ref (gA G 81))] []
  refine j_ldc2 C dL_looks_0 kw2_187 3 rfl ?_
  refine j_lstore_n C dL_looks_3 rfl (by decide) [(1, .long (73 : Int64)), (0, .ref (gA G 81))] rfl 4 rfl ?_
  refine j_iconst C dL_looks_4 (0 : Int32) (by decide) 5 rfl ?_
  refine j_istore_n C dL_looks_5 rfl (by decide) [(3, .int (0 : Int32)), (1, .long (73 : Int64)), (0, .ref (gA G 81))] rfl 6 rfl ?_
  refine j_sub [(0, .ref (gA G 81)), (1, .long (73 : Int64)), (3, .int (0 : Int32))] [2, 1, 0] rfl ?_
  refine w_L_looks_6 C F  (fun σ v1 h => ?_) FU _ _ _ h
  refine j_iconst C dL_looks_31 (0 : Int32) (by decide) 32 rfl ?_
  refine j_istore_n C dL_looks_32 rfl (by decide) [(3, .int (0 : Int32)), (0, .ref (gA G 81)), (1, .long v1)] rfl 33 rfl ?_
  refine j_sub [(0, .ref (gA G 81)), (1, .long v1), (3, .int (0 : Int32))] [1, 2, 0] rfl ?_
  refine w_L_looks_33 C F  (fun σ v1 h => ?_) FU _ _ _ h
  refine j_iconst C dL_looks_61 (0 : Int32) (by decide) 62 rfl ?_
  refine j_istore_n C dL_looks_62 rfl (by decide) [(3, .int (0 : Int32)), (0, .ref (gA G 81)), (1, .long v1)] rfl 63 rfl ?_
  refine j_sub [(0, .ref (gA G 81)), (1, .long v1), (3, .int (0 : Int32))] [1, 2, 0] rfl ?_
  refine w_L_looks_63 C F  (fun σ v1 h => ?_) FU _ _ _ h
  refine j_ldc2 C dL_looks_101 kw2_188 104 rfl ?_
  refine j_ldc2 C dL_looks_104 kw2_188 107 rfl ?_
  refine j_lload_n C dL_looks_107 rfl 1 rfl 108 rfl ?_
  refine j_lmul C dL_looks_108 109 rfl ?_
  refine j_aload_n C dL_looks_109 rfl 0 rfl 110 rfl ?_
  refine j_iconst C dL_looks_110 (0 : Int32) (by decide) 111 rfl ?_
  obtain ⟨q11, e12, h⟩ := ob_some h
  refine j_callV C (ct_X6_setting (eL E) G  (xlv_some e12)) sh81 foX6 rfl vk_X6_setting kw2_237 rfl ⟨Nat.le_of_ble_eq_true rfl, Nat.le_of_ble_eq_true rfl, rfl, rfl⟩ ⟨Nat.zero_le _, Nat.zero_le _⟩ (rest := [.long ((31 : Int64) * v1), .long (31 : Int64)]) rfl (Nat.le_of_ble_eq_true rfl) dL_looks_111 (st1 := [.int q11.2, .long ((31 : Int64) * v1), .long (31 : Int64)]) rfl 114 rfl ?_
  refine j_i2l C dL_looks_114 115 rfl ?_
  refine j_ladd C dL_looks_115 116 rfl ?_
  refine j_lmul C dL_looks_116 117 rfl ?_
  refine j_aload_n C dL_looks_117 rfl 0 rfl 118 rfl ?_
  refine j_iconst C dL_looks_118 (1 : Int32) (by decide) 119 rfl ?_
  obtain ⟨q13, e14, h⟩ := ob_some h
  refine j_callV C (ct_X6_setting (eL E) G  (xlv_some e14)) sh81 foX6 rfl vk_X6_setting kw2_237 rfl ⟨Nat.le_of_ble_eq_true rfl, Nat.le_of_ble_eq_true rfl, rfl, rfl⟩ ⟨Nat.zero_le _, Nat.zero_le _⟩ (rest := [.long ((31 : Int64) * (((31 : Int64) * v1) + q11.2.toInt64))]) rfl (Nat.le_of_ble_eq_true rfl) dL_looks_119 (st1 := [.int q13.2, .long ((31 : Int64) * (((31 : Int64) * v1) + q11.2.toInt64))]) rfl 122 rfl ?_
  refine j_i2l C dL_looks_122 123 rfl ?_
  refine j_ladd C dL_looks_123 124 rfl ?_
  exact j_lret C F dL_looks_124 h

-- ===== StenoChordsLaw.types(LStenoChords;II)I
theorem vk_L_types : SK yL_types cL_types 6 (some .int) 3 := ⟨kw3_131, kw3_130, kw1_0, by decide +kernel⟩
def L_types_63 (K : Mem → Int32 → Option (Mem × Int32)) (rc : Mem → Int32 → Int32 → Int32 → Int32 → Option (Mem × Int32)) (σ : Mem) (v1 : Int32) (v2 : Int32) (v4 : Int32) (v5 : Int32) (s0 : Int32) : Option (Mem × Int32) :=
  (if (v5 &&& (2 : Int32)) = (2 : Int32) then ((xlv (X6_append σ (116 : Int32))).bind fun q7 => (if (v5 &&& (4 : Int32)) = (4 : Int32) then ((xlv (X6_append q7.1 (107 : Int32))).bind fun q9 => rc q9.1 v1 v2 q9.2 (v4 + (1 : Int32))) else rc q7.1 v1 v2 q7.2 (v4 + (1 : Int32)))) else (if (v5 &&& (4 : Int32)) = (4 : Int32) then ((xlv (X6_append σ (107 : Int32))).bind fun q5 => rc q5.1 v1 v2 q5.2 (v4 + (1 : Int32))) else rc σ v1 v2 s0 (v4 + (1 : Int32))))
set_option maxHeartbeats 4000000 in
set_option maxRecDepth 100000 in
theorem w_L_types_63 {E : Ev} {G : Gw} (C : Cx E G RL cL_types 6 { frames := 7, cells := 0, slots := 0, locals := 103 }) {out : Mem × Int32} (F : Ef E G out.1 (some (.int out.2)) (some .int) 0 0)  {K : Mem → Int32 → Option (Mem × Int32)} (hK : ∀ (σ : Mem) (v3 : Int32), K σ v3 = some out → J E G 6 0 0 σ 108 [(3, .int v3)] []) {rc : Mem → Int32 → Int32 → Int32 → Int32 → Option (Mem × Int32)} (hrc : ∀ (σ : Mem) (v1 : Int32) (v2 : Int32) (v3 : Int32) (v4 : Int32), rc σ v1 v2 v3 v4 = some out → J E G 6 0 0 σ 8 [(0, .ref (gA G 81)), (1, .int v1), (2, .int v2), (3, .int v3), (4, .int v4)] []) (σ : Mem) (v1 : Int32) (v2 : Int32) (v4 : Int32) (v5 : Int32) (s0 : Int32) (h : L_types_63 K rc σ v1 v2 v4 v5 s0 = some out) : J E G 6 0 0 σ 63 [(0, .ref (gA G 81)), (1, .int v1), (2, .int v2), (4, .int v4), (5, .int v5)] [.int s0] := by
  unfold L_types_63 at h
  refine j_istore_n C dL_types_63 rfl (by decide) [(3, .int s0), (0, .ref (gA G 81)), (1, .int v1), (2, .int v2), (4, .int v4), (5, .int v5)] rfl 64 rfl ?_
  refine j_iload C dL_types_64 5 rfl 66 rfl ?_
  refine j_iconst C dL_types_66 (2 : Int32) (by decide) 67 rfl ?_
  refine j_iand C dL_types_67 68 rfl ?_
  refine j_iconst C dL_types_68 (2 : Int32) (by decide) 69 rfl ?_
  refine j_icmp_ne C dL_types_69 81 (by decide) 72 rfl (fun c => ?_) (fun c => ?_)
  · have h := it_f c h
    refine j_iload_n C dL_types_81 rfl 0 rfl 82 rfl ?_
    refine j_istore_n C dL_types_82 rfl (by decide) [(3, .int s0), (0, .ref (gA G 81)), (1, .int v1), (2, .int v2), (4, .int v4), (5, .int v5)] rfl 83 rfl ?_
    refine j_iload C dL_types_83 5 rfl 85 rfl ?_
    refine j_iconst C dL_types_85 (4 : Int32) (by decide) 86 rfl ?_
    refine j_iand C dL_types_86 87 rfl ?_
    refine j_iconst C dL_types_87 (4 : Int32) (by decide) 88 rfl ?_
    refine j_icmp_ne C dL_types_88 100 (by decide) 91 rfl (fun c => ?_) (fun c => ?_)
    · have h := it_f c h
      refine j_iload_n C dL_types_100 rfl 0 rfl 101 rfl ?_
      refine j_istore_n C dL_types_101 rfl (by decide) [(3, .int s0), (0, .ref (gA G 81)), (1, .int v1), (2, .int v2), (4, .int v4), (5, .int v5)] rfl 102 rfl ?_
      refine j_iinc C dL_types_102 4 rfl (v4 + (1 : Int32)) rfl (by decide) [(4, .int (v4 + (1 : Int32))), (3, .int s0), (0, .ref (gA G 81)), (1, .int v1), (2, .int v2), (5, .int v5)] rfl 105 rfl ?_
      refine j_goto C dL_types_105 8 (by decide) ?_
      refine j_sub [(0, .ref (gA G 81)), (1, .int v1), (2, .int v2), (3, .int s0), (4, .int (v4 + (1 : Int32)))] [2, 3, 4, 1, 0] rfl ?_
      exact hrc _ _ _ _ _ h
    · have h := it_t c h
      refine j_aload_n C dL_types_91 rfl 1 rfl 92 rfl ?_
      refine j_bipush C dL_types_92 (107 : Int32) (by decide) 94 rfl ?_
      obtain ⟨q5, e6, h⟩ := ob_some h
      refine j_callV C (ct_X6_append (eL E) G  (xlv_some e6)) sh81 foX6 rfl vk_X6_append kw3_146 rfl ⟨Nat.le_of_ble_eq_true rfl, Nat.le_of_ble_eq_true rfl, rfl, rfl⟩ ⟨Nat.zero_le _, Nat.zero_le _⟩ (rest := []) rfl (Nat.le_of_ble_eq_true rfl) dL_types_94 (st1 := [.int q5.2]) rfl 97 rfl ?_
      refine j_goto C dL_types_97 101 (by decide) ?_
      refine j_istore_n C dL_types_101 rfl (by decide) [(3, .int q5.2), (0, .ref (gA G 81)), (1, .int v1), (2, .int v2), (4, .int v4), (5, .int v5)] rfl 102 rfl ?_
      refine j_iinc C dL_types_102 4 rfl (v4 + (1 : Int32)) rfl (by decide) [(4, .int (v4 + (1 : Int32))), (3, .int q5.2), (0, .ref (gA G 81)), (1, .int v1), (2, .int v2), (5, .int v5)] rfl 105 rfl ?_
      refine j_goto C dL_types_105 8 (by decide) ?_
      refine j_sub [(0, .ref (gA G 81)), (1, .int v1), (2, .int v2), (3, .int q5.2), (4, .int (v4 + (1 : Int32)))] [2, 3, 4, 1, 0] rfl ?_
      exact hrc _ _ _ _ _ h
  · have h := it_t c h
    refine j_aload_n C dL_types_72 rfl 1 rfl 73 rfl ?_
    refine j_bipush C dL_types_73 (116 : Int32) (by decide) 75 rfl ?_
    obtain ⟨q7, e8, h⟩ := ob_some h
    refine j_callV C (ct_X6_append (eL E) G  (xlv_some e8)) sh81 foX6 rfl vk_X6_append kw3_146 rfl ⟨Nat.le_of_ble_eq_true rfl, Nat.le_of_ble_eq_true rfl, rfl, rfl⟩ ⟨Nat.zero_le _, Nat.zero_le _⟩ (rest := []) rfl (Nat.le_of_ble_eq_true rfl) dL_types_75 (st1 := [.int q7.2]) rfl 78 rfl ?_
    refine j_goto C dL_types_78 82 (by decide) ?_
    refine j_istore_n C dL_types_82 rfl (by decide) [(3, .int q7.2), (0, .ref (gA G 81)), (1, .int v1), (2, .int v2), (4, .int v4), (5, .int v5)] rfl 83 rfl ?_
    refine j_iload C dL_types_83 5 rfl 85 rfl ?_
    refine j_iconst C dL_types_85 (4 : Int32) (by decide) 86 rfl ?_
    refine j_iand C dL_types_86 87 rfl ?_
    refine j_iconst C dL_types_87 (4 : Int32) (by decide) 88 rfl ?_
    refine j_icmp_ne C dL_types_88 100 (by decide) 91 rfl (fun c => ?_) (fun c => ?_)
    · have h := it_f c h
      refine j_iload_n C dL_types_100 rfl 0 rfl 101 rfl ?_
      refine j_istore_n C dL_types_101 rfl (by decide) [(3, .int q7.2), (0, .ref (gA G 81)), (1, .int v1), (2, .int v2), (4, .int v4), (5, .int v5)] rfl 102 rfl ?_
      refine j_iinc C dL_types_102 4 rfl (v4 + (1 : Int32)) rfl (by decide) [(4, .int (v4 + (1 : Int32))), (3, .int q7.2), (0, .ref (gA G 81)), (1, .int v1), (2, .int v2), (5, .int v5)] rfl 105 rfl ?_
      refine j_goto C dL_types_105 8 (by decide) ?_
      refine j_sub [(0, .ref (gA G 81)), (1, .int v1), (2, .int v2), (3, .int q7.2), (4, .int (v4 + (1 : Int32)))] [2, 3, 4, 1, 0] rfl ?_
      exact hrc _ _ _ _ _ h
    · have h := it_t c h
      refine j_aload_n C dL_types_91 rfl 1 rfl 92 rfl ?_
      refine j_bipush C dL_types_92 (107 : Int32) (by decide) 94 rfl ?_
      obtain ⟨q9, e10, h⟩ := ob_some h
      refine j_callV C (ct_X6_append (eL E) G  (xlv_some e10)) sh81 foX6 rfl vk_X6_append kw3_146 rfl ⟨Nat.le_of_ble_eq_true rfl, Nat.le_of_ble_eq_true rfl, rfl, rfl⟩ ⟨Nat.zero_le _, Nat.zero_le _⟩ (rest := []) rfl (Nat.le_of_ble_eq_true rfl) dL_types_94 (st1 := [.int q9.2]) rfl 97 rfl ?_
      refine j_goto C dL_types_97 101 (by decide) ?_
      refine j_istore_n C dL_types_101 rfl (by decide) [(3, .int q9.2), (0, .ref (gA G 81)), (1, .int v1), (2, .int v2), (4, .int v4), (5, .int v5)] rfl 102 rfl ?_
      refine j_iinc C dL_types_102 4 rfl (v4 + (1 : Int32)) rfl (by decide) [(4, .int (v4 + (1 : Int32))), (3, .int q9.2), (0, .ref (gA G 81)), (1, .int v1), (2, .int v2), (5, .int v5)] rfl 105 rfl ?_
      refine j_goto C dL_types_105 8 (by decide) ?_
      refine j_sub [(0, .ref (gA G 81)), (1, .int v1), (2, .int v2), (3, .int q9.2), (4, .int (v4 + (1 : Int32)))] [2, 3, 4, 1, 0] rfl ?_
      exact hrc _ _ _ _ _ h
def L_types_44 (K : Mem → Int32 → Option (Mem × Int32)) (rc : Mem → Int32 → Int32 → Int32 → Int32 → Option (Mem × Int32)) (σ : Mem) (v1 : Int32) (v2 : Int32) (v4 : Int32) (v5 : Int32) (s0 : Int32) : Option (Mem × Int32) :=
  (if (v5 &&& (1 : Int32)) = (1 : Int32) then ((xlv (X6_append σ (115 : Int32))).bind fun q11 => L_types_63 K rc q11.1 v1 v2 v4 v5 q11.2) else L_types_63 K rc σ v1 v2 v4 v5 s0)
set_option maxHeartbeats 4000000 in
set_option maxRecDepth 100000 in
theorem w_L_types_44 {E : Ev} {G : Gw} (C : Cx E G RL cL_types 6 { frames := 7, cells := 0, slots := 0, locals := 103 }) {out : Mem × Int32} (F : Ef E G out.1 (some (.int out.2)) (some .int) 0 0)  {K : Mem → Int32 → Option (Mem × Int32)} (hK : ∀ (σ : Mem) (v3 : Int32), K σ v3 = some out → J E G 6 0 0 σ 108 [(3, .int v3)] []) {rc : Mem → Int32 → Int32 → Int32 → Int32 → Option (Mem × Int32)} (hrc : ∀ (σ : Mem) (v1 : Int32) (v2 : Int32) (v3 : Int32) (v4 : Int32), rc σ v1 v2 v3 v4 = some out → J E G 6 0 0 σ 8 [(0, .ref (gA G 81)), (1, .int v1), (2, .int v2), (3, .int v3), (4, .int v4)] []) (σ : Mem) (v1 : Int32) (v2 : Int32) (v4 : Int32) (v5 : Int32) (s0 : Int32) (h : L_types_44 K rc σ v1 v2 v4 v5 s0 = some out) : J E G 6 0 0 σ 44 [(0, .ref (gA G 81)), (1, .int v1), (2, .int v2), (4, .int v4), (5, .int v5)] [.int s0] := by
  unfold L_types_44 at h
  refine j_istore_n C dL_types_44 rfl (by decide) [(3, .int s0), (0, .ref (gA G 81)), (1, .int v1), (2, .int v2), (4, .int v4), (5, .int v5)] rfl 45 rfl ?_
  refine j_iload C dL_types_45 5 rfl 47 rfl ?_
  refine j_iconst C dL_types_47 (1 : Int32) (by decide) 48 rfl ?_
  refine j_iand C dL_types_48 49 rfl ?_
  refine j_iconst C dL_types_49 (1 : Int32) (by decide) 50 rfl ?_
  refine j_icmp_ne C dL_types_50 62 (by decide) 53 rfl (fun c => ?_) (fun c => ?_)
  · have h := it_f c h
    refine j_iload_n C dL_types_62 rfl 0 rfl 63 rfl ?_
    refine j_sub [(0, .ref (gA G 81)), (1, .int v1), (2, .int v2), (4, .int v4), (5, .int v5)] [1, 2, 3, 4, 5] rfl ?_
    exact w_L_types_63 C F  hK hrc _ _ _ _ _ _ h
  · have h := it_t c h
    refine j_aload_n C dL_types_53 rfl 1 rfl 54 rfl ?_
    refine j_bipush C dL_types_54 (115 : Int32) (by decide) 56 rfl ?_
    obtain ⟨q11, e12, h⟩ := ob_some h
    refine j_callV C (ct_X6_append (eL E) G  (xlv_some e12)) sh81 foX6 rfl vk_X6_append kw3_146 rfl ⟨Nat.le_of_ble_eq_true rfl, Nat.le_of_ble_eq_true rfl, rfl, rfl⟩ ⟨Nat.zero_le _, Nat.zero_le _⟩ (rest := []) rfl (Nat.le_of_ble_eq_true rfl) dL_types_56 (st1 := [.int q11.2]) rfl 59 rfl ?_
    refine j_goto C dL_types_59 63 (by decide) ?_
    refine j_sub [(0, .ref (gA G 81)), (1, .int v1), (2, .int v2), (4, .int v4), (5, .int v5)] [1, 2, 3, 4, 5] rfl ?_
    exact w_L_types_63 C F  hK hrc _ _ _ _ _ _ h
def L_types_8 (K : Mem → Int32 → Option (Mem × Int32)) : Nat → Mem → Int32 → Int32 → Int32 → Int32 → Option (Mem × Int32)
  | 0, _, _, _, _, _ => none
  | fu + 1, σ, v1, v2, v3, v4 => (if v1 ≤ v4 then K σ v3 else ((L_up σ (v2 >>> (((2 : Int32) * v4) &&& 31)) (7 : Int32)).bind fun q3 => (if v4 ≤ 0 then L_types_44 K (L_types_8 K fu) q3.1 v1 v2 v4 ((1 : Int32) + q3.2) v3 else ((xlv (X6_append q3.1 (47 : Int32))).bind fun q13 => L_types_44 K (L_types_8 K fu) q13.1 v1 v2 v4 ((1 : Int32) + q3.2) q13.2))))
set_option maxHeartbeats 4000000 in
set_option maxRecDepth 100000 in
theorem w_L_types_8 {E : Ev} {G : Gw} (C : Cx E G RL cL_types 6 { frames := 7, cells := 0, slots := 0, locals := 103 }) {out : Mem × Int32} (F : Ef E G out.1 (some (.int out.2)) (some .int) 0 0)  {K : Mem → Int32 → Option (Mem × Int32)} (hK : ∀ (σ : Mem) (v3 : Int32), K σ v3 = some out → J E G 6 0 0 σ 108 [(3, .int v3)] []) : ∀ (fu : Nat) (σ : Mem) (v1 : Int32) (v2 : Int32) (v3 : Int32) (v4 : Int32), L_types_8 K fu σ v1 v2 v3 v4 = some out → J E G 6 0 0 σ 8 [(0, .ref (gA G 81)), (1, .int v1), (2, .int v2), (3, .int v3), (4, .int v4)] [] := by
  intro fu
  induction fu with
  | zero => intro σ v1 v2 v3 v4 h; rw [L_types_8] at h; cases h
  | succ fu ih =>
    intro σ v1 v2 v3 v4 h
    rw [L_types_8] at h
    refine j_iload C dL_types_8 4 rfl 10 rfl ?_
    refine j_iload_n C dL_types_10 rfl 1 rfl 11 rfl ?_
    refine j_icmp_ge C dL_types_11 108 (by decide) 14 rfl (fun c => ?_) (fun c => ?_)
    · have h := it_t c h
      refine j_sub [(3, .int v3)] [3] rfl ?_
      exact hK _ _ h
    · have h := it_f c h
      refine j_iconst C dL_types_14 (1 : Int32) (by decide) 15 rfl ?_
      refine j_iload_n C dL_types_15 rfl 2 rfl 16 rfl ?_
      refine j_iconst C dL_types_16 (2 : Int32) (by decide) 17 rfl ?_
      refine j_iload C dL_types_17 4 rfl 19 rfl ?_
      refine j_imul C dL_types_19 20 rfl ?_
      refine j_ishr C dL_types_20 21 rfl ?_
      refine j_bipush C dL_types_21 (7 : Int32) (by decide) 23 rfl ?_
      obtain ⟨q3, e4, h⟩ := ob_some h
      refine j_callS C (ct_L_up (eL E) G  e4) vk_L_up kw2_180 rfl ⟨Nat.le_of_ble_eq_true rfl, Nat.le_of_ble_eq_true rfl, rfl, rfl⟩ ⟨Nat.zero_le _, Nat.zero_le _⟩ (rest := [.int (1 : Int32)]) rfl (Nat.le_of_ble_eq_true rfl) dL_types_23 (st1 := [.int q3.2, .int (1 : Int32)]) rfl 26 rfl ?_
      refine j_iadd C dL_types_26 27 rfl ?_
      refine j_istore C dL_types_27 (by decide) [(5, .int ((1 : Int32) + q3.2)), (0, .ref (gA G 81)), (1, .int v1), (2, .int v2), (3, .int v3), (4, .int v4)] rfl 29 rfl ?_
      refine j_iload C dL_types_29 5 rfl 31 rfl ?_
      refine j_if_le C dL_types_31 43 (by decide) 34 rfl (fun c => ?_) (fun c => ?_)
      · have h := it_t c h
        refine j_iload_n C dL_types_43 rfl 4 rfl 44 rfl ?_
        refine j_sub [(0, .ref (gA G 81)), (1, .int v1), (2, .int v2), (4, .int v4), (5, .int ((1 : Int32) + q3.2))] [1, 2, 3, 5, 0] rfl ?_
        exact w_L_types_44 C F  hK ih _ _ _ _ _ _ h
      · have h := it_f c h
        refine j_aload_n C dL_types_34 rfl 1 rfl 35 rfl ?_
        refine j_bipush C dL_types_35 (47 : Int32) (by decide) 37 rfl ?_
        obtain ⟨q13, e14, h⟩ := ob_some h
        refine j_callV C (ct_X6_append (eL E) G  (xlv_some e14)) sh81 foX6 rfl vk_X6_append kw3_146 rfl ⟨Nat.le_of_ble_eq_true rfl, Nat.le_of_ble_eq_true rfl, rfl, rfl⟩ ⟨Nat.zero_le _, Nat.zero_le _⟩ (rest := []) rfl (Nat.le_of_ble_eq_true rfl) dL_types_37 (st1 := [.int q13.2]) rfl 40 rfl ?_
        refine j_goto C dL_types_40 44 (by decide) ?_
        refine j_sub [(0, .ref (gA G 81)), (1, .int v1), (2, .int v2), (4, .int v4), (5, .int ((1 : Int32) + q3.2))] [1, 2, 3, 5, 0] rfl ?_
        exact w_L_types_44 C F  hK ih _ _ _ _ _ _ h
def L_types (σ : Mem) (p1 : Int32) (p2 : Int32) : Option (Mem × Int32) :=
  ((X6_clearBuffer σ).bind fun q1 => L_types_8 (fun (σ : Mem) (v3 : Int32) => some (σ, v3)) FU q1.1 p1 p2 q1.2 (0 : Int32))
set_option maxHeartbeats 4000000 in
set_option maxRecDepth 100000 in
theorem ct_L_types (l : Launch) (G : Gw)  {σ : Mem} {p1 : Int32} {p2 : Int32} {out : Mem × Int32} (h : L_types σ p1 p2 = some out) : Ct l G yL_types cL_types 6 (some .int) { frames := 7, cells := 0, slots := 0, locals := 103 } [.ref (gA G 81), .int p1, .int p2] σ out.1 (some (.int out.2)) := by
  refine Ct.of (by decide +kernel) (Nat.le_of_ble_eq_true rfl) (fun E hE C F => ?_)
  subst hE
  have C : Cx E G RL cL_types 6 { frames := 7, cells := 0, slots := 0, locals := 103 } := C
  unfold L_types at h
  show J E G 6 0 0 σ 0 [(0, .ref (gA G 81)), (1, .int p1), (2, .int p2)] []
  refine j_aload_n C dL_types_0 rfl 0 rfl 1 rfl ?_
  obtain ⟨q1, e2, h⟩ := ob_some h
  refine j_callV C (ct_X6_clearBuffer (eL E) G  e2) sh81 foX6 rfl vk_X6_clearBuffer kw3_132 rfl ⟨Nat.le_of_ble_eq_true rfl, Nat.le_of_ble_eq_true rfl, rfl, rfl⟩ ⟨Nat.zero_le _, Nat.zero_le _⟩ (rest := []) rfl (Nat.le_of_ble_eq_true rfl) dL_types_1 (st1 := [.int q1.2]) rfl 4 rfl ?_
  refine j_istore_n C dL_types_4 rfl (by decide) [(3, .int q1.2), (0, .ref (gA G 81)), (1, .int p1), (2, .int p2)] rfl 5 rfl ?_
  refine j_iconst C dL_types_5 (0 : Int32) (by decide) 6 rfl ?_
  refine j_istore C dL_types_6 (by decide) [(4, .int (0 : Int32)), (3, .int q1.2), (0, .ref (gA G 81)), (1, .int p1), (2, .int p2)] rfl 8 rfl ?_
  refine j_sub [(0, .ref (gA G 81)), (1, .int p1), (2, .int p2), (3, .int q1.2), (4, .int (0 : Int32))] [2, 3, 4, 1, 0] rfl ?_
  refine w_L_types_8 C F  (fun σ v3 h => ?_) FU _ _ _ _ _ h
  refine j_iload_n C dL_types_108 rfl 0 rfl 109 rfl ?_
  exact j_iret C F dL_types_109 h

-- ===== StenoChordsLaw.isEntry(LStenoChords;III)Z
theorem vk_L_isEntry : SK yL_isEntry cL_isEntry 8 (some .boolean) 4 := ⟨kw3_116, kw3_115, kw1_0, by decide +kernel⟩
def L_isEntry_48 (K : Mem → Int32 → Int32 → Int32 → Int32 → Int32 → Int32 → Option (Mem × Int32)) : Nat → Mem → Int32 → Int32 → Int32 → Int32 → Int32 → Int32 → Int32 → Option (Mem × Int32)
  | 0, _, _, _, _, _, _, _, _ => none
  | fu + 1, σ, v1, v2, v3, v4, v5, v6, v7 => (if v1 ≤ v7 then K σ v1 v2 v3 v4 v5 v6 else (if v6 = 0 then K σ v1 v2 v3 v4 v5 v6 else ((xlv (X6_entry σ v5 ((2 : Int32) + v7))).bind fun q5 => ((L_up q5.1 (v2 >>> (((2 : Int32) * v7) &&& 31)) (7 : Int32)).bind fun q7 => (if q5.2 = ((1 : Int32) + q7.2) then L_isEntry_48 K fu q7.1 v1 v2 v3 v4 v5 (1 : Int32) (v7 + (1 : Int32)) else L_isEntry_48 K fu q7.1 v1 v2 v3 v4 v5 (0 : Int32) (v7 + (1 : Int32)))))))
set_option maxHeartbeats 4000000 in
set_option maxRecDepth 100000 in
theorem w_L_isEntry_48 {E : Ev} {G : Gw} (C : Cx E G RL cL_isEntry 8 { frames := 7, cells := 0, slots := 0, locals := 139 }) {out : Mem × Int32} (F : Ef E G out.1 (some (.int out.2)) (some .boolean) 0 0)  {K : Mem → Int32 → Int32 → Int32 → Int32 → Int32 → Int32 → Option (Mem × Int32)} (hK : ∀ (σ : Mem) (v1 : Int32) (v2 : Int32) (v3 : Int32) (v4 : Int32) (v5 : Int32) (v6 : Int32), K σ v1 v2 v3 v4 v5 v6 = some out → J E G 8 0 0 σ 98 [(0, .ref (gA G 81)), (1, .int v1), (2, .int v2), (3, .int v3), (4, .int v4), (5, .int v5), (6, .int v6)] []) : ∀ (fu : Nat) (σ : Mem) (v1 : Int32) (v2 : Int32) (v3 : Int32) (v4 : Int32) (v5 : Int32) (v6 : Int32) (v7 : Int32), L_isEntry_48 K fu σ v1 v2 v3 v4 v5 v6 v7 = some out → J E G 8 0 0 σ 48 [(0, .ref (gA G 81)), (1, .int v1), (2, .int v2), (3, .int v3), (4, .int v4), (5, .int v5), (6, .int v6), (7, .int v7)] [] := by
  intro fu
  induction fu with
  | zero => intro σ v1 v2 v3 v4 v5 v6 v7 h; rw [L_isEntry_48] at h; cases h
  | succ fu ih =>
    intro σ v1 v2 v3 v4 v5 v6 v7 h
    rw [L_isEntry_48] at h
    refine j_iload C dL_isEntry_48 7 rfl 50 rfl ?_
    refine j_iload_n C dL_isEntry_50 rfl 1 rfl 51 rfl ?_
    refine j_icmp_ge C dL_isEntry_51 98 (by decide) 54 rfl (fun c => ?_) (fun c => ?_)
    · have h := it_t c h
      refine j_sub [(0, .ref (gA G 81)), (1, .int v1), (2, .int v2), (3, .int v3), (4, .int v4), (5, .int v5), (6, .int v6)] [0, 1, 2, 3, 4, 5, 6] rfl ?_
      exact hK _ _ _ _ _ _ _ h
    · have h := it_f c h
      refine j_iload C dL_isEntry_54 6 rfl 56 rfl ?_
      refine j_if_eq C dL_isEntry_56 98 (by decide) 59 rfl (fun c => ?_) (fun c => ?_)
      · have h := it_t c h
        refine j_sub [(0, .ref (gA G 81)), (1, .int v1), (2, .int v2), (3, .int v3), (4, .int v4), (5, .int v5), (6, .int v6)] [0, 1, 2, 3, 4, 5, 6] rfl ?_
        exact hK _ _ _ _ _ _ _ h
      · have h := it_f c h
        refine j_aload_n C dL_isEntry_59 rfl 0 rfl 60 rfl ?_
        refine j_iload C dL_isEntry_60 5 rfl 62 rfl ?_
        refine j_iconst C dL_isEntry_62 (2 : Int32) (by decide) 63 rfl ?_
        refine j_iload C dL_isEntry_63 7 rfl 65 rfl ?_
        refine j_iadd C dL_isEntry_65 66 rfl ?_
        obtain ⟨q5, e6, h⟩ := ob_some h
        refine j_callV C (ct_X6_entry (eL E) G  (xlv_some e6)) sh81 foX6 rfl vk_X6_entry kw2_210 rfl ⟨Nat.le_of_ble_eq_true rfl, Nat.le_of_ble_eq_true rfl, rfl, rfl⟩ ⟨Nat.zero_le _, Nat.zero_le _⟩ (rest := []) rfl (Nat.le_of_ble_eq_true rfl) dL_isEntry_66 (st1 := [.int q5.2]) rfl 69 rfl ?_
        refine j_iconst C dL_isEntry_69 (1 : Int32) (by decide) 70 rfl ?_
        refine j_iload_n C dL_isEntry_70 rfl 2 rfl 71 rfl ?_
        refine j_iconst C dL_isEntry_71 (2 : Int32) (by decide) 72 rfl ?_
        refine j_iload C dL_isEntry_72 7 rfl 74 rfl ?_
        refine j_imul C dL_isEntry_74 75 rfl ?_
        refine j_ishr C dL_isEntry_75 76 rfl ?_
        refine j_bipush C dL_isEntry_76 (7 : Int32) (by decide) 78 rfl ?_
        obtain ⟨q7, e8, h⟩ := ob_some h
        refine j_callS C (ct_L_up (eL E) G  e8) vk_L_up kw2_180 rfl ⟨Nat.le_of_ble_eq_true rfl, Nat.le_of_ble_eq_true rfl, rfl, rfl⟩ ⟨Nat.zero_le _, Nat.zero_le _⟩ (rest := [.int (1 : Int32), .int q5.2]) rfl (Nat.le_of_ble_eq_true rfl) dL_isEntry_78 (st1 := [.int q7.2, .int (1 : Int32), .int q5.2]) rfl 81 rfl ?_
        refine j_iadd C dL_isEntry_81 82 rfl ?_
        refine j_icmp_ne C dL_isEntry_82 89 (by decide) 85 rfl (fun c => ?_) (fun c => ?_)
        · have h := it_f c h
          refine j_iconst C dL_isEntry_89 (0 : Int32) (by decide) 90 rfl ?_
          refine j_istore C dL_isEntry_90 (by decide) [(6, .int (0 : Int32)), (0, .ref (gA G 81)), (1, .int v1), (2, .int v2), (3, .int v3), (4, .int v4), (5, .int v5), (7, .int v7)] rfl 92 rfl ?_
          refine j_iinc C dL_isEntry_92 7 rfl (v7 + (1 : Int32)) rfl (by decide) [(7, .int (v7 + (1 : Int32))), (6, .int (0 : Int32)), (0, .ref (gA G 81)), (1, .int v1), (2, .int v2), (3, .int v3), (4, .int v4), (5, .int v5)] rfl 95 rfl ?_
          refine j_goto C dL_isEntry_95 48 (by decide) ?_
          refine j_sub [(0, .ref (gA G 81)), (1, .int v1), (2, .int v2), (3, .int v3), (4, .int v4), (5, .int v5), (6, .int (0 : Int32)), (7, .int (v7 + (1 : Int32)))] [2, 3, 4, 5, 6, 7, 1, 0] rfl ?_
          exact ih _ _ _ _ _ _ _ _ h
        · have h := it_t c h
          refine j_iconst C dL_isEntry_85 (1 : Int32) (by decide) 86 rfl ?_
          refine j_goto C dL_isEntry_86 90 (by decide) ?_
          refine j_istore C dL_isEntry_90 (by decide) [(6, .int (1 : Int32)), (0, .ref (gA G 81)), (1, .int v1), (2, .int v2), (3, .int v3), (4, .int v4), (5, .int v5), (7, .int v7)] rfl 92 rfl ?_
          refine j_iinc C dL_isEntry_92 7 rfl (v7 + (1 : Int32)) rfl (by decide) [(7, .int (v7 + (1 : Int32))), (6, .int (1 : Int32)), (0, .ref (gA G 81)), (1, .int v1), (2, .int v2), (3, .int v3), (4, .int v4), (5, .int v5)] rfl 95 rfl ?_
          refine j_goto C dL_isEntry_95 48 (by decide) ?_
          refine j_sub [(0, .ref (gA G 81)), (1, .int v1), (2, .int v2), (3, .int v3), (4, .int v4), (5, .int v5), (6, .int (1 : Int32)), (7, .int (v7 + (1 : Int32)))] [2, 3, 4, 5, 6, 7, 1, 0] rfl ?_
          exact ih _ _ _ _ _ _ _ _ h
def L_isEntry_6 (K : Mem → Int32 → Option (Mem × Int32)) : Nat → Mem → Int32 → Int32 → Int32 → Int32 → Int32 → Option (Mem × Int32)
  | 0, _, _, _, _, _, _ => none
  | fu + 1, σ, v1, v2, v3, v4, v5 => ((xlv (X6_count σ (4 : Int32))).bind fun q1 => (if q1.2 ≤ v5 then K q1.1 v4 else ((xlv (X6_entry q1.1 v5 (0 : Int32))).bind fun q3 => (if q3.2 = v3 then ((xlv (X6_entry q3.1 v5 (1 : Int32))).bind fun q9 => (if q9.2 = v1 then L_isEntry_48 (fun (σ : Mem) (v1 : Int32) (v2 : Int32) (v3 : Int32) (v4 : Int32) (v5 : Int32) (v6 : Int32) => (if v4 = 0 then (if v6 = 0 then L_isEntry_6 K fu σ v1 v2 v3 (0 : Int32) (v5 + (1 : Int32)) else L_isEntry_6 K fu σ v1 v2 v3 (1 : Int32) (v5 + (1 : Int32))) else L_isEntry_6 K fu σ v1 v2 v3 (1 : Int32) (v5 + (1 : Int32)))) FU q9.1 v1 v2 v3 v4 v5 (1 : Int32) (0 : Int32) else L_isEntry_48 (fun (σ : Mem) (v1 : Int32) (v2 : Int32) (v3 : Int32) (v4 : Int32) (v5 : Int32) (v6 : Int32) => (if v4 = 0 then (if v6 = 0 then L_isEntry_6 K fu σ v1 v2 v3 (0 : Int32) (v5 + (1 : Int32)) else L_isEntry_6 K fu σ v1 v2 v3 (1 : Int32) (v5 + (1 : Int32))) else L_isEntry_6 K fu σ v1 v2 v3 (1 : Int32) (v5 + (1 : Int32)))) FU q9.1 v1 v2 v3 v4 v5 (0 : Int32) (0 : Int32))) else L_isEntry_48 (fun (σ : Mem) (v1 : Int32) (v2 : Int32) (v3 : Int32) (v4 : Int32) (v5 : Int32) (v6 : Int32) => (if v4 = 0 then (if v6 = 0 then L_isEntry_6 K fu σ v1 v2 v3 (0 : Int32) (v5 + (1 : Int32)) else L_isEntry_6 K fu σ v1 v2 v3 (1 : Int32) (v5 + (1 : Int32))) else L_isEntry_6 K fu σ v1 v2 v3 (1 : Int32) (v5 + (1 : Int32)))) FU q3.1 v1 v2 v3 v4 v5 (0 : Int32) (0 : Int32)))))
set_option maxHeartbeats 4000000 in
set_option maxRecDepth 100000 in
theorem w_L_isEntry_6 {E : Ev} {G : Gw} (C : Cx E G RL cL_isEntry 8 { frames := 7, cells := 0, slots := 0, locals := 139 }) {out : Mem × Int32} (F : Ef E G out.1 (some (.int out.2)) (some .boolean) 0 0)  {K : Mem → Int32 → Option (Mem × Int32)} (hK : ∀ (σ : Mem) (v4 : Int32), K σ v4 = some out → J E G 8 0 0 σ 121 [(4, .int v4)] []) : ∀ (fu : Nat) (σ : Mem) (v1 : Int32) (v2 : Int32) (v3 : Int32) (v4 : Int32) (v5 : Int32), L_isEntry_6 K fu σ v1 v2 v3 v4 v5 = some out → J E G 8 0 0 σ 6 [(0, .ref (gA G 81)), (1, .int v1), (2, .int v2), (3, .int v3), (4, .int v4), (5, .int v5)] [] := by
  intro fu
  induction fu with
  | zero => intro σ v1 v2 v3 v4 v5 h; rw [L_isEntry_6] at h; cases h
  | succ fu ih =>
    intro σ v1 v2 v3 v4 v5 h
    rw [L_isEntry_6] at h
    refine j_iload C dL_isEntry_6 5 rfl 8 rfl ?_
    refine j_aload_n C dL_isEntry_8 rfl 0 rfl 9 rfl ?_
    refine j_iconst C dL_isEntry_9 (4 : Int32) (by decide) 10 rfl ?_
    obtain ⟨q1, e2, h⟩ := ob_some h
    refine j_callV C (ct_X6_count (eL E) G  (xlv_some e2)) sh81 foX6 rfl vk_X6_count kw2_90 rfl ⟨Nat.le_of_ble_eq_true rfl, Nat.le_of_ble_eq_true rfl, rfl, rfl⟩ ⟨Nat.zero_le _, Nat.zero_le _⟩ (rest := [.int v5]) rfl (Nat.le_of_ble_eq_true rfl) dL_isEntry_10 (st1 := [.int q1.2, .int v5]) rfl 13 rfl ?_
    refine j_icmp_ge C dL_isEntry_13 121 (by decide) 16 rfl (fun c => ?_) (fun c => ?_)
    · have h := it_t c h
      refine j_sub [(4, .int v4)] [4] rfl ?_
      exact hK _ _ h
    · have h := it_f c h
      refine j_aload_n C dL_isEntry_16 rfl 0 rfl 17 rfl ?_
      refine j_iload C dL_isEntry_17 5 rfl 19 rfl ?_
      refine j_iconst C dL_isEntry_19 (0 : Int32) (by decide) 20 rfl ?_
      obtain ⟨q3, e4, h⟩ := ob_some h
      refine j_callV C (ct_X6_entry (eL E) G  (xlv_some e4)) sh81 foX6 rfl vk_X6_entry kw2_210 rfl ⟨Nat.le_of_ble_eq_true rfl, Nat.le_of_ble_eq_true rfl, rfl, rfl⟩ ⟨Nat.zero_le _, Nat.zero_le _⟩ (rest := []) rfl (Nat.le_of_ble_eq_true rfl) dL_isEntry_20 (st1 := [.int q3.2]) rfl 23 rfl ?_
      refine j_iload_n C dL_isEntry_23 rfl 3 rfl 24 rfl ?_
      refine j_icmp_ne C dL_isEntry_24 42 (by decide) 27 rfl (fun c => ?_) (fun c => ?_)
      · have h := it_f c h
        refine j_iconst C dL_isEntry_42 (0 : Int32) (by decide) 43 rfl ?_
        refine j_istore C dL_isEntry_43 (by decide) [(6, .int (0 : Int32)), (0, .ref (gA G 81)), (1, .int v1), (2, .int v2), (3, .int v3), (4, .int v4), (5, .int v5)] rfl 45 rfl ?_
        refine j_iconst C dL_isEntry_45 (0 : Int32) (by decide) 46 rfl ?_
        refine j_istore C dL_isEntry_46 (by decide) [(7, .int (0 : Int32)), (6, .int (0 : Int32)), (0, .ref (gA G 81)), (1, .int v1), (2, .int v2), (3, .int v3), (4, .int v4), (5, .int v5)] rfl 48 rfl ?_
        refine j_sub [(0, .ref (gA G 81)), (1, .int v1), (2, .int v2), (3, .int v3), (4, .int v4), (5, .int v5), (6, .int (0 : Int32)), (7, .int (0 : Int32))] [2, 3, 4, 5, 6, 7, 1, 0] rfl ?_
        refine w_L_isEntry_48 C F  (fun σ v1 v2 v3 v4 v5 v6 h => ?_) FU _ _ _ _ _ _ _ _ h
        refine j_iload C dL_isEntry_98 4 rfl 100 rfl ?_
        refine j_if_ne C dL_isEntry_100 108 (by decide) 103 rfl (fun c => ?_) (fun c => ?_)
        · have h := it_f c h
          refine j_iconst C dL_isEntry_108 (1 : Int32) (by decide) 109 rfl ?_
          refine j_goto C dL_isEntry_109 113 (by decide) ?_
          refine j_istore C dL_isEntry_113 (by decide) [(4, .int (1 : Int32)), (0, .ref (gA G 81)), (1, .int v1), (2, .int v2), (3, .int v3), (5, .int v5), (6, .int v6)] rfl 115 rfl ?_
          refine j_iinc C dL_isEntry_115 5 rfl (v5 + (1 : Int32)) rfl (by decide) [(5, .int (v5 + (1 : Int32))), (4, .int (1 : Int32)), (0, .ref (gA G 81)), (1, .int v1), (2, .int v2), (3, .int v3), (6, .int v6)] rfl 118 rfl ?_
          refine j_goto C dL_isEntry_118 6 (by decide) ?_
          refine j_sub [(0, .ref (gA G 81)), (1, .int v1), (2, .int v2), (3, .int v3), (4, .int (1 : Int32)), (5, .int (v5 + (1 : Int32)))] [2, 3, 4, 5, 1, 0] rfl ?_
          exact ih _ _ _ _ _ _ h
        · have h := it_t c h
          refine j_iload C dL_isEntry_103 6 rfl 105 rfl ?_
          refine j_if_eq C dL_isEntry_105 112 (by decide) 108 rfl (fun c => ?_) (fun c => ?_)
          · have h := it_t c h
            refine j_iconst C dL_isEntry_112 (0 : Int32) (by decide) 113 rfl ?_
            refine j_istore C dL_isEntry_113 (by decide) [(4, .int (0 : Int32)), (0, .ref (gA G 81)), (1, .int v1), (2, .int v2), (3, .int v3), (5, .int v5), (6, .int v6)] rfl 115 rfl ?_
            refine j_iinc C dL_isEntry_115 5 rfl (v5 + (1 : Int32)) rfl (by decide) [(5, .int (v5 + (1 : Int32))), (4, .int (0 : Int32)), (0, .ref (gA G 81)), (1, .int v1), (2, .int v2), (3, .int v3), (6, .int v6)] rfl 118 rfl ?_
            refine j_goto C dL_isEntry_118 6 (by decide) ?_
            refine j_sub [(0, .ref (gA G 81)), (1, .int v1), (2, .int v2), (3, .int v3), (4, .int (0 : Int32)), (5, .int (v5 + (1 : Int32)))] [2, 3, 4, 5, 1, 0] rfl ?_
            exact ih _ _ _ _ _ _ h
          · have h := it_f c h
            refine j_iconst C dL_isEntry_108 (1 : Int32) (by decide) 109 rfl ?_
            refine j_goto C dL_isEntry_109 113 (by decide) ?_
            refine j_istore C dL_isEntry_113 (by decide) [(4, .int (1 : Int32)), (0, .ref (gA G 81)), (1, .int v1), (2, .int v2), (3, .int v3), (5, .int v5), (6, .int v6)] rfl 115 rfl ?_
            refine j_iinc C dL_isEntry_115 5 rfl (v5 + (1 : Int32)) rfl (by decide) [(5, .int (v5 + (1 : Int32))), (4, .int (1 : Int32)), (0, .ref (gA G 81)), (1, .int v1), (2, .int v2), (3, .int v3), (6, .int v6)] rfl 118 rfl ?_
            refine j_goto C dL_isEntry_118 6 (by decide) ?_
            refine j_sub [(0, .ref (gA G 81)), (1, .int v1), (2, .int v2), (3, .int v3), (4, .int (1 : Int32)), (5, .int (v5 + (1 : Int32)))] [2, 3, 4, 5, 1, 0] rfl ?_
            exact ih _ _ _ _ _ _ h
      · have h := it_t c h
        refine j_aload_n C dL_isEntry_27 rfl 0 rfl 28 rfl ?_
        refine j_iload C dL_isEntry_28 5 rfl 30 rfl ?_
        refine j_iconst C dL_isEntry_30 (1 : Int32) (by decide) 31 rfl ?_
        obtain ⟨q9, e10, h⟩ := ob_some h
        refine j_callV C (ct_X6_entry (eL E) G  (xlv_some e10)) sh81 foX6 rfl vk_X6_entry kw2_210 rfl ⟨Nat.le_of_ble_eq_true rfl, Nat.le_of_ble_eq_true rfl, rfl, rfl⟩ ⟨Nat.zero_le _, Nat.zero_le _⟩ (rest := []) rfl (Nat.le_of_ble_eq_true rfl) dL_isEntry_31 (st1 := [.int q9.2]) rfl 34 rfl ?_
        refine j_iload_n C dL_isEntry_34 rfl 1 rfl 35 rfl ?_
        refine j_icmp_ne C dL_isEntry_35 42 (by decide) 38 rfl (fun c => ?_) (fun c => ?_)
        · have h := it_f c h
          refine j_iconst C dL_isEntry_42 (0 : Int32) (by decide) 43 rfl ?_
          refine j_istore C dL_isEntry_43 (by decide) [(6, .int (0 : Int32)), (0, .ref (gA G 81)), (1, .int v1), (2, .int v2), (3, .int v3), (4, .int v4), (5, .int v5)] rfl 45 rfl ?_
          refine j_iconst C dL_isEntry_45 (0 : Int32) (by decide) 46 rfl ?_
          refine j_istore C dL_isEntry_46 (by decide) [(7, .int (0 : Int32)), (6, .int (0 : Int32)), (0, .ref (gA G 81)), (1, .int v1), (2, .int v2), (3, .int v3), (4, .int v4), (5, .int v5)] rfl 48 rfl ?_
          refine j_sub [(0, .ref (gA G 81)), (1, .int v1), (2, .int v2), (3, .int v3), (4, .int v4), (5, .int v5), (6, .int (0 : Int32)), (7, .int (0 : Int32))] [2, 3, 4, 5, 6, 7, 1, 0] rfl ?_
          refine w_L_isEntry_48 C F  (fun σ v1 v2 v3 v4 v5 v6 h => ?_) FU _ _ _ _ _ _ _ _ h
          refine j_iload C dL_isEntry_98 4 rfl 100 rfl ?_
          refine j_if_ne C dL_isEntry_100 108 (by decide) 103 rfl (fun c => ?_) (fun c => ?_)
          · have h := it_f c h
            refine j_iconst C dL_isEntry_108 (1 : Int32) (by decide) 109 rfl ?_
            refine j_goto C dL_isEntry_109 113 (by decide) ?_
            refine j_istore C dL_isEntry_113 (by decide) [(4, .int (1 : Int32)), (0, .ref (gA G 81)), (1, .int v1), (2, .int v2), (3, .int v3), (5, .int v5), (6, .int v6)] rfl 115 rfl ?_
            refine j_iinc C dL_isEntry_115 5 rfl (v5 + (1 : Int32)) rfl (by decide) [(5, .int (v5 + (1 : Int32))), (4, .int (1 : Int32)), (0, .ref (gA G 81)), (1, .int v1), (2, .int v2), (3, .int v3), (6, .int v6)] rfl 118 rfl ?_
            refine j_goto C dL_isEntry_118 6 (by decide) ?_
            refine j_sub [(0, .ref (gA G 81)), (1, .int v1), (2, .int v2), (3, .int v3), (4, .int (1 : Int32)), (5, .int (v5 + (1 : Int32)))] [2, 3, 4, 5, 1, 0] rfl ?_
            exact ih _ _ _ _ _ _ h
          · have h := it_t c h
            refine j_iload C dL_isEntry_103 6 rfl 105 rfl ?_
            refine j_if_eq C dL_isEntry_105 112 (by decide) 108 rfl (fun c => ?_) (fun c => ?_)
            · have h := it_t c h
              refine j_iconst C dL_isEntry_112 (0 : Int32) (by decide) 113 rfl ?_
              refine j_istore C dL_isEntry_113 (by decide) [(4, .int (0 : Int32)), (0, .ref (gA G 81)), (1, .int v1), (2, .int v2), (3, .int v3), (5, .int v5), (6, .int v6)] rfl 115 rfl ?_
              refine j_iinc C dL_isEntry_115 5 rfl (v5 + (1 : Int32)) rfl (by decide) [(5, .int (v5 + (1 : Int32))), (4, .int (0 : Int32)), (0, .ref (gA G 81)), (1, .int v1), (2, .int v2), (3, .int v3), (6, .int v6)] rfl 118 rfl ?_
              refine j_goto C dL_isEntry_118 6 (by decide) ?_
              refine j_sub [(0, .ref (gA G 81)), (1, .int v1), (2, .int v2), (3, .int v3), (4, .int (0 : Int32)), (5, .int (v5 + (1 : Int32)))] [2, 3, 4, 5, 1, 0] rfl ?_
              exact ih _ _ _ _ _ _ h
            · have h := it_f c h
              refine j_iconst C dL_isEntry_108 (1 : Int32) (by decide) 109 rfl ?_
              refine j_goto C dL_isEntry_109 113 (by decide) ?_
              refine j_istore C dL_isEntry_113 (by decide) [(4, .int (1 : Int32)), (0, .ref (gA G 81)), (1, .int v1), (2, .int v2), (3, .int v3), (5, .int v5), (6, .int v6)] rfl 115 rfl ?_
              refine j_iinc C dL_isEntry_115 5 rfl (v5 + (1 : Int32)) rfl (by decide) [(5, .int (v5 + (1 : Int32))), (4, .int (1 : Int32)), (0, .ref (gA G 81)), (1, .int v1), (2, .int v2), (3, .int v3), (6, .int v6)] rfl 118 rfl ?_
              refine j_goto C dL_isEntry_118 6 (by decide) ?_
              refine j_sub [(0, .ref (gA G 81)), (1, .int v1), (2, .int v2), (3, .int v3), (4, .int (1 : Int32)), (5, .int (v5 + (1 : Int32)))] [2, 3, 4, 5, 1, 0] rfl ?_
              exact ih _ _ _ _ _ _ h
        · have h := it_t c h
          refine j_iconst C dL_isEntry_38 (1 : Int32) (by decide) 39 rfl ?_
          refine j_goto C dL_isEntry_39 43 (by decide) ?_
          refine j_istore C dL_isEntry_43 (by decide) [(6, .int (1 : Int32)), (0, .ref (gA G 81)), (1, .int v1), (2, .int v2), (3, .int v3), (4, .int v4), (5, .int v5)] rfl 45 rfl ?_
          refine j_iconst C dL_isEntry_45 (0 : Int32) (by decide) 46 rfl ?_
          refine j_istore C dL_isEntry_46 (by decide) [(7, .int (0 : Int32)), (6, .int (1 : Int32)), (0, .ref (gA G 81)), (1, .int v1), (2, .int v2), (3, .int v3), (4, .int v4), (5, .int v5)] rfl 48 rfl ?_
          refine j_sub [(0, .ref (gA G 81)), (1, .int v1), (2, .int v2), (3, .int v3), (4, .int v4), (5, .int v5), (6, .int (1 : Int32)), (7, .int (0 : Int32))] [2, 3, 4, 5, 6, 7, 1, 0] rfl ?_
          refine w_L_isEntry_48 C F  (fun σ v1 v2 v3 v4 v5 v6 h => ?_) FU _ _ _ _ _ _ _ _ h
          refine j_iload C dL_isEntry_98 4 rfl 100 rfl ?_
          refine j_if_ne C dL_isEntry_100 108 (by decide) 103 rfl (fun c => ?_) (fun c => ?_)
          · have h := it_f c h
            refine j_iconst C dL_isEntry_108 (1 : Int32) (by decide) 109 rfl ?_
            refine j_goto C dL_isEntry_109 113 (by decide) ?_
            refine j_istore C dL_isEntry_113 (by decide) [(4, .int (1 : Int32)), (0, .ref (gA G 81)), (1, .int v1), (2, .int v2), (3, .int v3), (5, .int v5), (6, .int v6)] rfl 115 rfl ?_
            refine j_iinc C dL_isEntry_115 5 rfl (v5 + (1 : Int32)) rfl (by decide) [(5, .int (v5 + (1 : Int32))), (4, .int (1 : Int32)), (0, .ref (gA G 81)), (1, .int v1), (2, .int v2), (3, .int v3), (6, .int v6)] rfl 118 rfl ?_
            refine j_goto C dL_isEntry_118 6 (by decide) ?_
            refine j_sub [(0, .ref (gA G 81)), (1, .int v1), (2, .int v2), (3, .int v3), (4, .int (1 : Int32)), (5, .int (v5 + (1 : Int32)))] [2, 3, 4, 5, 1, 0] rfl ?_
            exact ih _ _ _ _ _ _ h
          · have h := it_t c h
            refine j_iload C dL_isEntry_103 6 rfl 105 rfl ?_
            refine j_if_eq C dL_isEntry_105 112 (by decide) 108 rfl (fun c => ?_) (fun c => ?_)
            · have h := it_t c h
              refine j_iconst C dL_isEntry_112 (0 : Int32) (by decide) 113 rfl ?_
              refine j_istore C dL_isEntry_113 (by decide) [(4, .int (0 : Int32)), (0, .ref (gA G 81)), (1, .int v1), (2, .int v2), (3, .int v3), (5, .int v5), (6, .int v6)] rfl 115 rfl ?_
              refine j_iinc C dL_isEntry_115 5 rfl (v5 + (1 : Int32)) rfl (by decide) [(5, .int (v5 + (1 : Int32))), (4, .int (0 : Int32)), (0, .ref (gA G 81)), (1, .int v1), (2, .int v2), (3, .int v3), (6, .int v6)] rfl 118 rfl ?_
              refine j_goto C dL_isEntry_118 6 (by decide) ?_
              refine j_sub [(0, .ref (gA G 81)), (1, .int v1), (2, .int v2), (3, .int v3), (4, .int (0 : Int32)), (5, .int (v5 + (1 : Int32)))] [2, 3, 4, 5, 1, 0] rfl ?_
              exact ih _ _ _ _ _ _ h
            · have h := it_f c h
              refine j_iconst C dL_isEntry_108 (1 : Int32) (by decide) 109 rfl ?_
              refine j_goto C dL_isEntry_109 113 (by decide) ?_
              refine j_istore C dL_isEntry_113 (by decide) [(4, .int (1 : Int32)), (0, .ref (gA G 81)), (1, .int v1), (2, .int v2), (3, .int v3), (5, .int v5), (6, .int v6)] rfl 115 rfl ?_
              refine j_iinc C dL_isEntry_115 5 rfl (v5 + (1 : Int32)) rfl (by decide) [(5, .int (v5 + (1 : Int32))), (4, .int (1 : Int32)), (0, .ref (gA G 81)), (1, .int v1), (2, .int v2), (3, .int v3), (6, .int v6)] rfl 118 rfl ?_
              refine j_goto C dL_isEntry_118 6 (by decide) ?_
              refine j_sub [(0, .ref (gA G 81)), (1, .int v1), (2, .int v2), (3, .int v3), (4, .int (1 : Int32)), (5, .int (v5 + (1 : Int32)))] [2, 3, 4, 5, 1, 0] rfl ?_
              exact ih _ _ _ _ _ _ h
def L_isEntry (σ : Mem) (p1 : Int32) (p2 : Int32) (p3 : Int32) : Option (Mem × Int32) :=
  L_isEntry_6 (fun (σ : Mem) (v4 : Int32) => (if v4 &&& 1 = v4 then some (σ, v4) else none)) FU σ p1 p2 p3 (0 : Int32) (0 : Int32)
set_option maxHeartbeats 4000000 in
set_option maxRecDepth 100000 in
theorem ct_L_isEntry (l : Launch) (G : Gw)  {σ : Mem} {p1 : Int32} {p2 : Int32} {p3 : Int32} {out : Mem × Int32} (h : L_isEntry σ p1 p2 p3 = some out) : Ct l G yL_isEntry cL_isEntry 8 (some .boolean) { frames := 7, cells := 0, slots := 0, locals := 139 } [.ref (gA G 81), .int p1, .int p2, .int p3] σ out.1 (some (.int out.2)) := by
  refine Ct.of (by decide +kernel) (Nat.le_of_ble_eq_true rfl) (fun E hE C F => ?_)
  subst hE
  have C : Cx E G RL cL_isEntry 8 { frames := 7, cells := 0, slots := 0, locals := 139 } := C
  unfold L_isEntry at h
  show J E G 8 0 0 σ 0 [(0, .ref (gA G 81)), (1, .int p1), (2, .int p2), (3, .int p3)] []
  refine j_iconst C dL_isEntry_0 (0 : Int32) (by decide) 1 rfl ?_
  refine j_istore C dL_isEntry_1 (by decide) [(4, .int (0 : Int32)), (0, .ref (gA G 81)), (1, .int p1), (2, .int p2), (3, .int p3)] rfl 3 rfl ?_
  refine j_iconst C dL_isEntry_3 (0 : Int32) (by decide) 4 rfl ?_
  refine j_istore C dL_isEntry_4 (by decide) [(5, .int (0 : Int32)), (4, .int (0 : Int32)), (0, .ref (gA G 81)), (1, .int p1), (2, .int p2), (3, .int p3)] rfl 6 rfl ?_
  refine j_sub [(0, .ref (gA G 81)), (1, .int p1), (2, .int p2), (3, .int p3), (4, .int (0 : Int32)), (5, .int (0 : Int32))] [2, 3, 4, 5, 1, 0] rfl ?_
  refine w_L_isEntry_6 C F  (fun σ v4 h => ?_) FU _ _ _ _ _ _ h
  refine j_iload C dL_isEntry_121 0 rfl 123 rfl ?_
  obtain ⟨hb, h⟩ := if_some h
  exact j_zret C F dL_isEntry_123 hb h

-- ===== StenoChordsLaw.isOn(LStenoChords;II)Z
theorem vk_L_isOn : SK yL_isOn cL_isOn 6 (some .boolean) 3 := ⟨kw3_47, kw3_46, kw1_0, by decide +kernel⟩
def L_isOn_28 (K : Mem → Int32 → Option (Mem × Int32)) : Nat → Mem → Int32 → Int32 → Int32 → Int32 → Int32 → Option (Mem × Int32)
  | 0, _, _, _, _, _, _ => none
  | fu + 1, σ, v1, v2, v3, v4, v5 => (if v3 ≤ v5 then K σ v4 else (if v4 = 0 then K σ v4 else ((xlv (X6_stroke σ (v2 + v5))).bind fun q5 => ((xlv (X6_entry q5.1 v1 ((2 : Int32) + v5))).bind fun q7 => (if q5.2 = q7.2 then L_isOn_28 K fu q7.1 v1 v2 v3 (1 : Int32) (v5 + (1 : Int32)) else L_isOn_28 K fu q7.1 v1 v2 v3 (0 : Int32) (v5 + (1 : Int32)))))))
set_option maxHeartbeats 4000000 in
set_option maxRecDepth 100000 in
theorem w_L_isOn_28 {E : Ev} {G : Gw} (C : Cx E G RL cL_isOn 6 { frames := 7, cells := 0, slots := 0, locals := 139 }) {out : Mem × Int32} (F : Ef E G out.1 (some (.int out.2)) (some .boolean) 0 0)  {K : Mem → Int32 → Option (Mem × Int32)} (hK : ∀ (σ : Mem) (v4 : Int32), K σ v4 = some out → J E G 6 0 0 σ 72 [(4, .int v4)] []) : ∀ (fu : Nat) (σ : Mem) (v1 : Int32) (v2 : Int32) (v3 : Int32) (v4 : Int32) (v5 : Int32), L_isOn_28 K fu σ v1 v2 v3 v4 v5 = some out → J E G 6 0 0 σ 28 [(0, .ref (gA G 81)), (1, .int v1), (2, .int v2), (3, .int v3), (4, .int v4), (5, .int v5)] [] := by
  intro fu
  induction fu with
  | zero => intro σ v1 v2 v3 v4 v5 h; rw [L_isOn_28] at h; cases h
  | succ fu ih =>
    intro σ v1 v2 v3 v4 v5 h
    rw [L_isOn_28] at h
    refine j_iload C dL_isOn_28 5 rfl 30 rfl ?_
    refine j_iload_n C dL_isOn_30 rfl 3 rfl 31 rfl ?_
    refine j_icmp_ge C dL_isOn_31 72 (by decide) 34 rfl (fun c => ?_) (fun c => ?_)
    · have h := it_t c h
      refine j_sub [(4, .int v4)] [4] rfl ?_
      exact hK _ _ h
    · have h := it_f c h
      refine j_iload C dL_isOn_34 4 rfl 36 rfl ?_
      refine j_if_eq C dL_isOn_36 72 (by decide) 39 rfl (fun c => ?_) (fun c => ?_)
      · have h := it_t c h
        refine j_sub [(4, .int v4)] [4] rfl ?_
        exact hK _ _ h
      · have h := it_f c h
        refine j_aload_n C dL_isOn_39 rfl 0 rfl 40 rfl ?_
        refine j_iload_n C dL_isOn_40 rfl 2 rfl 41 rfl ?_
        refine j_iload C dL_isOn_41 5 rfl 43 rfl ?_
        refine j_iadd C dL_isOn_43 44 rfl ?_
        obtain ⟨q5, e6, h⟩ := ob_some h
        refine j_callV C (ct_X6_stroke (eL E) G  (xlv_some e6)) sh81 foX6 rfl vk_X6_stroke kw2_189 rfl ⟨Nat.le_of_ble_eq_true rfl, Nat.le_of_ble_eq_true rfl, rfl, rfl⟩ ⟨Nat.zero_le _, Nat.zero_le _⟩ (rest := []) rfl (Nat.le_of_ble_eq_true rfl) dL_isOn_44 (st1 := [.int q5.2]) rfl 47 rfl ?_
        refine j_aload_n C dL_isOn_47 rfl 0 rfl 48 rfl ?_
        refine j_iload_n C dL_isOn_48 rfl 1 rfl 49 rfl ?_
        refine j_iconst C dL_isOn_49 (2 : Int32) (by decide) 50 rfl ?_
        refine j_iload C dL_isOn_50 5 rfl 52 rfl ?_
        refine j_iadd C dL_isOn_52 53 rfl ?_
        obtain ⟨q7, e8, h⟩ := ob_some h
        refine j_callV C (ct_X6_entry (eL E) G  (xlv_some e8)) sh81 foX6 rfl vk_X6_entry kw2_210 rfl ⟨Nat.le_of_ble_eq_true rfl, Nat.le_of_ble_eq_true rfl, rfl, rfl⟩ ⟨Nat.zero_le _, Nat.zero_le _⟩ (rest := [.int q5.2]) rfl (Nat.le_of_ble_eq_true rfl) dL_isOn_53 (st1 := [.int q7.2, .int q5.2]) rfl 56 rfl ?_
        refine j_icmp_ne C dL_isOn_56 63 (by decide) 59 rfl (fun c => ?_) (fun c => ?_)
        · have h := it_f c h
          refine j_iconst C dL_isOn_63 (0 : Int32) (by decide) 64 rfl ?_
          refine j_istore C dL_isOn_64 (by decide) [(4, .int (0 : Int32)), (0, .ref (gA G 81)), (1, .int v1), (2, .int v2), (3, .int v3), (5, .int v5)] rfl 66 rfl ?_
          refine j_iinc C dL_isOn_66 5 rfl (v5 + (1 : Int32)) rfl (by decide) [(5, .int (v5 + (1 : Int32))), (4, .int (0 : Int32)), (0, .ref (gA G 81)), (1, .int v1), (2, .int v2), (3, .int v3)] rfl 69 rfl ?_
          refine j_goto C dL_isOn_69 28 (by decide) ?_
          refine j_sub [(0, .ref (gA G 81)), (1, .int v1), (2, .int v2), (3, .int v3), (4, .int (0 : Int32)), (5, .int (v5 + (1 : Int32)))] [2, 3, 4, 5, 1, 0] rfl ?_
          exact ih _ _ _ _ _ _ h
        · have h := it_t c h
          refine j_iconst C dL_isOn_59 (1 : Int32) (by decide) 60 rfl ?_
          refine j_goto C dL_isOn_60 64 (by decide) ?_
          refine j_istore C dL_isOn_64 (by decide) [(4, .int (1 : Int32)), (0, .ref (gA G 81)), (1, .int v1), (2, .int v2), (3, .int v3), (5, .int v5)] rfl 66 rfl ?_
          refine j_iinc C dL_isOn_66 5 rfl (v5 + (1 : Int32)) rfl (by decide) [(5, .int (v5 + (1 : Int32))), (4, .int (1 : Int32)), (0, .ref (gA G 81)), (1, .int v1), (2, .int v2), (3, .int v3)] rfl 69 rfl ?_
          refine j_goto C dL_isOn_69 28 (by decide) ?_
          refine j_sub [(0, .ref (gA G 81)), (1, .int v1), (2, .int v2), (3, .int v3), (4, .int (1 : Int32)), (5, .int (v5 + (1 : Int32)))] [2, 3, 4, 5, 1, 0] rfl ?_
          exact ih _ _ _ _ _ _ h
def L_isOn (σ : Mem) (p1 : Int32) (p2 : Int32) : Option (Mem × Int32) :=
  ((xlv (X6_entry σ p1 (1 : Int32))).bind fun q1 => ((xlv (X6_count q1.1 (0 : Int32))).bind fun q3 => (if q3.2 < (p2 + q1.2) then L_isOn_28 (fun (σ : Mem) (v4 : Int32) => (if v4 &&& 1 = v4 then some (σ, v4) else none)) FU q3.1 p1 p2 q1.2 (0 : Int32) (0 : Int32) else L_isOn_28 (fun (σ : Mem) (v4 : Int32) => (if v4 &&& 1 = v4 then some (σ, v4) else none)) FU q3.1 p1 p2 q1.2 (1 : Int32) (0 : Int32))))
set_option maxHeartbeats 4000000 in
set_option maxRecDepth 100000 in
theorem ct_L_isOn (l : Launch) (G : Gw)  {σ : Mem} {p1 : Int32} {p2 : Int32} {out : Mem × Int32} (h : L_isOn σ p1 p2 = some out) : Ct l G yL_isOn cL_isOn 6 (some .boolean) { frames := 7, cells := 0, slots := 0, locals := 139 } [.ref (gA G 81), .int p1, .int p2] σ out.1 (some (.int out.2)) := by
  refine Ct.of (by decide +kernel) (Nat.le_of_ble_eq_true rfl) (fun E hE C F => ?_)
  subst hE
  have C : Cx E G RL cL_isOn 6 { frames := 7, cells := 0, slots := 0, locals := 139 } := C
  unfold L_isOn at h
  show J E G 6 0 0 σ 0 [(0, .ref (gA G 81)), (1, .int p1), (2, .int p2)] []
  refine j_aload_n C dL_isOn_0 rfl 0 rfl 1 rfl ?_
  refine j_iload_n C dL_isOn_1 rfl 1 rfl 2 rfl ?_
  refine j_iconst C dL_isOn_2 (1 : Int32) (by decide) 3 rfl ?_
  obtain ⟨q1, e2, h⟩ := ob_some h
  refine j_callV C (ct_X6_entry (eL E) G  (xlv_some e2)) sh81 foX6 rfl vk_X6_entry kw2_210 rfl ⟨Nat.le_of_ble_eq_true rfl, Nat.le_of_ble_eq_true rfl, rfl, rfl⟩ ⟨Nat.zero_le _, Nat.zero_le _⟩ (rest := []) rfl (Nat.le_of_ble_eq_true rfl) dL_isOn_3 (st1 := [.int q1.2]) rfl 6 rfl ?_
  refine j_istore_n C dL_isOn_6 rfl (by decide) [(3, .int q1.2), (0, .ref (gA G 81)), (1, .int p1), (2, .int p2)] rfl 7 rfl ?_
  refine j_iload_n C dL_isOn_7 rfl 3 rfl 8 rfl ?_
  refine j_iload_n C dL_isOn_8 rfl 0 rfl 9 rfl ?_
  refine j_iadd C dL_isOn_9 10 rfl ?_
  refine j_aload_n C dL_isOn_10 rfl 1 rfl 11 rfl ?_
  refine j_iconst C dL_isOn_11 (0 : Int32) (by decide) 12 rfl ?_
  obtain ⟨q3, e4, h⟩ := ob_some h
  refine j_callV C (ct_X6_count (eL E) G  (xlv_some e4)) sh81 foX6 rfl vk_X6_count kw2_90 rfl ⟨Nat.le_of_ble_eq_true rfl, Nat.le_of_ble_eq_true rfl, rfl, rfl⟩ ⟨Nat.zero_le _, Nat.zero_le _⟩ (rest := [.int (p2 + q1.2)]) rfl (Nat.le_of_ble_eq_true rfl) dL_isOn_12 (st1 := [.int q3.2, .int (p2 + q1.2)]) rfl 15 rfl ?_
  refine j_icmp_gt C dL_isOn_15 22 (by decide) 18 rfl (fun c => ?_) (fun c => ?_)
  · have h := it_t c h
    refine j_iconst C dL_isOn_22 (0 : Int32) (by decide) 23 rfl ?_
    refine j_istore C dL_isOn_23 (by decide) [(4, .int (0 : Int32)), (3, .int q1.2), (0, .ref (gA G 81)), (1, .int p1), (2, .int p2)] rfl 25 rfl ?_
    refine j_iconst C dL_isOn_25 (0 : Int32) (by decide) 26 rfl ?_
    refine j_istore C dL_isOn_26 (by decide) [(5, .int (0 : Int32)), (4, .int (0 : Int32)), (3, .int q1.2), (0, .ref (gA G 81)), (1, .int p1), (2, .int p2)] rfl 28 rfl ?_
    refine j_sub [(0, .ref (gA G 81)), (1, .int p1), (2, .int p2), (3, .int q1.2), (4, .int (0 : Int32)), (5, .int (0 : Int32))] [3, 4, 5, 2, 1, 0] rfl ?_
    refine w_L_isOn_28 C F  (fun σ v4 h => ?_) FU _ _ _ _ _ _ h
    refine j_iload C dL_isOn_72 0 rfl 74 rfl ?_
    obtain ⟨hb, h⟩ := if_some h
    exact j_zret C F dL_isOn_74 hb h
  · have h := it_f c h
    refine j_iconst C dL_isOn_18 (1 : Int32) (by decide) 19 rfl ?_
    refine j_goto C dL_isOn_19 23 (by decide) ?_
    refine j_istore C dL_isOn_23 (by decide) [(4, .int (1 : Int32)), (3, .int q1.2), (0, .ref (gA G 81)), (1, .int p1), (2, .int p2)] rfl 25 rfl ?_
    refine j_iconst C dL_isOn_25 (0 : Int32) (by decide) 26 rfl ?_
    refine j_istore C dL_isOn_26 (by decide) [(5, .int (0 : Int32)), (4, .int (1 : Int32)), (3, .int q1.2), (0, .ref (gA G 81)), (1, .int p1), (2, .int p2)] rfl 28 rfl ?_
    refine j_sub [(0, .ref (gA G 81)), (1, .int p1), (2, .int p2), (3, .int q1.2), (4, .int (1 : Int32)), (5, .int (0 : Int32))] [3, 4, 5, 2, 1, 0] rfl ?_
    refine w_L_isOn_28 C F  (fun σ v4 h => ?_) FU _ _ _ _ _ _ h
    refine j_iload C dL_isOn_72 0 rfl 74 rfl ?_
    obtain ⟨hb, h⟩ := if_some h
    exact j_zret C F dL_isOn_74 hb h

-- ===== StenoChordsLaw.isRead(LStenoChords;)Z
theorem vk_L_isRead : SK yL_isRead cL_isRead 10 (some .boolean) 1 := ⟨kw3_8, kw3_7, kw1_0, by decide +kernel⟩
def L_isRead_238 (K : Mem → Int32 → Int32 → Int32 → Int32 → Int32 → Int32 → Int32 → Option (Mem × Int32)) : Nat → Mem → Int32 → Int32 → Int32 → Int32 → Int32 → Int32 → Int32 → Int32 → Option (Mem × Int32)
  | 0, _, _, _, _, _, _, _, _, _ => none
  | fu + 1, σ, v1, v2, v3, v4, v5, v6, v8, v9 => ((xlv (X6_count σ (4 : Int32))).bind fun q11 => (if q11.2 ≤ v9 then K q11.1 v1 v2 v3 v4 v5 v6 v8 else (if v4 = 0 then K q11.1 v1 v2 v3 v4 v5 v6 v8 else ((xlv (X6_entry q11.1 v9 (1 : Int32))).bind fun q13 => ((xlv (X6_setting q13.1 (1 : Int32))).bind fun q15 => (if q15.2 < q13.2 then L_isRead_238 K fu q15.1 v1 v2 v3 (1 : Int32) v5 v6 v8 (v9 + (1 : Int32)) else ((xlv (X6_entry q15.1 v9 (1 : Int32))).bind fun q17 => (if v8 = 0 then (if q17.2 ≤ v6 then L_isRead_238 K fu q17.1 v1 v2 v3 (1 : Int32) v5 v6 v8 (v9 + (1 : Int32)) else ((L_isOn q17.1 v9 v1).bind fun q19 => (if q19.2 = 0 then L_isRead_238 K fu q19.1 v1 v2 v3 (1 : Int32) v5 v6 v8 (v9 + (1 : Int32)) else L_isRead_238 K fu q19.1 v1 v2 v3 (0 : Int32) v5 v6 v8 (v9 + (1 : Int32))))) else (if q17.2 ≤ (0 : Int32) then L_isRead_238 K fu q17.1 v1 v2 v3 (1 : Int32) v5 v6 v8 (v9 + (1 : Int32)) else ((L_isOn q17.1 v9 v1).bind fun q21 => (if q21.2 = 0 then L_isRead_238 K fu q21.1 v1 v2 v3 (1 : Int32) v5 v6 v8 (v9 + (1 : Int32)) else L_isRead_238 K fu q21.1 v1 v2 v3 (0 : Int32) v5 v6 v8 (v9 + (1 : Int32)))))))))))))
set_option maxHeartbeats 4000000 in
set_option maxRecDepth 100000 in
theorem w_L_isRead_238 {E : Ev} {G : Gw} (C : Cx E G RL cL_isRead 10 { frames := 8, cells := 0, slots := 0, locals := 164 }) {out : Mem × Int32} (F : Ef E G out.1 (some (.int out.2)) (some .boolean) 0 0)  {K : Mem → Int32 → Int32 → Int32 → Int32 → Int32 → Int32 → Int32 → Option (Mem × Int32)} (hK : ∀ (σ : Mem) (v1 : Int32) (v2 : Int32) (v3 : Int32) (v4 : Int32) (v5 : Int32) (v6 : Int32) (v8 : Int32), K σ v1 v2 v3 v4 v5 v6 v8 = some out → J E G 10 0 0 σ 312 [(0, .ref (gA G 81)), (1, .int v1), (2, .int v2), (3, .int v3), (4, .int v4), (5, .int v5), (6, .int v6), (8, .int v8)] []) : ∀ (fu : Nat) (σ : Mem) (v1 : Int32) (v2 : Int32) (v3 : Int32) (v4 : Int32) (v5 : Int32) (v6 : Int32) (v8 : Int32) (v9 : Int32), L_isRead_238 K fu σ v1 v2 v3 v4 v5 v6 v8 v9 = some out → J E G 10 0 0 σ 238 [(0, .ref (gA G 81)), (1, .int v1), (2, .int v2), (3, .int v3), (4, .int v4), (5, .int v5), (6, .int v6), (8, .int v8), (9, .int v9)] [] := by
  intro fu
  induction fu with
  | zero => intro σ v1 v2 v3 v4 v5 v6 v8 v9 h; rw [L_isRead_238] at h; cases h
  | succ fu ih =>
    intro σ v1 v2 v3 v4 v5 v6 v8 v9 h
    rw [L_isRead_238] at h
    refine j_iload C dL_isRead_238 8 rfl 240 rfl ?_
    refine j_aload_n C dL_isRead_240 rfl 0 rfl 241 rfl ?_
    refine j_iconst C dL_isRead_241 (4 : Int32) (by decide) 242 rfl ?_
    obtain ⟨q11, e12, h⟩ := ob_some h
    refine j_callV C (ct_X6_count (eL E) G  (xlv_some e12)) sh81 foX6 rfl vk_X6_count kw2_90 rfl ⟨Nat.le_of_ble_eq_true rfl, Nat.le_of_ble_eq_true rfl, rfl, rfl⟩ ⟨Nat.zero_le _, Nat.zero_le _⟩ (rest := [.int v9]) rfl (Nat.le_of_ble_eq_true rfl) dL_isRead_242 (st1 := [.int q11.2, .int v9]) rfl 245 rfl ?_
    refine j_icmp_ge C dL_isRead_245 312 (by decide) 248 rfl (fun c => ?_) (fun c => ?_)
    · have h := it_t c h
      refine j_sub [(0, .ref (gA G 81)), (1, .int v1), (2, .int v2), (3, .int v3), (4, .int v4), (5, .int v5), (6, .int v6), (8, .int v8)] [0, 1, 2, 3, 4, 5, 6, 7] rfl ?_
      exact hK _ _ _ _ _ _ _ _ h
    · have h := it_f c h
      refine j_iload C dL_isRead_248 4 rfl 250 rfl ?_
      refine j_if_eq C dL_isRead_250 312 (by decide) 253 rfl (fun c => ?_) (fun c => ?_)
      · have h := it_t c h
        refine j_sub [(0, .ref (gA G 81)), (1, .int v1), (2, .int v2), (3, .int v3), (4, .int v4), (5, .int v5), (6, .int v6), (8, .int v8)] [0, 1, 2, 3, 4, 5, 6, 7] rfl ?_
        exact hK _ _ _ _ _ _ _ _ h
      · have h := it_f c h
        refine j_aload_n C dL_isRead_253 rfl 0 rfl 254 rfl ?_
        refine j_iload C dL_isRead_254 8 rfl 256 rfl ?_
        refine j_iconst C dL_isRead_256 (1 : Int32) (by decide) 257 rfl ?_
        obtain ⟨q13, e14, h⟩ := ob_some h
        refine j_callV C (ct_X6_entry (eL E) G  (xlv_some e14)) sh81 foX6 rfl vk_X6_entry kw2_210 rfl ⟨Nat.le_of_ble_eq_true rfl, Nat.le_of_ble_eq_true rfl, rfl, rfl⟩ ⟨Nat.zero_le _, Nat.zero_le _⟩ (rest := []) rfl (Nat.le_of_ble_eq_true rfl) dL_isRead_257 (st1 := [.int q13.2]) rfl 260 rfl ?_
        refine j_aload_n C dL_isRead_260 rfl 0 rfl 261 rfl ?_
        refine j_iconst C dL_isRead_261 (1 : Int32) (by decide) 262 rfl ?_
        obtain ⟨q15, e16, h⟩ := ob_some h
        refine j_callV C (ct_X6_setting (eL E) G  (xlv_some e16)) sh81 foX6 rfl vk_X6_setting kw2_237 rfl ⟨Nat.le_of_ble_eq_true rfl, Nat.le_of_ble_eq_true rfl, rfl, rfl⟩ ⟨Nat.zero_le _, Nat.zero_le _⟩ (rest := [.int q13.2]) rfl (Nat.le_of_ble_eq_true rfl) dL_isRead_262 (st1 := [.int q15.2, .int q13.2]) rfl 265 rfl ?_
        refine j_icmp_gt C dL_isRead_265 299 (by decide) 268 rfl (fun c => ?_) (fun c => ?_)
        · have h := it_t c h
          refine j_iconst C dL_isRead_299 (1 : Int32) (by decide) 300 rfl ?_
          refine j_goto C dL_isRead_300 304 (by decide) ?_
          refine j_istore C dL_isRead_304 (by decide) [(4, .int (1 : Int32)), (0, .ref (gA G 81)), (1, .int v1), (2, .int v2), (3, .int v3), (5, .int v5), (6, .int v6), (8, .int v8), (9, .int v9)] rfl 306 rfl ?_
          refine j_iinc C dL_isRead_306 8 rfl (v9 + (1 : Int32)) rfl (by decide) [(9, .int (v9 + (1 : Int32))), (4, .int (1 : Int32)), (0, .ref (gA G 81)), (1, .int v1), (2, .int v2), (3, .int v3), (5, .int v5), (6, .int v6), (8, .int v8)] rfl 309 rfl ?_
          refine j_goto C dL_isRead_309 238 (by decide) ?_
          refine j_sub [(0, .ref (gA G 81)), (1, .int v1), (2, .int v2), (3, .int v3), (4, .int (1 : Int32)), (5, .int v5), (6, .int v6), (8, .int v8), (9, .int (v9 + (1 : Int32)))] [2, 3, 4, 5, 1, 6, 7, 8, 0] rfl ?_
          exact ih _ _ _ _ _ _ _ _ _ h
        · have h := it_f c h
          refine j_aload_n C dL_isRead_268 rfl 0 rfl 269 rfl ?_
          refine j_iload C dL_isRead_269 8 rfl 271 rfl ?_
          refine j_iconst C dL_isRead_271 (1 : Int32) (by decide) 272 rfl ?_
          obtain ⟨q17, e18, h⟩ := ob_some h
          refine j_callV C (ct_X6_entry (eL E) G  (xlv_some e18)) sh81 foX6 rfl vk_X6_entry kw2_210 rfl ⟨Nat.le_of_ble_eq_true rfl, Nat.le_of_ble_eq_true rfl, rfl, rfl⟩ ⟨Nat.zero_le _, Nat.zero_le _⟩ (rest := []) rfl (Nat.le_of_ble_eq_true rfl) dL_isRead_272 (st1 := [.int q17.2]) rfl 275 rfl ?_
          refine j_iload C dL_isRead_275 7 rfl 277 rfl ?_
          refine j_if_eq C dL_isRead_277 284 (by decide) 280 rfl (fun c => ?_) (fun c => ?_)
          · have h := it_t c h
            refine j_iload C dL_isRead_284 6 rfl 286 rfl ?_
            refine j_icmp_le C dL_isRead_286 299 (by decide) 289 rfl (fun c => ?_) (fun c => ?_)
            · have h := it_t c h
              refine j_iconst C dL_isRead_299 (1 : Int32) (by decide) 300 rfl ?_
              refine j_goto C dL_isRead_300 304 (by decide) ?_
              refine j_istore C dL_isRead_304 (by decide) [(4, .int (1 : Int32)), (0, .ref (gA G 81)), (1, .int v1), (2, .int v2), (3, .int v3), (5, .int v5), (6, .int v6), (8, .int v8), (9, .int v9)] rfl 306 rfl ?_
              refine j_iinc C dL_isRead_306 8 rfl (v9 + (1 : Int32)) rfl (by decide) [(9, .int (v9 + (1 : Int32))), (4, .int (1 : Int32)), (0, .ref (gA G 81)), (1, .int v1), (2, .int v2), (3, .int v3), (5, .int v5), (6, .int v6), (8, .int v8)] rfl 309 rfl ?_
              refine j_goto C dL_isRead_309 238 (by decide) ?_
              refine j_sub [(0, .ref (gA G 81)), (1, .int v1), (2, .int v2), (3, .int v3), (4, .int (1 : Int32)), (5, .int v5), (6, .int v6), (8, .int v8), (9, .int (v9 + (1 : Int32)))] [2, 3, 4, 5, 1, 6, 7, 8, 0] rfl ?_
              exact ih _ _ _ _ _ _ _ _ _ h
            · have h := it_f c h
              refine j_aload_n C dL_isRead_289 rfl 0 rfl 290 rfl ?_
              refine j_iload C dL_isRead_290 8 rfl 292 rfl ?_
              refine j_iload_n C dL_isRead_292 rfl 1 rfl 293 rfl ?_
              obtain ⟨q19, e20, h⟩ := ob_some h
              refine j_callS C (ct_L_isOn (eL E) G  e20) vk_L_isOn kw3_45 rfl ⟨Nat.le_of_ble_eq_true rfl, Nat.le_of_ble_eq_true rfl, rfl, rfl⟩ ⟨Nat.zero_le _, Nat.zero_le _⟩ (rest := []) rfl (Nat.le_of_ble_eq_true rfl) dL_isRead_293 (st1 := [.int q19.2]) rfl 296 rfl ?_
              refine j_if_ne C dL_isRead_296 303 (by decide) 299 rfl (fun c => ?_) (fun c => ?_)
              · have h := it_f c h
                refine j_iconst C dL_isRead_303 (0 : Int32) (by decide) 304 rfl ?_
                refine j_istore C dL_isRead_304 (by decide) [(4, .int (0 : Int32)), (0, .ref (gA G 81)), (1, .int v1), (2, .int v2), (3, .int v3), (5, .int v5), (6, .int v6), (8, .int v8), (9, .int v9)] rfl 306 rfl ?_
                refine j_iinc C dL_isRead_306 8 rfl (v9 + (1 : Int32)) rfl (by decide) [(9, .int (v9 + (1 : Int32))), (4, .int (0 : Int32)), (0, .ref (gA G 81)), (1, .int v1), (2, .int v2), (3, .int v3), (5, .int v5), (6, .int v6), (8, .int v8)] rfl 309 rfl ?_
                refine j_goto C dL_isRead_309 238 (by decide) ?_
                refine j_sub [(0, .ref (gA G 81)), (1, .int v1), (2, .int v2), (3, .int v3), (4, .int (0 : Int32)), (5, .int v5), (6, .int v6), (8, .int v8), (9, .int (v9 + (1 : Int32)))] [2, 3, 4, 5, 1, 6, 7, 8, 0] rfl ?_
                exact ih _ _ _ _ _ _ _ _ _ h
              · have h := it_t c h
                refine j_iconst C dL_isRead_299 (1 : Int32) (by decide) 300 rfl ?_
                refine j_goto C dL_isRead_300 304 (by decide) ?_
                refine j_istore C dL_isRead_304 (by decide) [(4, .int (1 : Int32)), (0, .ref (gA G 81)), (1, .int v1), (2, .int v2), (3, .int v3), (5, .int v5), (6, .int v6), (8, .int v8), (9, .int v9)] rfl 306 rfl ?_
                refine j_iinc C dL_isRead_306 8 rfl (v9 + (1 : Int32)) rfl (by decide) [(9, .int (v9 + (1 : Int32))), (4, .int (1 : Int32)), (0, .ref (gA G 81)), (1, .int v1), (2, .int v2), (3, .int v3), (5, .int v5), (6, .int v6), (8, .int v8)] rfl 309 rfl ?_
                refine j_goto C dL_isRead_309 238 (by decide) ?_
                refine j_sub [(0, .ref (gA G 81)), (1, .int v1), (2, .int v2), (3, .int v3), (4, .int (1 : Int32)), (5, .int v5), (6, .int v6), (8, .int v8), (9, .int (v9 + (1 : Int32)))] [2, 3, 4, 5, 1, 6, 7, 8, 0] rfl ?_
                exact ih _ _ _ _ _ _ _ _ _ h
          · have h := it_f c h
            refine j_iconst C dL_isRead_280 (0 : Int32) (by decide) 281 rfl ?_
            refine j_goto C dL_isRead_281 286 (by decide) ?_
            refine j_icmp_le C dL_isRead_286 299 (by decide) 289 rfl (fun c => ?_) (fun c => ?_)
            · have h := it_t c h
              refine j_iconst C dL_isRead_299 (1 : Int32) (by decide) 300 rfl ?_
              refine j_goto C dL_isRead_300 304 (by decide) ?_
              refine j_istore C dL_isRead_304 (by decide) [(4, .int (1 : Int32)), (0, .ref (gA G 81)), (1, .int v1), (2, .int v2), (3, .int v3), (5, .int v5), (6, .int v6), (8, .int v8), (9, .int v9)] rfl 306 rfl ?_
              refine j_iinc C dL_isRead_306 8 rfl (v9 + (1 : Int32)) rfl (by decide) [(9, .int (v9 + (1 : Int32))), (4, .int (1 : Int32)), (0, .ref (gA G 81)), (1, .int v1), (2, .int v2), (3, .int v3), (5, .int v5), (6, .int v6), (8, .int v8)] rfl 309 rfl ?_
              refine j_goto C dL_isRead_309 238 (by decide) ?_
              refine j_sub [(0, .ref (gA G 81)), (1, .int v1), (2, .int v2), (3, .int v3), (4, .int (1 : Int32)), (5, .int v5), (6, .int v6), (8, .int v8), (9, .int (v9 + (1 : Int32)))] [2, 3, 4, 5, 1, 6, 7, 8, 0] rfl ?_
              exact ih _ _ _ _ _ _ _ _ _ h
            · have h := it_f c h
              refine j_aload_n C dL_isRead_289 rfl 0 rfl 290 rfl ?_
              refine j_iload C dL_isRead_290 8 rfl 292 rfl ?_
              refine j_iload_n C dL_isRead_292 rfl 1 rfl 293 rfl ?_
              obtain ⟨q21, e22, h⟩ := ob_some h
              refine j_callS C (ct_L_isOn (eL E) G  e22) vk_L_isOn kw3_45 rfl ⟨Nat.le_of_ble_eq_true rfl, Nat.le_of_ble_eq_true rfl, rfl, rfl⟩ ⟨Nat.zero_le _, Nat.zero_le _⟩ (rest := []) rfl (Nat.le_of_ble_eq_true rfl) dL_isRead_293 (st1 := [.int q21.2]) rfl 296 rfl ?_
              refine j_if_ne C dL_isRead_296 303 (by decide) 299 rfl (fun c => ?_) (fun c => ?_)
              · have h := it_f c h
                refine j_iconst C dL_isRead_303 (0 : Int32) (by decide) 304 rfl ?_
                refine j_istore C dL_isRead_304 (by decide) [(4, .int (0 : Int32)), (0, .ref (gA G 81)), (1, .int v1), (2, .int v2), (3, .int v3), (5, .int v5), (6, .int v6), (8, .int v8), (9, .int v9)] rfl 306 rfl ?_
                refine j_iinc C dL_isRead_306 8 rfl (v9 + (1 : Int32)) rfl (by decide) [(9, .int (v9 + (1 : Int32))), (4, .int (0 : Int32)), (0, .ref (gA G 81)), (1, .int v1), (2, .int v2), (3, .int v3), (5, .int v5), (6, .int v6), (8, .int v8)] rfl 309 rfl ?_
                refine j_goto C dL_isRead_309 238 (by decide) ?_
                refine j_sub [(0, .ref (gA G 81)), (1, .int v1), (2, .int v2), (3, .int v3), (4, .int (0 : Int32)), (5, .int v5), (6, .int v6), (8, .int v8), (9, .int (v9 + (1 : Int32)))] [2, 3, 4, 5, 1, 6, 7, 8, 0] rfl ?_
                exact ih _ _ _ _ _ _ _ _ _ h
              · have h := it_t c h
                refine j_iconst C dL_isRead_299 (1 : Int32) (by decide) 300 rfl ?_
                refine j_goto C dL_isRead_300 304 (by decide) ?_
                refine j_istore C dL_isRead_304 (by decide) [(4, .int (1 : Int32)), (0, .ref (gA G 81)), (1, .int v1), (2, .int v2), (3, .int v3), (5, .int v5), (6, .int v6), (8, .int v8), (9, .int v9)] rfl 306 rfl ?_
                refine j_iinc C dL_isRead_306 8 rfl (v9 + (1 : Int32)) rfl (by decide) [(9, .int (v9 + (1 : Int32))), (4, .int (1 : Int32)), (0, .ref (gA G 81)), (1, .int v1), (2, .int v2), (3, .int v3), (5, .int v5), (6, .int v6), (8, .int v8)] rfl 309 rfl ?_
                refine j_goto C dL_isRead_309 238 (by decide) ?_
                refine j_sub [(0, .ref (gA G 81)), (1, .int v1), (2, .int v2), (3, .int v3), (4, .int (1 : Int32)), (5, .int v5), (6, .int v6), (8, .int v8), (9, .int (v9 + (1 : Int32)))] [2, 3, 4, 5, 1, 6, 7, 8, 0] rfl ?_
                exact ih _ _ _ _ _ _ _ _ _ h
def L_isRead_165 (K : Mem → Int32 → Int32 → Int32 → Int32 → Option (Mem × Int32)) (rc : Mem → Int32 → Int32 → Int32 → Int32 → Int32 → Option (Mem × Int32)) (σ : Mem) (v1 : Int32) (v2 : Int32) (v3 : Int32) (v5 : Int32) (v6 : Int32) (v7 : Int32) (v8 : Int32) (s0 : Int32) : Option (Mem × Int32) :=
  (if s0 = 0 then L_isRead_238 (fun (σ : Mem) (v1 : Int32) (v2 : Int32) (v3 : Int32) (v4 : Int32) (v5 : Int32) (v6 : Int32) (v8 : Int32) => (if v8 = 0 then rc σ (v1 + v6) (v2 + (0 : Int32)) v3 v4 (v5 + (1 : Int32)) else rc σ (v1 + v6) (v2 + (1 : Int32)) v3 v4 (v5 + (1 : Int32)))) FU σ v1 v2 v3 (0 : Int32) v5 v6 v8 (0 : Int32) else (if v8 = 0 then ((xlv (X6_entry σ v7 (0 : Int32))).bind fun q23 => ((xlv (X6_item q23.1 v5 (0 : Int32))).bind fun q25 => (if q23.2 = q25.2 then ((xlv (X6_entry q25.1 v7 (1 : Int32))).bind fun q27 => (if q27.2 = v6 then ((xlv (X6_entry q27.1 v7 (7 : Int32))).bind fun q29 => (if q29.2 = (1 : Int32) then ((L_isOn q29.1 v7 v1).bind fun q31 => (if q31.2 = 0 then L_isRead_238 (fun (σ : Mem) (v1 : Int32) (v2 : Int32) (v3 : Int32) (v4 : Int32) (v5 : Int32) (v6 : Int32) (v8 : Int32) => (if v8 = 0 then rc σ (v1 + v6) (v2 + (0 : Int32)) v3 v4 (v5 + (1 : Int32)) else rc σ (v1 + v6) (v2 + (1 : Int32)) v3 v4 (v5 + (1 : Int32)))) FU q31.1 v1 v2 v3 (0 : Int32) v5 v6 v8 (0 : Int32) else L_isRead_238 (fun (σ : Mem) (v1 : Int32) (v2 : Int32) (v3 : Int32) (v4 : Int32) (v5 : Int32) (v6 : Int32) (v8 : Int32) => (if v8 = 0 then rc σ (v1 + v6) (v2 + (0 : Int32)) v3 v4 (v5 + (1 : Int32)) else rc σ (v1 + v6) (v2 + (1 : Int32)) v3 v4 (v5 + (1 : Int32)))) FU q31.1 v1 v2 v3 (1 : Int32) v5 v6 v8 (0 : Int32))) else L_isRead_238 (fun (σ : Mem) (v1 : Int32) (v2 : Int32) (v3 : Int32) (v4 : Int32) (v5 : Int32) (v6 : Int32) (v8 : Int32) => (if v8 = 0 then rc σ (v1 + v6) (v2 + (0 : Int32)) v3 v4 (v5 + (1 : Int32)) else rc σ (v1 + v6) (v2 + (1 : Int32)) v3 v4 (v5 + (1 : Int32)))) FU q29.1 v1 v2 v3 (0 : Int32) v5 v6 v8 (0 : Int32))) else L_isRead_238 (fun (σ : Mem) (v1 : Int32) (v2 : Int32) (v3 : Int32) (v4 : Int32) (v5 : Int32) (v6 : Int32) (v8 : Int32) => (if v8 = 0 then rc σ (v1 + v6) (v2 + (0 : Int32)) v3 v4 (v5 + (1 : Int32)) else rc σ (v1 + v6) (v2 + (1 : Int32)) v3 v4 (v5 + (1 : Int32)))) FU q27.1 v1 v2 v3 (0 : Int32) v5 v6 v8 (0 : Int32))) else L_isRead_238 (fun (σ : Mem) (v1 : Int32) (v2 : Int32) (v3 : Int32) (v4 : Int32) (v5 : Int32) (v6 : Int32) (v8 : Int32) => (if v8 = 0 then rc σ (v1 + v6) (v2 + (0 : Int32)) v3 v4 (v5 + (1 : Int32)) else rc σ (v1 + v6) (v2 + (1 : Int32)) v3 v4 (v5 + (1 : Int32)))) FU q25.1 v1 v2 v3 (0 : Int32) v5 v6 v8 (0 : Int32)))) else L_isRead_238 (fun (σ : Mem) (v1 : Int32) (v2 : Int32) (v3 : Int32) (v4 : Int32) (v5 : Int32) (v6 : Int32) (v8 : Int32) => (if v8 = 0 then rc σ (v1 + v6) (v2 + (0 : Int32)) v3 v4 (v5 + (1 : Int32)) else rc σ (v1 + v6) (v2 + (1 : Int32)) v3 v4 (v5 + (1 : Int32)))) FU σ v1 v2 v3 (1 : Int32) v5 v6 v8 (0 : Int32)))
set_option maxHeartbeats 4000000 in
set_option maxRecDepth 100000 in
theorem w_L_isRead_165 {E : Ev} {G : Gw} (C : Cx E G RL cL_isRead 10 { frames := 8, cells := 0, slots := 0, locals := 164 }) {out : Mem × Int32} (F : Ef E G out.1 (some (.int out.2)) (some .boolean) 0 0)  {K : Mem → Int32 → Int32 → Int32 → Int32 → Option (Mem × Int32)} (hK : ∀ (σ : Mem) (v1 : Int32) (v2 : Int32) (v3 : Int32) (v4 : Int32), K σ v1 v2 v3 v4 = some out → J E G 10 0 0 σ 336 [(0, .ref (gA G 81)), (1, .int v1), (2, .int v2), (3, .int v3), (4, .int v4)] []) {rc : Mem → Int32 → Int32 → Int32 → Int32 → Int32 → Option (Mem × Int32)} (hrc : ∀ (σ : Mem) (v1 : Int32) (v2 : Int32) (v3 : Int32) (v4 : Int32) (v5 : Int32), rc σ v1 v2 v3 v4 v5 = some out → J E G 10 0 0 σ 39 [(0, .ref (gA G 81)), (1, .int v1), (2, .int v2), (3, .int v3), (4, .int v4), (5, .int v5)] []) (σ : Mem) (v1 : Int32) (v2 : Int32) (v3 : Int32) (v5 : Int32) (v6 : Int32) (v7 : Int32) (v8 : Int32) (s0 : Int32) (h : L_isRead_165 K rc σ v1 v2 v3 v5 v6 v7 v8 s0 = some out) : J E G 10 0 0 σ 165 [(0, .ref (gA G 81)), (1, .int v1), (2, .int v2), (3, .int v3), (5, .int v5), (6, .int v6), (7, .int v7), (8, .int v8)] [.int s0] := by
  unfold L_isRead_165 at h
  refine j_istore C dL_isRead_165 (by decide) [(4, .int s0), (0, .ref (gA G 81)), (1, .int v1), (2, .int v2), (3, .int v3), (5, .int v5), (6, .int v6), (7, .int v7), (8, .int v8)] rfl 167 rfl ?_
  refine j_iload C dL_isRead_167 0 rfl 169 rfl ?_
  refine j_if_eq C dL_isRead_169 232 (by decide) 172 rfl (fun c => ?_) (fun c => ?_)
  · have h := it_t c h
    refine j_iconst C dL_isRead_232 (0 : Int32) (by decide) 233 rfl ?_
    refine j_istore C dL_isRead_233 (by decide) [(4, .int (0 : Int32)), (0, .ref (gA G 81)), (1, .int v1), (2, .int v2), (3, .int v3), (5, .int v5), (6, .int v6), (7, .int v7), (8, .int v8)] rfl 235 rfl ?_
    refine j_iconst C dL_isRead_235 (0 : Int32) (by decide) 236 rfl ?_
    refine j_istore C dL_isRead_236 (by decide) [(9, .int (0 : Int32)), (4, .int (0 : Int32)), (0, .ref (gA G 81)), (1, .int v1), (2, .int v2), (3, .int v3), (5, .int v5), (6, .int v6), (7, .int v7), (8, .int v8)] rfl 238 rfl ?_
    refine j_sub [(0, .ref (gA G 81)), (1, .int v1), (2, .int v2), (3, .int v3), (4, .int (0 : Int32)), (5, .int v5), (6, .int v6), (8, .int v8), (9, .int (0 : Int32))] [2, 3, 4, 5, 1, 6, 7, 9, 0] rfl ?_
    refine w_L_isRead_238 C F  (fun σ v1 v2 v3 v4 v5 v6 v8 h => ?_) FU _ _ _ _ _ _ _ _ _ h
    refine j_iload_n C dL_isRead_312 rfl 2 rfl 313 rfl ?_
    refine j_iload C dL_isRead_313 7 rfl 315 rfl ?_
    refine j_if_eq C dL_isRead_315 322 (by decide) 318 rfl (fun c => ?_) (fun c => ?_)
    · have h := it_t c h
      refine j_iconst C dL_isRead_322 (0 : Int32) (by decide) 323 rfl ?_
      refine j_iadd C dL_isRead_323 324 rfl ?_
      refine j_istore_n C dL_isRead_324 rfl (by decide) [(2, .int (v2 + (0 : Int32))), (0, .ref (gA G 81)), (1, .int v1), (3, .int v3), (4, .int v4), (5, .int v5), (6, .int v6), (8, .int v8)] rfl 325 rfl ?_
      refine j_iload_n C dL_isRead_325 rfl 2 rfl 326 rfl ?_
      refine j_iload C dL_isRead_326 6 rfl 328 rfl ?_
      refine j_iadd C dL_isRead_328 329 rfl ?_
      refine j_istore_n C dL_isRead_329 rfl (by decide) [(1, .int (v1 + v6)), (2, .int (v2 + (0 : Int32))), (0, .ref (gA G 81)), (3, .int v3), (4, .int v4), (5, .int v5), (6, .int v6), (8, .int v8)] rfl 330 rfl ?_
      refine j_iinc C dL_isRead_330 5 rfl (v5 + (1 : Int32)) rfl (by decide) [(5, .int (v5 + (1 : Int32))), (1, .int (v1 + v6)), (2, .int (v2 + (0 : Int32))), (0, .ref (gA G 81)), (3, .int v3), (4, .int v4), (6, .int v6), (8, .int v8)] rfl 333 rfl ?_
      refine j_goto C dL_isRead_333 39 (by decide) ?_
      refine j_sub [(0, .ref (gA G 81)), (1, .int (v1 + v6)), (2, .int (v2 + (0 : Int32))), (3, .int v3), (4, .int v4), (5, .int (v5 + (1 : Int32)))] [3, 1, 2, 4, 5, 0] rfl ?_
      exact hrc _ _ _ _ _ _ h
    · have h := it_f c h
      refine j_iconst C dL_isRead_318 (1 : Int32) (by decide) 319 rfl ?_
      refine j_goto C dL_isRead_319 323 (by decide) ?_
      refine j_iadd C dL_isRead_323 324 rfl ?_
      refine j_istore_n C dL_isRead_324 rfl (by decide) [(2, .int (v2 + (1 : Int32))), (0, .ref (gA G 81)), (1, .int v1), (3, .int v3), (4, .int v4), (5, .int v5), (6, .int v6), (8, .int v8)] rfl 325 rfl ?_
      refine j_iload_n C dL_isRead_325 rfl 2 rfl 326 rfl ?_
      refine j_iload C dL_isRead_326 6 rfl 328 rfl ?_
      refine j_iadd C dL_isRead_328 329 rfl ?_
      refine j_istore_n C dL_isRead_329 rfl (by decide) [(1, .int (v1 + v6)), (2, .int (v2 + (1 : Int32))), (0, .ref (gA G 81)), (3, .int v3), (4, .int v4), (5, .int v5), (6, .int v6), (8, .int v8)] rfl 330 rfl ?_
      refine j_iinc C dL_isRead_330 5 rfl (v5 + (1 : Int32)) rfl (by decide) [(5, .int (v5 + (1 : Int32))), (1, .int (v1 + v6)), (2, .int (v2 + (1 : Int32))), (0, .ref (gA G 81)), (3, .int v3), (4, .int v4), (6, .int v6), (8, .int v8)] rfl 333 rfl ?_
      refine j_goto C dL_isRead_333 39 (by decide) ?_
      refine j_sub [(0, .ref (gA G 81)), (1, .int (v1 + v6)), (2, .int (v2 + (1 : Int32))), (3, .int v3), (4, .int v4), (5, .int (v5 + (1 : Int32)))] [3, 1, 2, 4, 5, 0] rfl ?_
      exact hrc _ _ _ _ _ _ h
  · have h := it_f c h
    refine j_iload C dL_isRead_172 8 rfl 174 rfl ?_
    refine j_if_ne C dL_isRead_174 228 (by decide) 177 rfl (fun c => ?_) (fun c => ?_)
    · have h := it_f c h
      refine j_iconst C dL_isRead_228 (1 : Int32) (by decide) 229 rfl ?_
      refine j_goto C dL_isRead_229 233 (by decide) ?_
      refine j_istore C dL_isRead_233 (by decide) [(4, .int (1 : Int32)), (0, .ref (gA G 81)), (1, .int v1), (2, .int v2), (3, .int v3), (5, .int v5), (6, .int v6), (7, .int v7), (8, .int v8)] rfl 235 rfl ?_
      refine j_iconst C dL_isRead_235 (0 : Int32) (by decide) 236 rfl ?_
      refine j_istore C dL_isRead_236 (by decide) [(9, .int (0 : Int32)), (4, .int (1 : Int32)), (0, .ref (gA G 81)), (1, .int v1), (2, .int v2), (3, .int v3), (5, .int v5), (6, .int v6), (7, .int v7), (8, .int v8)] rfl 238 rfl ?_
      refine j_sub [(0, .ref (gA G 81)), (1, .int v1), (2, .int v2), (3, .int v3), (4, .int (1 : Int32)), (5, .int v5), (6, .int v6), (8, .int v8), (9, .int (0 : Int32))] [2, 3, 4, 5, 1, 6, 7, 9, 0] rfl ?_
      refine w_L_isRead_238 C F  (fun σ v1 v2 v3 v4 v5 v6 v8 h => ?_) FU _ _ _ _ _ _ _ _ _ h
      refine j_iload_n C dL_isRead_312 rfl 2 rfl 313 rfl ?_
      refine j_iload C dL_isRead_313 7 rfl 315 rfl ?_
      refine j_if_eq C dL_isRead_315 322 (by decide) 318 rfl (fun c => ?_) (fun c => ?_)
      · have h := it_t c h
        refine j_iconst C dL_isRead_322 (0 : Int32) (by decide) 323 rfl ?_
        refine j_iadd C dL_isRead_323 324 rfl ?_
        refine j_istore_n C dL_isRead_324 rfl (by decide) [(2, .int (v2 + (0 : Int32))), (0, .ref (gA G 81)), (1, .int v1), (3, .int v3), (4, .int v4), (5, .int v5), (6, .int v6), (8, .int v8)] rfl 325 rfl ?_
        refine j_iload_n C dL_isRead_325 rfl 2 rfl 326 rfl ?_
        refine j_iload C dL_isRead_326 6 rfl 328 rfl ?_
        refine j_iadd C dL_isRead_328 329 rfl ?_
        refine j_istore_n C dL_isRead_329 rfl (by decide) [(1, .int (v1 + v6)), (2, .int (v2 + (0 : Int32))), (0, .ref (gA G 81)), (3, .int v3), (4, .int v4), (5, .int v5), (6, .int v6), (8, .int v8)] rfl 330 rfl ?_
        refine j_iinc C dL_isRead_330 5 rfl (v5 + (1 : Int32)) rfl (by decide) [(5, .int (v5 + (1 : Int32))), (1, .int (v1 + v6)), (2, .int (v2 + (0 : Int32))), (0, .ref (gA G 81)), (3, .int v3), (4, .int v4), (6, .int v6), (8, .int v8)] rfl 333 rfl ?_
        refine j_goto C dL_isRead_333 39 (by decide) ?_
        refine j_sub [(0, .ref (gA G 81)), (1, .int (v1 + v6)), (2, .int (v2 + (0 : Int32))), (3, .int v3), (4, .int v4), (5, .int (v5 + (1 : Int32)))] [3, 1, 2, 4, 5, 0] rfl ?_
        exact hrc _ _ _ _ _ _ h
      · have h := it_f c h
        refine j_iconst C dL_isRead_318 (1 : Int32) (by decide) 319 rfl ?_
        refine j_goto C dL_isRead_319 323 (by decide) ?_
        refine j_iadd C dL_isRead_323 324 rfl ?_
        refine j_istore_n C dL_isRead_324 rfl (by decide) [(2, .int (v2 + (1 : Int32))), (0, .ref (gA G 81)), (1, .int v1), (3, .int v3), (4, .int v4), (5, .int v5), (6, .int v6), (8, .int v8)] rfl 325 rfl ?_
        refine j_iload_n C dL_isRead_325 rfl 2 rfl 326 rfl ?_
        refine j_iload C dL_isRead_326 6 rfl 328 rfl ?_
        refine j_iadd C dL_isRead_328 329 rfl ?_
        refine j_istore_n C dL_isRead_329 rfl (by decide) [(1, .int (v1 + v6)), (2, .int (v2 + (1 : Int32))), (0, .ref (gA G 81)), (3, .int v3), (4, .int v4), (5, .int v5), (6, .int v6), (8, .int v8)] rfl 330 rfl ?_
        refine j_iinc C dL_isRead_330 5 rfl (v5 + (1 : Int32)) rfl (by decide) [(5, .int (v5 + (1 : Int32))), (1, .int (v1 + v6)), (2, .int (v2 + (1 : Int32))), (0, .ref (gA G 81)), (3, .int v3), (4, .int v4), (6, .int v6), (8, .int v8)] rfl 333 rfl ?_
        refine j_goto C dL_isRead_333 39 (by decide) ?_
        refine j_sub [(0, .ref (gA G 81)), (1, .int (v1 + v6)), (2, .int (v2 + (1 : Int32))), (3, .int v3), (4, .int v4), (5, .int (v5 + (1 : Int32)))] [3, 1, 2, 4, 5, 0] rfl ?_
        exact hrc _ _ _ _ _ _ h
    · have h := it_t c h
      refine j_aload_n C dL_isRead_177 rfl 1 rfl 178 rfl ?_
      refine j_iload C dL_isRead_178 7 rfl 180 rfl ?_
      refine j_iconst C dL_isRead_180 (0 : Int32) (by decide) 181 rfl ?_
      obtain ⟨q23, e24, h⟩ := ob_some h
      refine j_callV C (ct_X6_entry (eL E) G  (xlv_some e24)) sh81 foX6 rfl vk_X6_entry kw2_210 rfl ⟨Nat.le_of_ble_eq_true rfl, Nat.le_of_ble_eq_true rfl, rfl, rfl⟩ ⟨Nat.zero_le _, Nat.zero_le _⟩ (rest := []) rfl (Nat.le_of_ble_eq_true rfl) dL_isRead_181 (st1 := [.int q23.2]) rfl 184 rfl ?_
      refine j_aload_n C dL_isRead_184 rfl 1 rfl 185 rfl ?_
      refine j_iload C dL_isRead_185 5 rfl 187 rfl ?_
      refine j_iconst C dL_isRead_187 (0 : Int32) (by decide) 188 rfl ?_
      obtain ⟨q25, e26, h⟩ := ob_some h
      refine j_callV C (ct_X6_item (eL E) G  (xlv_some e26)) sh81 foX6 rfl vk_X6_item kw3_9 rfl ⟨Nat.le_of_ble_eq_true rfl, Nat.le_of_ble_eq_true rfl, rfl, rfl⟩ ⟨Nat.zero_le _, Nat.zero_le _⟩ (rest := [.int q23.2]) rfl (Nat.le_of_ble_eq_true rfl) dL_isRead_188 (st1 := [.int q25.2, .int q23.2]) rfl 191 rfl ?_
      refine j_icmp_ne C dL_isRead_191 232 (by decide) 194 rfl (fun c => ?_) (fun c => ?_)
      · have h := it_f c h
        refine j_iconst C dL_isRead_232 (0 : Int32) (by decide) 233 rfl ?_
        refine j_istore C dL_isRead_233 (by decide) [(4, .int (0 : Int32)), (0, .ref (gA G 81)), (1, .int v1), (2, .int v2), (3, .int v3), (5, .int v5), (6, .int v6), (7, .int v7), (8, .int v8)] rfl 235 rfl ?_
        refine j_iconst C dL_isRead_235 (0 : Int32) (by decide) 236 rfl ?_
        refine j_istore C dL_isRead_236 (by decide) [(9, .int (0 : Int32)), (4, .int (0 : Int32)), (0, .ref (gA G 81)), (1, .int v1), (2, .int v2), (3, .int v3), (5, .int v5), (6, .int v6), (7, .int v7), (8, .int v8)] rfl 238 rfl ?_
        refine j_sub [(0, .ref (gA G 81)), (1, .int v1), (2, .int v2), (3, .int v3), (4, .int (0 : Int32)), (5, .int v5), (6, .int v6), (8, .int v8), (9, .int (0 : Int32))] [2, 3, 4, 5, 1, 6, 7, 9, 0] rfl ?_
        refine w_L_isRead_238 C F  (fun σ v1 v2 v3 v4 v5 v6 v8 h => ?_) FU _ _ _ _ _ _ _ _ _ h
        refine j_iload_n C dL_isRead_312 rfl 2 rfl 313 rfl ?_
        refine j_iload C dL_isRead_313 7 rfl 315 rfl ?_
        refine j_if_eq C dL_isRead_315 322 (by decide) 318 rfl (fun c => ?_) (fun c => ?_)
        · have h := it_t c h
          refine j_iconst C dL_isRead_322 (0 : Int32) (by decide) 323 rfl ?_
          refine j_iadd C dL_isRead_323 324 rfl ?_
          refine j_istore_n C dL_isRead_324 rfl (by decide) [(2, .int (v2 + (0 : Int32))), (0, .ref (gA G 81)), (1, .int v1), (3, .int v3), (4, .int v4), (5, .int v5), (6, .int v6), (8, .int v8)] rfl 325 rfl ?_
          refine j_iload_n C dL_isRead_325 rfl 2 rfl 326 rfl ?_
          refine j_iload C dL_isRead_326 6 rfl 328 rfl ?_
          refine j_iadd C dL_isRead_328 329 rfl ?_
          refine j_istore_n C dL_isRead_329 rfl (by decide) [(1, .int (v1 + v6)), (2, .int (v2 + (0 : Int32))), (0, .ref (gA G 81)), (3, .int v3), (4, .int v4), (5, .int v5), (6, .int v6), (8, .int v8)] rfl 330 rfl ?_
          refine j_iinc C dL_isRead_330 5 rfl (v5 + (1 : Int32)) rfl (by decide) [(5, .int (v5 + (1 : Int32))), (1, .int (v1 + v6)), (2, .int (v2 + (0 : Int32))), (0, .ref (gA G 81)), (3, .int v3), (4, .int v4), (6, .int v6), (8, .int v8)] rfl 333 rfl ?_
          refine j_goto C dL_isRead_333 39 (by decide) ?_
          refine j_sub [(0, .ref (gA G 81)), (1, .int (v1 + v6)), (2, .int (v2 + (0 : Int32))), (3, .int v3), (4, .int v4), (5, .int (v5 + (1 : Int32)))] [3, 1, 2, 4, 5, 0] rfl ?_
          exact hrc _ _ _ _ _ _ h
        · have h := it_f c h
          refine j_iconst C dL_isRead_318 (1 : Int32) (by decide) 319 rfl ?_
          refine j_goto C dL_isRead_319 323 (by decide) ?_
          refine j_iadd C dL_isRead_323 324 rfl ?_
          refine j_istore_n C dL_isRead_324 rfl (by decide) [(2, .int (v2 + (1 : Int32))), (0, .ref (gA G 81)), (1, .int v1), (3, .int v3), (4, .int v4), (5, .int v5), (6, .int v6), (8, .int v8)] rfl 325 rfl ?_
          refine j_iload_n C dL_isRead_325 rfl 2 rfl 326 rfl ?_
          refine j_iload C dL_isRead_326 6 rfl 328 rfl ?_
          refine j_iadd C dL_isRead_328 329 rfl ?_
          refine j_istore_n C dL_isRead_329 rfl (by decide) [(1, .int (v1 + v6)), (2, .int (v2 + (1 : Int32))), (0, .ref (gA G 81)), (3, .int v3), (4, .int v4), (5, .int v5), (6, .int v6), (8, .int v8)] rfl 330 rfl ?_
          refine j_iinc C dL_isRead_330 5 rfl (v5 + (1 : Int32)) rfl (by decide) [(5, .int (v5 + (1 : Int32))), (1, .int (v1 + v6)), (2, .int (v2 + (1 : Int32))), (0, .ref (gA G 81)), (3, .int v3), (4, .int v4), (6, .int v6), (8, .int v8)] rfl 333 rfl ?_
          refine j_goto C dL_isRead_333 39 (by decide) ?_
          refine j_sub [(0, .ref (gA G 81)), (1, .int (v1 + v6)), (2, .int (v2 + (1 : Int32))), (3, .int v3), (4, .int v4), (5, .int (v5 + (1 : Int32)))] [3, 1, 2, 4, 5, 0] rfl ?_
          exact hrc _ _ _ _ _ _ h
      · have h := it_t c h
        refine j_aload_n C dL_isRead_194 rfl 1 rfl 195 rfl ?_
        refine j_iload C dL_isRead_195 7 rfl 197 rfl ?_
        refine j_iconst C dL_isRead_197 (1 : Int32) (by decide) 198 rfl ?_
        obtain ⟨q27, e28, h⟩ := ob_some h
        refine j_callV C (ct_X6_entry (eL E) G  (xlv_some e28)) sh81 foX6 rfl vk_X6_entry kw2_210 rfl ⟨Nat.le_of_ble_eq_true rfl, Nat.le_of_ble_eq_true rfl, rfl, rfl⟩ ⟨Nat.zero_le _, Nat.zero_le _⟩ (rest := []) rfl (Nat.le_of_ble_eq_true rfl) dL_isRead_198 (st1 := [.int q27.2]) rfl 201 rfl ?_
        refine j_iload C dL_isRead_201 6 rfl 203 rfl ?_
        refine j_icmp_ne C dL_isRead_203 232 (by decide) 206 rfl (fun c => ?_) (fun c => ?_)
        · have h := it_f c h
          refine j_iconst C dL_isRead_232 (0 : Int32) (by decide) 233 rfl ?_
          refine j_istore C dL_isRead_233 (by decide) [(4, .int (0 : Int32)), (0, .ref (gA G 81)), (1, .int v1), (2, .int v2), (3, .int v3), (5, .int v5), (6, .int v6), (7, .int v7), (8, .int v8)] rfl 235 rfl ?_
          refine j_iconst C dL_isRead_235 (0 : Int32) (by decide) 236 rfl ?_
          refine j_istore C dL_isRead_236 (by decide) [(9, .int (0 : Int32)), (4, .int (0 : Int32)), (0, .ref (gA G 81)), (1, .int v1), (2, .int v2), (3, .int v3), (5, .int v5), (6, .int v6), (7, .int v7), (8, .int v8)] rfl 238 rfl ?_
          refine j_sub [(0, .ref (gA G 81)), (1, .int v1), (2, .int v2), (3, .int v3), (4, .int (0 : Int32)), (5, .int v5), (6, .int v6), (8, .int v8), (9, .int (0 : Int32))] [2, 3, 4, 5, 1, 6, 7, 9, 0] rfl ?_
          refine w_L_isRead_238 C F  (fun σ v1 v2 v3 v4 v5 v6 v8 h => ?_) FU _ _ _ _ _ _ _ _ _ h
          refine j_iload_n C dL_isRead_312 rfl 2 rfl 313 rfl ?_
          refine j_iload C dL_isRead_313 7 rfl 315 rfl ?_
          refine j_if_eq C dL_isRead_315 322 (by decide) 318 rfl (fun c => ?_) (fun c => ?_)
          · have h := it_t c h
            refine j_iconst C dL_isRead_322 (0 : Int32) (by decide) 323 rfl ?_
            refine j_iadd C dL_isRead_323 324 rfl ?_
            refine j_istore_n C dL_isRead_324 rfl (by decide) [(2, .int (v2 + (0 : Int32))), (0, .ref (gA G 81)), (1, .int v1), (3, .int v3), (4, .int v4), (5, .int v5), (6, .int v6), (8, .int v8)] rfl 325 rfl ?_
            refine j_iload_n C dL_isRead_325 rfl 2 rfl 326 rfl ?_
            refine j_iload C dL_isRead_326 6 rfl 328 rfl ?_
            refine j_iadd C dL_isRead_328 329 rfl ?_
            refine j_istore_n C dL_isRead_329 rfl (by decide) [(1, .int (v1 + v6)), (2, .int (v2 + (0 : Int32))), (0, .ref (gA G 81)), (3, .int v3), (4, .int v4), (5, .int v5), (6, .int v6), (8, .int v8)] rfl 330 rfl ?_
            refine j_iinc C dL_isRead_330 5 rfl (v5 + (1 : Int32)) rfl (by decide) [(5, .int (v5 + (1 : Int32))), (1, .int (v1 + v6)), (2, .int (v2 + (0 : Int32))), (0, .ref (gA G 81)), (3, .int v3), (4, .int v4), (6, .int v6), (8, .int v8)] rfl 333 rfl ?_
            refine j_goto C dL_isRead_333 39 (by decide) ?_
            refine j_sub [(0, .ref (gA G 81)), (1, .int (v1 + v6)), (2, .int (v2 + (0 : Int32))), (3, .int v3), (4, .int v4), (5, .int (v5 + (1 : Int32)))] [3, 1, 2, 4, 5, 0] rfl ?_
            exact hrc _ _ _ _ _ _ h
          · have h := it_f c h
            refine j_iconst C dL_isRead_318 (1 : Int32) (by decide) 319 rfl ?_
            refine j_goto C dL_isRead_319 323 (by decide) ?_
            refine j_iadd C dL_isRead_323 324 rfl ?_
            refine j_istore_n C dL_isRead_324 rfl (by decide) [(2, .int (v2 + (1 : Int32))), (0, .ref (gA G 81)), (1, .int v1), (3, .int v3), (4, .int v4), (5, .int v5), (6, .int v6), (8, .int v8)] rfl 325 rfl ?_
            refine j_iload_n C dL_isRead_325 rfl 2 rfl 326 rfl ?_
            refine j_iload C dL_isRead_326 6 rfl 328 rfl ?_
            refine j_iadd C dL_isRead_328 329 rfl ?_
            refine j_istore_n C dL_isRead_329 rfl (by decide) [(1, .int (v1 + v6)), (2, .int (v2 + (1 : Int32))), (0, .ref (gA G 81)), (3, .int v3), (4, .int v4), (5, .int v5), (6, .int v6), (8, .int v8)] rfl 330 rfl ?_
            refine j_iinc C dL_isRead_330 5 rfl (v5 + (1 : Int32)) rfl (by decide) [(5, .int (v5 + (1 : Int32))), (1, .int (v1 + v6)), (2, .int (v2 + (1 : Int32))), (0, .ref (gA G 81)), (3, .int v3), (4, .int v4), (6, .int v6), (8, .int v8)] rfl 333 rfl ?_
            refine j_goto C dL_isRead_333 39 (by decide) ?_
            refine j_sub [(0, .ref (gA G 81)), (1, .int (v1 + v6)), (2, .int (v2 + (1 : Int32))), (3, .int v3), (4, .int v4), (5, .int (v5 + (1 : Int32)))] [3, 1, 2, 4, 5, 0] rfl ?_
            exact hrc _ _ _ _ _ _ h
        · have h := it_t c h
          refine j_aload_n C dL_isRead_206 rfl 1 rfl 207 rfl ?_
          refine j_iload C dL_isRead_207 7 rfl 209 rfl ?_
          refine j_bipush C dL_isRead_209 (7 : Int32) (by decide) 211 rfl ?_
          obtain ⟨q29, e30, h⟩ := ob_some h
          refine j_callV C (ct_X6_entry (eL E) G  (xlv_some e30)) sh81 foX6 rfl vk_X6_entry kw2_210 rfl ⟨Nat.le_of_ble_eq_true rfl, Nat.le_of_ble_eq_true rfl, rfl, rfl⟩ ⟨Nat.zero_le _, Nat.zero_le _⟩ (rest := []) rfl (Nat.le_of_ble_eq_true rfl) dL_isRead_211 (st1 := [.int q29.2]) rfl 214 rfl ?_
          refine j_iconst C dL_isRead_214 (1 : Int32) (by decide) 215 rfl ?_
          refine j_icmp_ne C dL_isRead_215 232 (by decide) 218 rfl (fun c => ?_) (fun c => ?_)
          · have h := it_f c h
            refine j_iconst C dL_isRead_232 (0 : Int32) (by decide) 233 rfl ?_
            refine j_istore C dL_isRead_233 (by decide) [(4, .int (0 : Int32)), (0, .ref (gA G 81)), (1, .int v1), (2, .int v2), (3, .int v3), (5, .int v5), (6, .int v6), (7, .int v7), (8, .int v8)] rfl 235 rfl ?_
            refine j_iconst C dL_isRead_235 (0 : Int32) (by decide) 236 rfl ?_
            refine j_istore C dL_isRead_236 (by decide) [(9, .int (0 : Int32)), (4, .int (0 : Int32)), (0, .ref (gA G 81)), (1, .int v1), (2, .int v2), (3, .int v3), (5, .int v5), (6, .int v6), (7, .int v7), (8, .int v8)] rfl 238 rfl ?_
            refine j_sub [(0, .ref (gA G 81)), (1, .int v1), (2, .int v2), (3, .int v3), (4, .int (0 : Int32)), (5, .int v5), (6, .int v6), (8, .int v8), (9, .int (0 : Int32))] [2, 3, 4, 5, 1, 6, 7, 9, 0] rfl ?_
            refine w_L_isRead_238 C F  (fun σ v1 v2 v3 v4 v5 v6 v8 h => ?_) FU _ _ _ _ _ _ _ _ _ h
            refine j_iload_n C dL_isRead_312 rfl 2 rfl 313 rfl ?_
            refine j_iload C dL_isRead_313 7 rfl 315 rfl ?_
            refine j_if_eq C dL_isRead_315 322 (by decide) 318 rfl (fun c => ?_) (fun c => ?_)
            · have h := it_t c h
              refine j_iconst C dL_isRead_322 (0 : Int32) (by decide) 323 rfl ?_
              refine j_iadd C dL_isRead_323 324 rfl ?_
              refine j_istore_n C dL_isRead_324 rfl (by decide) [(2, .int (v2 + (0 : Int32))), (0, .ref (gA G 81)), (1, .int v1), (3, .int v3), (4, .int v4), (5, .int v5), (6, .int v6), (8, .int v8)] rfl 325 rfl ?_
              refine j_iload_n C dL_isRead_325 rfl 2 rfl 326 rfl ?_
              refine j_iload C dL_isRead_326 6 rfl 328 rfl ?_
              refine j_iadd C dL_isRead_328 329 rfl ?_
              refine j_istore_n C dL_isRead_329 rfl (by decide) [(1, .int (v1 + v6)), (2, .int (v2 + (0 : Int32))), (0, .ref (gA G 81)), (3, .int v3), (4, .int v4), (5, .int v5), (6, .int v6), (8, .int v8)] rfl 330 rfl ?_
              refine j_iinc C dL_isRead_330 5 rfl (v5 + (1 : Int32)) rfl (by decide) [(5, .int (v5 + (1 : Int32))), (1, .int (v1 + v6)), (2, .int (v2 + (0 : Int32))), (0, .ref (gA G 81)), (3, .int v3), (4, .int v4), (6, .int v6), (8, .int v8)] rfl 333 rfl ?_
              refine j_goto C dL_isRead_333 39 (by decide) ?_
              refine j_sub [(0, .ref (gA G 81)), (1, .int (v1 + v6)), (2, .int (v2 + (0 : Int32))), (3, .int v3), (4, .int v4), (5, .int (v5 + (1 : Int32)))] [3, 1, 2, 4, 5, 0] rfl ?_
              exact hrc _ _ _ _ _ _ h
            · have h := it_f c h
              refine j_iconst C dL_isRead_318 (1 : Int32) (by decide) 319 rfl ?_
              refine j_goto C dL_isRead_319 323 (by decide) ?_
              refine j_iadd C dL_isRead_323 324 rfl ?_
              refine j_istore_n C dL_isRead_324 rfl (by decide) [(2, .int (v2 + (1 : Int32))), (0, .ref (gA G 81)), (1, .int v1), (3, .int v3), (4, .int v4), (5, .int v5), (6, .int v6), (8, .int v8)] rfl 325 rfl ?_
              refine j_iload_n C dL_isRead_325 rfl 2 rfl 326 rfl ?_
              refine j_iload C dL_isRead_326 6 rfl 328 rfl ?_
              refine j_iadd C dL_isRead_328 329 rfl ?_
              refine j_istore_n C dL_isRead_329 rfl (by decide) [(1, .int (v1 + v6)), (2, .int (v2 + (1 : Int32))), (0, .ref (gA G 81)), (3, .int v3), (4, .int v4), (5, .int v5), (6, .int v6), (8, .int v8)] rfl 330 rfl ?_
              refine j_iinc C dL_isRead_330 5 rfl (v5 + (1 : Int32)) rfl (by decide) [(5, .int (v5 + (1 : Int32))), (1, .int (v1 + v6)), (2, .int (v2 + (1 : Int32))), (0, .ref (gA G 81)), (3, .int v3), (4, .int v4), (6, .int v6), (8, .int v8)] rfl 333 rfl ?_
              refine j_goto C dL_isRead_333 39 (by decide) ?_
              refine j_sub [(0, .ref (gA G 81)), (1, .int (v1 + v6)), (2, .int (v2 + (1 : Int32))), (3, .int v3), (4, .int v4), (5, .int (v5 + (1 : Int32)))] [3, 1, 2, 4, 5, 0] rfl ?_
              exact hrc _ _ _ _ _ _ h
          · have h := it_t c h
            refine j_aload_n C dL_isRead_218 rfl 1 rfl 219 rfl ?_
            refine j_iload C dL_isRead_219 7 rfl 221 rfl ?_
            refine j_iload_n C dL_isRead_221 rfl 2 rfl 222 rfl ?_
            obtain ⟨q31, e32, h⟩ := ob_some h
            refine j_callS C (ct_L_isOn (eL E) G  e32) vk_L_isOn kw3_45 rfl ⟨Nat.le_of_ble_eq_true rfl, Nat.le_of_ble_eq_true rfl, rfl, rfl⟩ ⟨Nat.zero_le _, Nat.zero_le _⟩ (rest := []) rfl (Nat.le_of_ble_eq_true rfl) dL_isRead_222 (st1 := [.int q31.2]) rfl 225 rfl ?_
            refine j_if_eq C dL_isRead_225 232 (by decide) 228 rfl (fun c => ?_) (fun c => ?_)
            · have h := it_t c h
              refine j_iconst C dL_isRead_232 (0 : Int32) (by decide) 233 rfl ?_
              refine j_istore C dL_isRead_233 (by decide) [(4, .int (0 : Int32)), (0, .ref (gA G 81)), (1, .int v1), (2, .int v2), (3, .int v3), (5, .int v5), (6, .int v6), (7, .int v7), (8, .int v8)] rfl 235 rfl ?_
              refine j_iconst C dL_isRead_235 (0 : Int32) (by decide) 236 rfl ?_
              refine j_istore C dL_isRead_236 (by decide) [(9, .int (0 : Int32)), (4, .int (0 : Int32)), (0, .ref (gA G 81)), (1, .int v1), (2, .int v2), (3, .int v3), (5, .int v5), (6, .int v6), (7, .int v7), (8, .int v8)] rfl 238 rfl ?_
              refine j_sub [(0, .ref (gA G 81)), (1, .int v1), (2, .int v2), (3, .int v3), (4, .int (0 : Int32)), (5, .int v5), (6, .int v6), (8, .int v8), (9, .int (0 : Int32))] [2, 3, 4, 5, 1, 6, 7, 9, 0] rfl ?_
              refine w_L_isRead_238 C F  (fun σ v1 v2 v3 v4 v5 v6 v8 h => ?_) FU _ _ _ _ _ _ _ _ _ h
              refine j_iload_n C dL_isRead_312 rfl 2 rfl 313 rfl ?_
              refine j_iload C dL_isRead_313 7 rfl 315 rfl ?_
              refine j_if_eq C dL_isRead_315 322 (by decide) 318 rfl (fun c => ?_) (fun c => ?_)
              · have h := it_t c h
                refine j_iconst C dL_isRead_322 (0 : Int32) (by decide) 323 rfl ?_
                refine j_iadd C dL_isRead_323 324 rfl ?_
                refine j_istore_n C dL_isRead_324 rfl (by decide) [(2, .int (v2 + (0 : Int32))), (0, .ref (gA G 81)), (1, .int v1), (3, .int v3), (4, .int v4), (5, .int v5), (6, .int v6), (8, .int v8)] rfl 325 rfl ?_
                refine j_iload_n C dL_isRead_325 rfl 2 rfl 326 rfl ?_
                refine j_iload C dL_isRead_326 6 rfl 328 rfl ?_
                refine j_iadd C dL_isRead_328 329 rfl ?_
                refine j_istore_n C dL_isRead_329 rfl (by decide) [(1, .int (v1 + v6)), (2, .int (v2 + (0 : Int32))), (0, .ref (gA G 81)), (3, .int v3), (4, .int v4), (5, .int v5), (6, .int v6), (8, .int v8)] rfl 330 rfl ?_
                refine j_iinc C dL_isRead_330 5 rfl (v5 + (1 : Int32)) rfl (by decide) [(5, .int (v5 + (1 : Int32))), (1, .int (v1 + v6)), (2, .int (v2 + (0 : Int32))), (0, .ref (gA G 81)), (3, .int v3), (4, .int v4), (6, .int v6), (8, .int v8)] rfl 333 rfl ?_
                refine j_goto C dL_isRead_333 39 (by decide) ?_
                refine j_sub [(0, .ref (gA G 81)), (1, .int (v1 + v6)), (2, .int (v2 + (0 : Int32))), (3, .int v3), (4, .int v4), (5, .int (v5 + (1 : Int32)))] [3, 1, 2, 4, 5, 0] rfl ?_
                exact hrc _ _ _ _ _ _ h
              · have h := it_f c h
                refine j_iconst C dL_isRead_318 (1 : Int32) (by decide) 319 rfl ?_
                refine j_goto C dL_isRead_319 323 (by decide) ?_
                refine j_iadd C dL_isRead_323 324 rfl ?_
                refine j_istore_n C dL_isRead_324 rfl (by decide) [(2, .int (v2 + (1 : Int32))), (0, .ref (gA G 81)), (1, .int v1), (3, .int v3), (4, .int v4), (5, .int v5), (6, .int v6), (8, .int v8)] rfl 325 rfl ?_
                refine j_iload_n C dL_isRead_325 rfl 2 rfl 326 rfl ?_
                refine j_iload C dL_isRead_326 6 rfl 328 rfl ?_
                refine j_iadd C dL_isRead_328 329 rfl ?_
                refine j_istore_n C dL_isRead_329 rfl (by decide) [(1, .int (v1 + v6)), (2, .int (v2 + (1 : Int32))), (0, .ref (gA G 81)), (3, .int v3), (4, .int v4), (5, .int v5), (6, .int v6), (8, .int v8)] rfl 330 rfl ?_
                refine j_iinc C dL_isRead_330 5 rfl (v5 + (1 : Int32)) rfl (by decide) [(5, .int (v5 + (1 : Int32))), (1, .int (v1 + v6)), (2, .int (v2 + (1 : Int32))), (0, .ref (gA G 81)), (3, .int v3), (4, .int v4), (6, .int v6), (8, .int v8)] rfl 333 rfl ?_
                refine j_goto C dL_isRead_333 39 (by decide) ?_
                refine j_sub [(0, .ref (gA G 81)), (1, .int (v1 + v6)), (2, .int (v2 + (1 : Int32))), (3, .int v3), (4, .int v4), (5, .int (v5 + (1 : Int32)))] [3, 1, 2, 4, 5, 0] rfl ?_
                exact hrc _ _ _ _ _ _ h
            · have h := it_f c h
              refine j_iconst C dL_isRead_228 (1 : Int32) (by decide) 229 rfl ?_
              refine j_goto C dL_isRead_229 233 (by decide) ?_
              refine j_istore C dL_isRead_233 (by decide) [(4, .int (1 : Int32)), (0, .ref (gA G 81)), (1, .int v1), (2, .int v2), (3, .int v3), (5, .int v5), (6, .int v6), (7, .int v7), (8, .int v8)] rfl 235 rfl ?_
              refine j_iconst C dL_isRead_235 (0 : Int32) (by decide) 236 rfl ?_
              refine j_istore C dL_isRead_236 (by decide) [(9, .int (0 : Int32)), (4, .int (1 : Int32)), (0, .ref (gA G 81)), (1, .int v1), (2, .int v2), (3, .int v3), (5, .int v5), (6, .int v6), (7, .int v7), (8, .int v8)] rfl 238 rfl ?_
              refine j_sub [(0, .ref (gA G 81)), (1, .int v1), (2, .int v2), (3, .int v3), (4, .int (1 : Int32)), (5, .int v5), (6, .int v6), (8, .int v8), (9, .int (0 : Int32))] [2, 3, 4, 5, 1, 6, 7, 9, 0] rfl ?_
              refine w_L_isRead_238 C F  (fun σ v1 v2 v3 v4 v5 v6 v8 h => ?_) FU _ _ _ _ _ _ _ _ _ h
              refine j_iload_n C dL_isRead_312 rfl 2 rfl 313 rfl ?_
              refine j_iload C dL_isRead_313 7 rfl 315 rfl ?_
              refine j_if_eq C dL_isRead_315 322 (by decide) 318 rfl (fun c => ?_) (fun c => ?_)
              · have h := it_t c h
                refine j_iconst C dL_isRead_322 (0 : Int32) (by decide) 323 rfl ?_
                refine j_iadd C dL_isRead_323 324 rfl ?_
                refine j_istore_n C dL_isRead_324 rfl (by decide) [(2, .int (v2 + (0 : Int32))), (0, .ref (gA G 81)), (1, .int v1), (3, .int v3), (4, .int v4), (5, .int v5), (6, .int v6), (8, .int v8)] rfl 325 rfl ?_
                refine j_iload_n C dL_isRead_325 rfl 2 rfl 326 rfl ?_
                refine j_iload C dL_isRead_326 6 rfl 328 rfl ?_
                refine j_iadd C dL_isRead_328 329 rfl ?_
                refine j_istore_n C dL_isRead_329 rfl (by decide) [(1, .int (v1 + v6)), (2, .int (v2 + (0 : Int32))), (0, .ref (gA G 81)), (3, .int v3), (4, .int v4), (5, .int v5), (6, .int v6), (8, .int v8)] rfl 330 rfl ?_
                refine j_iinc C dL_isRead_330 5 rfl (v5 + (1 : Int32)) rfl (by decide) [(5, .int (v5 + (1 : Int32))), (1, .int (v1 + v6)), (2, .int (v2 + (0 : Int32))), (0, .ref (gA G 81)), (3, .int v3), (4, .int v4), (6, .int v6), (8, .int v8)] rfl 333 rfl ?_
                refine j_goto C dL_isRead_333 39 (by decide) ?_
                refine j_sub [(0, .ref (gA G 81)), (1, .int (v1 + v6)), (2, .int (v2 + (0 : Int32))), (3, .int v3), (4, .int v4), (5, .int (v5 + (1 : Int32)))] [3, 1, 2, 4, 5, 0] rfl ?_
                exact hrc _ _ _ _ _ _ h
              · have h := it_f c h
                refine j_iconst C dL_isRead_318 (1 : Int32) (by decide) 319 rfl ?_
                refine j_goto C dL_isRead_319 323 (by decide) ?_
                refine j_iadd C dL_isRead_323 324 rfl ?_
                refine j_istore_n C dL_isRead_324 rfl (by decide) [(2, .int (v2 + (1 : Int32))), (0, .ref (gA G 81)), (1, .int v1), (3, .int v3), (4, .int v4), (5, .int v5), (6, .int v6), (8, .int v8)] rfl 325 rfl ?_
                refine j_iload_n C dL_isRead_325 rfl 2 rfl 326 rfl ?_
                refine j_iload C dL_isRead_326 6 rfl 328 rfl ?_
                refine j_iadd C dL_isRead_328 329 rfl ?_
                refine j_istore_n C dL_isRead_329 rfl (by decide) [(1, .int (v1 + v6)), (2, .int (v2 + (1 : Int32))), (0, .ref (gA G 81)), (3, .int v3), (4, .int v4), (5, .int v5), (6, .int v6), (8, .int v8)] rfl 330 rfl ?_
                refine j_iinc C dL_isRead_330 5 rfl (v5 + (1 : Int32)) rfl (by decide) [(5, .int (v5 + (1 : Int32))), (1, .int (v1 + v6)), (2, .int (v2 + (1 : Int32))), (0, .ref (gA G 81)), (3, .int v3), (4, .int v4), (6, .int v6), (8, .int v8)] rfl 333 rfl ?_
                refine j_goto C dL_isRead_333 39 (by decide) ?_
                refine j_sub [(0, .ref (gA G 81)), (1, .int (v1 + v6)), (2, .int (v2 + (1 : Int32))), (3, .int v3), (4, .int v4), (5, .int (v5 + (1 : Int32)))] [3, 1, 2, 4, 5, 0] rfl ?_
                exact hrc _ _ _ _ _ _ h
def L_isRead_164 (K : Mem → Int32 → Int32 → Int32 → Int32 → Option (Mem × Int32)) (rc : Mem → Int32 → Int32 → Int32 → Int32 → Int32 → Option (Mem × Int32)) (σ : Mem) (v1 : Int32) (v2 : Int32) (v3 : Int32) (v5 : Int32) (v6 : Int32) (v7 : Int32) (v8 : Int32) : Option (Mem × Int32) :=
  L_isRead_165 K rc σ v1 v2 v3 v5 v6 v7 v8 (0 : Int32)
set_option maxHeartbeats 4000000 in
set_option maxRecDepth 100000 in
theorem w_L_isRead_164 {E : Ev} {G : Gw} (C : Cx E G RL cL_isRead 10 { frames := 8, cells := 0, slots := 0, locals := 164 }) {out : Mem × Int32} (F : Ef E G out.1 (some (.int out.2)) (some .boolean) 0 0)  {K : Mem → Int32 → Int32 → Int32 → Int32 → Option (Mem × Int32)} (hK : ∀ (σ : Mem) (v1 : Int32) (v2 : Int32) (v3 : Int32) (v4 : Int32), K σ v1 v2 v3 v4 = some out → J E G 10 0 0 σ 336 [(0, .ref (gA G 81)), (1, .int v1), (2, .int v2), (3, .int v3), (4, .int v4)] []) {rc : Mem → Int32 → Int32 → Int32 → Int32 → Int32 → Option (Mem × Int32)} (hrc : ∀ (σ : Mem) (v1 : Int32) (v2 : Int32) (v3 : Int32) (v4 : Int32) (v5 : Int32), rc σ v1 v2 v3 v4 v5 = some out → J E G 10 0 0 σ 39 [(0, .ref (gA G 81)), (1, .int v1), (2, .int v2), (3, .int v3), (4, .int v4), (5, .int v5)] []) (σ : Mem) (v1 : Int32) (v2 : Int32) (v3 : Int32) (v5 : Int32) (v6 : Int32) (v7 : Int32) (v8 : Int32) (h : L_isRead_164 K rc σ v1 v2 v3 v5 v6 v7 v8 = some out) : J E G 10 0 0 σ 164 [(0, .ref (gA G 81)), (1, .int v1), (2, .int v2), (3, .int v3), (5, .int v5), (6, .int v6), (7, .int v7), (8, .int v8)] [] := by
  unfold L_isRead_164 at h
  refine j_iconst C dL_isRead_164 (0 : Int32) (by decide) 165 rfl ?_
  exact w_L_isRead_165 C F  hK hrc _ _ _ _ _ _ _ _ _ h
def L_isRead_160 (K : Mem → Int32 → Int32 → Int32 → Int32 → Option (Mem × Int32)) (rc : Mem → Int32 → Int32 → Int32 → Int32 → Int32 → Option (Mem × Int32)) (σ : Mem) (v1 : Int32) (v2 : Int32) (v3 : Int32) (v5 : Int32) (v6 : Int32) (v7 : Int32) (v8 : Int32) : Option (Mem × Int32) :=
  L_isRead_165 K rc σ v1 v2 v3 v5 v6 v7 v8 (1 : Int32)
set_option maxHeartbeats 4000000 in
set_option maxRecDepth 100000 in
theorem w_L_isRead_160 {E : Ev} {G : Gw} (C : Cx E G RL cL_isRead 10 { frames := 8, cells := 0, slots := 0, locals := 164 }) {out : Mem × Int32} (F : Ef E G out.1 (some (.int out.2)) (some .boolean) 0 0)  {K : Mem → Int32 → Int32 → Int32 → Int32 → Option (Mem × Int32)} (hK : ∀ (σ : Mem) (v1 : Int32) (v2 : Int32) (v3 : Int32) (v4 : Int32), K σ v1 v2 v3 v4 = some out → J E G 10 0 0 σ 336 [(0, .ref (gA G 81)), (1, .int v1), (2, .int v2), (3, .int v3), (4, .int v4)] []) {rc : Mem → Int32 → Int32 → Int32 → Int32 → Int32 → Option (Mem × Int32)} (hrc : ∀ (σ : Mem) (v1 : Int32) (v2 : Int32) (v3 : Int32) (v4 : Int32) (v5 : Int32), rc σ v1 v2 v3 v4 v5 = some out → J E G 10 0 0 σ 39 [(0, .ref (gA G 81)), (1, .int v1), (2, .int v2), (3, .int v3), (4, .int v4), (5, .int v5)] []) (σ : Mem) (v1 : Int32) (v2 : Int32) (v3 : Int32) (v5 : Int32) (v6 : Int32) (v7 : Int32) (v8 : Int32) (h : L_isRead_160 K rc σ v1 v2 v3 v5 v6 v7 v8 = some out) : J E G 10 0 0 σ 160 [(0, .ref (gA G 81)), (1, .int v1), (2, .int v2), (3, .int v3), (5, .int v5), (6, .int v6), (7, .int v7), (8, .int v8)] [] := by
  unfold L_isRead_160 at h
  refine j_iconst C dL_isRead_160 (1 : Int32) (by decide) 161 rfl ?_
  refine j_goto C dL_isRead_161 165 (by decide) ?_
  exact w_L_isRead_165 C F  hK hrc _ _ _ _ _ _ _ _ _ h
def L_isRead_144 (K : Mem → Int32 → Int32 → Int32 → Int32 → Option (Mem × Int32)) (rc : Mem → Int32 → Int32 → Int32 → Int32 → Int32 → Option (Mem × Int32)) (σ : Mem) (v1 : Int32) (v2 : Int32) (v3 : Int32) (v5 : Int32) (v6 : Int32) (v7 : Int32) (v8 : Int32) (s0 : Int32) : Option (Mem × Int32) :=
  (if s0 = v8 then (if v8 = 0 then L_isRead_160 K rc σ v1 v2 v3 v5 v6 v7 v8 else (if v6 = (1 : Int32) then L_isRead_160 K rc σ v1 v2 v3 v5 v6 v7 v8 else L_isRead_164 K rc σ v1 v2 v3 v5 v6 v7 v8)) else L_isRead_164 K rc σ v1 v2 v3 v5 v6 v7 v8)
set_option maxHeartbeats 4000000 in
set_option maxRecDepth 100000 in
theorem w_L_isRead_144 {E : Ev} {G : Gw} (C : Cx E G RL cL_isRead 10 { frames := 8, cells := 0, slots := 0, locals := 164 }) {out : Mem × Int32} (F : Ef E G out.1 (some (.int out.2)) (some .boolean) 0 0)  {K : Mem → Int32 → Int32 → Int32 → Int32 → Option (Mem × Int32)} (hK : ∀ (σ : Mem) (v1 : Int32) (v2 : Int32) (v3 : Int32) (v4 : Int32), K σ v1 v2 v3 v4 = some out → J E G 10 0 0 σ 336 [(0, .ref (gA G 81)), (1, .int v1), (2, .int v2), (3, .int v3), (4, .int v4)] []) {rc : Mem → Int32 → Int32 → Int32 → Int32 → Int32 → Option (Mem × Int32)} (hrc : ∀ (σ : Mem) (v1 : Int32) (v2 : Int32) (v3 : Int32) (v4 : Int32) (v5 : Int32), rc σ v1 v2 v3 v4 v5 = some out → J E G 10 0 0 σ 39 [(0, .ref (gA G 81)), (1, .int v1), (2, .int v2), (3, .int v3), (4, .int v4), (5, .int v5)] []) (σ : Mem) (v1 : Int32) (v2 : Int32) (v3 : Int32) (v5 : Int32) (v6 : Int32) (v7 : Int32) (v8 : Int32) (s0 : Int32) (h : L_isRead_144 K rc σ v1 v2 v3 v5 v6 v7 v8 s0 = some out) : J E G 10 0 0 σ 144 [(0, .ref (gA G 81)), (1, .int v1), (2, .int v2), (3, .int v3), (5, .int v5), (6, .int v6), (7, .int v7), (8, .int v8)] [.int s0] := by
  unfold L_isRead_144 at h
  refine j_iload C dL_isRead_144 7 rfl 146 rfl ?_
  refine j_icmp_ne C dL_isRead_146 164 (by decide) 149 rfl (fun c => ?_) (fun c => ?_)
  · have h := it_f c h
    exact w_L_isRead_164 C F  hK hrc _ _ _ _ _ _ _ _ h
  · have h := it_t c h
    refine j_iload C dL_isRead_149 7 rfl 151 rfl ?_
    refine j_if_eq C dL_isRead_151 160 (by decide) 154 rfl (fun c => ?_) (fun c => ?_)
    · have h := it_t c h
      exact w_L_isRead_160 C F  hK hrc _ _ _ _ _ _ _ _ h
    · have h := it_f c h
      refine j_iload C dL_isRead_154 5 rfl 156 rfl ?_
      refine j_iconst C dL_isRead_156 (1 : Int32) (by decide) 157 rfl ?_
      refine j_icmp_ne C dL_isRead_157 164 (by decide) 160 rfl (fun c => ?_) (fun c => ?_)
      · have h := it_f c h
        exact w_L_isRead_164 C F  hK hrc _ _ _ _ _ _ _ _ h
      · have h := it_t c h
        exact w_L_isRead_160 C F  hK hrc _ _ _ _ _ _ _ _ h
def L_isRead_124 (K : Mem → Int32 → Int32 → Int32 → Int32 → Option (Mem × Int32)) (rc : Mem → Int32 → Int32 → Int32 → Int32 → Int32 → Option (Mem × Int32)) (σ : Mem) (v1 : Int32) (v2 : Int32) (v3 : Int32) (v5 : Int32) (v6 : Int32) (v7 : Int32) (v8 : Int32) (s0 : Int32) : Option (Mem × Int32) :=
  (if s0 = v8 then ((xlv (X6_item σ v5 (4 : Int32))).bind fun q37 => (if q37.2 = 0 then L_isRead_144 K rc q37.1 v1 v2 v3 v5 v6 v7 v8 (1 : Int32) else L_isRead_144 K rc q37.1 v1 v2 v3 v5 v6 v7 v8 (0 : Int32))) else L_isRead_164 K rc σ v1 v2 v3 v5 v6 v7 v8)
set_option maxHeartbeats 4000000 in
set_option maxRecDepth 100000 in
theorem w_L_isRead_124 {E : Ev} {G : Gw} (C : Cx E G RL cL_isRead 10 { frames := 8, cells := 0, slots := 0, locals := 164 }) {out : Mem × Int32} (F : Ef E G out.1 (some (.int out.2)) (some .boolean) 0 0)  {K : Mem → Int32 → Int32 → Int32 → Int32 → Option (Mem × Int32)} (hK : ∀ (σ : Mem) (v1 : Int32) (v2 : Int32) (v3 : Int32) (v4 : Int32), K σ v1 v2 v3 v4 = some out → J E G 10 0 0 σ 336 [(0, .ref (gA G 81)), (1, .int v1), (2, .int v2), (3, .int v3), (4, .int v4)] []) {rc : Mem → Int32 → Int32 → Int32 → Int32 → Int32 → Option (Mem × Int32)} (hrc : ∀ (σ : Mem) (v1 : Int32) (v2 : Int32) (v3 : Int32) (v4 : Int32) (v5 : Int32), rc σ v1 v2 v3 v4 v5 = some out → J E G 10 0 0 σ 39 [(0, .ref (gA G 81)), (1, .int v1), (2, .int v2), (3, .int v3), (4, .int v4), (5, .int v5)] []) (σ : Mem) (v1 : Int32) (v2 : Int32) (v3 : Int32) (v5 : Int32) (v6 : Int32) (v7 : Int32) (v8 : Int32) (s0 : Int32) (h : L_isRead_124 K rc σ v1 v2 v3 v5 v6 v7 v8 s0 = some out) : J E G 10 0 0 σ 124 [(0, .ref (gA G 81)), (1, .int v1), (2, .int v2), (3, .int v3), (5, .int v5), (6, .int v6), (7, .int v7), (8, .int v8)] [.int s0] := by
  unfold L_isRead_124 at h
  refine j_iload C dL_isRead_124 7 rfl 126 rfl ?_
  refine j_icmp_ne C dL_isRead_126 164 (by decide) 129 rfl (fun c => ?_) (fun c => ?_)
  · have h := it_f c h
    exact w_L_isRead_164 C F  hK hrc _ _ _ _ _ _ _ _ h
  · have h := it_t c h
    refine j_aload_n C dL_isRead_129 rfl 0 rfl 130 rfl ?_
    refine j_iload C dL_isRead_130 4 rfl 132 rfl ?_
    refine j_iconst C dL_isRead_132 (4 : Int32) (by decide) 133 rfl ?_
    obtain ⟨q37, e38, h⟩ := ob_some h
    refine j_callV C (ct_X6_item (eL E) G  (xlv_some e38)) sh81 foX6 rfl vk_X6_item kw3_9 rfl ⟨Nat.le_of_ble_eq_true rfl, Nat.le_of_ble_eq_true rfl, rfl, rfl⟩ ⟨Nat.zero_le _, Nat.zero_le _⟩ (rest := []) rfl (Nat.le_of_ble_eq_true rfl) dL_isRead_133 (st1 := [.int q37.2]) rfl 136 rfl ?_
    refine j_if_ne C dL_isRead_136 143 (by decide) 139 rfl (fun c => ?_) (fun c => ?_)
    · have h := it_f c h
      refine j_iconst C dL_isRead_143 (0 : Int32) (by decide) 144 rfl ?_
      exact w_L_isRead_144 C F  hK hrc _ _ _ _ _ _ _ _ _ h
    · have h := it_t c h
      refine j_iconst C dL_isRead_139 (1 : Int32) (by decide) 140 rfl ?_
      refine j_goto C dL_isRead_140 144 (by decide) ?_
      exact w_L_isRead_144 C F  hK hrc _ _ _ _ _ _ _ _ _ h
def L_isRead_79 (K : Mem → Int32 → Int32 → Int32 → Int32 → Option (Mem × Int32)) (rc : Mem → Int32 → Int32 → Int32 → Int32 → Int32 → Option (Mem × Int32)) (σ : Mem) (v1 : Int32) (v2 : Int32) (v3 : Int32) (v5 : Int32) (v6 : Int32) (v7 : Int32) (s0 : Int32) : Option (Mem × Int32) :=
  ((xlv (X6_item σ v5 (1 : Int32))).bind fun q9 => (if q9.2 = v1 then (if v6 < (1 : Int32) then L_isRead_164 K rc q9.1 v1 v2 v3 v5 v6 v7 s0 else ((xlv (X6_setting q9.1 (1 : Int32))).bind fun q33 => (if q33.2 < v6 then L_isRead_164 K rc q33.1 v1 v2 v3 v5 v6 v7 s0 else ((xlv (X6_item q33.1 v5 (0 : Int32))).bind fun q35 => (if q35.2 = (-1 : Int32) then L_isRead_124 K rc q35.1 v1 v2 v3 v5 v6 v7 s0 (1 : Int32) else L_isRead_124 K rc q35.1 v1 v2 v3 v5 v6 v7 s0 (0 : Int32)))))) else L_isRead_164 K rc q9.1 v1 v2 v3 v5 v6 v7 s0))
set_option maxHeartbeats 4000000 in
set_option maxRecDepth 100000 in
theorem w_L_isRead_79 {E : Ev} {G : Gw} (C : Cx E G RL cL_isRead 10 { frames := 8, cells := 0, slots := 0, locals := 164 }) {out : Mem × Int32} (F : Ef E G out.1 (some (.int out.2)) (some .boolean) 0 0)  {K : Mem → Int32 → Int32 → Int32 → Int32 → Option (Mem × Int32)} (hK : ∀ (σ : Mem) (v1 : Int32) (v2 : Int32) (v3 : Int32) (v4 : Int32), K σ v1 v2 v3 v4 = some out → J E G 10 0 0 σ 336 [(0, .ref (gA G 81)), (1, .int v1), (2, .int v2), (3, .int v3), (4, .int v4)] []) {rc : Mem → Int32 → Int32 → Int32 → Int32 → Int32 → Option (Mem × Int32)} (hrc : ∀ (σ : Mem) (v1 : Int32) (v2 : Int32) (v3 : Int32) (v4 : Int32) (v5 : Int32), rc σ v1 v2 v3 v4 v5 = some out → J E G 10 0 0 σ 39 [(0, .ref (gA G 81)), (1, .int v1), (2, .int v2), (3, .int v3), (4, .int v4), (5, .int v5)] []) (σ : Mem) (v1 : Int32) (v2 : Int32) (v3 : Int32) (v5 : Int32) (v6 : Int32) (v7 : Int32) (s0 : Int32) (h : L_isRead_79 K rc σ v1 v2 v3 v5 v6 v7 s0 = some out) : J E G 10 0 0 σ 79 [(0, .ref (gA G 81)), (1, .int v1), (2, .int v2), (3, .int v3), (5, .int v5), (6, .int v6), (7, .int v7)] [.int s0] := by
  unfold L_isRead_79 at h
  refine j_istore C dL_isRead_79 (by decide) [(8, .int s0), (0, .ref (gA G 81)), (1, .int v1), (2, .int v2), (3, .int v3), (5, .int v5), (6, .int v6), (7, .int v7)] rfl 81 rfl ?_
  refine j_aload_n C dL_isRead_81 rfl 1 rfl 82 rfl ?_
  refine j_iload C dL_isRead_82 5 rfl 84 rfl ?_
  refine j_iconst C dL_isRead_84 (1 : Int32) (by decide) 85 rfl ?_
  obtain ⟨q9, e10, h⟩ := ob_some h
  refine j_callV C (ct_X6_item (eL E) G  (xlv_some e10)) sh81 foX6 rfl vk_X6_item kw3_9 rfl ⟨Nat.le_of_ble_eq_true rfl, Nat.le_of_ble_eq_true rfl, rfl, rfl⟩ ⟨Nat.zero_le _, Nat.zero_le _⟩ (rest := []) rfl (Nat.le_of_ble_eq_true rfl) dL_isRead_85 (st1 := [.int q9.2]) rfl 88 rfl ?_
  refine j_iload_n C dL_isRead_88 rfl 2 rfl 89 rfl ?_
  refine j_icmp_ne C dL_isRead_89 164 (by decide) 92 rfl (fun c => ?_) (fun c => ?_)
  · have h := it_f c h
    refine j_sub [(0, .ref (gA G 81)), (1, .int v1), (2, .int v2), (3, .int v3), (5, .int v5), (6, .int v6), (7, .int v7), (8, .int s0)] [1, 2, 3, 4, 5, 6, 7, 0] rfl ?_
    exact w_L_isRead_164 C F  hK hrc _ _ _ _ _ _ _ _ h
  · have h := it_t c h
    refine j_iload C dL_isRead_92 6 rfl 94 rfl ?_
    refine j_iconst C dL_isRead_94 (1 : Int32) (by decide) 95 rfl ?_
    refine j_icmp_lt C dL_isRead_95 164 (by decide) 98 rfl (fun c => ?_) (fun c => ?_)
    · have h := it_t c h
      refine j_sub [(0, .ref (gA G 81)), (1, .int v1), (2, .int v2), (3, .int v3), (5, .int v5), (6, .int v6), (7, .int v7), (8, .int s0)] [1, 2, 3, 4, 5, 6, 7, 0] rfl ?_
      exact w_L_isRead_164 C F  hK hrc _ _ _ _ _ _ _ _ h
    · have h := it_f c h
      refine j_iload C dL_isRead_98 6 rfl 100 rfl ?_
      refine j_aload_n C dL_isRead_100 rfl 1 rfl 101 rfl ?_
      refine j_iconst C dL_isRead_101 (1 : Int32) (by decide) 102 rfl ?_
      obtain ⟨q33, e34, h⟩ := ob_some h
      refine j_callV C (ct_X6_setting (eL E) G  (xlv_some e34)) sh81 foX6 rfl vk_X6_setting kw2_237 rfl ⟨Nat.le_of_ble_eq_true rfl, Nat.le_of_ble_eq_true rfl, rfl, rfl⟩ ⟨Nat.zero_le _, Nat.zero_le _⟩ (rest := [.int v6]) rfl (Nat.le_of_ble_eq_true rfl) dL_isRead_102 (st1 := [.int q33.2, .int v6]) rfl 105 rfl ?_
      refine j_icmp_gt C dL_isRead_105 164 (by decide) 108 rfl (fun c => ?_) (fun c => ?_)
      · have h := it_t c h
        refine j_sub [(0, .ref (gA G 81)), (1, .int v1), (2, .int v2), (3, .int v3), (5, .int v5), (6, .int v6), (7, .int v7), (8, .int s0)] [1, 2, 3, 4, 5, 6, 7, 0] rfl ?_
        exact w_L_isRead_164 C F  hK hrc _ _ _ _ _ _ _ _ h
      · have h := it_f c h
        refine j_aload_n C dL_isRead_108 rfl 1 rfl 109 rfl ?_
        refine j_iload C dL_isRead_109 5 rfl 111 rfl ?_
        refine j_iconst C dL_isRead_111 (0 : Int32) (by decide) 112 rfl ?_
        obtain ⟨q35, e36, h⟩ := ob_some h
        refine j_callV C (ct_X6_item (eL E) G  (xlv_some e36)) sh81 foX6 rfl vk_X6_item kw3_9 rfl ⟨Nat.le_of_ble_eq_true rfl, Nat.le_of_ble_eq_true rfl, rfl, rfl⟩ ⟨Nat.zero_le _, Nat.zero_le _⟩ (rest := []) rfl (Nat.le_of_ble_eq_true rfl) dL_isRead_112 (st1 := [.int q35.2]) rfl 115 rfl ?_
        refine j_iconst C dL_isRead_115 (-1 : Int32) (by decide) 116 rfl ?_
        refine j_icmp_ne C dL_isRead_116 123 (by decide) 119 rfl (fun c => ?_) (fun c => ?_)
        · have h := it_f c h
          refine j_iconst C dL_isRead_123 (0 : Int32) (by decide) 124 rfl ?_
          refine j_sub [(0, .ref (gA G 81)), (1, .int v1), (2, .int v2), (3, .int v3), (5, .int v5), (6, .int v6), (7, .int v7), (8, .int s0)] [1, 2, 3, 4, 5, 6, 7, 0] rfl ?_
          exact w_L_isRead_124 C F  hK hrc _ _ _ _ _ _ _ _ _ h
        · have h := it_t c h
          refine j_iconst C dL_isRead_119 (1 : Int32) (by decide) 120 rfl ?_
          refine j_goto C dL_isRead_120 124 (by decide) ?_
          refine j_sub [(0, .ref (gA G 81)), (1, .int v1), (2, .int v2), (3, .int v3), (5, .int v5), (6, .int v6), (7, .int v7), (8, .int s0)] [1, 2, 3, 4, 5, 6, 7, 0] rfl ?_
          exact w_L_isRead_124 C F  hK hrc _ _ _ _ _ _ _ _ _ h
def L_isRead_39 (K : Mem → Int32 → Int32 → Int32 → Int32 → Option (Mem × Int32)) : Nat → Mem → Int32 → Int32 → Int32 → Int32 → Int32 → Option (Mem × Int32)
  | 0, _, _, _, _, _, _ => none
  | fu + 1, σ, v1, v2, v3, v4, v5 => (if v3 ≤ v5 then K σ v1 v2 v3 v4 else (if v4 = 0 then K σ v1 v2 v3 v4 else ((xlv (X6_item σ v5 (2 : Int32))).bind fun q5 => ((xlv (X6_item q5.1 v5 (3 : Int32))).bind fun q7 => (if q7.2 = (-1 : Int32) then L_isRead_79 K (L_isRead_39 K fu) q7.1 v1 v2 v3 v5 q5.2 q7.2 (1 : Int32) else L_isRead_79 K (L_isRead_39 K fu) q7.1 v1 v2 v3 v5 q5.2 q7.2 (0 : Int32))))))
set_option maxHeartbeats 4000000 in
set_option maxRecDepth 100000 in
theorem w_L_isRead_39 {E : Ev} {G : Gw} (C : Cx E G RL cL_isRead 10 { frames := 8, cells := 0, slots := 0, locals := 164 }) {out : Mem × Int32} (F : Ef E G out.1 (some (.int out.2)) (some .boolean) 0 0)  {K : Mem → Int32 → Int32 → Int32 → Int32 → Option (Mem × Int32)} (hK : ∀ (σ : Mem) (v1 : Int32) (v2 : Int32) (v3 : Int32) (v4 : Int32), K σ v1 v2 v3 v4 = some out → J E G 10 0 0 σ 336 [(0, .ref (gA G 81)), (1, .int v1), (2, .int v2), (3, .int v3), (4, .int v4)] []) : ∀ (fu : Nat) (σ : Mem) (v1 : Int32) (v2 : Int32) (v3 : Int32) (v4 : Int32) (v5 : Int32), L_isRead_39 K fu σ v1 v2 v3 v4 v5 = some out → J E G 10 0 0 σ 39 [(0, .ref (gA G 81)), (1, .int v1), (2, .int v2), (3, .int v3), (4, .int v4), (5, .int v5)] [] := by
  intro fu
  induction fu with
  | zero => intro σ v1 v2 v3 v4 v5 h; rw [L_isRead_39] at h; cases h
  | succ fu ih =>
    intro σ v1 v2 v3 v4 v5 h
    rw [L_isRead_39] at h
    refine j_iload C dL_isRead_39 5 rfl 41 rfl ?_
    refine j_iload_n C dL_isRead_41 rfl 3 rfl 42 rfl ?_
    refine j_icmp_ge C dL_isRead_42 336 (by decide) 45 rfl (fun c => ?_) (fun c => ?_)
    · have h := it_t c h
      refine j_sub [(0, .ref (gA G 81)), (1, .int v1), (2, .int v2), (3, .int v3), (4, .int v4)] [0, 1, 2, 3, 4] rfl ?_
      exact hK _ _ _ _ _ h
    · have h := it_f c h
      refine j_iload C dL_isRead_45 4 rfl 47 rfl ?_
      refine j_if_eq C dL_isRead_47 336 (by decide) 50 rfl (fun c => ?_) (fun c => ?_)
      · have h := it_t c h
        refine j_sub [(0, .ref (gA G 81)), (1, .int v1), (2, .int v2), (3, .int v3), (4, .int v4)] [0, 1, 2, 3, 4] rfl ?_
        exact hK _ _ _ _ _ h
      · have h := it_f c h
        refine j_aload_n C dL_isRead_50 rfl 0 rfl 51 rfl ?_
        refine j_iload C dL_isRead_51 5 rfl 53 rfl ?_
        refine j_iconst C dL_isRead_53 (2 : Int32) (by decide) 54 rfl ?_
        obtain ⟨q5, e6, h⟩ := ob_some h
        refine j_callV C (ct_X6_item (eL E) G  (xlv_some e6)) sh81 foX6 rfl vk_X6_item kw3_9 rfl ⟨Nat.le_of_ble_eq_true rfl, Nat.le_of_ble_eq_true rfl, rfl, rfl⟩ ⟨Nat.zero_le _, Nat.zero_le _⟩ (rest := []) rfl (Nat.le_of_ble_eq_true rfl) dL_isRead_54 (st1 := [.int q5.2]) rfl 57 rfl ?_
        refine j_istore C dL_isRead_57 (by decide) [(6, .int q5.2), (0, .ref (gA G 81)), (1, .int v1), (2, .int v2), (3, .int v3), (4, .int v4), (5, .int v5)] rfl 59 rfl ?_
        refine j_aload_n C dL_isRead_59 rfl 1 rfl 60 rfl ?_
        refine j_iload C dL_isRead_60 6 rfl 62 rfl ?_
        refine j_iconst C dL_isRead_62 (3 : Int32) (by decide) 63 rfl ?_
        obtain ⟨q7, e8, h⟩ := ob_some h
        refine j_callV C (ct_X6_item (eL E) G  (xlv_some e8)) sh81 foX6 rfl vk_X6_item kw3_9 rfl ⟨Nat.le_of_ble_eq_true rfl, Nat.le_of_ble_eq_true rfl, rfl, rfl⟩ ⟨Nat.zero_le _, Nat.zero_le _⟩ (rest := []) rfl (Nat.le_of_ble_eq_true rfl) dL_isRead_63 (st1 := [.int q7.2]) rfl 66 rfl ?_
        refine j_istore C dL_isRead_66 (by decide) [(7, .int q7.2), (6, .int q5.2), (0, .ref (gA G 81)), (1, .int v1), (2, .int v2), (3, .int v3), (4, .int v4), (5, .int v5)] rfl 68 rfl ?_
        refine j_iload C dL_isRead_68 0 rfl 70 rfl ?_
        refine j_iconst C dL_isRead_70 (-1 : Int32) (by decide) 71 rfl ?_
        refine j_icmp_ne C dL_isRead_71 78 (by decide) 74 rfl (fun c => ?_) (fun c => ?_)
        · have h := it_f c h
          refine j_iconst C dL_isRead_78 (0 : Int32) (by decide) 79 rfl ?_
          refine j_sub [(0, .ref (gA G 81)), (1, .int v1), (2, .int v2), (3, .int v3), (5, .int v5), (6, .int q5.2), (7, .int q7.2)] [2, 3, 4, 5, 7, 1, 0] rfl ?_
          exact w_L_isRead_79 C F  hK ih _ _ _ _ _ _ _ _ h
        · have h := it_t c h
          refine j_iconst C dL_isRead_74 (1 : Int32) (by decide) 75 rfl ?_
          refine j_goto C dL_isRead_75 79 (by decide) ?_
          refine j_sub [(0, .ref (gA G 81)), (1, .int v1), (2, .int v2), (3, .int v3), (5, .int v5), (6, .int q5.2), (7, .int q7.2)] [2, 3, 4, 5, 7, 1, 0] rfl ?_
          exact w_L_isRead_79 C F  hK ih _ _ _ _ _ _ _ _ h
def L_isRead_381 (σ : Mem) (v1 : Int32) (v3 : Int32) : Option (Mem × Int32) :=
  ((X6_least σ).bind fun q45 => (if v3 < q45.2 then some (q45.1, (0 : Int32)) else ((X6_least q45.1).bind fun q47 => (if q47.2 = 0 then (if v1 = 0 then (if (1 : Int32) = (1 : Int32) then some (q47.1, (1 : Int32)) else some (q47.1, (0 : Int32))) else (if (1 : Int32) = (0 : Int32) then some (q47.1, (1 : Int32)) else some (q47.1, (0 : Int32)))) else (if v1 = 0 then (if (0 : Int32) = (1 : Int32) then some (q47.1, (1 : Int32)) else some (q47.1, (0 : Int32))) else (if (0 : Int32) = (0 : Int32) then some (q47.1, (1 : Int32)) else some (q47.1, (0 : Int32))))))))
set_option maxHeartbeats 4000000 in
set_option maxRecDepth 100000 in
theorem w_L_isRead_381 {E : Ev} {G : Gw} (C : Cx E G RL cL_isRead 10 { frames := 8, cells := 0, slots := 0, locals := 164 }) {out : Mem × Int32} (F : Ef E G out.1 (some (.int out.2)) (some .boolean) 0 0)  (σ : Mem) (v1 : Int32) (v3 : Int32) (h : L_isRead_381 σ v1 v3 = some out) : J E G 10 0 0 σ 381 [(0, .ref (gA G 81)), (1, .int v1), (3, .int v3)] [] := by
  unfold L_isRead_381 at h
  refine j_aload_n C dL_isRead_381 rfl 0 rfl 382 rfl ?_
  obtain ⟨q45, e46, h⟩ := ob_some h
  refine j_callV C (ct_X6_least (eL E) G  e46) sh81 foX6 rfl vk_X6_least kw3_48 rfl ⟨Nat.le_of_ble_eq_true rfl, Nat.le_of_ble_eq_true rfl, rfl, rfl⟩ ⟨Nat.zero_le _, Nat.zero_le _⟩ (rest := []) rfl (Nat.le_of_ble_eq_true rfl) dL_isRead_382 (st1 := [.int q45.2]) rfl 385 rfl ?_
  refine j_iload_n C dL_isRead_385 rfl 2 rfl 386 rfl ?_
  refine j_icmp_gt C dL_isRead_386 417 (by decide) 389 rfl (fun c => ?_) (fun c => ?_)
  · have h := it_t c h
    refine j_iconst C dL_isRead_417 (0 : Int32) (by decide) 418 rfl ?_
    exact j_zret C F dL_isRead_418 (by decide) h
  · have h := it_f c h
    refine j_aload_n C dL_isRead_389 rfl 0 rfl 390 rfl ?_
    obtain ⟨q47, e48, h⟩ := ob_some h
    refine j_callV C (ct_X6_least (eL E) G  e48) sh81 foX6 rfl vk_X6_least kw3_48 rfl ⟨Nat.le_of_ble_eq_true rfl, Nat.le_of_ble_eq_true rfl, rfl, rfl⟩ ⟨Nat.zero_le _, Nat.zero_le _⟩ (rest := []) rfl (Nat.le_of_ble_eq_true rfl) dL_isRead_390 (st1 := [.int q47.2]) rfl 393 rfl ?_
    refine j_if_ne C dL_isRead_393 400 (by decide) 396 rfl (fun c => ?_) (fun c => ?_)
    · have h := it_f c h
      refine j_iconst C dL_isRead_400 (0 : Int32) (by decide) 401 rfl ?_
      refine j_iload_n C dL_isRead_401 rfl 1 rfl 402 rfl ?_
      refine j_if_ne C dL_isRead_402 409 (by decide) 405 rfl (fun c => ?_) (fun c => ?_)
      · have h := it_f c h
        refine j_iconst C dL_isRead_409 (0 : Int32) (by decide) 410 rfl ?_
        refine j_icmp_ne C dL_isRead_410 417 (by decide) 413 rfl (fun c => ?_) (fun c => ?_)
        · have h := it_f c h
          refine j_iconst C dL_isRead_417 (0 : Int32) (by decide) 418 rfl ?_
          exact j_zret C F dL_isRead_418 (by decide) h
        · have h := it_t c h
          refine j_iconst C dL_isRead_413 (1 : Int32) (by decide) 414 rfl ?_
          refine j_goto C dL_isRead_414 418 (by decide) ?_
          exact j_zret C F dL_isRead_418 (by decide) h
      · have h := it_t c h
        refine j_iconst C dL_isRead_405 (1 : Int32) (by decide) 406 rfl ?_
        refine j_goto C dL_isRead_406 410 (by decide) ?_
        refine j_icmp_ne C dL_isRead_410 417 (by decide) 413 rfl (fun c => ?_) (fun c => ?_)
        · have h := it_f c h
          refine j_iconst C dL_isRead_417 (0 : Int32) (by decide) 418 rfl ?_
          exact j_zret C F dL_isRead_418 (by decide) h
        · have h := it_t c h
          refine j_iconst C dL_isRead_413 (1 : Int32) (by decide) 414 rfl ?_
          refine j_goto C dL_isRead_414 418 (by decide) ?_
          exact j_zret C F dL_isRead_418 (by decide) h
    · have h := it_t c h
      refine j_iconst C dL_isRead_396 (1 : Int32) (by decide) 397 rfl ?_
      refine j_goto C dL_isRead_397 401 (by decide) ?_
      refine j_iload_n C dL_isRead_401 rfl 1 rfl 402 rfl ?_
      refine j_if_ne C dL_isRead_402 409 (by decide) 405 rfl (fun c => ?_) (fun c => ?_)
      · have h := it_f c h
        refine j_iconst C dL_isRead_409 (0 : Int32) (by decide) 410 rfl ?_
        refine j_icmp_ne C dL_isRead_410 417 (by decide) 413 rfl (fun c => ?_) (fun c => ?_)
        · have h := it_f c h
          refine j_iconst C dL_isRead_417 (0 : Int32) (by decide) 418 rfl ?_
          exact j_zret C F dL_isRead_418 (by decide) h
        · have h := it_t c h
          refine j_iconst C dL_isRead_413 (1 : Int32) (by decide) 414 rfl ?_
          refine j_goto C dL_isRead_414 418 (by decide) ?_
          exact j_zret C F dL_isRead_418 (by decide) h
      · have h := it_t c h
        refine j_iconst C dL_isRead_405 (1 : Int32) (by decide) 406 rfl ?_
        refine j_goto C dL_isRead_406 410 (by decide) ?_
        refine j_icmp_ne C dL_isRead_410 417 (by decide) 413 rfl (fun c => ?_) (fun c => ?_)
        · have h := it_f c h
          refine j_iconst C dL_isRead_417 (0 : Int32) (by decide) 418 rfl ?_
          exact j_zret C F dL_isRead_418 (by decide) h
        · have h := it_t c h
          refine j_iconst C dL_isRead_413 (1 : Int32) (by decide) 414 rfl ?_
          refine j_goto C dL_isRead_414 418 (by decide) ?_
          exact j_zret C F dL_isRead_418 (by decide) h
def L_isRead_336 (σ : Mem) (v1 : Int32) (v2 : Int32) (v3 : Int32) (v4 : Int32) : Option (Mem × Int32) :=
  (if v4 = 0 then some (σ, (0 : Int32)) else ((xlv (X6_count σ (0 : Int32))).bind fun q39 => (if v1 = q39.2 then ((xlv (X6_count q39.1 (3 : Int32))).bind fun q41 => (if v2 = q41.2 then ((xlv (X6_setting q41.1 (1 : Int32))).bind fun q43 => (if (1 : Int32) < q43.2 then L_isRead_381 q43.1 v1 v3 else (if v3 = v1 then ((X6_least q43.1).bind fun q49 => (if q49.2 = v1 then L_isRead_381 q49.1 v1 v3 else some (q49.1, (0 : Int32)))) else some (q43.1, (0 : Int32))))) else some (q41.1, (0 : Int32)))) else some (q39.1, (0 : Int32)))))
set_option maxHeartbeats 4000000 in
set_option maxRecDepth 100000 in
theorem w_L_isRead_336 {E : Ev} {G : Gw} (C : Cx E G RL cL_isRead 10 { frames := 8, cells := 0, slots := 0, locals := 164 }) {out : Mem × Int32} (F : Ef E G out.1 (some (.int out.2)) (some .boolean) 0 0)  (σ : Mem) (v1 : Int32) (v2 : Int32) (v3 : Int32) (v4 : Int32) (h : L_isRead_336 σ v1 v2 v3 v4 = some out) : J E G 10 0 0 σ 336 [(0, .ref (gA G 81)), (1, .int v1), (2, .int v2), (3, .int v3), (4, .int v4)] [] := by
  unfold L_isRead_336 at h
  refine j_iload C dL_isRead_336 4 rfl 338 rfl ?_
  refine j_if_eq C dL_isRead_338 417 (by decide) 341 rfl (fun c => ?_) (fun c => ?_)
  · have h := it_t c h
    refine j_iconst C dL_isRead_417 (0 : Int32) (by decide) 418 rfl ?_
    exact j_zret C F dL_isRead_418 (by decide) h
  · have h := it_f c h
    refine j_iload_n C dL_isRead_341 rfl 1 rfl 342 rfl ?_
    refine j_aload_n C dL_isRead_342 rfl 0 rfl 343 rfl ?_
    refine j_iconst C dL_isRead_343 (0 : Int32) (by decide) 344 rfl ?_
    obtain ⟨q39, e40, h⟩ := ob_some h
    refine j_callV C (ct_X6_count (eL E) G  (xlv_some e40)) sh81 foX6 rfl vk_X6_count kw2_90 rfl ⟨Nat.le_of_ble_eq_true rfl, Nat.le_of_ble_eq_true rfl, rfl, rfl⟩ ⟨Nat.zero_le _, Nat.zero_le _⟩ (rest := [.int v1]) rfl (Nat.le_of_ble_eq_true rfl) dL_isRead_344 (st1 := [.int q39.2, .int v1]) rfl 347 rfl ?_
    refine j_icmp_ne C dL_isRead_347 417 (by decide) 350 rfl (fun c => ?_) (fun c => ?_)
    · have h := it_f c h
      refine j_iconst C dL_isRead_417 (0 : Int32) (by decide) 418 rfl ?_
      exact j_zret C F dL_isRead_418 (by decide) h
    · have h := it_t c h
      refine j_iload_n C dL_isRead_350 rfl 2 rfl 351 rfl ?_
      refine j_aload_n C dL_isRead_351 rfl 0 rfl 352 rfl ?_
      refine j_iconst C dL_isRead_352 (3 : Int32) (by decide) 353 rfl ?_
      obtain ⟨q41, e42, h⟩ := ob_some h
      refine j_callV C (ct_X6_count (eL E) G  (xlv_some e42)) sh81 foX6 rfl vk_X6_count kw2_90 rfl ⟨Nat.le_of_ble_eq_true rfl, Nat.le_of_ble_eq_true rfl, rfl, rfl⟩ ⟨Nat.zero_le _, Nat.zero_le _⟩ (rest := [.int v2]) rfl (Nat.le_of_ble_eq_true rfl) dL_isRead_353 (st1 := [.int q41.2, .int v2]) rfl 356 rfl ?_
      refine j_icmp_ne C dL_isRead_356 417 (by decide) 359 rfl (fun c => ?_) (fun c => ?_)
      · have h := it_f c h
        refine j_iconst C dL_isRead_417 (0 : Int32) (by decide) 418 rfl ?_
        exact j_zret C F dL_isRead_418 (by decide) h
      · have h := it_t c h
        refine j_aload_n C dL_isRead_359 rfl 0 rfl 360 rfl ?_
        refine j_iconst C dL_isRead_360 (1 : Int32) (by decide) 361 rfl ?_
        obtain ⟨q43, e44, h⟩ := ob_some h
        refine j_callV C (ct_X6_setting (eL E) G  (xlv_some e44)) sh81 foX6 rfl vk_X6_setting kw2_237 rfl ⟨Nat.le_of_ble_eq_true rfl, Nat.le_of_ble_eq_true rfl, rfl, rfl⟩ ⟨Nat.zero_le _, Nat.zero_le _⟩ (rest := []) rfl (Nat.le_of_ble_eq_true rfl) dL_isRead_361 (st1 := [.int q43.2]) rfl 364 rfl ?_
        refine j_iconst C dL_isRead_364 (1 : Int32) (by decide) 365 rfl ?_
        refine j_icmp_gt C dL_isRead_365 381 (by decide) 368 rfl (fun c => ?_) (fun c => ?_)
        · have h := it_t c h
          refine j_sub [(0, .ref (gA G 81)), (1, .int v1), (3, .int v3)] [0, 1, 3] rfl ?_
          exact w_L_isRead_381 C F  _ _ _ h
        · have h := it_f c h
          refine j_iload_n C dL_isRead_368 rfl 3 rfl 369 rfl ?_
          refine j_iload_n C dL_isRead_369 rfl 1 rfl 370 rfl ?_
          refine j_icmp_ne C dL_isRead_370 417 (by decide) 373 rfl (fun c => ?_) (fun c => ?_)
          · have h := it_f c h
            refine j_iconst C dL_isRead_417 (0 : Int32) (by decide) 418 rfl ?_
            exact j_zret C F dL_isRead_418 (by decide) h
          · have h := it_t c h
            refine j_aload_n C dL_isRead_373 rfl 0 rfl 374 rfl ?_
            obtain ⟨q49, e50, h⟩ := ob_some h
            refine j_callV C (ct_X6_least (eL E) G  e50) sh81 foX6 rfl vk_X6_least kw3_48 rfl ⟨Nat.le_of_ble_eq_true rfl, Nat.le_of_ble_eq_true rfl, rfl, rfl⟩ ⟨Nat.zero_le _, Nat.zero_le _⟩ (rest := []) rfl (Nat.le_of_ble_eq_true rfl) dL_isRead_374 (st1 := [.int q49.2]) rfl 377 rfl ?_
            refine j_iload_n C dL_isRead_377 rfl 1 rfl 378 rfl ?_
            refine j_icmp_ne C dL_isRead_378 417 (by decide) 381 rfl (fun c => ?_) (fun c => ?_)
            · have h := it_f c h
              refine j_iconst C dL_isRead_417 (0 : Int32) (by decide) 418 rfl ?_
              exact j_zret C F dL_isRead_418 (by decide) h
            · have h := it_t c h
              refine j_sub [(0, .ref (gA G 81)), (1, .int v1), (3, .int v3)] [0, 1, 3] rfl ?_
              exact w_L_isRead_381 C F  _ _ _ h
def L_isRead (σ : Mem) : Option (Mem × Int32) :=
  ((xlv (X6_count σ (2 : Int32))).bind fun q1 => ((xlv (X6_count q1.1 (1 : Int32))).bind fun q3 => (if q3.2 = q1.2 then ((xlv (X6_count q3.1 (0 : Int32))).bind fun q51 => (if (60 : Int32) < q51.2 then L_isRead_39 (fun (σ : Mem) (v1 : Int32) (v2 : Int32) (v3 : Int32) (v4 : Int32) => L_isRead_336 σ v1 v2 v3 v4) FU q51.1 (0 : Int32) (0 : Int32) q1.2 (0 : Int32) (0 : Int32) else L_isRead_39 (fun (σ : Mem) (v1 : Int32) (v2 : Int32) (v3 : Int32) (v4 : Int32) => L_isRead_336 σ v1 v2 v3 v4) FU q51.1 (0 : Int32) (0 : Int32) q1.2 (1 : Int32) (0 : Int32))) else L_isRead_39 (fun (σ : Mem) (v1 : Int32) (v2 : Int32) (v3 : Int32) (v4 : Int32) => L_isRead_336 σ v1 v2 v3 v4) FU q3.1 (0 : Int32) (0 : Int32) q1.2 (0 : Int32) (0 : Int32))))
set_option maxHeartbeats 4000000 in
set_option maxRecDepth 100000 in
theorem ct_L_isRead (l : Launch) (G : Gw)  {σ : Mem} {out : Mem × Int32} (h : L_isRead σ = some out) : Ct l G yL_isRead cL_isRead 10 (some .boolean) { frames := 8, cells := 0, slots := 0, locals := 164 } [.ref (gA G 81)] σ out.1 (some (.int out.2)) := by
  refine Ct.of (by decide +kernel) (Nat.le_of_ble_eq_true rfl) (fun E hE C F => ?_)
  subst hE
  have C : Cx E G RL cL_isRead 10 { frames := 8, cells := 0, slots := 0, locals := 164 } := C
  unfold L_isRead at h
  show J E G 10 0 0 σ 0 [(0, .ref (gA G 81))] []
  refine j_iconst C dL_isRead_0 (0 : Int32) (by decide) 1 rfl ?_
  refine j_istore_n C dL_isRead_1 rfl (by decide) [(1, .int (0 : Int32)), (0, .ref (gA G 81))] rfl 2 rfl ?_
  refine j_iconst C dL_isRead_2 (0 : Int32) (by decide) 3 rfl ?_
  refine j_istore_n C dL_isRead_3 rfl (by decide) [(2, .int (0 : Int32)), (1, .int (0 : Int32)), (0, .ref (gA G 81))] rfl 4 rfl ?_
  refine j_aload_n C dL_isRead_4 rfl 2 rfl 5 rfl ?_
  refine j_iconst C dL_isRead_5 (2 : Int32) (by decide) 6 rfl ?_
  obtain ⟨q1, e2, h⟩ := ob_some h
  refine j_callV C (ct_X6_count (eL E) G  (xlv_some e2)) sh81 foX6 rfl vk_X6_count kw2_90 rfl ⟨Nat.le_of_ble_eq_true rfl, Nat.le_of_ble_eq_true rfl, rfl, rfl⟩ ⟨Nat.zero_le _, Nat.zero_le _⟩ (rest := []) rfl (Nat.le_of_ble_eq_true rfl) dL_isRead_6 (st1 := [.int q1.2]) rfl 9 rfl ?_
  refine j_istore_n C dL_isRead_9 rfl (by decide) [(3, .int q1.2), (2, .int (0 : Int32)), (1, .int (0 : Int32)), (0, .ref (gA G 81))] rfl 10 rfl ?_
  refine j_aload_n C dL_isRead_10 rfl 3 rfl 11 rfl ?_
  refine j_iconst C dL_isRead_11 (1 : Int32) (by decide) 12 rfl ?_
  obtain ⟨q3, e4, h⟩ := ob_some h
  refine j_callV C (ct_X6_count (eL E) G  (xlv_some e4)) sh81 foX6 rfl vk_X6_count kw2_90 rfl ⟨Nat.le_of_ble_eq_true rfl, Nat.le_of_ble_eq_true rfl, rfl, rfl⟩ ⟨Nat.zero_le _, Nat.zero_le _⟩ (rest := []) rfl (Nat.le_of_ble_eq_true rfl) dL_isRead_12 (st1 := [.int q3.2]) rfl 15 rfl ?_
  refine j_iload_n C dL_isRead_15 rfl 0 rfl 16 rfl ?_
  refine j_icmp_ne C dL_isRead_16 33 (by decide) 19 rfl (fun c => ?_) (fun c => ?_)
  · have h := it_f c h
    refine j_iconst C dL_isRead_33 (0 : Int32) (by decide) 34 rfl ?_
    refine j_istore C dL_isRead_34 (by decide) [(4, .int (0 : Int32)), (3, .int q1.2), (2, .int (0 : Int32)), (1, .int (0 : Int32)), (0, .ref (gA G 81))] rfl 36 rfl ?_
    refine j_iconst C dL_isRead_36 (0 : Int32) (by decide) 37 rfl ?_
    refine j_istore C dL_isRead_37 (by decide) [(5, .int (0 : Int32)), (4, .int (0 : Int32)), (3, .int q1.2), (2, .int (0 : Int32)), (1, .int (0 : Int32)), (0, .ref (gA G 81))] rfl 39 rfl ?_
    refine j_sub [(0, .ref (gA G 81)), (1, .int (0 : Int32)), (2, .int (0 : Int32)), (3, .int q1.2), (4, .int (0 : Int32)), (5, .int (0 : Int32))] [5, 4, 3, 2, 1, 0] rfl ?_
    refine w_L_isRead_39 C F  (fun σ v1 v2 v3 v4 h => ?_) FU _ _ _ _ _ _ h
    exact w_L_isRead_336 C F  _ _ _ _ _ h
  · have h := it_t c h
    refine j_aload_n C dL_isRead_19 rfl 3 rfl 20 rfl ?_
    refine j_iconst C dL_isRead_20 (0 : Int32) (by decide) 21 rfl ?_
    obtain ⟨q51, e52, h⟩ := ob_some h
    refine j_callV C (ct_X6_count (eL E) G  (xlv_some e52)) sh81 foX6 rfl vk_X6_count kw2_90 rfl ⟨Nat.le_of_ble_eq_true rfl, Nat.le_of_ble_eq_true rfl, rfl, rfl⟩ ⟨Nat.zero_le _, Nat.zero_le _⟩ (rest := []) rfl (Nat.le_of_ble_eq_true rfl) dL_isRead_21 (st1 := [.int q51.2]) rfl 24 rfl ?_
    refine j_bipush C dL_isRead_24 (60 : Int32) (by decide) 26 rfl ?_
    refine j_icmp_gt C dL_isRead_26 33 (by decide) 29 rfl (fun c => ?_) (fun c => ?_)
    · have h := it_t c h
      refine j_iconst C dL_isRead_33 (0 : Int32) (by decide) 34 rfl ?_
      refine j_istore C dL_isRead_34 (by decide) [(4, .int (0 : Int32)), (3, .int q1.2), (2, .int (0 : Int32)), (1, .int (0 : Int32)), (0, .ref (gA G 81))] rfl 36 rfl ?_
      refine j_iconst C dL_isRead_36 (0 : Int32) (by decide) 37 rfl ?_
      refine j_istore C dL_isRead_37 (by decide) [(5, .int (0 : Int32)), (4, .int (0 : Int32)), (3, .int q1.2), (2, .int (0 : Int32)), (1, .int (0 : Int32)), (0, .ref (gA G 81))] rfl 39 rfl ?_
      refine j_sub [(0, .ref (gA G 81)), (1, .int (0 : Int32)), (2, .int (0 : Int32)), (3, .int q1.2), (4, .int (0 : Int32)), (5, .int (0 : Int32))] [5, 4, 3, 2, 1, 0] rfl ?_
      refine w_L_isRead_39 C F  (fun σ v1 v2 v3 v4 h => ?_) FU _ _ _ _ _ _ h
      exact w_L_isRead_336 C F  _ _ _ _ _ h
    · have h := it_f c h
      refine j_iconst C dL_isRead_29 (1 : Int32) (by decide) 30 rfl ?_
      refine j_goto C dL_isRead_30 34 (by decide) ?_
      refine j_istore C dL_isRead_34 (by decide) [(4, .int (1 : Int32)), (3, .int q1.2), (2, .int (0 : Int32)), (1, .int (0 : Int32)), (0, .ref (gA G 81))] rfl 36 rfl ?_
      refine j_iconst C dL_isRead_36 (0 : Int32) (by decide) 37 rfl ?_
      refine j_istore C dL_isRead_37 (by decide) [(5, .int (0 : Int32)), (4, .int (1 : Int32)), (3, .int q1.2), (2, .int (0 : Int32)), (1, .int (0 : Int32)), (0, .ref (gA G 81))] rfl 39 rfl ?_
      refine j_sub [(0, .ref (gA G 81)), (1, .int (0 : Int32)), (2, .int (0 : Int32)), (3, .int q1.2), (4, .int (1 : Int32)), (5, .int (0 : Int32))] [5, 4, 3, 2, 1, 0] rfl ?_
      refine w_L_isRead_39 C F  (fun σ v1 v2 v3 v4 h => ?_) FU _ _ _ _ _ _ h
      exact w_L_isRead_336 C F  _ _ _ _ _ h

-- ===== StenoChordsLaw.areEntries(LStenoChords;)Z
theorem vk_L_areEntries : SK yL_areEntries cL_areEntries 7 (some .boolean) 1 := ⟨kw3_59, kw3_58, kw1_0, by decide +kernel⟩
def L_areEntries_192 (K : Mem → Int32 → Int32 → Int32 → Int32 → Option (Mem × Int32)) (rc : Mem → Int32 → Int32 → Int32 → Int32 → Int32 → Option (Mem × Int32)) (σ : Mem) (v1 : Int32) (v2 : Int32) (v3 : Int32) (v5 : Int32) (v6 : Int32) (s0 : Int32) (s1 : Int32) : Option (Mem × Int32) :=
  (if v2 = 0 then rc σ v1 (0 : Int32) v3 (s1 + s0) (v5 + (1 : Int32)) else (if v6 = 0 then rc σ v1 (1 : Int32) v3 (s1 + s0) (v5 + (1 : Int32)) else (if v3 = v5 then rc σ v1 (1 : Int32) v3 (s1 + s0) (v5 + (1 : Int32)) else ((xlv (X6_entry σ v3 (0 : Int32))).bind fun q13 => ((xlv (X6_entry q13.1 v5 (0 : Int32))).bind fun q15 => (if q13.2 = q15.2 then rc q15.1 v1 (0 : Int32) v3 (s1 + s0) (v5 + (1 : Int32)) else rc q15.1 v1 (1 : Int32) v3 (s1 + s0) (v5 + (1 : Int32))))))))
set_option maxHeartbeats 4000000 in
set_option maxRecDepth 100000 in
theorem w_L_areEntries_192 {E : Ev} {G : Gw} (C : Cx E G RL cL_areEntries 7 { frames := 7, cells := 0, slots := 0, locals := 139 }) {out : Mem × Int32} (F : Ef E G out.1 (some (.int out.2)) (some .boolean) 0 0)  {K : Mem → Int32 → Int32 → Int32 → Int32 → Option (Mem × Int32)} (hK : ∀ (σ : Mem) (v1 : Int32) (v2 : Int32) (v3 : Int32) (v4 : Int32), K σ v1 v2 v3 v4 = some out → J E G 7 0 0 σ 238 [(0, .ref (gA G 81)), (1, .int v1), (2, .int v2), (3, .int v3), (4, .int v4)] []) {rc : Mem → Int32 → Int32 → Int32 → Int32 → Int32 → Option (Mem × Int32)} (hrc : ∀ (σ : Mem) (v1 : Int32) (v2 : Int32) (v3 : Int32) (v4 : Int32) (v5 : Int32), rc σ v1 v2 v3 v4 v5 = some out → J E G 7 0 0 σ 76 [(0, .ref (gA G 81)), (1, .int v1), (2, .int v2), (3, .int v3), (4, .int v4), (5, .int v5)] []) (σ : Mem) (v1 : Int32) (v2 : Int32) (v3 : Int32) (v5 : Int32) (v6 : Int32) (s0 : Int32) (s1 : Int32) (h : L_areEntries_192 K rc σ v1 v2 v3 v5 v6 s0 s1 = some out) : J E G 7 0 0 σ 192 [(0, .ref (gA G 81)), (1, .int v1), (2, .int v2), (3, .int v3), (5, .int v5), (6, .int v6)] [.int s0, .int s1] := by
  unfold L_areEntries_192 at h
  refine j_iadd C dL_areEntries_192 193 rfl ?_
  refine j_istore C dL_areEntries_193 (by decide) [(4, .int (s1 + s0)), (0, .ref (gA G 81)), (1, .int v1), (2, .int v2), (3, .int v3), (5, .int v5), (6, .int v6)] rfl 195 rfl ?_
  refine j_iload_n C dL_areEntries_195 rfl 3 rfl 196 rfl ?_
  refine j_if_eq C dL_areEntries_196 230 (by decide) 199 rfl (fun c => ?_) (fun c => ?_)
  · have h := it_t c h
    refine j_iconst C dL_areEntries_230 (0 : Int32) (by decide) 231 rfl ?_
    refine j_istore_n C dL_areEntries_231 rfl (by decide) [(2, .int (0 : Int32)), (4, .int (s1 + s0)), (0, .ref (gA G 81)), (1, .int v1), (3, .int v3), (5, .int v5), (6, .int v6)] rfl 232 rfl ?_
    refine j_iinc C dL_areEntries_232 5 rfl (v5 + (1 : Int32)) rfl (by decide) [(5, .int (v5 + (1 : Int32))), (2, .int (0 : Int32)), (4, .int (s1 + s0)), (0, .ref (gA G 81)), (1, .int v1), (3, .int v3), (6, .int v6)] rfl 235 rfl ?_
    refine j_goto C dL_areEntries_235 76 (by decide) ?_
    refine j_sub [(0, .ref (gA G 81)), (1, .int v1), (2, .int (0 : Int32)), (3, .int v3), (4, .int (s1 + s0)), (5, .int (v5 + (1 : Int32)))] [3, 4, 1, 5, 2, 0] rfl ?_
    exact hrc _ _ _ _ _ _ h
  · have h := it_f c h
    refine j_iload C dL_areEntries_199 6 rfl 201 rfl ?_
    refine j_if_eq C dL_areEntries_201 226 (by decide) 204 rfl (fun c => ?_) (fun c => ?_)
    · have h := it_t c h
      refine j_iconst C dL_areEntries_226 (1 : Int32) (by decide) 227 rfl ?_
      refine j_goto C dL_areEntries_227 231 (by decide) ?_
      refine j_istore_n C dL_areEntries_231 rfl (by decide) [(2, .int (1 : Int32)), (4, .int (s1 + s0)), (0, .ref (gA G 81)), (1, .int v1), (3, .int v3), (5, .int v5), (6, .int v6)] rfl 232 rfl ?_
      refine j_iinc C dL_areEntries_232 5 rfl (v5 + (1 : Int32)) rfl (by decide) [(5, .int (v5 + (1 : Int32))), (2, .int (1 : Int32)), (4, .int (s1 + s0)), (0, .ref (gA G 81)), (1, .int v1), (3, .int v3), (6, .int v6)] rfl 235 rfl ?_
      refine j_goto C dL_areEntries_235 76 (by decide) ?_
      refine j_sub [(0, .ref (gA G 81)), (1, .int v1), (2, .int (1 : Int32)), (3, .int v3), (4, .int (s1 + s0)), (5, .int (v5 + (1 : Int32)))] [3, 4, 1, 5, 2, 0] rfl ?_
      exact hrc _ _ _ _ _ _ h
    · have h := it_f c h
      refine j_iload_n C dL_areEntries_204 rfl 4 rfl 205 rfl ?_
      refine j_iload C dL_areEntries_205 5 rfl 207 rfl ?_
      refine j_icmp_eq C dL_areEntries_207 226 (by decide) 210 rfl (fun c => ?_) (fun c => ?_)
      · have h := it_t c h
        refine j_iconst C dL_areEntries_226 (1 : Int32) (by decide) 227 rfl ?_
        refine j_goto C dL_areEntries_227 231 (by decide) ?_
        refine j_istore_n C dL_areEntries_231 rfl (by decide) [(2, .int (1 : Int32)), (4, .int (s1 + s0)), (0, .ref (gA G 81)), (1, .int v1), (3, .int v3), (5, .int v5), (6, .int v6)] rfl 232 rfl ?_
        refine j_iinc C dL_areEntries_232 5 rfl (v5 + (1 : Int32)) rfl (by decide) [(5, .int (v5 + (1 : Int32))), (2, .int (1 : Int32)), (4, .int (s1 + s0)), (0, .ref (gA G 81)), (1, .int v1), (3, .int v3), (6, .int v6)] rfl 235 rfl ?_
        refine j_goto C dL_areEntries_235 76 (by decide) ?_
        refine j_sub [(0, .ref (gA G 81)), (1, .int v1), (2, .int (1 : Int32)), (3, .int v3), (4, .int (s1 + s0)), (5, .int (v5 + (1 : Int32)))] [3, 4, 1, 5, 2, 0] rfl ?_
        exact hrc _ _ _ _ _ _ h
      · have h := it_f c h
        refine j_aload_n C dL_areEntries_210 rfl 1 rfl 211 rfl ?_
        refine j_iload_n C dL_areEntries_211 rfl 4 rfl 212 rfl ?_
        refine j_iconst C dL_areEntries_212 (0 : Int32) (by decide) 213 rfl ?_
        obtain ⟨q13, e14, h⟩ := ob_some h
        refine j_callV C (ct_X6_entry (eL E) G  (xlv_some e14)) sh81 foX6 rfl vk_X6_entry kw2_210 rfl ⟨Nat.le_of_ble_eq_true rfl, Nat.le_of_ble_eq_true rfl, rfl, rfl⟩ ⟨Nat.zero_le _, Nat.zero_le _⟩ (rest := []) rfl (Nat.le_of_ble_eq_true rfl) dL_areEntries_213 (st1 := [.int q13.2]) rfl 216 rfl ?_
        refine j_aload_n C dL_areEntries_216 rfl 1 rfl 217 rfl ?_
        refine j_iload C dL_areEntries_217 5 rfl 219 rfl ?_
        refine j_iconst C dL_areEntries_219 (0 : Int32) (by decide) 220 rfl ?_
        obtain ⟨q15, e16, h⟩ := ob_some h
        refine j_callV C (ct_X6_entry (eL E) G  (xlv_some e16)) sh81 foX6 rfl vk_X6_entry kw2_210 rfl ⟨Nat.le_of_ble_eq_true rfl, Nat.le_of_ble_eq_true rfl, rfl, rfl⟩ ⟨Nat.zero_le _, Nat.zero_le _⟩ (rest := [.int q13.2]) rfl (Nat.le_of_ble_eq_true rfl) dL_areEntries_220 (st1 := [.int q15.2, .int q13.2]) rfl 223 rfl ?_
        refine j_icmp_eq C dL_areEntries_223 230 (by decide) 226 rfl (fun c => ?_) (fun c => ?_)
        · have h := it_t c h
          refine j_iconst C dL_areEntries_230 (0 : Int32) (by decide) 231 rfl ?_
          refine j_istore_n C dL_areEntries_231 rfl (by decide) [(2, .int (0 : Int32)), (4, .int (s1 + s0)), (0, .ref (gA G 81)), (1, .int v1), (3, .int v3), (5, .int v5), (6, .int v6)] rfl 232 rfl ?_
          refine j_iinc C dL_areEntries_232 5 rfl (v5 + (1 : Int32)) rfl (by decide) [(5, .int (v5 + (1 : Int32))), (2, .int (0 : Int32)), (4, .int (s1 + s0)), (0, .ref (gA G 81)), (1, .int v1), (3, .int v3), (6, .int v6)] rfl 235 rfl ?_
          refine j_goto C dL_areEntries_235 76 (by decide) ?_
          refine j_sub [(0, .ref (gA G 81)), (1, .int v1), (2, .int (0 : Int32)), (3, .int v3), (4, .int (s1 + s0)), (5, .int (v5 + (1 : Int32)))] [3, 4, 1, 5, 2, 0] rfl ?_
          exact hrc _ _ _ _ _ _ h
        · have h := it_f c h
          refine j_iconst C dL_areEntries_226 (1 : Int32) (by decide) 227 rfl ?_
          refine j_goto C dL_areEntries_227 231 (by decide) ?_
          refine j_istore_n C dL_areEntries_231 rfl (by decide) [(2, .int (1 : Int32)), (4, .int (s1 + s0)), (0, .ref (gA G 81)), (1, .int v1), (3, .int v3), (5, .int v5), (6, .int v6)] rfl 232 rfl ?_
          refine j_iinc C dL_areEntries_232 5 rfl (v5 + (1 : Int32)) rfl (by decide) [(5, .int (v5 + (1 : Int32))), (2, .int (1 : Int32)), (4, .int (s1 + s0)), (0, .ref (gA G 81)), (1, .int v1), (3, .int v3), (6, .int v6)] rfl 235 rfl ?_
          refine j_goto C dL_areEntries_235 76 (by decide) ?_
          refine j_sub [(0, .ref (gA G 81)), (1, .int v1), (2, .int (1 : Int32)), (3, .int v3), (4, .int (s1 + s0)), (5, .int (v5 + (1 : Int32)))] [3, 4, 1, 5, 2, 0] rfl ?_
          exact hrc _ _ _ _ _ _ h
def L_areEntries_171 (K : Mem → Int32 → Int32 → Int32 → Int32 → Option (Mem × Int32)) (rc : Mem → Int32 → Int32 → Int32 → Int32 → Int32 → Option (Mem × Int32)) (σ : Mem) (v1 : Int32) (v2 : Int32) (v3 : Int32) (v4 : Int32) (v5 : Int32) (s0 : Int32) : Option (Mem × Int32) :=
  (if s0 = 0 then L_areEntries_192 K rc σ v1 v2 v3 v5 s0 (0 : Int32) v4 else ((xlv (X6_entry σ v5 (7 : Int32))).bind fun q17 => L_areEntries_192 K rc q17.1 v1 v2 v3 v5 s0 q17.2 v4))
set_option maxHeartbeats 4000000 in
set_option maxRecDepth 100000 in
theorem w_L_areEntries_171 {E : Ev} {G : Gw} (C : Cx E G RL cL_areEntries 7 { frames := 7, cells := 0, slots := 0, locals := 139 }) {out : Mem × Int32} (F : Ef E G out.1 (some (.int out.2)) (some .boolean) 0 0)  {K : Mem → Int32 → Int32 → Int32 → Int32 → Option (Mem × Int32)} (hK : ∀ (σ : Mem) (v1 : Int32) (v2 : Int32) (v3 : Int32) (v4 : Int32), K σ v1 v2 v3 v4 = some out → J E G 7 0 0 σ 238 [(0, .ref (gA G 81)), (1, .int v1), (2, .int v2), (3, .int v3), (4, .int v4)] []) {rc : Mem → Int32 → Int32 → Int32 → Int32 → Int32 → Option (Mem × Int32)} (hrc : ∀ (σ : Mem) (v1 : Int32) (v2 : Int32) (v3 : Int32) (v4 : Int32) (v5 : Int32), rc σ v1 v2 v3 v4 v5 = some out → J E G 7 0 0 σ 76 [(0, .ref (gA G 81)), (1, .int v1), (2, .int v2), (3, .int v3), (4, .int v4), (5, .int v5)] []) (σ : Mem) (v1 : Int32) (v2 : Int32) (v3 : Int32) (v4 : Int32) (v5 : Int32) (s0 : Int32) (h : L_areEntries_171 K rc σ v1 v2 v3 v4 v5 s0 = some out) : J E G 7 0 0 σ 171 [(0, .ref (gA G 81)), (1, .int v1), (2, .int v2), (3, .int v3), (4, .int v4), (5, .int v5)] [.int s0] := by
  unfold L_areEntries_171 at h
  refine j_istore C dL_areEntries_171 (by decide) [(6, .int s0), (0, .ref (gA G 81)), (1, .int v1), (2, .int v2), (3, .int v3), (4, .int v4), (5, .int v5)] rfl 173 rfl ?_
  refine j_iload C dL_areEntries_173 5 rfl 175 rfl ?_
  refine j_iload C dL_areEntries_175 0 rfl 177 rfl ?_
  refine j_if_eq C dL_areEntries_177 191 (by decide) 180 rfl (fun c => ?_) (fun c => ?_)
  · have h := it_t c h
    refine j_iconst C dL_areEntries_191 (0 : Int32) (by decide) 192 rfl ?_
    refine j_sub [(0, .ref (gA G 81)), (1, .int v1), (2, .int v2), (3, .int v3), (5, .int v5), (6, .int s0)] [1, 2, 3, 4, 6, 0] rfl ?_
    exact w_L_areEntries_192 C F  hK hrc _ _ _ _ _ _ _ _ h
  · have h := it_f c h
    refine j_aload_n C dL_areEntries_180 rfl 1 rfl 181 rfl ?_
    refine j_iload C dL_areEntries_181 6 rfl 183 rfl ?_
    refine j_bipush C dL_areEntries_183 (7 : Int32) (by decide) 185 rfl ?_
    obtain ⟨q17, e18, h⟩ := ob_some h
    refine j_callV C (ct_X6_entry (eL E) G  (xlv_some e18)) sh81 foX6 rfl vk_X6_entry kw2_210 rfl ⟨Nat.le_of_ble_eq_true rfl, Nat.le_of_ble_eq_true rfl, rfl, rfl⟩ ⟨Nat.zero_le _, Nat.zero_le _⟩ (rest := [.int v4]) rfl (Nat.le_of_ble_eq_true rfl) dL_areEntries_185 (st1 := [.int q17.2, .int v4]) rfl 188 rfl ?_
    refine j_goto C dL_areEntries_188 192 (by decide) ?_
    refine j_sub [(0, .ref (gA G 81)), (1, .int v1), (2, .int v2), (3, .int v3), (5, .int v5), (6, .int s0)] [1, 2, 3, 4, 6, 0] rfl ?_
    exact w_L_areEntries_192 C F  hK hrc _ _ _ _ _ _ _ _ h
def L_areEntries_170 (K : Mem → Int32 → Int32 → Int32 → Int32 → Option (Mem × Int32)) (rc : Mem → Int32 → Int32 → Int32 → Int32 → Int32 → Option (Mem × Int32)) (σ : Mem) (v1 : Int32) (v2 : Int32) (v3 : Int32) (v4 : Int32) (v5 : Int32) : Option (Mem × Int32) :=
  L_areEntries_171 K rc σ v1 v2 v3 v4 v5 (0 : Int32)
set_option maxHeartbeats 4000000 in
set_option maxRecDepth 100000 in
theorem w_L_areEntries_170 {E : Ev} {G : Gw} (C : Cx E G RL cL_areEntries 7 { frames := 7, cells := 0, slots := 0, locals := 139 }) {out : Mem × Int32} (F : Ef E G out.1 (some (.int out.2)) (some .boolean) 0 0)  {K : Mem → Int32 → Int32 → Int32 → Int32 → Option (Mem × Int32)} (hK : ∀ (σ : Mem) (v1 : Int32) (v2 : Int32) (v3 : Int32) (v4 : Int32), K σ v1 v2 v3 v4 = some out → J E G 7 0 0 σ 238 [(0, .ref (gA G 81)), (1, .int v1), (2, .int v2), (3, .int v3), (4, .int v4)] []) {rc : Mem → Int32 → Int32 → Int32 → Int32 → Int32 → Option (Mem × Int32)} (hrc : ∀ (σ : Mem) (v1 : Int32) (v2 : Int32) (v3 : Int32) (v4 : Int32) (v5 : Int32), rc σ v1 v2 v3 v4 v5 = some out → J E G 7 0 0 σ 76 [(0, .ref (gA G 81)), (1, .int v1), (2, .int v2), (3, .int v3), (4, .int v4), (5, .int v5)] []) (σ : Mem) (v1 : Int32) (v2 : Int32) (v3 : Int32) (v4 : Int32) (v5 : Int32) (h : L_areEntries_170 K rc σ v1 v2 v3 v4 v5 = some out) : J E G 7 0 0 σ 170 [(0, .ref (gA G 81)), (1, .int v1), (2, .int v2), (3, .int v3), (4, .int v4), (5, .int v5)] [] := by
  unfold L_areEntries_170 at h
  refine j_iconst C dL_areEntries_170 (0 : Int32) (by decide) 171 rfl ?_
  exact w_L_areEntries_171 C F  hK hrc _ _ _ _ _ _ _ h
def L_areEntries_76 (K : Mem → Int32 → Int32 → Int32 → Int32 → Option (Mem × Int32)) : Nat → Mem → Int32 → Int32 → Int32 → Int32 → Int32 → Option (Mem × Int32)
  | 0, _, _, _, _, _, _ => none
  | fu + 1, σ, v1, v2, v3, v4, v5 => ((xlv (X6_count σ (4 : Int32))).bind fun q7 => (if q7.2 ≤ v5 then K q7.1 v1 v2 v3 v4 else ((xlv (X6_entry q7.1 v3 (1 : Int32))).bind fun q9 => ((xlv (X6_entry q9.1 v5 (1 : Int32))).bind fun q11 => (if q9.2 = q11.2 then ((xlv (X6_entry q11.1 v3 (2 : Int32))).bind fun q19 => ((xlv (X6_entry q19.1 v5 (2 : Int32))).bind fun q21 => (if q19.2 = q21.2 then ((xlv (X6_entry q21.1 v3 (3 : Int32))).bind fun q23 => ((xlv (X6_entry q23.1 v5 (3 : Int32))).bind fun q25 => (if q23.2 = q25.2 then ((xlv (X6_entry q25.1 v3 (4 : Int32))).bind fun q27 => ((xlv (X6_entry q27.1 v5 (4 : Int32))).bind fun q29 => (if q27.2 = q29.2 then ((xlv (X6_entry q29.1 v3 (5 : Int32))).bind fun q31 => ((xlv (X6_entry q31.1 v5 (5 : Int32))).bind fun q33 => (if q31.2 = q33.2 then L_areEntries_171 K (L_areEntries_76 K fu) q33.1 v1 v2 v3 v4 v5 (1 : Int32) else L_areEntries_170 K (L_areEntries_76 K fu) q33.1 v1 v2 v3 v4 v5))) else L_areEntries_170 K (L_areEntries_76 K fu) q29.1 v1 v2 v3 v4 v5))) else L_areEntries_170 K (L_areEntries_76 K fu) q25.1 v1 v2 v3 v4 v5))) else L_areEntries_170 K (L_areEntries_76 K fu) q21.1 v1 v2 v3 v4 v5))) else L_areEntries_170 K (L_areEntries_76 K fu) q11.1 v1 v2 v3 v4 v5)))))
set_option maxHeartbeats 4000000 in
set_option maxRecDepth 100000 in
theorem w_L_areEntries_76 {E : Ev} {G : Gw} (C : Cx E G RL cL_areEntries 7 { frames := 7, cells := 0, slots := 0, locals := 139 }) {out : Mem × Int32} (F : Ef E G out.1 (some (.int out.2)) (some .boolean) 0 0)  {K : Mem → Int32 → Int32 → Int32 → Int32 → Option (Mem × Int32)} (hK : ∀ (σ : Mem) (v1 : Int32) (v2 : Int32) (v3 : Int32) (v4 : Int32), K σ v1 v2 v3 v4 = some out → J E G 7 0 0 σ 238 [(0, .ref (gA G 81)), (1, .int v1), (2, .int v2), (3, .int v3), (4, .int v4)] []) : ∀ (fu : Nat) (σ : Mem) (v1 : Int32) (v2 : Int32) (v3 : Int32) (v4 : Int32) (v5 : Int32), L_areEntries_76 K fu σ v1 v2 v3 v4 v5 = some out → J E G 7 0 0 σ 76 [(0, .ref (gA G 81)), (1, .int v1), (2, .int v2), (3, .int v3), (4, .int v4), (5, .int v5)] [] := by
  intro fu
  induction fu with
  | zero => intro σ v1 v2 v3 v4 v5 h; rw [L_areEntries_76] at h; cases h
  | succ fu ih =>
    intro σ v1 v2 v3 v4 v5 h
    rw [L_areEntries_76] at h
    refine j_iload C dL_areEntries_76 5 rfl 78 rfl ?_
    refine j_aload_n C dL_areEntries_78 rfl 0 rfl 79 rfl ?_
    refine j_iconst C dL_areEntries_79 (4 : Int32) (by decide) 80 rfl ?_
    obtain ⟨q7, e8, h⟩ := ob_some h
    refine j_callV C (ct_X6_count (eL E) G  (xlv_some e8)) sh81 foX6 rfl vk_X6_count kw2_90 rfl ⟨Nat.le_of_ble_eq_true rfl, Nat.le_of_ble_eq_true rfl, rfl, rfl⟩ ⟨Nat.zero_le _, Nat.zero_le _⟩ (rest := [.int v5]) rfl (Nat.le_of_ble_eq_true rfl) dL_areEntries_80 (st1 := [.int q7.2, .int v5]) rfl 83 rfl ?_
    refine j_icmp_ge C dL_areEntries_83 238 (by decide) 86 rfl (fun c => ?_) (fun c => ?_)
    · have h := it_t c h
      refine j_sub [(0, .ref (gA G 81)), (1, .int v1), (2, .int v2), (3, .int v3), (4, .int v4)] [0, 1, 2, 3, 4] rfl ?_
      exact hK _ _ _ _ _ h
    · have h := it_f c h
      refine j_aload_n C dL_areEntries_86 rfl 0 rfl 87 rfl ?_
      refine j_iload_n C dL_areEntries_87 rfl 3 rfl 88 rfl ?_
      refine j_iconst C dL_areEntries_88 (1 : Int32) (by decide) 89 rfl ?_
      obtain ⟨q9, e10, h⟩ := ob_some h
      refine j_callV C (ct_X6_entry (eL E) G  (xlv_some e10)) sh81 foX6 rfl vk_X6_entry kw2_210 rfl ⟨Nat.le_of_ble_eq_true rfl, Nat.le_of_ble_eq_true rfl, rfl, rfl⟩ ⟨Nat.zero_le _, Nat.zero_le _⟩ (rest := []) rfl (Nat.le_of_ble_eq_true rfl) dL_areEntries_89 (st1 := [.int q9.2]) rfl 92 rfl ?_
      refine j_aload_n C dL_areEntries_92 rfl 0 rfl 93 rfl ?_
      refine j_iload C dL_areEntries_93 5 rfl 95 rfl ?_
      refine j_iconst C dL_areEntries_95 (1 : Int32) (by decide) 96 rfl ?_
      obtain ⟨q11, e12, h⟩ := ob_some h
      refine j_callV C (ct_X6_entry (eL E) G  (xlv_some e12)) sh81 foX6 rfl vk_X6_entry kw2_210 rfl ⟨Nat.le_of_ble_eq_true rfl, Nat.le_of_ble_eq_true rfl, rfl, rfl⟩ ⟨Nat.zero_le _, Nat.zero_le _⟩ (rest := [.int q9.2]) rfl (Nat.le_of_ble_eq_true rfl) dL_areEntries_96 (st1 := [.int q11.2, .int q9.2]) rfl 99 rfl ?_
      refine j_icmp_ne C dL_areEntries_99 170 (by decide) 102 rfl (fun c => ?_) (fun c => ?_)
      · have h := it_f c h
        exact w_L_areEntries_170 C F  hK ih _ _ _ _ _ _ h
      · have h := it_t c h
        refine j_aload_n C dL_areEntries_102 rfl 0 rfl 103 rfl ?_
        refine j_iload_n C dL_areEntries_103 rfl 3 rfl 104 rfl ?_
        refine j_iconst C dL_areEntries_104 (2 : Int32) (by decide) 105 rfl ?_
        obtain ⟨q19, e20, h⟩ := ob_some h
        refine j_callV C (ct_X6_entry (eL E) G  (xlv_some e20)) sh81 foX6 rfl vk_X6_entry kw2_210 rfl ⟨Nat.le_of_ble_eq_true rfl, Nat.le_of_ble_eq_true rfl, rfl, rfl⟩ ⟨Nat.zero_le _, Nat.zero_le _⟩ (rest := []) rfl (Nat.le_of_ble_eq_true rfl) dL_areEntries_105 (st1 := [.int q19.2]) rfl 108 rfl ?_
        refine j_aload_n C dL_areEntries_108 rfl 0 rfl 109 rfl ?_
        refine j_iload C dL_areEntries_109 5 rfl 111 rfl ?_
        refine j_iconst C dL_areEntries_111 (2 : Int32) (by decide) 112 rfl ?_
        obtain ⟨q21, e22, h⟩ := ob_some h
        refine j_callV C (ct_X6_entry (eL E) G  (xlv_some e22)) sh81 foX6 rfl vk_X6_entry kw2_210 rfl ⟨Nat.le_of_ble_eq_true rfl, Nat.le_of_ble_eq_true rfl, rfl, rfl⟩ ⟨Nat.zero_le _, Nat.zero_le _⟩ (rest := [.int q19.2]) rfl (Nat.le_of_ble_eq_true rfl) dL_areEntries_112 (st1 := [.int q21.2, .int q19.2]) rfl 115 rfl ?_
        refine j_icmp_ne C dL_areEntries_115 170 (by decide) 118 rfl (fun c => ?_) (fun c => ?_)
        · have h := it_f c h
          exact w_L_areEntries_170 C F  hK ih _ _ _ _ _ _ h
        · have h := it_t c h
          refine j_aload_n C dL_areEntries_118 rfl 0 rfl 119 rfl ?_
          refine j_iload_n C dL_areEntries_119 rfl 3 rfl 120 rfl ?_
          refine j_iconst C dL_areEntries_120 (3 : Int32) (by decide) 121 rfl ?_
          obtain ⟨q23, e24, h⟩ := ob_some h
          refine j_callV C (ct_X6_entry (eL E) G  (xlv_some e24)) sh81 foX6 rfl vk_X6_entry kw2_210 rfl ⟨Nat.le_of_ble_eq_true rfl, Nat.le_of_ble_eq_true rfl, rfl, rfl⟩ ⟨Nat.zero_le _, Nat.zero_le _⟩ (rest := []) rfl (Nat.le_of_ble_eq_true rfl) dL_areEntries_121 (st1 := [.int q23.2]) rfl 124 rfl ?_
          refine j_aload_n C dL_areEntries_124 rfl 0 rfl 125 rfl ?_
          refine j_iload C dL_areEntries_125 5 rfl 127 rfl ?_
          refine j_iconst C dL_areEntries_127 (3 : Int32) (by decide) 128 rfl ?_
          obtain ⟨q25, e26, h⟩ := ob_some h
          refine j_callV C (ct_X6_entry (eL E) G  (xlv_some e26)) sh81 foX6 rfl vk_X6_entry kw2_210 rfl ⟨Nat.le_of_ble_eq_true rfl, Nat.le_of_ble_eq_true rfl, rfl, rfl⟩ ⟨Nat.zero_le _, Nat.zero_le _⟩ (rest := [.int q23.2]) rfl (Nat.le_of_ble_eq_true rfl) dL_areEntries_128 (st1 := [.int q25.2, .int q23.2]) rfl 131 rfl ?_
          refine j_icmp_ne C dL_areEntries_131 170 (by decide) 134 rfl (fun c => ?_) (fun c => ?_)
          · have h := it_f c h
            exact w_L_areEntries_170 C F  hK ih _ _ _ _ _ _ h
          · have h := it_t c h
            refine j_aload_n C dL_areEntries_134 rfl 0 rfl 135 rfl ?_
            refine j_iload_n C dL_areEntries_135 rfl 3 rfl 136 rfl ?_
            refine j_iconst C dL_areEntries_136 (4 : Int32) (by decide) 137 rfl ?_
            obtain ⟨q27, e28, h⟩ := ob_some h
            refine j_callV C (ct_X6_entry (eL E) G  (xlv_some e28)) sh81 foX6 rfl vk_X6_entry kw2_210 rfl ⟨Nat.le_of_ble_eq_true rfl, Nat.le_of_ble_eq_true rfl, rfl, rfl⟩ ⟨Nat.zero_le _, Nat.zero_le _⟩ (rest := []) rfl (Nat.le_of_ble_eq_true rfl) dL_areEntries_137 (st1 := [.int q27.2]) rfl 140 rfl ?_
            refine j_aload_n C dL_areEntries_140 rfl 0 rfl 141 rfl ?_
            refine j_iload C dL_areEntries_141 5 rfl 143 rfl ?_
            refine j_iconst C dL_areEntries_143 (4 : Int32) (by decide) 144 rfl ?_
            obtain ⟨q29, e30, h⟩ := ob_some h
            refine j_callV C (ct_X6_entry (eL E) G  (xlv_some e30)) sh81 foX6 rfl vk_X6_entry kw2_210 rfl ⟨Nat.le_of_ble_eq_true rfl, Nat.le_of_ble_eq_true rfl, rfl, rfl⟩ ⟨Nat.zero_le _, Nat.zero_le _⟩ (rest := [.int q27.2]) rfl (Nat.le_of_ble_eq_true rfl) dL_areEntries_144 (st1 := [.int q29.2, .int q27.2]) rfl 147 rfl ?_
            refine j_icmp_ne C dL_areEntries_147 170 (by decide) 150 rfl (fun c => ?_) (fun c => ?_)
            · have h := it_f c h
              exact w_L_areEntries_170 C F  hK ih _ _ _ _ _ _ h
            · have h := it_t c h
              refine j_aload_n C dL_areEntries_150 rfl 0 rfl 151 rfl ?_
              refine j_iload_n C dL_areEntries_151 rfl 3 rfl 152 rfl ?_
              refine j_iconst C dL_areEntries_152 (5 : Int32) (by decide) 153 rfl ?_
              obtain ⟨q31, e32, h⟩ := ob_some h
              refine j_callV C (ct_X6_entry (eL E) G  (xlv_some e32)) sh81 foX6 rfl vk_X6_entry kw2_210 rfl ⟨Nat.le_of_ble_eq_true rfl, Nat.le_of_ble_eq_true rfl, rfl, rfl⟩ ⟨Nat.zero_le _, Nat.zero_le _⟩ (rest := []) rfl (Nat.le_of_ble_eq_true rfl) dL_areEntries_153 (st1 := [.int q31.2]) rfl 156 rfl ?_
              refine j_aload_n C dL_areEntries_156 rfl 0 rfl 157 rfl ?_
              refine j_iload C dL_areEntries_157 5 rfl 159 rfl ?_
              refine j_iconst C dL_areEntries_159 (5 : Int32) (by decide) 160 rfl ?_
              obtain ⟨q33, e34, h⟩ := ob_some h
              refine j_callV C (ct_X6_entry (eL E) G  (xlv_some e34)) sh81 foX6 rfl vk_X6_entry kw2_210 rfl ⟨Nat.le_of_ble_eq_true rfl, Nat.le_of_ble_eq_true rfl, rfl, rfl⟩ ⟨Nat.zero_le _, Nat.zero_le _⟩ (rest := [.int q31.2]) rfl (Nat.le_of_ble_eq_true rfl) dL_areEntries_160 (st1 := [.int q33.2, .int q31.2]) rfl 163 rfl ?_
              refine j_icmp_ne C dL_areEntries_163 170 (by decide) 166 rfl (fun c => ?_) (fun c => ?_)
              · have h := it_f c h
                exact w_L_areEntries_170 C F  hK ih _ _ _ _ _ _ h
              · have h := it_t c h
                refine j_iconst C dL_areEntries_166 (1 : Int32) (by decide) 167 rfl ?_
                refine j_goto C dL_areEntries_167 171 (by decide) ?_
                exact w_L_areEntries_171 C F  hK ih _ _ _ _ _ _ _ h
def L_areEntries_47 (K : Mem → Int32 → Int32 → Option (Mem × Int32)) : Nat → Mem → Int32 → Int32 → Int32 → Option (Mem × Int32)
  | 0, _, _, _, _ => none
  | fu + 1, σ, v1, v2, v3 => ((xlv (X6_count σ (4 : Int32))).bind fun q3 => (if q3.2 ≤ v3 then K q3.1 v1 v2 else (if v2 = 0 then K q3.1 v1 v2 else ((xlv (X6_entry q3.1 v3 (8 : Int32))).bind fun q5 => L_areEntries_76 (fun (σ : Mem) (v1 : Int32) (v2 : Int32) (v3 : Int32) (v4 : Int32) => ((xlv (X6_entry σ v3 (0 : Int32))).bind fun q35 => ((xlv (X6_shortest q35.1 q35.2)).bind fun q37 => (if v2 = 0 then L_areEntries_47 K fu q37.1 v1 (0 : Int32) (v3 + (1 : Int32)) else (if v4 = (1 : Int32) then ((xlv (X6_entry q37.1 v3 (9 : Int32))).bind fun q39 => ((xlv (X6_entry q39.1 v3 (1 : Int32))).bind fun q41 => (if q39.2 < q41.2 then L_areEntries_47 K fu q41.1 v1 (0 : Int32) (v3 + (1 : Int32)) else (if q37.2 < 0 then L_areEntries_47 K fu q41.1 v1 (1 : Int32) (v3 + (1 : Int32)) else ((xlv (X6_entry q41.1 q37.2 (0 : Int32))).bind fun q43 => ((xlv (X6_entry q43.1 v3 (0 : Int32))).bind fun q45 => (if q43.2 = q45.2 then ((xlv (X6_entry q45.1 q37.2 (7 : Int32))).bind fun q47 => (if q47.2 = (1 : Int32) then ((xlv (X6_entry q47.1 q37.2 (1 : Int32))).bind fun q49 => ((xlv (X6_setting q49.1 (1 : Int32))).bind fun q51 => (if q51.2 < q49.2 then L_areEntries_47 K fu q51.1 v1 (0 : Int32) (v3 + (1 : Int32)) else L_areEntries_47 K fu q51.1 v1 (1 : Int32) (v3 + (1 : Int32))))) else L_areEntries_47 K fu q47.1 v1 (0 : Int32) (v3 + (1 : Int32)))) else L_areEntries_47 K fu q45.1 v1 (0 : Int32) (v3 + (1 : Int32))))))))) else L_areEntries_47 K fu q37.1 v1 (0 : Int32) (v3 + (1 : Int32))))))) FU q5.1 (v1 + q5.2) v2 v3 (0 : Int32) (0 : Int32)))))
set_option maxHeartbeats 4000000 in
set_option maxRecDepth 100000 in
theorem w_L_areEntries_47 {E : Ev} {G : Gw} (C : Cx E G RL cL_areEntries 7 { frames := 7, cells := 0, slots := 0, locals := 139 }) {out : Mem × Int32} (F : Ef E G out.1 (some (.int out.2)) (some .boolean) 0 0)  {K : Mem → Int32 → Int32 → Option (Mem × Int32)} (hK : ∀ (σ : Mem) (v1 : Int32) (v2 : Int32), K σ v1 v2 = some out → J E G 7 0 0 σ 336 [(0, .ref (gA G 81)), (1, .int v1), (2, .int v2)] []) : ∀ (fu : Nat) (σ : Mem) (v1 : Int32) (v2 : Int32) (v3 : Int32), L_areEntries_47 K fu σ v1 v2 v3 = some out → J E G 7 0 0 σ 47 [(0, .ref (gA G 81)), (1, .int v1), (2, .int v2), (3, .int v3)] [] := by
  intro fu
  induction fu with
  | zero => intro σ v1 v2 v3 h; rw [L_areEntries_47] at h; cases h
  | succ fu ih =>
    intro σ v1 v2 v3 h
    rw [L_areEntries_47] at h
    refine j_iload_n C dL_areEntries_47 rfl 3 rfl 48 rfl ?_
    refine j_aload_n C dL_areEntries_48 rfl 0 rfl 49 rfl ?_
    refine j_iconst C dL_areEntries_49 (4 : Int32) (by decide) 50 rfl ?_
    obtain ⟨q3, e4, h⟩ := ob_some h
    refine j_callV C (ct_X6_count (eL E) G  (xlv_some e4)) sh81 foX6 rfl vk_X6_count kw2_90 rfl ⟨Nat.le_of_ble_eq_true rfl, Nat.le_of_ble_eq_true rfl, rfl, rfl⟩ ⟨Nat.zero_le _, Nat.zero_le _⟩ (rest := [.int v3]) rfl (Nat.le_of_ble_eq_true rfl) dL_areEntries_50 (st1 := [.int q3.2, .int v3]) rfl 53 rfl ?_
    refine j_icmp_ge C dL_areEntries_53 336 (by decide) 56 rfl (fun c => ?_) (fun c => ?_)
    · have h := it_t c h
      refine j_sub [(0, .ref (gA G 81)), (1, .int v1), (2, .int v2)] [0, 1, 2] rfl ?_
      exact hK _ _ _ h
    · have h := it_f c h
      refine j_iload_n C dL_areEntries_56 rfl 2 rfl 57 rfl ?_
      refine j_if_eq C dL_areEntries_57 336 (by decide) 60 rfl (fun c => ?_) (fun c => ?_)
      · have h := it_t c h
        refine j_sub [(0, .ref (gA G 81)), (1, .int v1), (2, .int v2)] [0, 1, 2] rfl ?_
        exact hK _ _ _ h
      · have h := it_f c h
        refine j_iconst C dL_areEntries_60 (0 : Int32) (by decide) 61 rfl ?_
        refine j_istore C dL_areEntries_61 (by decide) [(4, .int (0 : Int32)), (0, .ref (gA G 81)), (1, .int v1), (2, .int v2), (3, .int v3)] rfl 63 rfl ?_
        refine j_iload_n C dL_areEntries_63 rfl 2 rfl 64 rfl ?_
        refine j_aload_n C dL_areEntries_64 rfl 1 rfl 65 rfl ?_
        refine j_iload_n C dL_areEntries_65 rfl 4 rfl 66 rfl ?_
        refine j_bipush C dL_areEntries_66 (8 : Int32) (by decide) 68 rfl ?_
        obtain ⟨q5, e6, h⟩ := ob_some h
        refine j_callV C (ct_X6_entry (eL E) G  (xlv_some e6)) sh81 foX6 rfl vk_X6_entry kw2_210 rfl ⟨Nat.le_of_ble_eq_true rfl, Nat.le_of_ble_eq_true rfl, rfl, rfl⟩ ⟨Nat.zero_le _, Nat.zero_le _⟩ (rest := [.int v1]) rfl (Nat.le_of_ble_eq_true rfl) dL_areEntries_68 (st1 := [.int q5.2, .int v1]) rfl 71 rfl ?_
        refine j_iadd C dL_areEntries_71 72 rfl ?_
        refine j_istore_n C dL_areEntries_72 rfl (by decide) [(1, .int (v1 + q5.2)), (4, .int (0 : Int32)), (0, .ref (gA G 81)), (2, .int v2), (3, .int v3)] rfl 73 rfl ?_
        refine j_iconst C dL_areEntries_73 (0 : Int32) (by decide) 74 rfl ?_
        refine j_istore C dL_areEntries_74 (by decide) [(5, .int (0 : Int32)), (1, .int (v1 + q5.2)), (4, .int (0 : Int32)), (0, .ref (gA G 81)), (2, .int v2), (3, .int v3)] rfl 76 rfl ?_
        refine j_sub [(0, .ref (gA G 81)), (1, .int (v1 + q5.2)), (2, .int v2), (3, .int v3), (4, .int (0 : Int32)), (5, .int (0 : Int32))] [3, 1, 4, 5, 2, 0] rfl ?_
        refine w_L_areEntries_76 C F  (fun σ v1 v2 v3 v4 h => ?_) FU _ _ _ _ _ _ h
        refine j_aload_n C dL_areEntries_238 rfl 0 rfl 239 rfl ?_
        refine j_aload_n C dL_areEntries_239 rfl 0 rfl 240 rfl ?_
        refine j_iload_n C dL_areEntries_240 rfl 3 rfl 241 rfl ?_
        refine j_iconst C dL_areEntries_241 (0 : Int32) (by decide) 242 rfl ?_
        obtain ⟨q35, e36, h⟩ := ob_some h
        refine j_callV C (ct_X6_entry (eL E) G  (xlv_some e36)) sh81 foX6 rfl vk_X6_entry kw2_210 rfl ⟨Nat.le_of_ble_eq_true rfl, Nat.le_of_ble_eq_true rfl, rfl, rfl⟩ ⟨Nat.zero_le _, Nat.zero_le _⟩ (rest := [.ref (gA G 81)]) rfl (Nat.le_of_ble_eq_true rfl) dL_areEntries_242 (st1 := [.int q35.2, .ref (gA G 81)]) rfl 245 rfl ?_
        obtain ⟨q37, e38, h⟩ := ob_some h
        refine j_callV C (ct_X6_shortest (eL E) G  (xlv_some e38)) sh81 foX6 rfl vk_X6_shortest kw3_69 rfl ⟨Nat.le_of_ble_eq_true rfl, Nat.le_of_ble_eq_true rfl, rfl, rfl⟩ ⟨Nat.zero_le _, Nat.zero_le _⟩ (rest := []) rfl (Nat.le_of_ble_eq_true rfl) dL_areEntries_245 (st1 := [.int q37.2]) rfl 248 rfl ?_
        refine j_istore C dL_areEntries_248 (by decide) [(5, .int q37.2), (0, .ref (gA G 81)), (1, .int v1), (2, .int v2), (3, .int v3), (4, .int v4)] rfl 250 rfl ?_
        refine j_iload_n C dL_areEntries_250 rfl 3 rfl 251 rfl ?_
        refine j_if_eq C dL_areEntries_251 328 (by decide) 254 rfl (fun c => ?_) (fun c => ?_)
        · have h := it_t c h
          refine j_iconst C dL_areEntries_328 (0 : Int32) (by decide) 329 rfl ?_
          refine j_istore_n C dL_areEntries_329 rfl (by decide) [(2, .int (0 : Int32)), (5, .int q37.2), (0, .ref (gA G 81)), (1, .int v1), (3, .int v3), (4, .int v4)] rfl 330 rfl ?_
          refine j_iinc C dL_areEntries_330 4 rfl (v3 + (1 : Int32)) rfl (by decide) [(3, .int (v3 + (1 : Int32))), (2, .int (0 : Int32)), (5, .int q37.2), (0, .ref (gA G 81)), (1, .int v1), (4, .int v4)] rfl 333 rfl ?_
          refine j_goto C dL_areEntries_333 47 (by decide) ?_
          refine j_sub [(0, .ref (gA G 81)), (1, .int v1), (2, .int (0 : Int32)), (3, .int (v3 + (1 : Int32)))] [3, 4, 1, 0] rfl ?_
          exact ih _ _ _ _ h
        · have h := it_f c h
          refine j_iload C dL_areEntries_254 5 rfl 256 rfl ?_
          refine j_iconst C dL_areEntries_256 (1 : Int32) (by decide) 257 rfl ?_
          refine j_icmp_ne C dL_areEntries_257 328 (by decide) 260 rfl (fun c => ?_) (fun c => ?_)
          · have h := it_f c h
            refine j_iconst C dL_areEntries_328 (0 : Int32) (by decide) 329 rfl ?_
            refine j_istore_n C dL_areEntries_329 rfl (by decide) [(2, .int (0 : Int32)), (5, .int q37.2), (0, .ref (gA G 81)), (1, .int v1), (3, .int v3), (4, .int v4)] rfl 330 rfl ?_
            refine j_iinc C dL_areEntries_330 4 rfl (v3 + (1 : Int32)) rfl (by decide) [(3, .int (v3 + (1 : Int32))), (2, .int (0 : Int32)), (5, .int q37.2), (0, .ref (gA G 81)), (1, .int v1), (4, .int v4)] rfl 333 rfl ?_
            refine j_goto C dL_areEntries_333 47 (by decide) ?_
            refine j_sub [(0, .ref (gA G 81)), (1, .int v1), (2, .int (0 : Int32)), (3, .int (v3 + (1 : Int32)))] [3, 4, 1, 0] rfl ?_
            exact ih _ _ _ _ h
          · have h := it_t c h
            refine j_aload_n C dL_areEntries_260 rfl 1 rfl 261 rfl ?_
            refine j_iload_n C dL_areEntries_261 rfl 4 rfl 262 rfl ?_
            refine j_bipush C dL_areEntries_262 (9 : Int32) (by decide) 264 rfl ?_
            obtain ⟨q39, e40, h⟩ := ob_some h
            refine j_callV C (ct_X6_entry (eL E) G  (xlv_some e40)) sh81 foX6 rfl vk_X6_entry kw2_210 rfl ⟨Nat.le_of_ble_eq_true rfl, Nat.le_of_ble_eq_true rfl, rfl, rfl⟩ ⟨Nat.zero_le _, Nat.zero_le _⟩ (rest := []) rfl (Nat.le_of_ble_eq_true rfl) dL_areEntries_264 (st1 := [.int q39.2]) rfl 267 rfl ?_
            refine j_aload_n C dL_areEntries_267 rfl 1 rfl 268 rfl ?_
            refine j_iload_n C dL_areEntries_268 rfl 4 rfl 269 rfl ?_
            refine j_iconst C dL_areEntries_269 (1 : Int32) (by decide) 270 rfl ?_
            obtain ⟨q41, e42, h⟩ := ob_some h
            refine j_callV C (ct_X6_entry (eL E) G  (xlv_some e42)) sh81 foX6 rfl vk_X6_entry kw2_210 rfl ⟨Nat.le_of_ble_eq_true rfl, Nat.le_of_ble_eq_true rfl, rfl, rfl⟩ ⟨Nat.zero_le _, Nat.zero_le _⟩ (rest := [.int q39.2]) rfl (Nat.le_of_ble_eq_true rfl) dL_areEntries_270 (st1 := [.int q41.2, .int q39.2]) rfl 273 rfl ?_
            refine j_icmp_lt C dL_areEntries_273 328 (by decide) 276 rfl (fun c => ?_) (fun c => ?_)
            · have h := it_t c h
              refine j_iconst C dL_areEntries_328 (0 : Int32) (by decide) 329 rfl ?_
              refine j_istore_n C dL_areEntries_329 rfl (by decide) [(2, .int (0 : Int32)), (5, .int q37.2), (0, .ref (gA G 81)), (1, .int v1), (3, .int v3), (4, .int v4)] rfl 330 rfl ?_
              refine j_iinc C dL_areEntries_330 4 rfl (v3 + (1 : Int32)) rfl (by decide) [(3, .int (v3 + (1 : Int32))), (2, .int (0 : Int32)), (5, .int q37.2), (0, .ref (gA G 81)), (1, .int v1), (4, .int v4)] rfl 333 rfl ?_
              refine j_goto C dL_areEntries_333 47 (by decide) ?_
              refine j_sub [(0, .ref (gA G 81)), (1, .int v1), (2, .int (0 : Int32)), (3, .int (v3 + (1 : Int32)))] [3, 4, 1, 0] rfl ?_
              exact ih _ _ _ _ h
            · have h := it_f c h
              refine j_iload C dL_areEntries_276 0 rfl 278 rfl ?_
              refine j_if_lt C dL_areEntries_278 324 (by decide) 281 rfl (fun c => ?_) (fun c => ?_)
              · have h := it_t c h
                refine j_iconst C dL_areEntries_324 (1 : Int32) (by decide) 325 rfl ?_
                refine j_goto C dL_areEntries_325 329 (by decide) ?_
                refine j_istore_n C dL_areEntries_329 rfl (by decide) [(2, .int (1 : Int32)), (5, .int q37.2), (0, .ref (gA G 81)), (1, .int v1), (3, .int v3), (4, .int v4)] rfl 330 rfl ?_
                refine j_iinc C dL_areEntries_330 4 rfl (v3 + (1 : Int32)) rfl (by decide) [(3, .int (v3 + (1 : Int32))), (2, .int (1 : Int32)), (5, .int q37.2), (0, .ref (gA G 81)), (1, .int v1), (4, .int v4)] rfl 333 rfl ?_
                refine j_goto C dL_areEntries_333 47 (by decide) ?_
                refine j_sub [(0, .ref (gA G 81)), (1, .int v1), (2, .int (1 : Int32)), (3, .int (v3 + (1 : Int32)))] [3, 4, 1, 0] rfl ?_
                exact ih _ _ _ _ h
              · have h := it_f c h
                refine j_aload_n C dL_areEntries_281 rfl 1 rfl 282 rfl ?_
                refine j_iload C dL_areEntries_282 0 rfl 284 rfl ?_
                refine j_iconst C dL_areEntries_284 (0 : Int32) (by decide) 285 rfl ?_
                obtain ⟨q43, e44, h⟩ := ob_some h
                refine j_callV C (ct_X6_entry (eL E) G  (xlv_some e44)) sh81 foX6 rfl vk_X6_entry kw2_210 rfl ⟨Nat.le_of_ble_eq_true rfl, Nat.le_of_ble_eq_true rfl, rfl, rfl⟩ ⟨Nat.zero_le _, Nat.zero_le _⟩ (rest := []) rfl (Nat.le_of_ble_eq_true rfl) dL_areEntries_285 (st1 := [.int q43.2]) rfl 288 rfl ?_
                refine j_aload_n C dL_areEntries_288 rfl 1 rfl 289 rfl ?_
                refine j_iload_n C dL_areEntries_289 rfl 4 rfl 290 rfl ?_
                refine j_iconst C dL_areEntries_290 (0 : Int32) (by decide) 291 rfl ?_
                obtain ⟨q45, e46, h⟩ := ob_some h
                refine j_callV C (ct_X6_entry (eL E) G  (xlv_some e46)) sh81 foX6 rfl vk_X6_entry kw2_210 rfl ⟨Nat.le_of_ble_eq_true rfl, Nat.le_of_ble_eq_true rfl, rfl, rfl⟩ ⟨Nat.zero_le _, Nat.zero_le _⟩ (rest := [.int q43.2]) rfl (Nat.le_of_ble_eq_true rfl) dL_areEntries_291 (st1 := [.int q45.2, .int q43.2]) rfl 294 rfl ?_
                refine j_icmp_ne C dL_areEntries_294 328 (by decide) 297 rfl (fun c => ?_) (fun c => ?_)
                · have h := it_f c h
                  refine j_iconst C dL_areEntries_328 (0 : Int32) (by decide) 329 rfl ?_
                  refine j_istore_n C dL_areEntries_329 rfl (by decide) [(2, .int (0 : Int32)), (5, .int q37.2), (0, .ref (gA G 81)), (1, .int v1), (3, .int v3), (4, .int v4)] rfl 330 rfl ?_
                  refine j_iinc C dL_areEntries_330 4 rfl (v3 + (1 : Int32)) rfl (by decide) [(3, .int (v3 + (1 : Int32))), (2, .int (0 : Int32)), (5, .int q37.2), (0, .ref (gA G 81)), (1, .int v1), (4, .int v4)] rfl 333 rfl ?_
                  refine j_goto C dL_areEntries_333 47 (by decide) ?_
                  refine j_sub [(0, .ref (gA G 81)), (1, .int v1), (2, .int (0 : Int32)), (3, .int (v3 + (1 : Int32)))] [3, 4, 1, 0] rfl ?_
                  exact ih _ _ _ _ h
                · have h := it_t c h
                  refine j_aload_n C dL_areEntries_297 rfl 1 rfl 298 rfl ?_
                  refine j_iload C dL_areEntries_298 0 rfl 300 rfl ?_
                  refine j_bipush C dL_areEntries_300 (7 : Int32) (by decide) 302 rfl ?_
                  obtain ⟨q47, e48, h⟩ := ob_some h
                  refine j_callV C (ct_X6_entry (eL E) G  (xlv_some e48)) sh81 foX6 rfl vk_X6_entry kw2_210 rfl ⟨Nat.le_of_ble_eq_true rfl, Nat.le_of_ble_eq_true rfl, rfl, rfl⟩ ⟨Nat.zero_le _, Nat.zero_le _⟩ (rest := []) rfl (Nat.le_of_ble_eq_true rfl) dL_areEntries_302 (st1 := [.int q47.2]) rfl 305 rfl ?_
                  refine j_iconst C dL_areEntries_305 (1 : Int32) (by decide) 306 rfl ?_
                  refine j_icmp_ne C dL_areEntries_306 328 (by decide) 309 rfl (fun c => ?_) (fun c => ?_)
                  · have h := it_f c h
                    refine j_iconst C dL_areEntries_328 (0 : Int32) (by decide) 329 rfl ?_
                    refine j_istore_n C dL_areEntries_329 rfl (by decide) [(2, .int (0 : Int32)), (5, .int q37.2), (0, .ref (gA G 81)), (1, .int v1), (3, .int v3), (4, .int v4)] rfl 330 rfl ?_
                    refine j_iinc C dL_areEntries_330 4 rfl (v3 + (1 : Int32)) rfl (by decide) [(3, .int (v3 + (1 : Int32))), (2, .int (0 : Int32)), (5, .int q37.2), (0, .ref (gA G 81)), (1, .int v1), (4, .int v4)] rfl 333 rfl ?_
                    refine j_goto C dL_areEntries_333 47 (by decide) ?_
                    refine j_sub [(0, .ref (gA G 81)), (1, .int v1), (2, .int (0 : Int32)), (3, .int (v3 + (1 : Int32)))] [3, 4, 1, 0] rfl ?_
                    exact ih _ _ _ _ h
                  · have h := it_t c h
                    refine j_aload_n C dL_areEntries_309 rfl 1 rfl 310 rfl ?_
                    refine j_iload C dL_areEntries_310 0 rfl 312 rfl ?_
                    refine j_iconst C dL_areEntries_312 (1 : Int32) (by decide) 313 rfl ?_
                    obtain ⟨q49, e50, h⟩ := ob_some h
                    refine j_callV C (ct_X6_entry (eL E) G  (xlv_some e50)) sh81 foX6 rfl vk_X6_entry kw2_210 rfl ⟨Nat.le_of_ble_eq_true rfl, Nat.le_of_ble_eq_true rfl, rfl, rfl⟩ ⟨Nat.zero_le _, Nat.zero_le _⟩ (rest := []) rfl (Nat.le_of_ble_eq_true rfl) dL_areEntries_313 (st1 := [.int q49.2]) rfl 316 rfl ?_
                    refine j_aload_n C dL_areEntries_316 rfl 1 rfl 317 rfl ?_
                    refine j_iconst C dL_areEntries_317 (1 : Int32) (by decide) 318 rfl ?_
                    obtain ⟨q51, e52, h⟩ := ob_some h
                    refine j_callV C (ct_X6_setting (eL E) G  (xlv_some e52)) sh81 foX6 rfl vk_X6_setting kw2_237 rfl ⟨Nat.le_of_ble_eq_true rfl, Nat.le_of_ble_eq_true rfl, rfl, rfl⟩ ⟨Nat.zero_le _, Nat.zero_le _⟩ (rest := [.int q49.2]) rfl (Nat.le_of_ble_eq_true rfl) dL_areEntries_318 (st1 := [.int q51.2, .int q49.2]) rfl 321 rfl ?_
                    refine j_icmp_gt C dL_areEntries_321 328 (by decide) 324 rfl (fun c => ?_) (fun c => ?_)
                    · have h := it_t c h
                      refine j_iconst C dL_areEntries_328 (0 : Int32) (by decide) 329 rfl ?_
                      refine j_istore_n C dL_areEntries_329 rfl (by decide) [(2, .int (0 : Int32)), (5, .int q37.2), (0, .ref (gA G 81)), (1, .int v1), (3, .int v3), (4, .int v4)] rfl 330 rfl ?_
                      refine j_iinc C dL_areEntries_330 4 rfl (v3 + (1 : Int32)) rfl (by decide) [(3, .int (v3 + (1 : Int32))), (2, .int (0 : Int32)), (5, .int q37.2), (0, .ref (gA G 81)), (1, .int v1), (4, .int v4)] rfl 333 rfl ?_
                      refine j_goto C dL_areEntries_333 47 (by decide) ?_
                      refine j_sub [(0, .ref (gA G 81)), (1, .int v1), (2, .int (0 : Int32)), (3, .int (v3 + (1 : Int32)))] [3, 4, 1, 0] rfl ?_
                      exact ih _ _ _ _ h
                    · have h := it_f c h
                      refine j_iconst C dL_areEntries_324 (1 : Int32) (by decide) 325 rfl ?_
                      refine j_goto C dL_areEntries_325 329 (by decide) ?_
                      refine j_istore_n C dL_areEntries_329 rfl (by decide) [(2, .int (1 : Int32)), (5, .int q37.2), (0, .ref (gA G 81)), (1, .int v1), (3, .int v3), (4, .int v4)] rfl 330 rfl ?_
                      refine j_iinc C dL_areEntries_330 4 rfl (v3 + (1 : Int32)) rfl (by decide) [(3, .int (v3 + (1 : Int32))), (2, .int (1 : Int32)), (5, .int q37.2), (0, .ref (gA G 81)), (1, .int v1), (4, .int v4)] rfl 333 rfl ?_
                      refine j_goto C dL_areEntries_333 47 (by decide) ?_
                      refine j_sub [(0, .ref (gA G 81)), (1, .int v1), (2, .int (1 : Int32)), (3, .int (v3 + (1 : Int32)))] [3, 4, 1, 0] rfl ?_
                      exact ih _ _ _ _ h
def L_areEntries_336 (σ : Mem) (v1 : Int32) (v2 : Int32) : Option (Mem × Int32) :=
  (if v2 = 0 then some (σ, (0 : Int32)) else ((xlv (X6_count σ (3 : Int32))).bind fun q53 => ((xlv (X6_count q53.1 (2 : Int32))).bind fun q55 => (if (v1 + q53.2) = q55.2 then some (q55.1, (1 : Int32)) else some (q55.1, (0 : Int32))))))
set_option maxHeartbeats 4000000 in
set_option maxRecDepth 100000 in
theorem w_L_areEntries_336 {E : Ev} {G : Gw} (C : Cx E G RL cL_areEntries 7 { frames := 7, cells := 0, slots := 0, locals := 139 }) {out : Mem × Int32} (F : Ef E G out.1 (some (.int out.2)) (some .boolean) 0 0)  (σ : Mem) (v1 : Int32) (v2 : Int32) (h : L_areEntries_336 σ v1 v2 = some out) : J E G 7 0 0 σ 336 [(0, .ref (gA G 81)), (1, .int v1), (2, .int v2)] [] := by
  unfold L_areEntries_336 at h
  refine j_iload_n C dL_areEntries_336 rfl 2 rfl 337 rfl ?_
  refine j_if_eq C dL_areEntries_337 359 (by decide) 340 rfl (fun c => ?_) (fun c => ?_)
  · have h := it_t c h
    refine j_iconst C dL_areEntries_359 (0 : Int32) (by decide) 360 rfl ?_
    exact j_zret C F dL_areEntries_360 (by decide) h
  · have h := it_f c h
    refine j_iload_n C dL_areEntries_340 rfl 1 rfl 341 rfl ?_
    refine j_aload_n C dL_areEntries_341 rfl 0 rfl 342 rfl ?_
    refine j_iconst C dL_areEntries_342 (3 : Int32) (by decide) 343 rfl ?_
    obtain ⟨q53, e54, h⟩ := ob_some h
    refine j_callV C (ct_X6_count (eL E) G  (xlv_some e54)) sh81 foX6 rfl vk_X6_count kw2_90 rfl ⟨Nat.le_of_ble_eq_true rfl, Nat.le_of_ble_eq_true rfl, rfl, rfl⟩ ⟨Nat.zero_le _, Nat.zero_le _⟩ (rest := [.int v1]) rfl (Nat.le_of_ble_eq_true rfl) dL_areEntries_343 (st1 := [.int q53.2, .int v1]) rfl 346 rfl ?_
    refine j_iadd C dL_areEntries_346 347 rfl ?_
    refine j_aload_n C dL_areEntries_347 rfl 0 rfl 348 rfl ?_
    refine j_iconst C dL_areEntries_348 (2 : Int32) (by decide) 349 rfl ?_
    obtain ⟨q55, e56, h⟩ := ob_some h
    refine j_callV C (ct_X6_count (eL E) G  (xlv_some e56)) sh81 foX6 rfl vk_X6_count kw2_90 rfl ⟨Nat.le_of_ble_eq_true rfl, Nat.le_of_ble_eq_true rfl, rfl, rfl⟩ ⟨Nat.zero_le _, Nat.zero_le _⟩ (rest := [.int (v1 + q53.2)]) rfl (Nat.le_of_ble_eq_true rfl) dL_areEntries_349 (st1 := [.int q55.2, .int (v1 + q53.2)]) rfl 352 rfl ?_
    refine j_icmp_ne C dL_areEntries_352 359 (by decide) 355 rfl (fun c => ?_) (fun c => ?_)
    · have h := it_f c h
      refine j_iconst C dL_areEntries_359 (0 : Int32) (by decide) 360 rfl ?_
      exact j_zret C F dL_areEntries_360 (by decide) h
    · have h := it_t c h
      refine j_iconst C dL_areEntries_355 (1 : Int32) (by decide) 356 rfl ?_
      refine j_goto C dL_areEntries_356 360 (by decide) ?_
      exact j_zret C F dL_areEntries_360 (by decide) h
def L_areEntries (σ : Mem) : Option (Mem × Int32) :=
  ((X6_readShare σ).bind fun q1 => (if (Op.cmpValue (FP.dcmp q1.2 FP.dconst0) CmpOp.l) < 0 then L_areEntries_47 (fun (σ : Mem) (v1 : Int32) (v2 : Int32) => L_areEntries_336 σ v1 v2) FU q1.1 (0 : Int32) (0 : Int32) (0 : Int32) else ((X6_readShare q1.1).bind fun q57 => (if 0 < (Op.cmpValue (FP.dcmp q57.2 FP.dconst1) CmpOp.g) then L_areEntries_47 (fun (σ : Mem) (v1 : Int32) (v2 : Int32) => L_areEntries_336 σ v1 v2) FU q57.1 (0 : Int32) (0 : Int32) (0 : Int32) else ((X6_meanKeys q57.1).bind fun q59 => (if (Op.cmpValue (FP.fcmp q59.2 FP.fconst0) CmpOp.l) < 0 then L_areEntries_47 (fun (σ : Mem) (v1 : Int32) (v2 : Int32) => L_areEntries_336 σ v1 v2) FU q59.1 (0 : Int32) (0 : Int32) (0 : Int32) else ((X6_meanKeys q59.1).bind fun q61 => (if 0 < (Op.cmpValue (FP.fcmp q61.2 (1092616192 : UInt32)) CmpOp.g) then L_areEntries_47 (fun (σ : Mem) (v1 : Int32) (v2 : Int32) => L_areEntries_336 σ v1 v2) FU q61.1 (0 : Int32) (0 : Int32) (0 : Int32) else L_areEntries_47 (fun (σ : Mem) (v1 : Int32) (v2 : Int32) => L_areEntries_336 σ v1 v2) FU q61.1 (0 : Int32) (1 : Int32) (0 : Int32)))))))))
set_option maxHeartbeats 4000000 in
set_option maxRecDepth 100000 in
theorem ct_L_areEntries (l : Launch) (G : Gw)  {σ : Mem} {out : Mem × Int32} (h : L_areEntries σ = some out) : Ct l G yL_areEntries cL_areEntries 7 (some .boolean) { frames := 7, cells := 0, slots := 0, locals := 139 } [.ref (gA G 81)] σ out.1 (some (.int out.2)) := by
  refine Ct.of (by decide +kernel) (Nat.le_of_ble_eq_true rfl) (fun E hE C F => ?_)
  subst hE
  have C : Cx E G RL cL_areEntries 7 { frames := 7, cells := 0, slots := 0, locals := 139 } := C
  unfold L_areEntries at h
  show J E G 7 0 0 σ 0 [(0, .ref (gA G 81))] []
  refine j_iconst C dL_areEntries_0 (0 : Int32) (by decide) 1 rfl ?_
  refine j_istore_n C dL_areEntries_1 rfl (by decide) [(1, .int (0 : Int32)), (0, .ref (gA G 81))] rfl 2 rfl ?_
  refine j_aload_n C dL_areEntries_2 rfl 1 rfl 3 rfl ?_
  obtain ⟨q1, e2, h⟩ := ob_some h
  refine j_callV C (ct_X6_readShare (eL E) G  e2) sh81 foX6 rfl vk_X6_readShare kw3_60 rfl ⟨Nat.le_of_ble_eq_true rfl, Nat.le_of_ble_eq_true rfl, rfl, rfl⟩ ⟨Nat.zero_le _, Nat.zero_le _⟩ (rest := []) rfl (Nat.le_of_ble_eq_true rfl) dL_areEntries_3 (st1 := [.double q1.2]) rfl 6 rfl ?_
  refine j_dconst0 C dL_areEntries_6 7 rfl ?_
  refine j_dcmp C dL_areEntries_7 8 rfl ?_
  refine j_if_lt C dL_areEntries_8 43 (by decide) 11 rfl (fun c => ?_) (fun c => ?_)
  · have h := it_t c h
    refine j_iconst C dL_areEntries_43 (0 : Int32) (by decide) 44 rfl ?_
    refine j_istore_n C dL_areEntries_44 rfl (by decide) [(2, .int (0 : Int32)), (1, .int (0 : Int32)), (0, .ref (gA G 81))] rfl 45 rfl ?_
    refine j_iconst C dL_areEntries_45 (0 : Int32) (by decide) 46 rfl ?_
    refine j_istore_n C dL_areEntries_46 rfl (by decide) [(3, .int (0 : Int32)), (2, .int (0 : Int32)), (1, .int (0 : Int32)), (0, .ref (gA G 81))] rfl 47 rfl ?_
    refine j_sub [(0, .ref (gA G 81)), (1, .int (0 : Int32)), (2, .int (0 : Int32)), (3, .int (0 : Int32))] [3, 2, 1, 0] rfl ?_
    refine w_L_areEntries_47 C F  (fun σ v1 v2 h => ?_) FU _ _ _ _ h
    exact w_L_areEntries_336 C F  _ _ _ h
  · have h := it_f c h
    refine j_aload_n C dL_areEntries_11 rfl 1 rfl 12 rfl ?_
    obtain ⟨q57, e58, h⟩ := ob_some h
    refine j_callV C (ct_X6_readShare (eL E) G  e58) sh81 foX6 rfl vk_X6_readShare kw3_60 rfl ⟨Nat.le_of_ble_eq_true rfl, Nat.le_of_ble_eq_true rfl, rfl, rfl⟩ ⟨Nat.zero_le _, Nat.zero_le _⟩ (rest := []) rfl (Nat.le_of_ble_eq_true rfl) dL_areEntries_12 (st1 := [.double q57.2]) rfl 15 rfl ?_
    refine j_dconst1 C dL_areEntries_15 16 rfl ?_
    refine j_dcmp C dL_areEntries_16 17 rfl ?_
    refine j_if_gt C dL_areEntries_17 43 (by decide) 20 rfl (fun c => ?_) (fun c => ?_)
    · have h := it_t c h
      refine j_iconst C dL_areEntries_43 (0 : Int32) (by decide) 44 rfl ?_
      refine j_istore_n C dL_areEntries_44 rfl (by decide) [(2, .int (0 : Int32)), (1, .int (0 : Int32)), (0, .ref (gA G 81))] rfl 45 rfl ?_
      refine j_iconst C dL_areEntries_45 (0 : Int32) (by decide) 46 rfl ?_
      refine j_istore_n C dL_areEntries_46 rfl (by decide) [(3, .int (0 : Int32)), (2, .int (0 : Int32)), (1, .int (0 : Int32)), (0, .ref (gA G 81))] rfl 47 rfl ?_
      refine j_sub [(0, .ref (gA G 81)), (1, .int (0 : Int32)), (2, .int (0 : Int32)), (3, .int (0 : Int32))] [3, 2, 1, 0] rfl ?_
      refine w_L_areEntries_47 C F  (fun σ v1 v2 h => ?_) FU _ _ _ _ h
      exact w_L_areEntries_336 C F  _ _ _ h
    · have h := it_f c h
      refine j_aload_n C dL_areEntries_20 rfl 1 rfl 21 rfl ?_
      obtain ⟨q59, e60, h⟩ := ob_some h
      refine j_callV C (ct_X6_meanKeys (eL E) G  e60) sh81 foX6 rfl vk_X6_meanKeys kw3_64 rfl ⟨Nat.le_of_ble_eq_true rfl, Nat.le_of_ble_eq_true rfl, rfl, rfl⟩ ⟨Nat.zero_le _, Nat.zero_le _⟩ (rest := []) rfl (Nat.le_of_ble_eq_true rfl) dL_areEntries_21 (st1 := [.float q59.2]) rfl 24 rfl ?_
      refine j_fconst0 C dL_areEntries_24 25 rfl ?_
      refine j_fcmp C dL_areEntries_25 26 rfl ?_
      refine j_if_lt C dL_areEntries_26 43 (by decide) 29 rfl (fun c => ?_) (fun c => ?_)
      · have h := it_t c h
        refine j_iconst C dL_areEntries_43 (0 : Int32) (by decide) 44 rfl ?_
        refine j_istore_n C dL_areEntries_44 rfl (by decide) [(2, .int (0 : Int32)), (1, .int (0 : Int32)), (0, .ref (gA G 81))] rfl 45 rfl ?_
        refine j_iconst C dL_areEntries_45 (0 : Int32) (by decide) 46 rfl ?_
        refine j_istore_n C dL_areEntries_46 rfl (by decide) [(3, .int (0 : Int32)), (2, .int (0 : Int32)), (1, .int (0 : Int32)), (0, .ref (gA G 81))] rfl 47 rfl ?_
        refine j_sub [(0, .ref (gA G 81)), (1, .int (0 : Int32)), (2, .int (0 : Int32)), (3, .int (0 : Int32))] [3, 2, 1, 0] rfl ?_
        refine w_L_areEntries_47 C F  (fun σ v1 v2 h => ?_) FU _ _ _ _ h
        exact w_L_areEntries_336 C F  _ _ _ h
      · have h := it_f c h
        refine j_aload_n C dL_areEntries_29 rfl 1 rfl 30 rfl ?_
        obtain ⟨q61, e62, h⟩ := ob_some h
        refine j_callV C (ct_X6_meanKeys (eL E) G  e62) sh81 foX6 rfl vk_X6_meanKeys kw3_64 rfl ⟨Nat.le_of_ble_eq_true rfl, Nat.le_of_ble_eq_true rfl, rfl, rfl⟩ ⟨Nat.zero_le _, Nat.zero_le _⟩ (rest := []) rfl (Nat.le_of_ble_eq_true rfl) dL_areEntries_30 (st1 := [.float q61.2]) rfl 33 rfl ?_
        refine j_ldcf C dL_areEntries_33 kw3_68 35 rfl ?_
        refine j_fcmp C dL_areEntries_35 36 rfl ?_
        refine j_if_gt C dL_areEntries_36 43 (by decide) 39 rfl (fun c => ?_) (fun c => ?_)
        · have h := it_t c h
          refine j_iconst C dL_areEntries_43 (0 : Int32) (by decide) 44 rfl ?_
          refine j_istore_n C dL_areEntries_44 rfl (by decide) [(2, .int (0 : Int32)), (1, .int (0 : Int32)), (0, .ref (gA G 81))] rfl 45 rfl ?_
          refine j_iconst C dL_areEntries_45 (0 : Int32) (by decide) 46 rfl ?_
          refine j_istore_n C dL_areEntries_46 rfl (by decide) [(3, .int (0 : Int32)), (2, .int (0 : Int32)), (1, .int (0 : Int32)), (0, .ref (gA G 81))] rfl 47 rfl ?_
          refine j_sub [(0, .ref (gA G 81)), (1, .int (0 : Int32)), (2, .int (0 : Int32)), (3, .int (0 : Int32))] [3, 2, 1, 0] rfl ?_
          refine w_L_areEntries_47 C F  (fun σ v1 v2 h => ?_) FU _ _ _ _ h
          exact w_L_areEntries_336 C F  _ _ _ h
        · have h := it_f c h
          refine j_iconst C dL_areEntries_39 (1 : Int32) (by decide) 40 rfl ?_
          refine j_goto C dL_areEntries_40 44 (by decide) ?_
          refine j_istore_n C dL_areEntries_44 rfl (by decide) [(2, .int (1 : Int32)), (1, .int (0 : Int32)), (0, .ref (gA G 81))] rfl 45 rfl ?_
          refine j_iconst C dL_areEntries_45 (0 : Int32) (by decide) 46 rfl ?_
          refine j_istore_n C dL_areEntries_46 rfl (by decide) [(3, .int (0 : Int32)), (2, .int (1 : Int32)), (1, .int (0 : Int32)), (0, .ref (gA G 81))] rfl 47 rfl ?_
          refine j_sub [(0, .ref (gA G 81)), (1, .int (0 : Int32)), (2, .int (1 : Int32)), (3, .int (0 : Int32))] [3, 2, 1, 0] rfl ?_
          refine w_L_areEntries_47 C F  (fun σ v1 v2 h => ?_) FU _ _ _ _ h
          exact w_L_areEntries_336 C F  _ _ _ h

-- ===== StenoChordsLaw.areBegun(LStenoChords;II)Z
theorem vk_L_areBegun : SK yL_areBegun cL_areBegun 6 (some .boolean) 3 := ⟨kw3_84, kw3_83, kw1_0, by decide +kernel⟩
def L_areBegun_5 (K : Mem → Int32 → Int32 → Int32 → Option (Mem × Int32)) : Nat → Mem → Int32 → Int32 → Int32 → Int32 → Option (Mem × Int32)
  | 0, _, _, _, _, _ => none
  | fu + 1, σ, v1, v2, v3, v4 => (if (4 : Int32) ≤ v4 then K σ v1 v2 v3 else (if v3 = 0 then L_areBegun_5 K fu σ v1 v2 (0 : Int32) (v4 + (1 : Int32)) else ((xlv (X6_begun σ v4)).bind fun q1 => (if q1.2 < 0 then L_areBegun_5 K fu q1.1 v1 v2 (0 : Int32) (v4 + (1 : Int32)) else ((xlv (X6_begun q1.1 v4)).bind fun q3 => ((xlv (X6_count q3.1 (4 : Int32))).bind fun q5 => (if q5.2 < q3.2 then L_areBegun_5 K fu q5.1 v1 v2 (0 : Int32) (v4 + (1 : Int32)) else ((xlv (X6_count q5.1 (0 : Int32))).bind fun q7 => (if v4 ≤ q7.2 then L_areBegun_5 K fu q7.1 v1 v2 (1 : Int32) (v4 + (1 : Int32)) else ((xlv (X6_begun q7.1 v4)).bind fun q9 => (if q9.2 = 0 then L_areBegun_5 K fu q9.1 v1 v2 (1 : Int32) (v4 + (1 : Int32)) else L_areBegun_5 K fu q9.1 v1 v2 (0 : Int32) (v4 + (1 : Int32)))))))))))))
set_option maxHeartbeats 4000000 in
set_option maxRecDepth 100000 in
theorem w_L_areBegun_5 {E : Ev} {G : Gw} (C : Cx E G RL cL_areBegun 6 { frames := 7, cells := 0, slots := 0, locals := 139 }) {out : Mem × Int32} (F : Ef E G out.1 (some (.int out.2)) (some .boolean) 0 0)  {K : Mem → Int32 → Int32 → Int32 → Option (Mem × Int32)} (hK : ∀ (σ : Mem) (v1 : Int32) (v2 : Int32) (v3 : Int32), K σ v1 v2 v3 = some out → J E G 6 0 0 σ 69 [(0, .ref (gA G 81)), (1, .int v1), (2, .int v2), (3, .int v3)] []) : ∀ (fu : Nat) (σ : Mem) (v1 : Int32) (v2 : Int32) (v3 : Int32) (v4 : Int32), L_areBegun_5 K fu σ v1 v2 v3 v4 = some out → J E G 6 0 0 σ 5 [(0, .ref (gA G 81)), (1, .int v1), (2, .int v2), (3, .int v3), (4, .int v4)] [] := by
  intro fu
  induction fu with
  | zero => intro σ v1 v2 v3 v4 h; rw [L_areBegun_5] at h; cases h
  | succ fu ih =>
    intro σ v1 v2 v3 v4 h
    rw [L_areBegun_5] at h
    refine j_iload C dL_areBegun_5 4 rfl 7 rfl ?_
    refine j_iconst C dL_areBegun_7 (4 : Int32) (by decide) 8 rfl ?_
    refine j_icmp_ge C dL_areBegun_8 69 (by decide) 11 rfl (fun c => ?_) (fun c => ?_)
    · have h := it_t c h
      refine j_sub [(0, .ref (gA G 81)), (1, .int v1), (2, .int v2), (3, .int v3)] [0, 1, 2, 3] rfl ?_
      exact hK _ _ _ _ h
    · have h := it_f c h
      refine j_iload_n C dL_areBegun_11 rfl 3 rfl 12 rfl ?_
      refine j_if_eq C dL_areBegun_12 61 (by decide) 15 rfl (fun c => ?_) (fun c => ?_)
      · have h := it_t c h
        refine j_iconst C dL_areBegun_61 (0 : Int32) (by decide) 62 rfl ?_
        refine j_istore_n C dL_areBegun_62 rfl (by decide) [(3, .int (0 : Int32)), (0, .ref (gA G 81)), (1, .int v1), (2, .int v2), (4, .int v4)] rfl 63 rfl ?_
        refine j_iinc C dL_areBegun_63 4 rfl (v4 + (1 : Int32)) rfl (by decide) [(4, .int (v4 + (1 : Int32))), (3, .int (0 : Int32)), (0, .ref (gA G 81)), (1, .int v1), (2, .int v2)] rfl 66 rfl ?_
        refine j_goto C dL_areBegun_66 5 (by decide) ?_
        refine j_sub [(0, .ref (gA G 81)), (1, .int v1), (2, .int v2), (3, .int (0 : Int32)), (4, .int (v4 + (1 : Int32)))] [2, 3, 4, 1, 0] rfl ?_
        exact ih _ _ _ _ _ h
      · have h := it_f c h
        refine j_aload_n C dL_areBegun_15 rfl 0 rfl 16 rfl ?_
        refine j_iload C dL_areBegun_16 4 rfl 18 rfl ?_
        obtain ⟨q1, e2, h⟩ := ob_some h
        refine j_callV C (ct_X6_begun (eL E) G  (xlv_some e2)) sh81 foX6 rfl vk_X6_begun kw3_85 rfl ⟨Nat.le_of_ble_eq_true rfl, Nat.le_of_ble_eq_true rfl, rfl, rfl⟩ ⟨Nat.zero_le _, Nat.zero_le _⟩ (rest := []) rfl (Nat.le_of_ble_eq_true rfl) dL_areBegun_18 (st1 := [.int q1.2]) rfl 21 rfl ?_
        refine j_if_lt C dL_areBegun_21 61 (by decide) 24 rfl (fun c => ?_) (fun c => ?_)
        · have h := it_t c h
          refine j_iconst C dL_areBegun_61 (0 : Int32) (by decide) 62 rfl ?_
          refine j_istore_n C dL_areBegun_62 rfl (by decide) [(3, .int (0 : Int32)), (0, .ref (gA G 81)), (1, .int v1), (2, .int v2), (4, .int v4)] rfl 63 rfl ?_
          refine j_iinc C dL_areBegun_63 4 rfl (v4 + (1 : Int32)) rfl (by decide) [(4, .int (v4 + (1 : Int32))), (3, .int (0 : Int32)), (0, .ref (gA G 81)), (1, .int v1), (2, .int v2)] rfl 66 rfl ?_
          refine j_goto C dL_areBegun_66 5 (by decide) ?_
          refine j_sub [(0, .ref (gA G 81)), (1, .int v1), (2, .int v2), (3, .int (0 : Int32)), (4, .int (v4 + (1 : Int32)))] [2, 3, 4, 1, 0] rfl ?_
          exact ih _ _ _ _ _ h
        · have h := it_f c h
          refine j_aload_n C dL_areBegun_24 rfl 0 rfl 25 rfl ?_
          refine j_iload C dL_areBegun_25 4 rfl 27 rfl ?_
          obtain ⟨q3, e4, h⟩ := ob_some h
          refine j_callV C (ct_X6_begun (eL E) G  (xlv_some e4)) sh81 foX6 rfl vk_X6_begun kw3_85 rfl ⟨Nat.le_of_ble_eq_true rfl, Nat.le_of_ble_eq_true rfl, rfl, rfl⟩ ⟨Nat.zero_le _, Nat.zero_le _⟩ (rest := []) rfl (Nat.le_of_ble_eq_true rfl) dL_areBegun_27 (st1 := [.int q3.2]) rfl 30 rfl ?_
          refine j_aload_n C dL_areBegun_30 rfl 0 rfl 31 rfl ?_
          refine j_iconst C dL_areBegun_31 (4 : Int32) (by decide) 32 rfl ?_
          obtain ⟨q5, e6, h⟩ := ob_some h
          refine j_callV C (ct_X6_count (eL E) G  (xlv_some e6)) sh81 foX6 rfl vk_X6_count kw2_90 rfl ⟨Nat.le_of_ble_eq_true rfl, Nat.le_of_ble_eq_true rfl, rfl, rfl⟩ ⟨Nat.zero_le _, Nat.zero_le _⟩ (rest := [.int q3.2]) rfl (Nat.le_of_ble_eq_true rfl) dL_areBegun_32 (st1 := [.int q5.2, .int q3.2]) rfl 35 rfl ?_
          refine j_icmp_gt C dL_areBegun_35 61 (by decide) 38 rfl (fun c => ?_) (fun c => ?_)
          · have h := it_t c h
            refine j_iconst C dL_areBegun_61 (0 : Int32) (by decide) 62 rfl ?_
            refine j_istore_n C dL_areBegun_62 rfl (by decide) [(3, .int (0 : Int32)), (0, .ref (gA G 81)), (1, .int v1), (2, .int v2), (4, .int v4)] rfl 63 rfl ?_
            refine j_iinc C dL_areBegun_63 4 rfl (v4 + (1 : Int32)) rfl (by decide) [(4, .int (v4 + (1 : Int32))), (3, .int (0 : Int32)), (0, .ref (gA G 81)), (1, .int v1), (2, .int v2)] rfl 66 rfl ?_
            refine j_goto C dL_areBegun_66 5 (by decide) ?_
            refine j_sub [(0, .ref (gA G 81)), (1, .int v1), (2, .int v2), (3, .int (0 : Int32)), (4, .int (v4 + (1 : Int32)))] [2, 3, 4, 1, 0] rfl ?_
            exact ih _ _ _ _ _ h
          · have h := it_f c h
            refine j_aload_n C dL_areBegun_38 rfl 0 rfl 39 rfl ?_
            refine j_iconst C dL_areBegun_39 (0 : Int32) (by decide) 40 rfl ?_
            obtain ⟨q7, e8, h⟩ := ob_some h
            refine j_callV C (ct_X6_count (eL E) G  (xlv_some e8)) sh81 foX6 rfl vk_X6_count kw2_90 rfl ⟨Nat.le_of_ble_eq_true rfl, Nat.le_of_ble_eq_true rfl, rfl, rfl⟩ ⟨Nat.zero_le _, Nat.zero_le _⟩ (rest := []) rfl (Nat.le_of_ble_eq_true rfl) dL_areBegun_40 (st1 := [.int q7.2]) rfl 43 rfl ?_
            refine j_iload C dL_areBegun_43 4 rfl 45 rfl ?_
            refine j_icmp_ge C dL_areBegun_45 57 (by decide) 48 rfl (fun c => ?_) (fun c => ?_)
            · have h := it_t c h
              refine j_iconst C dL_areBegun_57 (1 : Int32) (by decide) 58 rfl ?_
              refine j_goto C dL_areBegun_58 62 (by decide) ?_
              refine j_istore_n C dL_areBegun_62 rfl (by decide) [(3, .int (1 : Int32)), (0, .ref (gA G 81)), (1, .int v1), (2, .int v2), (4, .int v4)] rfl 63 rfl ?_
              refine j_iinc C dL_areBegun_63 4 rfl (v4 + (1 : Int32)) rfl (by decide) [(4, .int (v4 + (1 : Int32))), (3, .int (1 : Int32)), (0, .ref (gA G 81)), (1, .int v1), (2, .int v2)] rfl 66 rfl ?_
              refine j_goto C dL_areBegun_66 5 (by decide) ?_
              refine j_sub [(0, .ref (gA G 81)), (1, .int v1), (2, .int v2), (3, .int (1 : Int32)), (4, .int (v4 + (1 : Int32)))] [2, 3, 4, 1, 0] rfl ?_
              exact ih _ _ _ _ _ h
            · have h := it_f c h
              refine j_aload_n C dL_areBegun_48 rfl 0 rfl 49 rfl ?_
              refine j_iload C dL_areBegun_49 4 rfl 51 rfl ?_
              obtain ⟨q9, e10, h⟩ := ob_some h
              refine j_callV C (ct_X6_begun (eL E) G  (xlv_some e10)) sh81 foX6 rfl vk_X6_begun kw3_85 rfl ⟨Nat.le_of_ble_eq_true rfl, Nat.le_of_ble_eq_true rfl, rfl, rfl⟩ ⟨Nat.zero_le _, Nat.zero_le _⟩ (rest := []) rfl (Nat.le_of_ble_eq_true rfl) dL_areBegun_51 (st1 := [.int q9.2]) rfl 54 rfl ?_
              refine j_if_ne C dL_areBegun_54 61 (by decide) 57 rfl (fun c => ?_) (fun c => ?_)
              · have h := it_f c h
                refine j_iconst C dL_areBegun_61 (0 : Int32) (by decide) 62 rfl ?_
                refine j_istore_n C dL_areBegun_62 rfl (by decide) [(3, .int (0 : Int32)), (0, .ref (gA G 81)), (1, .int v1), (2, .int v2), (4, .int v4)] rfl 63 rfl ?_
                refine j_iinc C dL_areBegun_63 4 rfl (v4 + (1 : Int32)) rfl (by decide) [(4, .int (v4 + (1 : Int32))), (3, .int (0 : Int32)), (0, .ref (gA G 81)), (1, .int v1), (2, .int v2)] rfl 66 rfl ?_
                refine j_goto C dL_areBegun_66 5 (by decide) ?_
                refine j_sub [(0, .ref (gA G 81)), (1, .int v1), (2, .int v2), (3, .int (0 : Int32)), (4, .int (v4 + (1 : Int32)))] [2, 3, 4, 1, 0] rfl ?_
                exact ih _ _ _ _ _ h
              · have h := it_t c h
                refine j_iconst C dL_areBegun_57 (1 : Int32) (by decide) 58 rfl ?_
                refine j_goto C dL_areBegun_58 62 (by decide) ?_
                refine j_istore_n C dL_areBegun_62 rfl (by decide) [(3, .int (1 : Int32)), (0, .ref (gA G 81)), (1, .int v1), (2, .int v2), (4, .int v4)] rfl 63 rfl ?_
                refine j_iinc C dL_areBegun_63 4 rfl (v4 + (1 : Int32)) rfl (by decide) [(4, .int (v4 + (1 : Int32))), (3, .int (1 : Int32)), (0, .ref (gA G 81)), (1, .int v1), (2, .int v2)] rfl 66 rfl ?_
                refine j_goto C dL_areBegun_66 5 (by decide) ?_
                refine j_sub [(0, .ref (gA G 81)), (1, .int v1), (2, .int v2), (3, .int (1 : Int32)), (4, .int (v4 + (1 : Int32)))] [2, 3, 4, 1, 0] rfl ?_
                exact ih _ _ _ _ _ h
def L_areBegun (σ : Mem) (p1 : Int32) (p2 : Int32) : Option (Mem × Int32) :=
  L_areBegun_5 (fun (σ : Mem) (v1 : Int32) (v2 : Int32) (v3 : Int32) => ((xlv (X6_count σ (4 : Int32))).bind fun q11 => (if q11.2 = 0 then (if v3 = 0 then some (q11.1, (0 : Int32)) else ((X6_clashes q11.1).bind fun q29 => (if q29.2 = 0 then some (q29.1, (1 : Int32)) else some (q29.1, (0 : Int32))))) else ((xlv (X6_count q11.1 (4 : Int32))).bind fun q13 => (if ¬ q13.2 = 0 then ((xlv (X6_count q13.1 (4 : Int32))).bind fun q15 => (if ¬ q15.2 = 0 then ((xlv (X6_behind q15.1 (v1 - v1 / q13.2 * q13.2) (v2 - v2 / q15.2 * q15.2))).bind fun q17 => ((X6_clashes q17.1).bind fun q19 => (if v3 = 0 then some (q19.1, (0 : Int32)) else (if q17.2 < 0 then some (q19.1, (0 : Int32)) else (if (2 : Int32) < q17.2 then some (q19.1, (0 : Int32)) else (if q17.2 ≤ 0 then (if q19.2 < (0 : Int32) then some (q19.1, (0 : Int32)) else ((xlv (X6_count q19.1 (4 : Int32))).bind fun q21 => ((xlv (X6_count q21.1 (4 : Int32))).bind fun q23 => (if (q21.2 * q23.2) < q19.2 then some (q23.1, (0 : Int32)) else some (q23.1, (1 : Int32)))))) else (if q19.2 < (1 : Int32) then some (q19.1, (0 : Int32)) else ((xlv (X6_count q19.1 (4 : Int32))).bind fun q25 => ((xlv (X6_count q25.1 (4 : Int32))).bind fun q27 => (if (q25.2 * q27.2) < q19.2 then some (q27.1, (0 : Int32)) else some (q27.1, (1 : Int32)))))))))))) else none)) else none))))) FU σ p1 p2 (1 : Int32) (1 : Int32)
set_option maxHeartbeats 4000000 in
set_option maxRecDepth 100000 in
theorem ct_L_areBegun (l : Launch) (G : Gw)  {σ : Mem} {p1 : Int32} {p2 : Int32} {out : Mem × Int32} (h : L_areBegun σ p1 p2 = some out) : Ct l G yL_areBegun cL_areBegun 6 (some .boolean) { frames := 7, cells := 0, slots := 0, locals := 139 } [.ref (gA G 81), .int p1, .int p2] σ out.1 (some (.int out.2)) := by
  refine Ct.of (by decide +kernel) (Nat.le_of_ble_eq_true rfl) (fun E hE C F => ?_)
  subst hE
  have C : Cx E G RL cL_areBegun 6 { frames := 7, cells := 0, slots := 0, locals := 139 } := C
  unfold L_areBegun at h
  show J E G 6 0 0 σ 0 [(0, .ref (gA G 81)), (1, .int p1), (2, .int p2)] []
  refine j_iconst C dL_areBegun_0 (1 : Int32) (by decide) 1 rfl ?_
  refine j_istore_n C dL_areBegun_1 rfl (by decide) [(3, .int (1 : Int32)), (0, .ref (gA G 81)), (1, .int p1), (2, .int p2)] rfl 2 rfl ?_
  refine j_iconst C dL_areBegun_2 (1 : Int32) (by decide) 3 rfl ?_
  refine j_istore C dL_areBegun_3 (by decide) [(4, .int (1 : Int32)), (3, .int (1 : Int32)), (0, .ref (gA G 81)), (1, .int p1), (2, .int p2)] rfl 5 rfl ?_
  refine j_sub [(0, .ref (gA G 81)), (1, .int p1), (2, .int p2), (3, .int (1 : Int32)), (4, .int (1 : Int32))] [2, 3, 4, 1, 0] rfl ?_
  refine w_L_areBegun_5 C F  (fun σ v1 v2 v3 h => ?_) FU _ _ _ _ _ h
  refine j_aload_n C dL_areBegun_69 rfl 0 rfl 70 rfl ?_
  refine j_iconst C dL_areBegun_70 (4 : Int32) (by decide) 71 rfl ?_
  obtain ⟨q11, e12, h⟩ := ob_some h
  refine j_callV C (ct_X6_count (eL E) G  (xlv_some e12)) sh81 foX6 rfl vk_X6_count kw2_90 rfl ⟨Nat.le_of_ble_eq_true rfl, Nat.le_of_ble_eq_true rfl, rfl, rfl⟩ ⟨Nat.zero_le _, Nat.zero_le _⟩ (rest := []) rfl (Nat.le_of_ble_eq_true rfl) dL_areBegun_71 (st1 := [.int q11.2]) rfl 74 rfl ?_
  refine j_if_ne C dL_areBegun_74 94 (by decide) 77 rfl (fun c => ?_) (fun c => ?_)
  · have h := it_f c h
    refine j_aload_n C dL_areBegun_94 rfl 0 rfl 95 rfl ?_
    refine j_iload_n C dL_areBegun_95 rfl 1 rfl 96 rfl ?_
    refine j_aload_n C dL_areBegun_96 rfl 0 rfl 97 rfl ?_
    refine j_iconst C dL_areBegun_97 (4 : Int32) (by decide) 98 rfl ?_
    obtain ⟨q13, e14, h⟩ := ob_some h
    refine j_callV C (ct_X6_count (eL E) G  (xlv_some e14)) sh81 foX6 rfl vk_X6_count kw2_90 rfl ⟨Nat.le_of_ble_eq_true rfl, Nat.le_of_ble_eq_true rfl, rfl, rfl⟩ ⟨Nat.zero_le _, Nat.zero_le _⟩ (rest := [.int v1, .ref (gA G 81)]) rfl (Nat.le_of_ble_eq_true rfl) dL_areBegun_98 (st1 := [.int q13.2, .int v1, .ref (gA G 81)]) rfl 101 rfl ?_
    obtain ⟨hc, h⟩ := if_some h
    refine j_irem C dL_areBegun_101 hc 102 rfl ?_
    refine j_iload_n C dL_areBegun_102 rfl 2 rfl 103 rfl ?_
    refine j_aload_n C dL_areBegun_103 rfl 0 rfl 104 rfl ?_
    refine j_iconst C dL_areBegun_104 (4 : Int32) (by decide) 105 rfl ?_
    obtain ⟨q15, e16, h⟩ := ob_some h
    refine j_callV C (ct_X6_count (eL E) G  (xlv_some e16)) sh81 foX6 rfl vk_X6_count kw2_90 rfl ⟨Nat.le_of_ble_eq_true rfl, Nat.le_of_ble_eq_true rfl, rfl, rfl⟩ ⟨Nat.zero_le _, Nat.zero_le _⟩ (rest := [.int v2, .int (v1 - v1 / q13.2 * q13.2), .ref (gA G 81)]) rfl (Nat.le_of_ble_eq_true rfl) dL_areBegun_105 (st1 := [.int q15.2, .int v2, .int (v1 - v1 / q13.2 * q13.2), .ref (gA G 81)]) rfl 108 rfl ?_
    obtain ⟨hc, h⟩ := if_some h
    refine j_irem C dL_areBegun_108 hc 109 rfl ?_
    obtain ⟨q17, e18, h⟩ := ob_some h
    refine j_callV C (ct_X6_behind (eL E) G  (xlv_some e18)) sh81 foX6 rfl vk_X6_behind kw3_107 rfl ⟨Nat.le_of_ble_eq_true rfl, Nat.le_of_ble_eq_true rfl, rfl, rfl⟩ ⟨Nat.zero_le _, Nat.zero_le _⟩ (rest := []) rfl (Nat.le_of_ble_eq_true rfl) dL_areBegun_109 (st1 := [.int q17.2]) rfl 112 rfl ?_
    refine j_istore C dL_areBegun_112 (by decide) [(4, .int q17.2), (0, .ref (gA G 81)), (1, .int v1), (2, .int v2), (3, .int v3)] rfl 114 rfl ?_
    refine j_aload_n C dL_areBegun_114 rfl 1 rfl 115 rfl ?_
    obtain ⟨q19, e20, h⟩ := ob_some h
    refine j_callV C (ct_X6_clashes (eL E) G  e20) sh81 foX6 rfl vk_X6_clashes kw3_94 rfl ⟨Nat.le_of_ble_eq_true rfl, Nat.le_of_ble_eq_true rfl, rfl, rfl⟩ ⟨Nat.zero_le _, Nat.zero_le _⟩ (rest := []) rfl (Nat.le_of_ble_eq_true rfl) dL_areBegun_115 (st1 := [.int q19.2]) rfl 118 rfl ?_
    refine j_istore C dL_areBegun_118 (by decide) [(5, .int q19.2), (4, .int q17.2), (0, .ref (gA G 81)), (1, .int v1), (2, .int v2), (3, .int v3)] rfl 120 rfl ?_
    refine j_iload_n C dL_areBegun_120 rfl 5 rfl 121 rfl ?_
    refine j_if_eq C dL_areBegun_121 170 (by decide) 124 rfl (fun c => ?_) (fun c => ?_)
    · have h := it_t c h
      refine j_iconst C dL_areBegun_170 (0 : Int32) (by decide) 171 rfl ?_
      exact j_zret C F dL_areBegun_171 (by decide) h
    · have h := it_f c h
      refine j_iload C dL_areBegun_124 1 rfl 126 rfl ?_
      refine j_if_lt C dL_areBegun_126 170 (by decide) 129 rfl (fun c => ?_) (fun c => ?_)
      · have h := it_t c h
        refine j_iconst C dL_areBegun_170 (0 : Int32) (by decide) 171 rfl ?_
        exact j_zret C F dL_areBegun_171 (by decide) h
      · have h := it_f c h
        refine j_iload C dL_areBegun_129 1 rfl 131 rfl ?_
        refine j_iconst C dL_areBegun_131 (2 : Int32) (by decide) 132 rfl ?_
        refine j_icmp_gt C dL_areBegun_132 170 (by decide) 135 rfl (fun c => ?_) (fun c => ?_)
        · have h := it_t c h
          refine j_iconst C dL_areBegun_170 (0 : Int32) (by decide) 171 rfl ?_
          exact j_zret C F dL_areBegun_171 (by decide) h
        · have h := it_f c h
          refine j_iload C dL_areBegun_135 0 rfl 137 rfl ?_
          refine j_iload C dL_areBegun_137 1 rfl 139 rfl ?_
          refine j_if_le C dL_areBegun_139 146 (by decide) 142 rfl (fun c => ?_) (fun c => ?_)
          · have h := it_t c h
            refine j_iconst C dL_areBegun_146 (0 : Int32) (by decide) 147 rfl ?_
            refine j_icmp_lt C dL_areBegun_147 170 (by decide) 150 rfl (fun c => ?_) (fun c => ?_)
            · have h := it_t c h
              refine j_iconst C dL_areBegun_170 (0 : Int32) (by decide) 171 rfl ?_
              exact j_zret C F dL_areBegun_171 (by decide) h
            · have h := it_f c h
              refine j_iload C dL_areBegun_150 0 rfl 152 rfl ?_
              refine j_aload_n C dL_areBegun_152 rfl 2 rfl 153 rfl ?_
              refine j_iconst C dL_areBegun_153 (4 : Int32) (by decide) 154 rfl ?_
              obtain ⟨q21, e22, h⟩ := ob_some h
              refine j_callV C (ct_X6_count (eL E) G  (xlv_some e22)) sh81 foX6 rfl vk_X6_count kw2_90 rfl ⟨Nat.le_of_ble_eq_true rfl, Nat.le_of_ble_eq_true rfl, rfl, rfl⟩ ⟨Nat.zero_le _, Nat.zero_le _⟩ (rest := [.int q19.2]) rfl (Nat.le_of_ble_eq_true rfl) dL_areBegun_154 (st1 := [.int q21.2, .int q19.2]) rfl 157 rfl ?_
              refine j_aload_n C dL_areBegun_157 rfl 2 rfl 158 rfl ?_
              refine j_iconst C dL_areBegun_158 (4 : Int32) (by decide) 159 rfl ?_
              obtain ⟨q23, e24, h⟩ := ob_some h
              refine j_callV C (ct_X6_count (eL E) G  (xlv_some e24)) sh81 foX6 rfl vk_X6_count kw2_90 rfl ⟨Nat.le_of_ble_eq_true rfl, Nat.le_of_ble_eq_true rfl, rfl, rfl⟩ ⟨Nat.zero_le _, Nat.zero_le _⟩ (rest := [.int q21.2, .int q19.2]) rfl (Nat.le_of_ble_eq_true rfl) dL_areBegun_159 (st1 := [.int q23.2, .int q21.2, .int q19.2]) rfl 162 rfl ?_
              refine j_imul C dL_areBegun_162 163 rfl ?_
              refine j_icmp_gt C dL_areBegun_163 170 (by decide) 166 rfl (fun c => ?_) (fun c => ?_)
              · have h := it_t c h
                refine j_iconst C dL_areBegun_170 (0 : Int32) (by decide) 171 rfl ?_
                exact j_zret C F dL_areBegun_171 (by decide) h
              · have h := it_f c h
                refine j_iconst C dL_areBegun_166 (1 : Int32) (by decide) 167 rfl ?_
                refine j_goto C dL_areBegun_167 171 (by decide) ?_
                exact j_zret C F dL_areBegun_171 (by decide) h
          · have h := it_f c h
            refine j_iconst C dL_areBegun_142 (1 : Int32) (by decide) 143 rfl ?_
            refine j_goto C dL_areBegun_143 147 (by decide) ?_
            refine j_icmp_lt C dL_areBegun_147 170 (by decide) 150 rfl (fun c => ?_) (fun c => ?_)
            · have h := it_t c h
              refine j_iconst C dL_areBegun_170 (0 : Int32) (by decide) 171 rfl ?_
              exact j_zret C F dL_areBegun_171 (by decide) h
            · have h := it_f c h
              refine j_iload C dL_areBegun_150 0 rfl 152 rfl ?_
              refine j_aload_n C dL_areBegun_152 rfl 2 rfl 153 rfl ?_
              refine j_iconst C dL_areBegun_153 (4 : Int32) (by decide) 154 rfl ?_
              obtain ⟨q25, e26, h⟩ := ob_some h
              refine j_callV C (ct_X6_count (eL E) G  (xlv_some e26)) sh81 foX6 rfl vk_X6_count kw2_90 rfl ⟨Nat.le_of_ble_eq_true rfl, Nat.le_of_ble_eq_true rfl, rfl, rfl⟩ ⟨Nat.zero_le _, Nat.zero_le _⟩ (rest := [.int q19.2]) rfl (Nat.le_of_ble_eq_true rfl) dL_areBegun_154 (st1 := [.int q25.2, .int q19.2]) rfl 157 rfl ?_
              refine j_aload_n C dL_areBegun_157 rfl 2 rfl 158 rfl ?_
              refine j_iconst C dL_areBegun_158 (4 : Int32) (by decide) 159 rfl ?_
              obtain ⟨q27, e28, h⟩ := ob_some h
              refine j_callV C (ct_X6_count (eL E) G  (xlv_some e28)) sh81 foX6 rfl vk_X6_count kw2_90 rfl ⟨Nat.le_of_ble_eq_true rfl, Nat.le_of_ble_eq_true rfl, rfl, rfl⟩ ⟨Nat.zero_le _, Nat.zero_le _⟩ (rest := [.int q25.2, .int q19.2]) rfl (Nat.le_of_ble_eq_true rfl) dL_areBegun_159 (st1 := [.int q27.2, .int q25.2, .int q19.2]) rfl 162 rfl ?_
              refine j_imul C dL_areBegun_162 163 rfl ?_
              refine j_icmp_gt C dL_areBegun_163 170 (by decide) 166 rfl (fun c => ?_) (fun c => ?_)
              · have h := it_t c h
                refine j_iconst C dL_areBegun_170 (0 : Int32) (by decide) 171 rfl ?_
                exact j_zret C F dL_areBegun_171 (by decide) h
              · have h := it_f c h
                refine j_iconst C dL_areBegun_166 (1 : Int32) (by decide) 167 rfl ?_
                refine j_goto C dL_areBegun_167 171 (by decide) ?_
                exact j_zret C F dL_areBegun_171 (by decide) h
  · have h := it_t c h
    refine j_iload_n C dL_areBegun_77 rfl 3 rfl 78 rfl ?_
    refine j_if_eq C dL_areBegun_78 92 (by decide) 81 rfl (fun c => ?_) (fun c => ?_)
    · have h := it_t c h
      refine j_iconst C dL_areBegun_92 (0 : Int32) (by decide) 93 rfl ?_
      exact j_zret C F dL_areBegun_93 (by decide) h
    · have h := it_f c h
      refine j_aload_n C dL_areBegun_81 rfl 0 rfl 82 rfl ?_
      obtain ⟨q29, e30, h⟩ := ob_some h
      refine j_callV C (ct_X6_clashes (eL E) G  e30) sh81 foX6 rfl vk_X6_clashes kw3_94 rfl ⟨Nat.le_of_ble_eq_true rfl, Nat.le_of_ble_eq_true rfl, rfl, rfl⟩ ⟨Nat.zero_le _, Nat.zero_le _⟩ (rest := []) rfl (Nat.le_of_ble_eq_true rfl) dL_areBegun_82 (st1 := [.int q29.2]) rfl 85 rfl ?_
      refine j_if_ne C dL_areBegun_85 92 (by decide) 88 rfl (fun c => ?_) (fun c => ?_)
      · have h := it_f c h
        refine j_iconst C dL_areBegun_92 (0 : Int32) (by decide) 93 rfl ?_
        exact j_zret C F dL_areBegun_93 (by decide) h
      · have h := it_t c h
        refine j_iconst C dL_areBegun_88 (1 : Int32) (by decide) 89 rfl ?_
        refine j_goto C dL_areBegun_89 93 (by decide) ?_
        exact j_zret C F dL_areBegun_93 (by decide) h

-- ===== StenoChordsLaw.strikes(LStenoChords;I)Z
theorem vk_L_strikes : SK yL_strikes cL_strikes 9 (some .boolean) 2 := ⟨kw4_66, kw4_65, kw1_0, by decide +kernel⟩
def L_strikes_72 (σ : Mem) (v2 : Int32) (v3 : Int32) (v4 : Int32) (v5 : Int32) (v6 : Int32) (s0 : Int32) : Option (Mem × Int32) :=
  ((xlv (X6_strike σ (0 : Int32))).bind fun q37 => ((xlv (X6_count q37.1 (2 : Int32))).bind fun q39 => (if q37.2 = q39.2 then ((xlv (X6_count q39.1 (0 : Int32))).bind fun q41 => (if q41.2 = (v2 - s0) then ((xlv (X6_count q41.1 (6 : Int32))).bind fun q43 => (if q43.2 = (v5 + s0) then ((xlv (X6_count q43.1 (5 : Int32))).bind fun q45 => (if q45.2 = v4 then ((xlv (X6_setting q45.1 (0 : Int32))).bind fun q47 => (if q47.2 = 0 then ((xlv (X6_count q47.1 (0 : Int32))).bind fun q49 => (if q49.2 = 0 then some (q49.1, (1 : Int32)) else ((xlv (X6_stroke q49.1 (0 : Int32))).bind fun q51 => (if q51.2 = v6 then some (q51.1, (1 : Int32)) else some (q51.1, (0 : Int32)))))) else (if v3 < q37.2 then some (q47.1, (0 : Int32)) else ((xlv (X6_count q47.1 (0 : Int32))).bind fun q53 => (if q53.2 = 0 then some (q53.1, (1 : Int32)) else ((xlv (X6_stroke q53.1 (0 : Int32))).bind fun q55 => (if q55.2 = v6 then some (q55.1, (1 : Int32)) else some (q55.1, (0 : Int32))))))))) else some (q45.1, (0 : Int32)))) else some (q43.1, (0 : Int32)))) else some (q41.1, (0 : Int32)))) else some (q39.1, (0 : Int32)))))
set_option maxHeartbeats 4000000 in
set_option maxRecDepth 100000 in
theorem w_L_strikes_72 {E : Ev} {G : Gw} (C : Cx E G RL cL_strikes 9 { frames := 7, cells := 0, slots := 0, locals := 159 }) {out : Mem × Int32} (F : Ef E G out.1 (some (.int out.2)) (some .boolean) 0 0)  (σ : Mem) (v2 : Int32) (v3 : Int32) (v4 : Int32) (v5 : Int32) (v6 : Int32) (s0 : Int32) (h : L_strikes_72 σ v2 v3 v4 v5 v6 s0 = some out) : J E G 9 0 0 σ 72 [(0, .ref (gA G 81)), (2, .int v2), (3, .int v3), (4, .int v4), (5, .int v5), (6, .int v6)] [.int s0] := by
  unfold L_strikes_72 at h
  refine j_istore C dL_strikes_72 (by decide) [(7, .int s0), (0, .ref (gA G 81)), (2, .int v2), (3, .int v3), (4, .int v4), (5, .int v5), (6, .int v6)] rfl 74 rfl ?_
  refine j_aload_n C dL_strikes_74 rfl 1 rfl 75 rfl ?_
  refine j_iconst C dL_strikes_75 (0 : Int32) (by decide) 76 rfl ?_
  obtain ⟨q37, e38, h⟩ := ob_some h
  refine j_callV C (ct_X6_strike (eL E) G  (xlv_some e38)) sh81 foX6 rfl vk_X6_strike kw4_67 rfl ⟨Nat.le_of_ble_eq_true rfl, Nat.le_of_ble_eq_true rfl, rfl, rfl⟩ ⟨Nat.zero_le _, Nat.zero_le _⟩ (rest := []) rfl (Nat.le_of_ble_eq_true rfl) dL_strikes_76 (st1 := [.int q37.2]) rfl 79 rfl ?_
  refine j_istore C dL_strikes_79 (by decide) [(8, .int q37.2), (7, .int s0), (0, .ref (gA G 81)), (2, .int v2), (3, .int v3), (4, .int v4), (5, .int v5), (6, .int v6)] rfl 81 rfl ?_
  refine j_iload C dL_strikes_81 0 rfl 83 rfl ?_
  refine j_aload_n C dL_strikes_83 rfl 2 rfl 84 rfl ?_
  refine j_iconst C dL_strikes_84 (2 : Int32) (by decide) 85 rfl ?_
  obtain ⟨q39, e40, h⟩ := ob_some h
  refine j_callV C (ct_X6_count (eL E) G  (xlv_some e40)) sh81 foX6 rfl vk_X6_count kw2_90 rfl ⟨Nat.le_of_ble_eq_true rfl, Nat.le_of_ble_eq_true rfl, rfl, rfl⟩ ⟨Nat.zero_le _, Nat.zero_le _⟩ (rest := [.int q37.2]) rfl (Nat.le_of_ble_eq_true rfl) dL_strikes_85 (st1 := [.int q39.2, .int q37.2]) rfl 88 rfl ?_
  refine j_icmp_ne C dL_strikes_88 163 (by decide) 91 rfl (fun c => ?_) (fun c => ?_)
  · have h := it_f c h
    refine j_iconst C dL_strikes_163 (0 : Int32) (by decide) 164 rfl ?_
    exact j_zret C F dL_strikes_164 (by decide) h
  · have h := it_t c h
    refine j_aload_n C dL_strikes_91 rfl 2 rfl 92 rfl ?_
    refine j_iconst C dL_strikes_92 (0 : Int32) (by decide) 93 rfl ?_
    obtain ⟨q41, e42, h⟩ := ob_some h
    refine j_callV C (ct_X6_count (eL E) G  (xlv_some e42)) sh81 foX6 rfl vk_X6_count kw2_90 rfl ⟨Nat.le_of_ble_eq_true rfl, Nat.le_of_ble_eq_true rfl, rfl, rfl⟩ ⟨Nat.zero_le _, Nat.zero_le _⟩ (rest := []) rfl (Nat.le_of_ble_eq_true rfl) dL_strikes_93 (st1 := [.int q41.2]) rfl 96 rfl ?_
    refine j_iload_n C dL_strikes_96 rfl 3 rfl 97 rfl ?_
    refine j_iload C dL_strikes_97 1 rfl 99 rfl ?_
    refine j_isub C dL_strikes_99 100 rfl ?_
    refine j_icmp_ne C dL_strikes_100 163 (by decide) 103 rfl (fun c => ?_) (fun c => ?_)
    · have h := it_f c h
      refine j_iconst C dL_strikes_163 (0 : Int32) (by decide) 164 rfl ?_
      exact j_zret C F dL_strikes_164 (by decide) h
    · have h := it_t c h
      refine j_aload_n C dL_strikes_103 rfl 2 rfl 104 rfl ?_
      refine j_bipush C dL_strikes_104 (6 : Int32) (by decide) 106 rfl ?_
      obtain ⟨q43, e44, h⟩ := ob_some h
      refine j_callV C (ct_X6_count (eL E) G  (xlv_some e44)) sh81 foX6 rfl vk_X6_count kw2_90 rfl ⟨Nat.le_of_ble_eq_true rfl, Nat.le_of_ble_eq_true rfl, rfl, rfl⟩ ⟨Nat.zero_le _, Nat.zero_le _⟩ (rest := []) rfl (Nat.le_of_ble_eq_true rfl) dL_strikes_106 (st1 := [.int q43.2]) rfl 109 rfl ?_
      refine j_iload C dL_strikes_109 6 rfl 111 rfl ?_
      refine j_iload C dL_strikes_111 1 rfl 113 rfl ?_
      refine j_iadd C dL_strikes_113 114 rfl ?_
      refine j_icmp_ne C dL_strikes_114 163 (by decide) 117 rfl (fun c => ?_) (fun c => ?_)
      · have h := it_f c h
        refine j_iconst C dL_strikes_163 (0 : Int32) (by decide) 164 rfl ?_
        exact j_zret C F dL_strikes_164 (by decide) h
      · have h := it_t c h
        refine j_aload_n C dL_strikes_117 rfl 2 rfl 118 rfl ?_
        refine j_iconst C dL_strikes_118 (5 : Int32) (by decide) 119 rfl ?_
        obtain ⟨q45, e46, h⟩ := ob_some h
        refine j_callV C (ct_X6_count (eL E) G  (xlv_some e46)) sh81 foX6 rfl vk_X6_count kw2_90 rfl ⟨Nat.le_of_ble_eq_true rfl, Nat.le_of_ble_eq_true rfl, rfl, rfl⟩ ⟨Nat.zero_le _, Nat.zero_le _⟩ (rest := []) rfl (Nat.le_of_ble_eq_true rfl) dL_strikes_119 (st1 := [.int q45.2]) rfl 122 rfl ?_
        refine j_iload C dL_strikes_122 5 rfl 124 rfl ?_
        refine j_icmp_ne C dL_strikes_124 163 (by decide) 127 rfl (fun c => ?_) (fun c => ?_)
        · have h := it_f c h
          refine j_iconst C dL_strikes_163 (0 : Int32) (by decide) 164 rfl ?_
          exact j_zret C F dL_strikes_164 (by decide) h
        · have h := it_t c h
          refine j_aload_n C dL_strikes_127 rfl 2 rfl 128 rfl ?_
          refine j_iconst C dL_strikes_128 (0 : Int32) (by decide) 129 rfl ?_
          obtain ⟨q47, e48, h⟩ := ob_some h
          refine j_callV C (ct_X6_setting (eL E) G  (xlv_some e48)) sh81 foX6 rfl vk_X6_setting kw2_237 rfl ⟨Nat.le_of_ble_eq_true rfl, Nat.le_of_ble_eq_true rfl, rfl, rfl⟩ ⟨Nat.zero_le _, Nat.zero_le _⟩ (rest := []) rfl (Nat.le_of_ble_eq_true rfl) dL_strikes_129 (st1 := [.int q47.2]) rfl 132 rfl ?_
          refine j_if_eq C dL_strikes_132 141 (by decide) 135 rfl (fun c => ?_) (fun c => ?_)
          · have h := it_t c h
            refine j_aload_n C dL_strikes_141 rfl 2 rfl 142 rfl ?_
            refine j_iconst C dL_strikes_142 (0 : Int32) (by decide) 143 rfl ?_
            obtain ⟨q49, e50, h⟩ := ob_some h
            refine j_callV C (ct_X6_count (eL E) G  (xlv_some e50)) sh81 foX6 rfl vk_X6_count kw2_90 rfl ⟨Nat.le_of_ble_eq_true rfl, Nat.le_of_ble_eq_true rfl, rfl, rfl⟩ ⟨Nat.zero_le _, Nat.zero_le _⟩ (rest := []) rfl (Nat.le_of_ble_eq_true rfl) dL_strikes_143 (st1 := [.int q49.2]) rfl 146 rfl ?_
            refine j_if_eq C dL_strikes_146 159 (by decide) 149 rfl (fun c => ?_) (fun c => ?_)
            · have h := it_t c h
              refine j_iconst C dL_strikes_159 (1 : Int32) (by decide) 160 rfl ?_
              refine j_goto C dL_strikes_160 164 (by decide) ?_
              exact j_zret C F dL_strikes_164 (by decide) h
            · have h := it_f c h
              refine j_aload_n C dL_strikes_149 rfl 2 rfl 150 rfl ?_
              refine j_iconst C dL_strikes_150 (0 : Int32) (by decide) 151 rfl ?_
              obtain ⟨q51, e52, h⟩ := ob_some h
              refine j_callV C (ct_X6_stroke (eL E) G  (xlv_some e52)) sh81 foX6 rfl vk_X6_stroke kw2_189 rfl ⟨Nat.le_of_ble_eq_true rfl, Nat.le_of_ble_eq_true rfl, rfl, rfl⟩ ⟨Nat.zero_le _, Nat.zero_le _⟩ (rest := []) rfl (Nat.le_of_ble_eq_true rfl) dL_strikes_151 (st1 := [.int q51.2]) rfl 154 rfl ?_
              refine j_iload C dL_strikes_154 7 rfl 156 rfl ?_
              refine j_icmp_ne C dL_strikes_156 163 (by decide) 159 rfl (fun c => ?_) (fun c => ?_)
              · have h := it_f c h
                refine j_iconst C dL_strikes_163 (0 : Int32) (by decide) 164 rfl ?_
                exact j_zret C F dL_strikes_164 (by decide) h
              · have h := it_t c h
                refine j_iconst C dL_strikes_159 (1 : Int32) (by decide) 160 rfl ?_
                refine j_goto C dL_strikes_160 164 (by decide) ?_
                exact j_zret C F dL_strikes_164 (by decide) h
          · have h := it_f c h
            refine j_iload C dL_strikes_135 0 rfl 137 rfl ?_
            refine j_iload_n C dL_strikes_137 rfl 4 rfl 138 rfl ?_
            refine j_icmp_gt C dL_strikes_138 163 (by decide) 141 rfl (fun c => ?_) (fun c => ?_)
            · have h := it_t c h
              refine j_iconst C dL_strikes_163 (0 : Int32) (by decide) 164 rfl ?_
              exact j_zret C F dL_strikes_164 (by decide) h
            · have h := it_f c h
              refine j_aload_n C dL_strikes_141 rfl 2 rfl 142 rfl ?_
              refine j_iconst C dL_strikes_142 (0 : Int32) (by decide) 143 rfl ?_
              obtain ⟨q53, e54, h⟩ := ob_some h
              refine j_callV C (ct_X6_count (eL E) G  (xlv_some e54)) sh81 foX6 rfl vk_X6_count kw2_90 rfl ⟨Nat.le_of_ble_eq_true rfl, Nat.le_of_ble_eq_true rfl, rfl, rfl⟩ ⟨Nat.zero_le _, Nat.zero_le _⟩ (rest := []) rfl (Nat.le_of_ble_eq_true rfl) dL_strikes_143 (st1 := [.int q53.2]) rfl 146 rfl ?_
              refine j_if_eq C dL_strikes_146 159 (by decide) 149 rfl (fun c => ?_) (fun c => ?_)
              · have h := it_t c h
                refine j_iconst C dL_strikes_159 (1 : Int32) (by decide) 160 rfl ?_
                refine j_goto C dL_strikes_160 164 (by decide) ?_
                exact j_zret C F dL_strikes_164 (by decide) h
              · have h := it_f c h
                refine j_aload_n C dL_strikes_149 rfl 2 rfl 150 rfl ?_
                refine j_iconst C dL_strikes_150 (0 : Int32) (by decide) 151 rfl ?_
                obtain ⟨q55, e56, h⟩ := ob_some h
                refine j_callV C (ct_X6_stroke (eL E) G  (xlv_some e56)) sh81 foX6 rfl vk_X6_stroke kw2_189 rfl ⟨Nat.le_of_ble_eq_true rfl, Nat.le_of_ble_eq_true rfl, rfl, rfl⟩ ⟨Nat.zero_le _, Nat.zero_le _⟩ (rest := []) rfl (Nat.le_of_ble_eq_true rfl) dL_strikes_151 (st1 := [.int q55.2]) rfl 154 rfl ?_
                refine j_iload C dL_strikes_154 7 rfl 156 rfl ?_
                refine j_icmp_ne C dL_strikes_156 163 (by decide) 159 rfl (fun c => ?_) (fun c => ?_)
                · have h := it_f c h
                  refine j_iconst C dL_strikes_163 (0 : Int32) (by decide) 164 rfl ?_
                  exact j_zret C F dL_strikes_164 (by decide) h
                · have h := it_t c h
                  refine j_iconst C dL_strikes_159 (1 : Int32) (by decide) 160 rfl ?_
                  refine j_goto C dL_strikes_160 164 (by decide) ?_
                  exact j_zret C F dL_strikes_164 (by decide) h
def L_strikes (σ : Mem) (p1 : Int32) : Option (Mem × Int32) :=
  ((xlv (X6_count σ (0 : Int32))).bind fun q1 => ((xlv (X6_count q1.1 (2 : Int32))).bind fun q3 => ((xlv (X6_count q3.1 (5 : Int32))).bind fun q5 => ((xlv (X6_count q5.1 (6 : Int32))).bind fun q7 => (if p1 = 0 then (if q1.2 = 0 then (if q3.2 = 0 then some (q7.1, (1 : Int32)) else some (q7.1, (0 : Int32))) else ((xlv (X6_stroke q7.1 (0 : Int32))).bind fun q31 => ((xlv (X6_setting q31.1 (0 : Int32))).bind fun q33 => (if q33.2 = 0 then L_strikes_72 q33.1 q1.2 q3.2 q5.2 q7.2 q31.2 (1 : Int32) else ((xlv (X6_item q33.1 (q3.2 - (1 : Int32)) (2 : Int32))).bind fun q35 => L_strikes_72 q35.1 q1.2 q3.2 q5.2 q7.2 q31.2 q35.2))))) else ((xlv (X6_ifStruck q7.1 p1 (0 : Int32))).bind fun q9 => ((xlv (X6_ifStruck q9.1 p1 (1 : Int32))).bind fun q11 => ((xlv (X6_ifStruck q11.1 p1 (2 : Int32))).bind fun q13 => (if q1.2 = (60 : Int32) then (if q13.2 < (1 : Int32) then some (q13.1, (0 : Int32)) else some (q13.1, (1 : Int32))) else ((xlv (X6_strike q13.1 p1)).bind fun q15 => (if q15.2 = q13.2 then ((xlv (X6_count q15.1 (2 : Int32))).bind fun q17 => (if q17.2 = q13.2 then ((xlv (X6_item q17.1 (q13.2 - (1 : Int32)) (0 : Int32))).bind fun q19 => (if q19.2 = q9.2 then ((xlv (X6_item q19.1 (q13.2 - (1 : Int32)) (2 : Int32))).bind fun q21 => (if q21.2 = q11.2 then ((xlv (X6_count q21.1 (0 : Int32))).bind fun q23 => (if q23.2 = (q1.2 + (1 : Int32)) then ((xlv (X6_stroke q23.1 q1.2)).bind fun q25 => (if q25.2 = p1 then ((xlv (X6_count q25.1 (5 : Int32))).bind fun q27 => (if q27.2 = (q5.2 + (1 : Int32)) then ((xlv (X6_count q27.1 (6 : Int32))).bind fun q29 => (if q29.2 = q7.2 then some (q29.1, (1 : Int32)) else some (q29.1, (0 : Int32)))) else some (q27.1, (0 : Int32)))) else some (q25.1, (0 : Int32)))) else some (q23.1, (0 : Int32)))) else some (q21.1, (0 : Int32)))) else some (q19.1, (0 : Int32)))) else some (q17.1, (0 : Int32)))) else some (q15.1, (0 : Int32)))))))))))))
set_option maxHeartbeats 4000000 in
set_option maxRecDepth 100000 in
theorem ct_L_strikes (l : Launch) (G : Gw)  {σ : Mem} {p1 : Int32} {out : Mem × Int32} (h : L_strikes σ p1 = some out) : Ct l G yL_strikes cL_strikes 9 (some .boolean) { frames := 7, cells := 0, slots := 0, locals := 159 } [.ref (gA G 81), .int p1] σ out.1 (some (.int out.2)) := by
  refine Ct.of (by decide +kernel) (Nat.le_of_ble_eq_true rfl) (fun E hE C F => ?_)
  subst hE
  have C : Cx E G RL cL_strikes 9 { frames := 7, cells := 0, slots := 0, locals := 159 } := C
  unfold L_strikes at h
  show J E G 9 0 0 σ 0 [(0, .ref (gA G 81)), (1, .int p1)] []
  refine j_aload_n C dL_strikes_0 rfl 0 rfl 1 rfl ?_
  refine j_iconst C dL_strikes_1 (0 : Int32) (by decide) 2 rfl ?_
  obtain ⟨q1, e2, h⟩ := ob_some h
  refine j_callV C (ct_X6_count (eL E) G  (xlv_some e2)) sh81 foX6 rfl vk_X6_count kw2_90 rfl ⟨Nat.le_of_ble_eq_true rfl, Nat.le_of_ble_eq_true rfl, rfl, rfl⟩ ⟨Nat.zero_le _, Nat.zero_le _⟩ (rest := []) rfl (Nat.le_of_ble_eq_true rfl) dL_strikes_2 (st1 := [.int q1.2]) rfl 5 rfl ?_
  refine j_istore_n C dL_strikes_5 rfl (by decide) [(2, .int q1.2), (0, .ref (gA G 81)), (1, .int p1)] rfl 6 rfl ?_
  refine j_aload_n C dL_strikes_6 rfl 1 rfl 7 rfl ?_
  refine j_iconst C dL_strikes_7 (2 : Int32) (by decide) 8 rfl ?_
  obtain ⟨q3, e4, h⟩ := ob_some h
  refine j_callV C (ct_X6_count (eL E) G  (xlv_some e4)) sh81 foX6 rfl vk_X6_count kw2_90 rfl ⟨Nat.le_of_ble_eq_true rfl, Nat.le_of_ble_eq_true rfl, rfl, rfl⟩ ⟨Nat.zero_le _, Nat.zero_le _⟩ (rest := []) rfl (Nat.le_of_ble_eq_true rfl) dL_strikes_8 (st1 := [.int q3.2]) rfl 11 rfl ?_
  refine j_istore_n C dL_strikes_11 rfl (by decide) [(3, .int q3.2), (2, .int q1.2), (0, .ref (gA G 81)), (1, .int p1)] rfl 12 rfl ?_
  refine j_aload_n C dL_strikes_12 rfl 2 rfl 13 rfl ?_
  refine j_iconst C dL_strikes_13 (5 : Int32) (by decide) 14 rfl ?_
  obtain ⟨q5, e6, h⟩ := ob_some h
  refine j_callV C (ct_X6_count (eL E) G  (xlv_some e6)) sh81 foX6 rfl vk_X6_count kw2_90 rfl ⟨Nat.le_of_ble_eq_true rfl, Nat.le_of_ble_eq_true rfl, rfl, rfl⟩ ⟨Nat.zero_le _, Nat.zero_le _⟩ (rest := []) rfl (Nat.le_of_ble_eq_true rfl) dL_strikes_14 (st1 := [.int q5.2]) rfl 17 rfl ?_
  refine j_istore C dL_strikes_17 (by decide) [(4, .int q5.2), (3, .int q3.2), (2, .int q1.2), (0, .ref (gA G 81)), (1, .int p1)] rfl 19 rfl ?_
  refine j_aload_n C dL_strikes_19 rfl 3 rfl 20 rfl ?_
  refine j_bipush C dL_strikes_20 (6 : Int32) (by decide) 22 rfl ?_
  obtain ⟨q7, e8, h⟩ := ob_some h
  refine j_callV C (ct_X6_count (eL E) G  (xlv_some e8)) sh81 foX6 rfl vk_X6_count kw2_90 rfl ⟨Nat.le_of_ble_eq_true rfl, Nat.le_of_ble_eq_true rfl, rfl, rfl⟩ ⟨Nat.zero_le _, Nat.zero_le _⟩ (rest := []) rfl (Nat.le_of_ble_eq_true rfl) dL_strikes_22 (st1 := [.int q7.2]) rfl 25 rfl ?_
  refine j_istore C dL_strikes_25 (by decide) [(5, .int q7.2), (4, .int q5.2), (3, .int q3.2), (2, .int q1.2), (0, .ref (gA G 81)), (1, .int p1)] rfl 27 rfl ?_
  refine j_iload_n C dL_strikes_27 rfl 5 rfl 28 rfl ?_
  refine j_if_ne C dL_strikes_28 165 (by decide) 31 rfl (fun c => ?_) (fun c => ?_)
  · have h := it_f c h
    refine j_aload_n C dL_strikes_165 rfl 4 rfl 166 rfl ?_
    refine j_iload_n C dL_strikes_166 rfl 5 rfl 167 rfl ?_
    refine j_iconst C dL_strikes_167 (0 : Int32) (by decide) 168 rfl ?_
    obtain ⟨q9, e10, h⟩ := ob_some h
    refine j_callV C (ct_X6_ifStruck (eL E) G  (xlv_some e10)) sh81 foX6 rfl vk_X6_ifStruck kw4_92 rfl ⟨Nat.le_of_ble_eq_true rfl, Nat.le_of_ble_eq_true rfl, rfl, rfl⟩ ⟨Nat.zero_le _, Nat.zero_le _⟩ (rest := []) rfl (Nat.le_of_ble_eq_true rfl) dL_strikes_168 (st1 := [.int q9.2]) rfl 171 rfl ?_
    refine j_istore C dL_strikes_171 (by decide) [(6, .int q9.2), (5, .int q7.2), (4, .int q5.2), (3, .int q3.2), (2, .int q1.2), (0, .ref (gA G 81)), (1, .int p1)] rfl 173 rfl ?_
    refine j_aload_n C dL_strikes_173 rfl 5 rfl 174 rfl ?_
    refine j_iload_n C dL_strikes_174 rfl 6 rfl 175 rfl ?_
    refine j_iconst C dL_strikes_175 (1 : Int32) (by decide) 176 rfl ?_
    obtain ⟨q11, e12, h⟩ := ob_some h
    refine j_callV C (ct_X6_ifStruck (eL E) G  (xlv_some e12)) sh81 foX6 rfl vk_X6_ifStruck kw4_92 rfl ⟨Nat.le_of_ble_eq_true rfl, Nat.le_of_ble_eq_true rfl, rfl, rfl⟩ ⟨Nat.zero_le _, Nat.zero_le _⟩ (rest := []) rfl (Nat.le_of_ble_eq_true rfl) dL_strikes_176 (st1 := [.int q11.2]) rfl 179 rfl ?_
    refine j_istore C dL_strikes_179 (by decide) [(7, .int q11.2), (6, .int q9.2), (5, .int q7.2), (4, .int q5.2), (3, .int q3.2), (2, .int q1.2), (0, .ref (gA G 81)), (1, .int p1)] rfl 181 rfl ?_
    refine j_aload_n C dL_strikes_181 rfl 6 rfl 182 rfl ?_
    refine j_iload_n C dL_strikes_182 rfl 7 rfl 183 rfl ?_
    refine j_iconst C dL_strikes_183 (2 : Int32) (by decide) 184 rfl ?_
    obtain ⟨q13, e14, h⟩ := ob_some h
    refine j_callV C (ct_X6_ifStruck (eL E) G  (xlv_some e14)) sh81 foX6 rfl vk_X6_ifStruck kw4_92 rfl ⟨Nat.le_of_ble_eq_true rfl, Nat.le_of_ble_eq_true rfl, rfl, rfl⟩ ⟨Nat.zero_le _, Nat.zero_le _⟩ (rest := []) rfl (Nat.le_of_ble_eq_true rfl) dL_strikes_184 (st1 := [.int q13.2]) rfl 187 rfl ?_
    refine j_istore C dL_strikes_187 (by decide) [(8, .int q13.2), (7, .int q11.2), (6, .int q9.2), (5, .int q7.2), (4, .int q5.2), (3, .int q3.2), (2, .int q1.2), (0, .ref (gA G 81)), (1, .int p1)] rfl 189 rfl ?_
    refine j_iload_n C dL_strikes_189 rfl 6 rfl 190 rfl ?_
    refine j_bipush C dL_strikes_190 (60 : Int32) (by decide) 192 rfl ?_
    refine j_icmp_ne C dL_strikes_192 207 (by decide) 195 rfl (fun c => ?_) (fun c => ?_)
    · have h := it_f c h
      refine j_aload_n C dL_strikes_207 rfl 7 rfl 208 rfl ?_
      refine j_iload_n C dL_strikes_208 rfl 8 rfl 209 rfl ?_
      obtain ⟨q15, e16, h⟩ := ob_some h
      refine j_callV C (ct_X6_strike (eL E) G  (xlv_some e16)) sh81 foX6 rfl vk_X6_strike kw4_67 rfl ⟨Nat.le_of_ble_eq_true rfl, Nat.le_of_ble_eq_true rfl, rfl, rfl⟩ ⟨Nat.zero_le _, Nat.zero_le _⟩ (rest := []) rfl (Nat.le_of_ble_eq_true rfl) dL_strikes_209 (st1 := [.int q15.2]) rfl 212 rfl ?_
      refine j_iload C dL_strikes_212 0 rfl 214 rfl ?_
      refine j_icmp_ne C dL_strikes_214 302 (by decide) 217 rfl (fun c => ?_) (fun c => ?_)
      · have h := it_f c h
        refine j_iconst C dL_strikes_302 (0 : Int32) (by decide) 303 rfl ?_
        exact j_zret C F dL_strikes_303 (by decide) h
      · have h := it_t c h
        refine j_aload_n C dL_strikes_217 rfl 7 rfl 218 rfl ?_
        refine j_iconst C dL_strikes_218 (2 : Int32) (by decide) 219 rfl ?_
        obtain ⟨q17, e18, h⟩ := ob_some h
        refine j_callV C (ct_X6_count (eL E) G  (xlv_some e18)) sh81 foX6 rfl vk_X6_count kw2_90 rfl ⟨Nat.le_of_ble_eq_true rfl, Nat.le_of_ble_eq_true rfl, rfl, rfl⟩ ⟨Nat.zero_le _, Nat.zero_le _⟩ (rest := []) rfl (Nat.le_of_ble_eq_true rfl) dL_strikes_219 (st1 := [.int q17.2]) rfl 222 rfl ?_
        refine j_iload C dL_strikes_222 0 rfl 224 rfl ?_
        refine j_icmp_ne C dL_strikes_224 302 (by decide) 227 rfl (fun c => ?_) (fun c => ?_)
        · have h := it_f c h
          refine j_iconst C dL_strikes_302 (0 : Int32) (by decide) 303 rfl ?_
          exact j_zret C F dL_strikes_303 (by decide) h
        · have h := it_t c h
          refine j_aload_n C dL_strikes_227 rfl 7 rfl 228 rfl ?_
          refine j_iload C dL_strikes_228 0 rfl 230 rfl ?_
          refine j_iconst C dL_strikes_230 (1 : Int32) (by decide) 231 rfl ?_
          refine j_isub C dL_strikes_231 232 rfl ?_
          refine j_iconst C dL_strikes_232 (0 : Int32) (by decide) 233 rfl ?_
          obtain ⟨q19, e20, h⟩ := ob_some h
          refine j_callV C (ct_X6_item (eL E) G  (xlv_some e20)) sh81 foX6 rfl vk_X6_item kw3_9 rfl ⟨Nat.le_of_ble_eq_true rfl, Nat.le_of_ble_eq_true rfl, rfl, rfl⟩ ⟨Nat.zero_le _, Nat.zero_le _⟩ (rest := []) rfl (Nat.le_of_ble_eq_true rfl) dL_strikes_233 (st1 := [.int q19.2]) rfl 236 rfl ?_
          refine j_iload C dL_strikes_236 2 rfl 238 rfl ?_
          refine j_icmp_ne C dL_strikes_238 302 (by decide) 241 rfl (fun c => ?_) (fun c => ?_)
          · have h := it_f c h
            refine j_iconst C dL_strikes_302 (0 : Int32) (by decide) 303 rfl ?_
            exact j_zret C F dL_strikes_303 (by decide) h
          · have h := it_t c h
            refine j_aload_n C dL_strikes_241 rfl 7 rfl 242 rfl ?_
            refine j_iload C dL_strikes_242 0 rfl 244 rfl ?_
            refine j_iconst C dL_strikes_244 (1 : Int32) (by decide) 245 rfl ?_
            refine j_isub C dL_strikes_245 246 rfl ?_
            refine j_iconst C dL_strikes_246 (2 : Int32) (by decide) 247 rfl ?_
            obtain ⟨q21, e22, h⟩ := ob_some h
            refine j_callV C (ct_X6_item (eL E) G  (xlv_some e22)) sh81 foX6 rfl vk_X6_item kw3_9 rfl ⟨Nat.le_of_ble_eq_true rfl, Nat.le_of_ble_eq_true rfl, rfl, rfl⟩ ⟨Nat.zero_le _, Nat.zero_le _⟩ (rest := []) rfl (Nat.le_of_ble_eq_true rfl) dL_strikes_247 (st1 := [.int q21.2]) rfl 250 rfl ?_
            refine j_iload C dL_strikes_250 1 rfl 252 rfl ?_
            refine j_icmp_ne C dL_strikes_252 302 (by decide) 255 rfl (fun c => ?_) (fun c => ?_)
            · have h := it_f c h
              refine j_iconst C dL_strikes_302 (0 : Int32) (by decide) 303 rfl ?_
              exact j_zret C F dL_strikes_303 (by decide) h
            · have h := it_t c h
              refine j_aload_n C dL_strikes_255 rfl 7 rfl 256 rfl ?_
              refine j_iconst C dL_strikes_256 (0 : Int32) (by decide) 257 rfl ?_
              obtain ⟨q23, e24, h⟩ := ob_some h
              refine j_callV C (ct_X6_count (eL E) G  (xlv_some e24)) sh81 foX6 rfl vk_X6_count kw2_90 rfl ⟨Nat.le_of_ble_eq_true rfl, Nat.le_of_ble_eq_true rfl, rfl, rfl⟩ ⟨Nat.zero_le _, Nat.zero_le _⟩ (rest := []) rfl (Nat.le_of_ble_eq_true rfl) dL_strikes_257 (st1 := [.int q23.2]) rfl 260 rfl ?_
              refine j_iload_n C dL_strikes_260 rfl 6 rfl 261 rfl ?_
              refine j_iconst C dL_strikes_261 (1 : Int32) (by decide) 262 rfl ?_
              refine j_iadd C dL_strikes_262 263 rfl ?_
              refine j_icmp_ne C dL_strikes_263 302 (by decide) 266 rfl (fun c => ?_) (fun c => ?_)
              · have h := it_f c h
                refine j_iconst C dL_strikes_302 (0 : Int32) (by decide) 303 rfl ?_
                exact j_zret C F dL_strikes_303 (by decide) h
              · have h := it_t c h
                refine j_aload_n C dL_strikes_266 rfl 7 rfl 267 rfl ?_
                refine j_iload_n C dL_strikes_267 rfl 6 rfl 268 rfl ?_
                obtain ⟨q25, e26, h⟩ := ob_some h
                refine j_callV C (ct_X6_stroke (eL E) G  (xlv_some e26)) sh81 foX6 rfl vk_X6_stroke kw2_189 rfl ⟨Nat.le_of_ble_eq_true rfl, Nat.le_of_ble_eq_true rfl, rfl, rfl⟩ ⟨Nat.zero_le _, Nat.zero_le _⟩ (rest := []) rfl (Nat.le_of_ble_eq_true rfl) dL_strikes_268 (st1 := [.int q25.2]) rfl 271 rfl ?_
                refine j_iload_n C dL_strikes_271 rfl 8 rfl 272 rfl ?_
                refine j_icmp_ne C dL_strikes_272 302 (by decide) 275 rfl (fun c => ?_) (fun c => ?_)
                · have h := it_f c h
                  refine j_iconst C dL_strikes_302 (0 : Int32) (by decide) 303 rfl ?_
                  exact j_zret C F dL_strikes_303 (by decide) h
                · have h := it_t c h
                  refine j_aload_n C dL_strikes_275 rfl 7 rfl 276 rfl ?_
                  refine j_iconst C dL_strikes_276 (5 : Int32) (by decide) 277 rfl ?_
                  obtain ⟨q27, e28, h⟩ := ob_some h
                  refine j_callV C (ct_X6_count (eL E) G  (xlv_some e28)) sh81 foX6 rfl vk_X6_count kw2_90 rfl ⟨Nat.le_of_ble_eq_true rfl, Nat.le_of_ble_eq_true rfl, rfl, rfl⟩ ⟨Nat.zero_le _, Nat.zero_le _⟩ (rest := []) rfl (Nat.le_of_ble_eq_true rfl) dL_strikes_277 (st1 := [.int q27.2]) rfl 280 rfl ?_
                  refine j_iload C dL_strikes_280 4 rfl 282 rfl ?_
                  refine j_iconst C dL_strikes_282 (1 : Int32) (by decide) 283 rfl ?_
                  refine j_iadd C dL_strikes_283 284 rfl ?_
                  refine j_icmp_ne C dL_strikes_284 302 (by decide) 287 rfl (fun c => ?_) (fun c => ?_)
                  · have h := it_f c h
                    refine j_iconst C dL_strikes_302 (0 : Int32) (by decide) 303 rfl ?_
                    exact j_zret C F dL_strikes_303 (by decide) h
                  · have h := it_t c h
                    refine j_aload_n C dL_strikes_287 rfl 7 rfl 288 rfl ?_
                    refine j_bipush C dL_strikes_288 (6 : Int32) (by decide) 290 rfl ?_
                    obtain ⟨q29, e30, h⟩ := ob_some h
                    refine j_callV C (ct_X6_count (eL E) G  (xlv_some e30)) sh81 foX6 rfl vk_X6_count kw2_90 rfl ⟨Nat.le_of_ble_eq_true rfl, Nat.le_of_ble_eq_true rfl, rfl, rfl⟩ ⟨Nat.zero_le _, Nat.zero_le _⟩ (rest := []) rfl (Nat.le_of_ble_eq_true rfl) dL_strikes_290 (st1 := [.int q29.2]) rfl 293 rfl ?_
                    refine j_iload C dL_strikes_293 3 rfl 295 rfl ?_
                    refine j_icmp_ne C dL_strikes_295 302 (by decide) 298 rfl (fun c => ?_) (fun c => ?_)
                    · have h := it_f c h
                      refine j_iconst C dL_strikes_302 (0 : Int32) (by decide) 303 rfl ?_
                      exact j_zret C F dL_strikes_303 (by decide) h
                    · have h := it_t c h
                      refine j_iconst C dL_strikes_298 (1 : Int32) (by decide) 299 rfl ?_
                      refine j_goto C dL_strikes_299 303 (by decide) ?_
                      exact j_zret C F dL_strikes_303 (by decide) h
    · have h := it_t c h
      refine j_iload C dL_strikes_195 0 rfl 197 rfl ?_
      refine j_iconst C dL_strikes_197 (1 : Int32) (by decide) 198 rfl ?_
      refine j_icmp_lt C dL_strikes_198 205 (by decide) 201 rfl (fun c => ?_) (fun c => ?_)
      · have h := it_t c h
        refine j_iconst C dL_strikes_205 (0 : Int32) (by decide) 206 rfl ?_
        exact j_zret C F dL_strikes_206 (by decide) h
      · have h := it_f c h
        refine j_iconst C dL_strikes_201 (1 : Int32) (by decide) 202 rfl ?_
        refine j_goto C dL_strikes_202 206 (by decide) ?_
        exact j_zret C F dL_strikes_206 (by decide) h
  · have h := it_t c h
    refine j_iload_n C dL_strikes_31 rfl 3 rfl 32 rfl ?_
    refine j_if_ne C dL_strikes_32 45 (by decide) 35 rfl (fun c => ?_) (fun c => ?_)
    · have h := it_f c h
      refine j_aload_n C dL_strikes_45 rfl 4 rfl 46 rfl ?_
      refine j_iconst C dL_strikes_46 (0 : Int32) (by decide) 47 rfl ?_
      obtain ⟨q31, e32, h⟩ := ob_some h
      refine j_callV C (ct_X6_stroke (eL E) G  (xlv_some e32)) sh81 foX6 rfl vk_X6_stroke kw2_189 rfl ⟨Nat.le_of_ble_eq_true rfl, Nat.le_of_ble_eq_true rfl, rfl, rfl⟩ ⟨Nat.zero_le _, Nat.zero_le _⟩ (rest := []) rfl (Nat.le_of_ble_eq_true rfl) dL_strikes_47 (st1 := [.int q31.2]) rfl 50 rfl ?_
      refine j_istore C dL_strikes_50 (by decide) [(6, .int q31.2), (5, .int q7.2), (4, .int q5.2), (3, .int q3.2), (2, .int q1.2), (0, .ref (gA G 81)), (1, .int p1)] rfl 52 rfl ?_
      refine j_aload_n C dL_strikes_52 rfl 5 rfl 53 rfl ?_
      refine j_iconst C dL_strikes_53 (0 : Int32) (by decide) 54 rfl ?_
      obtain ⟨q33, e34, h⟩ := ob_some h
      refine j_callV C (ct_X6_setting (eL E) G  (xlv_some e34)) sh81 foX6 rfl vk_X6_setting kw2_237 rfl ⟨Nat.le_of_ble_eq_true rfl, Nat.le_of_ble_eq_true rfl, rfl, rfl⟩ ⟨Nat.zero_le _, Nat.zero_le _⟩ (rest := []) rfl (Nat.le_of_ble_eq_true rfl) dL_strikes_54 (st1 := [.int q33.2]) rfl 57 rfl ?_
      refine j_if_ne C dL_strikes_57 64 (by decide) 60 rfl (fun c => ?_) (fun c => ?_)
      · have h := it_f c h
        refine j_aload_n C dL_strikes_64 rfl 5 rfl 65 rfl ?_
        refine j_iload_n C dL_strikes_65 rfl 3 rfl 66 rfl ?_
        refine j_iconst C dL_strikes_66 (1 : Int32) (by decide) 67 rfl ?_
        refine j_isub C dL_strikes_67 68 rfl ?_
        refine j_iconst C dL_strikes_68 (2 : Int32) (by decide) 69 rfl ?_
        obtain ⟨q35, e36, h⟩ := ob_some h
        refine j_callV C (ct_X6_item (eL E) G  (xlv_some e36)) sh81 foX6 rfl vk_X6_item kw3_9 rfl ⟨Nat.le_of_ble_eq_true rfl, Nat.le_of_ble_eq_true rfl, rfl, rfl⟩ ⟨Nat.zero_le _, Nat.zero_le _⟩ (rest := []) rfl (Nat.le_of_ble_eq_true rfl) dL_strikes_69 (st1 := [.int q35.2]) rfl 72 rfl ?_
        refine j_sub [(0, .ref (gA G 81)), (2, .int q1.2), (3, .int q3.2), (4, .int q5.2), (5, .int q7.2), (6, .int q31.2)] [5, 4, 3, 2, 1, 0] rfl ?_
        exact w_L_strikes_72 C F  _ _ _ _ _ _ _ h
      · have h := it_t c h
        refine j_iconst C dL_strikes_60 (1 : Int32) (by decide) 61 rfl ?_
        refine j_goto C dL_strikes_61 72 (by decide) ?_
        refine j_sub [(0, .ref (gA G 81)), (2, .int q1.2), (3, .int q3.2), (4, .int q5.2), (5, .int q7.2), (6, .int q31.2)] [5, 4, 3, 2, 1, 0] rfl ?_
        exact w_L_strikes_72 C F  _ _ _ _ _ _ _ h
    · have h := it_t c h
      refine j_iload_n C dL_strikes_35 rfl 2 rfl 36 rfl ?_
      refine j_if_ne C dL_strikes_36 43 (by decide) 39 rfl (fun c => ?_) (fun c => ?_)
      · have h := it_f c h
        refine j_iconst C dL_strikes_43 (0 : Int32) (by decide) 44 rfl ?_
        exact j_zret C F dL_strikes_44 (by decide) h
      · have h := it_t c h
        refine j_iconst C dL_strikes_39 (1 : Int32) (by decide) 40 rfl ?_
        refine j_goto C dL_strikes_40 44 (by decide) ?_
        exact j_zret C F dL_strikes_44 (by decide) h

-- ===== StenoChordsLaw.acts(LStenoChords;II)Z
theorem vk_L_acts : SK yL_acts cL_acts 9 (some .boolean) 3 := ⟨kw3_113, kw3_112, kw1_0, by decide +kernel⟩
def L_acts_260 (σ : Mem) (v2 : Int32) (s0 : Int32) : Option (Mem × Int32) :=
  ((xlv (X6_count σ (2 : Int32))).bind fun q85 => (if q85.2 = 0 then ((xlv (X6_set q85.1 (0 : Int32) (v2 &&& (1 : Int32)))).bind fun q87 => (if q87.2 < 0 then some (q87.1, (0 : Int32)) else some (q87.1, (1 : Int32)))) else ((xlv (X6_item q85.1 s0 (3 : Int32))).bind fun q89 => (if 0 ≤ q89.2 then ((xlv (X6_item q89.1 s0 (3 : Int32))).bind fun q91 => ((xlv (X6_entry q91.1 q91.2 (6 : Int32))).bind fun q93 => ((xlv (X6_pick q93.1 s0 q91.2)).bind fun q95 => (if q95.2 = (q93.2 + (1 : Int32)) then ((xlv (X6_entry q95.1 q91.2 (6 : Int32))).bind fun q97 => (if q97.2 = (q93.2 + (1 : Int32)) then ((xlv (X6_item q97.1 s0 (3 : Int32))).bind fun q99 => (if q99.2 = q91.2 then some (q99.1, (1 : Int32)) else some (q99.1, (0 : Int32)))) else some (q97.1, (0 : Int32)))) else some (q95.1, (0 : Int32)))))) else ((xlv (X6_set q89.1 (0 : Int32) (v2 &&& (1 : Int32)))).bind fun q101 => (if q101.2 < 0 then some (q101.1, (0 : Int32)) else some (q101.1, (1 : Int32))))))))
set_option maxHeartbeats 4000000 in
set_option maxRecDepth 100000 in
theorem w_L_acts_260 {E : Ev} {G : Gw} (C : Cx E G RL cL_acts 9 { frames := 8, cells := 0, slots := 0, locals := 187 }) {out : Mem × Int32} (F : Ef E G out.1 (some (.int out.2)) (some .boolean) 0 0)  (σ : Mem) (v2 : Int32) (s0 : Int32) (h : L_acts_260 σ v2 s0 = some out) : J E G 9 0 0 σ 260 [(0, .ref (gA G 81)), (2, .int v2)] [.int s0] := by
  unfold L_acts_260 at h
  refine j_istore C dL_acts_260 (by decide) [(6, .int s0), (0, .ref (gA G 81)), (2, .int v2)] rfl 262 rfl ?_
  refine j_aload_n C dL_acts_262 rfl 1 rfl 263 rfl ?_
  refine j_iconst C dL_acts_263 (2 : Int32) (by decide) 264 rfl ?_
  obtain ⟨q85, e86, h⟩ := ob_some h
  refine j_callV C (ct_X6_count (eL E) G  (xlv_some e86)) sh81 foX6 rfl vk_X6_count kw2_90 rfl ⟨Nat.le_of_ble_eq_true rfl, Nat.le_of_ble_eq_true rfl, rfl, rfl⟩ ⟨Nat.zero_le _, Nat.zero_le _⟩ (rest := []) rfl (Nat.le_of_ble_eq_true rfl) dL_acts_264 (st1 := [.int q85.2]) rfl 267 rfl ?_
  refine j_if_eq C dL_acts_267 280 (by decide) 270 rfl (fun c => ?_) (fun c => ?_)
  · have h := it_t c h
    refine j_aload_n C dL_acts_280 rfl 1 rfl 281 rfl ?_
    refine j_iconst C dL_acts_281 (0 : Int32) (by decide) 282 rfl ?_
    refine j_iload_n C dL_acts_282 rfl 2 rfl 283 rfl ?_
    refine j_iconst C dL_acts_283 (1 : Int32) (by decide) 284 rfl ?_
    refine j_iand C dL_acts_284 285 rfl ?_
    obtain ⟨q87, e88, h⟩ := ob_some h
    refine j_callV C (ct_X6_set (eL E) G  (xlv_some e88)) sh81 foX6 rfl vk_X6_set kw3_117 rfl ⟨Nat.le_of_ble_eq_true rfl, Nat.le_of_ble_eq_true rfl, rfl, rfl⟩ ⟨Nat.zero_le _, Nat.zero_le _⟩ (rest := []) rfl (Nat.le_of_ble_eq_true rfl) dL_acts_285 (st1 := [.int q87.2]) rfl 288 rfl ?_
    refine j_if_lt C dL_acts_288 295 (by decide) 291 rfl (fun c => ?_) (fun c => ?_)
    · have h := it_t c h
      refine j_iconst C dL_acts_295 (0 : Int32) (by decide) 296 rfl ?_
      exact j_zret C F dL_acts_296 (by decide) h
    · have h := it_f c h
      refine j_iconst C dL_acts_291 (1 : Int32) (by decide) 292 rfl ?_
      refine j_goto C dL_acts_292 296 (by decide) ?_
      exact j_zret C F dL_acts_296 (by decide) h
  · have h := it_f c h
    refine j_aload_n C dL_acts_270 rfl 1 rfl 271 rfl ?_
    refine j_iload C dL_acts_271 0 rfl 273 rfl ?_
    refine j_iconst C dL_acts_273 (3 : Int32) (by decide) 274 rfl ?_
    obtain ⟨q89, e90, h⟩ := ob_some h
    refine j_callV C (ct_X6_item (eL E) G  (xlv_some e90)) sh81 foX6 rfl vk_X6_item kw3_9 rfl ⟨Nat.le_of_ble_eq_true rfl, Nat.le_of_ble_eq_true rfl, rfl, rfl⟩ ⟨Nat.zero_le _, Nat.zero_le _⟩ (rest := []) rfl (Nat.le_of_ble_eq_true rfl) dL_acts_274 (st1 := [.int q89.2]) rfl 277 rfl ?_
    refine j_if_ge C dL_acts_277 297 (by decide) 280 rfl (fun c => ?_) (fun c => ?_)
    · have h := it_t c h
      refine j_aload_n C dL_acts_297 rfl 1 rfl 298 rfl ?_
      refine j_iload C dL_acts_298 0 rfl 300 rfl ?_
      refine j_iconst C dL_acts_300 (3 : Int32) (by decide) 301 rfl ?_
      obtain ⟨q91, e92, h⟩ := ob_some h
      refine j_callV C (ct_X6_item (eL E) G  (xlv_some e92)) sh81 foX6 rfl vk_X6_item kw3_9 rfl ⟨Nat.le_of_ble_eq_true rfl, Nat.le_of_ble_eq_true rfl, rfl, rfl⟩ ⟨Nat.zero_le _, Nat.zero_le _⟩ (rest := []) rfl (Nat.le_of_ble_eq_true rfl) dL_acts_301 (st1 := [.int q91.2]) rfl 304 rfl ?_
      refine j_istore C dL_acts_304 (by decide) [(7, .int q91.2), (6, .int s0), (0, .ref (gA G 81)), (2, .int v2)] rfl 306 rfl ?_
      refine j_aload_n C dL_acts_306 rfl 2 rfl 307 rfl ?_
      refine j_iload C dL_acts_307 0 rfl 309 rfl ?_
      refine j_bipush C dL_acts_309 (6 : Int32) (by decide) 311 rfl ?_
      obtain ⟨q93, e94, h⟩ := ob_some h
      refine j_callV C (ct_X6_entry (eL E) G  (xlv_some e94)) sh81 foX6 rfl vk_X6_entry kw2_210 rfl ⟨Nat.le_of_ble_eq_true rfl, Nat.le_of_ble_eq_true rfl, rfl, rfl⟩ ⟨Nat.zero_le _, Nat.zero_le _⟩ (rest := []) rfl (Nat.le_of_ble_eq_true rfl) dL_acts_311 (st1 := [.int q93.2]) rfl 314 rfl ?_
      refine j_istore C dL_acts_314 (by decide) [(8, .int q93.2), (7, .int q91.2), (6, .int s0), (0, .ref (gA G 81)), (2, .int v2)] rfl 316 rfl ?_
      refine j_aload_n C dL_acts_316 rfl 3 rfl 317 rfl ?_
      refine j_iload C dL_acts_317 2 rfl 319 rfl ?_
      refine j_iload C dL_acts_319 1 rfl 321 rfl ?_
      obtain ⟨q95, e96, h⟩ := ob_some h
      refine j_callV C (ct_X6_pick (eL E) G  (xlv_some e96)) sh81 foX6 rfl vk_X6_pick kw4_45 rfl ⟨Nat.le_of_ble_eq_true rfl, Nat.le_of_ble_eq_true rfl, rfl, rfl⟩ ⟨Nat.zero_le _, Nat.zero_le _⟩ (rest := []) rfl (Nat.le_of_ble_eq_true rfl) dL_acts_321 (st1 := [.int q95.2]) rfl 324 rfl ?_
      refine j_iload C dL_acts_324 0 rfl 326 rfl ?_
      refine j_iconst C dL_acts_326 (1 : Int32) (by decide) 327 rfl ?_
      refine j_iadd C dL_acts_327 328 rfl ?_
      refine j_icmp_ne C dL_acts_328 362 (by decide) 331 rfl (fun c => ?_) (fun c => ?_)
      · have h := it_f c h
        refine j_iconst C dL_acts_362 (0 : Int32) (by decide) 363 rfl ?_
        exact j_zret C F dL_acts_363 (by decide) h
      · have h := it_t c h
        refine j_aload_n C dL_acts_331 rfl 3 rfl 332 rfl ?_
        refine j_iload C dL_acts_332 1 rfl 334 rfl ?_
        refine j_bipush C dL_acts_334 (6 : Int32) (by decide) 336 rfl ?_
        obtain ⟨q97, e98, h⟩ := ob_some h
        refine j_callV C (ct_X6_entry (eL E) G  (xlv_some e98)) sh81 foX6 rfl vk_X6_entry kw2_210 rfl ⟨Nat.le_of_ble_eq_true rfl, Nat.le_of_ble_eq_true rfl, rfl, rfl⟩ ⟨Nat.zero_le _, Nat.zero_le _⟩ (rest := []) rfl (Nat.le_of_ble_eq_true rfl) dL_acts_336 (st1 := [.int q97.2]) rfl 339 rfl ?_
        refine j_iload C dL_acts_339 0 rfl 341 rfl ?_
        refine j_iconst C dL_acts_341 (1 : Int32) (by decide) 342 rfl ?_
        refine j_iadd C dL_acts_342 343 rfl ?_
        refine j_icmp_ne C dL_acts_343 362 (by decide) 346 rfl (fun c => ?_) (fun c => ?_)
        · have h := it_f c h
          refine j_iconst C dL_acts_362 (0 : Int32) (by decide) 363 rfl ?_
          exact j_zret C F dL_acts_363 (by decide) h
        · have h := it_t c h
          refine j_aload_n C dL_acts_346 rfl 3 rfl 347 rfl ?_
          refine j_iload C dL_acts_347 2 rfl 349 rfl ?_
          refine j_iconst C dL_acts_349 (3 : Int32) (by decide) 350 rfl ?_
          obtain ⟨q99, e100, h⟩ := ob_some h
          refine j_callV C (ct_X6_item (eL E) G  (xlv_some e100)) sh81 foX6 rfl vk_X6_item kw3_9 rfl ⟨Nat.le_of_ble_eq_true rfl, Nat.le_of_ble_eq_true rfl, rfl, rfl⟩ ⟨Nat.zero_le _, Nat.zero_le _⟩ (rest := []) rfl (Nat.le_of_ble_eq_true rfl) dL_acts_350 (st1 := [.int q99.2]) rfl 353 rfl ?_
          refine j_iload C dL_acts_353 1 rfl 355 rfl ?_
          refine j_icmp_ne C dL_acts_355 362 (by decide) 358 rfl (fun c => ?_) (fun c => ?_)
          · have h := it_f c h
            refine j_iconst C dL_acts_362 (0 : Int32) (by decide) 363 rfl ?_
            exact j_zret C F dL_acts_363 (by decide) h
          · have h := it_t c h
            refine j_iconst C dL_acts_358 (1 : Int32) (by decide) 359 rfl ?_
            refine j_goto C dL_acts_359 363 (by decide) ?_
            exact j_zret C F dL_acts_363 (by decide) h
    · have h := it_f c h
      refine j_aload_n C dL_acts_280 rfl 1 rfl 281 rfl ?_
      refine j_iconst C dL_acts_281 (0 : Int32) (by decide) 282 rfl ?_
      refine j_iload_n C dL_acts_282 rfl 2 rfl 283 rfl ?_
      refine j_iconst C dL_acts_283 (1 : Int32) (by decide) 284 rfl ?_
      refine j_iand C dL_acts_284 285 rfl ?_
      obtain ⟨q101, e102, h⟩ := ob_some h
      refine j_callV C (ct_X6_set (eL E) G  (xlv_some e102)) sh81 foX6 rfl vk_X6_set kw3_117 rfl ⟨Nat.le_of_ble_eq_true rfl, Nat.le_of_ble_eq_true rfl, rfl, rfl⟩ ⟨Nat.zero_le _, Nat.zero_le _⟩ (rest := []) rfl (Nat.le_of_ble_eq_true rfl) dL_acts_285 (st1 := [.int q101.2]) rfl 288 rfl ?_
      refine j_if_lt C dL_acts_288 295 (by decide) 291 rfl (fun c => ?_) (fun c => ?_)
      · have h := it_t c h
        refine j_iconst C dL_acts_295 (0 : Int32) (by decide) 296 rfl ?_
        exact j_zret C F dL_acts_296 (by decide) h
      · have h := it_f c h
        refine j_iconst C dL_acts_291 (1 : Int32) (by decide) 292 rfl ?_
        refine j_goto C dL_acts_292 296 (by decide) ?_
        exact j_zret C F dL_acts_296 (by decide) h
def L_acts (σ : Mem) (p1 : Int32) (p2 : Int32) : Option (Mem × Int32) :=
  ((L_up σ p1 (16 : Int32)).bind fun q1 => (if q1.2 = (0 : Int32) then ((L_up q1.1 p2 (4 : Int32)).bind fun q3 => ((L_up q3.1 (p2 >>> ((10 : Int32) &&& 31)) (4 : Int32)).bind fun q5 => ((xlv (X6_count q5.1 (4 : Int32))).bind fun q7 => (if q7.2 = (24 : Int32) then ((xlv (X6_set q7.1 (0 : Int32) (p2 &&& (1 : Int32)))).bind fun q9 => (if q9.2 < 0 then some (q9.1, (0 : Int32)) else some (q9.1, (1 : Int32)))) else ((L_isEntry q7.1 ((1 : Int32) + q3.2) (p2 >>> ((2 : Int32) &&& 31)) q5.2).bind fun q11 => (if q11.2 = 0 then ((xlv (X6_count q11.1 (4 : Int32))).bind fun q13 => ((L_types q13.1 ((1 : Int32) + q3.2) (p2 >>> ((2 : Int32) &&& 31))).bind fun q15 => (if q15.2 ≤ 0 then some (q15.1, (0 : Int32)) else ((xlv (X6_define q15.1 q5.2)).bind fun q17 => (if q17.2 = q13.2 then ((xlv (X6_entry q17.1 q13.2 (6 : Int32))).bind fun q19 => (if q19.2 = 0 then some (q19.1, (1 : Int32)) else some (q19.1, (0 : Int32)))) else some (q17.1, (0 : Int32))))))) else ((xlv (X6_set q11.1 (0 : Int32) (p2 &&& (1 : Int32)))).bind fun q21 => (if q21.2 < 0 then some (q21.1, (0 : Int32)) else some (q21.1, (1 : Int32)))))))))) else (if q1.2 = (1 : Int32) then ((L_up q1.1 p2 (4 : Int32)).bind fun q23 => ((L_up q23.1 (p2 >>> ((10 : Int32) &&& 31)) (4 : Int32)).bind fun q25 => ((xlv (X6_count q25.1 (4 : Int32))).bind fun q27 => (if q27.2 = (24 : Int32) then ((xlv (X6_set q27.1 (0 : Int32) (p2 &&& (1 : Int32)))).bind fun q29 => (if q29.2 < 0 then some (q29.1, (0 : Int32)) else some (q29.1, (1 : Int32)))) else ((L_isEntry q27.1 ((1 : Int32) + q23.2) (p2 >>> ((2 : Int32) &&& 31)) q25.2).bind fun q31 => (if q31.2 = 0 then ((xlv (X6_count q31.1 (4 : Int32))).bind fun q33 => ((L_types q33.1 ((1 : Int32) + q23.2) (p2 >>> ((2 : Int32) &&& 31))).bind fun q35 => (if q35.2 ≤ 0 then some (q35.1, (0 : Int32)) else ((xlv (X6_define q35.1 q25.2)).bind fun q37 => (if q37.2 = q33.2 then ((xlv (X6_entry q37.1 q33.2 (6 : Int32))).bind fun q39 => (if q39.2 = 0 then some (q39.1, (1 : Int32)) else some (q39.1, (0 : Int32)))) else some (q37.1, (0 : Int32))))))) else ((xlv (X6_set q31.1 (0 : Int32) (p2 &&& (1 : Int32)))).bind fun q41 => (if q41.2 < 0 then some (q41.1, (0 : Int32)) else some (q41.1, (1 : Int32)))))))))) else (if q1.2 = (2 : Int32) then ((L_up q1.1 p2 (4 : Int32)).bind fun q43 => ((L_up q43.1 (p2 >>> ((10 : Int32) &&& 31)) (4 : Int32)).bind fun q45 => ((xlv (X6_count q45.1 (4 : Int32))).bind fun q47 => (if q47.2 = (24 : Int32) then ((xlv (X6_set q47.1 (0 : Int32) (p2 &&& (1 : Int32)))).bind fun q49 => (if q49.2 < 0 then some (q49.1, (0 : Int32)) else some (q49.1, (1 : Int32)))) else ((L_isEntry q47.1 ((1 : Int32) + q43.2) (p2 >>> ((2 : Int32) &&& 31)) q45.2).bind fun q51 => (if q51.2 = 0 then ((xlv (X6_count q51.1 (4 : Int32))).bind fun q53 => ((L_types q53.1 ((1 : Int32) + q43.2) (p2 >>> ((2 : Int32) &&& 31))).bind fun q55 => (if q55.2 ≤ 0 then some (q55.1, (0 : Int32)) else ((xlv (X6_define q55.1 q45.2)).bind fun q57 => (if q57.2 = q53.2 then ((xlv (X6_entry q57.1 q53.2 (6 : Int32))).bind fun q59 => (if q59.2 = 0 then some (q59.1, (1 : Int32)) else some (q59.1, (0 : Int32)))) else some (q57.1, (0 : Int32))))))) else ((xlv (X6_set q51.1 (0 : Int32) (p2 &&& (1 : Int32)))).bind fun q61 => (if q61.2 < 0 then some (q61.1, (0 : Int32)) else some (q61.1, (1 : Int32)))))))))) else (if q1.2 = (3 : Int32) then ((xlv (X6_count q1.1 (4 : Int32))).bind fun q63 => (if q63.2 = 0 then ((xlv (X6_set q63.1 (0 : Int32) (p2 &&& (1 : Int32)))).bind fun q73 => (if q73.2 < 0 then some (q73.1, (0 : Int32)) else some (q73.1, (1 : Int32)))) else ((xlv (X6_count q63.1 (4 : Int32))).bind fun q65 => ((L_up q65.1 p2 q65.2).bind fun q67 => ((xlv (X6_remove q67.1 q67.2)).bind fun q69 => ((xlv (X6_count q69.1 (4 : Int32))).bind fun q71 => (if q69.2 = q71.2 then some (q71.1, (1 : Int32)) else some (q71.1, (0 : Int32))))))))) else (if q1.2 = (4 : Int32) then ((L_up q1.1 p2 (4 : Int32)).bind fun q75 => ((xlv (X6_set q75.1 (1 : Int32) ((1 : Int32) + q75.2))).bind fun q77 => (if q77.2 ≤ 0 then some (q77.1, (0 : Int32)) else some (q77.1, (1 : Int32))))) else (if q1.2 = (5 : Int32) then ((xlv (X6_count q1.1 (2 : Int32))).bind fun q79 => (if q79.2 = 0 then L_acts_260 q79.1 p2 (0 : Int32) else ((xlv (X6_count q79.1 (2 : Int32))).bind fun q81 => ((L_up q81.1 p2 q81.2).bind fun q83 => L_acts_260 q83.1 p2 q83.2)))) else (if q1.2 = (6 : Int32) then ((xlv (X6_count q1.1 (2 : Int32))).bind fun q103 => (if q103.2 = 0 then L_acts_260 q103.1 p2 (0 : Int32) else ((xlv (X6_count q103.1 (2 : Int32))).bind fun q105 => ((L_up q105.1 p2 q105.2).bind fun q107 => L_acts_260 q107.1 p2 q107.2)))) else (if q1.2 = (7 : Int32) then (if (p2 &&& (7 : Int32)) = 0 then ((xlv (X6_goBack q1.1)).bind fun q115 => ((xlv (X6_count q115.1 (0 : Int32))).bind fun q117 => (if q115.2 = q117.2 then some (q117.1, (1 : Int32)) else some (q117.1, (0 : Int32))))) else (if (p2 &&& (7 : Int32)) = (1 : Int32) then ((X6_tear q1.1).bind fun q111 => (if q111.2 < 0 then some (q111.1, (0 : Int32)) else ((xlv (X6_count q111.1 (2 : Int32))).bind fun q113 => (if q113.2 = 0 then some (q113.1, (1 : Int32)) else some (q113.1, (0 : Int32)))))) else ((xlv (X6_set q1.1 (0 : Int32) (p2 &&& (1 : Int32)))).bind fun q109 => (if q109.2 < 0 then some (q109.1, (0 : Int32)) else some (q109.1, (1 : Int32)))))) else (if q1.2 = (8 : Int32) then ((xlv (X6_count q1.1 (0 : Int32))).bind fun q119 => (if q119.2 = 0 then ((xlv (X6_set q119.1 (0 : Int32) (p2 &&& (1 : Int32)))).bind fun q123 => (if q123.2 < 0 then some (q123.1, (0 : Int32)) else some (q123.1, (1 : Int32)))) else ((L_strikes q119.1 (0 : Int32)).bind fun q121 => (if q121.2 &&& 1 = q121.2 then some (q121.1, q121.2) else none)))) else (if q1.2 = (9 : Int32) then ((xlv (X6_count q1.1 (0 : Int32))).bind fun q125 => (if q125.2 = 0 then ((xlv (X6_set q125.1 (0 : Int32) (p2 &&& (1 : Int32)))).bind fun q129 => (if q129.2 < 0 then some (q129.1, (0 : Int32)) else some (q129.1, (1 : Int32)))) else ((L_strikes q125.1 (0 : Int32)).bind fun q127 => (if q127.2 &&& 1 = q127.2 then some (q127.1, q127.2) else none)))) else ((xlv (X6_count q1.1 (0 : Int32))).bind fun q131 => (if q131.2 = (60 : Int32) then ((X6_tear q131.1).bind fun q141 => (if q141.2 = (60 : Int32) then some (q141.1, (1 : Int32)) else some (q141.1, (0 : Int32)))) else (if (p2 &&& (15 : Int32)) = 0 then ((L_up q131.1 (p2 >>> ((4 : Int32) &&& 31)) (1023 : Int32)).bind fun q137 => ((L_strikes q137.1 ((1 : Int32) + q137.2)).bind fun q139 => (if q139.2 &&& 1 = q139.2 then some (q139.1, q139.2) else none))) else ((L_up q131.1 (p2 >>> ((4 : Int32) &&& 31)) (7 : Int32)).bind fun q133 => ((L_strikes q133.1 ((1 : Int32) + q133.2)).bind fun q135 => (if q135.2 &&& 1 = q135.2 then some (q135.1, q135.2) else none)))))))))))))))))
set_option maxHeartbeats 4000000 in
set_option maxRecDepth 100000 in
theorem ct_L_acts (l : Launch) (G : Gw)  {σ : Mem} {p1 : Int32} {p2 : Int32} {out : Mem × Int32} (h : L_acts σ p1 p2 = some out) : Ct l G yL_acts cL_acts 9 (some .boolean) { frames := 8, cells := 0, slots := 0, locals := 187 } [.ref (gA G 81), .int p1, .int p2] σ out.1 (some (.int out.2)) := by
  refine Ct.of (by decide +kernel) (Nat.le_of_ble_eq_true rfl) (fun E hE C F => ?_)
  subst hE
  have C : Cx E G RL cL_acts 9 { frames := 8, cells := 0, slots := 0, locals := 187 } := C
  unfold L_acts at h
  show J E G 9 0 0 σ 0 [(0, .ref (gA G 81)), (1, .int p1), (2, .int p2)] []
  refine j_iload_n C dL_acts_0 rfl 1 rfl 1 rfl ?_
  refine j_bipush C dL_acts_1 (16 : Int32) (by decide) 3 rfl ?_
  obtain ⟨q1, e2, h⟩ := ob_some h
  refine j_callS C (ct_L_up (eL E) G  e2) vk_L_up kw2_180 rfl ⟨Nat.le_of_ble_eq_true rfl, Nat.le_of_ble_eq_true rfl, rfl, rfl⟩ ⟨Nat.zero_le _, Nat.zero_le _⟩ (rest := []) rfl (Nat.le_of_ble_eq_true rfl) dL_acts_3 (st1 := [.int q1.2]) rfl 6 rfl ?_
  by_cases c0 : q1.2 = (0 : Int32)
  · have h := it_t c0 h
    refine j_tableIn C dL_acts_6 (by rw [c0]; decide) (by rw [c0]; decide) (off := 54) (by rw [c0]; rfl) 60 (by decide) ?_
    refine j_iconst C dL_acts_60 (1 : Int32) (by decide) 61 rfl ?_
    refine j_iload_n C dL_acts_61 rfl 2 rfl 62 rfl ?_
    refine j_iconst C dL_acts_62 (4 : Int32) (by decide) 63 rfl ?_
    obtain ⟨q3, e4, h⟩ := ob_some h
    refine j_callS C (ct_L_up (eL E) G  e4) vk_L_up kw2_180 rfl ⟨Nat.le_of_ble_eq_true rfl, Nat.le_of_ble_eq_true rfl, rfl, rfl⟩ ⟨Nat.zero_le _, Nat.zero_le _⟩ (rest := [.int (1 : Int32)]) rfl (Nat.le_of_ble_eq_true rfl) dL_acts_63 (st1 := [.int q3.2, .int (1 : Int32)]) rfl 66 rfl ?_
    refine j_iadd C dL_acts_66 67 rfl ?_
    refine j_istore_n C dL_acts_67 rfl (by decide) [(3, .int ((1 : Int32) + q3.2)), (0, .ref (gA G 81)), (1, .int p1), (2, .int p2)] rfl 68 rfl ?_
    refine j_iload_n C dL_acts_68 rfl 3 rfl 69 rfl ?_
    refine j_bipush C dL_acts_69 (10 : Int32) (by decide) 71 rfl ?_
    refine j_ishr C dL_acts_71 72 rfl ?_
    refine j_iconst C dL_acts_72 (4 : Int32) (by decide) 73 rfl ?_
    obtain ⟨q5, e6, h⟩ := ob_some h
    refine j_callS C (ct_L_up (eL E) G  e6) vk_L_up kw2_180 rfl ⟨Nat.le_of_ble_eq_true rfl, Nat.le_of_ble_eq_true rfl, rfl, rfl⟩ ⟨Nat.zero_le _, Nat.zero_le _⟩ (rest := []) rfl (Nat.le_of_ble_eq_true rfl) dL_acts_73 (st1 := [.int q5.2]) rfl 76 rfl ?_
    refine j_istore C dL_acts_76 (by decide) [(4, .int q5.2), (3, .int ((1 : Int32) + q3.2)), (0, .ref (gA G 81)), (1, .int p1), (2, .int p2)] rfl 78 rfl ?_
    refine j_aload_n C dL_acts_78 rfl 2 rfl 79 rfl ?_
    refine j_iconst C dL_acts_79 (4 : Int32) (by decide) 80 rfl ?_
    obtain ⟨q7, e8, h⟩ := ob_some h
    refine j_callV C (ct_X6_count (eL E) G  (xlv_some e8)) sh81 foX6 rfl vk_X6_count kw2_90 rfl ⟨Nat.le_of_ble_eq_true rfl, Nat.le_of_ble_eq_true rfl, rfl, rfl⟩ ⟨Nat.zero_le _, Nat.zero_le _⟩ (rest := []) rfl (Nat.le_of_ble_eq_true rfl) dL_acts_80 (st1 := [.int q7.2]) rfl 83 rfl ?_
    refine j_bipush C dL_acts_83 (24 : Int32) (by decide) 85 rfl ?_
    refine j_icmp_eq C dL_acts_85 101 (by decide) 88 rfl (fun c => ?_) (fun c => ?_)
    · have h := it_t c h
      refine j_aload_n C dL_acts_101 rfl 2 rfl 102 rfl ?_
      refine j_iconst C dL_acts_102 (0 : Int32) (by decide) 103 rfl ?_
      refine j_iload_n C dL_acts_103 rfl 4 rfl 104 rfl ?_
      refine j_iconst C dL_acts_104 (1 : Int32) (by decide) 105 rfl ?_
      refine j_iand C dL_acts_105 106 rfl ?_
      obtain ⟨q9, e10, h⟩ := ob_some h
      refine j_callV C (ct_X6_set (eL E) G  (xlv_some e10)) sh81 foX6 rfl vk_X6_set kw3_117 rfl ⟨Nat.le_of_ble_eq_true rfl, Nat.le_of_ble_eq_true rfl, rfl, rfl⟩ ⟨Nat.zero_le _, Nat.zero_le _⟩ (rest := []) rfl (Nat.le_of_ble_eq_true rfl) dL_acts_106 (st1 := [.int q9.2]) rfl 109 rfl ?_
      refine j_if_lt C dL_acts_109 116 (by decide) 112 rfl (fun c => ?_) (fun c => ?_)
      · have h := it_t c h
        refine j_iconst C dL_acts_116 (0 : Int32) (by decide) 117 rfl ?_
        exact j_zret C F dL_acts_117 (by decide) h
      · have h := it_f c h
        refine j_iconst C dL_acts_112 (1 : Int32) (by decide) 113 rfl ?_
        refine j_goto C dL_acts_113 117 (by decide) ?_
        exact j_zret C F dL_acts_117 (by decide) h
    · have h := it_f c h
      refine j_aload_n C dL_acts_88 rfl 2 rfl 89 rfl ?_
      refine j_iload_n C dL_acts_89 rfl 1 rfl 90 rfl ?_
      refine j_iload_n C dL_acts_90 rfl 4 rfl 91 rfl ?_
      refine j_iconst C dL_acts_91 (2 : Int32) (by decide) 92 rfl ?_
      refine j_ishr C dL_acts_92 93 rfl ?_
      refine j_iload C dL_acts_93 0 rfl 95 rfl ?_
      obtain ⟨q11, e12, h⟩ := ob_some h
      refine j_callS C (ct_L_isEntry (eL E) G  e12) vk_L_isEntry kw3_114 rfl ⟨Nat.le_of_ble_eq_true rfl, Nat.le_of_ble_eq_true rfl, rfl, rfl⟩ ⟨Nat.zero_le _, Nat.zero_le _⟩ (rest := []) rfl (Nat.le_of_ble_eq_true rfl) dL_acts_95 (st1 := [.int q11.2]) rfl 98 rfl ?_
      refine j_if_eq C dL_acts_98 118 (by decide) 101 rfl (fun c => ?_) (fun c => ?_)
      · have h := it_t c h
        refine j_aload_n C dL_acts_118 rfl 2 rfl 119 rfl ?_
        refine j_iconst C dL_acts_119 (4 : Int32) (by decide) 120 rfl ?_
        obtain ⟨q13, e14, h⟩ := ob_some h
        refine j_callV C (ct_X6_count (eL E) G  (xlv_some e14)) sh81 foX6 rfl vk_X6_count kw2_90 rfl ⟨Nat.le_of_ble_eq_true rfl, Nat.le_of_ble_eq_true rfl, rfl, rfl⟩ ⟨Nat.zero_le _, Nat.zero_le _⟩ (rest := []) rfl (Nat.le_of_ble_eq_true rfl) dL_acts_120 (st1 := [.int q13.2]) rfl 123 rfl ?_
        refine j_istore C dL_acts_123 (by decide) [(5, .int q13.2), (4, .int q5.2), (3, .int ((1 : Int32) + q3.2)), (0, .ref (gA G 81)), (1, .int p1), (2, .int p2)] rfl 125 rfl ?_
        refine j_aload_n C dL_acts_125 rfl 3 rfl 126 rfl ?_
        refine j_iload_n C dL_acts_126 rfl 2 rfl 127 rfl ?_
        refine j_iload_n C dL_acts_127 rfl 5 rfl 128 rfl ?_
        refine j_iconst C dL_acts_128 (2 : Int32) (by decide) 129 rfl ?_
        refine j_ishr C dL_acts_129 130 rfl ?_
        obtain ⟨q15, e16, h⟩ := ob_some h
        refine j_callS C (ct_L_types (eL E) G  e16) vk_L_types kw3_129 rfl ⟨Nat.le_of_ble_eq_true rfl, Nat.le_of_ble_eq_true rfl, rfl, rfl⟩ ⟨Nat.zero_le _, Nat.zero_le _⟩ (rest := []) rfl (Nat.le_of_ble_eq_true rfl) dL_acts_130 (st1 := [.int q15.2]) rfl 133 rfl ?_
        refine j_if_le C dL_acts_133 162 (by decide) 136 rfl (fun c => ?_) (fun c => ?_)
        · have h := it_t c h
          refine j_iconst C dL_acts_162 (0 : Int32) (by decide) 163 rfl ?_
          exact j_zret C F dL_acts_163 (by decide) h
        · have h := it_f c h
          refine j_aload_n C dL_acts_136 rfl 3 rfl 137 rfl ?_
          refine j_iload C dL_acts_137 1 rfl 139 rfl ?_
          obtain ⟨q17, e18, h⟩ := ob_some h
          refine j_callV C (ct_X6_define (eL E) G  (xlv_some e18)) sh81 foX6 rfl vk_X6_define kw3_165 rfl ⟨Nat.le_of_ble_eq_true rfl, Nat.le_of_ble_eq_true rfl, rfl, rfl⟩ ⟨Nat.zero_le _, Nat.zero_le _⟩ (rest := []) rfl (Nat.le_of_ble_eq_true rfl) dL_acts_139 (st1 := [.int q17.2]) rfl 142 rfl ?_
          refine j_iload C dL_acts_142 0 rfl 144 rfl ?_
          refine j_icmp_ne C dL_acts_144 162 (by decide) 147 rfl (fun c => ?_) (fun c => ?_)
          · have h := it_f c h
            refine j_iconst C dL_acts_162 (0 : Int32) (by decide) 163 rfl ?_
            exact j_zret C F dL_acts_163 (by decide) h
          · have h := it_t c h
            refine j_aload_n C dL_acts_147 rfl 3 rfl 148 rfl ?_
            refine j_iload C dL_acts_148 0 rfl 150 rfl ?_
            refine j_bipush C dL_acts_150 (6 : Int32) (by decide) 152 rfl ?_
            obtain ⟨q19, e20, h⟩ := ob_some h
            refine j_callV C (ct_X6_entry (eL E) G  (xlv_some e20)) sh81 foX6 rfl vk_X6_entry kw2_210 rfl ⟨Nat.le_of_ble_eq_true rfl, Nat.le_of_ble_eq_true rfl, rfl, rfl⟩ ⟨Nat.zero_le _, Nat.zero_le _⟩ (rest := []) rfl (Nat.le_of_ble_eq_true rfl) dL_acts_152 (st1 := [.int q19.2]) rfl 155 rfl ?_
            refine j_if_ne C dL_acts_155 162 (by decide) 158 rfl (fun c => ?_) (fun c => ?_)
            · have h := it_f c h
              refine j_iconst C dL_acts_162 (0 : Int32) (by decide) 163 rfl ?_
              exact j_zret C F dL_acts_163 (by decide) h
            · have h := it_t c h
              refine j_iconst C dL_acts_158 (1 : Int32) (by decide) 159 rfl ?_
              refine j_goto C dL_acts_159 163 (by decide) ?_
              exact j_zret C F dL_acts_163 (by decide) h
      · have h := it_f c h
        refine j_aload_n C dL_acts_101 rfl 2 rfl 102 rfl ?_
        refine j_iconst C dL_acts_102 (0 : Int32) (by decide) 103 rfl ?_
        refine j_iload_n C dL_acts_103 rfl 4 rfl 104 rfl ?_
        refine j_iconst C dL_acts_104 (1 : Int32) (by decide) 105 rfl ?_
        refine j_iand C dL_acts_105 106 rfl ?_
        obtain ⟨q21, e22, h⟩ := ob_some h
        refine j_callV C (ct_X6_set (eL E) G  (xlv_some e22)) sh81 foX6 rfl vk_X6_set kw3_117 rfl ⟨Nat.le_of_ble_eq_true rfl, Nat.le_of_ble_eq_true rfl, rfl, rfl⟩ ⟨Nat.zero_le _, Nat.zero_le _⟩ (rest := []) rfl (Nat.le_of_ble_eq_true rfl) dL_acts_106 (st1 := [.int q21.2]) rfl 109 rfl ?_
        refine j_if_lt C dL_acts_109 116 (by decide) 112 rfl (fun c => ?_) (fun c => ?_)
        · have h := it_t c h
          refine j_iconst C dL_acts_116 (0 : Int32) (by decide) 117 rfl ?_
          exact j_zret C F dL_acts_117 (by decide) h
        · have h := it_f c h
          refine j_iconst C dL_acts_112 (1 : Int32) (by decide) 113 rfl ?_
          refine j_goto C dL_acts_113 117 (by decide) ?_
          exact j_zret C F dL_acts_117 (by decide) h
  have h := it_f c0 h
  by_cases c1 : q1.2 = (1 : Int32)
  · have h := it_t c1 h
    refine j_tableIn C dL_acts_6 (by rw [c1]; decide) (by rw [c1]; decide) (off := 54) (by rw [c1]; rfl) 60 (by decide) ?_
    refine j_iconst C dL_acts_60 (1 : Int32) (by decide) 61 rfl ?_
    refine j_iload_n C dL_acts_61 rfl 2 rfl 62 rfl ?_
    refine j_iconst C dL_acts_62 (4 : Int32) (by decide) 63 rfl ?_
    obtain ⟨q23, e24, h⟩ := ob_some h
    refine j_callS C (ct_L_up (eL E) G  e24) vk_L_up kw2_180 rfl ⟨Nat.le_of_ble_eq_true rfl, Nat.le_of_ble_eq_true rfl, rfl, rfl⟩ ⟨Nat.zero_le _, Nat.zero_le _⟩ (rest := [.int (1 : Int32)]) rfl (Nat.le_of_ble_eq_true rfl) dL_acts_63 (st1 := [.int q23.2, .int (1 : Int32)]) rfl 66 rfl ?_
    refine j_iadd C dL_acts_66 67 rfl ?_
    refine j_istore_n C dL_acts_67 rfl (by decide) [(3, .int ((1 : Int32) + q23.2)), (0, .ref (gA G 81)), (1, .int p1), (2, .int p2)] rfl 68 rfl ?_
    refine j_iload_n C dL_acts_68 rfl 3 rfl 69 rfl ?_
    refine j_bipush C dL_acts_69 (10 : Int32) (by decide) 71 rfl ?_
    refine j_ishr C dL_acts_71 72 rfl ?_
    refine j_iconst C dL_acts_72 (4 : Int32) (by decide) 73 rfl ?_
    obtain ⟨q25, e26, h⟩ := ob_some h
    refine j_callS C (ct_L_up (eL E) G  e26) vk_L_up kw2_180 rfl ⟨Nat.le_of_ble_eq_true rfl, Nat.le_of_ble_eq_true rfl, rfl, rfl⟩ ⟨Nat.zero_le _, Nat.zero_le _⟩ (rest := []) rfl (Nat.le_of_ble_eq_true rfl) dL_acts_73 (st1 := [.int q25.2]) rfl 76 rfl ?_
    refine j_istore C dL_acts_76 (by decide) [(4, .int q25.2), (3, .int ((1 : Int32) + q23.2)), (0, .ref (gA G 81)), (1, .int p1), (2, .int p2)] rfl 78 rfl ?_
    refine j_aload_n C dL_acts_78 rfl 2 rfl 79 rfl ?_
    refine j_iconst C dL_acts_79 (4 : Int32) (by decide) 80 rfl ?_
    obtain ⟨q27, e28, h⟩ := ob_some h
    refine j_callV C (ct_X6_count (eL E) G  (xlv_some e28)) sh81 foX6 rfl vk_X6_count kw2_90 rfl ⟨Nat.le_of_ble_eq_true rfl, Nat.le_of_ble_eq_true rfl, rfl, rfl⟩ ⟨Nat.zero_le _, Nat.zero_le _⟩ (rest := []) rfl (Nat.le_of_ble_eq_true rfl) dL_acts_80 (st1 := [.int q27.2]) rfl 83 rfl ?_
    refine j_bipush C dL_acts_83 (24 : Int32) (by decide) 85 rfl ?_
    refine j_icmp_eq C dL_acts_85 101 (by decide) 88 rfl (fun c => ?_) (fun c => ?_)
    · have h := it_t c h
      refine j_aload_n C dL_acts_101 rfl 2 rfl 102 rfl ?_
      refine j_iconst C dL_acts_102 (0 : Int32) (by decide) 103 rfl ?_
      refine j_iload_n C dL_acts_103 rfl 4 rfl 104 rfl ?_
      refine j_iconst C dL_acts_104 (1 : Int32) (by decide) 105 rfl ?_
      refine j_iand C dL_acts_105 106 rfl ?_
      obtain ⟨q29, e30, h⟩ := ob_some h
      refine j_callV C (ct_X6_set (eL E) G  (xlv_some e30)) sh81 foX6 rfl vk_X6_set kw3_117 rfl ⟨Nat.le_of_ble_eq_true rfl, Nat.le_of_ble_eq_true rfl, rfl, rfl⟩ ⟨Nat.zero_le _, Nat.zero_le _⟩ (rest := []) rfl (Nat.le_of_ble_eq_true rfl) dL_acts_106 (st1 := [.int q29.2]) rfl 109 rfl ?_
      refine j_if_lt C dL_acts_109 116 (by decide) 112 rfl (fun c => ?_) (fun c => ?_)
      · have h := it_t c h
        refine j_iconst C dL_acts_116 (0 : Int32) (by decide) 117 rfl ?_
        exact j_zret C F dL_acts_117 (by decide) h
      · have h := it_f c h
        refine j_iconst C dL_acts_112 (1 : Int32) (by decide) 113 rfl ?_
        refine j_goto C dL_acts_113 117 (by decide) ?_
        exact j_zret C F dL_acts_117 (by decide) h
    · have h := it_f c h
      refine j_aload_n C dL_acts_88 rfl 2 rfl 89 rfl ?_
      refine j_iload_n C dL_acts_89 rfl 1 rfl 90 rfl ?_
      refine j_iload_n C dL_acts_90 rfl 4 rfl 91 rfl ?_
      refine j_iconst C dL_acts_91 (2 : Int32) (by decide) 92 rfl ?_
      refine j_ishr C dL_acts_92 93 rfl ?_
      refine j_iload C dL_acts_93 0 rfl 95 rfl ?_
      obtain ⟨q31, e32, h⟩ := ob_some h
      refine j_callS C (ct_L_isEntry (eL E) G  e32) vk_L_isEntry kw3_114 rfl ⟨Nat.le_of_ble_eq_true rfl, Nat.le_of_ble_eq_true rfl, rfl, rfl⟩ ⟨Nat.zero_le _, Nat.zero_le _⟩ (rest := []) rfl (Nat.le_of_ble_eq_true rfl) dL_acts_95 (st1 := [.int q31.2]) rfl 98 rfl ?_
      refine j_if_eq C dL_acts_98 118 (by decide) 101 rfl (fun c => ?_) (fun c => ?_)
      · have h := it_t c h
        refine j_aload_n C dL_acts_118 rfl 2 rfl 119 rfl ?_
        refine j_iconst C dL_acts_119 (4 : Int32) (by decide) 120 rfl ?_
        obtain ⟨q33, e34, h⟩ := ob_some h
        refine j_callV C (ct_X6_count (eL E) G  (xlv_some e34)) sh81 foX6 rfl vk_X6_count kw2_90 rfl ⟨Nat.le_of_ble_eq_true rfl, Nat.le_of_ble_eq_true rfl, rfl, rfl⟩ ⟨Nat.zero_le _, Nat.zero_le _⟩ (rest := []) rfl (Nat.le_of_ble_eq_true rfl) dL_acts_120 (st1 := [.int q33.2]) rfl 123 rfl ?_
        refine j_istore C dL_acts_123 (by decide) [(5, .int q33.2), (4, .int q25.2), (3, .int ((1 : Int32) + q23.2)), (0, .ref (gA G 81)), (1, .int p1), (2, .int p2)] rfl 125 rfl ?_
        refine j_aload_n C dL_acts_125 rfl 3 rfl 126 rfl ?_
        refine j_iload_n C dL_acts_126 rfl 2 rfl 127 rfl ?_
        refine j_iload_n C dL_acts_127 rfl 5 rfl 128 rfl ?_
        refine j_iconst C dL_acts_128 (2 : Int32) (by decide) 129 rfl ?_
        refine j_ishr C dL_acts_129 130 rfl ?_
        obtain ⟨q35, e36, h⟩ := ob_some h
        refine j_callS C (ct_L_types (eL E) G  e36) vk_L_types kw3_129 rfl ⟨Nat.le_of_ble_eq_true rfl, Nat.le_of_ble_eq_true rfl, rfl, rfl⟩ ⟨Nat.zero_le _, Nat.zero_le _⟩ (rest := []) rfl (Nat.le_of_ble_eq_true rfl) dL_acts_130 (st1 := [.int q35.2]) rfl 133 rfl ?_
        refine j_if_le C dL_acts_133 162 (by decide) 136 rfl (fun c => ?_) (fun c => ?_)
        · have h := it_t c h
          refine j_iconst C dL_acts_162 (0 : Int32) (by decide) 163 rfl ?_
          exact j_zret C F dL_acts_163 (by decide) h
        · have h := it_f c h
          refine j_aload_n C dL_acts_136 rfl 3 rfl 137 rfl ?_
          refine j_iload C dL_acts_137 1 rfl 139 rfl ?_
          obtain ⟨q37, e38, h⟩ := ob_some h
          refine j_callV C (ct_X6_define (eL E) G  (xlv_some e38)) sh81 foX6 rfl vk_X6_define kw3_165 rfl ⟨Nat.le_of_ble_eq_true rfl, Nat.le_of_ble_eq_true rfl, rfl, rfl⟩ ⟨Nat.zero_le _, Nat.zero_le _⟩ (rest := []) rfl (Nat.le_of_ble_eq_true rfl) dL_acts_139 (st1 := [.int q37.2]) rfl 142 rfl ?_
          refine j_iload C dL_acts_142 0 rfl 144 rfl ?_
          refine j_icmp_ne C dL_acts_144 162 (by decide) 147 rfl (fun c => ?_) (fun c => ?_)
          · have h := it_f c h
            refine j_iconst C dL_acts_162 (0 : Int32) (by decide) 163 rfl ?_
            exact j_zret C F dL_acts_163 (by decide) h
          · have h := it_t c h
            refine j_aload_n C dL_acts_147 rfl 3 rfl 148 rfl ?_
            refine j_iload C dL_acts_148 0 rfl 150 rfl ?_
            refine j_bipush C dL_acts_150 (6 : Int32) (by decide) 152 rfl ?_
            obtain ⟨q39, e40, h⟩ := ob_some h
            refine j_callV C (ct_X6_entry (eL E) G  (xlv_some e40)) sh81 foX6 rfl vk_X6_entry kw2_210 rfl ⟨Nat.le_of_ble_eq_true rfl, Nat.le_of_ble_eq_true rfl, rfl, rfl⟩ ⟨Nat.zero_le _, Nat.zero_le _⟩ (rest := []) rfl (Nat.le_of_ble_eq_true rfl) dL_acts_152 (st1 := [.int q39.2]) rfl 155 rfl ?_
            refine j_if_ne C dL_acts_155 162 (by decide) 158 rfl (fun c => ?_) (fun c => ?_)
            · have h := it_f c h
              refine j_iconst C dL_acts_162 (0 : Int32) (by decide) 163 rfl ?_
              exact j_zret C F dL_acts_163 (by decide) h
            · have h := it_t c h
              refine j_iconst C dL_acts_158 (1 : Int32) (by decide) 159 rfl ?_
              refine j_goto C dL_acts_159 163 (by decide) ?_
              exact j_zret C F dL_acts_163 (by decide) h
      · have h := it_f c h
        refine j_aload_n C dL_acts_101 rfl 2 rfl 102 rfl ?_
        refine j_iconst C dL_acts_102 (0 : Int32) (by decide) 103 rfl ?_
        refine j_iload_n C dL_acts_103 rfl 4 rfl 104 rfl ?_
        refine j_iconst C dL_acts_104 (1 : Int32) (by decide) 105 rfl ?_
        refine j_iand C dL_acts_105 106 rfl ?_
        obtain ⟨q41, e42, h⟩ := ob_some h
        refine j_callV C (ct_X6_set (eL E) G  (xlv_some e42)) sh81 foX6 rfl vk_X6_set kw3_117 rfl ⟨Nat.le_of_ble_eq_true rfl, Nat.le_of_ble_eq_true rfl, rfl, rfl⟩ ⟨Nat.zero_le _, Nat.zero_le _⟩ (rest := []) rfl (Nat.le_of_ble_eq_true rfl) dL_acts_106 (st1 := [.int q41.2]) rfl 109 rfl ?_
        refine j_if_lt C dL_acts_109 116 (by decide) 112 rfl (fun c => ?_) (fun c => ?_)
        · have h := it_t c h
          refine j_iconst C dL_acts_116 (0 : Int32) (by decide) 117 rfl ?_
          exact j_zret C F dL_acts_117 (by decide) h
        · have h := it_f c h
          refine j_iconst C dL_acts_112 (1 : Int32) (by decide) 113 rfl ?_
          refine j_goto C dL_acts_113 117 (by decide) ?_
          exact j_zret C F dL_acts_117 (by decide) h
  have h := it_f c1 h
  by_cases c2 : q1.2 = (2 : Int32)
  · have h := it_t c2 h
    refine j_tableIn C dL_acts_6 (by rw [c2]; decide) (by rw [c2]; decide) (off := 54) (by rw [c2]; rfl) 60 (by decide) ?_
    refine j_iconst C dL_acts_60 (1 : Int32) (by decide) 61 rfl ?_
    refine j_iload_n C dL_acts_61 rfl 2 rfl 62 rfl ?_
    refine j_iconst C dL_acts_62 (4 : Int32) (by decide) 63 rfl ?_
    obtain ⟨q43, e44, h⟩ := ob_some h
    refine j_callS C (ct_L_up (eL E) G  e44) vk_L_up kw2_180 rfl ⟨Nat.le_of_ble_eq_true rfl, Nat.le_of_ble_eq_true rfl, rfl, rfl⟩ ⟨Nat.zero_le _, Nat.zero_le _⟩ (rest := [.int (1 : Int32)]) rfl (Nat.le_of_ble_eq_true rfl) dL_acts_63 (st1 := [.int q43.2, .int (1 : Int32)]) rfl 66 rfl ?_
    refine j_iadd C dL_acts_66 67 rfl ?_
    refine j_istore_n C dL_acts_67 rfl (by decide) [(3, .int ((1 : Int32) + q43.2)), (0, .ref (gA G 81)), (1, .int p1), (2, .int p2)] rfl 68 rfl ?_
    refine j_iload_n C dL_acts_68 rfl 3 rfl 69 rfl ?_
    refine j_bipush C dL_acts_69 (10 : Int32) (by decide) 71 rfl ?_
    refine j_ishr C dL_acts_71 72 rfl ?_
    refine j_iconst C dL_acts_72 (4 : Int32) (by decide) 73 rfl ?_
    obtain ⟨q45, e46, h⟩ := ob_some h
    refine j_callS C (ct_L_up (eL E) G  e46) vk_L_up kw2_180 rfl ⟨Nat.le_of_ble_eq_true rfl, Nat.le_of_ble_eq_true rfl, rfl, rfl⟩ ⟨Nat.zero_le _, Nat.zero_le _⟩ (rest := []) rfl (Nat.le_of_ble_eq_true rfl) dL_acts_73 (st1 := [.int q45.2]) rfl 76 rfl ?_
    refine j_istore C dL_acts_76 (by decide) [(4, .int q45.2), (3, .int ((1 : Int32) + q43.2)), (0, .ref (gA G 81)), (1, .int p1), (2, .int p2)] rfl 78 rfl ?_
    refine j_aload_n C dL_acts_78 rfl 2 rfl 79 rfl ?_
    refine j_iconst C dL_acts_79 (4 : Int32) (by decide) 80 rfl ?_
    obtain ⟨q47, e48, h⟩ := ob_some h
    refine j_callV C (ct_X6_count (eL E) G  (xlv_some e48)) sh81 foX6 rfl vk_X6_count kw2_90 rfl ⟨Nat.le_of_ble_eq_true rfl, Nat.le_of_ble_eq_true rfl, rfl, rfl⟩ ⟨Nat.zero_le _, Nat.zero_le _⟩ (rest := []) rfl (Nat.le_of_ble_eq_true rfl) dL_acts_80 (st1 := [.int q47.2]) rfl 83 rfl ?_
    refine j_bipush C dL_acts_83 (24 : Int32) (by decide) 85 rfl ?_
    refine j_icmp_eq C dL_acts_85 101 (by decide) 88 rfl (fun c => ?_) (fun c => ?_)
    · have h := it_t c h
      refine j_aload_n C dL_acts_101 rfl 2 rfl 102 rfl ?_
      refine j_iconst C dL_acts_102 (0 : Int32) (by decide) 103 rfl ?_
      refine j_iload_n C dL_acts_103 rfl 4 rfl 104 rfl ?_
      refine j_iconst C dL_acts_104 (1 : Int32) (by decide) 105 rfl ?_
      refine j_iand C dL_acts_105 106 rfl ?_
      obtain ⟨q49, e50, h⟩ := ob_some h
      refine j_callV C (ct_X6_set (eL E) G  (xlv_some e50)) sh81 foX6 rfl vk_X6_set kw3_117 rfl ⟨Nat.le_of_ble_eq_true rfl, Nat.le_of_ble_eq_true rfl, rfl, rfl⟩ ⟨Nat.zero_le _, Nat.zero_le _⟩ (rest := []) rfl (Nat.le_of_ble_eq_true rfl) dL_acts_106 (st1 := [.int q49.2]) rfl 109 rfl ?_
      refine j_if_lt C dL_acts_109 116 (by decide) 112 rfl (fun c => ?_) (fun c => ?_)
      · have h := it_t c h
        refine j_iconst C dL_acts_116 (0 : Int32) (by decide) 117 rfl ?_
        exact j_zret C F dL_acts_117 (by decide) h
      · have h := it_f c h
        refine j_iconst C dL_acts_112 (1 : Int32) (by decide) 113 rfl ?_
        refine j_goto C dL_acts_113 117 (by decide) ?_
        exact j_zret C F dL_acts_117 (by decide) h
    · have h := it_f c h
      refine j_aload_n C dL_acts_88 rfl 2 rfl 89 rfl ?_
      refine j_iload_n C dL_acts_89 rfl 1 rfl 90 rfl ?_
      refine j_iload_n C dL_acts_90 rfl 4 rfl 91 rfl ?_
      refine j_iconst C dL_acts_91 (2 : Int32) (by decide) 92 rfl ?_
      refine j_ishr C dL_acts_92 93 rfl ?_
      refine j_iload C dL_acts_93 0 rfl 95 rfl ?_
      obtain ⟨q51, e52, h⟩ := ob_some h
      refine j_callS C (ct_L_isEntry (eL E) G  e52) vk_L_isEntry kw3_114 rfl ⟨Nat.le_of_ble_eq_true rfl, Nat.le_of_ble_eq_true rfl, rfl, rfl⟩ ⟨Nat.zero_le _, Nat.zero_le _⟩ (rest := []) rfl (Nat.le_of_ble_eq_true rfl) dL_acts_95 (st1 := [.int q51.2]) rfl 98 rfl ?_
      refine j_if_eq C dL_acts_98 118 (by decide) 101 rfl (fun c => ?_) (fun c => ?_)
      · have h := it_t c h
        refine j_aload_n C dL_acts_118 rfl 2 rfl 119 rfl ?_
        refine j_iconst C dL_acts_119 (4 : Int32) (by decide) 120 rfl ?_
        obtain ⟨q53, e54, h⟩ := ob_some h
        refine j_callV C (ct_X6_count (eL E) G  (xlv_some e54)) sh81 foX6 rfl vk_X6_count kw2_90 rfl ⟨Nat.le_of_ble_eq_true rfl, Nat.le_of_ble_eq_true rfl, rfl, rfl⟩ ⟨Nat.zero_le _, Nat.zero_le _⟩ (rest := []) rfl (Nat.le_of_ble_eq_true rfl) dL_acts_120 (st1 := [.int q53.2]) rfl 123 rfl ?_
        refine j_istore C dL_acts_123 (by decide) [(5, .int q53.2), (4, .int q45.2), (3, .int ((1 : Int32) + q43.2)), (0, .ref (gA G 81)), (1, .int p1), (2, .int p2)] rfl 125 rfl ?_
        refine j_aload_n C dL_acts_125 rfl 3 rfl 126 rfl ?_
        refine j_iload_n C dL_acts_126 rfl 2 rfl 127 rfl ?_
        refine j_iload_n C dL_acts_127 rfl 5 rfl 128 rfl ?_
        refine j_iconst C dL_acts_128 (2 : Int32) (by decide) 129 rfl ?_
        refine j_ishr C dL_acts_129 130 rfl ?_
        obtain ⟨q55, e56, h⟩ := ob_some h
        refine j_callS C (ct_L_types (eL E) G  e56) vk_L_types kw3_129 rfl ⟨Nat.le_of_ble_eq_true rfl, Nat.le_of_ble_eq_true rfl, rfl, rfl⟩ ⟨Nat.zero_le _, Nat.zero_le _⟩ (rest := []) rfl (Nat.le_of_ble_eq_true rfl) dL_acts_130 (st1 := [.int q55.2]) rfl 133 rfl ?_
        refine j_if_le C dL_acts_133 162 (by decide) 136 rfl (fun c => ?_) (fun c => ?_)
        · have h := it_t c h
          refine j_iconst C dL_acts_162 (0 : Int32) (by decide) 163 rfl ?_
          exact j_zret C F dL_acts_163 (by decide) h
        · have h := it_f c h
          refine j_aload_n C dL_acts_136 rfl 3 rfl 137 rfl ?_
          refine j_iload C dL_acts_137 1 rfl 139 rfl ?_
          obtain ⟨q57, e58, h⟩ := ob_some h
          refine j_callV C (ct_X6_define (eL E) G  (xlv_some e58)) sh81 foX6 rfl vk_X6_define kw3_165 rfl ⟨Nat.le_of_ble_eq_true rfl, Nat.le_of_ble_eq_true rfl, rfl, rfl⟩ ⟨Nat.zero_le _, Nat.zero_le _⟩ (rest := []) rfl (Nat.le_of_ble_eq_true rfl) dL_acts_139 (st1 := [.int q57.2]) rfl 142 rfl ?_
          refine j_iload C dL_acts_142 0 rfl 144 rfl ?_
          refine j_icmp_ne C dL_acts_144 162 (by decide) 147 rfl (fun c => ?_) (fun c => ?_)
          · have h := it_f c h
            refine j_iconst C dL_acts_162 (0 : Int32) (by decide) 163 rfl ?_
            exact j_zret C F dL_acts_163 (by decide) h
          · have h := it_t c h
            refine j_aload_n C dL_acts_147 rfl 3 rfl 148 rfl ?_
            refine j_iload C dL_acts_148 0 rfl 150 rfl ?_
            refine j_bipush C dL_acts_150 (6 : Int32) (by decide) 152 rfl ?_
            obtain ⟨q59, e60, h⟩ := ob_some h
            refine j_callV C (ct_X6_entry (eL E) G  (xlv_some e60)) sh81 foX6 rfl vk_X6_entry kw2_210 rfl ⟨Nat.le_of_ble_eq_true rfl, Nat.le_of_ble_eq_true rfl, rfl, rfl⟩ ⟨Nat.zero_le _, Nat.zero_le _⟩ (rest := []) rfl (Nat.le_of_ble_eq_true rfl) dL_acts_152 (st1 := [.int q59.2]) rfl 155 rfl ?_
            refine j_if_ne C dL_acts_155 162 (by decide) 158 rfl (fun c => ?_) (fun c => ?_)
            · have h := it_f c h
              refine j_iconst C dL_acts_162 (0 : Int32) (by decide) 163 rfl ?_
              exact j_zret C F dL_acts_163 (by decide) h
            · have h := it_t c h
              refine j_iconst C dL_acts_158 (1 : Int32) (by decide) 159 rfl ?_
              refine j_goto C dL_acts_159 163 (by decide) ?_
              exact j_zret C F dL_acts_163 (by decide) h
      · have h := it_f c h
        refine j_aload_n C dL_acts_101 rfl 2 rfl 102 rfl ?_
        refine j_iconst C dL_acts_102 (0 : Int32) (by decide) 103 rfl ?_
        refine j_iload_n C dL_acts_103 rfl 4 rfl 104 rfl ?_
        refine j_iconst C dL_acts_104 (1 : Int32) (by decide) 105 rfl ?_
        refine j_iand C dL_acts_105 106 rfl ?_
        obtain ⟨q61, e62, h⟩ := ob_some h
        refine j_callV C (ct_X6_set (eL E) G  (xlv_some e62)) sh81 foX6 rfl vk_X6_set kw3_117 rfl ⟨Nat.le_of_ble_eq_true rfl, Nat.le_of_ble_eq_true rfl, rfl, rfl⟩ ⟨Nat.zero_le _, Nat.zero_le _⟩ (rest := []) rfl (Nat.le_of_ble_eq_true rfl) dL_acts_106 (st1 := [.int q61.2]) rfl 109 rfl ?_
        refine j_if_lt C dL_acts_109 116 (by decide) 112 rfl (fun c => ?_) (fun c => ?_)
        · have h := it_t c h
          refine j_iconst C dL_acts_116 (0 : Int32) (by decide) 117 rfl ?_
          exact j_zret C F dL_acts_117 (by decide) h
        · have h := it_f c h
          refine j_iconst C dL_acts_112 (1 : Int32) (by decide) 113 rfl ?_
          refine j_goto C dL_acts_113 117 (by decide) ?_
          exact j_zret C F dL_acts_117 (by decide) h
  have h := it_f c2 h
  by_cases c3 : q1.2 = (3 : Int32)
  · have h := it_t c3 h
    refine j_tableIn C dL_acts_6 (by rw [c3]; decide) (by rw [c3]; decide) (off := 158) (by rw [c3]; rfl) 164 (by decide) ?_
    refine j_aload_n C dL_acts_164 rfl 0 rfl 165 rfl ?_
    refine j_iconst C dL_acts_165 (4 : Int32) (by decide) 166 rfl ?_
    obtain ⟨q63, e64, h⟩ := ob_some h
    refine j_callV C (ct_X6_count (eL E) G  (xlv_some e64)) sh81 foX6 rfl vk_X6_count kw2_90 rfl ⟨Nat.le_of_ble_eq_true rfl, Nat.le_of_ble_eq_true rfl, rfl, rfl⟩ ⟨Nat.zero_le _, Nat.zero_le _⟩ (rest := []) rfl (Nat.le_of_ble_eq_true rfl) dL_acts_166 (st1 := [.int q63.2]) rfl 169 rfl ?_
    refine j_if_ne C dL_acts_169 191 (by decide) 172 rfl (fun c => ?_) (fun c => ?_)
    · have h := it_f c h
      refine j_aload_n C dL_acts_191 rfl 0 rfl 192 rfl ?_
      refine j_iload_n C dL_acts_192 rfl 2 rfl 193 rfl ?_
      refine j_aload_n C dL_acts_193 rfl 0 rfl 194 rfl ?_
      refine j_iconst C dL_acts_194 (4 : Int32) (by decide) 195 rfl ?_
      obtain ⟨q65, e66, h⟩ := ob_some h
      refine j_callV C (ct_X6_count (eL E) G  (xlv_some e66)) sh81 foX6 rfl vk_X6_count kw2_90 rfl ⟨Nat.le_of_ble_eq_true rfl, Nat.le_of_ble_eq_true rfl, rfl, rfl⟩ ⟨Nat.zero_le _, Nat.zero_le _⟩ (rest := [.int p2, .ref (gA G 81)]) rfl (Nat.le_of_ble_eq_true rfl) dL_acts_195 (st1 := [.int q65.2, .int p2, .ref (gA G 81)]) rfl 198 rfl ?_
      obtain ⟨q67, e68, h⟩ := ob_some h
      refine j_callS C (ct_L_up (eL E) G  e68) vk_L_up kw2_180 rfl ⟨Nat.le_of_ble_eq_true rfl, Nat.le_of_ble_eq_true rfl, rfl, rfl⟩ ⟨Nat.zero_le _, Nat.zero_le _⟩ (rest := [.ref (gA G 81)]) rfl (Nat.le_of_ble_eq_true rfl) dL_acts_198 (st1 := [.int q67.2, .ref (gA G 81)]) rfl 201 rfl ?_
      obtain ⟨q69, e70, h⟩ := ob_some h
      refine j_callV C (ct_X6_remove (eL E) G  (xlv_some e70)) sh81 foX6 rfl vk_X6_remove kw4_37 rfl ⟨Nat.le_of_ble_eq_true rfl, Nat.le_of_ble_eq_true rfl, rfl, rfl⟩ ⟨Nat.zero_le _, Nat.zero_le _⟩ (rest := []) rfl (Nat.le_of_ble_eq_true rfl) dL_acts_201 (st1 := [.int q69.2]) rfl 204 rfl ?_
      refine j_aload_n C dL_acts_204 rfl 0 rfl 205 rfl ?_
      refine j_iconst C dL_acts_205 (4 : Int32) (by decide) 206 rfl ?_
      obtain ⟨q71, e72, h⟩ := ob_some h
      refine j_callV C (ct_X6_count (eL E) G  (xlv_some e72)) sh81 foX6 rfl vk_X6_count kw2_90 rfl ⟨Nat.le_of_ble_eq_true rfl, Nat.le_of_ble_eq_true rfl, rfl, rfl⟩ ⟨Nat.zero_le _, Nat.zero_le _⟩ (rest := [.int q69.2]) rfl (Nat.le_of_ble_eq_true rfl) dL_acts_206 (st1 := [.int q71.2, .int q69.2]) rfl 209 rfl ?_
      refine j_icmp_ne C dL_acts_209 216 (by decide) 212 rfl (fun c => ?_) (fun c => ?_)
      · have h := it_f c h
        refine j_iconst C dL_acts_216 (0 : Int32) (by decide) 217 rfl ?_
        exact j_zret C F dL_acts_217 (by decide) h
      · have h := it_t c h
        refine j_iconst C dL_acts_212 (1 : Int32) (by decide) 213 rfl ?_
        refine j_goto C dL_acts_213 217 (by decide) ?_
        exact j_zret C F dL_acts_217 (by decide) h
    · have h := it_t c h
      refine j_aload_n C dL_acts_172 rfl 0 rfl 173 rfl ?_
      refine j_iconst C dL_acts_173 (0 : Int32) (by decide) 174 rfl ?_
      refine j_iload_n C dL_acts_174 rfl 2 rfl 175 rfl ?_
      refine j_iconst C dL_acts_175 (1 : Int32) (by decide) 176 rfl ?_
      refine j_iand C dL_acts_176 177 rfl ?_
      obtain ⟨q73, e74, h⟩ := ob_some h
      refine j_callV C (ct_X6_set (eL E) G  (xlv_some e74)) sh81 foX6 rfl vk_X6_set kw3_117 rfl ⟨Nat.le_of_ble_eq_true rfl, Nat.le_of_ble_eq_true rfl, rfl, rfl⟩ ⟨Nat.zero_le _, Nat.zero_le _⟩ (rest := []) rfl (Nat.le_of_ble_eq_true rfl) dL_acts_177 (st1 := [.int q73.2]) rfl 180 rfl ?_
      refine j_if_lt C dL_acts_180 187 (by decide) 183 rfl (fun c => ?_) (fun c => ?_)
      · have h := it_t c h
        refine j_iconst C dL_acts_187 (0 : Int32) (by decide) 188 rfl ?_
        refine j_goto C dL_acts_188 217 (by decide) ?_
        exact j_zret C F dL_acts_217 (by decide) h
      · have h := it_f c h
        refine j_iconst C dL_acts_183 (1 : Int32) (by decide) 184 rfl ?_
        refine j_goto C dL_acts_184 217 (by decide) ?_
        exact j_zret C F dL_acts_217 (by decide) h
  have h := it_f c3 h
  by_cases c4 : q1.2 = (4 : Int32)
  · have h := it_t c4 h
    refine j_tableIn C dL_acts_6 (by rw [c4]; decide) (by rw [c4]; decide) (off := 212) (by rw [c4]; rfl) 218 (by decide) ?_
    refine j_aload_n C dL_acts_218 rfl 0 rfl 219 rfl ?_
    refine j_iconst C dL_acts_219 (1 : Int32) (by decide) 220 rfl ?_
    refine j_iconst C dL_acts_220 (1 : Int32) (by decide) 221 rfl ?_
    refine j_iload_n C dL_acts_221 rfl 2 rfl 222 rfl ?_
    refine j_iconst C dL_acts_222 (4 : Int32) (by decide) 223 rfl ?_
    obtain ⟨q75, e76, h⟩ := ob_some h
    refine j_callS C (ct_L_up (eL E) G  e76) vk_L_up kw2_180 rfl ⟨Nat.le_of_ble_eq_true rfl, Nat.le_of_ble_eq_true rfl, rfl, rfl⟩ ⟨Nat.zero_le _, Nat.zero_le _⟩ (rest := [.int (1 : Int32), .int (1 : Int32), .ref (gA G 81)]) rfl (Nat.le_of_ble_eq_true rfl) dL_acts_223 (st1 := [.int q75.2, .int (1 : Int32), .int (1 : Int32), .ref (gA G 81)]) rfl 226 rfl ?_
    refine j_iadd C dL_acts_226 227 rfl ?_
    obtain ⟨q77, e78, h⟩ := ob_some h
    refine j_callV C (ct_X6_set (eL E) G  (xlv_some e78)) sh81 foX6 rfl vk_X6_set kw3_117 rfl ⟨Nat.le_of_ble_eq_true rfl, Nat.le_of_ble_eq_true rfl, rfl, rfl⟩ ⟨Nat.zero_le _, Nat.zero_le _⟩ (rest := []) rfl (Nat.le_of_ble_eq_true rfl) dL_acts_227 (st1 := [.int q77.2]) rfl 230 rfl ?_
    refine j_if_le C dL_acts_230 237 (by decide) 233 rfl (fun c => ?_) (fun c => ?_)
    · have h := it_t c h
      refine j_iconst C dL_acts_237 (0 : Int32) (by decide) 238 rfl ?_
      exact j_zret C F dL_acts_238 (by decide) h
    · have h := it_f c h
      refine j_iconst C dL_acts_233 (1 : Int32) (by decide) 234 rfl ?_
      refine j_goto C dL_acts_234 238 (by decide) ?_
      exact j_zret C F dL_acts_238 (by decide) h
  have h := it_f c4 h
  by_cases c5 : q1.2 = (5 : Int32)
  · have h := it_t c5 h
    refine j_tableIn C dL_acts_6 (by rw [c5]; decide) (by rw [c5]; decide) (off := 233) (by rw [c5]; rfl) 239 (by decide) ?_
    refine j_aload_n C dL_acts_239 rfl 0 rfl 240 rfl ?_
    refine j_iconst C dL_acts_240 (2 : Int32) (by decide) 241 rfl ?_
    obtain ⟨q79, e80, h⟩ := ob_some h
    refine j_callV C (ct_X6_count (eL E) G  (xlv_some e80)) sh81 foX6 rfl vk_X6_count kw2_90 rfl ⟨Nat.le_of_ble_eq_true rfl, Nat.le_of_ble_eq_true rfl, rfl, rfl⟩ ⟨Nat.zero_le _, Nat.zero_le _⟩ (rest := []) rfl (Nat.le_of_ble_eq_true rfl) dL_acts_241 (st1 := [.int q79.2]) rfl 244 rfl ?_
    refine j_if_ne C dL_acts_244 251 (by decide) 247 rfl (fun c => ?_) (fun c => ?_)
    · have h := it_f c h
      refine j_iload_n C dL_acts_251 rfl 2 rfl 252 rfl ?_
      refine j_aload_n C dL_acts_252 rfl 0 rfl 253 rfl ?_
      refine j_iconst C dL_acts_253 (2 : Int32) (by decide) 254 rfl ?_
      obtain ⟨q81, e82, h⟩ := ob_some h
      refine j_callV C (ct_X6_count (eL E) G  (xlv_some e82)) sh81 foX6 rfl vk_X6_count kw2_90 rfl ⟨Nat.le_of_ble_eq_true rfl, Nat.le_of_ble_eq_true rfl, rfl, rfl⟩ ⟨Nat.zero_le _, Nat.zero_le _⟩ (rest := [.int p2]) rfl (Nat.le_of_ble_eq_true rfl) dL_acts_254 (st1 := [.int q81.2, .int p2]) rfl 257 rfl ?_
      obtain ⟨q83, e84, h⟩ := ob_some h
      refine j_callS C (ct_L_up (eL E) G  e84) vk_L_up kw2_180 rfl ⟨Nat.le_of_ble_eq_true rfl, Nat.le_of_ble_eq_true rfl, rfl, rfl⟩ ⟨Nat.zero_le _, Nat.zero_le _⟩ (rest := []) rfl (Nat.le_of_ble_eq_true rfl) dL_acts_257 (st1 := [.int q83.2]) rfl 260 rfl ?_
      refine j_sub [(0, .ref (gA G 81)), (2, .int p2)] [0, 2] rfl ?_
      exact w_L_acts_260 C F  _ _ _ h
    · have h := it_t c h
      refine j_iconst C dL_acts_247 (0 : Int32) (by decide) 248 rfl ?_
      refine j_goto C dL_acts_248 260 (by decide) ?_
      refine j_sub [(0, .ref (gA G 81)), (2, .int p2)] [0, 2] rfl ?_
      exact w_L_acts_260 C F  _ _ _ h
  have h := it_f c5 h
  by_cases c6 : q1.2 = (6 : Int32)
  · have h := it_t c6 h
    refine j_tableIn C dL_acts_6 (by rw [c6]; decide) (by rw [c6]; decide) (off := 233) (by rw [c6]; rfl) 239 (by decide) ?_
    refine j_aload_n C dL_acts_239 rfl 0 rfl 240 rfl ?_
    refine j_iconst C dL_acts_240 (2 : Int32) (by decide) 241 rfl ?_
    obtain ⟨q103, e104, h⟩ := ob_some h
    refine j_callV C (ct_X6_count (eL E) G  (xlv_some e104)) sh81 foX6 rfl vk_X6_count kw2_90 rfl ⟨Nat.le_of_ble_eq_true rfl, Nat.le_of_ble_eq_true rfl, rfl, rfl⟩ ⟨Nat.zero_le _, Nat.zero_le _⟩ (rest := []) rfl (Nat.le_of_ble_eq_true rfl) dL_acts_241 (st1 := [.int q103.2]) rfl 244 rfl ?_
    refine j_if_ne C dL_acts_244 251 (by decide) 247 rfl (fun c => ?_) (fun c => ?_)
    · have h := it_f c h
      refine j_iload_n C dL_acts_251 rfl 2 rfl 252 rfl ?_
      refine j_aload_n C dL_acts_252 rfl 0 rfl 253 rfl ?_
      refine j_iconst C dL_acts_253 (2 : Int32) (by decide) 254 rfl ?_
      obtain ⟨q105, e106, h⟩ := ob_some h
      refine j_callV C (ct_X6_count (eL E) G  (xlv_some e106)) sh81 foX6 rfl vk_X6_count kw2_90 rfl ⟨Nat.le_of_ble_eq_true rfl, Nat.le_of_ble_eq_true rfl, rfl, rfl⟩ ⟨Nat.zero_le _, Nat.zero_le _⟩ (rest := [.int p2]) rfl (Nat.le_of_ble_eq_true rfl) dL_acts_254 (st1 := [.int q105.2, .int p2]) rfl 257 rfl ?_
      obtain ⟨q107, e108, h⟩ := ob_some h
      refine j_callS C (ct_L_up (eL E) G  e108) vk_L_up kw2_180 rfl ⟨Nat.le_of_ble_eq_true rfl, Nat.le_of_ble_eq_true rfl, rfl, rfl⟩ ⟨Nat.zero_le _, Nat.zero_le _⟩ (rest := []) rfl (Nat.le_of_ble_eq_true rfl) dL_acts_257 (st1 := [.int q107.2]) rfl 260 rfl ?_
      refine j_sub [(0, .ref (gA G 81)), (2, .int p2)] [0, 2] rfl ?_
      exact w_L_acts_260 C F  _ _ _ h
    · have h := it_t c h
      refine j_iconst C dL_acts_247 (0 : Int32) (by decide) 248 rfl ?_
      refine j_goto C dL_acts_248 260 (by decide) ?_
      refine j_sub [(0, .ref (gA G 81)), (2, .int p2)] [0, 2] rfl ?_
      exact w_L_acts_260 C F  _ _ _ h
  have h := it_f c6 h
  by_cases c7 : q1.2 = (7 : Int32)
  · have h := it_t c7 h
    refine j_tableIn C dL_acts_6 (by rw [c7]; decide) (by rw [c7]; decide) (off := 358) (by rw [c7]; rfl) 364 (by decide) ?_
    refine j_iload_n C dL_acts_364 rfl 2 rfl 365 rfl ?_
    refine j_bipush C dL_acts_365 (7 : Int32) (by decide) 367 rfl ?_
    refine j_iand C dL_acts_367 368 rfl ?_
    refine j_if_ne C dL_acts_368 391 (by decide) 371 rfl (fun c => ?_) (fun c => ?_)
    · have h := it_f c h
      refine j_iload_n C dL_acts_391 rfl 2 rfl 392 rfl ?_
      refine j_bipush C dL_acts_392 (7 : Int32) (by decide) 394 rfl ?_
      refine j_iand C dL_acts_394 395 rfl ?_
      refine j_iconst C dL_acts_395 (1 : Int32) (by decide) 396 rfl ?_
      refine j_icmp_ne C dL_acts_396 422 (by decide) 399 rfl (fun c => ?_) (fun c => ?_)
      · have h := it_f c h
        refine j_aload_n C dL_acts_422 rfl 0 rfl 423 rfl ?_
        refine j_iconst C dL_acts_423 (0 : Int32) (by decide) 424 rfl ?_
        refine j_iload_n C dL_acts_424 rfl 2 rfl 425 rfl ?_
        refine j_iconst C dL_acts_425 (1 : Int32) (by decide) 426 rfl ?_
        refine j_iand C dL_acts_426 427 rfl ?_
        obtain ⟨q109, e110, h⟩ := ob_some h
        refine j_callV C (ct_X6_set (eL E) G  (xlv_some e110)) sh81 foX6 rfl vk_X6_set kw3_117 rfl ⟨Nat.le_of_ble_eq_true rfl, Nat.le_of_ble_eq_true rfl, rfl, rfl⟩ ⟨Nat.zero_le _, Nat.zero_le _⟩ (rest := []) rfl (Nat.le_of_ble_eq_true rfl) dL_acts_427 (st1 := [.int q109.2]) rfl 430 rfl ?_
        refine j_if_lt C dL_acts_430 437 (by decide) 433 rfl (fun c => ?_) (fun c => ?_)
        · have h := it_t c h
          refine j_iconst C dL_acts_437 (0 : Int32) (by decide) 438 rfl ?_
          exact j_zret C F dL_acts_438 (by decide) h
        · have h := it_f c h
          refine j_iconst C dL_acts_433 (1 : Int32) (by decide) 434 rfl ?_
          refine j_goto C dL_acts_434 438 (by decide) ?_
          exact j_zret C F dL_acts_438 (by decide) h
      · have h := it_t c h
        refine j_aload_n C dL_acts_399 rfl 0 rfl 400 rfl ?_
        obtain ⟨q111, e112, h⟩ := ob_some h
        refine j_callV C (ct_X6_tear (eL E) G  e112) sh81 foX6 rfl vk_X6_tear kw4_60 rfl ⟨Nat.le_of_ble_eq_true rfl, Nat.le_of_ble_eq_true rfl, rfl, rfl⟩ ⟨Nat.zero_le _, Nat.zero_le _⟩ (rest := []) rfl (Nat.le_of_ble_eq_true rfl) dL_acts_400 (st1 := [.int q111.2]) rfl 403 rfl ?_
        refine j_if_lt C dL_acts_403 418 (by decide) 406 rfl (fun c => ?_) (fun c => ?_)
        · have h := it_t c h
          refine j_iconst C dL_acts_418 (0 : Int32) (by decide) 419 rfl ?_
          refine j_goto C dL_acts_419 438 (by decide) ?_
          exact j_zret C F dL_acts_438 (by decide) h
        · have h := it_f c h
          refine j_aload_n C dL_acts_406 rfl 0 rfl 407 rfl ?_
          refine j_iconst C dL_acts_407 (2 : Int32) (by decide) 408 rfl ?_
          obtain ⟨q113, e114, h⟩ := ob_some h
          refine j_callV C (ct_X6_count (eL E) G  (xlv_some e114)) sh81 foX6 rfl vk_X6_count kw2_90 rfl ⟨Nat.le_of_ble_eq_true rfl, Nat.le_of_ble_eq_true rfl, rfl, rfl⟩ ⟨Nat.zero_le _, Nat.zero_le _⟩ (rest := []) rfl (Nat.le_of_ble_eq_true rfl) dL_acts_408 (st1 := [.int q113.2]) rfl 411 rfl ?_
          refine j_if_ne C dL_acts_411 418 (by decide) 414 rfl (fun c => ?_) (fun c => ?_)
          · have h := it_f c h
            refine j_iconst C dL_acts_418 (0 : Int32) (by decide) 419 rfl ?_
            refine j_goto C dL_acts_419 438 (by decide) ?_
            exact j_zret C F dL_acts_438 (by decide) h
          · have h := it_t c h
            refine j_iconst C dL_acts_414 (1 : Int32) (by decide) 415 rfl ?_
            refine j_goto C dL_acts_415 438 (by decide) ?_
            exact j_zret C F dL_acts_438 (by decide) h
    · have h := it_t c h
      refine j_aload_n C dL_acts_371 rfl 0 rfl 372 rfl ?_
      obtain ⟨q115, e116, h⟩ := ob_some h
      refine j_callV C (ct_X6_goBack (eL E) G  (xlv_some e116)) sh81 foX6 rfl vk_X6_goBack kw4_55 rfl ⟨Nat.le_of_ble_eq_true rfl, Nat.le_of_ble_eq_true rfl, rfl, rfl⟩ ⟨Nat.zero_le _, Nat.zero_le _⟩ (rest := []) rfl (Nat.le_of_ble_eq_true rfl) dL_acts_372 (st1 := [.int q115.2]) rfl 375 rfl ?_
      refine j_aload_n C dL_acts_375 rfl 0 rfl 376 rfl ?_
      refine j_iconst C dL_acts_376 (0 : Int32) (by decide) 377 rfl ?_
      obtain ⟨q117, e118, h⟩ := ob_some h
      refine j_callV C (ct_X6_count (eL E) G  (xlv_some e118)) sh81 foX6 rfl vk_X6_count kw2_90 rfl ⟨Nat.le_of_ble_eq_true rfl, Nat.le_of_ble_eq_true rfl, rfl, rfl⟩ ⟨Nat.zero_le _, Nat.zero_le _⟩ (rest := [.int q115.2]) rfl (Nat.le_of_ble_eq_true rfl) dL_acts_377 (st1 := [.int q117.2, .int q115.2]) rfl 380 rfl ?_
      refine j_icmp_ne C dL_acts_380 387 (by decide) 383 rfl (fun c => ?_) (fun c => ?_)
      · have h := it_f c h
        refine j_iconst C dL_acts_387 (0 : Int32) (by decide) 388 rfl ?_
        refine j_goto C dL_acts_388 438 (by decide) ?_
        exact j_zret C F dL_acts_438 (by decide) h
      · have h := it_t c h
        refine j_iconst C dL_acts_383 (1 : Int32) (by decide) 384 rfl ?_
        refine j_goto C dL_acts_384 438 (by decide) ?_
        exact j_zret C F dL_acts_438 (by decide) h
  have h := it_f c7 h
  by_cases c8 : q1.2 = (8 : Int32)
  · have h := it_t c8 h
    refine j_tableIn C dL_acts_6 (by rw [c8]; decide) (by rw [c8]; decide) (off := 433) (by rw [c8]; rfl) 439 (by decide) ?_
    refine j_aload_n C dL_acts_439 rfl 0 rfl 440 rfl ?_
    refine j_iconst C dL_acts_440 (0 : Int32) (by decide) 441 rfl ?_
    obtain ⟨q119, e120, h⟩ := ob_some h
    refine j_callV C (ct_X6_count (eL E) G  (xlv_some e120)) sh81 foX6 rfl vk_X6_count kw2_90 rfl ⟨Nat.le_of_ble_eq_true rfl, Nat.le_of_ble_eq_true rfl, rfl, rfl⟩ ⟨Nat.zero_le _, Nat.zero_le _⟩ (rest := []) rfl (Nat.le_of_ble_eq_true rfl) dL_acts_441 (st1 := [.int q119.2]) rfl 444 rfl ?_
    refine j_if_ne C dL_acts_444 466 (by decide) 447 rfl (fun c => ?_) (fun c => ?_)
    · have h := it_f c h
      refine j_aload_n C dL_acts_466 rfl 0 rfl 467 rfl ?_
      refine j_iconst C dL_acts_467 (0 : Int32) (by decide) 468 rfl ?_
      obtain ⟨q121, e122, h⟩ := ob_some h
      refine j_callS C (ct_L_strikes (eL E) G  e122) vk_L_strikes kw4_64 rfl ⟨Nat.le_of_ble_eq_true rfl, Nat.le_of_ble_eq_true rfl, rfl, rfl⟩ ⟨Nat.zero_le _, Nat.zero_le _⟩ (rest := []) rfl (Nat.le_of_ble_eq_true rfl) dL_acts_468 (st1 := [.int q121.2]) rfl 471 rfl ?_
      obtain ⟨hb, h⟩ := if_some h
      exact j_zret C F dL_acts_471 hb h
    · have h := it_t c h
      refine j_aload_n C dL_acts_447 rfl 0 rfl 448 rfl ?_
      refine j_iconst C dL_acts_448 (0 : Int32) (by decide) 449 rfl ?_
      refine j_iload_n C dL_acts_449 rfl 2 rfl 450 rfl ?_
      refine j_iconst C dL_acts_450 (1 : Int32) (by decide) 451 rfl ?_
      refine j_iand C dL_acts_451 452 rfl ?_
      obtain ⟨q123, e124, h⟩ := ob_some h
      refine j_callV C (ct_X6_set (eL E) G  (xlv_some e124)) sh81 foX6 rfl vk_X6_set kw3_117 rfl ⟨Nat.le_of_ble_eq_true rfl, Nat.le_of_ble_eq_true rfl, rfl, rfl⟩ ⟨Nat.zero_le _, Nat.zero_le _⟩ (rest := []) rfl (Nat.le_of_ble_eq_true rfl) dL_acts_452 (st1 := [.int q123.2]) rfl 455 rfl ?_
      refine j_if_lt C dL_acts_455 462 (by decide) 458 rfl (fun c => ?_) (fun c => ?_)
      · have h := it_t c h
        refine j_iconst C dL_acts_462 (0 : Int32) (by decide) 463 rfl ?_
        refine j_goto C dL_acts_463 471 (by decide) ?_
        exact j_zret C F dL_acts_471 (by decide) h
      · have h := it_f c h
        refine j_iconst C dL_acts_458 (1 : Int32) (by decide) 459 rfl ?_
        refine j_goto C dL_acts_459 471 (by decide) ?_
        exact j_zret C F dL_acts_471 (by decide) h
  have h := it_f c8 h
  by_cases c9 : q1.2 = (9 : Int32)
  · have h := it_t c9 h
    refine j_tableIn C dL_acts_6 (by rw [c9]; decide) (by rw [c9]; decide) (off := 433) (by rw [c9]; rfl) 439 (by decide) ?_
    refine j_aload_n C dL_acts_439 rfl 0 rfl 440 rfl ?_
    refine j_iconst C dL_acts_440 (0 : Int32) (by decide) 441 rfl ?_
    obtain ⟨q125, e126, h⟩ := ob_some h
    refine j_callV C (ct_X6_count (eL E) G  (xlv_some e126)) sh81 foX6 rfl vk_X6_count kw2_90 rfl ⟨Nat.le_of_ble_eq_true rfl, Nat.le_of_ble_eq_true rfl, rfl, rfl⟩ ⟨Nat.zero_le _, Nat.zero_le _⟩ (rest := []) rfl (Nat.le_of_ble_eq_true rfl) dL_acts_441 (st1 := [.int q125.2]) rfl 444 rfl ?_
    refine j_if_ne C dL_acts_444 466 (by decide) 447 rfl (fun c => ?_) (fun c => ?_)
    · have h := it_f c h
      refine j_aload_n C dL_acts_466 rfl 0 rfl 467 rfl ?_
      refine j_iconst C dL_acts_467 (0 : Int32) (by decide) 468 rfl ?_
      obtain ⟨q127, e128, h⟩ := ob_some h
      refine j_callS C (ct_L_strikes (eL E) G  e128) vk_L_strikes kw4_64 rfl ⟨Nat.le_of_ble_eq_true rfl, Nat.le_of_ble_eq_true rfl, rfl, rfl⟩ ⟨Nat.zero_le _, Nat.zero_le _⟩ (rest := []) rfl (Nat.le_of_ble_eq_true rfl) dL_acts_468 (st1 := [.int q127.2]) rfl 471 rfl ?_
      obtain ⟨hb, h⟩ := if_some h
      exact j_zret C F dL_acts_471 hb h
    · have h := it_t c h
      refine j_aload_n C dL_acts_447 rfl 0 rfl 448 rfl ?_
      refine j_iconst C dL_acts_448 (0 : Int32) (by decide) 449 rfl ?_
      refine j_iload_n C dL_acts_449 rfl 2 rfl 450 rfl ?_
      refine j_iconst C dL_acts_450 (1 : Int32) (by decide) 451 rfl ?_
      refine j_iand C dL_acts_451 452 rfl ?_
      obtain ⟨q129, e130, h⟩ := ob_some h
      refine j_callV C (ct_X6_set (eL E) G  (xlv_some e130)) sh81 foX6 rfl vk_X6_set kw3_117 rfl ⟨Nat.le_of_ble_eq_true rfl, Nat.le_of_ble_eq_true rfl, rfl, rfl⟩ ⟨Nat.zero_le _, Nat.zero_le _⟩ (rest := []) rfl (Nat.le_of_ble_eq_true rfl) dL_acts_452 (st1 := [.int q129.2]) rfl 455 rfl ?_
      refine j_if_lt C dL_acts_455 462 (by decide) 458 rfl (fun c => ?_) (fun c => ?_)
      · have h := it_t c h
        refine j_iconst C dL_acts_462 (0 : Int32) (by decide) 463 rfl ?_
        refine j_goto C dL_acts_463 471 (by decide) ?_
        exact j_zret C F dL_acts_471 (by decide) h
      · have h := it_f c h
        refine j_iconst C dL_acts_458 (1 : Int32) (by decide) 459 rfl ?_
        refine j_goto C dL_acts_459 471 (by decide) ?_
        exact j_zret C F dL_acts_471 (by decide) h
  have h := it_f c9 h
  refine j_tableOut C dL_acts_6 (by have n0 := tsw_ne (z := 0) (by decide) c0; have n1 := tsw_ne (z := 1) (by decide) c1; have n2 := tsw_ne (z := 2) (by decide) c2; have n3 := tsw_ne (z := 3) (by decide) c3; have n4 := tsw_ne (z := 4) (by decide) c4; have n5 := tsw_ne (z := 5) (by decide) c5; have n6 := tsw_ne (z := 6) (by decide) c6; have n7 := tsw_ne (z := 7) (by decide) c7; have n8 := tsw_ne (z := 8) (by decide) c8; have n9 := tsw_ne (z := 9) (by decide) c9; omega) 472 (by decide) ?_
  refine j_aload_n C dL_acts_472 rfl 0 rfl 473 rfl ?_
  refine j_iconst C dL_acts_473 (0 : Int32) (by decide) 474 rfl ?_
  obtain ⟨q131, e132, h⟩ := ob_some h
  refine j_callV C (ct_X6_count (eL E) G  (xlv_some e132)) sh81 foX6 rfl vk_X6_count kw2_90 rfl ⟨Nat.le_of_ble_eq_true rfl, Nat.le_of_ble_eq_true rfl, rfl, rfl⟩ ⟨Nat.zero_le _, Nat.zero_le _⟩ (rest := []) rfl (Nat.le_of_ble_eq_true rfl) dL_acts_474 (st1 := [.int q131.2]) rfl 477 rfl ?_
  refine j_bipush C dL_acts_477 (60 : Int32) (by decide) 479 rfl ?_
  refine j_icmp_ne C dL_acts_479 499 (by decide) 482 rfl (fun c => ?_) (fun c => ?_)
  · have h := it_f c h
    refine j_aload_n C dL_acts_499 rfl 0 rfl 500 rfl ?_
    refine j_iload_n C dL_acts_500 rfl 2 rfl 501 rfl ?_
    refine j_bipush C dL_acts_501 (15 : Int32) (by decide) 503 rfl ?_
    refine j_iand C dL_acts_503 504 rfl ?_
    refine j_if_ne C dL_acts_504 521 (by decide) 507 rfl (fun c => ?_) (fun c => ?_)
    · have h := it_f c h
      refine j_iconst C dL_acts_521 (1 : Int32) (by decide) 522 rfl ?_
      refine j_iload_n C dL_acts_522 rfl 2 rfl 523 rfl ?_
      refine j_iconst C dL_acts_523 (4 : Int32) (by decide) 524 rfl ?_
      refine j_ishr C dL_acts_524 525 rfl ?_
      refine j_bipush C dL_acts_525 (7 : Int32) (by decide) 527 rfl ?_
      obtain ⟨q133, e134, h⟩ := ob_some h
      refine j_callS C (ct_L_up (eL E) G  e134) vk_L_up kw2_180 rfl ⟨Nat.le_of_ble_eq_true rfl, Nat.le_of_ble_eq_true rfl, rfl, rfl⟩ ⟨Nat.zero_le _, Nat.zero_le _⟩ (rest := [.int (1 : Int32), .ref (gA G 81)]) rfl (Nat.le_of_ble_eq_true rfl) dL_acts_527 (st1 := [.int q133.2, .int (1 : Int32), .ref (gA G 81)]) rfl 530 rfl ?_
      refine j_iadd C dL_acts_530 531 rfl ?_
      obtain ⟨q135, e136, h⟩ := ob_some h
      refine j_callS C (ct_L_strikes (eL E) G  e136) vk_L_strikes kw4_64 rfl ⟨Nat.le_of_ble_eq_true rfl, Nat.le_of_ble_eq_true rfl, rfl, rfl⟩ ⟨Nat.zero_le _, Nat.zero_le _⟩ (rest := []) rfl (Nat.le_of_ble_eq_true rfl) dL_acts_531 (st1 := [.int q135.2]) rfl 534 rfl ?_
      obtain ⟨hb, h⟩ := if_some h
      exact j_zret C F dL_acts_534 hb h
    · have h := it_t c h
      refine j_iconst C dL_acts_507 (1 : Int32) (by decide) 508 rfl ?_
      refine j_iload_n C dL_acts_508 rfl 2 rfl 509 rfl ?_
      refine j_iconst C dL_acts_509 (4 : Int32) (by decide) 510 rfl ?_
      refine j_ishr C dL_acts_510 511 rfl ?_
      refine j_sipush C dL_acts_511 (1023 : Int32) (by decide) 514 rfl ?_
      obtain ⟨q137, e138, h⟩ := ob_some h
      refine j_callS C (ct_L_up (eL E) G  e138) vk_L_up kw2_180 rfl ⟨Nat.le_of_ble_eq_true rfl, Nat.le_of_ble_eq_true rfl, rfl, rfl⟩ ⟨Nat.zero_le _, Nat.zero_le _⟩ (rest := [.int (1 : Int32), .ref (gA G 81)]) rfl (Nat.le_of_ble_eq_true rfl) dL_acts_514 (st1 := [.int q137.2, .int (1 : Int32), .ref (gA G 81)]) rfl 517 rfl ?_
      refine j_iadd C dL_acts_517 518 rfl ?_
      refine j_goto C dL_acts_518 531 (by decide) ?_
      obtain ⟨q139, e140, h⟩ := ob_some h
      refine j_callS C (ct_L_strikes (eL E) G  e140) vk_L_strikes kw4_64 rfl ⟨Nat.le_of_ble_eq_true rfl, Nat.le_of_ble_eq_true rfl, rfl, rfl⟩ ⟨Nat.zero_le _, Nat.zero_le _⟩ (rest := []) rfl (Nat.le_of_ble_eq_true rfl) dL_acts_531 (st1 := [.int q139.2]) rfl 534 rfl ?_
      obtain ⟨hb, h⟩ := if_some h
      exact j_zret C F dL_acts_534 hb h
  · have h := it_t c h
    refine j_aload_n C dL_acts_482 rfl 0 rfl 483 rfl ?_
    obtain ⟨q141, e142, h⟩ := ob_some h
    refine j_callV C (ct_X6_tear (eL E) G  e142) sh81 foX6 rfl vk_X6_tear kw4_60 rfl ⟨Nat.le_of_ble_eq_true rfl, Nat.le_of_ble_eq_true rfl, rfl, rfl⟩ ⟨Nat.zero_le _, Nat.zero_le _⟩ (rest := []) rfl (Nat.le_of_ble_eq_true rfl) dL_acts_483 (st1 := [.int q141.2]) rfl 486 rfl ?_
    refine j_bipush C dL_acts_486 (60 : Int32) (by decide) 488 rfl ?_
    refine j_icmp_ne C dL_acts_488 495 (by decide) 491 rfl (fun c => ?_) (fun c => ?_)
    · have h := it_f c h
      refine j_iconst C dL_acts_495 (0 : Int32) (by decide) 496 rfl ?_
      refine j_goto C dL_acts_496 534 (by decide) ?_
      exact j_zret C F dL_acts_534 (by decide) h
    · have h := it_t c h
      refine j_iconst C dL_acts_491 (1 : Int32) (by decide) 492 rfl ?_
      refine j_goto C dL_acts_492 534 (by decide) ?_
      exact j_zret C F dL_acts_534 (by decide) h
