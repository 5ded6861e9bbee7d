-- ===== StenoChordsModel.bits(DJJ)J
theorem vk_X7_bits : SK yX7_bits cX7_bits 10 (some .long) 3 := ⟨kw6_13, kw6_12, kw1_9, by decide +kernel⟩
def X7_bits_15 (K : Mem → Int64 → UInt64 → Int64 → Option (Mem × Int64)) : Nat → Mem → Int64 → UInt64 → Int64 → Option (Mem × Int64)
  | 0, _, _, _, _ => none
  | fu + 1, σ, v2, v6, v8 => (if (Op.cmpValue (FP.dcmp v6 (4611686018427387904 : UInt64)) CmpOp.l) < 0 then K σ v2 v6 v8 else (if ((FP.ddiv v6 (4611686018427387904 : UInt64)) &&& 0x7fffffffffffffff ≤ 0x7ff0000000000000) then X7_bits_15 K fu σ v2 (FP.ddiv v6 (4611686018427387904 : UInt64)) (v8 + (1 : Int64)) else none))
set_option maxHeartbeats 4000000 in
set_option maxRecDepth 100000 in
theorem w_X7_bits_15 {E : Ev} {G : Gw} (C : Cx E G RX7 cX7_bits 10 { frames := 0, cells := 0, slots := 0, locals := 0 }) {out : Mem × Int64} (F : Ef E G out.1 (some (.long out.2)) (some .long) 0 0)  {K : Mem → Int64 → UInt64 → Int64 → Option (Mem × Int64)} (hK : ∀ (σ : Mem) (v2 : Int64) (v6 : UInt64) (v8 : Int64), K σ v2 v6 v8 = some out → J E G 10 0 0 σ 41 [(2, .long v2), (6, .double v6), (8, .long v8)] []) : ∀ (fu : Nat) (σ : Mem) (v2 : Int64) (v6 : UInt64) (v8 : Int64), X7_bits_15 K fu σ v2 v6 v8 = some out → J E G 10 0 0 σ 15 [(2, .long v2), (6, .double v6), (8, .long v8)] [] := by
  intro fu
  induction fu with
  | zero => intro σ v2 v6 v8 h; rw [X7_bits_15] at h; cases h
  | succ fu ih =>
    intro σ v2 v6 v8 h
    rw [X7_bits_15] at h
    refine j_dload C dX7_bits_15 1 rfl 17 rfl ?_
    refine j_ldc2d C dX7_bits_17 kw6_14 20 rfl ?_
    refine j_dcmp C dX7_bits_20 21 rfl ?_
    refine j_if_lt C dX7_bits_21 41 (by decide) 24 rfl (fun c => ?_) (fun c => ?_)
    · have h := it_t c h
      exact hK _ _ _ _ h
    · have h := it_f c h
      refine j_dload C dX7_bits_24 1 rfl 26 rfl ?_
      refine j_ldc2d C dX7_bits_26 kw6_14 29 rfl ?_
      obtain ⟨hc, h⟩ := if_some h
      refine j_ddiv C dX7_bits_29 hc 30 rfl ?_
      refine j_dstore C dX7_bits_30 (by decide) [(6, .double (FP.ddiv v6 (4611686018427387904 : UInt64))), (2, .long v2), (8, .long v8)] rfl 32 rfl ?_
      refine j_lload C dX7_bits_32 2 rfl 34 rfl ?_
      refine j_lconst C dX7_bits_34 (1 : Int64) (by decide) 35 rfl ?_
      refine j_ladd C dX7_bits_35 36 rfl ?_
      refine j_lstore C dX7_bits_36 (by decide) [(8, .long (v8 + (1 : Int64))), (6, .double (FP.ddiv v6 (4611686018427387904 : UInt64))), (2, .long v2)] rfl 38 rfl ?_
      refine j_goto C dX7_bits_38 15 (by decide) ?_
      refine j_sub [(2, .long v2), (6, .double (FP.ddiv v6 (4611686018427387904 : UInt64))), (8, .long (v8 + (1 : Int64)))] [2, 1, 0] rfl ?_
      exact ih _ _ _ _ h
def X7_bits_41 (K : Mem → Int64 → UInt64 → Int64 → Option (Mem × Int64)) : Nat → Mem → Int64 → UInt64 → Int64 → Option (Mem × Int64)
  | 0, _, _, _, _ => none
  | fu + 1, σ, v2, v6, v8 => (if 0 ≤ (Op.cmpValue (FP.dcmp v6 FP.dconst1) CmpOp.g) then K σ v2 v6 v8 else (if ((FP.dmul v6 (4611686018427387904 : UInt64)) &&& 0x7fffffffffffffff ≤ 0x7ff0000000000000) then X7_bits_41 K fu σ v2 (FP.dmul v6 (4611686018427387904 : UInt64)) (v8 - (1 : Int64)) else none))
set_option maxHeartbeats 4000000 in
set_option maxRecDepth 100000 in
theorem w_X7_bits_41 {E : Ev} {G : Gw} (C : Cx E G RX7 cX7_bits 10 { frames := 0, cells := 0, slots := 0, locals := 0 }) {out : Mem × Int64} (F : Ef E G out.1 (some (.long out.2)) (some .long) 0 0)  {K : Mem → Int64 → UInt64 → Int64 → Option (Mem × Int64)} (hK : ∀ (σ : Mem) (v2 : Int64) (v6 : UInt64) (v8 : Int64), K σ v2 v6 v8 = some out → J E G 10 0 0 σ 65 [(2, .long v2), (6, .double v6), (8, .long v8)] []) : ∀ (fu : Nat) (σ : Mem) (v2 : Int64) (v6 : UInt64) (v8 : Int64), X7_bits_41 K fu σ v2 v6 v8 = some out → J E G 10 0 0 σ 41 [(2, .long v2), (6, .double v6), (8, .long v8)] [] := by
  intro fu
  induction fu with
  | zero => intro σ v2 v6 v8 h; rw [X7_bits_41] at h; cases h
  | succ fu ih =>
    intro σ v2 v6 v8 h
    rw [X7_bits_41] at h
    refine j_dload C dX7_bits_41 1 rfl 43 rfl ?_
    refine j_dconst1 C dX7_bits_43 44 rfl ?_
    refine j_dcmp C dX7_bits_44 45 rfl ?_
    refine j_if_ge C dX7_bits_45 65 (by decide) 48 rfl (fun c => ?_) (fun c => ?_)
    · have h := it_t c h
      exact hK _ _ _ _ h
    · have h := it_f c h
      refine j_dload C dX7_bits_48 1 rfl 50 rfl ?_
      refine j_ldc2d C dX7_bits_50 kw6_14 53 rfl ?_
      obtain ⟨hc, h⟩ := if_some h
      refine j_dmul C dX7_bits_53 hc 54 rfl ?_
      refine j_dstore C dX7_bits_54 (by decide) [(6, .double (FP.dmul v6 (4611686018427387904 : UInt64))), (2, .long v2), (8, .long v8)] rfl 56 rfl ?_
      refine j_lload C dX7_bits_56 2 rfl 58 rfl ?_
      refine j_lconst C dX7_bits_58 (1 : Int64) (by decide) 59 rfl ?_
      refine j_lsub C dX7_bits_59 60 rfl ?_
      refine j_lstore C dX7_bits_60 (by decide) [(8, .long (v8 - (1 : Int64))), (6, .double (FP.dmul v6 (4611686018427387904 : UInt64))), (2, .long v2)] rfl 62 rfl ?_
      refine j_goto C dX7_bits_62 41 (by decide) ?_
      refine j_sub [(2, .long v2), (6, .double (FP.dmul v6 (4611686018427387904 : UInt64))), (8, .long (v8 - (1 : Int64)))] [2, 1, 0] rfl ?_
      exact ih _ _ _ _ h
def X7_bits (σ : Mem) (p0 : UInt64) (p2 : Int64) (p4 : Int64) : Option (Mem × Int64) :=
  (if (Op.cmpValue (FP.dcmp p0 FP.dconst0) CmpOp.l) = 0 then some (σ, (0 : Int64)) else X7_bits_15 (fun (σ : Mem) (v2 : Int64) (v6 : UInt64) (v8 : Int64) => X7_bits_41 (fun (σ : Mem) (v2 : Int64) (v6 : UInt64) (v8 : Int64) => (if ((FP.dsub v6 FP.dconst1) &&& 0x7fffffffffffffff ≤ 0x7ff0000000000000) then (if ((FP.dmul (FP.dsub v6 FP.dconst1) (FP.l2d v2)) &&& 0x7fffffffffffffff ≤ 0x7ff0000000000000) then some (σ, ((v8 * v2) + (FP.d2l (FP.dmul (FP.dsub v6 FP.dconst1) (FP.l2d v2))))) else none) else none)) FU σ v2 v6 v8) FU σ p2 p0 p4)
set_option maxHeartbeats 4000000 in
set_option maxRecDepth 100000 in
theorem ct_X7_bits (l : Launch) (G : Gw)  {σ : Mem} {p0 : UInt64} {p2 : Int64} {p4 : Int64} {out : Mem × Int64} (h : X7_bits σ p0 p2 p4 = some out) : Ct l G yX7_bits cX7_bits 10 (some .long) { frames := 0, cells := 0, slots := 0, locals := 0 } [.double p0, .long p2, .long p4] σ out.1 (some (.long out.2)) := by
  refine Ct.of (by decide +kernel) (Nat.le_of_ble_eq_true rfl) (fun E hE C F => ?_)
  subst hE
  have C : Cx E G RX7 cX7_bits 10 { frames := 0, cells := 0, slots := 0, locals := 0 } := C
  unfold X7_bits at h
  show J E G 10 0 0 σ 0 [(0, .double p0), (2, .long p2), (4, .long p4)] []
  refine j_dload_n C dX7_bits_0 rfl 0 rfl 1 rfl ?_
  refine j_dconst0 C dX7_bits_1 2 rfl ?_
  refine j_dcmp C dX7_bits_2 3 rfl ?_
  refine j_if_ne C dX7_bits_3 8 (by decide) 6 rfl (fun c => ?_) (fun c => ?_)
  · have h := it_f c h
    refine j_dload_n C dX7_bits_8 rfl 0 rfl 9 rfl ?_
    refine j_dstore C dX7_bits_9 (by decide) [(6, .double p0), (0, .double p0), (2, .long p2), (4, .long p4)] rfl 11 rfl ?_
    refine j_lload C dX7_bits_11 3 rfl 13 rfl ?_
    refine j_lstore C dX7_bits_13 (by decide) [(8, .long p4), (6, .double p0), (0, .double p0), (2, .long p2), (4, .long p4)] rfl 15 rfl ?_
    refine j_sub [(2, .long p2), (6, .double p0), (8, .long p4)] [3, 1, 0] rfl ?_
    refine w_X7_bits_15 C F  (fun σ v2 v6 v8 h => ?_) FU _ _ _ _ h
    refine w_X7_bits_41 C F  (fun σ v2 v6 v8 h => ?_) FU _ _ _ _ h
    refine j_lload C dX7_bits_65 2 rfl 67 rfl ?_
    refine j_lload_n C dX7_bits_67 rfl 0 rfl 68 rfl ?_
    refine j_lmul C dX7_bits_68 69 rfl ?_
    refine j_dload C dX7_bits_69 1 rfl 71 rfl ?_
    refine j_dconst1 C dX7_bits_71 72 rfl ?_
    obtain ⟨hc, h⟩ := if_some h
    refine j_dsub C dX7_bits_72 hc 73 rfl ?_
    refine j_lload_n C dX7_bits_73 rfl 0 rfl 74 rfl ?_
    refine j_l2d C dX7_bits_74 75 rfl ?_
    obtain ⟨hc, h⟩ := if_some h
    refine j_dmul C dX7_bits_75 hc 76 rfl ?_
    refine j_d2l C dX7_bits_76 77 rfl ?_
    refine j_ladd C dX7_bits_77 78 rfl ?_
    exact j_lret C F dX7_bits_78 h
  · have h := it_t c h
    refine j_lconst C dX7_bits_6 (0 : Int64) (by decide) 7 rfl ?_
    exact j_lret C F dX7_bits_7 h

-- ===== StenoChordsModel.digest()J
theorem vk_X7_digest : VK yX7_digest cX7_digest 2 (some .long) 0 := ⟨kw6_2, kw6_0, kw6_1, kw1_9, by decide +kernel⟩
def X7_digest_18 (K : Mem → Option (Mem × Int64)) : Nat → Mem → Int32 → Option (Mem × Int64)
  | 0, _, _ => none
  | fu + 1, σ, v1 => (if (10 : Int32) ≤ v1 then K σ else ((X7_counted σ v1).bind fun q7 => ((X7_mix q7.1 q7.2.toInt64).bind fun q9 => X7_digest_18 K fu q9.1 (v1 + (1 : Int32)))))
set_option maxHeartbeats 4000000 in
set_option maxRecDepth 100000 in
theorem w_X7_digest_18 {E : Ev} {G : Gw} (C : Cx E G RX7 cX7_digest 2 { frames := 7, cells := 0, slots := 0, locals := 162 }) {out : Mem × Int64} (F : Ef E G out.1 (some (.long out.2)) (some .long) 0 0)  {K : Mem → Option (Mem × Int64)} (hK : ∀ (σ : Mem) , K σ  = some out → J E G 2 0 0 σ 40 [(0, .ref (gA G 82))] []) : ∀ (fu : Nat) (σ : Mem) (v1 : Int32), X7_digest_18 K fu σ v1 = some out → J E G 2 0 0 σ 18 [(0, .ref (gA G 82)), (1, .int v1)] [] := by
  intro fu
  induction fu with
  | zero => intro σ v1 h; rw [X7_digest_18] at h; cases h
  | succ fu ih =>
    intro σ v1 h
    rw [X7_digest_18] at h
    refine j_iload_n C dX7_digest_18 rfl 1 rfl 19 rfl ?_
    refine j_bipush C dX7_digest_19 (10 : Int32) (by decide) 21 rfl ?_
    refine j_icmp_ge C dX7_digest_21 40 (by decide) 24 rfl (fun c => ?_) (fun c => ?_)
    · have h := it_t c h
      refine j_sub [(0, .ref (gA G 82))] [0] rfl ?_
      exact hK _ h
    · have h := it_f c h
      refine j_aload_n C dX7_digest_24 rfl 0 rfl 25 rfl ?_
      refine j_aload_n C dX7_digest_25 rfl 0 rfl 26 rfl ?_
      refine j_iload_n C dX7_digest_26 rfl 1 rfl 27 rfl ?_
      obtain ⟨q7, e8, h⟩ := ob_some h
      refine j_callV C (ct_X7_counted (eL E) G  e8) sh82 foX7 rfl vk_X7_counted kw5_167 rfl ⟨Nat.le_of_ble_eq_true rfl, Nat.le_of_ble_eq_true rfl, rfl, rfl⟩ ⟨Nat.zero_le _, Nat.zero_le _⟩ (rest := [.ref (gA G 82)]) rfl (Nat.le_of_ble_eq_true rfl) dX7_digest_27 (st1 := [.int q7.2, .ref (gA G 82)]) rfl 30 rfl ?_
      refine j_i2l C dX7_digest_30 31 rfl ?_
      obtain ⟨q9, e10, h⟩ := ob_some h
      refine j_callV C (ct_X7_mix (eL E) G  e10) sh82 foX7 rfl vk_X7_mix kw6_4 rfl ⟨Nat.le_of_ble_eq_true rfl, Nat.le_of_ble_eq_true rfl, rfl, rfl⟩ ⟨Nat.zero_le _, Nat.zero_le _⟩ (rest := []) rfl (Nat.le_of_ble_eq_true rfl) dX7_digest_31 (st1 := []) rfl 34 rfl ?_
      refine j_iinc C dX7_digest_34 1 rfl (v1 + (1 : Int32)) rfl (by decide) [(1, .int (v1 + (1 : Int32))), (0, .ref (gA G 82))] rfl 37 rfl ?_
      refine j_goto C dX7_digest_37 18 (by decide) ?_
      refine j_sub [(0, .ref (gA G 82)), (1, .int (v1 + (1 : Int32)))] [1, 0] rfl ?_
      exact ih _ _ h
def X7_digest_64 (K : Mem → Option (Mem × Int64)) : Nat → Mem → Int32 → Option (Mem × Int64)
  | 0, _, _ => none
  | fu + 1, σ, v1 => (if (σ.1 83 0) ≤ v1 then K σ else (if inA ((8 : Int32) + v1) 1888 then ((X7_mix σ ((σ.1 83 ((8 : Int32) + v1).toNatClampNeg).toInt64)).bind fun q15 => X7_digest_64 K fu q15.1 (v1 + (1 : Int32))) else none))
set_option maxHeartbeats 4000000 in
set_option maxRecDepth 100000 in
theorem w_X7_digest_64 {E : Ev} {G : Gw} (C : Cx E G RX7 cX7_digest 2 { frames := 7, cells := 0, slots := 0, locals := 162 }) {out : Mem × Int64} (F : Ef E G out.1 (some (.long out.2)) (some .long) 0 0)  {K : Mem → Option (Mem × Int64)} (hK : ∀ (σ : Mem) , K σ  = some out → J E G 2 0 0 σ 94 [(0, .ref (gA G 82))] []) : ∀ (fu : Nat) (σ : Mem) (v1 : Int32), X7_digest_64 K fu σ v1 = some out → J E G 2 0 0 σ 64 [(0, .ref (gA G 82)), (1, .int v1)] [] := by
  intro fu
  induction fu with
  | zero => intro σ v1 h; rw [X7_digest_64] at h; cases h
  | succ fu ih =>
    intro σ v1 h
    rw [X7_digest_64] at h
    refine j_iload_n C dX7_digest_64 rfl 1 rfl 65 rfl ?_
    refine j_aload_n C dX7_digest_65 rfl 0 rfl 66 rfl ?_
    refine j_get C foX7 sh82 1 (by decide) 85 rfl kw4_183 rfl dX7_digest_66 (.ref (gA G 83)) (fv_r rfl) 69 rfl ?_
    refine j_iconst C dX7_digest_69 (0 : Int32) (by decide) 70 rfl ?_
    refine j_iald C sh83 (by decide) dX7_digest_70 0 rfl 71 rfl ?_
    refine j_icmp_ge C dX7_digest_71 94 (by decide) 74 rfl (fun c => ?_) (fun c => ?_)
    · have h := it_t c h
      refine j_sub [(0, .ref (gA G 82))] [0] rfl ?_
      exact hK _ h
    · have h := it_f c h
      refine j_aload_n C dX7_digest_74 rfl 0 rfl 75 rfl ?_
      refine j_aload_n C dX7_digest_75 rfl 0 rfl 76 rfl ?_
      refine j_get C foX7 sh82 1 (by decide) 85 rfl kw4_183 rfl dX7_digest_76 (.ref (gA G 83)) (fv_r rfl) 79 rfl ?_
      refine j_bipush C dX7_digest_79 (8 : Int32) (by decide) 81 rfl ?_
      refine j_iload_n C dX7_digest_81 rfl 1 rfl 82 rfl ?_
      refine j_iadd C dX7_digest_82 83 rfl ?_
      obtain ⟨hc, h⟩ := if_some h
      refine j_iald C sh83 hc dX7_digest_83 ((8 : Int32) + v1).toNatClampNeg rfl 84 rfl ?_
      refine j_i2l C dX7_digest_84 85 rfl ?_
      obtain ⟨q15, e16, h⟩ := ob_some h
      refine j_callV C (ct_X7_mix (eL E) G  e16) sh82 foX7 rfl vk_X7_mix kw6_4 rfl ⟨Nat.le_of_ble_eq_true rfl, Nat.le_of_ble_eq_true rfl, rfl, rfl⟩ ⟨Nat.zero_le _, Nat.zero_le _⟩ (rest := []) rfl (Nat.le_of_ble_eq_true rfl) dX7_digest_85 (st1 := []) rfl 88 rfl ?_
      refine j_iinc C dX7_digest_88 1 rfl (v1 + (1 : Int32)) rfl (by decide) [(1, .int (v1 + (1 : Int32))), (0, .ref (gA G 82))] rfl 91 rfl ?_
      refine j_goto C dX7_digest_91 64 (by decide) ?_
      refine j_sub [(0, .ref (gA G 82)), (1, .int (v1 + (1 : Int32)))] [1, 0] rfl ?_
      exact ih _ _ h
def X7_digest_96 (K : Mem → Option (Mem × Int64)) : Nat → Mem → Int32 → Option (Mem × Int64)
  | 0, _, _ => none
  | fu + 1, σ, v1 => (if ((5 : Int32) * (σ.1 82 14)) ≤ v1 then K σ else ((X7_ofItem σ (v1 / (5 : Int32)) (v1 - v1 / (5 : Int32) * (5 : Int32))).bind fun q17 => ((X7_mix q17.1 q17.2.toInt64).bind fun q19 => X7_digest_96 K fu q19.1 (v1 + (1 : Int32)))))
set_option maxHeartbeats 4000000 in
set_option maxRecDepth 100000 in
theorem w_X7_digest_96 {E : Ev} {G : Gw} (C : Cx E G RX7 cX7_digest 2 { frames := 7, cells := 0, slots := 0, locals := 162 }) {out : Mem × Int64} (F : Ef E G out.1 (some (.long out.2)) (some .long) 0 0)  {K : Mem → Option (Mem × Int64)} (hK : ∀ (σ : Mem) , K σ  = some out → J E G 2 0 0 σ 127 [(0, .ref (gA G 82))] []) : ∀ (fu : Nat) (σ : Mem) (v1 : Int32), X7_digest_96 K fu σ v1 = some out → J E G 2 0 0 σ 96 [(0, .ref (gA G 82)), (1, .int v1)] [] := by
  intro fu
  induction fu with
  | zero => intro σ v1 h; rw [X7_digest_96] at h; cases h
  | succ fu ih =>
    intro σ v1 h
    rw [X7_digest_96] at h
    refine j_iload_n C dX7_digest_96 rfl 1 rfl 97 rfl ?_
    refine j_iconst C dX7_digest_97 (5 : Int32) (by decide) 98 rfl ?_
    refine j_aload_n C dX7_digest_98 rfl 0 rfl 99 rfl ?_
    refine j_get C foX7 sh82 14 (by decide) 0 rfl kw4_196 rfl dX7_digest_99 (.int (σ.1 82 14)) rfl 102 rfl ?_
    refine j_imul C dX7_digest_102 103 rfl ?_
    refine j_icmp_ge C dX7_digest_103 127 (by decide) 106 rfl (fun c => ?_) (fun c => ?_)
    · have h := it_t c h
      refine j_sub [(0, .ref (gA G 82))] [0] rfl ?_
      exact hK _ h
    · have h := it_f c h
      refine j_aload_n C dX7_digest_106 rfl 0 rfl 107 rfl ?_
      refine j_aload_n C dX7_digest_107 rfl 0 rfl 108 rfl ?_
      refine j_iload_n C dX7_digest_108 rfl 1 rfl 109 rfl ?_
      refine j_iconst C dX7_digest_109 (5 : Int32) (by decide) 110 rfl ?_
      refine j_idiv C dX7_digest_110 (by decide) 111 rfl ?_
      refine j_iload_n C dX7_digest_111 rfl 1 rfl 112 rfl ?_
      refine j_iconst C dX7_digest_112 (5 : Int32) (by decide) 113 rfl ?_
      refine j_irem C dX7_digest_113 (by decide) 114 rfl ?_
      obtain ⟨q17, e18, h⟩ := ob_some h
      refine j_callV C (ct_X7_ofItem (eL E) G  e18) sh82 foX7 rfl vk_X7_ofItem kw5_139 rfl ⟨Nat.le_of_ble_eq_true rfl, Nat.le_of_ble_eq_true rfl, rfl, rfl⟩ ⟨Nat.zero_le _, Nat.zero_le _⟩ (rest := [.ref (gA G 82)]) rfl (Nat.le_of_ble_eq_true rfl) dX7_digest_114 (st1 := [.int q17.2, .ref (gA G 82)]) rfl 117 rfl ?_
      refine j_i2l C dX7_digest_117 118 rfl ?_
      obtain ⟨q19, e20, h⟩ := ob_some h
      refine j_callV C (ct_X7_mix (eL E) G  e20) sh82 foX7 rfl vk_X7_mix kw6_4 rfl ⟨Nat.le_of_ble_eq_true rfl, Nat.le_of_ble_eq_true rfl, rfl, rfl⟩ ⟨Nat.zero_le _, Nat.zero_le _⟩ (rest := []) rfl (Nat.le_of_ble_eq_true rfl) dX7_digest_118 (st1 := []) rfl 121 rfl ?_
      refine j_iinc C dX7_digest_121 1 rfl (v1 + (1 : Int32)) rfl (by decide) [(1, .int (v1 + (1 : Int32))), (0, .ref (gA G 82))] rfl 124 rfl ?_
      refine j_goto C dX7_digest_124 96 (by decide) ?_
      refine j_sub [(0, .ref (gA G 82)), (1, .int (v1 + (1 : Int32)))] [1, 0] rfl ?_
      exact ih _ _ h
def X7_digest_129 (K : Mem → Option (Mem × Int64)) : Nat → Mem → Int32 → Option (Mem × Int64)
  | 0, _, _ => none
  | fu + 1, σ, v1 => (if ((10 : Int32) * (σ.1 83 1)) ≤ v1 then K σ else ((X7_ofEntry σ (v1 / (10 : Int32)) (v1 - v1 / (10 : Int32) * (10 : Int32))).bind fun q21 => ((X7_mix q21.1 q21.2.toInt64).bind fun q23 => X7_digest_129 K fu q23.1 (v1 + (1 : Int32)))))
set_option maxHeartbeats 4000000 in
set_option maxRecDepth 100000 in
theorem w_X7_digest_129 {E : Ev} {G : Gw} (C : Cx E G RX7 cX7_digest 2 { frames := 7, cells := 0, slots := 0, locals := 162 }) {out : Mem × Int64} (F : Ef E G out.1 (some (.long out.2)) (some .long) 0 0)  {K : Mem → Option (Mem × Int64)} (hK : ∀ (σ : Mem) , K σ  = some out → J E G 2 0 0 σ 165 [(0, .ref (gA G 82))] []) : ∀ (fu : Nat) (σ : Mem) (v1 : Int32), X7_digest_129 K fu σ v1 = some out → J E G 2 0 0 σ 129 [(0, .ref (gA G 82)), (1, .int v1)] [] := by
  intro fu
  induction fu with
  | zero => intro σ v1 h; rw [X7_digest_129] at h; cases h
  | succ fu ih =>
    intro σ v1 h
    rw [X7_digest_129] at h
    refine j_iload_n C dX7_digest_129 rfl 1 rfl 130 rfl ?_
    refine j_bipush C dX7_digest_130 (10 : Int32) (by decide) 132 rfl ?_
    refine j_aload_n C dX7_digest_132 rfl 0 rfl 133 rfl ?_
    refine j_get C foX7 sh82 1 (by decide) 85 rfl kw4_183 rfl dX7_digest_133 (.ref (gA G 83)) (fv_r rfl) 136 rfl ?_
    refine j_iconst C dX7_digest_136 (1 : Int32) (by decide) 137 rfl ?_
    refine j_iald C sh83 (by decide) dX7_digest_137 1 rfl 138 rfl ?_
    refine j_imul C dX7_digest_138 139 rfl ?_
    refine j_icmp_ge C dX7_digest_139 165 (by decide) 142 rfl (fun c => ?_) (fun c => ?_)
    · have h := it_t c h
      refine j_sub [(0, .ref (gA G 82))] [0] rfl ?_
      exact hK _ h
    · have h := it_f c h
      refine j_aload_n C dX7_digest_142 rfl 0 rfl 143 rfl ?_
      refine j_aload_n C dX7_digest_143 rfl 0 rfl 144 rfl ?_
      refine j_iload_n C dX7_digest_144 rfl 1 rfl 145 rfl ?_
      refine j_bipush C dX7_digest_145 (10 : Int32) (by decide) 147 rfl ?_
      refine j_idiv C dX7_digest_147 (by decide) 148 rfl ?_
      refine j_iload_n C dX7_digest_148 rfl 1 rfl 149 rfl ?_
      refine j_bipush C dX7_digest_149 (10 : Int32) (by decide) 151 rfl ?_
      refine j_irem C dX7_digest_151 (by decide) 152 rfl ?_
      obtain ⟨q21, e22, h⟩ := ob_some h
      refine j_callV C (ct_X7_ofEntry (eL E) G  e22) sh82 foX7 rfl vk_X7_ofEntry kw5_151 rfl ⟨Nat.le_of_ble_eq_true rfl, Nat.le_of_ble_eq_true rfl, rfl, rfl⟩ ⟨Nat.zero_le _, Nat.zero_le _⟩ (rest := [.ref (gA G 82)]) rfl (Nat.le_of_ble_eq_true rfl) dX7_digest_152 (st1 := [.int q21.2, .ref (gA G 82)]) rfl 155 rfl ?_
      refine j_i2l C dX7_digest_155 156 rfl ?_
      obtain ⟨q23, e24, h⟩ := ob_some h
      refine j_callV C (ct_X7_mix (eL E) G  e24) sh82 foX7 rfl vk_X7_mix kw6_4 rfl ⟨Nat.le_of_ble_eq_true rfl, Nat.le_of_ble_eq_true rfl, rfl, rfl⟩ ⟨Nat.zero_le _, Nat.zero_le _⟩ (rest := []) rfl (Nat.le_of_ble_eq_true rfl) dX7_digest_156 (st1 := []) rfl 159 rfl ?_
      refine j_iinc C dX7_digest_159 1 rfl (v1 + (1 : Int32)) rfl (by decide) [(1, .int (v1 + (1 : Int32))), (0, .ref (gA G 82))] rfl 162 rfl ?_
      refine j_goto C dX7_digest_162 129 (by decide) ?_
      refine j_sub [(0, .ref (gA G 82)), (1, .int (v1 + (1 : Int32)))] [1, 0] rfl ?_
      exact ih _ _ h
def X7_digest_167 (K : Mem → Option (Mem × Int64)) : Nat → Mem → Int32 → Option (Mem × Int64)
  | 0, _, _ => none
  | fu + 1, σ, v1 => (if (4 : Int32) ≤ v1 then K σ else ((X7_begins σ v1).bind fun q25 => ((X7_mix q25.1 q25.2.toInt64).bind fun q27 => X7_digest_167 K fu q27.1 (v1 + (1 : Int32)))))
set_option maxHeartbeats 4000000 in
set_option maxRecDepth 100000 in
theorem w_X7_digest_167 {E : Ev} {G : Gw} (C : Cx E G RX7 cX7_digest 2 { frames := 7, cells := 0, slots := 0, locals := 162 }) {out : Mem × Int64} (F : Ef E G out.1 (some (.long out.2)) (some .long) 0 0)  {K : Mem → Option (Mem × Int64)} (hK : ∀ (σ : Mem) , K σ  = some out → J E G 2 0 0 σ 188 [(0, .ref (gA G 82))] []) : ∀ (fu : Nat) (σ : Mem) (v1 : Int32), X7_digest_167 K fu σ v1 = some out → J E G 2 0 0 σ 167 [(0, .ref (gA G 82)), (1, .int v1)] [] := by
  intro fu
  induction fu with
  | zero => intro σ v1 h; rw [X7_digest_167] at h; cases h
  | succ fu ih =>
    intro σ v1 h
    rw [X7_digest_167] at h
    refine j_iload_n C dX7_digest_167 rfl 1 rfl 168 rfl ?_
    refine j_iconst C dX7_digest_168 (4 : Int32) (by decide) 169 rfl ?_
    refine j_icmp_ge C dX7_digest_169 188 (by decide) 172 rfl (fun c => ?_) (fun c => ?_)
    · have h := it_t c h
      refine j_sub [(0, .ref (gA G 82))] [0] rfl ?_
      exact hK _ h
    · have h := it_f c h
      refine j_aload_n C dX7_digest_172 rfl 0 rfl 173 rfl ?_
      refine j_aload_n C dX7_digest_173 rfl 0 rfl 174 rfl ?_
      refine j_iload_n C dX7_digest_174 rfl 1 rfl 175 rfl ?_
      obtain ⟨q25, e26, h⟩ := ob_some h
      refine j_callV C (ct_X7_begins (eL E) G  e26) sh82 foX7 rfl vk_X7_begins kw5_187 rfl ⟨Nat.le_of_ble_eq_true rfl, Nat.le_of_ble_eq_true rfl, rfl, rfl⟩ ⟨Nat.zero_le _, Nat.zero_le _⟩ (rest := [.ref (gA G 82)]) rfl (Nat.le_of_ble_eq_true rfl) dX7_digest_175 (st1 := [.int q25.2, .ref (gA G 82)]) rfl 178 rfl ?_
      refine j_i2l C dX7_digest_178 179 rfl ?_
      obtain ⟨q27, e28, h⟩ := ob_some h
      refine j_callV C (ct_X7_mix (eL E) G  e28) sh82 foX7 rfl vk_X7_mix kw6_4 rfl ⟨Nat.le_of_ble_eq_true rfl, Nat.le_of_ble_eq_true rfl, rfl, rfl⟩ ⟨Nat.zero_le _, Nat.zero_le _⟩ (rest := []) rfl (Nat.le_of_ble_eq_true rfl) dX7_digest_179 (st1 := []) rfl 182 rfl ?_
      refine j_iinc C dX7_digest_182 1 rfl (v1 + (1 : Int32)) rfl (by decide) [(1, .int (v1 + (1 : Int32))), (0, .ref (gA G 82))] rfl 185 rfl ?_
      refine j_goto C dX7_digest_185 167 (by decide) ?_
      refine j_sub [(0, .ref (gA G 82)), (1, .int (v1 + (1 : Int32)))] [1, 0] rfl ?_
      exact ih _ _ h
def X7_digest_190 (K : Mem → Option (Mem × Int64)) : Nat → Mem → Int32 → Option (Mem × Int64)
  | 0, _, _ => none
  | fu + 1, σ, v1 => (if (3 : Int32) ≤ v1 then K σ else ((X7_struck σ (1 : Int32) v1).bind fun q29 => ((X7_mix q29.1 q29.2.toInt64).bind fun q31 => X7_digest_190 K fu q31.1 (v1 + (1 : Int32)))))
set_option maxHeartbeats 4000000 in
set_option maxRecDepth 100000 in
theorem w_X7_digest_190 {E : Ev} {G : Gw} (C : Cx E G RX7 cX7_digest 2 { frames := 7, cells := 0, slots := 0, locals := 162 }) {out : Mem × Int64} (F : Ef E G out.1 (some (.long out.2)) (some .long) 0 0)  {K : Mem → Option (Mem × Int64)} (hK : ∀ (σ : Mem) , K σ  = some out → J E G 2 0 0 σ 212 [(0, .ref (gA G 82))] []) : ∀ (fu : Nat) (σ : Mem) (v1 : Int32), X7_digest_190 K fu σ v1 = some out → J E G 2 0 0 σ 190 [(0, .ref (gA G 82)), (1, .int v1)] [] := by
  intro fu
  induction fu with
  | zero => intro σ v1 h; rw [X7_digest_190] at h; cases h
  | succ fu ih =>
    intro σ v1 h
    rw [X7_digest_190] at h
    refine j_iload_n C dX7_digest_190 rfl 1 rfl 191 rfl ?_
    refine j_iconst C dX7_digest_191 (3 : Int32) (by decide) 192 rfl ?_
    refine j_icmp_ge C dX7_digest_192 212 (by decide) 195 rfl (fun c => ?_) (fun c => ?_)
    · have h := it_t c h
      refine j_sub [(0, .ref (gA G 82))] [0] rfl ?_
      exact hK _ h
    · have h := it_f c h
      refine j_aload_n C dX7_digest_195 rfl 0 rfl 196 rfl ?_
      refine j_aload_n C dX7_digest_196 rfl 0 rfl 197 rfl ?_
      refine j_iconst C dX7_digest_197 (1 : Int32) (by decide) 198 rfl ?_
      refine j_iload_n C dX7_digest_198 rfl 1 rfl 199 rfl ?_
      obtain ⟨q29, e30, h⟩ := ob_some h
      refine j_callV C (ct_X7_struck (eL E) G  e30) sh82 foX7 rfl vk_X7_struck kw5_179 rfl ⟨Nat.le_of_ble_eq_true rfl, Nat.le_of_ble_eq_true rfl, rfl, rfl⟩ ⟨Nat.zero_le _, Nat.zero_le _⟩ (rest := [.ref (gA G 82)]) rfl (Nat.le_of_ble_eq_true rfl) dX7_digest_199 (st1 := [.int q29.2, .ref (gA G 82)]) rfl 202 rfl ?_
      refine j_i2l C dX7_digest_202 203 rfl ?_
      obtain ⟨q31, e32, h⟩ := ob_some h
      refine j_callV C (ct_X7_mix (eL E) G  e32) sh82 foX7 rfl vk_X7_mix kw6_4 rfl ⟨Nat.le_of_ble_eq_true rfl, Nat.le_of_ble_eq_true rfl, rfl, rfl⟩ ⟨Nat.zero_le _, Nat.zero_le _⟩ (rest := []) rfl (Nat.le_of_ble_eq_true rfl) dX7_digest_203 (st1 := []) rfl 206 rfl ?_
      refine j_iinc C dX7_digest_206 1 rfl (v1 + (1 : Int32)) rfl (by decide) [(1, .int (v1 + (1 : Int32))), (0, .ref (gA G 82))] rfl 209 rfl ?_
      refine j_goto C dX7_digest_209 190 (by decide) ?_
      refine j_sub [(0, .ref (gA G 82)), (1, .int (v1 + (1 : Int32)))] [1, 0] rfl ?_
      exact ih _ _ h
def X7_digest_214 (K : Mem → Option (Mem × Int64)) : Nat → Mem → Int32 → Option (Mem × Int64)
  | 0, _, _ => none
  | fu + 1, σ, v1 => (if (10 : Int32) ≤ v1 then K σ else ((X7_shortestFor σ v1).bind fun q33 => ((X7_mix q33.1 q33.2.toInt64).bind fun q35 => X7_digest_214 K fu q35.1 (v1 + (1 : Int32)))))
set_option maxHeartbeats 4000000 in
set_option maxRecDepth 100000 in
theorem w_X7_digest_214 {E : Ev} {G : Gw} (C : Cx E G RX7 cX7_digest 2 { frames := 7, cells := 0, slots := 0, locals := 162 }) {out : Mem × Int64} (F : Ef E G out.1 (some (.long out.2)) (some .long) 0 0)  {K : Mem → Option (Mem × Int64)} (hK : ∀ (σ : Mem) , K σ  = some out → J E G 2 0 0 σ 236 [(0, .ref (gA G 82))] []) : ∀ (fu : Nat) (σ : Mem) (v1 : Int32), X7_digest_214 K fu σ v1 = some out → J E G 2 0 0 σ 214 [(0, .ref (gA G 82)), (1, .int v1)] [] := by
  intro fu
  induction fu with
  | zero => intro σ v1 h; rw [X7_digest_214] at h; cases h
  | succ fu ih =>
    intro σ v1 h
    rw [X7_digest_214] at h
    refine j_iload_n C dX7_digest_214 rfl 1 rfl 215 rfl ?_
    refine j_bipush C dX7_digest_215 (10 : Int32) (by decide) 217 rfl ?_
    refine j_icmp_ge C dX7_digest_217 236 (by decide) 220 rfl (fun c => ?_) (fun c => ?_)
    · have h := it_t c h
      refine j_sub [(0, .ref (gA G 82))] [0] rfl ?_
      exact hK _ h
    · have h := it_f c h
      refine j_aload_n C dX7_digest_220 rfl 0 rfl 221 rfl ?_
      refine j_aload_n C dX7_digest_221 rfl 0 rfl 222 rfl ?_
      refine j_iload_n C dX7_digest_222 rfl 1 rfl 223 rfl ?_
      obtain ⟨q33, e34, h⟩ := ob_some h
      refine j_callV C (ct_X7_shortestFor (eL E) G  e34) sh82 foX7 rfl vk_X7_shortestFor kw5_195 rfl ⟨Nat.le_of_ble_eq_true rfl, Nat.le_of_ble_eq_true rfl, rfl, rfl⟩ ⟨Nat.zero_le _, Nat.zero_le _⟩ (rest := [.ref (gA G 82)]) rfl (Nat.le_of_ble_eq_true rfl) dX7_digest_223 (st1 := [.int q33.2, .ref (gA G 82)]) rfl 226 rfl ?_
      refine j_i2l C dX7_digest_226 227 rfl ?_
      obtain ⟨q35, e36, h⟩ := ob_some h
      refine j_callV C (ct_X7_mix (eL E) G  e36) sh82 foX7 rfl vk_X7_mix kw6_4 rfl ⟨Nat.le_of_ble_eq_true rfl, Nat.le_of_ble_eq_true rfl, rfl, rfl⟩ ⟨Nat.zero_le _, Nat.zero_le _⟩ (rest := []) rfl (Nat.le_of_ble_eq_true rfl) dX7_digest_227 (st1 := []) rfl 230 rfl ?_
      refine j_iinc C dX7_digest_230 1 rfl (v1 + (1 : Int32)) rfl (by decide) [(1, .int (v1 + (1 : Int32))), (0, .ref (gA G 82))] rfl 233 rfl ?_
      refine j_goto C dX7_digest_233 214 (by decide) ?_
      refine j_sub [(0, .ref (gA G 82)), (1, .int (v1 + (1 : Int32)))] [1, 0] rfl ?_
      exact ih _ _ h
def X7_digest_316 (K : Mem → Option (Mem × Int64)) : Nat → Mem → Int32 → Option (Mem × Int64)
  | 0, _, _ => none
  | fu + 1, σ, v1 => (if (σ.1 82 5) ≤ v1 then K σ else (if inA v1 60 then ((X7_mix σ ((σ.1 84 v1.toNatClampNeg).toInt64)).bind fun q61 => X7_digest_316 K fu q61.1 (v1 + (1 : Int32))) else none))
set_option maxHeartbeats 4000000 in
set_option maxRecDepth 100000 in
theorem w_X7_digest_316 {E : Ev} {G : Gw} (C : Cx E G RX7 cX7_digest 2 { frames := 7, cells := 0, slots := 0, locals := 162 }) {out : Mem × Int64} (F : Ef E G out.1 (some (.long out.2)) (some .long) 0 0)  {K : Mem → Option (Mem × Int64)} (hK : ∀ (σ : Mem) , K σ  = some out → J E G 2 0 0 σ 341 [(0, .ref (gA G 82))] []) : ∀ (fu : Nat) (σ : Mem) (v1 : Int32), X7_digest_316 K fu σ v1 = some out → J E G 2 0 0 σ 316 [(0, .ref (gA G 82)), (1, .int v1)] [] := by
  intro fu
  induction fu with
  | zero => intro σ v1 h; rw [X7_digest_316] at h; cases h
  | succ fu ih =>
    intro σ v1 h
    rw [X7_digest_316] at h
    refine j_iload_n C dX7_digest_316 rfl 1 rfl 317 rfl ?_
    refine j_aload_n C dX7_digest_317 rfl 0 rfl 318 rfl ?_
    refine j_get C foX7 sh82 5 (by decide) 0 rfl kw4_187 rfl dX7_digest_318 (.int (σ.1 82 5)) rfl 321 rfl ?_
    refine j_icmp_ge C dX7_digest_321 341 (by decide) 324 rfl (fun c => ?_) (fun c => ?_)
    · have h := it_t c h
      refine j_sub [(0, .ref (gA G 82))] [0] rfl ?_
      exact hK _ h
    · have h := it_f c h
      refine j_aload_n C dX7_digest_324 rfl 0 rfl 325 rfl ?_
      refine j_aload_n C dX7_digest_325 rfl 0 rfl 326 rfl ?_
      refine j_get C foX7 sh82 4 (by decide) 86 rfl kw4_186 rfl dX7_digest_326 (.ref (gA G 84)) (fv_r rfl) 329 rfl ?_
      refine j_iload_n C dX7_digest_329 rfl 1 rfl 330 rfl ?_
      obtain ⟨hc, h⟩ := if_some h
      refine j_iald C sh84 hc dX7_digest_330 v1.toNatClampNeg rfl 331 rfl ?_
      refine j_i2l C dX7_digest_331 332 rfl ?_
      obtain ⟨q61, e62, h⟩ := ob_some h
      refine j_callV C (ct_X7_mix (eL E) G  e62) sh82 foX7 rfl vk_X7_mix kw6_4 rfl ⟨Nat.le_of_ble_eq_true rfl, Nat.le_of_ble_eq_true rfl, rfl, rfl⟩ ⟨Nat.zero_le _, Nat.zero_le _⟩ (rest := []) rfl (Nat.le_of_ble_eq_true rfl) dX7_digest_332 (st1 := []) rfl 335 rfl ?_
      refine j_iinc C dX7_digest_335 1 rfl (v1 + (1 : Int32)) rfl (by decide) [(1, .int (v1 + (1 : Int32))), (0, .ref (gA G 82))] rfl 338 rfl ?_
      refine j_goto C dX7_digest_338 316 (by decide) ?_
      refine j_sub [(0, .ref (gA G 82)), (1, .int (v1 + (1 : Int32)))] [1, 0] rfl ?_
      exact ih _ _ h
def X7_digest (σ : Mem) : Option (Mem × Int64) :=
  ((some (setI σ 82 0 (0 : Int32))).bind fun σ1 => ((some (setL σ1 82 16 (3643 : Int64))).bind fun σ3 => ((X7_readsPaper σ3).bind fun q5 => X7_digest_18 (fun (σ : Mem)  => ((X7_mix σ ((σ.1 83 2).toInt64)).bind fun q11 => ((X7_mix q11.1 ((q11.1.1 83 3).toInt64)).bind fun q13 => X7_digest_64 (fun (σ : Mem)  => X7_digest_96 (fun (σ : Mem)  => X7_digest_129 (fun (σ : Mem)  => X7_digest_167 (fun (σ : Mem)  => X7_digest_190 (fun (σ : Mem)  => X7_digest_214 (fun (σ : Mem)  => ((X7_clashesOf σ).bind fun q37 => ((X7_mix q37.1 q37.2.toInt64).bind fun q39 => ((X7_leastOf q39.1).bind fun q41 => ((X7_mix q41.1 q41.2.toInt64).bind fun q43 => ((X7_share q43.1).bind fun q45 => ((X7_bits q45.1 q45.2 (4503599627370496 : Int64) (1023 : Int64)).bind fun q47 => ((X7_mix q47.1 q47.2).bind fun q49 => ((X7_mean q49.1).bind fun q51 => (if ((FP.f2d q51.2) &&& 0x7fffffffffffffff ≤ 0x7ff0000000000000) then ((X7_bits q51.1 (FP.f2d q51.2) (8388608 : Int64) (127 : Int64)).bind fun q53 => ((X7_mix q53.1 q53.2).bind fun q55 => (if (q55.1.1 82 3) = 0 then ((X7_mix q55.1 (0 : Int64)).bind fun q57 => ((X7_mix q57.1 ((q57.1.1 82 5).toInt64)).bind fun q59 => X7_digest_316 (fun (σ : Mem)  => some (σ, (σ.2 82 16))) FU q59.1 (0 : Int32))) else ((X7_mix q55.1 (1 : Int64)).bind fun q63 => ((X7_mix q63.1 ((q63.1.1 82 5).toInt64)).bind fun q65 => X7_digest_316 (fun (σ : Mem)  => some (σ, (σ.2 82 16))) FU q65.1 (0 : Int32)))))) else none)))))))))) FU σ (0 : Int32)) FU σ (0 : Int32)) FU σ (1 : Int32)) FU σ (0 : Int32)) FU σ (0 : Int32)) FU q13.1 (0 : Int32)))) FU q5.1 (0 : Int32))))
set_option maxHeartbeats 4000000 in
set_option maxRecDepth 100000 in
theorem ct_X7_digest (l : Launch) (G : Gw)  {σ : Mem} {out : Mem × Int64} (h : X7_digest σ = some out) : Ct l G yX7_digest cX7_digest 2 (some .long) { frames := 7, cells := 0, slots := 0, locals := 162 } [.ref (gA G 82)] σ out.1 (some (.long out.2)) := by
  refine Ct.of (by decide +kernel) (Nat.le_of_ble_eq_true rfl) (fun E hE C F => ?_)
  subst hE
  have C : Cx E G RX7 cX7_digest 2 { frames := 7, cells := 0, slots := 0, locals := 162 } := C
  unfold X7_digest at h
  show J E G 2 0 0 σ 0 [(0, .ref (gA G 82))] []
  refine j_aload_n C dX7_digest_0 rfl 0 rfl 1 rfl ?_
  refine j_iconst C dX7_digest_1 (0 : Int32) (by decide) 2 rfl ?_
  obtain ⟨σ1, e2, h⟩ := ob_some h
  refine j_putI C foX7 sh82 0 (by decide) rfl kw4_182 rfl rfl rfl rfl dX7_digest_2 σ1 (Option.some.inj e2) 5 rfl ?_
  refine j_aload_n C dX7_digest_5 rfl 0 rfl 6 rfl ?_
  refine j_ldc2 C dX7_digest_6 kw6_3 9 rfl ?_
  obtain ⟨σ3, e4, h⟩ := ob_some h
  refine j_putL C foX7 sh82 16 (by decide) rfl kw4_198 rfl rfl rfl rfl dX7_digest_9 σ3 (Option.some.inj e4) 12 rfl ?_
  refine j_aload_n C dX7_digest_12 rfl 0 rfl 13 rfl ?_
  obtain ⟨q5, e6, h⟩ := ob_some h
  refine j_callV C (ct_X7_readsPaper (eL E) G  e6) sh82 foX7 rfl vk_X7_readsPaper kw5_28 rfl ⟨Nat.le_of_ble_eq_true rfl, Nat.le_of_ble_eq_true rfl, rfl, rfl⟩ ⟨Nat.zero_le _, Nat.zero_le _⟩ (rest := []) rfl (Nat.le_of_ble_eq_true rfl) dX7_digest_13 (st1 := []) rfl 16 rfl ?_
  refine j_iconst C dX7_digest_16 (0 : Int32) (by decide) 17 rfl ?_
  refine j_istore_n C dX7_digest_17 rfl (by decide) [(1, .int (0 : Int32)), (0, .ref (gA G 82))] rfl 18 rfl ?_
  refine j_sub [(0, .ref (gA G 82)), (1, .int (0 : Int32))] [1, 0] rfl ?_
  refine w_X7_digest_18 C F  (fun σ  h => ?_) FU _ _ h
  refine j_aload_n C dX7_digest_40 rfl 0 rfl 41 rfl ?_
  refine j_aload_n C dX7_digest_41 rfl 0 rfl 42 rfl ?_
  refine j_get C foX7 sh82 1 (by decide) 85 rfl kw4_183 rfl dX7_digest_42 (.ref (gA G 83)) (fv_r rfl) 45 rfl ?_
  refine j_iconst C dX7_digest_45 (2 : Int32) (by decide) 46 rfl ?_
  refine j_iald C sh83 (by decide) dX7_digest_46 2 rfl 47 rfl ?_
  refine j_i2l C dX7_digest_47 48 rfl ?_
  obtain ⟨q11, e12, h⟩ := ob_some h
  refine j_callV C (ct_X7_mix (eL E) G  e12) sh82 foX7 rfl vk_X7_mix kw6_4 rfl ⟨Nat.le_of_ble_eq_true rfl, Nat.le_of_ble_eq_true rfl, rfl, rfl⟩ ⟨Nat.zero_le _, Nat.zero_le _⟩ (rest := []) rfl (Nat.le_of_ble_eq_true rfl) dX7_digest_48 (st1 := []) rfl 51 rfl ?_
  refine j_aload_n C dX7_digest_51 rfl 0 rfl 52 rfl ?_
  refine j_aload_n C dX7_digest_52 rfl 0 rfl 53 rfl ?_
  refine j_get C foX7 sh82 1 (by decide) 85 rfl kw4_183 rfl dX7_digest_53 (.ref (gA G 83)) (fv_r rfl) 56 rfl ?_
  refine j_iconst C dX7_digest_56 (3 : Int32) (by decide) 57 rfl ?_
  refine j_iald C sh83 (by decide) dX7_digest_57 3 rfl 58 rfl ?_
  refine j_i2l C dX7_digest_58 59 rfl ?_
  obtain ⟨q13, e14, h⟩ := ob_some h
  refine j_callV C (ct_X7_mix (eL E) G  e14) sh82 foX7 rfl vk_X7_mix kw6_4 rfl ⟨Nat.le_of_ble_eq_true rfl, Nat.le_of_ble_eq_true rfl, rfl, rfl⟩ ⟨Nat.zero_le _, Nat.zero_le _⟩ (rest := []) rfl (Nat.le_of_ble_eq_true rfl) dX7_digest_59 (st1 := []) rfl 62 rfl ?_
  refine j_iconst C dX7_digest_62 (0 : Int32) (by decide) 63 rfl ?_
  refine j_istore_n C dX7_digest_63 rfl (by decide) [(1, .int (0 : Int32)), (0, .ref (gA G 82))] rfl 64 rfl ?_
  refine j_sub [(0, .ref (gA G 82)), (1, .int (0 : Int32))] [1, 0] rfl ?_
  refine w_X7_digest_64 C F  (fun σ  h => ?_) FU _ _ h
  refine j_iconst C dX7_digest_94 (0 : Int32) (by decide) 95 rfl ?_
  refine j_istore_n C dX7_digest_95 rfl (by decide) [(1, .int (0 : Int32)), (0, .ref (gA G 82))] rfl 96 rfl ?_
  refine j_sub [(0, .ref (gA G 82)), (1, .int (0 : Int32))] [1, 0] rfl ?_
  refine w_X7_digest_96 C F  (fun σ  h => ?_) FU _ _ h
  refine j_iconst C dX7_digest_127 (0 : Int32) (by decide) 128 rfl ?_
  refine j_istore_n C dX7_digest_128 rfl (by decide) [(1, .int (0 : Int32)), (0, .ref (gA G 82))] rfl 129 rfl ?_
  refine j_sub [(0, .ref (gA G 82)), (1, .int (0 : Int32))] [1, 0] rfl ?_
  refine w_X7_digest_129 C F  (fun σ  h => ?_) FU _ _ h
  refine j_iconst C dX7_digest_165 (1 : Int32) (by decide) 166 rfl ?_
  refine j_istore_n C dX7_digest_166 rfl (by decide) [(1, .int (1 : Int32)), (0, .ref (gA G 82))] rfl 167 rfl ?_
  refine j_sub [(0, .ref (gA G 82)), (1, .int (1 : Int32))] [1, 0] rfl ?_
  refine w_X7_digest_167 C F  (fun σ  h => ?_) FU _ _ h
  refine j_iconst C dX7_digest_188 (0 : Int32) (by decide) 189 rfl ?_
  refine j_istore_n C dX7_digest_189 rfl (by decide) [(1, .int (0 : Int32)), (0, .ref (gA G 82))] rfl 190 rfl ?_
  refine j_sub [(0, .ref (gA G 82)), (1, .int (0 : Int32))] [1, 0] rfl ?_
  refine w_X7_digest_190 C F  (fun σ  h => ?_) FU _ _ h
  refine j_iconst C dX7_digest_212 (0 : Int32) (by decide) 213 rfl ?_
  refine j_istore_n C dX7_digest_213 rfl (by decide) [(1, .int (0 : Int32)), (0, .ref (gA G 82))] rfl 214 rfl ?_
  refine j_sub [(0, .ref (gA G 82)), (1, .int (0 : Int32))] [1, 0] rfl ?_
  refine w_X7_digest_214 C F  (fun σ  h => ?_) FU _ _ h
  refine j_aload_n C dX7_digest_236 rfl 0 rfl 237 rfl ?_
  refine j_aload_n C dX7_digest_237 rfl 0 rfl 238 rfl ?_
  obtain ⟨q37, e38, h⟩ := ob_some h
  refine j_callV C (ct_X7_clashesOf (eL E) G  e38) sh82 foX7 rfl vk_X7_clashesOf kw5_211 rfl ⟨Nat.le_of_ble_eq_true rfl, Nat.le_of_ble_eq_true rfl, rfl, rfl⟩ ⟨Nat.zero_le _, Nat.zero_le _⟩ (rest := [.ref (gA G 82)]) rfl (Nat.le_of_ble_eq_true rfl) dX7_digest_238 (st1 := [.int q37.2, .ref (gA G 82)]) rfl 241 rfl ?_
  refine j_i2l C dX7_digest_241 242 rfl ?_
  obtain ⟨q39, e40, h⟩ := ob_some h
  refine j_callV C (ct_X7_mix (eL E) G  e40) sh82 foX7 rfl vk_X7_mix kw6_4 rfl ⟨Nat.le_of_ble_eq_true rfl, Nat.le_of_ble_eq_true rfl, rfl, rfl⟩ ⟨Nat.zero_le _, Nat.zero_le _⟩ (rest := []) rfl (Nat.le_of_ble_eq_true rfl) dX7_digest_242 (st1 := []) rfl 245 rfl ?_
  refine j_aload_n C dX7_digest_245 rfl 0 rfl 246 rfl ?_
  refine j_aload_n C dX7_digest_246 rfl 0 rfl 247 rfl ?_
  obtain ⟨q41, e42, h⟩ := ob_some h
  refine j_callV C (ct_X7_leastOf (eL E) G  e42) sh82 foX7 rfl vk_X7_leastOf kw5_219 rfl ⟨Nat.le_of_ble_eq_true rfl, Nat.le_of_ble_eq_true rfl, rfl, rfl⟩ ⟨Nat.zero_le _, Nat.zero_le _⟩ (rest := [.ref (gA G 82)]) rfl (Nat.le_of_ble_eq_true rfl) dX7_digest_247 (st1 := [.int q41.2, .ref (gA G 82)]) rfl 250 rfl ?_
  refine j_i2l C dX7_digest_250 251 rfl ?_
  obtain ⟨q43, e44, h⟩ := ob_some h
  refine j_callV C (ct_X7_mix (eL E) G  e44) sh82 foX7 rfl vk_X7_mix kw6_4 rfl ⟨Nat.le_of_ble_eq_true rfl, Nat.le_of_ble_eq_true rfl, rfl, rfl⟩ ⟨Nat.zero_le _, Nat.zero_le _⟩ (rest := []) rfl (Nat.le_of_ble_eq_true rfl) dX7_digest_251 (st1 := []) rfl 254 rfl ?_
  refine j_aload_n C dX7_digest_254 rfl 0 rfl 255 rfl ?_
  refine j_aload_n C dX7_digest_255 rfl 0 rfl 256 rfl ?_
  obtain ⟨q45, e46, h⟩ := ob_some h
  refine j_callV C (ct_X7_share (eL E) G  e46) sh82 foX7 rfl vk_X7_share kw5_227 rfl ⟨Nat.le_of_ble_eq_true rfl, Nat.le_of_ble_eq_true rfl, rfl, rfl⟩ ⟨Nat.zero_le _, Nat.zero_le _⟩ (rest := [.ref (gA G 82)]) rfl (Nat.le_of_ble_eq_true rfl) dX7_digest_256 (st1 := [.double q45.2, .ref (gA G 82)]) rfl 259 rfl ?_
  refine j_ldc2 C dX7_digest_259 kw6_9 262 rfl ?_
  refine j_ldc2 C dX7_digest_262 kw6_10 265 rfl ?_
  obtain ⟨q47, e48, h⟩ := ob_some h
  refine j_callS C (ct_X7_bits (eL E) G  e48) vk_X7_bits kw6_11 rfl ⟨Nat.le_of_ble_eq_true rfl, Nat.le_of_ble_eq_true rfl, rfl, rfl⟩ ⟨Nat.zero_le _, Nat.zero_le _⟩ (rest := [.ref (gA G 82)]) rfl (Nat.le_of_ble_eq_true rfl) dX7_digest_265 (st1 := [.long q47.2, .ref (gA G 82)]) rfl 268 rfl ?_
  obtain ⟨q49, e50, h⟩ := ob_some h
  refine j_callV C (ct_X7_mix (eL E) G  e50) sh82 foX7 rfl vk_X7_mix kw6_4 rfl ⟨Nat.le_of_ble_eq_true rfl, Nat.le_of_ble_eq_true rfl, rfl, rfl⟩ ⟨Nat.zero_le _, Nat.zero_le _⟩ (rest := []) rfl (Nat.le_of_ble_eq_true rfl) dX7_digest_268 (st1 := []) rfl 271 rfl ?_
  refine j_aload_n C dX7_digest_271 rfl 0 rfl 272 rfl ?_
  refine j_aload_n C dX7_digest_272 rfl 0 rfl 273 rfl ?_
  obtain ⟨q51, e52, h⟩ := ob_some h
  refine j_callV C (ct_X7_mean (eL E) G  e52) sh82 foX7 rfl vk_X7_mean kw5_235 rfl ⟨Nat.le_of_ble_eq_true rfl, Nat.le_of_ble_eq_true rfl, rfl, rfl⟩ ⟨Nat.zero_le _, Nat.zero_le _⟩ (rest := [.ref (gA G 82)]) rfl (Nat.le_of_ble_eq_true rfl) dX7_digest_273 (st1 := [.float q51.2, .ref (gA G 82)]) rfl 276 rfl ?_
  obtain ⟨hc, h⟩ := if_some h
  refine j_f2d C dX7_digest_276 hc 277 rfl ?_
  refine j_ldc2 C dX7_digest_277 kw6_15 280 rfl ?_
  refine j_ldc2 C dX7_digest_280 kw6_16 283 rfl ?_
  obtain ⟨q53, e54, h⟩ := ob_some h
  refine j_callS C (ct_X7_bits (eL E) G  e54) vk_X7_bits kw6_11 rfl ⟨Nat.le_of_ble_eq_true rfl, Nat.le_of_ble_eq_true rfl, rfl, rfl⟩ ⟨Nat.zero_le _, Nat.zero_le _⟩ (rest := [.ref (gA G 82)]) rfl (Nat.le_of_ble_eq_true rfl) dX7_digest_283 (st1 := [.long q53.2, .ref (gA G 82)]) rfl 286 rfl ?_
  obtain ⟨q55, e56, h⟩ := ob_some h
  refine j_callV C (ct_X7_mix (eL E) G  e56) sh82 foX7 rfl vk_X7_mix kw6_4 rfl ⟨Nat.le_of_ble_eq_true rfl, Nat.le_of_ble_eq_true rfl, rfl, rfl⟩ ⟨Nat.zero_le _, Nat.zero_le _⟩ (rest := []) rfl (Nat.le_of_ble_eq_true rfl) dX7_digest_286 (st1 := []) rfl 289 rfl ?_
  refine j_aload_n C dX7_digest_289 rfl 0 rfl 290 rfl ?_
  refine j_aload_n C dX7_digest_290 rfl 0 rfl 291 rfl ?_
  refine j_get C foX7 sh82 3 (by decide) 0 rfl kw4_185 rfl dX7_digest_291 (.int (q55.1.1 82 3)) rfl 294 rfl ?_
  refine j_if_eq C dX7_digest_294 301 (by decide) 297 rfl (fun c => ?_) (fun c => ?_)
  · have h := it_t c h
    refine j_lconst C dX7_digest_301 (0 : Int64) (by decide) 302 rfl ?_
    obtain ⟨q57, e58, h⟩ := ob_some h
    refine j_callV C (ct_X7_mix (eL E) G  e58) sh82 foX7 rfl vk_X7_mix kw6_4 rfl ⟨Nat.le_of_ble_eq_true rfl, Nat.le_of_ble_eq_true rfl, rfl, rfl⟩ ⟨Nat.zero_le _, Nat.zero_le _⟩ (rest := []) rfl (Nat.le_of_ble_eq_true rfl) dX7_digest_302 (st1 := []) rfl 305 rfl ?_
    refine j_aload_n C dX7_digest_305 rfl 0 rfl 306 rfl ?_
    refine j_aload_n C dX7_digest_306 rfl 0 rfl 307 rfl ?_
    refine j_get C foX7 sh82 5 (by decide) 0 rfl kw4_187 rfl dX7_digest_307 (.int (q57.1.1 82 5)) rfl 310 rfl ?_
    refine j_i2l C dX7_digest_310 311 rfl ?_
    obtain ⟨q59, e60, h⟩ := ob_some h
    refine j_callV C (ct_X7_mix (eL E) G  e60) sh82 foX7 rfl vk_X7_mix kw6_4 rfl ⟨Nat.le_of_ble_eq_true rfl, Nat.le_of_ble_eq_true rfl, rfl, rfl⟩ ⟨Nat.zero_le _, Nat.zero_le _⟩ (rest := []) rfl (Nat.le_of_ble_eq_true rfl) dX7_digest_311 (st1 := []) rfl 314 rfl ?_
    refine j_iconst C dX7_digest_314 (0 : Int32) (by decide) 315 rfl ?_
    refine j_istore_n C dX7_digest_315 rfl (by decide) [(1, .int (0 : Int32)), (0, .ref (gA G 82))] rfl 316 rfl ?_
    refine j_sub [(0, .ref (gA G 82)), (1, .int (0 : Int32))] [1, 0] rfl ?_
    refine w_X7_digest_316 C F  (fun σ  h => ?_) FU _ _ h
    refine j_aload_n C dX7_digest_341 rfl 0 rfl 342 rfl ?_
    refine j_get C foX7 sh82 16 (by decide) 1 rfl kw4_198 rfl dX7_digest_342 (.long (σ.2 82 16)) rfl 345 rfl ?_
    exact j_lret C F dX7_digest_345 h
  · have h := it_f c h
    refine j_lconst C dX7_digest_297 (1 : Int64) (by decide) 298 rfl ?_
    refine j_goto C dX7_digest_298 302 (by decide) ?_
    obtain ⟨q63, e64, h⟩ := ob_some h
    refine j_callV C (ct_X7_mix (eL E) G  e64) sh82 foX7 rfl vk_X7_mix kw6_4 rfl ⟨Nat.le_of_ble_eq_true rfl, Nat.le_of_ble_eq_true rfl, rfl, rfl⟩ ⟨Nat.zero_le _, Nat.zero_le _⟩ (rest := []) rfl (Nat.le_of_ble_eq_true rfl) dX7_digest_302 (st1 := []) rfl 305 rfl ?_
    refine j_aload_n C dX7_digest_305 rfl 0 rfl 306 rfl ?_
    refine j_aload_n C dX7_digest_306 rfl 0 rfl 307 rfl ?_
    refine j_get C foX7 sh82 5 (by decide) 0 rfl kw4_187 rfl dX7_digest_307 (.int (q63.1.1 82 5)) rfl 310 rfl ?_
    refine j_i2l C dX7_digest_310 311 rfl ?_
    obtain ⟨q65, e66, h⟩ := ob_some h
    refine j_callV C (ct_X7_mix (eL E) G  e66) sh82 foX7 rfl vk_X7_mix kw6_4 rfl ⟨Nat.le_of_ble_eq_true rfl, Nat.le_of_ble_eq_true rfl, rfl, rfl⟩ ⟨Nat.zero_le _, Nat.zero_le _⟩ (rest := []) rfl (Nat.le_of_ble_eq_true rfl) dX7_digest_311 (st1 := []) rfl 314 rfl ?_
    refine j_iconst C dX7_digest_314 (0 : Int32) (by decide) 315 rfl ?_
    refine j_istore_n C dX7_digest_315 rfl (by decide) [(1, .int (0 : Int32)), (0, .ref (gA G 82))] rfl 316 rfl ?_
    refine j_sub [(0, .ref (gA G 82)), (1, .int (0 : Int32))] [1, 0] rfl ?_
    refine w_X7_digest_316 C F  (fun σ  h => ?_) FU _ _ h
    refine j_aload_n C dX7_digest_341 rfl 0 rfl 342 rfl ?_
    refine j_get C foX7 sh82 16 (by decide) 1 rfl kw4_198 rfl dX7_digest_342 (.long (σ.2 82 16)) rfl 345 rfl ?_
    exact j_lret C F dX7_digest_345 h
