def L_law_271 (Ls : Nat) (xs : Nat → Int32) (K : Mem → Int32 → Option (Mem × Int32)) (rc : Mem → Int32 → Int32 → Option (Mem × Int32)) (σ : Mem) (v3 : Int32) : Option (Mem × Int32) :=
  rc σ (1 : Int32) (v3 + (1 : Int32))
set_option maxHeartbeats 4000000 in
set_option maxRecDepth 100000 in
theorem w_L_law_271 {E : Ev} {G : Gw} (C : Cx E G RL cL_law 12 room_1) {b Ls : Nat} {xs : Nat → Int32} (hsc : Sc E G b Ls xs) {out : Mem × Int32} (F : RetOk E G out)  {K : Mem → Int32 → Option (Mem × Int32)} (hK : ∀ (σ : Mem) (v2 : Int32), K σ v2 = some out → J E G 12 82 1822 σ 283 [(2, .int v2)] []) {rc : Mem → Int32 → Int32 → Option (Mem × Int32)} (hrc : ∀ (σ : Mem) (v2 : Int32) (v3 : Int32), rc σ v2 v3 = some out → J E G 12 82 1822 σ 30 [(0, .ref b), (1, .ref (gA G 81)), (2, .int v2), (3, .int v3)] []) (σ : Mem) (v3 : Int32) (h : L_law_271 Ls xs K rc σ v3 = some out) : J E G 12 82 1822 σ 271 [(0, .ref b), (1, .ref (gA G 81)), (3, .int v3)] [] := by
  unfold L_law_271 at h
  refine j_iconst C dL_law_271 (1 : Int32) (by decide) 272 rfl ?_
  refine j_goto C dL_law_272 276 (by decide) ?_
  refine j_istore_n C dL_law_276 rfl (by decide) [(2, .int (1 : Int32)), (0, .ref b), (1, .ref (gA G 81)), (3, .int v3)] rfl 277 rfl ?_
  refine j_iinc C dL_law_277 3 rfl (v3 + (1 : Int32)) rfl (by decide) [(3, .int (v3 + (1 : Int32))), (2, .int (1 : Int32)), (0, .ref b), (1, .ref (gA G 81))] rfl 280 rfl ?_
  refine j_goto C dL_law_280 30 (by decide) ?_
  refine j_sub [(0, .ref b), (1, .ref (gA G 81)), (2, .int (1 : Int32)), (3, .int (v3 + (1 : Int32)))] [2, 3, 1, 0] rfl ?_
  exact hrc _ _ _ h
def L_law_250 (Ls : Nat) (xs : Nat → Int32) (K : Mem → Int32 → Option (Mem × Int32)) (rc : Mem → Int32 → Int32 → Option (Mem × Int32)) (σ : Mem) (v3 : Int32) : Option (Mem × Int32) :=
  (if (v3 - v3 / (19 : Int32) * (19 : Int32)) = (12 : Int32) then ((X6_keep σ).bind fun q15 => ((xlv (X6_count q15.1 (0 : Int32))).bind fun q17 => (if q15.2 = q17.2 then L_law_271 Ls xs K rc q17.1 v3 else rc q17.1 (0 : Int32) (v3 + (1 : Int32))))) else L_law_271 Ls xs K rc σ v3)
set_option maxHeartbeats 4000000 in
set_option maxRecDepth 100000 in
theorem w_L_law_250 {E : Ev} {G : Gw} (C : Cx E G RL cL_law 12 room_1) {b Ls : Nat} {xs : Nat → Int32} (hsc : Sc E G b Ls xs) {out : Mem × Int32} (F : RetOk E G out)  {K : Mem → Int32 → Option (Mem × Int32)} (hK : ∀ (σ : Mem) (v2 : Int32), K σ v2 = some out → J E G 12 82 1822 σ 283 [(2, .int v2)] []) {rc : Mem → Int32 → Int32 → Option (Mem × Int32)} (hrc : ∀ (σ : Mem) (v2 : Int32) (v3 : Int32), rc σ v2 v3 = some out → J E G 12 82 1822 σ 30 [(0, .ref b), (1, .ref (gA G 81)), (2, .int v2), (3, .int v3)] []) (σ : Mem) (v3 : Int32) (h : L_law_250 Ls xs K rc σ v3 = some out) : J E G 12 82 1822 σ 250 [(0, .ref b), (1, .ref (gA G 81)), (3, .int v3)] [] := by
  unfold L_law_250 at h
  refine j_iload_n C dL_law_250 rfl 2 rfl 251 rfl ?_
  refine j_bipush C dL_law_251 (19 : Int32) (by decide) 253 rfl ?_
  refine j_irem C dL_law_253 (by decide) 254 rfl ?_
  refine j_bipush C dL_law_254 (12 : Int32) (by decide) 256 rfl ?_
  refine j_icmp_ne C dL_law_256 271 (by decide) 259 rfl (fun c => ?_) (fun c => ?_)
  · have h := it_f c h
    exact w_L_law_271 C hsc F  hK hrc _ _ h
  · have h := it_t c h
    refine j_aload_n C dL_law_259 rfl 1 rfl 260 rfl ?_
    obtain ⟨q15, e16, h⟩ := ob_some h
    refine j_callV C (ct_X6_keep (eL E) G  e16) sh81 foX6 rfl vk_X6_keep kw1_190 rfl ⟨Nat.le_of_ble_eq_true rfl, Nat.le_of_ble_eq_true rfl, rfl, rfl⟩ ⟨Nat.le_of_ble_eq_true rfl, Nat.le_of_ble_eq_true rfl⟩ (rest := []) rfl (Nat.le_of_ble_eq_true rfl) dL_law_260 (st1 := [.int q15.2]) rfl 263 rfl ?_
    refine j_aload_n C dL_law_263 rfl 1 rfl 264 rfl ?_
    refine j_iconst C dL_law_264 (0 : Int32) (by decide) 265 rfl ?_
    obtain ⟨q17, e18, h⟩ := ob_some h
    refine j_callV C (ct_X6_count (eL E) G  (xlv_some e18)) sh81 foX6 rfl vk_X6_count kw2_90 rfl ⟨Nat.le_of_ble_eq_true rfl, Nat.le_of_ble_eq_true rfl, rfl, rfl⟩ ⟨Nat.le_of_ble_eq_true rfl, Nat.le_of_ble_eq_true rfl⟩ (rest := [.int q15.2]) rfl (Nat.le_of_ble_eq_true rfl) dL_law_265 (st1 := [.int q17.2, .int q15.2]) rfl 268 rfl ?_
    refine j_icmp_ne C dL_law_268 275 (by decide) 271 rfl (fun c => ?_) (fun c => ?_)
    · have h := it_f c h
      refine j_iconst C dL_law_275 (0 : Int32) (by decide) 276 rfl ?_
      refine j_istore_n C dL_law_276 rfl (by decide) [(2, .int (0 : Int32)), (0, .ref b), (1, .ref (gA G 81)), (3, .int v3)] rfl 277 rfl ?_
      refine j_iinc C dL_law_277 3 rfl (v3 + (1 : Int32)) rfl (by decide) [(3, .int (v3 + (1 : Int32))), (2, .int (0 : Int32)), (0, .ref b), (1, .ref (gA G 81))] rfl 280 rfl ?_
      refine j_goto C dL_law_280 30 (by decide) ?_
      refine j_sub [(0, .ref b), (1, .ref (gA G 81)), (2, .int (0 : Int32)), (3, .int (v3 + (1 : Int32)))] [2, 3, 1, 0] rfl ?_
      exact hrc _ _ _ h
    · have h := it_t c h
      exact w_L_law_271 C hsc F  hK hrc _ _ h
def L_law_217 (Ls : Nat) (xs : Nat → Int32) (K : Mem → Int32 → Option (Mem × Int32)) (rc : Mem → Int32 → Int32 → Option (Mem × Int32)) (σ : Mem) (v3 : Int32) (v5 : Int32) : Option (Mem × Int32) :=
  (if (v3 - v3 / (5 : Int32) * (5 : Int32)) = (2 : Int32) then ((L_up σ (v5 >>> ((3 : Int32) &&& 31)) (24 : Int32)).bind fun q19 => ((L_up q19.1 (v5 >>> ((8 : Int32) &&& 31)) (24 : Int32)).bind fun q21 => ((L_areBegun q21.1 q19.2 q21.2).bind fun q23 => (if q23.2 = 0 then rc q23.1 (0 : Int32) (v3 + (1 : Int32)) else L_law_250 Ls xs K rc q23.1 v3)))) else L_law_250 Ls xs K rc σ v3)
set_option maxHeartbeats 4000000 in
set_option maxRecDepth 100000 in
theorem w_L_law_217 {E : Ev} {G : Gw} (C : Cx E G RL cL_law 12 room_1) {b Ls : Nat} {xs : Nat → Int32} (hsc : Sc E G b Ls xs) {out : Mem × Int32} (F : RetOk E G out)  {K : Mem → Int32 → Option (Mem × Int32)} (hK : ∀ (σ : Mem) (v2 : Int32), K σ v2 = some out → J E G 12 82 1822 σ 283 [(2, .int v2)] []) {rc : Mem → Int32 → Int32 → Option (Mem × Int32)} (hrc : ∀ (σ : Mem) (v2 : Int32) (v3 : Int32), rc σ v2 v3 = some out → J E G 12 82 1822 σ 30 [(0, .ref b), (1, .ref (gA G 81)), (2, .int v2), (3, .int v3)] []) (σ : Mem) (v3 : Int32) (v5 : Int32) (h : L_law_217 Ls xs K rc σ v3 v5 = some out) : J E G 12 82 1822 σ 217 [(0, .ref b), (1, .ref (gA G 81)), (3, .int v3), (5, .int v5)] [] := by
  unfold L_law_217 at h
  refine j_iload_n C dL_law_217 rfl 2 rfl 218 rfl ?_
  refine j_iconst C dL_law_218 (5 : Int32) (by decide) 219 rfl ?_
  refine j_irem C dL_law_219 (by decide) 220 rfl ?_
  refine j_iconst C dL_law_220 (2 : Int32) (by decide) 221 rfl ?_
  refine j_icmp_ne C dL_law_221 250 (by decide) 224 rfl (fun c => ?_) (fun c => ?_)
  · have h := it_f c h
    refine j_sub [(0, .ref b), (1, .ref (gA G 81)), (3, .int v3)] [0, 1, 2] rfl ?_
    exact w_L_law_250 C hsc F  hK hrc _ _ h
  · have h := it_t c h
    refine j_aload_n C dL_law_224 rfl 1 rfl 225 rfl ?_
    refine j_iload C dL_law_225 3 rfl 227 rfl ?_
    refine j_iconst C dL_law_227 (3 : Int32) (by decide) 228 rfl ?_
    refine j_ishr C dL_law_228 229 rfl ?_
    refine j_bipush C dL_law_229 (24 : Int32) (by decide) 231 rfl ?_
    obtain ⟨q19, e20, h⟩ := ob_some h
    refine j_callS C (ct_L_up (eL E) G  e20) vk_L_up kw2_180 rfl ⟨Nat.le_of_ble_eq_true rfl, Nat.le_of_ble_eq_true rfl, rfl, rfl⟩ ⟨Nat.le_of_ble_eq_true rfl, Nat.le_of_ble_eq_true rfl⟩ (rest := [.ref (gA G 81)]) rfl (Nat.le_of_ble_eq_true rfl) dL_law_231 (st1 := [.int q19.2, .ref (gA G 81)]) rfl 234 rfl ?_
    refine j_iload C dL_law_234 3 rfl 236 rfl ?_
    refine j_bipush C dL_law_236 (8 : Int32) (by decide) 238 rfl ?_
    refine j_ishr C dL_law_238 239 rfl ?_
    refine j_bipush C dL_law_239 (24 : Int32) (by decide) 241 rfl ?_
    obtain ⟨q21, e22, h⟩ := ob_some h
    refine j_callS C (ct_L_up (eL E) G  e22) vk_L_up kw2_180 rfl ⟨Nat.le_of_ble_eq_true rfl, Nat.le_of_ble_eq_true rfl, rfl, rfl⟩ ⟨Nat.le_of_ble_eq_true rfl, Nat.le_of_ble_eq_true rfl⟩ (rest := [.int q19.2, .ref (gA G 81)]) rfl (Nat.le_of_ble_eq_true rfl) dL_law_241 (st1 := [.int q21.2, .int q19.2, .ref (gA G 81)]) rfl 244 rfl ?_
    obtain ⟨q23, e24, h⟩ := ob_some h
    refine j_callS C (ct_L_areBegun (eL E) G  e24) vk_L_areBegun kw3_82 rfl ⟨Nat.le_of_ble_eq_true rfl, Nat.le_of_ble_eq_true rfl, rfl, rfl⟩ ⟨Nat.le_of_ble_eq_true rfl, Nat.le_of_ble_eq_true rfl⟩ (rest := []) rfl (Nat.le_of_ble_eq_true rfl) dL_law_244 (st1 := [.int q23.2]) rfl 247 rfl ?_
    refine j_if_eq C dL_law_247 275 (by decide) 250 rfl (fun c => ?_) (fun c => ?_)
    · have h := it_t c h
      refine j_iconst C dL_law_275 (0 : Int32) (by decide) 276 rfl ?_
      refine j_istore_n C dL_law_276 rfl (by decide) [(2, .int (0 : Int32)), (0, .ref b), (1, .ref (gA G 81)), (3, .int v3), (5, .int v5)] rfl 277 rfl ?_
      refine j_iinc C dL_law_277 3 rfl (v3 + (1 : Int32)) rfl (by decide) [(3, .int (v3 + (1 : Int32))), (2, .int (0 : Int32)), (0, .ref b), (1, .ref (gA G 81)), (5, .int v5)] rfl 280 rfl ?_
      refine j_goto C dL_law_280 30 (by decide) ?_
      refine j_sub [(0, .ref b), (1, .ref (gA G 81)), (2, .int (0 : Int32)), (3, .int (v3 + (1 : Int32)))] [2, 3, 1, 0] rfl ?_
      exact hrc _ _ _ h
    · have h := it_f c h
      refine j_sub [(0, .ref b), (1, .ref (gA G 81)), (3, .int v3)] [0, 1, 2] rfl ?_
      exact w_L_law_250 C hsc F  hK hrc _ _ h
def L_law_192 (Ls : Nat) (xs : Nat → Int32) (K : Mem → Int32 → Option (Mem × Int32)) (rc : Mem → Int32 → Int32 → Option (Mem × Int32)) (σ : Mem) (v2 : Int32) (v3 : Int32) (v5 : Int32) : Option (Mem × Int32) :=
  (if v2 = 0 then rc σ (0 : Int32) (v3 + (1 : Int32)) else ((L_isRead σ).bind fun q13 => (if q13.2 = 0 then rc q13.1 (0 : Int32) (v3 + (1 : Int32)) else (if (v3 - v3 / (3 : Int32) * (3 : Int32)) = (1 : Int32) then ((L_areEntries q13.1).bind fun q25 => (if q25.2 = 0 then rc q25.1 (0 : Int32) (v3 + (1 : Int32)) else L_law_217 Ls xs K rc q25.1 v3 v5)) else L_law_217 Ls xs K rc q13.1 v3 v5))))
set_option maxHeartbeats 4000000 in
set_option maxRecDepth 100000 in
theorem w_L_law_192 {E : Ev} {G : Gw} (C : Cx E G RL cL_law 12 room_1) {b Ls : Nat} {xs : Nat → Int32} (hsc : Sc E G b Ls xs) {out : Mem × Int32} (F : RetOk E G out)  {K : Mem → Int32 → Option (Mem × Int32)} (hK : ∀ (σ : Mem) (v2 : Int32), K σ v2 = some out → J E G 12 82 1822 σ 283 [(2, .int v2)] []) {rc : Mem → Int32 → Int32 → Option (Mem × Int32)} (hrc : ∀ (σ : Mem) (v2 : Int32) (v3 : Int32), rc σ v2 v3 = some out → J E G 12 82 1822 σ 30 [(0, .ref b), (1, .ref (gA G 81)), (2, .int v2), (3, .int v3)] []) (σ : Mem) (v2 : Int32) (v3 : Int32) (v5 : Int32) (h : L_law_192 Ls xs K rc σ v2 v3 v5 = some out) : J E G 12 82 1822 σ 192 [(0, .ref b), (1, .ref (gA G 81)), (2, .int v2), (3, .int v3), (5, .int v5)] [] := by
  unfold L_law_192 at h
  refine j_iload_n C dL_law_192 rfl 2 rfl 193 rfl ?_
  refine j_if_eq C dL_law_193 275 (by decide) 196 rfl (fun c => ?_) (fun c => ?_)
  · have h := it_t c h
    refine j_iconst C dL_law_275 (0 : Int32) (by decide) 276 rfl ?_
    refine j_istore_n C dL_law_276 rfl (by decide) [(2, .int (0 : Int32)), (0, .ref b), (1, .ref (gA G 81)), (3, .int v3), (5, .int v5)] rfl 277 rfl ?_
    refine j_iinc C dL_law_277 3 rfl (v3 + (1 : Int32)) rfl (by decide) [(3, .int (v3 + (1 : Int32))), (2, .int (0 : Int32)), (0, .ref b), (1, .ref (gA G 81)), (5, .int v5)] rfl 280 rfl ?_
    refine j_goto C dL_law_280 30 (by decide) ?_
    refine j_sub [(0, .ref b), (1, .ref (gA G 81)), (2, .int (0 : Int32)), (3, .int (v3 + (1 : Int32)))] [2, 3, 1, 0] rfl ?_
    exact hrc _ _ _ h
  · have h := it_f c h
    refine j_aload_n C dL_law_196 rfl 1 rfl 197 rfl ?_
    obtain ⟨q13, e14, h⟩ := ob_some h
    refine j_callS C (ct_L_isRead (eL E) G  e14) vk_L_isRead kw3_6 rfl ⟨Nat.le_of_ble_eq_true rfl, Nat.le_of_ble_eq_true rfl, rfl, rfl⟩ ⟨Nat.le_of_ble_eq_true rfl, Nat.le_of_ble_eq_true rfl⟩ (rest := []) rfl (Nat.le_of_ble_eq_true rfl) dL_law_197 (st1 := [.int q13.2]) rfl 200 rfl ?_
    refine j_if_eq C dL_law_200 275 (by decide) 203 rfl (fun c => ?_) (fun c => ?_)
    · have h := it_t c h
      refine j_iconst C dL_law_275 (0 : Int32) (by decide) 276 rfl ?_
      refine j_istore_n C dL_law_276 rfl (by decide) [(2, .int (0 : Int32)), (0, .ref b), (1, .ref (gA G 81)), (3, .int v3), (5, .int v5)] rfl 277 rfl ?_
      refine j_iinc C dL_law_277 3 rfl (v3 + (1 : Int32)) rfl (by decide) [(3, .int (v3 + (1 : Int32))), (2, .int (0 : Int32)), (0, .ref b), (1, .ref (gA G 81)), (5, .int v5)] rfl 280 rfl ?_
      refine j_goto C dL_law_280 30 (by decide) ?_
      refine j_sub [(0, .ref b), (1, .ref (gA G 81)), (2, .int (0 : Int32)), (3, .int (v3 + (1 : Int32)))] [2, 3, 1, 0] rfl ?_
      exact hrc _ _ _ h
    · have h := it_f c h
      refine j_iload_n C dL_law_203 rfl 3 rfl 204 rfl ?_
      refine j_iconst C dL_law_204 (3 : Int32) (by decide) 205 rfl ?_
      refine j_irem C dL_law_205 (by decide) 206 rfl ?_
      refine j_iconst C dL_law_206 (1 : Int32) (by decide) 207 rfl ?_
      refine j_icmp_ne C dL_law_207 217 (by decide) 210 rfl (fun c => ?_) (fun c => ?_)
      · have h := it_f c h
        refine j_sub [(0, .ref b), (1, .ref (gA G 81)), (3, .int v3), (5, .int v5)] [0, 1, 3, 4] rfl ?_
        exact w_L_law_217 C hsc F  hK hrc _ _ _ h
      · have h := it_t c h
        refine j_aload_n C dL_law_210 rfl 1 rfl 211 rfl ?_
        obtain ⟨q25, e26, h⟩ := ob_some h
        refine j_callS C (ct_L_areEntries (eL E) G  e26) vk_L_areEntries kw3_57 rfl ⟨Nat.le_of_ble_eq_true rfl, Nat.le_of_ble_eq_true rfl, rfl, rfl⟩ ⟨Nat.le_of_ble_eq_true rfl, Nat.le_of_ble_eq_true rfl⟩ (rest := []) rfl (Nat.le_of_ble_eq_true rfl) dL_law_211 (st1 := [.int q25.2]) rfl 214 rfl ?_
        refine j_if_eq C dL_law_214 275 (by decide) 217 rfl (fun c => ?_) (fun c => ?_)
        · have h := it_t c h
          refine j_iconst C dL_law_275 (0 : Int32) (by decide) 276 rfl ?_
          refine j_istore_n C dL_law_276 rfl (by decide) [(2, .int (0 : Int32)), (0, .ref b), (1, .ref (gA G 81)), (3, .int v3), (5, .int v5)] rfl 277 rfl ?_
          refine j_iinc C dL_law_277 3 rfl (v3 + (1 : Int32)) rfl (by decide) [(3, .int (v3 + (1 : Int32))), (2, .int (0 : Int32)), (0, .ref b), (1, .ref (gA G 81)), (5, .int v5)] rfl 280 rfl ?_
          refine j_goto C dL_law_280 30 (by decide) ?_
          refine j_sub [(0, .ref b), (1, .ref (gA G 81)), (2, .int (0 : Int32)), (3, .int (v3 + (1 : Int32)))] [2, 3, 1, 0] rfl ?_
          exact hrc _ _ _ h
        · have h := it_f c h
          refine j_sub [(0, .ref b), (1, .ref (gA G 81)), (3, .int v3), (5, .int v5)] [0, 1, 3, 4] rfl ?_
          exact w_L_law_217 C hsc F  hK hrc _ _ _ h
def L_law_191 (Ls : Nat) (xs : Nat → Int32) (K : Mem → Int32 → Option (Mem × Int32)) (rc : Mem → Int32 → Int32 → Option (Mem × Int32)) (σ : Mem) (v3 : Int32) (v5 : Int32) (s0 : Int32) : Option (Mem × Int32) :=
  L_law_192 Ls xs K rc σ s0 v3 v5
set_option maxHeartbeats 4000000 in
set_option maxRecDepth 100000 in
theorem w_L_law_191 {E : Ev} {G : Gw} (C : Cx E G RL cL_law 12 room_1) {b Ls : Nat} {xs : Nat → Int32} (hsc : Sc E G b Ls xs) {out : Mem × Int32} (F : RetOk E G out)  {K : Mem → Int32 → Option (Mem × Int32)} (hK : ∀ (σ : Mem) (v2 : Int32), K σ v2 = some out → J E G 12 82 1822 σ 283 [(2, .int v2)] []) {rc : Mem → Int32 → Int32 → Option (Mem × Int32)} (hrc : ∀ (σ : Mem) (v2 : Int32) (v3 : Int32), rc σ v2 v3 = some out → J E G 12 82 1822 σ 30 [(0, .ref b), (1, .ref (gA G 81)), (2, .int v2), (3, .int v3)] []) (σ : Mem) (v3 : Int32) (v5 : Int32) (s0 : Int32) (h : L_law_191 Ls xs K rc σ v3 v5 s0 = some out) : J E G 12 82 1822 σ 191 [(0, .ref b), (1, .ref (gA G 81)), (3, .int v3), (5, .int v5)] [.int s0] := by
  unfold L_law_191 at h
  refine j_istore_n C dL_law_191 rfl (by decide) [(2, .int s0), (0, .ref b), (1, .ref (gA G 81)), (3, .int v3), (5, .int v5)] rfl 192 rfl ?_
  refine j_sub [(0, .ref b), (1, .ref (gA G 81)), (2, .int s0), (3, .int v3), (5, .int v5)] [1, 2, 0, 3, 4] rfl ?_
  exact w_L_law_192 C hsc F  hK hrc _ _ _ _ h
def L_law_190 (Ls : Nat) (xs : Nat → Int32) (K : Mem → Int32 → Option (Mem × Int32)) (rc : Mem → Int32 → Int32 → Option (Mem × Int32)) (σ : Mem) (v3 : Int32) (v5 : Int32) : Option (Mem × Int32) :=
  L_law_191 Ls xs K rc σ v3 v5 (0 : Int32)
set_option maxHeartbeats 4000000 in
set_option maxRecDepth 100000 in
theorem w_L_law_190 {E : Ev} {G : Gw} (C : Cx E G RL cL_law 12 room_1) {b Ls : Nat} {xs : Nat → Int32} (hsc : Sc E G b Ls xs) {out : Mem × Int32} (F : RetOk E G out)  {K : Mem → Int32 → Option (Mem × Int32)} (hK : ∀ (σ : Mem) (v2 : Int32), K σ v2 = some out → J E G 12 82 1822 σ 283 [(2, .int v2)] []) {rc : Mem → Int32 → Int32 → Option (Mem × Int32)} (hrc : ∀ (σ : Mem) (v2 : Int32) (v3 : Int32), rc σ v2 v3 = some out → J E G 12 82 1822 σ 30 [(0, .ref b), (1, .ref (gA G 81)), (2, .int v2), (3, .int v3)] []) (σ : Mem) (v3 : Int32) (v5 : Int32) (h : L_law_190 Ls xs K rc σ v3 v5 = some out) : J E G 12 82 1822 σ 190 [(0, .ref b), (1, .ref (gA G 81)), (3, .int v3), (5, .int v5)] [] := by
  unfold L_law_190 at h
  refine j_iconst C dL_law_190 (0 : Int32) (by decide) 191 rfl ?_
  exact w_L_law_191 C hsc F  hK hrc _ _ _ _ h
def L_law_115 (Ls : Nat) (xs : Nat → Int32) (K : Mem → Int32 → Option (Mem × Int32)) (rc : Mem → Int32 → Int32 → Option (Mem × Int32)) (σ : Mem) (v3 : Int32) (v4 : Int32) (v5 : Int32) (v6 : Int64) (s0 : Int32) : Option (Mem × Int32) :=
  (if s0 = 0 then L_law_192 Ls xs K rc σ s0 v3 v5 else (if ((v4 >>> ((8 : Int32) &&& 31)) &&& (3 : Int32)) = 0 then ((L_looks σ).bind fun q27 => ((xlv (X6_count q27.1 (9 : Int32))).bind fun q29 => ((xlv (X6_undo q29.1)).bind fun q31 => (if q31.2 = (q29.2 - (1 : Int32)) then ((L_looks q31.1).bind fun q33 => (if (lg_cmp q33.2 v6) = 0 then ((L_acts q33.1 v4 v5).bind fun q35 => (if q35.2 = 0 then L_law_190 Ls xs K rc q35.1 v3 v5 else ((L_looks q35.1).bind fun q37 => (if (lg_cmp q37.2 q27.2) = 0 then L_law_191 Ls xs K rc q37.1 v3 v5 (1 : Int32) else L_law_190 Ls xs K rc q37.1 v3 v5)))) else L_law_190 Ls xs K rc q33.1 v3 v5)) else L_law_190 Ls xs K rc q31.1 v3 v5)))) else L_law_192 Ls xs K rc σ s0 v3 v5))
set_option maxHeartbeats 4000000 in
set_option maxRecDepth 100000 in
theorem w_L_law_115 {E : Ev} {G : Gw} (C : Cx E G RL cL_law 12 room_1) {b Ls : Nat} {xs : Nat → Int32} (hsc : Sc E G b Ls xs) {out : Mem × Int32} (F : RetOk E G out)  {K : Mem → Int32 → Option (Mem × Int32)} (hK : ∀ (σ : Mem) (v2 : Int32), K σ v2 = some out → J E G 12 82 1822 σ 283 [(2, .int v2)] []) {rc : Mem → Int32 → Int32 → Option (Mem × Int32)} (hrc : ∀ (σ : Mem) (v2 : Int32) (v3 : Int32), rc σ v2 v3 = some out → J E G 12 82 1822 σ 30 [(0, .ref b), (1, .ref (gA G 81)), (2, .int v2), (3, .int v3)] []) (σ : Mem) (v3 : Int32) (v4 : Int32) (v5 : Int32) (v6 : Int64) (s0 : Int32) (h : L_law_115 Ls xs K rc σ v3 v4 v5 v6 s0 = some out) : J E G 12 82 1822 σ 115 [(0, .ref b), (1, .ref (gA G 81)), (3, .int v3), (4, .int v4), (5, .int v5), (6, .long v6)] [.int s0] := by
  unfold L_law_115 at h
  refine j_istore_n C dL_law_115 rfl (by decide) [(2, .int s0), (0, .ref b), (1, .ref (gA G 81)), (3, .int v3), (4, .int v4), (5, .int v5), (6, .long v6)] rfl 116 rfl ?_
  refine j_iload_n C dL_law_116 rfl 0 rfl 117 rfl ?_
  refine j_if_eq C dL_law_117 192 (by decide) 120 rfl (fun c => ?_) (fun c => ?_)
  · have h := it_t c h
    refine j_sub [(0, .ref b), (1, .ref (gA G 81)), (2, .int s0), (3, .int v3), (5, .int v5)] [1, 2, 0, 3, 5] rfl ?_
    exact w_L_law_192 C hsc F  hK hrc _ _ _ _ h
  · have h := it_f c h
    refine j_iload C dL_law_120 4 rfl 122 rfl ?_
    refine j_bipush C dL_law_122 (8 : Int32) (by decide) 124 rfl ?_
    refine j_ishr C dL_law_124 125 rfl ?_
    refine j_iconst C dL_law_125 (3 : Int32) (by decide) 126 rfl ?_
    refine j_iand C dL_law_126 127 rfl ?_
    refine j_if_ne C dL_law_127 192 (by decide) 130 rfl (fun c => ?_) (fun c => ?_)
    · have h := it_f c h
      refine j_sub [(0, .ref b), (1, .ref (gA G 81)), (2, .int s0), (3, .int v3), (5, .int v5)] [1, 2, 0, 3, 5] rfl ?_
      exact w_L_law_192 C hsc F  hK hrc _ _ _ _ h
    · have h := it_t c h
      refine j_aload_n C dL_law_130 rfl 2 rfl 131 rfl ?_
      obtain ⟨q27, e28, h⟩ := ob_some h
      refine j_callS C (ct_L_looks (eL E) G  e28) vk_L_looks kw2_184 rfl ⟨Nat.le_of_ble_eq_true rfl, Nat.le_of_ble_eq_true rfl, rfl, rfl⟩ ⟨Nat.le_of_ble_eq_true rfl, Nat.le_of_ble_eq_true rfl⟩ (rest := []) rfl (Nat.le_of_ble_eq_true rfl) dL_law_131 (st1 := [.long q27.2]) rfl 134 rfl ?_
      refine j_lstore C dL_law_134 (by decide) [(9, .long q27.2), (2, .int s0), (0, .ref b), (1, .ref (gA G 81)), (3, .int v3), (4, .int v4), (5, .int v5), (6, .long v6)] rfl 136 rfl ?_
      refine j_aload_n C dL_law_136 rfl 3 rfl 137 rfl ?_
      refine j_bipush C dL_law_137 (9 : Int32) (by decide) 139 rfl ?_
      obtain ⟨q29, e30, h⟩ := ob_some h
      refine j_callV C (ct_X6_count (eL E) G  (xlv_some e30)) sh81 foX6 rfl vk_X6_count kw2_90 rfl ⟨Nat.le_of_ble_eq_true rfl, Nat.le_of_ble_eq_true rfl, rfl, rfl⟩ ⟨Nat.le_of_ble_eq_true rfl, Nat.le_of_ble_eq_true rfl⟩ (rest := []) rfl (Nat.le_of_ble_eq_true rfl) dL_law_139 (st1 := [.int q29.2]) rfl 142 rfl ?_
      refine j_iconst C dL_law_142 (1 : Int32) (by decide) 143 rfl ?_
      refine j_isub C dL_law_143 144 rfl ?_
      refine j_istore C dL_law_144 (by decide) [(11, .int (q29.2 - (1 : Int32))), (9, .long q27.2), (2, .int s0), (0, .ref b), (1, .ref (gA G 81)), (3, .int v3), (4, .int v4), (5, .int v5), (6, .long v6)] rfl 146 rfl ?_
      refine j_aload_n C dL_law_146 rfl 4 rfl 147 rfl ?_
      obtain ⟨q31, e32, h⟩ := ob_some h
      refine j_callV C (ct_X6_undo (eL E) G  (xlv_some e32)) sh81 foX6 rfl vk_X6_undo kw2_2 rfl ⟨Nat.le_of_ble_eq_true rfl, Nat.le_of_ble_eq_true rfl, rfl, rfl⟩ ⟨Nat.le_of_ble_eq_true rfl, Nat.le_of_ble_eq_true rfl⟩ (rest := []) rfl (Nat.le_of_ble_eq_true rfl) dL_law_147 (st1 := [.int q31.2]) rfl 150 rfl ?_
      refine j_iload C dL_law_150 0 rfl 152 rfl ?_
      refine j_icmp_ne C dL_law_152 190 (by decide) 155 rfl (fun c => ?_) (fun c => ?_)
      · have h := it_f c h
        refine j_sub [(0, .ref b), (1, .ref (gA G 81)), (3, .int v3), (5, .int v5)] [3, 4, 5, 7] rfl ?_
        exact w_L_law_190 C hsc F  hK hrc _ _ _ h
      · have h := it_t c h
        refine j_aload_n C dL_law_155 rfl 4 rfl 156 rfl ?_
        obtain ⟨q33, e34, h⟩ := ob_some h
        refine j_callS C (ct_L_looks (eL E) G  e34) vk_L_looks kw2_184 rfl ⟨Nat.le_of_ble_eq_true rfl, Nat.le_of_ble_eq_true rfl, rfl, rfl⟩ ⟨Nat.le_of_ble_eq_true rfl, Nat.le_of_ble_eq_true rfl⟩ (rest := []) rfl (Nat.le_of_ble_eq_true rfl) dL_law_156 (st1 := [.long q33.2]) rfl 159 rfl ?_
        refine j_lload C dL_law_159 8 rfl 161 rfl ?_
        refine j_lcmp C dL_law_161 162 rfl ?_
        refine j_if_ne C dL_law_162 190 (by decide) 165 rfl (fun c => ?_) (fun c => ?_)
        · have h := it_f c h
          refine j_sub [(0, .ref b), (1, .ref (gA G 81)), (3, .int v3), (5, .int v5)] [3, 4, 5, 7] rfl ?_
          exact w_L_law_190 C hsc F  hK hrc _ _ _ h
        · have h := it_t c h
          refine j_aload_n C dL_law_165 rfl 4 rfl 166 rfl ?_
          refine j_iload C dL_law_166 6 rfl 168 rfl ?_
          refine j_iload C dL_law_168 7 rfl 170 rfl ?_
          obtain ⟨q35, e36, h⟩ := ob_some h
          refine j_callS C (ct_L_acts (eL E) G  e36) vk_L_acts kw3_111 rfl ⟨Nat.le_of_ble_eq_true rfl, Nat.le_of_ble_eq_true rfl, rfl, rfl⟩ ⟨Nat.le_of_ble_eq_true rfl, Nat.le_of_ble_eq_true rfl⟩ (rest := []) rfl (Nat.le_of_ble_eq_true rfl) dL_law_170 (st1 := [.int q35.2]) rfl 173 rfl ?_
          refine j_if_eq C dL_law_173 190 (by decide) 176 rfl (fun c => ?_) (fun c => ?_)
          · have h := it_t c h
            refine j_sub [(0, .ref b), (1, .ref (gA G 81)), (3, .int v3), (5, .int v5)] [3, 4, 5, 7] rfl ?_
            exact w_L_law_190 C hsc F  hK hrc _ _ _ h
          · have h := it_f c h
            refine j_aload_n C dL_law_176 rfl 4 rfl 177 rfl ?_
            obtain ⟨q37, e38, h⟩ := ob_some h
            refine j_callS C (ct_L_looks (eL E) G  e38) vk_L_looks kw2_184 rfl ⟨Nat.le_of_ble_eq_true rfl, Nat.le_of_ble_eq_true rfl, rfl, rfl⟩ ⟨Nat.le_of_ble_eq_true rfl, Nat.le_of_ble_eq_true rfl⟩ (rest := []) rfl (Nat.le_of_ble_eq_true rfl) dL_law_177 (st1 := [.long q37.2]) rfl 180 rfl ?_
            refine j_lload C dL_law_180 1 rfl 182 rfl ?_
            refine j_lcmp C dL_law_182 183 rfl ?_
            refine j_if_ne C dL_law_183 190 (by decide) 186 rfl (fun c => ?_) (fun c => ?_)
            · have h := it_f c h
              refine j_sub [(0, .ref b), (1, .ref (gA G 81)), (3, .int v3), (5, .int v5)] [3, 4, 5, 7] rfl ?_
              exact w_L_law_190 C hsc F  hK hrc _ _ _ h
            · have h := it_t c h
              refine j_iconst C dL_law_186 (1 : Int32) (by decide) 187 rfl ?_
              refine j_goto C dL_law_187 191 (by decide) ?_
              refine j_sub [(0, .ref b), (1, .ref (gA G 81)), (3, .int v3), (5, .int v5)] [3, 4, 5, 7] rfl ?_
              exact w_L_law_191 C hsc F  hK hrc _ _ _ _ h
def L_law_114 (Ls : Nat) (xs : Nat → Int32) (K : Mem → Int32 → Option (Mem × Int32)) (rc : Mem → Int32 → Int32 → Option (Mem × Int32)) (σ : Mem) (v3 : Int32) (v4 : Int32) (v5 : Int32) (v6 : Int64) : Option (Mem × Int32) :=
  L_law_115 Ls xs K rc σ v3 v4 v5 v6 (0 : Int32)
set_option maxHeartbeats 4000000 in
set_option maxRecDepth 100000 in
theorem w_L_law_114 {E : Ev} {G : Gw} (C : Cx E G RL cL_law 12 room_1) {b Ls : Nat} {xs : Nat → Int32} (hsc : Sc E G b Ls xs) {out : Mem × Int32} (F : RetOk E G out)  {K : Mem → Int32 → Option (Mem × Int32)} (hK : ∀ (σ : Mem) (v2 : Int32), K σ v2 = some out → J E G 12 82 1822 σ 283 [(2, .int v2)] []) {rc : Mem → Int32 → Int32 → Option (Mem × Int32)} (hrc : ∀ (σ : Mem) (v2 : Int32) (v3 : Int32), rc σ v2 v3 = some out → J E G 12 82 1822 σ 30 [(0, .ref b), (1, .ref (gA G 81)), (2, .int v2), (3, .int v3)] []) (σ : Mem) (v3 : Int32) (v4 : Int32) (v5 : Int32) (v6 : Int64) (h : L_law_114 Ls xs K rc σ v3 v4 v5 v6 = some out) : J E G 12 82 1822 σ 114 [(0, .ref b), (1, .ref (gA G 81)), (3, .int v3), (4, .int v4), (5, .int v5), (6, .long v6)] [] := by
  unfold L_law_114 at h
  refine j_iconst C dL_law_114 (0 : Int32) (by decide) 115 rfl ?_
  exact w_L_law_115 C hsc F  hK hrc _ _ _ _ _ _ h
def L_law_107 (Ls : Nat) (xs : Nat → Int32) (K : Mem → Int32 → Option (Mem × Int32)) (rc : Mem → Int32 → Int32 → Option (Mem × Int32)) (σ : Mem) (v3 : Int32) (v4 : Int32) (v5 : Int32) (v6 : Int64) (s0 : Int32) (s1 : Int32) : Option (Mem × Int32) :=
  (if s1 = s0 then L_law_115 Ls xs K rc σ v3 v4 v5 v6 (1 : Int32) else L_law_114 Ls xs K rc σ v3 v4 v5 v6)
set_option maxHeartbeats 4000000 in
set_option maxRecDepth 100000 in
theorem w_L_law_107 {E : Ev} {G : Gw} (C : Cx E G RL cL_law 12 room_1) {b Ls : Nat} {xs : Nat → Int32} (hsc : Sc E G b Ls xs) {out : Mem × Int32} (F : RetOk E G out)  {K : Mem → Int32 → Option (Mem × Int32)} (hK : ∀ (σ : Mem) (v2 : Int32), K σ v2 = some out → J E G 12 82 1822 σ 283 [(2, .int v2)] []) {rc : Mem → Int32 → Int32 → Option (Mem × Int32)} (hrc : ∀ (σ : Mem) (v2 : Int32) (v3 : Int32), rc σ v2 v3 = some out → J E G 12 82 1822 σ 30 [(0, .ref b), (1, .ref (gA G 81)), (2, .int v2), (3, .int v3)] []) (σ : Mem) (v3 : Int32) (v4 : Int32) (v5 : Int32) (v6 : Int64) (s0 : Int32) (s1 : Int32) (h : L_law_107 Ls xs K rc σ v3 v4 v5 v6 s0 s1 = some out) : J E G 12 82 1822 σ 107 [(0, .ref b), (1, .ref (gA G 81)), (3, .int v3), (4, .int v4), (5, .int v5), (6, .long v6)] [.int s0, .int s1] := by
  unfold L_law_107 at h
  refine j_icmp_ne C dL_law_107 114 (by decide) 110 rfl (fun c => ?_) (fun c => ?_)
  · have h := it_f c h
    exact w_L_law_114 C hsc F  hK hrc _ _ _ _ _ h
  · have h := it_t c h
    refine j_iconst C dL_law_110 (1 : Int32) (by decide) 111 rfl ?_
    refine j_goto C dL_law_111 115 (by decide) ?_
    exact w_L_law_115 C hsc F  hK hrc _ _ _ _ _ _ h
def L_law_30 (Ls : Nat) (xs : Nat → Int32) (K : Mem → Int32 → Option (Mem × Int32)) : Nat → Mem → Int32 → Int32 → Option (Mem × Int32)
  | 0, _, _, _ => none
  | fu + 1, σ, v2, v3 => (if (56 : Int32) ≤ v3 then K σ v2 else (if v2 = 0 then K σ v2 else ((L_cell Ls xs σ ((2 : Int32) * v3)).bind fun q3 => ((L_cell Ls xs q3.1 (((2 : Int32) * v3) + (1 : Int32))).bind fun q5 => ((L_looks q5.1).bind fun q7 => ((xlv (X6_count q7.1 (9 : Int32))).bind fun q9 => ((L_acts q9.1 q3.2 q5.2).bind fun q11 => (if q11.2 = 0 then L_law_114 Ls xs K (L_law_30 Ls xs K fu) q11.1 v3 q3.2 q5.2 q7.2 else ((xlv (X6_count q11.1 (9 : Int32))).bind fun q39 => (if (6 : Int32) ≤ q9.2 then L_law_107 Ls xs K (L_law_30 Ls xs K fu) q39.1 v3 q3.2 q5.2 q7.2 (6 : Int32) q39.2 else L_law_107 Ls xs K (L_law_30 Ls xs K fu) q39.1 v3 q3.2 q5.2 q7.2 (q9.2 + (1 : Int32)) q39.2))))))))))
set_option maxHeartbeats 4000000 in
set_option maxRecDepth 100000 in
theorem w_L_law_30 {E : Ev} {G : Gw} (C : Cx E G RL cL_law 12 room_1) {b Ls : Nat} {xs : Nat → Int32} (hsc : Sc E G b Ls xs) {out : Mem × Int32} (F : RetOk E G out)  {K : Mem → Int32 → Option (Mem × Int32)} (hK : ∀ (σ : Mem) (v2 : Int32), K σ v2 = some out → J E G 12 82 1822 σ 283 [(2, .int v2)] []) : ∀ (fu : Nat) (σ : Mem) (v2 : Int32) (v3 : Int32), L_law_30 Ls xs K fu σ v2 v3 = some out → J E G 12 82 1822 σ 30 [(0, .ref b), (1, .ref (gA G 81)), (2, .int v2), (3, .int v3)] [] := by
  intro fu
  induction fu with
  | zero => intro σ v2 v3 h; rw [L_law_30] at h; cases h
  | succ fu ih =>
    intro σ v2 v3 h
    rw [L_law_30] at h
    refine j_iload_n C dL_law_30 rfl 3 rfl 31 rfl ?_
    refine j_bipush C dL_law_31 (56 : Int32) (by decide) 33 rfl ?_
    refine j_icmp_ge C dL_law_33 283 (by decide) 36 rfl (fun c => ?_) (fun c => ?_)
    · have h := it_t c h
      refine j_sub [(2, .int v2)] [2] rfl ?_
      exact hK _ _ h
    · have h := it_f c h
      refine j_iload_n C dL_law_36 rfl 2 rfl 37 rfl ?_
      refine j_if_eq C dL_law_37 283 (by decide) 40 rfl (fun c => ?_) (fun c => ?_)
      · have h := it_t c h
        refine j_sub [(2, .int v2)] [2] rfl ?_
        exact hK _ _ h
      · have h := it_f c h
        refine j_aload_n C dL_law_40 rfl 0 rfl 41 rfl ?_
        refine j_iconst C dL_law_41 (2 : Int32) (by decide) 42 rfl ?_
        refine j_iload_n C dL_law_42 rfl 3 rfl 43 rfl ?_
        refine j_imul C dL_law_43 44 rfl ?_
        obtain ⟨q3, e4, h⟩ := ob_some h
        refine j_callK C hsc (ck_L_cell (eL E) G e4) vk_L_cell kw2_176 rfl ⟨Nat.le_of_ble_eq_true rfl, Nat.le_of_ble_eq_true rfl, rfl, rfl⟩ ⟨Nat.le_of_ble_eq_true rfl, Nat.le_of_ble_eq_true rfl⟩ (rest := []) rfl (Nat.le_of_ble_eq_true rfl) dL_law_44 (st1 := [.int q3.2]) rfl 47 rfl ?_
        refine j_istore C dL_law_47 (by decide) [(4, .int q3.2), (0, .ref b), (1, .ref (gA G 81)), (2, .int v2), (3, .int v3)] rfl 49 rfl ?_
        refine j_aload_n C dL_law_49 rfl 1 rfl 50 rfl ?_
        refine j_iconst C dL_law_50 (2 : Int32) (by decide) 51 rfl ?_
        refine j_iload_n C dL_law_51 rfl 4 rfl 52 rfl ?_
        refine j_imul C dL_law_52 53 rfl ?_
        refine j_iconst C dL_law_53 (1 : Int32) (by decide) 54 rfl ?_
        refine j_iadd C dL_law_54 55 rfl ?_
        obtain ⟨q5, e6, h⟩ := ob_some h
        refine j_callK C hsc (ck_L_cell (eL E) G e6) vk_L_cell kw2_176 rfl ⟨Nat.le_of_ble_eq_true rfl, Nat.le_of_ble_eq_true rfl, rfl, rfl⟩ ⟨Nat.le_of_ble_eq_true rfl, Nat.le_of_ble_eq_true rfl⟩ (rest := []) rfl (Nat.le_of_ble_eq_true rfl) dL_law_55 (st1 := [.int q5.2]) rfl 58 rfl ?_
        refine j_istore C dL_law_58 (by decide) [(5, .int q5.2), (4, .int q3.2), (0, .ref b), (1, .ref (gA G 81)), (2, .int v2), (3, .int v3)] rfl 60 rfl ?_
        refine j_aload_n C dL_law_60 rfl 3 rfl 61 rfl ?_
        obtain ⟨q7, e8, h⟩ := ob_some h
        refine j_callS C (ct_L_looks (eL E) G  e8) vk_L_looks kw2_184 rfl ⟨Nat.le_of_ble_eq_true rfl, Nat.le_of_ble_eq_true rfl, rfl, rfl⟩ ⟨Nat.le_of_ble_eq_true rfl, Nat.le_of_ble_eq_true rfl⟩ (rest := []) rfl (Nat.le_of_ble_eq_true rfl) dL_law_61 (st1 := [.long q7.2]) rfl 64 rfl ?_
        refine j_lstore C dL_law_64 (by decide) [(6, .long q7.2), (5, .int q5.2), (4, .int q3.2), (0, .ref b), (1, .ref (gA G 81)), (2, .int v2), (3, .int v3)] rfl 66 rfl ?_
        refine j_aload_n C dL_law_66 rfl 4 rfl 67 rfl ?_
        refine j_bipush C dL_law_67 (9 : Int32) (by decide) 69 rfl ?_
        obtain ⟨q9, e10, h⟩ := ob_some h
        refine j_callV C (ct_X6_count (eL E) G  (xlv_some e10)) sh81 foX6 rfl vk_X6_count kw2_90 rfl ⟨Nat.le_of_ble_eq_true rfl, Nat.le_of_ble_eq_true rfl, rfl, rfl⟩ ⟨Nat.le_of_ble_eq_true rfl, Nat.le_of_ble_eq_true rfl⟩ (rest := []) rfl (Nat.le_of_ble_eq_true rfl) dL_law_69 (st1 := [.int q9.2]) rfl 72 rfl ?_
        refine j_istore C dL_law_72 (by decide) [(8, .int q9.2), (6, .long q7.2), (5, .int q5.2), (4, .int q3.2), (0, .ref b), (1, .ref (gA G 81)), (2, .int v2), (3, .int v3)] rfl 74 rfl ?_
        refine j_aload_n C dL_law_74 rfl 5 rfl 75 rfl ?_
        refine j_iload C dL_law_75 3 rfl 77 rfl ?_
        refine j_iload C dL_law_77 2 rfl 79 rfl ?_
        obtain ⟨q11, e12, h⟩ := ob_some h
        refine j_callS C (ct_L_acts (eL E) G  e12) vk_L_acts kw3_111 rfl ⟨Nat.le_of_ble_eq_true rfl, Nat.le_of_ble_eq_true rfl, rfl, rfl⟩ ⟨Nat.le_of_ble_eq_true rfl, Nat.le_of_ble_eq_true rfl⟩ (rest := []) rfl (Nat.le_of_ble_eq_true rfl) dL_law_79 (st1 := [.int q11.2]) rfl 82 rfl ?_
        refine j_if_eq C dL_law_82 114 (by decide) 85 rfl (fun c => ?_) (fun c => ?_)
        · have h := it_t c h
          refine j_sub [(0, .ref b), (1, .ref (gA G 81)), (3, .int v3), (4, .int q3.2), (5, .int q5.2), (6, .long q7.2)] [4, 5, 7, 3, 2, 1] rfl ?_
          exact w_L_law_114 C hsc F  hK ih _ _ _ _ _ h
        · have h := it_f c h
          refine j_aload_n C dL_law_85 rfl 5 rfl 86 rfl ?_
          refine j_bipush C dL_law_86 (9 : Int32) (by decide) 88 rfl ?_
          obtain ⟨q39, e40, h⟩ := ob_some h
          refine j_callV C (ct_X6_count (eL E) G  (xlv_some e40)) sh81 foX6 rfl vk_X6_count kw2_90 rfl ⟨Nat.le_of_ble_eq_true rfl, Nat.le_of_ble_eq_true rfl, rfl, rfl⟩ ⟨Nat.le_of_ble_eq_true rfl, Nat.le_of_ble_eq_true rfl⟩ (rest := []) rfl (Nat.le_of_ble_eq_true rfl) dL_law_88 (st1 := [.int q39.2]) rfl 91 rfl ?_
          refine j_iload C dL_law_91 0 rfl 93 rfl ?_
          refine j_bipush C dL_law_93 (6 : Int32) (by decide) 95 rfl ?_
          refine j_icmp_ge C dL_law_95 105 (by decide) 98 rfl (fun c => ?_) (fun c => ?_)
          · have h := it_t c h
            refine j_bipush C dL_law_105 (6 : Int32) (by decide) 107 rfl ?_
            refine j_sub [(0, .ref b), (1, .ref (gA G 81)), (3, .int v3), (4, .int q3.2), (5, .int q5.2), (6, .long q7.2)] [4, 5, 7, 3, 2, 1] rfl ?_
            exact w_L_law_107 C hsc F  hK ih _ _ _ _ _ _ _ h
          · have h := it_f c h
            refine j_iload C dL_law_98 0 rfl 100 rfl ?_
            refine j_iconst C dL_law_100 (1 : Int32) (by decide) 101 rfl ?_
            refine j_iadd C dL_law_101 102 rfl ?_
            refine j_goto C dL_law_102 107 (by decide) ?_
            refine j_sub [(0, .ref b), (1, .ref (gA G 81)), (3, .int v3), (4, .int q3.2), (5, .int q5.2), (6, .long q7.2)] [4, 5, 7, 3, 2, 1] rfl ?_
            exact w_L_law_107 C hsc F  hK ih _ _ _ _ _ _ _ h
def L_law (Ls : Nat) (xs : Nat → Int32) (σ : Mem) : Option (Mem × Int32) :=
  ((X6_keep σ).bind fun q1 => (if q1.2 = 0 then ((L_isRead q1.1).bind fun q41 => (if q41.2 = 0 then L_law_30 Ls xs (fun (σ : Mem) (v2 : Int32) => some (σ, v2)) FU q41.1 (0 : Int32) (0 : Int32) else L_law_30 Ls xs (fun (σ : Mem) (v2 : Int32) => some (σ, v2)) FU q41.1 (1 : Int32) (0 : Int32))) else L_law_30 Ls xs (fun (σ : Mem) (v2 : Int32) => some (σ, v2)) FU q1.1 (0 : Int32) (0 : Int32)))
set_option maxHeartbeats 4000000 in
set_option maxRecDepth 100000 in
theorem w_L_law {E : Ev} {G : Gw} (C : Cx E G RL cL_law 12 room_1) {b Ls : Nat} {xs : Nat → Int32} (hsc : Sc E G b Ls xs) {out : Mem × Int32} (F : RetOk E G out) {σ : Mem} (h : L_law Ls xs σ = some out) : J E G 12 82 1822 σ 8 [(1, .ref (gA G 81)), (0, .ref b)] [] := by
  unfold L_law at h
  refine j_aload_n C dL_law_8 rfl 0 rfl 9 rfl ?_
  obtain ⟨q1, e2, h⟩ := ob_some h
  refine j_callV C (ct_X6_keep (eL E) G  e2) sh81 foX6 rfl vk_X6_keep kw1_190 rfl ⟨Nat.le_of_ble_eq_true rfl, Nat.le_of_ble_eq_true rfl, rfl, rfl⟩ ⟨Nat.le_of_ble_eq_true rfl, Nat.le_of_ble_eq_true rfl⟩ (rest := []) rfl (Nat.le_of_ble_eq_true rfl) dL_law_9 (st1 := [.int q1.2]) rfl 12 rfl ?_
  refine j_if_ne C dL_law_12 26 (by decide) 15 rfl (fun c => ?_) (fun c => ?_)
  · have h := it_f c h
    refine j_iconst C dL_law_26 (0 : Int32) (by decide) 27 rfl ?_
    refine j_istore_n C dL_law_27 rfl (by decide) [(2, .int (0 : Int32)), (1, .ref (gA G 81)), (0, .ref b)] rfl 28 rfl ?_
    refine j_iconst C dL_law_28 (0 : Int32) (by decide) 29 rfl ?_
    refine j_istore_n C dL_law_29 rfl (by decide) [(3, .int (0 : Int32)), (2, .int (0 : Int32)), (1, .ref (gA G 81)), (0, .ref b)] rfl 30 rfl ?_
    refine j_sub [(0, .ref b), (1, .ref (gA G 81)), (2, .int (0 : Int32)), (3, .int (0 : Int32))] [3, 2, 1, 0] rfl ?_
    refine w_L_law_30 C hsc F  (fun σ v2 h => ?_) FU _ _ _ h
    refine j_iload_n C dL_law_283 rfl 0 rfl 284 rfl ?_
    exact F h dL_law_284
  · have h := it_t c h
    refine j_aload_n C dL_law_15 rfl 0 rfl 16 rfl ?_
    obtain ⟨q41, e42, h⟩ := ob_some h
    refine j_callS C (ct_L_isRead (eL E) G  e42) vk_L_isRead kw3_6 rfl ⟨Nat.le_of_ble_eq_true rfl, Nat.le_of_ble_eq_true rfl, rfl, rfl⟩ ⟨Nat.le_of_ble_eq_true rfl, Nat.le_of_ble_eq_true rfl⟩ (rest := []) rfl (Nat.le_of_ble_eq_true rfl) dL_law_16 (st1 := [.int q41.2]) rfl 19 rfl ?_
    refine j_if_eq C dL_law_19 26 (by decide) 22 rfl (fun c => ?_) (fun c => ?_)
    · have h := it_t c h
      refine j_iconst C dL_law_26 (0 : Int32) (by decide) 27 rfl ?_
      refine j_istore_n C dL_law_27 rfl (by decide) [(2, .int (0 : Int32)), (1, .ref (gA G 81)), (0, .ref b)] rfl 28 rfl ?_
      refine j_iconst C dL_law_28 (0 : Int32) (by decide) 29 rfl ?_
      refine j_istore_n C dL_law_29 rfl (by decide) [(3, .int (0 : Int32)), (2, .int (0 : Int32)), (1, .ref (gA G 81)), (0, .ref b)] rfl 30 rfl ?_
      refine j_sub [(0, .ref b), (1, .ref (gA G 81)), (2, .int (0 : Int32)), (3, .int (0 : Int32))] [3, 2, 1, 0] rfl ?_
      refine w_L_law_30 C hsc F  (fun σ v2 h => ?_) FU _ _ _ h
      refine j_iload_n C dL_law_283 rfl 0 rfl 284 rfl ?_
      exact F h dL_law_284
    · have h := it_f c h
      refine j_iconst C dL_law_22 (1 : Int32) (by decide) 23 rfl ?_
      refine j_goto C dL_law_23 27 (by decide) ?_
      refine j_istore_n C dL_law_27 rfl (by decide) [(2, .int (1 : Int32)), (1, .ref (gA G 81)), (0, .ref b)] rfl 28 rfl ?_
      refine j_iconst C dL_law_28 (0 : Int32) (by decide) 29 rfl ?_
      refine j_istore_n C dL_law_29 rfl (by decide) [(3, .int (0 : Int32)), (2, .int (1 : Int32)), (1, .ref (gA G 81)), (0, .ref b)] rfl 30 rfl ?_
      refine j_sub [(0, .ref b), (1, .ref (gA G 81)), (2, .int (1 : Int32)), (3, .int (0 : Int32))] [3, 2, 1, 0] rfl ?_
      refine w_L_law_30 C hsc F  (fun σ v2 h => ?_) FU _ _ _ h
      refine j_iload_n C dL_law_283 rfl 0 rfl 284 rfl ?_
      exact F h dL_law_284
