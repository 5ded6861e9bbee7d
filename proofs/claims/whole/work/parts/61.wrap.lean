theorem kw3_178 : Cond.codeWith yL_strike cL_strike 4 (some .int) [(0, 9, 12, 13), (0, 9, 15, 15)] ∈ lw_all := lw_in3 (List.mem_of_getElem? (i := 178) rfl) rfl
theorem kw3_225 : Cond.codeWith yL_play cL_play 3 (some .int) [(0, 8, 11, 13)] ∈ lw_all := lw_in3 (List.mem_of_getElem? (i := 225) rfl) rfl
theorem kw3_238 : Cond.codeWith yL_pick cL_pick 5 (some .int) [(0, 10, 13, 25), (0, 10, 17, 15)] ∈ lw_all := lw_in3 (List.mem_of_getElem? (i := 238) rfl) rfl
theorem kw4_33 : Cond.codeWith yL_define cL_define 4 (some .int) [(0, 9, 12, 13), (0, 9, 15, 15)] ∈ lw_all := lw_in4 (List.mem_of_getElem? (i := 33) rfl) rfl
theorem kw4_57 : Cond.codeWith yL_remove cL_remove 4 (some .int) [(0, 9, 12, 25)] ∈ lw_all := lw_in4 (List.mem_of_getElem? (i := 57) rfl) rfl
theorem kw4_69 : Cond.codeWith yL_set cL_set 5 (some .int) [(0, 10, 13, 25), (0, 10, 17, 13)] ∈ lw_all := lw_in4 (List.mem_of_getElem? (i := 69) rfl) rfl
theorem kw4_81 : Cond.codeWith yL_append cL_append 4 (some .int) [(0, 9, 12, 13), (0, 9, 15, 15)] ∈ lw_all := lw_in4 (List.mem_of_getElem? (i := 81) rfl) rfl
theorem kw4_99 : Cond.codeWith yL_goBack cL_goBack 3 (some .int) [(0, 8, 11, 15)] ∈ lw_all := lw_in4 (List.mem_of_getElem? (i := 99) rfl) rfl
theorem kw4_107 : Cond.codeWith yL_undo cL_undo 3 (some .int) [(0, 8, 11, 15)] ∈ lw_all := lw_in4 (List.mem_of_getElem? (i := 107) rfl) rfl
theorem kw4_119 : Cond.codeWith yL_stroke cL_stroke 4 (some .int) [(0, 9, 12, 25)] ∈ lw_all := lw_in4 (List.mem_of_getElem? (i := 119) rfl) rfl
theorem kw4_128 : Cond.codeWith yL_item cL_item 5 (some .int) [(0, 10, 13, 25), (0, 10, 17, 13)] ∈ lw_all := lw_in4 (List.mem_of_getElem? (i := 128) rfl) rfl
theorem kw4_137 : Cond.codeWith yL_entry cL_entry 5 (some .int) [(0, 10, 13, 25), (0, 10, 17, 13)] ∈ lw_all := lw_in4 (List.mem_of_getElem? (i := 137) rfl) rfl
theorem kw4_145 : Cond.codeWith yL_count cL_count 4 (some .int) [(0, 9, 12, 13)] ∈ lw_all := lw_in4 (List.mem_of_getElem? (i := 145) rfl) rfl
theorem kw4_152 : Cond.codeWith yL_setting cL_setting 4 (some .int) [(0, 9, 12, 25)] ∈ lw_all := lw_in4 (List.mem_of_getElem? (i := 152) rfl) rfl
theorem kw4_159 : Cond.codeWith yL_ifStruck cL_ifStruck 5 (some .int) [(0, 10, 13, 13)] ∈ lw_all := lw_in4 (List.mem_of_getElem? (i := 159) rfl) rfl
theorem kw4_163 : Cond.codeWith yL_begun cL_begun 4 (some .int) [(0, 9, 12, 13)] ∈ lw_all := lw_in4 (List.mem_of_getElem? (i := 163) rfl) rfl
theorem kw4_167 : Cond.codeWith yL_shortest cL_shortest 4 (some .int) [(0, 9, 12, 13)] ∈ lw_all := lw_in4 (List.mem_of_getElem? (i := 167) rfl) rfl
theorem kw4_171 : Cond.codeWith yL_behind cL_behind 5 (some .int) [(0, 10, 13, 25)] ∈ lw_all := lw_in4 (List.mem_of_getElem? (i := 171) rfl) rfl
def L_strike (σ : Mem) (p1 : Int32) : Option (Mem × Int32) :=
  (X6_strike σ p1).bind fun q => sel q.2 (fun v => some (setL q.1 91 0 v.toInt64, (0 : Int32))) (fun x => (if x = 0 then some (q.1, (1 : Int32)) else (if x = 1 then some (q.1, (2 : Int32)) else none)))
set_option maxHeartbeats 4000000 in
set_option maxRecDepth 100000 in
theorem cw_L_strike (l : Launch) (hst : l.stackTraces = false) (G : Gw) {σ : Mem} {p1 : Int32} {out : Mem × Int32} (h : L_strike σ p1 = some out) : Cw l G yL_strike cL_strike 4 [(0, 9, 12, 13), (0, 9, 15, 15)] { frames := 7, cells := 1, slots := 6, locals := 159 } [.ref (gA G 81), .int p1, .ref (gA G 91)] σ out.1 out.2 := by
  refine Cw.of (by decide +kernel) (Nat.le_of_ble_eq_true rfl) (fun E hE C F hT hN => ?_)
  subst hE
  have C : Cx E G RL cL_strike 4 { frames := 7, cells := 1, slots := 6, locals := 159 } := C
  unfold L_strike at h
  show J E G 4 0 0 σ 0 [(0, .ref (gA G 81)), (1, .int p1), (2, .ref (gA G 91))] []
  refine j_aload_n C dL_strike_0 rfl 2 rfl 1 rfl ?_
  refine j_iconst C dL_strike_1 (0 : Int32) (by decide) 2 rfl ?_
  refine j_aload_n C dL_strike_2 rfl 0 rfl 3 rfl ?_
  refine j_iload_n C dL_strike_3 rfl 1 rfl 4 rfl ?_
  obtain ⟨q, e, h⟩ := ob_some h
  rcases sel_some h with ⟨v, hq, h⟩ | ⟨x, hq, h⟩
  · have e : X6_strike σ p1 = some (q.1, .inl v) := by rw [e, ← hq]
    refine j_callV C (ct_X6_strike (eL E) G (out := (q.1, v)) e) sh81 foX6 rfl vk_X6_strike kw3_181 rfl ⟨Nat.le_of_ble_eq_true rfl, Nat.le_of_ble_eq_true rfl, rfl, rfl⟩ ⟨Nat.zero_le _, Nat.zero_le _⟩ (rest := [.int (0 : Int32), .ref (gA G 91)]) rfl (Nat.le_of_ble_eq_true rfl) dL_strike_4 (st1 := [.int v, .int (0 : Int32), .ref (gA G 91)]) rfl 7 rfl ?_
    refine j_i2l C dL_strike_7 8 rfl ?_
    refine j_last C sh91 (by decide) dL_strike_8 0 rfl (setL q.1 91 0 v.toInt64) rfl 9 rfl ?_
    refine j_goto C dL_strike_9 18 (by decide) ?_
    refine j_iconst C dL_strike_18 (0 : Int32) (by decide) 19 rfl ?_
    refine j_widen (k' := 1) (n' := 6) (by decide) (by decide) ?_
    exact j_iret C F dL_strike_19 h
  · have e : X6_strike σ p1 = some (q.1, .inr x) := by rw [e, ← hq]
    by_cases c0 : x = 0
    · subst c0
      have h := it_t rfl h
      refine j_catch C (cx_X6_strike (eL E) hst G e) sh81 foX6 rfl vk_X6_strike kw3_181 rfl ⟨Nat.le_of_ble_eq_true rfl, Nat.le_of_ble_eq_true rfl, rfl, rfl⟩ ⟨Nat.le_of_ble_eq_true rfl, Nat.le_of_ble_eq_true rfl⟩ (rest := [.int (0 : Int32), .ref (gA G 91)]) rfl (Nat.le_of_ble_eq_true rfl) dL_strike_4 [] ⟨0, 9, 12, 13⟩ [⟨0, 9, 15, 15⟩] hT (fun u hu => absurd hu List.not_mem_nil) (by decide) (by decide) kw3_179 (List.mem_of_getElem? (i := 3) rfl) 12 rfl (fun qq => ?_)
      refine j_astore_n C dL_strike_12 rfl (by decide) [(3, .ref qq), (0, .ref (gA G 81)), (1, .int p1), (2, .ref (gA G 91))] rfl 13 rfl ?_
      refine j_iconst C dL_strike_13 (1 : Int32) (by decide) 14 rfl ?_
      exact j_iret C F dL_strike_14 h
    have h := it_f c0 h
    by_cases c1 : x = 1
    · subst c1
      have h := it_t rfl h
      refine j_catch C (cx_X6_strike (eL E) hst G e) sh81 foX6 rfl vk_X6_strike kw3_181 rfl ⟨Nat.le_of_ble_eq_true rfl, Nat.le_of_ble_eq_true rfl, rfl, rfl⟩ ⟨Nat.le_of_ble_eq_true rfl, Nat.le_of_ble_eq_true rfl⟩ (rest := [.int (0 : Int32), .ref (gA G 91)]) rfl (Nat.le_of_ble_eq_true rfl) dL_strike_4 [⟨0, 9, 12, 13⟩] ⟨0, 9, 15, 15⟩ [] hT (fun u hu => by rw [List.mem_singleton.mp hu]; exact Or.inr ⟨by decide, _, kw3_179, hN.1⟩) (by decide) (by decide) kw3_180 (List.mem_of_getElem? (i := 4) rfl) 15 rfl (fun qq => ?_)
      refine j_astore_n C dL_strike_15 rfl (by decide) [(3, .ref qq), (0, .ref (gA G 81)), (1, .int p1), (2, .ref (gA G 91))] rfl 16 rfl ?_
      refine j_iconst C dL_strike_16 (2 : Int32) (by decide) 17 rfl ?_
      exact j_iret C F dL_strike_17 h
    have h := it_f c1 h
    cases h
theorem wd_L_strike : yL_strike.cls ≠ "java/lang/invoke/MethodHandle" ∧ yL_strike.cls ≠ "java/lang/invoke/VarHandle" ∧ (parseMethodDescriptor yL_strike.desc).map (fun d => d.parameters.length) = some 3 := by decide +kernel

def L_play (σ : Mem) : Option (Mem × Int32) :=
  (X6_play σ ).bind fun q => sel q.2 (fun v => some (setL q.1 91 0 v.toInt64, (0 : Int32))) (fun x => (if x = 0 then some (q.1, (1 : Int32)) else none))
set_option maxHeartbeats 4000000 in
set_option maxRecDepth 100000 in
theorem cw_L_play (l : Launch) (hst : l.stackTraces = false) (G : Gw) {σ : Mem} {out : Mem × Int32} (h : L_play σ  = some out) : Cw l G yL_play cL_play 3 [(0, 8, 11, 13)] { frames := 7, cells := 1, slots := 6, locals := 159 } [.ref (gA G 81), .ref (gA G 91)] σ out.1 out.2 := by
  refine Cw.of (by decide +kernel) (Nat.le_of_ble_eq_true rfl) (fun E hE C F hT hN => ?_)
  subst hE
  have C : Cx E G RL cL_play 3 { frames := 7, cells := 1, slots := 6, locals := 159 } := C
  unfold L_play at h
  show J E G 3 0 0 σ 0 [(0, .ref (gA G 81)), (1, .ref (gA G 91))] []
  refine j_aload_n C dL_play_0 rfl 1 rfl 1 rfl ?_
  refine j_iconst C dL_play_1 (0 : Int32) (by decide) 2 rfl ?_
  refine j_aload_n C dL_play_2 rfl 0 rfl 3 rfl ?_
  obtain ⟨q, e, h⟩ := ob_some h
  rcases sel_some h with ⟨v, hq, h⟩ | ⟨x, hq, h⟩
  · have e : X6_play σ  = some (q.1, .inl v) := by rw [e, ← hq]
    refine j_callV C (ct_X6_play (eL E) G (out := (q.1, v)) e) sh81 foX6 rfl vk_X6_play kw3_226 rfl ⟨Nat.le_of_ble_eq_true rfl, Nat.le_of_ble_eq_true rfl, rfl, rfl⟩ ⟨Nat.zero_le _, Nat.zero_le _⟩ (rest := [.int (0 : Int32), .ref (gA G 91)]) rfl (Nat.le_of_ble_eq_true rfl) dL_play_3 (st1 := [.int v, .int (0 : Int32), .ref (gA G 91)]) rfl 6 rfl ?_
    refine j_i2l C dL_play_6 7 rfl ?_
    refine j_last C sh91 (by decide) dL_play_7 0 rfl (setL q.1 91 0 v.toInt64) rfl 8 rfl ?_
    refine j_goto C dL_play_8 14 (by decide) ?_
    refine j_iconst C dL_play_14 (0 : Int32) (by decide) 15 rfl ?_
    refine j_widen (k' := 1) (n' := 6) (by decide) (by decide) ?_
    exact j_iret C F dL_play_15 h
  · have e : X6_play σ  = some (q.1, .inr x) := by rw [e, ← hq]
    by_cases c0 : x = 0
    · subst c0
      have h := it_t rfl h
      refine j_catch C (cx_X6_play (eL E) hst G e) sh81 foX6 rfl vk_X6_play kw3_226 rfl ⟨Nat.le_of_ble_eq_true rfl, Nat.le_of_ble_eq_true rfl, rfl, rfl⟩ ⟨Nat.le_of_ble_eq_true rfl, Nat.le_of_ble_eq_true rfl⟩ (rest := [.int (0 : Int32), .ref (gA G 91)]) rfl (Nat.le_of_ble_eq_true rfl) dL_play_3 [] ⟨0, 8, 11, 13⟩ [] hT (fun u hu => absurd hu List.not_mem_nil) (by decide) (by decide) kw3_179 (List.mem_of_getElem? (i := 3) rfl) 11 rfl (fun qq => ?_)
      refine j_astore_n C dL_play_11 rfl (by decide) [(2, .ref qq), (0, .ref (gA G 81)), (1, .ref (gA G 91))] rfl 12 rfl ?_
      refine j_iconst C dL_play_12 (1 : Int32) (by decide) 13 rfl ?_
      exact j_iret C F dL_play_13 h
    have h := it_f c0 h
    cases h
theorem wd_L_play : yL_play.cls ≠ "java/lang/invoke/MethodHandle" ∧ yL_play.cls ≠ "java/lang/invoke/VarHandle" ∧ (parseMethodDescriptor yL_play.desc).map (fun d => d.parameters.length) = some 2 := by decide +kernel

def L_pick (σ : Mem) (p1 : Int32) (p2 : Int32) : Option (Mem × Int32) :=
  (X6_pick σ p1 p2).bind fun q => sel q.2 (fun v => some (setL q.1 91 0 v.toInt64, (0 : Int32))) (fun x => (if x = 2 then some (q.1, (1 : Int32)) else (if x = 1 then some (q.1, (2 : Int32)) else none)))
set_option maxHeartbeats 4000000 in
set_option maxRecDepth 100000 in
theorem cw_L_pick (l : Launch) (hst : l.stackTraces = false) (G : Gw) {σ : Mem} {p1 : Int32} {p2 : Int32} {out : Mem × Int32} (h : L_pick σ p1 p2 = some out) : Cw l G yL_pick cL_pick 5 [(0, 10, 13, 25), (0, 10, 17, 15)] { frames := 7, cells := 1, slots := 6, locals := 129 } [.ref (gA G 81), .int p1, .int p2, .ref (gA G 91)] σ out.1 out.2 := by
  refine Cw.of (by decide +kernel) (Nat.le_of_ble_eq_true rfl) (fun E hE C F hT hN => ?_)
  subst hE
  have C : Cx E G RL cL_pick 5 { frames := 7, cells := 1, slots := 6, locals := 129 } := C
  unfold L_pick at h
  show J E G 5 0 0 σ 0 [(0, .ref (gA G 81)), (1, .int p1), (2, .int p2), (3, .ref (gA G 91))] []
  refine j_aload_n C dL_pick_0 rfl 3 rfl 1 rfl ?_
  refine j_iconst C dL_pick_1 (0 : Int32) (by decide) 2 rfl ?_
  refine j_aload_n C dL_pick_2 rfl 0 rfl 3 rfl ?_
  refine j_iload_n C dL_pick_3 rfl 1 rfl 4 rfl ?_
  refine j_iload_n C dL_pick_4 rfl 2 rfl 5 rfl ?_
  obtain ⟨q, e, h⟩ := ob_some h
  rcases sel_some h with ⟨v, hq, h⟩ | ⟨x, hq, h⟩
  · have e : X6_pick σ p1 p2 = some (q.1, .inl v) := by rw [e, ← hq]
    refine j_callV C (ct_X6_pick (eL E) G (out := (q.1, v)) e) sh81 foX6 rfl vk_X6_pick kw4_0 rfl ⟨Nat.le_of_ble_eq_true rfl, Nat.le_of_ble_eq_true rfl, rfl, rfl⟩ ⟨Nat.zero_le _, Nat.zero_le _⟩ (rest := [.int (0 : Int32), .ref (gA G 91)]) rfl (Nat.le_of_ble_eq_true rfl) dL_pick_5 (st1 := [.int v, .int (0 : Int32), .ref (gA G 91)]) rfl 8 rfl ?_
    refine j_i2l C dL_pick_8 9 rfl ?_
    refine j_last C sh91 (by decide) dL_pick_9 0 rfl (setL q.1 91 0 v.toInt64) rfl 10 rfl ?_
    refine j_goto C dL_pick_10 21 (by decide) ?_
    refine j_iconst C dL_pick_21 (0 : Int32) (by decide) 22 rfl ?_
    refine j_widen (k' := 1) (n' := 6) (by decide) (by decide) ?_
    exact j_iret C F dL_pick_22 h
  · have e : X6_pick σ p1 p2 = some (q.1, .inr x) := by rw [e, ← hq]
    by_cases c0 : x = 2
    · subst c0
      have h := it_t rfl h
      refine j_catch C (cx_X6_pick (eL E) hst G e) sh81 foX6 rfl vk_X6_pick kw4_0 rfl ⟨Nat.le_of_ble_eq_true rfl, Nat.le_of_ble_eq_true rfl, rfl, rfl⟩ ⟨Nat.le_of_ble_eq_true rfl, Nat.le_of_ble_eq_true rfl⟩ (rest := [.int (0 : Int32), .ref (gA G 91)]) rfl (Nat.le_of_ble_eq_true rfl) dL_pick_5 [] ⟨0, 10, 13, 25⟩ [⟨0, 10, 17, 15⟩] hT (fun u hu => absurd hu List.not_mem_nil) (by decide) (by decide) kw3_239 (List.mem_of_getElem? (i := 5) rfl) 13 rfl (fun qq => ?_)
      refine j_astore C dL_pick_13 (by decide) [(4, .ref qq), (0, .ref (gA G 81)), (1, .int p1), (2, .int p2), (3, .ref (gA G 91))] rfl 15 rfl ?_
      refine j_iconst C dL_pick_15 (1 : Int32) (by decide) 16 rfl ?_
      exact j_iret C F dL_pick_16 h
    have h := it_f c0 h
    by_cases c1 : x = 1
    · subst c1
      have h := it_t rfl h
      refine j_catch C (cx_X6_pick (eL E) hst G e) sh81 foX6 rfl vk_X6_pick kw4_0 rfl ⟨Nat.le_of_ble_eq_true rfl, Nat.le_of_ble_eq_true rfl, rfl, rfl⟩ ⟨Nat.le_of_ble_eq_true rfl, Nat.le_of_ble_eq_true rfl⟩ (rest := [.int (0 : Int32), .ref (gA G 91)]) rfl (Nat.le_of_ble_eq_true rfl) dL_pick_5 [⟨0, 10, 13, 25⟩] ⟨0, 10, 17, 15⟩ [] hT (fun u hu => by rw [List.mem_singleton.mp hu]; exact Or.inr ⟨by decide, _, kw3_239, hN.2.1⟩) (by decide) (by decide) kw3_180 (List.mem_of_getElem? (i := 4) rfl) 17 rfl (fun qq => ?_)
      refine j_astore C dL_pick_17 (by decide) [(4, .ref qq), (0, .ref (gA G 81)), (1, .int p1), (2, .int p2), (3, .ref (gA G 91))] rfl 19 rfl ?_
      refine j_iconst C dL_pick_19 (2 : Int32) (by decide) 20 rfl ?_
      exact j_iret C F dL_pick_20 h
    have h := it_f c1 h
    cases h
theorem wd_L_pick : yL_pick.cls ≠ "java/lang/invoke/MethodHandle" ∧ yL_pick.cls ≠ "java/lang/invoke/VarHandle" ∧ (parseMethodDescriptor yL_pick.desc).map (fun d => d.parameters.length) = some 4 := by decide +kernel

def L_define (σ : Mem) (p1 : Int32) : Option (Mem × Int32) :=
  (X6_define σ p1).bind fun q => sel q.2 (fun v => some (setL q.1 91 0 v.toInt64, (0 : Int32))) (fun x => (if x = 0 then some (q.1, (1 : Int32)) else (if x = 1 then some (q.1, (2 : Int32)) else none)))
set_option maxHeartbeats 4000000 in
set_option maxRecDepth 100000 in
theorem cw_L_define (l : Launch) (hst : l.stackTraces = false) (G : Gw) {σ : Mem} {p1 : Int32} {out : Mem × Int32} (h : L_define σ p1 = some out) : Cw l G yL_define cL_define 4 [(0, 9, 12, 13), (0, 9, 15, 15)] { frames := 7, cells := 1, slots := 6, locals := 160 } [.ref (gA G 81), .int p1, .ref (gA G 91)] σ out.1 out.2 := by
  refine Cw.of (by decide +kernel) (Nat.le_of_ble_eq_true rfl) (fun E hE C F hT hN => ?_)
  subst hE
  have C : Cx E G RL cL_define 4 { frames := 7, cells := 1, slots := 6, locals := 160 } := C
  unfold L_define at h
  show J E G 4 0 0 σ 0 [(0, .ref (gA G 81)), (1, .int p1), (2, .ref (gA G 91))] []
  refine j_aload_n C dL_define_0 rfl 2 rfl 1 rfl ?_
  refine j_iconst C dL_define_1 (0 : Int32) (by decide) 2 rfl ?_
  refine j_aload_n C dL_define_2 rfl 0 rfl 3 rfl ?_
  refine j_iload_n C dL_define_3 rfl 1 rfl 4 rfl ?_
  obtain ⟨q, e, h⟩ := ob_some h
  rcases sel_some h with ⟨v, hq, h⟩ | ⟨x, hq, h⟩
  · have e : X6_define σ p1 = some (q.1, .inl v) := by rw [e, ← hq]
    refine j_callV C (ct_X6_define (eL E) G (out := (q.1, v)) e) sh81 foX6 rfl vk_X6_define kw4_34 rfl ⟨Nat.le_of_ble_eq_true rfl, Nat.le_of_ble_eq_true rfl, rfl, rfl⟩ ⟨Nat.zero_le _, Nat.zero_le _⟩ (rest := [.int (0 : Int32), .ref (gA G 91)]) rfl (Nat.le_of_ble_eq_true rfl) dL_define_4 (st1 := [.int v, .int (0 : Int32), .ref (gA G 91)]) rfl 7 rfl ?_
    refine j_i2l C dL_define_7 8 rfl ?_
    refine j_last C sh91 (by decide) dL_define_8 0 rfl (setL q.1 91 0 v.toInt64) rfl 9 rfl ?_
    refine j_goto C dL_define_9 18 (by decide) ?_
    refine j_iconst C dL_define_18 (0 : Int32) (by decide) 19 rfl ?_
    refine j_widen (k' := 1) (n' := 6) (by decide) (by decide) ?_
    exact j_iret C F dL_define_19 h
  · have e : X6_define σ p1 = some (q.1, .inr x) := by rw [e, ← hq]
    by_cases c0 : x = 0
    · subst c0
      have h := it_t rfl h
      refine j_catch C (cx_X6_define (eL E) hst G e) sh81 foX6 rfl vk_X6_define kw4_34 rfl ⟨Nat.le_of_ble_eq_true rfl, Nat.le_of_ble_eq_true rfl, rfl, rfl⟩ ⟨Nat.le_of_ble_eq_true rfl, Nat.le_of_ble_eq_true rfl⟩ (rest := [.int (0 : Int32), .ref (gA G 91)]) rfl (Nat.le_of_ble_eq_true rfl) dL_define_4 [] ⟨0, 9, 12, 13⟩ [⟨0, 9, 15, 15⟩] hT (fun u hu => absurd hu List.not_mem_nil) (by decide) (by decide) kw3_179 (List.mem_of_getElem? (i := 3) rfl) 12 rfl (fun qq => ?_)
      refine j_astore_n C dL_define_12 rfl (by decide) [(3, .ref qq), (0, .ref (gA G 81)), (1, .int p1), (2, .ref (gA G 91))] rfl 13 rfl ?_
      refine j_iconst C dL_define_13 (1 : Int32) (by decide) 14 rfl ?_
      exact j_iret C F dL_define_14 h
    have h := it_f c0 h
    by_cases c1 : x = 1
    · subst c1
      have h := it_t rfl h
      refine j_catch C (cx_X6_define (eL E) hst G e) sh81 foX6 rfl vk_X6_define kw4_34 rfl ⟨Nat.le_of_ble_eq_true rfl, Nat.le_of_ble_eq_true rfl, rfl, rfl⟩ ⟨Nat.le_of_ble_eq_true rfl, Nat.le_of_ble_eq_true rfl⟩ (rest := [.int (0 : Int32), .ref (gA G 91)]) rfl (Nat.le_of_ble_eq_true rfl) dL_define_4 [⟨0, 9, 12, 13⟩] ⟨0, 9, 15, 15⟩ [] hT (fun u hu => by rw [List.mem_singleton.mp hu]; exact Or.inr ⟨by decide, _, kw3_179, hN.1⟩) (by decide) (by decide) kw3_180 (List.mem_of_getElem? (i := 4) rfl) 15 rfl (fun qq => ?_)
      refine j_astore_n C dL_define_15 rfl (by decide) [(3, .ref qq), (0, .ref (gA G 81)), (1, .int p1), (2, .ref (gA G 91))] rfl 16 rfl ?_
      refine j_iconst C dL_define_16 (2 : Int32) (by decide) 17 rfl ?_
      exact j_iret C F dL_define_17 h
    have h := it_f c1 h
    cases h
theorem wd_L_define : yL_define.cls ≠ "java/lang/invoke/MethodHandle" ∧ yL_define.cls ≠ "java/lang/invoke/VarHandle" ∧ (parseMethodDescriptor yL_define.desc).map (fun d => d.parameters.length) = some 3 := by decide +kernel

def L_remove (σ : Mem) (p1 : Int32) : Option (Mem × Int32) :=
  (X6_remove σ p1).bind fun q => sel q.2 (fun v => some (setL q.1 91 0 v.toInt64, (0 : Int32))) (fun x => (if x = 2 then some (q.1, (1 : Int32)) else none))
set_option maxHeartbeats 4000000 in
set_option maxRecDepth 100000 in
theorem cw_L_remove (l : Launch) (hst : l.stackTraces = false) (G : Gw) {σ : Mem} {p1 : Int32} {out : Mem × Int32} (h : L_remove σ p1 = some out) : Cw l G yL_remove cL_remove 4 [(0, 9, 12, 25)] { frames := 7, cells := 1, slots := 6, locals := 128 } [.ref (gA G 81), .int p1, .ref (gA G 91)] σ out.1 out.2 := by
  refine Cw.of (by decide +kernel) (Nat.le_of_ble_eq_true rfl) (fun E hE C F hT hN => ?_)
  subst hE
  have C : Cx E G RL cL_remove 4 { frames := 7, cells := 1, slots := 6, locals := 128 } := C
  unfold L_remove at h
  show J E G 4 0 0 σ 0 [(0, .ref (gA G 81)), (1, .int p1), (2, .ref (gA G 91))] []
  refine j_aload_n C dL_remove_0 rfl 2 rfl 1 rfl ?_
  refine j_iconst C dL_remove_1 (0 : Int32) (by decide) 2 rfl ?_
  refine j_aload_n C dL_remove_2 rfl 0 rfl 3 rfl ?_
  refine j_iload_n C dL_remove_3 rfl 1 rfl 4 rfl ?_
  obtain ⟨q, e, h⟩ := ob_some h
  rcases sel_some h with ⟨v, hq, h⟩ | ⟨x, hq, h⟩
  · have e : X6_remove σ p1 = some (q.1, .inl v) := by rw [e, ← hq]
    refine j_callV C (ct_X6_remove (eL E) G (out := (q.1, v)) e) sh81 foX6 rfl vk_X6_remove kw4_58 rfl ⟨Nat.le_of_ble_eq_true rfl, Nat.le_of_ble_eq_true rfl, rfl, rfl⟩ ⟨Nat.zero_le _, Nat.zero_le _⟩ (rest := [.int (0 : Int32), .ref (gA G 91)]) rfl (Nat.le_of_ble_eq_true rfl) dL_remove_4 (st1 := [.int v, .int (0 : Int32), .ref (gA G 91)]) rfl 7 rfl ?_
    refine j_i2l C dL_remove_7 8 rfl ?_
    refine j_last C sh91 (by decide) dL_remove_8 0 rfl (setL q.1 91 0 v.toInt64) rfl 9 rfl ?_
    refine j_goto C dL_remove_9 15 (by decide) ?_
    refine j_iconst C dL_remove_15 (0 : Int32) (by decide) 16 rfl ?_
    refine j_widen (k' := 1) (n' := 6) (by decide) (by decide) ?_
    exact j_iret C F dL_remove_16 h
  · have e : X6_remove σ p1 = some (q.1, .inr x) := by rw [e, ← hq]
    by_cases c0 : x = 2
    · subst c0
      have h := it_t rfl h
      refine j_catch C (cx_X6_remove (eL E) hst G e) sh81 foX6 rfl vk_X6_remove kw4_58 rfl ⟨Nat.le_of_ble_eq_true rfl, Nat.le_of_ble_eq_true rfl, rfl, rfl⟩ ⟨Nat.le_of_ble_eq_true rfl, Nat.le_of_ble_eq_true rfl⟩ (rest := [.int (0 : Int32), .ref (gA G 91)]) rfl (Nat.le_of_ble_eq_true rfl) dL_remove_4 [] ⟨0, 9, 12, 25⟩ [] hT (fun u hu => absurd hu List.not_mem_nil) (by decide) (by decide) kw3_239 (List.mem_of_getElem? (i := 5) rfl) 12 rfl (fun qq => ?_)
      refine j_astore_n C dL_remove_12 rfl (by decide) [(3, .ref qq), (0, .ref (gA G 81)), (1, .int p1), (2, .ref (gA G 91))] rfl 13 rfl ?_
      refine j_iconst C dL_remove_13 (1 : Int32) (by decide) 14 rfl ?_
      exact j_iret C F dL_remove_14 h
    have h := it_f c0 h
    cases h
theorem wd_L_remove : yL_remove.cls ≠ "java/lang/invoke/MethodHandle" ∧ yL_remove.cls ≠ "java/lang/invoke/VarHandle" ∧ (parseMethodDescriptor yL_remove.desc).map (fun d => d.parameters.length) = some 3 := by decide +kernel

def L_set (σ : Mem) (p1 : Int32) (p2 : Int32) : Option (Mem × Int32) :=
  (X6_set σ p1 p2).bind fun q => sel q.2 (fun v => some (setL q.1 91 0 v.toInt64, (0 : Int32))) (fun x => (if x = 2 then some (q.1, (1 : Int32)) else (if x = 0 then some (q.1, (2 : Int32)) else none)))
set_option maxHeartbeats 4000000 in
set_option maxRecDepth 100000 in
theorem cw_L_set (l : Launch) (hst : l.stackTraces = false) (G : Gw) {σ : Mem} {p1 : Int32} {p2 : Int32} {out : Mem × Int32} (h : L_set σ p1 p2 = some out) : Cw l G yL_set cL_set 5 [(0, 10, 13, 25), (0, 10, 17, 13)] { frames := 7, cells := 1, slots := 6, locals := 130 } [.ref (gA G 81), .int p1, .int p2, .ref (gA G 91)] σ out.1 out.2 := by
  refine Cw.of (by decide +kernel) (Nat.le_of_ble_eq_true rfl) (fun E hE C F hT hN => ?_)
  subst hE
  have C : Cx E G RL cL_set 5 { frames := 7, cells := 1, slots := 6, locals := 130 } := C
  unfold L_set at h
  show J E G 5 0 0 σ 0 [(0, .ref (gA G 81)), (1, .int p1), (2, .int p2), (3, .ref (gA G 91))] []
  refine j_aload_n C dL_set_0 rfl 3 rfl 1 rfl ?_
  refine j_iconst C dL_set_1 (0 : Int32) (by decide) 2 rfl ?_
  refine j_aload_n C dL_set_2 rfl 0 rfl 3 rfl ?_
  refine j_iload_n C dL_set_3 rfl 1 rfl 4 rfl ?_
  refine j_iload_n C dL_set_4 rfl 2 rfl 5 rfl ?_
  obtain ⟨q, e, h⟩ := ob_some h
  rcases sel_some h with ⟨v, hq, h⟩ | ⟨x, hq, h⟩
  · have e : X6_set σ p1 p2 = some (q.1, .inl v) := by rw [e, ← hq]
    refine j_callV C (ct_X6_set (eL E) G (out := (q.1, v)) e) sh81 foX6 rfl vk_X6_set kw4_70 rfl ⟨Nat.le_of_ble_eq_true rfl, Nat.le_of_ble_eq_true rfl, rfl, rfl⟩ ⟨Nat.zero_le _, Nat.zero_le _⟩ (rest := [.int (0 : Int32), .ref (gA G 91)]) rfl (Nat.le_of_ble_eq_true rfl) dL_set_5 (st1 := [.int v, .int (0 : Int32), .ref (gA G 91)]) rfl 8 rfl ?_
    refine j_i2l C dL_set_8 9 rfl ?_
    refine j_last C sh91 (by decide) dL_set_9 0 rfl (setL q.1 91 0 v.toInt64) rfl 10 rfl ?_
    refine j_goto C dL_set_10 21 (by decide) ?_
    refine j_iconst C dL_set_21 (0 : Int32) (by decide) 22 rfl ?_
    refine j_widen (k' := 1) (n' := 6) (by decide) (by decide) ?_
    exact j_iret C F dL_set_22 h
  · have e : X6_set σ p1 p2 = some (q.1, .inr x) := by rw [e, ← hq]
    by_cases c0 : x = 2
    · subst c0
      have h := it_t rfl h
      refine j_catch C (cx_X6_set (eL E) hst G e) sh81 foX6 rfl vk_X6_set kw4_70 rfl ⟨Nat.le_of_ble_eq_true rfl, Nat.le_of_ble_eq_true rfl, rfl, rfl⟩ ⟨Nat.le_of_ble_eq_true rfl, Nat.le_of_ble_eq_true rfl⟩ (rest := [.int (0 : Int32), .ref (gA G 91)]) rfl (Nat.le_of_ble_eq_true rfl) dL_set_5 [] ⟨0, 10, 13, 25⟩ [⟨0, 10, 17, 13⟩] hT (fun u hu => absurd hu List.not_mem_nil) (by decide) (by decide) kw3_239 (List.mem_of_getElem? (i := 5) rfl) 13 rfl (fun qq => ?_)
      refine j_astore C dL_set_13 (by decide) [(4, .ref qq), (0, .ref (gA G 81)), (1, .int p1), (2, .int p2), (3, .ref (gA G 91))] rfl 15 rfl ?_
      refine j_iconst C dL_set_15 (1 : Int32) (by decide) 16 rfl ?_
      exact j_iret C F dL_set_16 h
    have h := it_f c0 h
    by_cases c1 : x = 0
    · subst c1
      have h := it_t rfl h
      refine j_catch C (cx_X6_set (eL E) hst G e) sh81 foX6 rfl vk_X6_set kw4_70 rfl ⟨Nat.le_of_ble_eq_true rfl, Nat.le_of_ble_eq_true rfl, rfl, rfl⟩ ⟨Nat.le_of_ble_eq_true rfl, Nat.le_of_ble_eq_true rfl⟩ (rest := [.int (0 : Int32), .ref (gA G 91)]) rfl (Nat.le_of_ble_eq_true rfl) dL_set_5 [⟨0, 10, 13, 25⟩] ⟨0, 10, 17, 13⟩ [] hT (fun u hu => by rw [List.mem_singleton.mp hu]; exact Or.inr ⟨by decide, _, kw3_239, hN.2.2⟩) (by decide) (by decide) kw3_179 (List.mem_of_getElem? (i := 3) rfl) 17 rfl (fun qq => ?_)
      refine j_astore C dL_set_17 (by decide) [(4, .ref qq), (0, .ref (gA G 81)), (1, .int p1), (2, .int p2), (3, .ref (gA G 91))] rfl 19 rfl ?_
      refine j_iconst C dL_set_19 (2 : Int32) (by decide) 20 rfl ?_
      exact j_iret C F dL_set_20 h
    have h := it_f c1 h
    cases h
theorem wd_L_set : yL_set.cls ≠ "java/lang/invoke/MethodHandle" ∧ yL_set.cls ≠ "java/lang/invoke/VarHandle" ∧ (parseMethodDescriptor yL_set.desc).map (fun d => d.parameters.length) = some 4 := by decide +kernel

def L_append (σ : Mem) (p1 : Int32) : Option (Mem × Int32) :=
  (X6_append σ p1).bind fun q => sel q.2 (fun v => some (setL q.1 91 0 v.toInt64, (0 : Int32))) (fun x => (if x = 0 then some (q.1, (1 : Int32)) else (if x = 1 then some (q.1, (2 : Int32)) else none)))
set_option maxHeartbeats 4000000 in
set_option maxRecDepth 100000 in
theorem cw_L_append (l : Launch) (hst : l.stackTraces = false) (G : Gw) {σ : Mem} {p1 : Int32} {out : Mem × Int32} (h : L_append σ p1 = some out) : Cw l G yL_append cL_append 4 [(0, 9, 12, 13), (0, 9, 15, 15)] { frames := 7, cells := 1, slots := 6, locals := 103 } [.ref (gA G 81), .int p1, .ref (gA G 91)] σ out.1 out.2 := by
  refine Cw.of (by decide +kernel) (Nat.le_of_ble_eq_true rfl) (fun E hE C F hT hN => ?_)
  subst hE
  have C : Cx E G RL cL_append 4 { frames := 7, cells := 1, slots := 6, locals := 103 } := C
  unfold L_append at h
  show J E G 4 0 0 σ 0 [(0, .ref (gA G 81)), (1, .int p1), (2, .ref (gA G 91))] []
  refine j_aload_n C dL_append_0 rfl 2 rfl 1 rfl ?_
  refine j_iconst C dL_append_1 (0 : Int32) (by decide) 2 rfl ?_
  refine j_aload_n C dL_append_2 rfl 0 rfl 3 rfl ?_
  refine j_iload_n C dL_append_3 rfl 1 rfl 4 rfl ?_
  obtain ⟨q, e, h⟩ := ob_some h
  rcases sel_some h with ⟨v, hq, h⟩ | ⟨x, hq, h⟩
  · have e : X6_append σ p1 = some (q.1, .inl v) := by rw [e, ← hq]
    refine j_callV C (ct_X6_append (eL E) G (out := (q.1, v)) e) sh81 foX6 rfl vk_X6_append kw4_82 rfl ⟨Nat.le_of_ble_eq_true rfl, Nat.le_of_ble_eq_true rfl, rfl, rfl⟩ ⟨Nat.zero_le _, Nat.zero_le _⟩ (rest := [.int (0 : Int32), .ref (gA G 91)]) rfl (Nat.le_of_ble_eq_true rfl) dL_append_4 (st1 := [.int v, .int (0 : Int32), .ref (gA G 91)]) rfl 7 rfl ?_
    refine j_i2l C dL_append_7 8 rfl ?_
    refine j_last C sh91 (by decide) dL_append_8 0 rfl (setL q.1 91 0 v.toInt64) rfl 9 rfl ?_
    refine j_goto C dL_append_9 18 (by decide) ?_
    refine j_iconst C dL_append_18 (0 : Int32) (by decide) 19 rfl ?_
    refine j_widen (k' := 1) (n' := 6) (by decide) (by decide) ?_
    exact j_iret C F dL_append_19 h
  · have e : X6_append σ p1 = some (q.1, .inr x) := by rw [e, ← hq]
    by_cases c0 : x = 0
    · subst c0
      have h := it_t rfl h
      refine j_catch C (cx_X6_append (eL E) hst G e) sh81 foX6 rfl vk_X6_append kw4_82 rfl ⟨Nat.le_of_ble_eq_true rfl, Nat.le_of_ble_eq_true rfl, rfl, rfl⟩ ⟨Nat.le_of_ble_eq_true rfl, Nat.le_of_ble_eq_true rfl⟩ (rest := [.int (0 : Int32), .ref (gA G 91)]) rfl (Nat.le_of_ble_eq_true rfl) dL_append_4 [] ⟨0, 9, 12, 13⟩ [⟨0, 9, 15, 15⟩] hT (fun u hu => absurd hu List.not_mem_nil) (by decide) (by decide) kw3_179 (List.mem_of_getElem? (i := 3) rfl) 12 rfl (fun qq => ?_)
      refine j_astore_n C dL_append_12 rfl (by decide) [(3, .ref qq), (0, .ref (gA G 81)), (1, .int p1), (2, .ref (gA G 91))] rfl 13 rfl ?_
      refine j_iconst C dL_append_13 (1 : Int32) (by decide) 14 rfl ?_
      exact j_iret C F dL_append_14 h
    have h := it_f c0 h
    by_cases c1 : x = 1
    · subst c1
      have h := it_t rfl h
      refine j_catch C (cx_X6_append (eL E) hst G e) sh81 foX6 rfl vk_X6_append kw4_82 rfl ⟨Nat.le_of_ble_eq_true rfl, Nat.le_of_ble_eq_true rfl, rfl, rfl⟩ ⟨Nat.le_of_ble_eq_true rfl, Nat.le_of_ble_eq_true rfl⟩ (rest := [.int (0 : Int32), .ref (gA G 91)]) rfl (Nat.le_of_ble_eq_true rfl) dL_append_4 [⟨0, 9, 12, 13⟩] ⟨0, 9, 15, 15⟩ [] hT (fun u hu => by rw [List.mem_singleton.mp hu]; exact Or.inr ⟨by decide, _, kw3_179, hN.1⟩) (by decide) (by decide) kw3_180 (List.mem_of_getElem? (i := 4) rfl) 15 rfl (fun qq => ?_)
      refine j_astore_n C dL_append_15 rfl (by decide) [(3, .ref qq), (0, .ref (gA G 81)), (1, .int p1), (2, .ref (gA G 91))] rfl 16 rfl ?_
      refine j_iconst C dL_append_16 (2 : Int32) (by decide) 17 rfl ?_
      exact j_iret C F dL_append_17 h
    have h := it_f c1 h
    cases h
theorem wd_L_append : yL_append.cls ≠ "java/lang/invoke/MethodHandle" ∧ yL_append.cls ≠ "java/lang/invoke/VarHandle" ∧ (parseMethodDescriptor yL_append.desc).map (fun d => d.parameters.length) = some 3 := by decide +kernel

def L_goBack (σ : Mem) : Option (Mem × Int32) :=
  (X6_goBack σ ).bind fun q => sel q.2 (fun v => some (setL q.1 91 0 v.toInt64, (0 : Int32))) (fun x => (if x = 1 then some (q.1, (1 : Int32)) else none))
set_option maxHeartbeats 4000000 in
set_option maxRecDepth 100000 in
theorem cw_L_goBack (l : Launch) (hst : l.stackTraces = false) (G : Gw) {σ : Mem} {out : Mem × Int32} (h : L_goBack σ  = some out) : Cw l G yL_goBack cL_goBack 3 [(0, 8, 11, 15)] { frames := 7, cells := 1, slots := 6, locals := 127 } [.ref (gA G 81), .ref (gA G 91)] σ out.1 out.2 := by
  refine Cw.of (by decide +kernel) (Nat.le_of_ble_eq_true rfl) (fun E hE C F hT hN => ?_)
  subst hE
  have C : Cx E G RL cL_goBack 3 { frames := 7, cells := 1, slots := 6, locals := 127 } := C
  unfold L_goBack at h
  show J E G 3 0 0 σ 0 [(0, .ref (gA G 81)), (1, .ref (gA G 91))] []
  refine j_aload_n C dL_goBack_0 rfl 1 rfl 1 rfl ?_
  refine j_iconst C dL_goBack_1 (0 : Int32) (by decide) 2 rfl ?_
  refine j_aload_n C dL_goBack_2 rfl 0 rfl 3 rfl ?_
  obtain ⟨q, e, h⟩ := ob_some h
  rcases sel_some h with ⟨v, hq, h⟩ | ⟨x, hq, h⟩
  · have e : X6_goBack σ  = some (q.1, .inl v) := by rw [e, ← hq]
    refine j_callV C (ct_X6_goBack (eL E) G (out := (q.1, v)) e) sh81 foX6 rfl vk_X6_goBack kw4_100 rfl ⟨Nat.le_of_ble_eq_true rfl, Nat.le_of_ble_eq_true rfl, rfl, rfl⟩ ⟨Nat.zero_le _, Nat.zero_le _⟩ (rest := [.int (0 : Int32), .ref (gA G 91)]) rfl (Nat.le_of_ble_eq_true rfl) dL_goBack_3 (st1 := [.int v, .int (0 : Int32), .ref (gA G 91)]) rfl 6 rfl ?_
    refine j_i2l C dL_goBack_6 7 rfl ?_
    refine j_last C sh91 (by decide) dL_goBack_7 0 rfl (setL q.1 91 0 v.toInt64) rfl 8 rfl ?_
    refine j_goto C dL_goBack_8 14 (by decide) ?_
    refine j_iconst C dL_goBack_14 (0 : Int32) (by decide) 15 rfl ?_
    refine j_widen (k' := 1) (n' := 6) (by decide) (by decide) ?_
    exact j_iret C F dL_goBack_15 h
  · have e : X6_goBack σ  = some (q.1, .inr x) := by rw [e, ← hq]
    by_cases c0 : x = 1
    · subst c0
      have h := it_t rfl h
      refine j_catch C (cx_X6_goBack (eL E) hst G e) sh81 foX6 rfl vk_X6_goBack kw4_100 rfl ⟨Nat.le_of_ble_eq_true rfl, Nat.le_of_ble_eq_true rfl, rfl, rfl⟩ ⟨Nat.le_of_ble_eq_true rfl, Nat.le_of_ble_eq_true rfl⟩ (rest := [.int (0 : Int32), .ref (gA G 91)]) rfl (Nat.le_of_ble_eq_true rfl) dL_goBack_3 [] ⟨0, 8, 11, 15⟩ [] hT (fun u hu => absurd hu List.not_mem_nil) (by decide) (by decide) kw3_180 (List.mem_of_getElem? (i := 4) rfl) 11 rfl (fun qq => ?_)
      refine j_astore_n C dL_goBack_11 rfl (by decide) [(2, .ref qq), (0, .ref (gA G 81)), (1, .ref (gA G 91))] rfl 12 rfl ?_
      refine j_iconst C dL_goBack_12 (1 : Int32) (by decide) 13 rfl ?_
      exact j_iret C F dL_goBack_13 h
    have h := it_f c0 h
    cases h
theorem wd_L_goBack : yL_goBack.cls ≠ "java/lang/invoke/MethodHandle" ∧ yL_goBack.cls ≠ "java/lang/invoke/VarHandle" ∧ (parseMethodDescriptor yL_goBack.desc).map (fun d => d.parameters.length) = some 2 := by decide +kernel

def L_undo (σ : Mem) : Option (Mem × Int32) :=
  (X6_undo σ ).bind fun q => sel q.2 (fun v => some (setL q.1 91 0 v.toInt64, (0 : Int32))) (fun x => (if x = 1 then some (q.1, (1 : Int32)) else none))
set_option maxHeartbeats 4000000 in
set_option maxRecDepth 100000 in
theorem cw_L_undo (l : Launch) (hst : l.stackTraces = false) (G : Gw) {σ : Mem} {out : Mem × Int32} (h : L_undo σ  = some out) : Cw l G yL_undo cL_undo 3 [(0, 8, 11, 15)] { frames := 7, cells := 1, slots := 6, locals := 127 } [.ref (gA G 81), .ref (gA G 91)] σ out.1 out.2 := by
  refine Cw.of (by decide +kernel) (Nat.le_of_ble_eq_true rfl) (fun E hE C F hT hN => ?_)
  subst hE
  have C : Cx E G RL cL_undo 3 { frames := 7, cells := 1, slots := 6, locals := 127 } := C
  unfold L_undo at h
  show J E G 3 0 0 σ 0 [(0, .ref (gA G 81)), (1, .ref (gA G 91))] []
  refine j_aload_n C dL_undo_0 rfl 1 rfl 1 rfl ?_
  refine j_iconst C dL_undo_1 (0 : Int32) (by decide) 2 rfl ?_
  refine j_aload_n C dL_undo_2 rfl 0 rfl 3 rfl ?_
  obtain ⟨q, e, h⟩ := ob_some h
  rcases sel_some h with ⟨v, hq, h⟩ | ⟨x, hq, h⟩
  · have e : X6_undo σ  = some (q.1, .inl v) := by rw [e, ← hq]
    refine j_callV C (ct_X6_undo (eL E) G (out := (q.1, v)) e) sh81 foX6 rfl vk_X6_undo kw4_108 rfl ⟨Nat.le_of_ble_eq_true rfl, Nat.le_of_ble_eq_true rfl, rfl, rfl⟩ ⟨Nat.zero_le _, Nat.zero_le _⟩ (rest := [.int (0 : Int32), .ref (gA G 91)]) rfl (Nat.le_of_ble_eq_true rfl) dL_undo_3 (st1 := [.int v, .int (0 : Int32), .ref (gA G 91)]) rfl 6 rfl ?_
    refine j_i2l C dL_undo_6 7 rfl ?_
    refine j_last C sh91 (by decide) dL_undo_7 0 rfl (setL q.1 91 0 v.toInt64) rfl 8 rfl ?_
    refine j_goto C dL_undo_8 14 (by decide) ?_
    refine j_iconst C dL_undo_14 (0 : Int32) (by decide) 15 rfl ?_
    refine j_widen (k' := 1) (n' := 6) (by decide) (by decide) ?_
    exact j_iret C F dL_undo_15 h
  · have e : X6_undo σ  = some (q.1, .inr x) := by rw [e, ← hq]
    by_cases c0 : x = 1
    · subst c0
      have h := it_t rfl h
      refine j_catch C (cx_X6_undo (eL E) hst G e) sh81 foX6 rfl vk_X6_undo kw4_108 rfl ⟨Nat.le_of_ble_eq_true rfl, Nat.le_of_ble_eq_true rfl, rfl, rfl⟩ ⟨Nat.le_of_ble_eq_true rfl, Nat.le_of_ble_eq_true rfl⟩ (rest := [.int (0 : Int32), .ref (gA G 91)]) rfl (Nat.le_of_ble_eq_true rfl) dL_undo_3 [] ⟨0, 8, 11, 15⟩ [] hT (fun u hu => absurd hu List.not_mem_nil) (by decide) (by decide) kw3_180 (List.mem_of_getElem? (i := 4) rfl) 11 rfl (fun qq => ?_)
      refine j_astore_n C dL_undo_11 rfl (by decide) [(2, .ref qq), (0, .ref (gA G 81)), (1, .ref (gA G 91))] rfl 12 rfl ?_
      refine j_iconst C dL_undo_12 (1 : Int32) (by decide) 13 rfl ?_
      exact j_iret C F dL_undo_13 h
    have h := it_f c0 h
    cases h
theorem wd_L_undo : yL_undo.cls ≠ "java/lang/invoke/MethodHandle" ∧ yL_undo.cls ≠ "java/lang/invoke/VarHandle" ∧ (parseMethodDescriptor yL_undo.desc).map (fun d => d.parameters.length) = some 2 := by decide +kernel

def L_stroke (σ : Mem) (p1 : Int32) : Option (Mem × Int32) :=
  (X6_stroke σ p1).bind fun q => sel q.2 (fun v => some (setL q.1 91 0 v.toInt64, (0 : Int32))) (fun x => (if x = 2 then some (q.1, (1 : Int32)) else none))
set_option maxHeartbeats 4000000 in
set_option maxRecDepth 100000 in
theorem cw_L_stroke (l : Launch) (hst : l.stackTraces = false) (G : Gw) {σ : Mem} {p1 : Int32} {out : Mem × Int32} (h : L_stroke σ p1 = some out) : Cw l G yL_stroke cL_stroke 4 [(0, 9, 12, 25)] { frames := 7, cells := 1, slots := 6, locals := 103 } [.ref (gA G 81), .int p1, .ref (gA G 91)] σ out.1 out.2 := by
  refine Cw.of (by decide +kernel) (Nat.le_of_ble_eq_true rfl) (fun E hE C F hT hN => ?_)
  subst hE
  have C : Cx E G RL cL_stroke 4 { frames := 7, cells := 1, slots := 6, locals := 103 } := C
  unfold L_stroke at h
  show J E G 4 0 0 σ 0 [(0, .ref (gA G 81)), (1, .int p1), (2, .ref (gA G 91))] []
  refine j_aload_n C dL_stroke_0 rfl 2 rfl 1 rfl ?_
  refine j_iconst C dL_stroke_1 (0 : Int32) (by decide) 2 rfl ?_
  refine j_aload_n C dL_stroke_2 rfl 0 rfl 3 rfl ?_
  refine j_iload_n C dL_stroke_3 rfl 1 rfl 4 rfl ?_
  obtain ⟨q, e, h⟩ := ob_some h
  rcases sel_some h with ⟨v, hq, h⟩ | ⟨x, hq, h⟩
  · have e : X6_stroke σ p1 = some (q.1, .inl v) := by rw [e, ← hq]
    refine j_callV C (ct_X6_stroke (eL E) G (out := (q.1, v)) e) sh81 foX6 rfl vk_X6_stroke kw4_120 rfl ⟨Nat.le_of_ble_eq_true rfl, Nat.le_of_ble_eq_true rfl, rfl, rfl⟩ ⟨Nat.zero_le _, Nat.zero_le _⟩ (rest := [.int (0 : Int32), .ref (gA G 91)]) rfl (Nat.le_of_ble_eq_true rfl) dL_stroke_4 (st1 := [.int v, .int (0 : Int32), .ref (gA G 91)]) rfl 7 rfl ?_
    refine j_i2l C dL_stroke_7 8 rfl ?_
    refine j_last C sh91 (by decide) dL_stroke_8 0 rfl (setL q.1 91 0 v.toInt64) rfl 9 rfl ?_
    refine j_goto C dL_stroke_9 15 (by decide) ?_
    refine j_iconst C dL_stroke_15 (0 : Int32) (by decide) 16 rfl ?_
    refine j_widen (k' := 1) (n' := 6) (by decide) (by decide) ?_
    exact j_iret C F dL_stroke_16 h
  · have e : X6_stroke σ p1 = some (q.1, .inr x) := by rw [e, ← hq]
    by_cases c0 : x = 2
    · subst c0
      have h := it_t rfl h
      refine j_catch C (cx_X6_stroke (eL E) hst G e) sh81 foX6 rfl vk_X6_stroke kw4_120 rfl ⟨Nat.le_of_ble_eq_true rfl, Nat.le_of_ble_eq_true rfl, rfl, rfl⟩ ⟨Nat.le_of_ble_eq_true rfl, Nat.le_of_ble_eq_true rfl⟩ (rest := [.int (0 : Int32), .ref (gA G 91)]) rfl (Nat.le_of_ble_eq_true rfl) dL_stroke_4 [] ⟨0, 9, 12, 25⟩ [] hT (fun u hu => absurd hu List.not_mem_nil) (by decide) (by decide) kw3_239 (List.mem_of_getElem? (i := 5) rfl) 12 rfl (fun qq => ?_)
      refine j_astore_n C dL_stroke_12 rfl (by decide) [(3, .ref qq), (0, .ref (gA G 81)), (1, .int p1), (2, .ref (gA G 91))] rfl 13 rfl ?_
      refine j_iconst C dL_stroke_13 (1 : Int32) (by decide) 14 rfl ?_
      exact j_iret C F dL_stroke_14 h
    have h := it_f c0 h
    cases h
theorem wd_L_stroke : yL_stroke.cls ≠ "java/lang/invoke/MethodHandle" ∧ yL_stroke.cls ≠ "java/lang/invoke/VarHandle" ∧ (parseMethodDescriptor yL_stroke.desc).map (fun d => d.parameters.length) = some 3 := by decide +kernel

def L_item (σ : Mem) (p1 : Int32) (p2 : Int32) : Option (Mem × Int32) :=
  (X6_item σ p1 p2).bind fun q => sel q.2 (fun v => some (setL q.1 91 0 v.toInt64, (0 : Int32))) (fun x => (if x = 2 then some (q.1, (1 : Int32)) else (if x = 0 then some (q.1, (2 : Int32)) else none)))
set_option maxHeartbeats 4000000 in
set_option maxRecDepth 100000 in
theorem cw_L_item (l : Launch) (hst : l.stackTraces = false) (G : Gw) {σ : Mem} {p1 : Int32} {p2 : Int32} {out : Mem × Int32} (h : L_item σ p1 p2 = some out) : Cw l G yL_item cL_item 5 [(0, 10, 13, 25), (0, 10, 17, 13)] { frames := 7, cells := 1, slots := 6, locals := 128 } [.ref (gA G 81), .int p1, .int p2, .ref (gA G 91)] σ out.1 out.2 := by
  refine Cw.of (by decide +kernel) (Nat.le_of_ble_eq_true rfl) (fun E hE C F hT hN => ?_)
  subst hE
  have C : Cx E G RL cL_item 5 { frames := 7, cells := 1, slots := 6, locals := 128 } := C
  unfold L_item at h
  show J E G 5 0 0 σ 0 [(0, .ref (gA G 81)), (1, .int p1), (2, .int p2), (3, .ref (gA G 91))] []
  refine j_aload_n C dL_item_0 rfl 3 rfl 1 rfl ?_
  refine j_iconst C dL_item_1 (0 : Int32) (by decide) 2 rfl ?_
  refine j_aload_n C dL_item_2 rfl 0 rfl 3 rfl ?_
  refine j_iload_n C dL_item_3 rfl 1 rfl 4 rfl ?_
  refine j_iload_n C dL_item_4 rfl 2 rfl 5 rfl ?_
  obtain ⟨q, e, h⟩ := ob_some h
  rcases sel_some h with ⟨v, hq, h⟩ | ⟨x, hq, h⟩
  · have e : X6_item σ p1 p2 = some (q.1, .inl v) := by rw [e, ← hq]
    refine j_callV C (ct_X6_item (eL E) G (out := (q.1, v)) e) sh81 foX6 rfl vk_X6_item kw4_129 rfl ⟨Nat.le_of_ble_eq_true rfl, Nat.le_of_ble_eq_true rfl, rfl, rfl⟩ ⟨Nat.zero_le _, Nat.zero_le _⟩ (rest := [.int (0 : Int32), .ref (gA G 91)]) rfl (Nat.le_of_ble_eq_true rfl) dL_item_5 (st1 := [.int v, .int (0 : Int32), .ref (gA G 91)]) rfl 8 rfl ?_
    refine j_i2l C dL_item_8 9 rfl ?_
    refine j_last C sh91 (by decide) dL_item_9 0 rfl (setL q.1 91 0 v.toInt64) rfl 10 rfl ?_
    refine j_goto C dL_item_10 21 (by decide) ?_
    refine j_iconst C dL_item_21 (0 : Int32) (by decide) 22 rfl ?_
    refine j_widen (k' := 1) (n' := 6) (by decide) (by decide) ?_
    exact j_iret C F dL_item_22 h
  · have e : X6_item σ p1 p2 = some (q.1, .inr x) := by rw [e, ← hq]
    by_cases c0 : x = 2
    · subst c0
      have h := it_t rfl h
      refine j_catch C (cx_X6_item (eL E) hst G e) sh81 foX6 rfl vk_X6_item kw4_129 rfl ⟨Nat.le_of_ble_eq_true rfl, Nat.le_of_ble_eq_true rfl, rfl, rfl⟩ ⟨Nat.le_of_ble_eq_true rfl, Nat.le_of_ble_eq_true rfl⟩ (rest := [.int (0 : Int32), .ref (gA G 91)]) rfl (Nat.le_of_ble_eq_true rfl) dL_item_5 [] ⟨0, 10, 13, 25⟩ [⟨0, 10, 17, 13⟩] hT (fun u hu => absurd hu List.not_mem_nil) (by decide) (by decide) kw3_239 (List.mem_of_getElem? (i := 5) rfl) 13 rfl (fun qq => ?_)
      refine j_astore C dL_item_13 (by decide) [(4, .ref qq), (0, .ref (gA G 81)), (1, .int p1), (2, .int p2), (3, .ref (gA G 91))] rfl 15 rfl ?_
      refine j_iconst C dL_item_15 (1 : Int32) (by decide) 16 rfl ?_
      exact j_iret C F dL_item_16 h
    have h := it_f c0 h
    by_cases c1 : x = 0
    · subst c1
      have h := it_t rfl h
      refine j_catch C (cx_X6_item (eL E) hst G e) sh81 foX6 rfl vk_X6_item kw4_129 rfl ⟨Nat.le_of_ble_eq_true rfl, Nat.le_of_ble_eq_true rfl, rfl, rfl⟩ ⟨Nat.le_of_ble_eq_true rfl, Nat.le_of_ble_eq_true rfl⟩ (rest := [.int (0 : Int32), .ref (gA G 91)]) rfl (Nat.le_of_ble_eq_true rfl) dL_item_5 [⟨0, 10, 13, 25⟩] ⟨0, 10, 17, 13⟩ [] hT (fun u hu => by rw [List.mem_singleton.mp hu]; exact Or.inr ⟨by decide, _, kw3_239, hN.2.2⟩) (by decide) (by decide) kw3_179 (List.mem_of_getElem? (i := 3) rfl) 17 rfl (fun qq => ?_)
      refine j_astore C dL_item_17 (by decide) [(4, .ref qq), (0, .ref (gA G 81)), (1, .int p1), (2, .int p2), (3, .ref (gA G 91))] rfl 19 rfl ?_
      refine j_iconst C dL_item_19 (2 : Int32) (by decide) 20 rfl ?_
      exact j_iret C F dL_item_20 h
    have h := it_f c1 h
    cases h
theorem wd_L_item : yL_item.cls ≠ "java/lang/invoke/MethodHandle" ∧ yL_item.cls ≠ "java/lang/invoke/VarHandle" ∧ (parseMethodDescriptor yL_item.desc).map (fun d => d.parameters.length) = some 4 := by decide +kernel

def L_entry (σ : Mem) (p1 : Int32) (p2 : Int32) : Option (Mem × Int32) :=
  (X6_entry σ p1 p2).bind fun q => sel q.2 (fun v => some (setL q.1 91 0 v.toInt64, (0 : Int32))) (fun x => (if x = 2 then some (q.1, (1 : Int32)) else (if x = 0 then some (q.1, (2 : Int32)) else none)))
set_option maxHeartbeats 4000000 in
set_option maxRecDepth 100000 in
theorem cw_L_entry (l : Launch) (hst : l.stackTraces = false) (G : Gw) {σ : Mem} {p1 : Int32} {p2 : Int32} {out : Mem × Int32} (h : L_entry σ p1 p2 = some out) : Cw l G yL_entry cL_entry 5 [(0, 10, 13, 25), (0, 10, 17, 13)] { frames := 7, cells := 1, slots := 6, locals := 118 } [.ref (gA G 81), .int p1, .int p2, .ref (gA G 91)] σ out.1 out.2 := by
  refine Cw.of (by decide +kernel) (Nat.le_of_ble_eq_true rfl) (fun E hE C F hT hN => ?_)
  subst hE
  have C : Cx E G RL cL_entry 5 { frames := 7, cells := 1, slots := 6, locals := 118 } := C
  unfold L_entry at h
  show J E G 5 0 0 σ 0 [(0, .ref (gA G 81)), (1, .int p1), (2, .int p2), (3, .ref (gA G 91))] []
  refine j_aload_n C dL_entry_0 rfl 3 rfl 1 rfl ?_
  refine j_iconst C dL_entry_1 (0 : Int32) (by decide) 2 rfl ?_
  refine j_aload_n C dL_entry_2 rfl 0 rfl 3 rfl ?_
  refine j_iload_n C dL_entry_3 rfl 1 rfl 4 rfl ?_
  refine j_iload_n C dL_entry_4 rfl 2 rfl 5 rfl ?_
  obtain ⟨q, e, h⟩ := ob_some h
  rcases sel_some h with ⟨v, hq, h⟩ | ⟨x, hq, h⟩
  · have e : X6_entry σ p1 p2 = some (q.1, .inl v) := by rw [e, ← hq]
    refine j_callV C (ct_X6_entry (eL E) G (out := (q.1, v)) e) sh81 foX6 rfl vk_X6_entry kw4_138 rfl ⟨Nat.le_of_ble_eq_true rfl, Nat.le_of_ble_eq_true rfl, rfl, rfl⟩ ⟨Nat.zero_le _, Nat.zero_le _⟩ (rest := [.int (0 : Int32), .ref (gA G 91)]) rfl (Nat.le_of_ble_eq_true rfl) dL_entry_5 (st1 := [.int v, .int (0 : Int32), .ref (gA G 91)]) rfl 8 rfl ?_
    refine j_i2l C dL_entry_8 9 rfl ?_
    refine j_last C sh91 (by decide) dL_entry_9 0 rfl (setL q.1 91 0 v.toInt64) rfl 10 rfl ?_
    refine j_goto C dL_entry_10 21 (by decide) ?_
    refine j_iconst C dL_entry_21 (0 : Int32) (by decide) 22 rfl ?_
    refine j_widen (k' := 1) (n' := 6) (by decide) (by decide) ?_
    exact j_iret C F dL_entry_22 h
  · have e : X6_entry σ p1 p2 = some (q.1, .inr x) := by rw [e, ← hq]
    by_cases c0 : x = 2
    · subst c0
      have h := it_t rfl h
      refine j_catch C (cx_X6_entry (eL E) hst G e) sh81 foX6 rfl vk_X6_entry kw4_138 rfl ⟨Nat.le_of_ble_eq_true rfl, Nat.le_of_ble_eq_true rfl, rfl, rfl⟩ ⟨Nat.le_of_ble_eq_true rfl, Nat.le_of_ble_eq_true rfl⟩ (rest := [.int (0 : Int32), .ref (gA G 91)]) rfl (Nat.le_of_ble_eq_true rfl) dL_entry_5 [] ⟨0, 10, 13, 25⟩ [⟨0, 10, 17, 13⟩] hT (fun u hu => absurd hu List.not_mem_nil) (by decide) (by decide) kw3_239 (List.mem_of_getElem? (i := 5) rfl) 13 rfl (fun qq => ?_)
      refine j_astore C dL_entry_13 (by decide) [(4, .ref qq), (0, .ref (gA G 81)), (1, .int p1), (2, .int p2), (3, .ref (gA G 91))] rfl 15 rfl ?_
      refine j_iconst C dL_entry_15 (1 : Int32) (by decide) 16 rfl ?_
      exact j_iret C F dL_entry_16 h
    have h := it_f c0 h
    by_cases c1 : x = 0
    · subst c1
      have h := it_t rfl h
      refine j_catch C (cx_X6_entry (eL E) hst G e) sh81 foX6 rfl vk_X6_entry kw4_138 rfl ⟨Nat.le_of_ble_eq_true rfl, Nat.le_of_ble_eq_true rfl, rfl, rfl⟩ ⟨Nat.le_of_ble_eq_true rfl, Nat.le_of_ble_eq_true rfl⟩ (rest := [.int (0 : Int32), .ref (gA G 91)]) rfl (Nat.le_of_ble_eq_true rfl) dL_entry_5 [⟨0, 10, 13, 25⟩] ⟨0, 10, 17, 13⟩ [] hT (fun u hu => by rw [List.mem_singleton.mp hu]; exact Or.inr ⟨by decide, _, kw3_239, hN.2.2⟩) (by decide) (by decide) kw3_179 (List.mem_of_getElem? (i := 3) rfl) 17 rfl (fun qq => ?_)
      refine j_astore C dL_entry_17 (by decide) [(4, .ref qq), (0, .ref (gA G 81)), (1, .int p1), (2, .int p2), (3, .ref (gA G 91))] rfl 19 rfl ?_
      refine j_iconst C dL_entry_19 (2 : Int32) (by decide) 20 rfl ?_
      exact j_iret C F dL_entry_20 h
    have h := it_f c1 h
    cases h
theorem wd_L_entry : yL_entry.cls ≠ "java/lang/invoke/MethodHandle" ∧ yL_entry.cls ≠ "java/lang/invoke/VarHandle" ∧ (parseMethodDescriptor yL_entry.desc).map (fun d => d.parameters.length) = some 4 := by decide +kernel

def L_count (σ : Mem) (p1 : Int32) : Option (Mem × Int32) :=
  (X6_count σ p1).bind fun q => sel q.2 (fun v => some (setL q.1 91 0 v.toInt64, (0 : Int32))) (fun x => (if x = 0 then some (q.1, (1 : Int32)) else none))
set_option maxHeartbeats 4000000 in
set_option maxRecDepth 100000 in
theorem cw_L_count (l : Launch) (hst : l.stackTraces = false) (G : Gw) {σ : Mem} {p1 : Int32} {out : Mem × Int32} (h : L_count σ p1 = some out) : Cw l G yL_count cL_count 4 [(0, 9, 12, 13)] { frames := 7, cells := 1, slots := 6, locals := 139 } [.ref (gA G 81), .int p1, .ref (gA G 91)] σ out.1 out.2 := by
  refine Cw.of (by decide +kernel) (Nat.le_of_ble_eq_true rfl) (fun E hE C F hT hN => ?_)
  subst hE
  have C : Cx E G RL cL_count 4 { frames := 7, cells := 1, slots := 6, locals := 139 } := C
  unfold L_count at h
  show J E G 4 0 0 σ 0 [(0, .ref (gA G 81)), (1, .int p1), (2, .ref (gA G 91))] []
  refine j_aload_n C dL_count_0 rfl 2 rfl 1 rfl ?_
  refine j_iconst C dL_count_1 (0 : Int32) (by decide) 2 rfl ?_
  refine j_aload_n C dL_count_2 rfl 0 rfl 3 rfl ?_
  refine j_iload_n C dL_count_3 rfl 1 rfl 4 rfl ?_
  obtain ⟨q, e, h⟩ := ob_some h
  rcases sel_some h with ⟨v, hq, h⟩ | ⟨x, hq, h⟩
  · have e : X6_count σ p1 = some (q.1, .inl v) := by rw [e, ← hq]
    refine j_callV C (ct_X6_count (eL E) G (out := (q.1, v)) e) sh81 foX6 rfl vk_X6_count kw4_146 rfl ⟨Nat.le_of_ble_eq_true rfl, Nat.le_of_ble_eq_true rfl, rfl, rfl⟩ ⟨Nat.zero_le _, Nat.zero_le _⟩ (rest := [.int (0 : Int32), .ref (gA G 91)]) rfl (Nat.le_of_ble_eq_true rfl) dL_count_4 (st1 := [.int v, .int (0 : Int32), .ref (gA G 91)]) rfl 7 rfl ?_
    refine j_i2l C dL_count_7 8 rfl ?_
    refine j_last C sh91 (by decide) dL_count_8 0 rfl (setL q.1 91 0 v.toInt64) rfl 9 rfl ?_
    refine j_goto C dL_count_9 15 (by decide) ?_
    refine j_iconst C dL_count_15 (0 : Int32) (by decide) 16 rfl ?_
    refine j_widen (k' := 1) (n' := 6) (by decide) (by decide) ?_
    exact j_iret C F dL_count_16 h
  · have e : X6_count σ p1 = some (q.1, .inr x) := by rw [e, ← hq]
    by_cases c0 : x = 0
    · subst c0
      have h := it_t rfl h
      refine j_catch C (cx_X6_count (eL E) hst G e) sh81 foX6 rfl vk_X6_count kw4_146 rfl ⟨Nat.le_of_ble_eq_true rfl, Nat.le_of_ble_eq_true rfl, rfl, rfl⟩ ⟨Nat.le_of_ble_eq_true rfl, Nat.le_of_ble_eq_true rfl⟩ (rest := [.int (0 : Int32), .ref (gA G 91)]) rfl (Nat.le_of_ble_eq_true rfl) dL_count_4 [] ⟨0, 9, 12, 13⟩ [] hT (fun u hu => absurd hu List.not_mem_nil) (by decide) (by decide) kw3_179 (List.mem_of_getElem? (i := 3) rfl) 12 rfl (fun qq => ?_)
      refine j_astore_n C dL_count_12 rfl (by decide) [(3, .ref qq), (0, .ref (gA G 81)), (1, .int p1), (2, .ref (gA G 91))] rfl 13 rfl ?_
      refine j_iconst C dL_count_13 (1 : Int32) (by decide) 14 rfl ?_
      exact j_iret C F dL_count_14 h
    have h := it_f c0 h
    cases h
theorem wd_L_count : yL_count.cls ≠ "java/lang/invoke/MethodHandle" ∧ yL_count.cls ≠ "java/lang/invoke/VarHandle" ∧ (parseMethodDescriptor yL_count.desc).map (fun d => d.parameters.length) = some 3 := by decide +kernel

def L_setting (σ : Mem) (p1 : Int32) : Option (Mem × Int32) :=
  (X6_setting σ p1).bind fun q => sel q.2 (fun v => some (setL q.1 91 0 v.toInt64, (0 : Int32))) (fun x => (if x = 2 then some (q.1, (1 : Int32)) else none))
set_option maxHeartbeats 4000000 in
set_option maxRecDepth 100000 in
theorem cw_L_setting (l : Launch) (hst : l.stackTraces = false) (G : Gw) {σ : Mem} {p1 : Int32} {out : Mem × Int32} (h : L_setting σ p1 = some out) : Cw l G yL_setting cL_setting 4 [(0, 9, 12, 25)] { frames := 7, cells := 1, slots := 6, locals := 103 } [.ref (gA G 81), .int p1, .ref (gA G 91)] σ out.1 out.2 := by
  refine Cw.of (by decide +kernel) (Nat.le_of_ble_eq_true rfl) (fun E hE C F hT hN => ?_)
  subst hE
  have C : Cx E G RL cL_setting 4 { frames := 7, cells := 1, slots := 6, locals := 103 } := C
  unfold L_setting at h
  show J E G 4 0 0 σ 0 [(0, .ref (gA G 81)), (1, .int p1), (2, .ref (gA G 91))] []
  refine j_aload_n C dL_setting_0 rfl 2 rfl 1 rfl ?_
  refine j_iconst C dL_setting_1 (0 : Int32) (by decide) 2 rfl ?_
  refine j_aload_n C dL_setting_2 rfl 0 rfl 3 rfl ?_
  refine j_iload_n C dL_setting_3 rfl 1 rfl 4 rfl ?_
  obtain ⟨q, e, h⟩ := ob_some h
  rcases sel_some h with ⟨v, hq, h⟩ | ⟨x, hq, h⟩
  · have e : X6_setting σ p1 = some (q.1, .inl v) := by rw [e, ← hq]
    refine j_callV C (ct_X6_setting (eL E) G (out := (q.1, v)) e) sh81 foX6 rfl vk_X6_setting kw4_153 rfl ⟨Nat.le_of_ble_eq_true rfl, Nat.le_of_ble_eq_true rfl, rfl, rfl⟩ ⟨Nat.zero_le _, Nat.zero_le _⟩ (rest := [.int (0 : Int32), .ref (gA G 91)]) rfl (Nat.le_of_ble_eq_true rfl) dL_setting_4 (st1 := [.int v, .int (0 : Int32), .ref (gA G 91)]) rfl 7 rfl ?_
    refine j_i2l C dL_setting_7 8 rfl ?_
    refine j_last C sh91 (by decide) dL_setting_8 0 rfl (setL q.1 91 0 v.toInt64) rfl 9 rfl ?_
    refine j_goto C dL_setting_9 15 (by decide) ?_
    refine j_iconst C dL_setting_15 (0 : Int32) (by decide) 16 rfl ?_
    refine j_widen (k' := 1) (n' := 6) (by decide) (by decide) ?_
    exact j_iret C F dL_setting_16 h
  · have e : X6_setting σ p1 = some (q.1, .inr x) := by rw [e, ← hq]
    by_cases c0 : x = 2
    · subst c0
      have h := it_t rfl h
      refine j_catch C (cx_X6_setting (eL E) hst G e) sh81 foX6 rfl vk_X6_setting kw4_153 rfl ⟨Nat.le_of_ble_eq_true rfl, Nat.le_of_ble_eq_true rfl, rfl, rfl⟩ ⟨Nat.le_of_ble_eq_true rfl, Nat.le_of_ble_eq_true rfl⟩ (rest := [.int (0 : Int32), .ref (gA G 91)]) rfl (Nat.le_of_ble_eq_true rfl) dL_setting_4 [] ⟨0, 9, 12, 25⟩ [] hT (fun u hu => absurd hu List.not_mem_nil) (by decide) (by decide) kw3_239 (List.mem_of_getElem? (i := 5) rfl) 12 rfl (fun qq => ?_)
      refine j_astore_n C dL_setting_12 rfl (by decide) [(3, .ref qq), (0, .ref (gA G 81)), (1, .int p1), (2, .ref (gA G 91))] rfl 13 rfl ?_
      refine j_iconst C dL_setting_13 (1 : Int32) (by decide) 14 rfl ?_
      exact j_iret C F dL_setting_14 h
    have h := it_f c0 h
    cases h
theorem wd_L_setting : yL_setting.cls ≠ "java/lang/invoke/MethodHandle" ∧ yL_setting.cls ≠ "java/lang/invoke/VarHandle" ∧ (parseMethodDescriptor yL_setting.desc).map (fun d => d.parameters.length) = some 3 := by decide +kernel

def L_ifStruck (σ : Mem) (p1 : Int32) (p2 : Int32) : Option (Mem × Int32) :=
  (X6_ifStruck σ p1 p2).bind fun q => sel q.2 (fun v => some (setL q.1 91 0 v.toInt64, (0 : Int32))) (fun x => (if x = 0 then some (q.1, (1 : Int32)) else none))
set_option maxHeartbeats 4000000 in
set_option maxRecDepth 100000 in
theorem cw_L_ifStruck (l : Launch) (hst : l.stackTraces = false) (G : Gw) {σ : Mem} {p1 : Int32} {p2 : Int32} {out : Mem × Int32} (h : L_ifStruck σ p1 p2 = some out) : Cw l G yL_ifStruck cL_ifStruck 5 [(0, 10, 13, 13)] { frames := 7, cells := 1, slots := 6, locals := 105 } [.ref (gA G 81), .int p1, .int p2, .ref (gA G 91)] σ out.1 out.2 := by
  refine Cw.of (by decide +kernel) (Nat.le_of_ble_eq_true rfl) (fun E hE C F hT hN => ?_)
  subst hE
  have C : Cx E G RL cL_ifStruck 5 { frames := 7, cells := 1, slots := 6, locals := 105 } := C
  unfold L_ifStruck at h
  show J E G 5 0 0 σ 0 [(0, .ref (gA G 81)), (1, .int p1), (2, .int p2), (3, .ref (gA G 91))] []
  refine j_aload_n C dL_ifStruck_0 rfl 3 rfl 1 rfl ?_
  refine j_iconst C dL_ifStruck_1 (0 : Int32) (by decide) 2 rfl ?_
  refine j_aload_n C dL_ifStruck_2 rfl 0 rfl 3 rfl ?_
  refine j_iload_n C dL_ifStruck_3 rfl 1 rfl 4 rfl ?_
  refine j_iload_n C dL_ifStruck_4 rfl 2 rfl 5 rfl ?_
  obtain ⟨q, e, h⟩ := ob_some h
  rcases sel_some h with ⟨v, hq, h⟩ | ⟨x, hq, h⟩
  · have e : X6_ifStruck σ p1 p2 = some (q.1, .inl v) := by rw [e, ← hq]
    refine j_callV C (ct_X6_ifStruck (eL E) G (out := (q.1, v)) e) sh81 foX6 rfl vk_X6_ifStruck kw4_160 rfl ⟨Nat.le_of_ble_eq_true rfl, Nat.le_of_ble_eq_true rfl, rfl, rfl⟩ ⟨Nat.zero_le _, Nat.zero_le _⟩ (rest := [.int (0 : Int32), .ref (gA G 91)]) rfl (Nat.le_of_ble_eq_true rfl) dL_ifStruck_5 (st1 := [.int v, .int (0 : Int32), .ref (gA G 91)]) rfl 8 rfl ?_
    refine j_i2l C dL_ifStruck_8 9 rfl ?_
    refine j_last C sh91 (by decide) dL_ifStruck_9 0 rfl (setL q.1 91 0 v.toInt64) rfl 10 rfl ?_
    refine j_goto C dL_ifStruck_10 17 (by decide) ?_
    refine j_iconst C dL_ifStruck_17 (0 : Int32) (by decide) 18 rfl ?_
    refine j_widen (k' := 1) (n' := 6) (by decide) (by decide) ?_
    exact j_iret C F dL_ifStruck_18 h
  · have e : X6_ifStruck σ p1 p2 = some (q.1, .inr x) := by rw [e, ← hq]
    by_cases c0 : x = 0
    · subst c0
      have h := it_t rfl h
      refine j_catch C (cx_X6_ifStruck (eL E) hst G e) sh81 foX6 rfl vk_X6_ifStruck kw4_160 rfl ⟨Nat.le_of_ble_eq_true rfl, Nat.le_of_ble_eq_true rfl, rfl, rfl⟩ ⟨Nat.le_of_ble_eq_true rfl, Nat.le_of_ble_eq_true rfl⟩ (rest := [.int (0 : Int32), .ref (gA G 91)]) rfl (Nat.le_of_ble_eq_true rfl) dL_ifStruck_5 [] ⟨0, 10, 13, 13⟩ [] hT (fun u hu => absurd hu List.not_mem_nil) (by decide) (by decide) kw3_179 (List.mem_of_getElem? (i := 3) rfl) 13 rfl (fun qq => ?_)
      refine j_astore C dL_ifStruck_13 (by decide) [(4, .ref qq), (0, .ref (gA G 81)), (1, .int p1), (2, .int p2), (3, .ref (gA G 91))] rfl 15 rfl ?_
      refine j_iconst C dL_ifStruck_15 (1 : Int32) (by decide) 16 rfl ?_
      exact j_iret C F dL_ifStruck_16 h
    have h := it_f c0 h
    cases h
theorem wd_L_ifStruck : yL_ifStruck.cls ≠ "java/lang/invoke/MethodHandle" ∧ yL_ifStruck.cls ≠ "java/lang/invoke/VarHandle" ∧ (parseMethodDescriptor yL_ifStruck.desc).map (fun d => d.parameters.length) = some 4 := by decide +kernel

def L_begun (σ : Mem) (p1 : Int32) : Option (Mem × Int32) :=
  (X6_begun σ p1).bind fun q => sel q.2 (fun v => some (setL q.1 91 0 v.toInt64, (0 : Int32))) (fun x => (if x = 0 then some (q.1, (1 : Int32)) else none))
set_option maxHeartbeats 4000000 in
set_option maxRecDepth 100000 in
theorem cw_L_begun (l : Launch) (hst : l.stackTraces = false) (G : Gw) {σ : Mem} {p1 : Int32} {out : Mem × Int32} (h : L_begun σ p1 = some out) : Cw l G yL_begun cL_begun 4 [(0, 9, 12, 13)] { frames := 7, cells := 1, slots := 6, locals := 104 } [.ref (gA G 81), .int p1, .ref (gA G 91)] σ out.1 out.2 := by
  refine Cw.of (by decide +kernel) (Nat.le_of_ble_eq_true rfl) (fun E hE C F hT hN => ?_)
  subst hE
  have C : Cx E G RL cL_begun 4 { frames := 7, cells := 1, slots := 6, locals := 104 } := C
  unfold L_begun at h
  show J E G 4 0 0 σ 0 [(0, .ref (gA G 81)), (1, .int p1), (2, .ref (gA G 91))] []
  refine j_aload_n C dL_begun_0 rfl 2 rfl 1 rfl ?_
  refine j_iconst C dL_begun_1 (0 : Int32) (by decide) 2 rfl ?_
  refine j_aload_n C dL_begun_2 rfl 0 rfl 3 rfl ?_
  refine j_iload_n C dL_begun_3 rfl 1 rfl 4 rfl ?_
  obtain ⟨q, e, h⟩ := ob_some h
  rcases sel_some h with ⟨v, hq, h⟩ | ⟨x, hq, h⟩
  · have e : X6_begun σ p1 = some (q.1, .inl v) := by rw [e, ← hq]
    refine j_callV C (ct_X6_begun (eL E) G (out := (q.1, v)) e) sh81 foX6 rfl vk_X6_begun kw4_164 rfl ⟨Nat.le_of_ble_eq_true rfl, Nat.le_of_ble_eq_true rfl, rfl, rfl⟩ ⟨Nat.zero_le _, Nat.zero_le _⟩ (rest := [.int (0 : Int32), .ref (gA G 91)]) rfl (Nat.le_of_ble_eq_true rfl) dL_begun_4 (st1 := [.int v, .int (0 : Int32), .ref (gA G 91)]) rfl 7 rfl ?_
    refine j_i2l C dL_begun_7 8 rfl ?_
    refine j_last C sh91 (by decide) dL_begun_8 0 rfl (setL q.1 91 0 v.toInt64) rfl 9 rfl ?_
    refine j_goto C dL_begun_9 15 (by decide) ?_
    refine j_iconst C dL_begun_15 (0 : Int32) (by decide) 16 rfl ?_
    refine j_widen (k' := 1) (n' := 6) (by decide) (by decide) ?_
    exact j_iret C F dL_begun_16 h
  · have e : X6_begun σ p1 = some (q.1, .inr x) := by rw [e, ← hq]
    by_cases c0 : x = 0
    · subst c0
      have h := it_t rfl h
      refine j_catch C (cx_X6_begun (eL E) hst G e) sh81 foX6 rfl vk_X6_begun kw4_164 rfl ⟨Nat.le_of_ble_eq_true rfl, Nat.le_of_ble_eq_true rfl, rfl, rfl⟩ ⟨Nat.le_of_ble_eq_true rfl, Nat.le_of_ble_eq_true rfl⟩ (rest := [.int (0 : Int32), .ref (gA G 91)]) rfl (Nat.le_of_ble_eq_true rfl) dL_begun_4 [] ⟨0, 9, 12, 13⟩ [] hT (fun u hu => absurd hu List.not_mem_nil) (by decide) (by decide) kw3_179 (List.mem_of_getElem? (i := 3) rfl) 12 rfl (fun qq => ?_)
      refine j_astore_n C dL_begun_12 rfl (by decide) [(3, .ref qq), (0, .ref (gA G 81)), (1, .int p1), (2, .ref (gA G 91))] rfl 13 rfl ?_
      refine j_iconst C dL_begun_13 (1 : Int32) (by decide) 14 rfl ?_
      exact j_iret C F dL_begun_14 h
    have h := it_f c0 h
    cases h
theorem wd_L_begun : yL_begun.cls ≠ "java/lang/invoke/MethodHandle" ∧ yL_begun.cls ≠ "java/lang/invoke/VarHandle" ∧ (parseMethodDescriptor yL_begun.desc).map (fun d => d.parameters.length) = some 3 := by decide +kernel

def L_shortest (σ : Mem) (p1 : Int32) : Option (Mem × Int32) :=
  (X6_shortest σ p1).bind fun q => sel q.2 (fun v => some (setL q.1 91 0 v.toInt64, (0 : Int32))) (fun x => (if x = 0 then some (q.1, (1 : Int32)) else none))
set_option maxHeartbeats 4000000 in
set_option maxRecDepth 100000 in
theorem cw_L_shortest (l : Launch) (hst : l.stackTraces = false) (G : Gw) {σ : Mem} {p1 : Int32} {out : Mem × Int32} (h : L_shortest σ p1 = some out) : Cw l G yL_shortest cL_shortest 4 [(0, 9, 12, 13)] { frames := 7, cells := 1, slots := 6, locals := 105 } [.ref (gA G 81), .int p1, .ref (gA G 91)] σ out.1 out.2 := by
  refine Cw.of (by decide +kernel) (Nat.le_of_ble_eq_true rfl) (fun E hE C F hT hN => ?_)
  subst hE
  have C : Cx E G RL cL_shortest 4 { frames := 7, cells := 1, slots := 6, locals := 105 } := C
  unfold L_shortest at h
  show J E G 4 0 0 σ 0 [(0, .ref (gA G 81)), (1, .int p1), (2, .ref (gA G 91))] []
  refine j_aload_n C dL_shortest_0 rfl 2 rfl 1 rfl ?_
  refine j_iconst C dL_shortest_1 (0 : Int32) (by decide) 2 rfl ?_
  refine j_aload_n C dL_shortest_2 rfl 0 rfl 3 rfl ?_
  refine j_iload_n C dL_shortest_3 rfl 1 rfl 4 rfl ?_
  obtain ⟨q, e, h⟩ := ob_some h
  rcases sel_some h with ⟨v, hq, h⟩ | ⟨x, hq, h⟩
  · have e : X6_shortest σ p1 = some (q.1, .inl v) := by rw [e, ← hq]
    refine j_callV C (ct_X6_shortest (eL E) G (out := (q.1, v)) e) sh81 foX6 rfl vk_X6_shortest kw4_168 rfl ⟨Nat.le_of_ble_eq_true rfl, Nat.le_of_ble_eq_true rfl, rfl, rfl⟩ ⟨Nat.zero_le _, Nat.zero_le _⟩ (rest := [.int (0 : Int32), .ref (gA G 91)]) rfl (Nat.le_of_ble_eq_true rfl) dL_shortest_4 (st1 := [.int v, .int (0 : Int32), .ref (gA G 91)]) rfl 7 rfl ?_
    refine j_i2l C dL_shortest_7 8 rfl ?_
    refine j_last C sh91 (by decide) dL_shortest_8 0 rfl (setL q.1 91 0 v.toInt64) rfl 9 rfl ?_
    refine j_goto C dL_shortest_9 15 (by decide) ?_
    refine j_iconst C dL_shortest_15 (0 : Int32) (by decide) 16 rfl ?_
    refine j_widen (k' := 1) (n' := 6) (by decide) (by decide) ?_
    exact j_iret C F dL_shortest_16 h
  · have e : X6_shortest σ p1 = some (q.1, .inr x) := by rw [e, ← hq]
    by_cases c0 : x = 0
    · subst c0
      have h := it_t rfl h
      refine j_catch C (cx_X6_shortest (eL E) hst G e) sh81 foX6 rfl vk_X6_shortest kw4_168 rfl ⟨Nat.le_of_ble_eq_true rfl, Nat.le_of_ble_eq_true rfl, rfl, rfl⟩ ⟨Nat.le_of_ble_eq_true rfl, Nat.le_of_ble_eq_true rfl⟩ (rest := [.int (0 : Int32), .ref (gA G 91)]) rfl (Nat.le_of_ble_eq_true rfl) dL_shortest_4 [] ⟨0, 9, 12, 13⟩ [] hT (fun u hu => absurd hu List.not_mem_nil) (by decide) (by decide) kw3_179 (List.mem_of_getElem? (i := 3) rfl) 12 rfl (fun qq => ?_)
      refine j_astore_n C dL_shortest_12 rfl (by decide) [(3, .ref qq), (0, .ref (gA G 81)), (1, .int p1), (2, .ref (gA G 91))] rfl 13 rfl ?_
      refine j_iconst C dL_shortest_13 (1 : Int32) (by decide) 14 rfl ?_
      exact j_iret C F dL_shortest_14 h
    have h := it_f c0 h
    cases h
theorem wd_L_shortest : yL_shortest.cls ≠ "java/lang/invoke/MethodHandle" ∧ yL_shortest.cls ≠ "java/lang/invoke/VarHandle" ∧ (parseMethodDescriptor yL_shortest.desc).map (fun d => d.parameters.length) = some 3 := by decide +kernel

def L_behind (σ : Mem) (p1 : Int32) (p2 : Int32) : Option (Mem × Int32) :=
  (X6_behind σ p1 p2).bind fun q => sel q.2 (fun v => some (setL q.1 91 0 v.toInt64, (0 : Int32))) (fun x => (if x = 2 then some (q.1, (1 : Int32)) else none))
set_option maxHeartbeats 4000000 in
set_option maxRecDepth 100000 in
theorem cw_L_behind (l : Launch) (hst : l.stackTraces = false) (G : Gw) {σ : Mem} {p1 : Int32} {p2 : Int32} {out : Mem × Int32} (h : L_behind σ p1 p2 = some out) : Cw l G yL_behind cL_behind 5 [(0, 10, 13, 25)] { frames := 7, cells := 1, slots := 6, locals := 117 } [.ref (gA G 81), .int p1, .int p2, .ref (gA G 91)] σ out.1 out.2 := by
  refine Cw.of (by decide +kernel) (Nat.le_of_ble_eq_true rfl) (fun E hE C F hT hN => ?_)
  subst hE
  have C : Cx E G RL cL_behind 5 { frames := 7, cells := 1, slots := 6, locals := 117 } := C
  unfold L_behind at h
  show J E G 5 0 0 σ 0 [(0, .ref (gA G 81)), (1, .int p1), (2, .int p2), (3, .ref (gA G 91))] []
  refine j_aload_n C dL_behind_0 rfl 3 rfl 1 rfl ?_
  refine j_iconst C dL_behind_1 (0 : Int32) (by decide) 2 rfl ?_
  refine j_aload_n C dL_behind_2 rfl 0 rfl 3 rfl ?_
  refine j_iload_n C dL_behind_3 rfl 1 rfl 4 rfl ?_
  refine j_iload_n C dL_behind_4 rfl 2 rfl 5 rfl ?_
  obtain ⟨q, e, h⟩ := ob_some h
  rcases sel_some h with ⟨v, hq, h⟩ | ⟨x, hq, h⟩
  · have e : X6_behind σ p1 p2 = some (q.1, .inl v) := by rw [e, ← hq]
    refine j_callV C (ct_X6_behind (eL E) G (out := (q.1, v)) e) sh81 foX6 rfl vk_X6_behind kw4_172 rfl ⟨Nat.le_of_ble_eq_true rfl, Nat.le_of_ble_eq_true rfl, rfl, rfl⟩ ⟨Nat.zero_le _, Nat.zero_le _⟩ (rest := [.int (0 : Int32), .ref (gA G 91)]) rfl (Nat.le_of_ble_eq_true rfl) dL_behind_5 (st1 := [.int v, .int (0 : Int32), .ref (gA G 91)]) rfl 8 rfl ?_
    refine j_i2l C dL_behind_8 9 rfl ?_
    refine j_last C sh91 (by decide) dL_behind_9 0 rfl (setL q.1 91 0 v.toInt64) rfl 10 rfl ?_
    refine j_goto C dL_behind_10 17 (by decide) ?_
    refine j_iconst C dL_behind_17 (0 : Int32) (by decide) 18 rfl ?_
    refine j_widen (k' := 1) (n' := 6) (by decide) (by decide) ?_
    exact j_iret C F dL_behind_18 h
  · have e : X6_behind σ p1 p2 = some (q.1, .inr x) := by rw [e, ← hq]
    by_cases c0 : x = 2
    · subst c0
      have h := it_t rfl h
      refine j_catch C (cx_X6_behind (eL E) hst G e) sh81 foX6 rfl vk_X6_behind kw4_172 rfl ⟨Nat.le_of_ble_eq_true rfl, Nat.le_of_ble_eq_true rfl, rfl, rfl⟩ ⟨Nat.le_of_ble_eq_true rfl, Nat.le_of_ble_eq_true rfl⟩ (rest := [.int (0 : Int32), .ref (gA G 91)]) rfl (Nat.le_of_ble_eq_true rfl) dL_behind_5 [] ⟨0, 10, 13, 25⟩ [] hT (fun u hu => absurd hu List.not_mem_nil) (by decide) (by decide) kw3_239 (List.mem_of_getElem? (i := 5) rfl) 13 rfl (fun qq => ?_)
      refine j_astore C dL_behind_13 (by decide) [(4, .ref qq), (0, .ref (gA G 81)), (1, .int p1), (2, .int p2), (3, .ref (gA G 91))] rfl 15 rfl ?_
      refine j_iconst C dL_behind_15 (1 : Int32) (by decide) 16 rfl ?_
      exact j_iret C F dL_behind_16 h
    have h := it_f c0 h
    cases h
theorem wd_L_behind : yL_behind.cls ≠ "java/lang/invoke/MethodHandle" ∧ yL_behind.cls ≠ "java/lang/invoke/VarHandle" ∧ (parseMethodDescriptor yL_behind.desc).map (fun d => d.parameters.length) = some 4 := by decide +kernel
