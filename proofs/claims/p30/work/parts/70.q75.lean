theorem q_getSet {σ : Mem} {w : Wd} {i : Nat} (hP : ClP σ w) (hi : i ≤ 1) : X6_settingNumber σ (nI i) = some (σ, nI (asGet (w_a w) i)) := by
  unfold X6_settingNumber asGet
  rw [hP.1.2.2.1, hP.1.2.2.2.1]
  rcases (show i = 0 ∨ i = 1 by omega) with c | c <;> subst c <;> rfl
theorem q_set_no {σ : Mem} {i : Nat} (hi : i ≤ 1) {y : Int32} (h : bad y i (if i = 0 then 1 else 4)) : X6_set σ (nI i) y = some (σ, Sum.inr 0) := by
  unfold X6_set
  refine (good_iflt (lo := 0) (hi := 1) (by omega) (by omega) (by omega)).trans ?_
  rw [(q_canBeSet hi).1 h, uB, if_pos rfl]
theorem q_set {σ : Mem} {w : Wd} {T i v : Nat} (hP : ClP σ w) (hS : ClS σ) (ok : AsOk T (w_a w)) (hi : i ≤ 1) (h1 : i ≤ v) (h2 : v ≤ (if i = 0 then 1 else 4)) : Ans (X6_set σ (nI i) (nI v)) σ (wA (wPush w) (asSet (w_a w) i v)) (Sum.inl (nI (asGet (w_a w) i))) := by
  obtain ⟨σ1, e1, g1, s1, o1⟩ := x6_push hP hS ok
  have o2 : Off 0 1 σ1 (setI σ1 0 (if i = 0 then 2 else 3) (nI v)) := Off.setI (by omega) (by omega)
  refine ⟨setI σ1 0 (if i = 0 then 2 else 3) (nI v), ?_, g1.upd0 (o2.mono (by omega) (by omega)) ⟨g1.1.1.off o2 (by omega), g1.1.2.1.off o2 (by omega), ?_⟩, s1.off o2 (by omega), (o1.mono (by omega) (by omega)).trans (o2.mono (by omega) (by omega))⟩
  · unfold X6_set
    refine (good_iflt (lo := 0) (hi := 1) (by omega) (by omega) (by omega)).trans ?_
    rw [(q_canBeSet hi).2 v h1 h2 rfl, uB, if_neg one_ne, e1, uB, q_getSet g1 hi, uB]
    rcases (show i = 0 ∨ i = 1 by omega) with c | c <;> subst c <;> rfl
  · obtain ⟨a1, a2, a3, a4, a5, a6, a7, a8⟩ := g1.1
    rcases (show i = 0 ∨ i = 1 by omega) with c | c <;> subst c
    · refine ⟨si_1 _ _ _ _, ?_, ?_, ?_, ?_, ?_⟩
      all_goals
        rw [si_o _ _ (Or.inr (by decide))]
      · exact a4
      · exact a5
      · exact a6
      · exact a7
      · exact a8
    · refine ⟨?_, si_1 _ _ _ _, ?_, ?_, ?_, ?_⟩
      all_goals
        rw [si_o _ _ (Or.inr (by decide))]
      · exact a3
      · exact a5
      · exact a6
      · exact a7
      · exact a8
theorem asSet_ok {a : As} {T i v : Nat} (ok : AsOk T a) (hi : i ≤ 1) (h1 : i ≤ v) (h2 : v ≤ (if i = 0 then 1 else 4)) : AsOk T (asSet a i v) := by
  obtain ⟨g1, g2, g3, g4, g5, g6⟩ := ok
  rcases (show i = 0 ∨ i = 1 by omega) with c | c <;> subst c
  · exact ⟨g1, g2, g3, h2, g5, g6⟩
  · exact ⟨g1, g2, g3, g4, ⟨h1, h2⟩, g6⟩
theorem q_setting_bad {σ : Mem} {x : Int32} (h : bad x 0 1) : X6_setting σ x = some (σ, Sum.inr 2) := by
  unfold X6_setting
  exact bad_iflt (lo := 0) (hi := 1) h (by omega) (by omega)
theorem q_setting {σ : Mem} {w : Wd} {i : Nat} (hP : ClP σ w) (hi : i ≤ 1) : X6_setting σ (nI i) = some (σ, Sum.inl (nI (asGet (w_a w) i))) := by
  unfold X6_setting
  refine (good_iflt (lo := 0) (hi := 1) (by omega) (by omega) (by omega)).trans ?_
  rw [q_getSet hP hi, uB]
/-! texts -/
def wT (w : Wd) (n : Nat) (t : Nat → Nat) : Wd := (w.1, w.2.1, w.2.2.1, w.2.2.2.1, (n, t))
theorem ClP.txt {σ σ' : Mem} {w : Wd} {n : Nat} {t : Nat → Nat} (h : ClP σ w) (o : Off 59 61 σ σ') (hr : RowIs σ' 59 n (fun j => nI (t j))) : ClP σ' (wT w n t) := by
  obtain ⟨g1, g2, g3, ⟨old, g4⟩, g5⟩ := h
  exact ⟨g1.off o (by omega), fun hk => (g2 hk).off o (by omega), by rw [(o 81 (by omega)).1]; exact g3, ⟨old, g4.off o (by omega)⟩, hr⟩
theorem cap59' : cap 59 = 60 := by decide +kernel
theorem q_append_bad {σ : Mem} {x : Int32} (h : bad x 33 126) : X6_append σ x = some (σ, Sum.inr 0) := by
  unfold X6_append
  exact bad_if (lo := 33) (hi := 126) h (by omega) (by omega)
theorem and1_1 : (1 : Int32) &&& 1 = 1 := by decide
theorem and1_0 : (0 : Int32) &&& 1 = 0 := by decide
theorem x1_isFull {σ : Mem} {w : Wd} (hP : ClP σ w) (hn : w_n w ≤ 60) : X1_isFull σ = some (σ, bI (decide (w_n w = 60))) := by
  unfold X1_isFull X3_isFull
  rw [hP.2.2.2.2.1, cap59', ofn]
  by_cases c : w_n w = 60
  · rw [if_neg (nI_nlt (by omega) (by omega)), uB, decide_eq_true c]; exact if_pos and1_1
  · rw [if_pos (nI_lt (by omega) (by omega)), uB, decide_eq_false c]; exact if_pos and1_0
theorem q_append_full {σ : Mem} {w : Wd} {c : Nat} (hP : ClP σ w) (hc : 33 ≤ c ∧ c ≤ 126) (hn : w_n w = 60) : X6_append σ (nI c) = some (σ, Sum.inr 1) := by
  unfold X6_append
  refine (good_if (lo := 33) (hi := 126) (by omega) (by omega) (by omega)).trans ?_
  rw [x1_isFull hP (by omega), uB, decide_eq_true hn]; rfl
theorem q_append {σ : Mem} {w : Wd} {c : Nat} (hP : ClP σ w) (hS : ClS σ) (hc : 33 ≤ c ∧ c ≤ 126) (hn : w_n w < 60) : Ans (X6_append σ (nI c)) σ (wT w (w_n w + 1) (updn (w_t w) (w_n w) c)) (Sum.inl (nI (w_n w + 1))) := by
  obtain ⟨σ1, e1, g1, o1⟩ := x3_put (i := 59) hP.2.2.2.2 (by rw [cap59']; exact hn) (by rw [cap59']; omega) (nI c)
  refine ⟨σ1, ?_, hP.txt (o1.mono (by omega) (by omega)) (g1.le fun j hj => ?_), hS.off o1 (by omega), o1.mono (by omega) (by omega)⟩
  · unfold X6_append
    refine (good_if (lo := 33) (hi := 126) (by omega) (by omega) (by omega)).trans ?_
    rw [x1_isFull hP (by omega), uB, decide_eq_false (by omega), if_pos (show bI false = 0 from rfl)]
    unfold X1_put X1_length X3_length
    rw [e1, uB, uB, uB, uB]
    dsimp only
    rw [g1.1]
  · unfold upd updn
    by_cases c2 : j = w_n w
    · rw [if_pos c2, if_pos c2]
    · rw [if_neg c2, if_neg c2]
theorem x1_wipe {σ : Mem} {w : Wd} (hP : ClP σ w) (hn : w_n w ≤ 60) : ∃ σ', X1_wipe σ = some (σ', ()) ∧ ClP σ' (wT w 0 (w_t w)) ∧ Off 59 61 σ σ' := by
  obtain ⟨σ1, e1, g1, o1⟩ := x3_shorten0 (i := 59) hP.2.2.2.2 (by omega)
  exact ⟨σ1, by unfold X1_wipe; rw [e1, uB], hP.txt (o1.mono (by omega) (by omega)) g1, o1.mono (by omega) (by omega)⟩
theorem q_clear {σ : Mem} {w : Wd} (hP : ClP σ w) (hS : ClS σ) (hn : w_n w ≤ 60) : Ans1 (X6_clearBuffer σ) σ (wT w 0 (w_t w)) (nI (w_n w)) := by
  obtain ⟨σ1, e1, g1, o1⟩ := x1_wipe hP hn
  refine ⟨σ1, ?_, g1, hS.off o1 (by omega), o1.mono (by omega) (by omega)⟩
  unfold X6_clearBuffer X1_length X3_length
  rw [uB, uB]
  dsimp only
  rw [e1, uB, hP.2.2.2.2.1]
/-! the snapshot, undo -/
def wKeep (w : Wd) : Wd := (w.1, w.1, true, w.2.2.2)
theorem q_keep {σ : Mem} {w : Wd} {T : Nat} (hP : ClP σ w) (hS : ClS σ) (ok : AsOk T (w_a w)) : Ans1 (X6_keep σ) σ (wKeep w) (nI (as_N (w_a w))) := by
  obtain ⟨σ1, e1, g1, o1⟩ := x5_become (i := 1) (j := 0) (by omega) (by omega) (by omega) ok hP.1
  have o2 : Off 81 82 σ1 (setI σ1 81 9 1) := Off.setI (by omega) (by omega)
  obtain ⟨a1, a2, a3, ⟨old, a4⟩, a5⟩ := hP
  refine ⟨setI σ1 81 9 1, ?_, ⟨(a1.off o1 (by omega)).off o2 (by omega), fun _ => g1.off o2 (by omega), si_1 _ _ _ _, ⟨old, (a4.off o1 (by omega)).off o2 (by omega)⟩, (a5.off o1 (by omega)).off o2 (by omega)⟩, (hS.off o1 (by omega)).off o2 (by omega), (o1.mono (by omega) (by omega)).trans (o2.mono (by omega) (by omega))⟩
  unfold X6_keep X3_length
  rw [show X5_become 7 0 σ = _ from e1, uB, uB, uB]
  dsimp only
  rw [si_o _ _ (by omega), (o1 1 (by omega)).1, a1.1.1]
theorem q_goBack_no {σ : Mem} {w : Wd} (hP : ClP σ w) (hk : w_k w = false) : X6_goBack σ = some (σ, Sum.inr 1) := by
  unfold X6_goBack
  rw [hP.2.2.1, hk, if_pos (show bI false = 0 from rfl)]
theorem q_goBack {σ : Mem} {w : Wd} {T : Nat} (hP : ClP σ w) (hS : ClS σ) (ok : AsOk T (w_a w)) (hk : w_k w = true) (ok2 : AsOk T (w_s w)) : Ans (X6_goBack σ) σ (wA (wPush w) (w_s w)) (Sum.inl (nI (as_N (w_s w)))) := by
  obtain ⟨σ1, e1, g1, s1, o1⟩ := x6_push hP hS ok
  obtain ⟨σ2, e2, g2, o2⟩ := x5_become (i := 0) (j := 1) (by omega) (by omega) (by omega) ok2 (g1.2.1 hk)
  refine ⟨σ2, ?_, g1.upd0 o2 g2, s1.off o2 (by omega), (o1.mono (by omega) (by omega)).trans (o2.mono (by omega) (by omega))⟩
  unfold X6_goBack X3_length
  rw [hP.2.2.1, hk, if_neg (show ¬ bI true = 0 by decide), e1, uB, show X5_become 0 7 σ1 = _ from e2, uB, uB]
  dsimp only
  rw [g2.1.1]
def wPop (w : Wd) : Wd := (w.2.2.2.1.2 (w.2.2.2.1.1 - 1), w.2.1, w.2.2.1, (w.2.2.2.1.1 - 1, w.2.2.2.1.2), w.2.2.2.2)
theorem q_undo_no {σ : Mem} {w : Wd} (hP : ClP σ w) (hn : (w_v w).1 = 0) : X6_undo σ = some (σ, Sum.inr 1) := by
  obtain ⟨old, h⟩ := hP.2.2.2.1
  unfold X6_undo X4_size
  rw [h.2.2.2.1, hn, uB, if_pos (show nI 0 = 0 from rfl)]
theorem q_undo {σ : Mem} {w : Wd} {T : Nat} (hP : ClP σ w) (hS : ClS σ) (hn : 0 < (w_v w).1) (ok : AsOk T ((w_v w).2 ((w_v w).1 - 1))) : Ans (X6_undo σ) σ (wPop w) (Sum.inl (nI ((w_v w).1 - 1))) := by
  obtain ⟨a1, a2, a3, ⟨old, a4⟩, a5⟩ := hP
  have a4' : RingC σ old ((w_v w).1 - 1 + 1) (w_v w).2 := by rw [Nat.sub_add_cancel hn]; exact a4
  obtain ⟨σ1, e1, g1, g2, o⟩ := x4_pop a4' ok
  have hle := a4.2.1
  have o57 : Off 0 57 σ σ1 := fun c hc => o c (by omega) (by omega)
  refine ⟨σ1, ?_, ⟨g2, fun hk => ?_, by rw [(o 81 (by omega) (by omega)).1]; exact a3, ⟨old, g1⟩, a5.off o57 (by omega)⟩, hS.off o57 (by omega), o57.mono (by omega) (by omega)⟩
  · unfold X6_undo X4_size
    rw [a4.2.2.2.1, uB, if_neg (nI_ne0 hn (by omega)), e1, uB, uB]
    dsimp only
    rw [g1.2.2.2.1]
  · have h7 := a2 hk
    obtain ⟨⟨b1, b2⟩, ⟨b3, b4⟩, b5⟩ := h7
    refine ⟨⟨?_, fun j hj => ?_⟩, ⟨?_, fun e he => ?_⟩, ?_⟩
    · rw [(o (7 + 1) (by omega) (by omega)).1]; exact b1
    · rw [(o (7 + 1 + 1) (by omega) (by omega)).1]; exact b2 j hj
    · rw [(o (7 + 3) (by omega) (by omega)).1]; exact b3
    · rw [(o (7 + 3 + 1) (by omega) (by omega)).2, (o (7 + 3 + 2) (by omega) (by omega)).1, (o (7 + 3 + 3) (by omega) (by omega)).1]; exact b4 e he
    · rw [(o 7 (by omega) (by omega)).1]; exact b5
theorem q_stroke_bad {σ : Mem} {w : Wd} (hP : ClP σ w) {x : Int32} (hx : x < 0 ∨ nI (as_N (w_a w)) ≤ x) : X6_stroke σ x = some (σ, Sum.inr 2) := by
  unfold X6_stroke
  rw [x3_has_f hP.1.1 hx, uB, if_pos rfl]
theorem q_stroke {σ : Mem} {w : Wd} {T j : Nat} (hP : ClP σ w) (ok : AsOk T (w_a w)) (hj : j < as_N (w_a w)) : X6_stroke σ (nI j) = some (σ, Sum.inl (nI (as_p (w_a w) j))) := by
  have hN := ok.1
  unfold X6_stroke
  rw [x3_has_t hP.1.1 (by rw [cap1']; exact hN) (by rw [cap1']; omega) hj, uB, if_neg one_ne, x3_at hP.1.1 (by rw [cap1']; exact hN) (by rw [cap1']; omega) hj, uB]
