/-! THE CLASS: its calls, first half -/
def wA (w : Wd) (a : As) : Wd := (a, w.2)
theorem ClP.upd0 {σ σ' : Mem} {w : Wd} {a : As} (h : ClP σ w) (o : Off 0 7 σ σ') (ha : StC σ' 0 a) : ClP σ' (wA w a) := by
  obtain ⟨g1, g2, g3, ⟨old, g4⟩, g5⟩ := h
  exact ⟨ha, fun hk => (g2 hk).off o (by omega), by rw [(o 81 (by omega)).1]; exact g3, ⟨old, g4.off o (by omega)⟩, g5.off o (by omega)⟩
theorem x6_eat_45 {σ : Mem} {a : As} {left : Nat} (hN : as_N a ≤ 60) (h : StC σ 0 a) (hl : left ≤ as_N a) : ∃ σ', X6_eat_45 σ (nI left) = some (σ', ()) ∧ StC σ' 0 ((left, as_p a), as_E a, a.2.2.1, (as_k a, as_e a + nI (as_N a - left), as_a a + 1, as_y a)) ∧ Off 0 7 σ σ' := by
  obtain ⟨h1, h2, h3, h4, h5, h6, h7, h8⟩ := h
  have o1 : Off 0 1 σ (setI (setI σ 0 5 (as_e a + nI (as_N a - left))) 0 6 (as_a a + 1)) := (Off.setI (by omega) (by omega)).trans (Off.setI (by omega) (by omega))
  obtain ⟨σ', e, g1, o2⟩ := x3_shorten (i := 1) (h1.off o1 (by omega)) (by omega) hl
  refine ⟨σ', ?_, ⟨g1, (h2.off o1 (by omega)).off o2 (by omega), ?_⟩, (o1.mono (by omega) (by omega)).trans (o2.mono (by omega) (by omega))⟩
  · unfold X6_eat_45 X3_length
    rw [uB]
    dsimp only
    rw [h1.1, h6, pk_sub hl, uB, si_o _ _ (by omega), h7, uB, e, uB]
  · rw [(o2 0 (by omega)).1]
    refine ⟨?_, ?_, ?_, ?_, ?_, ?_⟩
    · rw [si_o _ _ (by omega), si_o _ _ (by omega)]; exact h3
    · rw [si_o _ _ (by omega), si_o _ _ (by omega)]; exact h4
    · rw [si_o _ _ (by omega), si_o _ _ (by omega)]; exact h5
    · rw [si_o _ _ (by omega), si_1]
    · rw [si_1]
    · rw [si_o _ _ (by omega), si_o _ _ (by omega)]; exact h8
theorem s01 {n : Nat} (h : n ≤ 1) : (nI n = (1 : Int32)) ↔ n = 1 := by
  rw [k_1, nI_eq (by omega) (by omega)]
theorem x6_putOrEat {σ : Mem} {w : Wd} {T s : Nat} (hP : ClP σ w) (hS : ClS σ) (ok : AsOk T (w_a w)) (hs : s < 1024) (hc : canS (w_a w) s = true) : ∃ σ', X6_putOrEat σ (nI s) = some (σ', ()) ∧ ClP σ' (wA w (asStk (w_a w) s)) ∧ ClS σ' ∧ Off 0 68 σ σ' := by
  have hN := ok.1
  unfold canS at hc
  unfold asStk
  by_cases c : s = 0
  · subst c
    rw [if_pos rfl] at hc ⊢
    have hN0 := of_decide_eq_true hc
    obtain ⟨l1, l2, l3⟩ := last_item hN0
    have hE := eatN_le hN0
    unfold X6_putOrEat
    rw [if_pos (show nI 0 = 0 from rfl)]
    unfold X6_eat X3_length
    rw [uB]
    dsimp only
    rw [hP.1.2.2.1, hP.1.1.1]
    by_cases c1 : as_s (w_a w) = 1
    · obtain ⟨σ1, e1, h1, o1⟩ := x6_readPaper ok hP.1 hS.1
      have hP1 := hP.off o1 (by omega) (by omega)
      have hS1 := hS.read ok h1 o1
      have hlast : X2_placeAt 61 σ1 (nI (as_t (w_a w)) - 1) = some (σ1, nI (as_pos (w_a w) (as_t (w_a w) - 1))) := by
        have e0 : nI (as_t (w_a w)) - 1 = nI (as_t (w_a w) - 1) := by rw [k_1, pk_sub l1]
        have h2 := items_le (itn_ok (as_E (w_a w)) (as_g (w_a w)) (as_N (w_a w)) (as_p (w_a w)))
        unfold X2_placeAt
        rw [e0, x3_at h1.1 (by rw [cap61.1]; exact Nat.le_trans h2 (by omega)) (by rw [cap61.1]; omega) (by exact Nat.sub_lt l1 (by omega)), uB]
      obtain ⟨σ2, e2, h2, o2⟩ := x6_eat_45 hN hP1.1 (show as_pos (w_a w) (as_t (w_a w) - 1) ≤ as_N (w_a w) by omega)
      refine ⟨σ2, ?_, hP1.upd0 o2 ?_, hS1.off o2 (by omega), (o1.mono (by omega) (by omega)).trans (o2.mono (by omega) (by omega))⟩
      · rw [if_pos ((s01 ok.2.2.2.1).mpr c1), e1, uB]
        unfold X2_size X3_length
        rw [uB, uB]
        dsimp only
        rw [show σ1.1 (61 + 1) 1 = nI (as_t (w_a w)) from h1.1.1, hlast, uB, e2, uB]
      · have e3 : eatN (w_a w) = as_N (w_a w) - as_pos (w_a w) (as_t (w_a w) - 1) := by unfold eatN; rw [if_pos c1]
        unfold asEat
        rw [e3, show as_N (w_a w) - (as_N (w_a w) - as_pos (w_a w) (as_t (w_a w) - 1)) = as_pos (w_a w) (as_t (w_a w) - 1) by omega]
        exact h2
    · obtain ⟨σ2, e2, h2, o2⟩ := x6_eat_45 hN hP.1 (show as_N (w_a w) - 1 ≤ as_N (w_a w) by omega)
      refine ⟨σ2, ?_, hP.upd0 o2 ?_, hS.off o2 (by omega), o2.mono (by omega) (by omega)⟩
      · rw [if_neg (fun x => c1 ((s01 ok.2.2.2.1).mp x)), k_1, pk_sub (by omega), e2, uB]
      · have e3 : eatN (w_a w) = 1 := by unfold eatN; rw [if_neg c1]
        unfold asEat
        rw [e3]
        rw [show as_N (w_a w) - (as_N (w_a w) - 1) = 1 by omega] at h2
        exact h2
  · rw [if_neg c] at hc ⊢
    have hN0 := of_decide_eq_true hc
    obtain ⟨h1, h2, h3, h4, h5, h6, h7, h8⟩ := hP.1
    obtain ⟨σ1, e1, g1, o1⟩ := x3_put (i := 1) h1 (by rw [cap1']; exact hN0) (by rw [cap1']; omega) (nI s)
    have k4 : σ1.1 0 4 = nI (as_k (w_a w)) := by rw [(o1 0 (by omega)).1]; exact h5
    have k7 : σ1.1 0 7 = nI (as_y (w_a w)) := by rw [(o1 0 (by omega)).1]; exact h8
    have o2 : Off 0 1 σ1 (setI (setI σ1 0 4 (nI (as_k (w_a w) + 1))) 0 7 (nI (as_y (w_a w) + kys s))) := (Off.setI (by omega) (by omega)).trans (Off.setI (by omega) (by omega))
    have o3 : Off 0 7 σ (setI (setI σ1 0 4 (nI (as_k (w_a w) + 1))) 0 7 (nI (as_y (w_a w) + kys s))) := (o1.mono (by omega) (by omega)).trans (o2.mono (by omega) (by omega))
    refine ⟨setI (setI σ1 0 4 (nI (as_k (w_a w) + 1))) 0 7 (nI (as_y (w_a w) + kys s)), ?_, hP.upd0 o3 ?_, hS.off o3 (by omega), o3.mono (by omega) (by omega)⟩
    · unfold X6_putOrEat
      rw [if_neg (nI_ne0 (by omega) (by omega)), e1, uB, k4, nI_1, uB, j6_bc _ hs, uB, si_o _ _ (by omega), k7]
      dsimp only
      rw [nI_add, uB]
    · refine ⟨(g1.le (fun j hj => ?_)).off o2 (by omega), (h2.off o1 (by omega)).off o2 (by omega), ?_⟩
      · show upd _ _ _ j = nI (updn (as_p (w_a w)) (as_N (w_a w)) s j)
        unfold upd updn
        by_cases c2 : j = as_N (w_a w)
        · rw [if_pos c2, if_pos c2]
        · rw [if_neg c2, if_neg c2]
      · refine ⟨?_, ?_, ?_, ?_, ?_, ?_⟩
        · rw [si_o _ _ (by omega), si_o _ _ (by omega), (o1 0 (by omega)).1]; exact h3
        · rw [si_o _ _ (by omega), si_o _ _ (by omega), (o1 0 (by omega)).1]; exact h4
        · rw [si_o _ _ (by omega), si_1]; rfl
        · rw [si_o _ _ (by omega), si_o _ _ (by omega), (o1 0 (by omega)).1]; exact h6
        · rw [si_o _ _ (by omega), si_o _ _ (by omega), (o1 0 (by omega)).1]; exact h7
        · rw [si_1]; rfl
def wPush (w : Wd) : Wd := (w.1, w.2.1, w.2.2.1, svPush w.2.2.2.1 w.1, w.2.2.2.2)
theorem x6_push {σ : Mem} {w : Wd} {T : Nat} (hP : ClP σ w) (hS : ClS σ) (ok : AsOk T (w_a w)) : ∃ σ', X4_push 0 σ = some (σ', ()) ∧ ClP σ' (wPush w) ∧ ClS σ' ∧ Off 14 57 σ σ' := by
  obtain ⟨g1, g2, g3, ⟨old, g4⟩, g5⟩ := hP
  obtain ⟨σ', old', e, h1, o⟩ := x4_push ok g4 g1
  exact ⟨σ', e, ⟨g1.off o (by omega), fun hk => (g2 hk).off o (by omega), by rw [(o 81 (by omega)).1]; exact g3, ⟨old', h1⟩, g5.off o (by omega)⟩, hS.off o (by omega), o⟩
/-- what an int is -/
theorem i_cases (x : Int32) (n : Nat) (hn : n < 2147483648) : x < 0 ∨ nI n ≤ x ∨ ∃ j, j < n ∧ x = nI j := pk_ix x hn
theorem x6_size (σ : Mem) : X2_size 61 σ = some (σ, σ.1 62 1) := rfl
/-- a call's end: its memory and its answer -/
def Ans (m : Option (Mem × (Int32 ⊕ Nat))) (σ : Mem) (w : Wd) (r : Int32 ⊕ Nat) : Prop := ∃ σ', m = some (σ', r) ∧ ClP σ' w ∧ ClS σ' ∧ Off 0 82 σ σ'
def Ans1 (m : Option (Mem × Int32)) (σ : Mem) (w : Wd) (r : Int32) : Prop := ∃ σ', m = some (σ', r) ∧ ClP σ' w ∧ ClS σ' ∧ Off 0 82 σ σ'
/-- an int out of a range -/
def bad (x : Int32) (lo hi : Nat) : Prop := x < nI lo ∨ nI hi < x
theorem bad_or (x : Int32) (lo hi : Nat) (h : lo ≤ hi ∧ hi < 2147483647) : bad x lo hi ∨ ∃ j, lo ≤ j ∧ j ≤ hi ∧ x = nI j := by
  rcases pk_ix x (n := hi + 1) (by omega) with c | c | ⟨j, hj, e⟩
  · left; left
    by_cases c2 : lo = 0
    · rw [c2]; exact c
    · have h2 : (0 : Int32) ≤ nI lo := nI_pos' (by omega)
      rw [Int32.lt_iff_toInt_lt] at c ⊢
      rw [Int32.le_iff_toInt_le] at h2
      omega
  · left; right
    have h1 : nI hi < nI (hi + 1) := nI_lt (by omega) (by omega)
    rw [Int32.lt_iff_toInt_lt] at h1 ⊢
    rw [Int32.le_iff_toInt_le] at c
    omega
  · by_cases c : lo ≤ j
    · exact Or.inr ⟨j, c, by omega, e⟩
    · left; left; rw [e]; exact nI_lt (by omega) (by omega)
