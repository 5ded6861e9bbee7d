/-! pick -/
theorem x7_lay {σ : Mem} {e x : Nat} (h : 68 + 7 * e + x < 1888) (v : Int32) : X7_lay σ (nI e) (nI x) v = some (setI σ 83 (68 + 7 * e + x) v, ()) := by
  unfold X7_lay
  rw [k_68, k_7, pk_mul, nI_add, nI_add, if_pos (nI_inA h (by omega)), nI_clamp (by omega), uB]
theorem x7_isEntry_bad {σ : Mem} {a : As} {T : Nat} (ok : AsOk T a) (h : RS (σ.1 83) 0 a) {x : Int32} (hx : x < 0 ∨ nI (en_m (as_E a)) ≤ x) : X7_isEntry σ x = some (σ, 0) := by
  have hm := ok.2.2.1.1
  unfold X7_isEntry
  rw [h.z.2.2.1.m, in_m_bad (by omega) hx, uB]
  exact if_pos and1_0
theorem x7_isEntry {σ : Mem} {a : As} {T e : Nat} (ok : AsOk T a) (h : RS (σ.1 83) 0 a) (he : e < en_m (as_E a)) : X7_isEntry σ (nI e) = some (σ, 1) := by
  have hm := ok.2.2.1.1
  unfold X7_isEntry
  rw [h.z.2.2.1.m, in_m_good he (by omega), uB]
  exact if_pos and1_1
theorem p_91 (σ : Mem) (y : Int32) {s0 : Int32} (h : ¬ s0 = 0) : X7_pick_91 σ y s0 = some (setI σ 82 0 s0, 0) := by
  unfold X7_pick_91
  exact uZ (h_n σ h) _ _
theorem p_30 (σ : Mem) (x y : Int32) : X7_pick_30 σ x y = some (setI σ 82 0 1, 0) := by
  unfold X7_pick_30 X7_pick_31 X7_pick_69 X7_pick_70
  rw [if_pos rfl, if_pos rfl]
  exact p_91 σ y nn1
theorem r_pick_bad {σ : Mem} {w : Wd} {T : Nat} (ok : WdOk T w) (h : RfP σ w) {x y : Int32} (hx : (x < 0 ∨ nI (as_t (w_a w)) ≤ x) ∨ ((∃ i, i < as_t (w_a w) ∧ x = nI i) ∧ (y < 0 ∨ nI (en_m (as_E (w_a w))) ≤ y))) : Rf (X7_pick σ x y) σ w 1 0 := by
  obtain ⟨σ1, e1, g1, f1⟩ := x7_readsPaper ok.1 h.1
  have h1 := h.p f1
  have ht := as_t_le ok.1
  refine Rf.no h1 (f1.off fun c j => pRp_c) ?_
  unfold X7_pick
  rw [e1, uB]
  dsimp only
  rw [g1.1.1]
  rcases hx with hx | ⟨⟨i, hi, hxi⟩, hy⟩
  · rw [uZ (in_m_bad (Nat.lt_of_le_of_lt ht (by omega)) hx)]
    exact p_30 σ1 x y
  · rw [hxi, uN (in_m_good hi (Nat.lt_of_le_of_lt ht (by omega))) nn1]
    dsimp only
    rw [uZ (x7_isEntry_bad ok.1 h1.1 hy)]
    exact p_30 σ1 _ y
theorem x7_pick_mid {σ : Mem} {a : As} {T i e : Nat} (ok : AsOk T a) (h : RS (σ.1 83) 0 a) (g : RdRA σ a) (hi : i < as_t a) (he : e < en_m (as_E a)) : X7_pick_31 σ (nI i) (nI e) (1 : Int32) = X7_pick_91 σ (nI e) (if it_k a i = en_k (as_E a) e then 0 else 2) := by
  have hN := ok.1
  have ht := as_t_le ok
  have hpl : as_pos a i < as_N a := (itn_ok (as_E a) (as_g a) (as_N a) (as_p a)).2 i hi
  have hsz : as_pos a i + as_sz a i ≤ as_N a := szf_N hpl
  obtain ⟨r1, r2, r3⟩ := g.1.2 i hi
  have hk := k_at ok.2.2.1 (pl := as_pos a i) (L := as_sz a i) ok.2.1 hsz he
  have hl := (ok.2.2.1.2 e he).1
  have hrow := x7_isRow h.z.2.2.1 ok.2.2.1 (Nat.le_trans hN (by omega)) g.2 ok.2.1 (show as_pos a i ≤ 61 by omega) he
  have hi60 : i < 61 := Nat.lt_of_lt_of_le hi (Nat.le_trans ht (by omega))
  have hno : ¬ it_k a i = en_k (as_E a) e → X7_pick_69 σ (nI e) (1 : Int32) = X7_pick_91 σ (nI e) (if it_k a i = en_k (as_E a) e then 0 else 2) := fun c => by
    unfold X7_pick_69 X7_pick_70
    rw [if_neg nn1, if_pos rfl, if_neg c]
  unfold X7_pick_31
  rw [if_neg nn1, if_pos (nI_inA hi60 (by omega)), of_l h.z.2.2.1 ok.2.2.1 he, uB]
  dsimp only
  rw [nI_clamp (by omega), r2]
  by_cases c : as_sz a i = en_l (as_E a) e
  · rw [if_pos (show nI (szf (as_E a) (as_g a) (as_N a) (as_p a) (posf (as_E a) (as_g a) (as_N a) (as_p a) i)) = nI (en_l (as_E a) e) from congrArg nI c), if_pos (nI_inA hi60 (by omega)), r1, hrow, uB]
    dsimp only
    cases c2 : rowD (as_E a) (as_N a) (as_p a) (as_pos a i) e with
    | false =>
      rw [if_pos (show bI false = 0 from rfl)]
      refine hno fun x => ?_
      have := (hk.mp x.symm).2
      have h3 := rowD_iff.mpr (show rowP (as_E a) (as_N a) (as_p a) (as_pos a i) e from ⟨by rw [← c]; exact hsz, this⟩)
      rw [c2] at h3
      cases h3
    | true =>
      have h3 := rowD_iff.mp c2
      rw [if_neg (show ¬ bI true = 0 by decide), if_pos (show it_k a i = en_k (as_E a) e from (hk.mpr ⟨c.symm, h3.2⟩).symm)]
      unfold X7_pick_70
      rw [if_neg nn1, if_neg nn1]
  · rw [if_neg (show ¬ nI (szf (as_E a) (as_g a) (as_N a) (as_p a) (posf (as_E a) (as_g a) (as_N a) (as_p a) i)) = nI (en_l (as_E a) e) from fun x => c ((nI_eq (show as_sz a i < 2147483648 by omega) (by omega)).mp x))]
    exact hno fun x => c (hk.mp x.symm).1.symm
theorem x7_pick_pre {σ : Mem} {w : Wd} {T i e : Nat} (ok : WdOk T w) (h : RfP σ w) (hi : i < as_t (w_a w)) (he : e < en_m (as_E (w_a w))) : ∃ σ1, X7_pick σ (nI i) (nI e) = X7_pick_91 σ1 (nI e) (if it_k (w_a w) i = en_k (as_E (w_a w)) e then 0 else 2) ∧ RfP σ1 w ∧ Off 82 91 σ σ1 := by
  obtain ⟨σ1, e1, g1, f1⟩ := x7_readsPaper ok.1 h.1
  have h1 := h.p f1
  have ht := as_t_le ok.1
  refine ⟨σ1, ?_, h1, f1.off fun c j => pRp_c⟩
  unfold X7_pick
  rw [e1, uB]
  dsimp only
  rw [g1.1.1, uN (in_m_good hi (Nat.lt_of_le_of_lt ht (by omega))) nn1]
  dsimp only
  rw [uN (x7_isEntry ok.1 h1.1 he) nn1]
  exact x7_pick_mid ok.1 h1.1 g1 hi he
theorem r_pick_no {σ : Mem} {w : Wd} {T i e : Nat} (ok : WdOk T w) (h : RfP σ w) (hi : i < as_t (w_a w)) (he : e < en_m (as_E (w_a w))) (hk : it_k (w_a w) i ≠ en_k (as_E (w_a w)) e) : Rf (X7_pick σ (nI i) (nI e)) σ w 2 0 := by
  obtain ⟨σ1, e1, h1, o1⟩ := x7_pick_pre ok h hi he
  refine Rf.no h1 o1 ?_
  rw [e1, if_neg hk]
  exact p_91 σ1 _ nn2
theorem RE.pick {s s' : Nat → Int32} {E : En} {e : Nat} (h : RE s 0 E) (hs : ∀ k, k ≠ 68 + 7 * e + 6 → s' k = s k) (h6 : s' (68 + 7 * e + 6) = nI (en_p E e + 1)) : RE s' 0 (enPick E e) := by
  refine ⟨(hs (0 + 1) (by omega)).trans h.1, fun t ht => ?_⟩
  have ht : t < en_m E := ht
  obtain ⟨h1, h2, h3, h4⟩ := h.2 t ht
  refine ⟨(hs _ (by omega)).trans h1, fun k hk => (hs _ (by omega)).trans (h2 k hk), (hs _ (by omega)).trans h3, ?_⟩
  show _ = nI (updn (en_p E) e (en_p E e + 1) t)
  by_cases c : t = e
  · subst c
    rw [updn_1, Nat.zero_add]
    exact h6
  · rw [updn_o _ _ c]
    exact (hs _ (by omega)).trans h4
theorem r_pick {σ : Mem} {w : Wd} {T i e : Nat} (ok : WdOk T w) (h : RfP σ w) (hi : i < as_t (w_a w)) (he : e < en_m (as_E (w_a w))) (hk : it_k (w_a w) i = en_k (as_E (w_a w)) e) : Rf (X7_pick σ (nI i) (nI e)) σ (wA (wPush w) (asE (w_a w) (enPick (as_E (w_a w)) e))) 0 (nI (en_p (as_E (w_a w)) e + 1)) := by
  obtain ⟨σ1, e1, h1, o1⟩ := x7_pick_pre ok h hi he
  have hm := ok.1.2.2.1.1
  obtain ⟨σ2, e2, g2, f2⟩ := x7_save ok (h1.th 0)
  have f3 : Fr pK σ2 (setI σ2 83 (68 + 7 * e + 6) (nI (en_p (as_E (w_a w)) e + 1))) := Fr.setI (by unfold pK; omega)
  have zE : RE (σ2.1 83) 0 (as_E (w_a w)) := g2.1.z.2.2.1
  have hE : RE ((setI σ2 83 (68 + 7 * e + 6) (nI (en_p (as_E (w_a w)) e + 1))).1 83) 0 (enPick (as_E (w_a w)) e) := RE.pick g2.1.z.2.2.1 (fun k hk => si_o _ _ (by omega)) (si_1 _ _ _ _)
  refine ⟨setI σ2 83 (68 + 7 * e + 6) (nI (en_p (as_E (w_a w)) e + 1)), ?_, RfP.upd0 ok.push g2 f3 (g2.1.E ok.1.1 (fun k _ hk => si_o _ _ (by omega)) hE), ?_, ((o1.trans (Off.setI (by omega) (by omega))).trans (f2.off fun c j => pV_c)).trans (f3.off fun c j => pK_c)⟩
  · rw [e1, if_pos hk]
    unfold X7_pick_91
    rw [uN (h_0 σ1) nn1]
    dsimp only
    rw [e2, uB]
    dsimp only
    rw [of_p zE ok.1.2.2.1 he, uB]
    dsimp only
    rw [nI_1, show X7_lay σ2 (nI e) (6 : Int32) (nI (en_p (as_E (w_a w)) e + 1)) = _ from x7_lay (x := 6) (by omega) _, uB]
    dsimp only
    rw [show X7_of (setI σ2 83 (68 + 7 * e + 6) (nI (en_p (as_E (w_a w)) e + 1))) (nI e) (6 : Int32) = _ from x7_of (x := 6) _ (by omega), uB, si_1]
  · rw [si_o _ _ (by omega), f2.1 82 0 (by unfold pV; omega), si_1]
def pL (c j : Nat) : Prop := c = 83 ∧ j < 236
theorem pL_K {c j : Nat} (h : pL c j) : pK c j := Or.inl h
/-! remove -/
theorem r_remove_bad {σ : Mem} {w : Wd} {T : Nat} (ok : WdOk T w) (h : RfP σ w) {x : Int32} (hx : x < 0 ∨ nI (en_m (as_E (w_a w))) ≤ x) : Rf (X7_remove σ x) σ w 1 0 := by
  refine Rf.no h Off.rfl' ?_
  unfold X7_remove
  rw [uZ (x7_isEntry_bad ok.1 h.1 hx)]
  exact uZ (h_n σ nn1) _ _
theorem x7_rem_41 {M e : Nat} {src : Nat → Int32} (hM : M ≤ 23) (K : Mem → Option (Mem × Int32)) : ∀ (r v fu : Nat) (σ : Mem), v + r = 7 * M → r < fu → 7 * e ≤ v → σ.1 83 1 = nI M → (∀ k, v ≤ k → σ.1 83 (68 + k) = src (68 + k)) → (∀ k, 7 * e ≤ k → k < v → σ.1 83 (68 + k) = src (68 + k + 7)) → ∃ σ', X7_remove_41 K fu σ (nI v) = K σ' ∧ (∀ k, 7 * e ≤ k → k < 7 * M → σ'.1 83 (68 + k) = src (68 + k + 7)) ∧ Fr (fun c j => c = 83 ∧ 68 + 7 * e ≤ j ∧ j < 68 + 7 * M) σ σ'
  | r, v, 0, _, _, h, _, _, _, _ => absurd h (by omega)
  | 0, v, fu + 1, σ, h1, _, h2, h3, h4, h5 => by
    have hv : v = 7 * M := by omega
    subst hv
    refine ⟨σ, ?_, h5, Fr.rfl'⟩
    rw [X7_remove_41, h3, k_7, pk_mul, if_pos (nI_le (Nat.le_refl _) (by omega))]
  | r + 1, v, fu + 1, σ, h1, hf, h2, h3, h4, h5 => by
    obtain ⟨σ', e1, g, f⟩ := x7_rem_41 (e := e) (src := src) hM K r (v + 1) fu (setI σ 83 (68 + v) (src (68 + v + 7))) (by omega) (by omega) (by omega) (by rw [si_o _ _ (by omega)]; exact h3) (fun k hk => by rw [si_o _ _ (by omega)]; exact h4 k (by omega)) (fun k hk1 hk2 => by
      by_cases c : k = v
      · rw [c, si_1]
      · rw [si_o _ _ (by omega)]; exact h5 k hk1 (by omega))
    refine ⟨σ', ?_, g, (Fr.setI (P := fun c j => c = 83 ∧ 68 + 7 * e ≤ j ∧ j < 68 + 7 * M) (by omega)).trans f⟩
    have a1 : (7 : Int32) * nI M = nI (7 * M) := pk_mul 7 M
    have a2 : (68 : Int32) + nI v = nI (68 + v) := nI_add 68 v
    have a3 : nI (68 + v) + (7 : Int32) = nI (68 + v + 7) := nI_add _ 7
    have a4 : σ.1 83 (68 + v + 7) = src (68 + v + 7) := by
      have := h4 (v + 7) (by omega)
      rw [show 68 + (v + 7) = 68 + v + 7 by omega] at this
      exact this
    rw [X7_remove_41, h3, a1, if_neg (nI_ge (by omega) (by omega)), a2, a3, if_pos (nI_inA (by omega) (by omega)), if_pos (nI_inA (by omega) (by omega)), nI_clamp (by omega), nI_clamp (by omega), a4, uB, nI_1]
    exact e1
theorem RE.take {s s' : Nat → Int32} {E : En} {e : Nat} (h : RE s 0 E) (he : e < en_m E) (h1 : s' 1 = nI (en_m E - 1)) (hlo : ∀ k, k ≠ 1 → k < 68 + 7 * e → s' k = s k) (hhi : ∀ k, 7 * e ≤ k → k < 7 * (en_m E - 1) → s' (68 + k) = s (68 + k + 7)) : RE s' 0 (enTake E e) := by
  refine ⟨h1, fun t ht => ?_⟩
  have ht : t < en_m E - 1 := ht
  have hk : ∀ x, x < 7 → s' (68 + 7 * t + x) = s (68 + 7 * skp e t + x) := fun x hx => by
    unfold skp
    by_cases c : t < e
    · rw [if_pos c]
      exact hlo _ (by omega) (by omega)
    · rw [if_neg c]
      have := hhi (7 * t + x) (by omega) (by omega)
      rw [show 68 + (7 * t + x) + 7 = 68 + 7 * (t + 1) + x by omega, show 68 + (7 * t + x) = 68 + 7 * t + x by omega] at this
      exact this
  have hs : skp e t < en_m E := by unfold skp; split <;> omega
  obtain ⟨g1, g2, g3, g4⟩ := h.2 (skp e t) hs
  rw [Nat.zero_add] at g1 g2 g3 g4
  rw [Nat.zero_add]
  refine ⟨(hk 0 (by omega)).trans g1, fun k hk4 => ?_, (hk 5 (by omega)).trans g3, (hk 6 (by omega)).trans g4⟩
  have := (hk (1 + k) (by omega))
  rw [← Nat.add_assoc, ← Nat.add_assoc] at this
  exact this.trans (g2 k hk4)
theorem r_remove {σ : Mem} {w : Wd} {T e : Nat} (ok : WdOk T w) (h : RfP σ w) (he : e < en_m (as_E (w_a w))) : Rf (X7_remove σ (nI e)) σ (wA (wPush w) (asE (w_a w) (enTake (as_E (w_a w)) e))) 0 (nI (en_m (as_E (w_a w)) - 1)) := by
  have hm := ok.1.2.2.1.1
  obtain ⟨σ2, e2, g2, f2⟩ := x7_save ok (h.th 0)
  have z1 := g2.1.z.2.2.1.m
  have z1 : σ2.1 83 1 = nI (en_m (as_E (w_a w))) := z1
  obtain ⟨σ3, e3, g3, f3⟩ := x7_rem_41 (M := en_m (as_E (w_a w)) - 1) (e := e) (src := σ2.1 83) (by omega) (fun (σ : Mem) => some (σ, (σ.1 83 1))) (7 * (en_m (as_E (w_a w)) - 1) - 7 * e) (7 * e) FU (setI σ2 83 1 (nI (en_m (as_E (w_a w)) - 1))) (by omega) (by unfold FU; omega) (Nat.le_refl _) (si_1 _ _ _ _) (fun k hk => si_o _ _ (by omega)) (fun k hk1 hk2 => absurd hk1 (by omega))
  have f3' : Fr pK (setI σ2 83 1 (nI (en_m (as_E (w_a w)) - 1))) σ3 := f3.mono fun c j hc => by unfold pK; omega
  have f23 : Fr pK σ2 σ3 := (Fr.setI (P := pK) (by unfold pK; omega)).trans f3'
  have hlo : ∀ k, k ≠ 1 → k < 68 + 7 * e → σ3.1 83 k = σ2.1 83 k := fun k hk1 hk2 => by rw [f3.1 83 k (by omega), si_o _ _ (by omega)]
  have h1 : σ3.1 83 1 = nI (en_m (as_E (w_a w)) - 1) := by rw [f3.1 83 1 (by omega), si_1]
  have hE : RE (σ3.1 83) 0 (enTake (as_E (w_a w)) e) := RE.take g2.1.z.2.2.1 he h1 hlo g3
  refine ⟨σ3, ?_, RfP.upd0 ok.push g2 f23 (g2.1.E ok.1.1 (fun k k1 hk => hlo k k1 (by omega)) hE), ?_, ((Off.setI (by omega) (by omega)).trans (f2.off fun c j => pV_c)).trans (f23.off fun c j => pK_c)⟩
  · unfold X7_remove
    rw [uN (x7_isEntry ok.1 h.1 he) nn1]
    unfold X7_remove_14
    dsimp only
    rw [uN (h_0 σ) nn1]
    dsimp only
    rw [e2, uB]
    dsimp only
    rw [z1, show nI (en_m (as_E (w_a w))) - (1 : Int32) = nI (en_m (as_E (w_a w)) - 1) from pk_sub (b := 1) (by omega), uB, show (7 : Int32) * nI e = nI (7 * e) from pk_mul 7 e, e3, h1]
  · rw [f3.1 82 0 (by omega), si_o _ _ (by omega), f2.1 82 0 (by unfold pV; omega), si_1]
/-! define: where the text has been told -/
theorem RE.put {s s' : Nat → Int32} {E : En} {L wd : Nat} {r : Nat → Nat} (h : RE s 0 E) (hlo : ∀ k, k ≠ 1 → k < 68 + 7 * en_m E → s' k = s k) (h1 : s' 1 = nI (en_m E + 1)) (a0 : s' (68 + 7 * en_m E) = nI L) (a1 : ∀ k, k < 4 → s' (68 + 7 * en_m E + (1 + k)) = if k < L then nI (r k) else -1) (a5 : s' (68 + 7 * en_m E + 5) = nI wd) (a6 : s' (68 + 7 * en_m E + 6) = 0) : RE s' 0 (enPut E L r wd 0) := by
  refine ⟨h1, fun t ht => ?_⟩
  have ht : t < en_m E + 1 := ht
  rw [Nat.zero_add]
  by_cases c : t = en_m E
  · subst c
    refine ⟨?_, fun k hk => ?_, ?_, ?_⟩
    · show _ = nI (updn (en_l E) (en_m E) L (en_m E))
      rw [updn_1]; exact a0
    · show _ = if k < updn (en_l E) (en_m E) L (en_m E) then nI (updn (en_r E) (en_m E) r (en_m E) k) else -1
      rw [updn_1, updn_1, Nat.add_assoc]
      exact a1 k hk
    · show _ = nI (updn (en_w E) (en_m E) wd (en_m E))
      rw [updn_1]; exact a5
    · show _ = nI (updn (en_p E) (en_m E) 0 (en_m E))
      rw [updn_1]; exact a6
  · obtain ⟨g1, g2, g3, g4⟩ := h.2 t (by omega)
    rw [Nat.zero_add] at g1 g2 g3 g4
    refine ⟨?_, fun k hk => ?_, ?_, ?_⟩
    · show _ = nI (updn (en_l E) (en_m E) L t)
      rw [updn_o _ _ c]; exact (hlo _ (by omega) (by omega)).trans g1
    · show _ = if k < updn (en_l E) (en_m E) L t then nI (updn (en_r E) (en_m E) r t k) else -1
      rw [updn_o _ _ c, updn_o _ _ c]
      exact (hlo _ (by omega) (by omega)).trans (g2 k hk)
    · show _ = nI (updn (en_w E) (en_m E) wd t)
      rw [updn_o _ _ c]; exact (hlo _ (by omega) (by omega)).trans g3
    · show _ = nI (updn (en_p E) (en_m E) 0 t)
      rw [updn_o _ _ c]; exact (hlo _ (by omega) (by omega)).trans g4
/-- the strokes that a text told -/
def ToldR (σ : Mem) (L : Nat) (tl : Nat → Nat) : Prop := σ.1 82 8 = nI L ∧ ∀ j, j < L → σ.1 85 j = nI (tl j)
theorem ToldR.fr {σ σ' : Mem} {L : Nat} {tl : Nat → Nat} {P : Nat → Nat → Prop} (h : ToldR σ L tl) (f : Fr P σ σ') (h1 : ¬ P 82 8) (h2 : ∀ j, ¬ P 85 j) : ToldR σ' L tl := ⟨(f.1 82 8 h1).trans h.1, fun j hj => (f.1 85 j (h2 j)).trans (h.2 j hj)⟩
theorem x7_def_103 {m L : Nat} {tl : Nat → Nat} {wd : Int32} (hm : m < 24) (hL : L ≤ 31) (K : Mem → Int32 → Int32 → Option (Mem × Int32)) : ∀ (r v fu : Nat) (σ : Mem), v + r = 4 → r < fu → ToldR σ L tl → (∀ k, k < v → σ.1 83 (68 + 7 * m + (1 + k)) = if k < L then nI (tl k) else -1) → ∃ σ', X7_define_103 K fu σ wd (nI m) (nI v) = K σ' wd (nI m) ∧ (∀ k, k < 4 → σ'.1 83 (68 + 7 * m + (1 + k)) = if k < L then nI (tl k) else -1) ∧ Fr (fun c j => c = 83 ∧ 68 + 7 * m + 1 ≤ j ∧ j < 68 + 7 * m + 5) σ σ'
  | r, v, 0, _, _, h, _, _ => absurd h (by omega)
  | 0, v, fu + 1, σ, h1, _, hT, hk => by
    have hv : v = 4 := by omega
    subst hv
    exact ⟨σ, by rw [X7_define_103, if_pos (by decide)], hk, Fr.rfl'⟩
  | r + 1, v, fu + 1, σ, h1, hf, hT, hk => by
    have f1 : Fr (fun c j => c = 83 ∧ 68 + 7 * m + 1 ≤ j ∧ j < 68 + 7 * m + 5) σ (setI σ 83 (68 + 7 * m + (1 + v)) (if v < L then nI (tl v) else -1)) := Fr.setI (by omega)
    obtain ⟨σ', e1, g, f⟩ := x7_def_103 (tl := tl) (wd := wd) hm hL K r (v + 1) fu (setI σ 83 (68 + 7 * m + (1 + v)) (if v < L then nI (tl v) else -1)) (by omega) (by omega) (hT.fr f1 (by omega) (fun j => by omega)) (fun k hk2 => by
      by_cases c : k = v
      · rw [c, si_1]
      · rw [si_o _ _ (by omega)]; exact hk k (by omega))
    refine ⟨σ', ?_, g, f1.trans f⟩
    rw [X7_define_103, if_neg (show ¬ (4 : Int32) ≤ nI v from nI_ge (b := 4) (by omega) (by omega)), hT.1, show (1 : Int32) + nI v = nI (1 + v) from nI_add 1 v]
    by_cases c : v < L
    · rw [if_pos c] at e1
      rw [if_neg (nI_ge c (by omega)), if_pos (nI_inA (by omega) (by omega)), nI_clamp (by omega), hT.2 v c, x7_lay (by omega), uB]
      dsimp only
      rw [nI_1]
      exact e1
    · rw [if_neg c] at e1
      rw [if_pos (nI_le (by omega) (by omega)), x7_lay (by omega), uB]
      dsimp only
      rw [nI_1]
      exact e1
theorem x7_def_71 {σ σ0 : Mem} {w : Wd} {T L wd : Nat} {tl : Nat → Nat} (ok : WdOk T w) (h : RfP σ w) (hT : ToldR σ L tl) (hL : L ≤ 31) (hm : en_m (as_E (w_a w)) < 24) (o0 : Off 82 91 σ0 σ) : Rf (X7_define_71 σ (nI wd) (0 : Int32)) σ0 (wT (wA (wPush w) (asE (w_a w) (enPut (as_E (w_a w)) L tl wd 0))) 0 (w_t w)) 0 (nI (en_m (as_E (w_a w)))) := by
  obtain ⟨σ2, e2, g2, f2⟩ := x7_save ok (h.th 0)
  have z1 : σ2.1 83 1 = nI (en_m (as_E (w_a w))) := g2.1.z.2.2.1.m
  have hT2 : ToldR σ2 L tl := (hT.fr (Fr.setI (P := fun c j => c = 82 ∧ j = 0) (v := 0) (a := 82) (b := 0) (by omega)) (by omega) (fun j => by omega)).fr f2 (by unfold pV; omega) (fun j => by unfold pV; omega)
  have ok2 := ok.1.2.2.1
  obtain ⟨σ4, e4, g4, f4⟩ := x7_def_103 (m := en_m (as_E (w_a w))) (tl := tl) (wd := nI wd) hm hL (fun (σ : Mem) (v1 : Int32) (v3 : Int32) => ((X7_lay σ v3 (5 : Int32) v1).bind fun q13 => ((X7_lay q13.1 v3 (6 : Int32) (0 : Int32)).bind fun q15 => ((some (setI q15.1 83 1 ((q15.1.1 83 1) + (1 : Int32)))).bind fun σ17 => ((some (setI σ17 82 5 (0 : Int32))).bind fun σ19 => some (σ19, v3)))))) 4 0 FU (setI σ2 83 (68 + 7 * en_m (as_E (w_a w)) + 0) (nI L)) (by omega) (by unfold FU; omega) (hT2.fr (Fr.setI (P := fun c j => c = 83) (by omega)) (by omega) (fun j => by omega)) (fun k hk => absurd hk (Nat.not_lt_zero k))
  have f24 : Fr pL σ2 σ4 := (Fr.setI (P := pL) (by unfold pL; omega)).trans (f4.mono fun c j hc => by unfold pL; omega)
  have f47 : Fr pL σ4 (setI (setI (setI σ4 83 (68 + 7 * en_m (as_E (w_a w)) + 5) (nI wd)) 83 (68 + 7 * en_m (as_E (w_a w)) + 6) 0) 83 1 (nI (en_m (as_E (w_a w)) + 1))) := ((Fr.setI (by unfold pL; omega)).trans (Fr.setI (by unfold pL; omega))).trans (Fr.setI (by unfold pL; omega))
  have hlo : ∀ k, k ≠ 1 → k < 68 + 7 * en_m (as_E (w_a w)) → (setI (setI (setI σ4 83 (68 + 7 * en_m (as_E (w_a w)) + 5) (nI wd)) 83 (68 + 7 * en_m (as_E (w_a w)) + 6) 0) 83 1 (nI (en_m (as_E (w_a w)) + 1))).1 83 k = σ2.1 83 k := fun k k1 hk => by
    rw [si_o _ _ (by omega), si_o _ _ (by omega), si_o _ _ (by omega), f4.1 83 k (by omega), si_o _ _ (by omega)]
  have hE : RE ((setI (setI (setI σ4 83 (68 + 7 * en_m (as_E (w_a w)) + 5) (nI wd)) 83 (68 + 7 * en_m (as_E (w_a w)) + 6) 0) 83 1 (nI (en_m (as_E (w_a w)) + 1))).1 83) 0 (enPut (as_E (w_a w)) L tl wd 0) := by
    refine RE.put g2.1.z.2.2.1 hlo (si_1 _ _ _ _) ?_ (fun k hk => ?_) ?_ ?_
    · rw [si_o _ _ (by omega), si_o _ _ (by omega), si_o _ _ (by omega), f4.1 83 _ (by omega), Nat.add_zero, si_1]
    · rw [si_o _ _ (by omega), si_o _ _ (by omega), si_o _ _ (by omega)]; exact g4 k hk
    · rw [si_o _ _ (by omega), si_o _ _ (by omega), si_1]
    · rw [si_o _ _ (by omega), si_1]
  have hR := RfP.upd0 ok.push g2 ((f24.trans f47).mono fun c j => pL_K) (g2.1.E ok.1.1 (fun k k1 hk => hlo k k1 (by omega)) hE)
  refine ⟨_, ?_, hR.wipe, ?_, (((o0.trans (Off.setI (by omega) (by omega))).trans (f2.off fun c j => pV_c)).trans ((f24.trans f47).off fun c j hc => pK_c (pL_K hc))).trans (Off.setI (by omega) (by omega))⟩
  · unfold X7_define_71
    rw [uN (h_0 σ) nn1]
    dsimp only
    rw [e2, uB]
    dsimp only
    rw [z1, hT2.1, show X7_lay σ2 (nI (en_m (as_E (w_a w)))) (0 : Int32) (nI L) = _ from x7_lay (x := 0) (by omega) _, uB]
    dsimp only
    refine e4.trans ?_
    rw [show X7_lay σ4 (nI (en_m (as_E (w_a w)))) (5 : Int32) (nI wd) = _ from x7_lay (x := 5) (by omega) _, uB]
    dsimp only
    rw [show X7_lay (setI σ4 83 (68 + 7 * en_m (as_E (w_a w)) + 5) (nI wd)) (nI (en_m (as_E (w_a w)))) (6 : Int32) (0 : Int32) = _ from x7_lay (x := 6) (by omega) _, uB]
    dsimp only
    rw [si_o _ _ (by omega), si_o _ _ (by omega), f4.1 83 1 (by omega), si_o _ _ (by omega), z1, nI_1, uB, uB]
  · rw [si_o _ _ (by omega), (f24.trans f47).1 82 0 (by unfold pL; omega), f2.1 82 0 (by unfold pV; omega), si_1]
/-- whether there is an entry with a row and a word -/
def isB (E : En) (R wd : Nat) : Nat → Bool
  | 0 => false
  | n + 1 => isB E R wd n || decide (en_k E n = R ∧ en_w E n = wd)
theorem isB_iff {E : En} {R wd : Nat} : ∀ {n : Nat}, isB E R wd n = true ↔ ∃ t, t < n ∧ en_k E t = R ∧ en_w E t = wd
  | 0 => ⟨fun h => (by cases h), fun ⟨t, h, _⟩ => absurd h (Nat.not_lt_zero t)⟩
  | n + 1 => by
    rw [isB, Bool.or_eq_true, isB_iff (n := n), decide_eq_true_iff]
    refine ⟨fun h => ?_, fun ⟨t, h1, h2⟩ => ?_⟩
    · rcases h with ⟨t, h1, h2⟩ | h
      · exact ⟨t, by omega, h2⟩
      · exact ⟨n, by omega, h⟩
    · by_cases c : t = n
      · exact Or.inr (c ▸ h2)
      · exact Or.inl ⟨t, by omega, h2⟩
theorem bI_or {α : Type} (x y : Bool) (f : Int32 → α) : (if bI x = 0 then (if bI y = 0 then f 0 else f 1) else f 1) = f (bI (x || y)) := by
  cases x
  · rw [if_pos (show bI false = 0 from rfl)]
    cases y
    · rw [if_pos (show bI false = 0 from rfl)]; rfl
    · rw [if_neg (show ¬ bI true = 0 by decide)]; rfl
  · rw [if_neg (show ¬ bI true = 0 by decide)]; rfl
theorem x7_there_470 (K : Mem → Int32 → Int32 → Int32 → Int32 → Option (Mem × Int32)) (fu : Nat) (σ : Mem) (v1 v2 v3 v5 : Int32) : X7_isThere_47 K (fu + 1) σ v1 v2 v3 (0 : Int32) v5 = K σ v1 v2 v3 (bI false) := by
  rw [X7_isThere_47]
  split
  · rfl
  · rw [if_pos rfl]; rfl
theorem x7_there_47 {σ : Mem} {E : En} (h : RE (σ.1 83) 0 E) (ok : EnOk E) {e L : Nat} {tl : Nat → Nat} (hT : ToldR σ L tl) (htl : ∀ j, j < L → tl j < 1024) (hL : L ≤ 4) (he : e < en_m E) (hl : en_l E e = L) (K : Mem → Int32 → Int32 → Int32 → Int32 → Option (Mem × Int32)) {v1 v2 : Int32} : ∀ (r v fu : Nat), v + r = L → r < fu → (∀ k, k < v → en_r E e k = tl k) → X7_isThere_47 K fu σ v1 v2 (nI e) (1 : Int32) (nI v) = K σ v1 v2 (nI e) (bI (decide (∀ k, k < L → en_r E e k = tl k)))
  | r, v, 0, _, h, _ => absurd h (by omega)
  | 0, v, fu + 1, h1, _, hk => by
    rw [X7_isThere_47, hT.1, if_pos (nI_le (by omega) (by omega)), decide_eq_true (fun k hk2 => hk k (by omega))]
    rfl
  | r + 1, v, fu + 1, h1, hf, hk => by
    have r1 := (ok.2 e he).2.1 v (by omega)
    have r2 := htl v (by omega)
    rw [X7_isThere_47, hT.1, if_neg (nI_ge (by omega) (by omega)), if_neg one_ne, of_r h ok he (by omega), uB]
    dsimp only
    rw [if_pos (nI_inA (by omega) (by omega)), nI_clamp (by omega), hT.2 v (by omega)]
    by_cases c : en_r E e v = tl v
    · rw [if_pos (by rw [c]), nI_1]
      exact x7_there_47 h ok hT htl hL he hl K r (v + 1) fu (by omega) (by omega) (fun k hk2 => by
        by_cases c2 : k = v
        · rw [c2]; exact c
        · exact hk k (by omega))
    · rw [if_neg (fun x => c ((nI_eq (by omega) (by omega)).mp x)), nI_1, decide_eq_false (fun x => c (x v (by omega)))]
      cases fu with
      | zero => omega
      | succ fu => exact x7_there_470 K fu σ _ _ _ _
theorem x7_there_4 {σ : Mem} {E : En} (h : RE (σ.1 83) 0 E) (ok : EnOk E) {L wd : Nat} {tl : Nat → Nat} (hT : ToldR σ L tl) (htl : ∀ j, j < L → 1 ≤ tl j ∧ tl j < 1024) (hL : L ≤ 4) (hw : wd < 100) (K : Mem → Int32 → Option (Mem × Int32)) : ∀ (r e fu : Nat), e + r = en_m E → r < fu → X7_isThere_4 K fu σ (nI wd) (bI (isB E (pac tl L) wd e)) (nI e) = K σ (bI (isB E (pac tl L) wd (en_m E)))
  | r, e, 0, _, h => absurd h (by omega)
  | 0, e, fu + 1, h1, _ => by
    have hm := ok.1
    have : e = en_m E := by omega
    subst this
    rw [X7_isThere_4, h.m, if_pos (nI_le (by omega) (by omega))]
  | r + 1, e, fu + 1, h1, hf => by
    have hm := ok.1
    have he : e < en_m E := by omega
    have hle := (ok.2 e he).1
    have hwe := (ok.2 e he).2.2.1
    have ih := x7_there_4 h ok hT htl hL hw K r (e + 1) fu (by omega) (by omega)
    have hk : en_k E e = pac tl L ↔ (en_l E e = L ∧ ∀ k, k < en_l E e → en_r E e k = tl k) := by
      unfold en_k
      exact pac_inj (fun t ht => (ok.2 e he).2.1 t ht) htl
    have fin : ∀ b : Bool, (b = true ↔ en_k E e = pac tl L ∧ en_w E e = wd) → (if bI (isB E (pac tl L) wd e) = 0 then (if bI b = 0 then X7_isThere_4 K fu σ (nI wd) (0 : Int32) (nI e + (1 : Int32)) else X7_isThere_4 K fu σ (nI wd) (1 : Int32) (nI e + (1 : Int32))) else X7_isThere_4 K fu σ (nI wd) (1 : Int32) (nI e + (1 : Int32))) = K σ (bI (isB E (pac tl L) wd (en_m E))) := fun b hb => by
      rw [bI_or _ b (fun x => X7_isThere_4 K fu σ (nI wd) x (nI e + (1 : Int32))), nI_1, ← ih]
      have : b = decide (en_k E e = pac tl L ∧ en_w E e = wd) := by
        cases b with
        | false => exact (decide_eq_false (fun x => by have := hb.mpr x; cases this)).symm
        | true => exact (decide_eq_true (hb.mp rfl)).symm
      rw [this]
      rfl
    have no : ∀ x : Int32, ¬ (en_k E e = pac tl L ∧ en_w E e = wd) → X7_isThere_47 (fun (σ : Mem) (v1 : Int32) (v2 : Int32) (v3 : Int32) (v4 : Int32) => (if v2 = 0 then (if v4 = 0 then X7_isThere_4 K fu σ v1 (0 : Int32) (v3 + (1 : Int32)) else X7_isThere_4 K fu σ v1 (1 : Int32) (v3 + (1 : Int32))) else X7_isThere_4 K fu σ v1 (1 : Int32) (v3 + (1 : Int32)))) FU σ (nI wd) (bI (isB E (pac tl L) wd e)) (nI e) (0 : Int32) (0 : Int32) = K σ (bI (isB E (pac tl L) wd (en_m E))) := fun _ hno => by
      refine (x7_there_470 _ 999 σ _ _ _ _).trans ?_
      exact fin false ⟨fun x => by (cases x), fun x => absurd x hno⟩
    rw [X7_isThere_4, h.m, if_neg (nI_ge (by omega) (by omega)), of_l h ok he, uB]
    dsimp only
    rw [hT.1]
    by_cases c1 : en_l E e = L
    · rw [if_pos (show nI (en_l E e) = nI L by rw [c1]), of_w h ok he, uB]
      dsimp only
      by_cases c2 : en_w E e = wd
      · rw [if_pos (show nI (en_w E e) = nI wd by rw [c2])]
        refine (x7_there_47 h ok hT (fun j hj => (htl j hj).2) hL he c1 _ L 0 FU (by omega) (by unfold FU; omega) (fun k hk => absurd hk (Nat.not_lt_zero k))).trans ?_
        refine fin _ ?_
        rw [decide_eq_true_iff, hk]
        exact ⟨fun x => ⟨⟨c1, fun k hk => x k (by omega)⟩, c2⟩, fun x k hk => x.1.2 k (by omega)⟩
      · rw [if_neg (show ¬ nI (en_w E e) = nI wd from fun x => c2 ((nI_eq (by omega) (by omega)).mp x))]
        exact no 0 (fun x => c2 x.2)
    · rw [if_neg (show ¬ nI (en_l E e) = nI L from fun x => c1 ((nI_eq (by omega) (by omega)).mp x))]
      exact no 0 (fun x => c1 (hk.mp x.1).1)
theorem x7_isThere {σ : Mem} {E : En} (h : RE (σ.1 83) 0 E) (ok : EnOk E) {L wd : Nat} {tl : Nat → Nat} (hT : ToldR σ L tl) (htl : ∀ j, j < L → 1 ≤ tl j ∧ tl j < 1024) (hL : L ≤ 4) (hw : wd < 100) : X7_isThere σ (nI wd) = some (σ, bI (isB E (pac tl L) wd (en_m E))) := by
  refine (x7_there_4 h ok hT htl hL hw _ (en_m E) 0 FU (by omega) (by have := ok.1; unfold FU; omega)).trans ?_
  rw [bI_and1, if_pos rfl]
/-- whether there is an asterisk among what was told -/
def zB (tl : Nat → Nat) : Nat → Bool
  | 0 => false
  | n + 1 => zB tl n || decide (tl n = 0)
theorem zB_iff {tl : Nat → Nat} : ∀ {n : Nat}, zB tl n = true ↔ ∃ j, j < n ∧ tl j = 0
  | 0 => ⟨fun h => (by cases h), fun ⟨t, h, _⟩ => absurd h (Nat.not_lt_zero t)⟩
  | n + 1 => by
    rw [zB, Bool.or_eq_true, zB_iff (n := n), decide_eq_true_iff]
    refine ⟨fun h => ?_, fun ⟨t, h1, h2⟩ => ?_⟩
    · rcases h with ⟨t, h1, h2⟩ | h
      · exact ⟨t, by omega, h2⟩
      · exact ⟨n, by omega, h⟩
    · by_cases c : t = n
      · exact Or.inr (c ▸ h2)
      · exact Or.inl ⟨t, by omega, h2⟩
theorem x7_ast_4 {σ : Mem} {L : Nat} {tl : Nat → Nat} (hT : ToldR σ L tl) (htl : ∀ j, j < L → tl j < 1024) (hL : L ≤ 31) (K : Mem → Int32 → Option (Mem × Int32)) : ∀ (r v fu : Nat), v + r = L → r < fu → X7_hasAsterisk_4 K fu σ (bI (zB tl v)) (nI v) = K σ (bI (zB tl L))
  | r, v, 0, _, h => absurd h (by omega)
  | 0, v, fu + 1, h1, _ => by
    have : v = L := by omega
    subst this
    rw [X7_hasAsterisk_4, hT.1, if_pos (nI_le (by omega) (by omega))]
  | r + 1, v, fu + 1, h1, hf => by
    have h2 := htl v (by omega)
    have ih := x7_ast_4 hT htl hL K r (v + 1) fu (by omega) (by omega)
    rw [X7_hasAsterisk_4, hT.1, if_neg (nI_ge (by omega) (by omega))]
    cases hz : zB tl v with
    | true =>
      have e1 : zB tl (v + 1) = true := by rw [zB, hz]; rfl
      rw [e1] at ih
      rw [if_neg (show ¬ bI true = 0 by decide), nI_1]
      exact ih
    | false =>
      rw [if_pos (show bI false = 0 from rfl), if_pos (nI_inA (by omega) (by omega)), nI_clamp (by omega), hT.2 v (by omega)]
      by_cases c : tl v = 0
      · have e1 : zB tl (v + 1) = true := by rw [zB, hz, decide_eq_true c]; rfl
        rw [e1] at ih
        rw [if_pos (show nI (tl v) = 0 by rw [c]; rfl), nI_1]
        exact ih
      · have e1 : zB tl (v + 1) = false := by rw [zB, hz, decide_eq_false c]; rfl
        rw [e1] at ih
        rw [if_neg (nI_ne0 (by omega) (by omega)), nI_1]
        exact ih
theorem x7_ast {σ : Mem} {L : Nat} {tl : Nat → Nat} (hT : ToldR σ L tl) (htl : ∀ j, j < L → tl j < 1024) (hL : L ≤ 31) : X7_hasAsterisk σ = some (σ, bI (zB tl L)) := by
  refine (x7_ast_4 hT htl hL _ L 0 FU (by omega) (by unfold FU; omega)).trans ?_
  rw [bI_and1, if_pos rfl]
