/-! ENTRIES: writing -/
def updn {α : Type} (f : Nat → α) (n : Nat) (v : α) : Nat → α := fun j => if j = n then v else f j
theorem updn_1 {α : Type} (f : Nat → α) (n : Nat) (v : α) : updn f n v n = v := if_pos rfl
theorem updn_o {α : Type} (f : Nat → α) {n j : Nat} (v : α) (h : j ≠ n) : updn f n v j = f j := if_neg h
def enPick (E : En) (e : Nat) : En := (en_m E, en_l E, en_r E, en_w E, updn (en_p E) e (en_p E e + 1))
theorem enPick_k (E : En) (e t : Nat) : en_k (enPick E e) t = en_k E t := rfl
theorem x0_pickOnce {σ : Mem} {i e : Nat} {E : En} (h : EnC σ i E) (ok : EnOk E) (he : e < en_m E) : ∃ σ', X0_pickOnce i σ (nI e) = some (σ', ()) ∧ EnC σ' i (enPick E e) ∧ Off i (i + 4) σ σ' := by
  have hm := ok.1
  refine ⟨setI σ (i + 3) e (nI (en_p E e + 1)), ?_, ⟨?_, fun t ht => ⟨?_, ?_, ?_⟩⟩, Off.setI (by omega) (by omega)⟩
  · unfold X0_pickOnce
    rw [x0_has_t h ok he, uB, if_neg one_ne]
    simp (disch := omega) only [uB, ofn, k_0, k_1, k_2, k_3, k_4, k_5, k_6, k_7, k_8, k_9, k_10, k_24, k_60, k_68, k_236, c_le_t, c_le_f, c_lt_t, c_lt_f, c_eq_t, c_eq_f, c_m1_f, c_m1_f', c_m1_lt, c_m1_nlt, c_m1_le, c_m1_nle, c_inA, c_cl, c_sub, c_add, if_false, if_true, (h.2 e he).2.2]
  · rw [si_o _ _ (by omega)]; exact h.1
  · exact (h.2 t ht).1
  · rw [si_o _ _ (by omega)]; exact (h.2 t ht).2.1
  · show _ = nI (updn (en_p E) e (en_p E e + 1) t)
    by_cases c : t = e
    · subst c; rw [si_1, updn_1]
    · rw [si_o _ _ (by omega), updn_o _ _ c]; exact (h.2 t ht).2.2
def enPut (E : En) (L : Nat) (r : Nat → Nat) (w p : Nat) : En := (en_m E + 1, updn (en_l E) (en_m E) L, updn (en_r E) (en_m E) r, updn (en_w E) (en_m E) w, updn (en_p E) (en_m E) p)
theorem enPut_k1 (E : En) (L : Nat) (r : Nat → Nat) (w p : Nat) : en_k (enPut E L r w p) (en_m E) = pac r L := by
  show pac (updn (en_r E) (en_m E) r (en_m E)) (updn (en_l E) (en_m E) L (en_m E)) = _
  rw [updn_1, updn_1]
theorem enPut_ko (E : En) (L : Nat) (r : Nat → Nat) (w p : Nat) {t : Nat} (h : t ≠ en_m E) : en_k (enPut E L r w p) t = en_k E t := by
  show pac (updn (en_r E) (en_m E) r t) (updn (en_l E) (en_m E) L t) = _
  rw [updn_o _ _ h, updn_o _ _ h]; rfl
theorem x0_put_ {σ : Mem} {i L w p : Nat} {r : Nat → Nat} {E : En} (h : EnC σ i E) (hm : en_m E < 24) : ∃ σ', X0_put_ i σ (lN (pac r L)) (nI w) (nI p) = some (σ', ()) ∧ EnC σ' i (enPut E L r w p) ∧ Off i (i + 4) σ σ' := by
  refine ⟨setI (setI (setI (setL σ (i + 1) (en_m E) (lN (pac r L))) (i + 2) (en_m E) (nI w)) (i + 3) (en_m E) (nI p)) i 3 (nI (en_m E + 1)), ?_, ⟨?_, fun t ht => ⟨?_, ?_, ?_⟩⟩, ((((Off.setL (by omega) (by omega)).trans (Off.setI (by omega) (by omega))).trans (Off.setI (by omega) (by omega))).trans (Off.setI (by omega) (by omega)))⟩
  · unfold X0_put_
    rw [h.1]
    simp (disch := omega) only [uB, ofn, k_0, k_1, k_2, k_3, k_4, k_5, k_6, k_7, k_8, k_9, k_10, k_24, k_60, k_68, k_236, c_le_t, c_le_f, c_lt_t, c_lt_f, c_eq_t, c_eq_f, c_m1_f, c_m1_f', c_m1_lt, c_m1_nlt, c_m1_le, c_m1_nle, c_inA, c_cl, c_sub, c_add, if_false, if_true, si_o, sl_i, h.1]
  · rw [si_1]; rfl
  · show (setL σ (i + 1) (en_m E) (lN (pac r L))).2 (i + 1) t = _
    by_cases c : t = en_m E
    · subst c; rw [sl_1, enPut_k1]
    · rw [sl_o _ _ (by omega), enPut_ko _ _ _ _ _ c]
      have ht : t < en_m E + 1 := ht
      exact (h.2 t (by omega)).1
  · show _ = nI (updn (en_w E) (en_m E) w t)
    have ht : t < en_m E + 1 := ht
    rw [si_o _ _ (by omega), si_o _ _ (by omega)]
    by_cases c : t = en_m E
    · subst c; rw [si_1, updn_1]
    · rw [si_o _ _ (by omega), updn_o _ _ c]; exact (h.2 t (by omega)).2.1
  · show _ = nI (updn (en_p E) (en_m E) p t)
    have ht : t < en_m E + 1 := ht
    rw [si_o _ _ (by omega)]
    by_cases c : t = en_m E
    · subst c; rw [si_1, updn_1]
    · rw [si_o _ _ (by omega), updn_o _ _ c, si_o _ _ (by omega)]; exact (h.2 t (by omega)).2.2
theorem x0_put {σ : Mem} {i L w : Nat} {r : Nat → Nat} {E : En} (h : EnC σ i E) (hm : en_m E < 24) : ∃ σ', X0_put i σ (lN (pac r L)) (nI w) = some (σ', ()) ∧ EnC σ' i (enPut E L r w 0) ∧ Off i (i + 4) σ σ' := by
  obtain ⟨σ', e, h1, o⟩ := x0_put_ (L := L) (w := w) (p := 0) (r := r) h hm
  exact ⟨σ', by unfold X0_put; rw [k_0, e, uB], h1, o⟩
/-- what is left behind one that goes -/
def skp (e t : Nat) : Nat := if t < e then t else t + 1
def enTake (E : En) (e : Nat) : En := (en_m E - 1, fun t => en_l E (skp e t), fun t => en_r E (skp e t), fun t => en_w E (skp e t), fun t => en_p E (skp e t))
theorem x0_takeAway_13 {i e : Nat} {E : En} (K : Mem → Option (Mem × Unit)) (ok : EnOk E) (he : e < en_m E) : ∀ (r v fu : Nat) (σ : Mem), v + r = en_m E → e < v → r < fu → σ.1 i 3 = nI (en_m E) →
    (∀ t, t < en_m E → (t < v - 1 → σ.2 (i + 1) t = lN (en_k E (skp e t)) ∧ σ.1 (i + 2) t = nI (en_w E (skp e t)) ∧ σ.1 (i + 3) t = nI (en_p E (skp e t))) ∧ (v - 1 < t → σ.2 (i + 1) t = lN (en_k E t) ∧ σ.1 (i + 2) t = nI (en_w E t) ∧ σ.1 (i + 3) t = nI (en_p E t))) →
    ∃ σ', X0_takeAway_13 i K fu σ (nI v) = K σ' ∧ σ'.1 i 3 = nI (en_m E) ∧ (∀ t, t < en_m E - 1 → σ'.2 (i + 1) t = lN (en_k E (skp e t)) ∧ σ'.1 (i + 2) t = nI (en_w E (skp e t)) ∧ σ'.1 (i + 3) t = nI (en_p E (skp e t))) ∧ Off i (i + 4) σ σ'
  | 0, v, 0, _, _, _, h, _, _ => absurd h (by omega)
  | r + 1, v, 0, _, _, _, h, _, _ => absurd h (by omega)
  | 0, v, fu + 1, σ, h1, _, _, h3, ha => by
    have hm := ok.1
    refine ⟨σ, ?_, h3, fun t ht => (ha t (by omega)).1 (by omega), Off.rfl'⟩
    rw [X0_takeAway_13, h3, if_pos (nI_le (by omega) (by omega))]
  | r + 1, v, fu + 1, σ, h1, hv, hfu, h3, ha => by
    have hm := ok.1
    obtain ⟨h4, h5, h6⟩ := (ha v (by omega)).2 (by omega)
    have hs : skp e (v - 1) = v := by unfold skp; rw [if_neg (by omega)]; omega
    obtain ⟨σ', e1, h7, h8, o⟩ := x0_takeAway_13 (i := i) K ok he r (v + 1) fu (setI (setI (setL σ (i + 1) (v - 1) (lN (en_k E v))) (i + 2) (v - 1) (nI (en_w E v))) (i + 3) (v - 1) (nI (en_p E v))) (by omega) (by omega) (by omega) (by rw [si_o _ _ (by omega), si_o _ _ (by omega)]; exact h3) (fun t ht => by
      refine ⟨fun ht2 => ?_, fun ht2 => ?_⟩
      · show (setL σ (i + 1) (v - 1) _).2 (i + 1) t = _ ∧ _
        by_cases c : t = v - 1
        · subst c
          rw [sl_1, hs, si_o _ _ (by omega), si_1, si_1]
          exact ⟨rfl, rfl, rfl⟩
        · rw [sl_o _ _ (by omega), si_o _ _ (by omega), si_o _ _ (by omega), si_o _ _ (by omega), si_o _ _ (by omega)]
          exact (ha t ht).1 (by omega)
      · show (setL σ (i + 1) (v - 1) _).2 (i + 1) t = _ ∧ _
        rw [sl_o _ _ (by omega), si_o _ _ (by omega), si_o _ _ (by omega), si_o _ _ (by omega), si_o _ _ (by omega)]
        exact (ha t ht).2 (by omega))
    refine ⟨σ', ?_, h7, h8, (((Off.setL (by omega) (by omega)).trans (Off.setI (by omega) (by omega))).trans (Off.setI (by omega) (by omega))).trans o⟩
    rw [X0_takeAway_13, h3]
    simp (disch := omega) only [uB, ofn, k_0, k_1, k_2, k_3, k_4, k_5, k_6, k_7, k_8, k_9, k_10, k_24, k_60, k_68, k_236, c_le_t, c_le_f, c_lt_t, c_lt_f, c_eq_t, c_eq_f, c_m1_f, c_m1_f', c_m1_lt, c_m1_nlt, c_m1_le, c_m1_nle, c_inA, c_cl, c_sub, c_add, if_false, if_true, si_o, sl_i, h4, h5, h6]
    exact e1
theorem x0_takeAway {σ : Mem} {i e : Nat} {E : En} (h : EnC σ i E) (ok : EnOk E) (he : e < en_m E) : ∃ σ', X0_takeAway i σ (nI e) = some (σ', ()) ∧ EnC σ' i (enTake E e) ∧ Off i (i + 4) σ σ' := by
  have hm := ok.1
  obtain ⟨σ', e1, h1, h2, o⟩ := x0_takeAway_13 (i := i) (fun σ => some (setI σ i 3 ((σ.1 i 3) - (1 : Int32)), ())) ok he (en_m E - (e + 1)) (e + 1) FU σ (by omega) (by omega) (by unfold FU; omega) h.1 (fun t ht => ⟨fun ht2 => by
    have : skp e t = t := by unfold skp; rw [if_pos (by omega)]
    rw [this]; exact h.2 t ht, fun _ => h.2 t ht⟩)
  refine ⟨setI σ' i 3 (nI (en_m E - 1)), ?_, ⟨si_1 _ _ _ _, fun t ht => ?_⟩, o.trans (Off.setI (by omega) (by omega))⟩
  · unfold X0_takeAway
    rw [x0_has_t h ok he, uB, if_neg one_ne, nI_1]
    refine e1.trans ?_
    rw [h1, k_1, pk_sub (by omega)]
  · have := h2 t ht
    rw [si_o _ _ (by omega), si_o _ _ (by omega)]
    exact this
theorem x0_become_7 {i j : Nat} {E : En} (K : Mem → Option (Mem × Unit)) (hd : i + 3 < j ∨ j + 3 < i) (ok : EnOk E) : ∀ (r k fu : Nat) (σ : Mem), k + r = en_m E → r < fu → EnC σ j E → EnC σ i (k, E.2) → ∃ σ', X0_become_7 i j K fu σ (nI k) = K σ' ∧ EnC σ' i E ∧ Off i (i + 4) σ σ'
  | 0, k, 0, _, _, h, _, _ => absurd h (by omega)
  | r + 1, k, 0, _, _, h, _, _ => absurd h (by omega)
  | 0, k, fu + 1, σ, h, _, hj, hi => by
    have hm := ok.1
    have hk : k = en_m E := by omega
    subst hk
    refine ⟨σ, ?_, hi, Off.rfl'⟩
    rw [X0_become_7, hj.1, if_pos (nI_le (by omega) (by omega))]
  | r + 1, k, fu + 1, σ, h, hf, hj, hi => by
    have hm := ok.1
    have hk : k < en_m E := by omega
    obtain ⟨σ1, e1, h1, o1⟩ := x0_put_ (L := en_l E k) (w := en_w E k) (p := en_p E k) (r := en_r E k) hi (show k < 24 by omega)
    have h2 : EnC σ1 i (k + 1, E.2) := by
      refine ⟨h1.1, fun t ht => ?_⟩
      obtain ⟨a1, a2, a3⟩ := h1.2 t ht
      have ht : t < k + 1 := ht
      by_cases c : t = k
      · subst c
        refine ⟨a1.trans (by rw [show t = en_m ((t, E.2) : En) from rfl, enPut_k1]; rfl), a2.trans ?_, a3.trans ?_⟩
        · show nI (updn (en_w E) t (en_w E t) t) = _
          rw [updn_1]
        · show nI (updn (en_p E) t (en_p E t) t) = _
          rw [updn_1]
      · refine ⟨a1.trans (by rw [enPut_ko _ _ _ _ _ (show t ≠ en_m ((k, E.2) : En) from c)]; rfl), a2.trans ?_, a3.trans ?_⟩
        · show nI (updn (en_w E) k (en_w E k) t) = _
          rw [updn_o _ _ c]
        · show nI (updn (en_p E) k (en_p E k) t) = _
          rw [updn_o _ _ c]
    obtain ⟨σ', e2, h3, o2⟩ := x0_become_7 K hd ok r (k + 1) fu σ1 (by omega) (by omega) (hj.off o1 (by omega)) h2
    refine ⟨σ', ?_, h3, o1.trans o2⟩
    rw [X0_become_7, hj.1, if_neg (nI_ge (by omega) (by omega)), x0_rowOf hj ok hk, uB, x0_wordOf hj ok hk, uB, x0_picksOf hj ok hk, uB]
    show ((X0_put_ i σ (lN (pac (en_r E k) (en_l E k))) (nI (en_w E k)) (nI (en_p E k))).bind _) = _
    rw [e1, uB, nI_1, e2]
theorem x0_become {σ : Mem} {i j : Nat} {E : En} (hd : i + 3 < j ∨ j + 3 < i) (ok : EnOk E) (h : EnC σ j E) : ∃ σ', X0_become i j σ = some (σ', ()) ∧ EnC σ' i E ∧ Off i (i + 4) σ σ' := by
  have o1 : Off i (i + 4) σ (setI σ i 3 0) := Off.setI (by omega) (by omega)
  obtain ⟨σ', e, h2, o2⟩ := x0_become_7 (fun σ => some (σ, ())) hd ok (en_m E) 0 FU (setI σ i 3 0) (by omega) (by have := ok.1; unfold FU; omega) (h.off o1 (by omega)) ⟨si_1 _ _ _ _, fun t ht => absurd ht (Nat.not_lt_zero t)⟩
  exact ⟨σ', by unfold X0_become; rw [uB]; exact e, h2, o1.trans o2⟩
