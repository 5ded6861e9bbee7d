/-! ONE CALL OF THE LAW: class and reference answer alike -/
def Inv (T : Nat) (σ : Mem) (w : Wd) : Prop := ClP σ w ∧ ClS σ ∧ RfP σ w ∧ WdOk T w
def Good (T : Nat) (L : Option (Mem × Int32)) (X : Mem → Option (Mem × Int32)) : Prop := ∃ σ1 k σ2 r w', L = some (σ1, k) ∧ X σ1 = some (σ2, r) ∧ σ2.1 82 0 = k ∧ (k = 0 → lg_cmp (σ2.2 91 0) r.toInt64 = 0) ∧ Inv (T + 1) σ2 w'
def Good1 (T : Nat) (L : Option (Mem × Int32)) (X : Mem → Option (Mem × Int32)) : Prop := ∃ σ1 r σ2 w', L = some (σ1, r) ∧ X σ1 = some (σ2, r) ∧ Inv (T + 1) σ2 w'
theorem RfP.o82 {σ σ' : Mem} {w : Wd} (h : RfP σ w) (o : Off 0 82 σ σ') : RfP σ' w := by
  obtain ⟨g1, g2, g3, g4, g5, g6, g7⟩ := h
  have e82 := (o 82 (by omega)).1
  have e83 := (o 83 (by omega)).1
  have e84 := (o 84 (by omega)).1
  exact ⟨by rw [e83]; exact g1, by rw [e83]; exact g2, by rw [e82]; exact g3, by rw [e82]; exact g4, by rw [e83]; exact g5, by rw [e82]; exact g6, by rw [e84]; exact g7⟩
theorem Inv.o {T : Nat} {σ σ' : Mem} {w : Wd} {lo hi : Nat} (p : ClP σ w) (s : ClS σ) (r : RfP σ' w) (ok : WdOk T w) (o : Off lo hi σ σ') (h : 82 ≤ lo) : Inv T σ' w := ⟨p.off o (by omega) (by omega), s.off o (by omega), r, ok⟩
theorem Good.ans {T : Nat} {σ : Mem} {w w' : Wd} {m : Option (Mem × (Int32 ⊕ Nat))} {r : Int32} {X : Mem → Option (Mem × Int32)} {G : Mem × (Int32 ⊕ Nat) → Nat → Option (Mem × Int32)} (hi : Inv T σ w) (hA : Ans m σ w' (Sum.inl r)) (hR : ∀ σ1, RfP σ1 w → Rf (X σ1) σ1 w' 0 r) (ok : WdOk (T + 1) w') : Good T (m.bind fun q => sel q.2 (fun v => some (setL q.1 91 0 v.toInt64, (0 : Int32))) (G q)) X := by
  obtain ⟨σ1, e1, p1, s1, o1⟩ := hA
  have r1 : RfP σ1 w := hi.2.2.1.o82 o1
  have r1 : RfP (setL σ1 91 0 r.toInt64) w := r1
  obtain ⟨σ2, e2, r2, t2, o2⟩ := hR _ r1
  have oL : Off 91 92 σ1 (setL σ1 91 0 r.toInt64) := Off.setL (by omega) (by omega)
  refine ⟨setL σ1 91 0 r.toInt64, 0, σ2, r, w', by rw [e1, uB]; rfl, e2, t2, fun _ => ?_, Inv.o (p1.off oL (by omega) (by omega)) (s1.off oL (by omega)) r2 ok o2 (by omega)⟩
  rw [(o2 91 (by omega)).2, sl_1]
  exact (lg_cmp_eq _ _).mpr rfl
theorem Good.thr {T x : Nat} {σ : Mem} {w : Wd} {m : Option (Mem × (Int32 ⊕ Nat))} {th : Int32} {X : Mem → Option (Mem × Int32)} {G : Mem × (Int32 ⊕ Nat) → Nat → Option (Mem × Int32)} (hi : Inv T σ w) (hA : Ans m σ w (Sum.inr x)) (hR : ∀ σ1, RfP σ1 w → Rf (X σ1) σ1 w th 0) (hG : ∀ q, G q x = some (q.1, th)) (hth : ¬ th = 0) : Good T (m.bind fun q => sel q.2 (fun v => some (setL q.1 91 0 v.toInt64, (0 : Int32))) (G q)) X := by
  obtain ⟨σ1, e1, p1, s1, o1⟩ := hA
  obtain ⟨σ2, e2, r2, t2, o2⟩ := hR _ (hi.2.2.1.o82 o1)
  refine ⟨σ1, th, σ2, 0, w, ?_, e2, t2, fun x => absurd x hth, Inv.o p1 s1 r2 (hi.2.2.2.mono (Nat.le_succ T)) o2 (by omega)⟩
  rw [e1, uB]
  exact hG _
theorem Good1.ans {T : Nat} {σ : Mem} {w w' : Wd} {m : Option (Mem × Int32)} {r : Int32} {X : Mem → Option (Mem × Int32)} (hi : Inv T σ w) (hA : Ans1 m σ w' r) (hR : ∀ σ1, RfP σ1 w → Rf (X σ1) σ1 w' 0 r) (ok : WdOk (T + 1) w') : Good1 T m X := by
  obtain ⟨σ1, e1, p1, s1, o1⟩ := hA
  obtain ⟨σ2, e2, r2, t2, o2⟩ := hR _ (hi.2.2.1.o82 o1)
  exact ⟨σ1, r, σ2, w', e1, e2, Inv.o p1 s1 r2 ok o2 (by omega)⟩
/-! states stay well made -/
theorem asTear_ok {a : As} {T : Nat} (h : AsOk T a) : AsOk T (asTear a) := by
  obtain ⟨h1, h2, h3, h4, h5, h6, h7, h8, h9⟩ := h
  exact ⟨Nat.zero_le _, fun t ht => absurd ht (Nat.not_lt_zero t), h3, h4, h5, h6, h7, h8, h9⟩
theorem asE_ok {a : As} {T U : Nat} {E : En} (h : AsOk T a) (hT : T ≤ U) (hE : EnOk E) (hp : ∀ e, e < en_m E → en_p E e ≤ U) : AsOk U (asE a E) := by
  obtain ⟨h1, h2, h3, h4, h5, h6, h7, h8, h9⟩ := h
  exact ⟨h1, h2, hE, h4, h5, by show as_k a ≤ 30 * U; omega, h7, h8, hp⟩
theorem enPick_ok {E : En} {T e : Nat} (ok : EnOk E) (hp : ∀ t, t < en_m E → en_p E t ≤ T) (hT : T + 1 ≤ 512) : EnOk (enPick E e) ∧ ∀ t, t < en_m (enPick E e) → en_p (enPick E e) t ≤ T + 1 := by
  have key : ∀ t, t < en_m E → updn (en_p E) e (en_p E e + 1) t ≤ T + 1 := fun t ht => by
    by_cases c : t = e
    · rw [c, updn_1]
      have := hp e (c ▸ ht)
      omega
    · rw [updn_o _ _ c]
      have := hp t ht
      omega
  exact ⟨⟨ok.1, fun t ht => ⟨(ok.2 t ht).1, (ok.2 t ht).2.1, (ok.2 t ht).2.2.1, Nat.le_trans (key t ht) hT⟩⟩, key⟩
theorem enPut_ok {E : En} {L wd T : Nat} {r : Nat → Nat} (ok : EnOk E) (hp : ∀ t, t < en_m E → en_p E t ≤ T) (hm : en_m E < 24) (hL : 1 ≤ L ∧ L ≤ 4) (hr : ∀ k, k < L → 1 ≤ r k ∧ r k < 1024) (hw : wd < 100) : EnOk (enPut E L r wd 0) ∧ ∀ t, t < en_m (enPut E L r wd 0) → en_p (enPut E L r wd 0) t ≤ T := by
  refine ⟨⟨by show en_m E + 1 ≤ 24; omega, fun t ht => ?_⟩, fun t ht => ?_⟩
  · have ht : t < en_m E + 1 := ht
    show (1 ≤ updn (en_l E) (en_m E) L t ∧ updn (en_l E) (en_m E) L t ≤ 4) ∧ (∀ k, k < updn (en_l E) (en_m E) L t → 1 ≤ updn (en_r E) (en_m E) r t k ∧ updn (en_r E) (en_m E) r t k < 1024) ∧ updn (en_w E) (en_m E) wd t < 100 ∧ updn (en_p E) (en_m E) 0 t ≤ 512
    by_cases c : t = en_m E
    · rw [c, updn_1, updn_1, updn_1, updn_1]
      exact ⟨hL, hr, hw, Nat.zero_le _⟩
    · rw [updn_o _ _ c, updn_o _ _ c, updn_o _ _ c, updn_o _ _ c]
      exact ok.2 t (by omega)
  · have ht : t < en_m E + 1 := ht
    show updn (en_p E) (en_m E) 0 t ≤ T
    by_cases c : t = en_m E
    · rw [c, updn_1]; exact Nat.zero_le _
    · rw [updn_o _ _ c]; exact hp t (by omega)
theorem enTake_ok {E : En} {e T : Nat} (ok : EnOk E) (hp : ∀ t, t < en_m E → en_p E t ≤ T) : EnOk (enTake E e) ∧ ∀ t, t < en_m (enTake E e) → en_p (enTake E e) t ≤ T := by
  have hs : ∀ t, t < en_m E - 1 → skp e t < en_m E := fun t ht => by unfold skp; split <;> omega
  exact ⟨⟨by show en_m E - 1 ≤ 24; have := ok.1; omega, fun t ht => ok.2 _ (hs t ht)⟩, fun t ht => hp _ (hs t ht)⟩
/-! the calls -/
theorem s_strike {T : Nat} {σ : Mem} {w : Wd} (hi : Inv T σ w) (x : Int32) : Good T (L_strike σ x) (fun σ => X7_strike σ x) := by
  obtain ⟨p, s, r, ok0⟩ := hi
  have ok := ok0.mono (Nat.le_succ T)
  have hk := ok0.1.2.2.2.2.2.1
  unfold L_strike
  rcases bad_or x 0 1023 (by omega) with c | ⟨j, j1, j2, hx⟩
  · exact Good.thr ⟨p, s, r, ok0⟩ (Ans.ex p s (q_strike_bad c)) (fun σ1 h => r_strike_bad h c) (fun q => if_pos rfl) nn1
  · subst hx
    cases hc : canS (w_a w) j with
    | false => exact Good.thr ⟨p, s, r, ok0⟩ (Ans.ex p s (q_strike_no p ok.1 (by omega) hc)) (fun σ1 h => r_strike_no ok h (by omega) hc) (fun q => rfl) nn2
    | true => exact Good.ans ⟨p, s, r, ok0⟩ (q_strike p s ok.1 (by omega) hc (by omega)) (fun σ1 h => r_strike ok h (by omega) hc (by omega)) (ok.push.A (asStk_ok (by omega) ok.1 hc (by omega)))
theorem s_play {T : Nat} {σ : Mem} {w : Wd} (hi : Inv T σ w) : Good T (L_play σ) (fun σ => X7_play σ) := by
  obtain ⟨p, s, r, ok0⟩ := hi
  have ok := ok0.mono (Nat.le_succ T)
  have hk := ok0.1.2.2.2.2.2.1
  have hx := ok.2.2.2.2
  have hk30 : as_k (w_a w) + 30 ≤ 30 * (T + 1) := by omega
  unfold L_play
  cases hr : (w_r w).1 with
  | false => exact Good.thr ⟨p, s, r, ok0⟩ (q_play_bad p s hx hr) (fun σ1 h => r_play_bad h hx hr) (fun q => if_pos rfl) nn1
  | true =>
    obtain ⟨t1, t2, t3, t4⟩ := tRead_ok (n := w_n w) (t := w_t w) hx.1
    have t4 := t4 hr
    have hpl := plA_ok (T := T + 1) t2 (w_r w).2.2.1 0 (w_a w) (Nat.zero_add _) ok.1 (Nat.le_trans (Nat.add_le_add_left t4.2 _) hk30)
    exact Good.ans ⟨p, s, r, ok0⟩ (q_play p s hx ok.1 hk30 hr) (fun σ1 h => r_play ok h hk30 hr) ((ok.push.A hpl.1).txt ⟨Nat.zero_le _, fun j hj => absurd hj (Nat.not_lt_zero j)⟩)
theorem s_tear {T : Nat} {σ : Mem} {w : Wd} (hi : Inv T σ w) : Good1 T (X6_tear σ) (fun σ => X7_tear σ) := by
  obtain ⟨p, s, r, ok0⟩ := hi
  have ok := ok0.mono (Nat.le_succ T)
  exact Good1.ans ⟨p, s, r, ok0⟩ (q_tear p s ok.1) (fun σ1 h => r_tear ok h) (ok.push.A (asTear_ok ok.1))
theorem s_pick {T : Nat} {σ : Mem} {w : Wd} (hT : T + 1 ≤ 512) (hi : Inv T σ w) (x y : Int32) : Good T (L_pick σ x y) (fun σ => X7_pick σ x y) := by
  obtain ⟨p, s, r, ok0⟩ := hi
  have ok := ok0.mono (Nat.le_succ T)
  have ht := as_t_le ok.1
  have hm := ok.1.2.2.1.1
  unfold L_pick
  have no : ((x < 0 ∨ nI (as_t (w_a w)) ≤ x) ∨ ((∃ i, i < as_t (w_a w) ∧ x = nI i) ∧ (y < 0 ∨ nI (en_m (as_E (w_a w))) ≤ y))) → Good T ((X6_pick σ x y).bind fun q => sel q.2 (fun v => some (setL q.1 91 0 v.toInt64, (0 : Int32))) (fun x => (if x = 2 then some (q.1, (1 : Int32)) else (if x = 1 then some (q.1, (2 : Int32)) else none)))) (fun σ => X7_pick σ x y) := fun hx => Good.thr ⟨p, s, r, ok0⟩ (q_pick_bad p s ok.1 hx) (fun σ1 h => r_pick_bad ok h hx) (fun q => if_pos rfl) nn1
  rcases pk_ix x (n := as_t (w_a w)) (Nat.lt_of_le_of_lt ht (by omega)) with c | c | ⟨i, hi, hx⟩
  · exact no (Or.inl (Or.inl c))
  · exact no (Or.inl (Or.inr c))
  · rcases pk_ix y (n := en_m (as_E (w_a w))) (by omega) with d | d | ⟨e, he, hy⟩
    · exact no (Or.inr ⟨⟨i, hi, hx⟩, Or.inl d⟩)
    · exact no (Or.inr ⟨⟨i, hi, hx⟩, Or.inr d⟩)
    · subst hx
      subst hy
      by_cases hk : it_k (w_a w) i = en_k (as_E (w_a w)) e
      · have hE := enPick_ok (e := e) ok0.1.2.2.1 ok0.1.2.2.2.2.2.2.2.2 hT
        exact Good.ans ⟨p, s, r, ok0⟩ (q_pick p s ok.1 hi he hk) (fun σ1 h => r_pick ok h hi he hk) (ok.push.A (asE_ok ok0.1 (Nat.le_succ T) hE.1 hE.2))
      · exact Good.thr ⟨p, s, r, ok0⟩ (q_pick_no p s ok.1 hi he hk) (fun σ1 h => r_pick_no ok h hi he hk) (fun q => rfl) nn2
theorem s_define {T : Nat} {σ : Mem} {w : Wd} (hi : Inv T σ w) (x : Int32) : Good T (L_define σ x) (fun σ => X7_define σ x) := by
  obtain ⟨p, s, r, ok0⟩ := hi
  have ok := ok0.mono (Nat.le_succ T)
  have hx := ok.2.2.2.2
  have hm := ok.1.2.2.1.1
  unfold L_define
  rcases bad_or x 0 99 (by omega) with c | ⟨wd, w1, w2, hxx⟩
  · exact Good.thr ⟨p, s, r, ok0⟩ (q_define_bad p s c) (fun σ1 h => r_define_bad h c) (fun q => if_pos rfl) nn1
  · subst hxx
    cases hr : rowB (w_r w) with
    | false => exact Good.thr ⟨p, s, r, ok0⟩ (q_define_no p s hx w2 hr) (fun σ1 h => r_define_no h hx w2 hr) (fun q => if_pos rfl) nn1
    | true =>
      rcases Classical.em (en_m (as_E (w_a w)) = 24 ∨ deB w wd) with hf | hf
      · exact Good.thr ⟨p, s, r, ok0⟩ (q_define_full ok.1 p s hx w2 hr hf) (fun σ1 h => r_define_full ok h w2 hr hf) (fun q => rfl) nn2
      · have h1 : en_m (as_E (w_a w)) ≠ 24 := fun x => hf (Or.inl x)
        have h2 : ¬ deB w wd := fun x => hf (Or.inr x)
        obtain ⟨t1, t2, t3, t4⟩ := tRead_ok (n := w_n w) (t := w_t w) hx.1
        have hr2 := hr
        unfold rowB at hr2
        rw [Bool.and_eq_true, Bool.and_eq_true] at hr2
        obtain ⟨⟨b1, b2⟩, b3⟩ := hr2
        have b2 := of_decide_eq_true b2
        have b3 := of_decide_eq_true b3
        have hE := enPut_ok (wd := wd) (r := (w_r w).2.2.2) (L := (w_r w).2.2.1) ok.1.2.2.1 ok.1.2.2.2.2.2.2.2.2 (by omega) ⟨(t4 b1).1, b2⟩ (fun k hk => ⟨Nat.pos_of_ne_zero (b3 k hk), t2 k hk⟩) (by omega)
        exact Good.ans ⟨p, s, r, ok0⟩ (q_define ok.1 p s hx w2 hr h1 h2) (fun σ1 h => r_define ok h w2 hr h1 h2) ((ok.push.A (asE_ok ok.1 (Nat.le_refl _) hE.1 hE.2)).txt ⟨Nat.zero_le _, fun j hj => absurd hj (Nat.not_lt_zero j)⟩)
theorem s_remove {T : Nat} {σ : Mem} {w : Wd} (hi : Inv T σ w) (x : Int32) : Good T (L_remove σ x) (fun σ => X7_remove σ x) := by
  obtain ⟨p, s, r, ok0⟩ := hi
  have ok := ok0.mono (Nat.le_succ T)
  have hm := ok.1.2.2.1.1
  unfold L_remove
  rcases pk_ix x (n := en_m (as_E (w_a w))) (by omega) with d | d | ⟨e, he, hy⟩
  · exact Good.thr ⟨p, s, r, ok0⟩ (Ans.ex p s (q_remove_bad p (Or.inl d))) (fun σ1 h => r_remove_bad ok h (Or.inl d)) (fun q => if_pos rfl) nn1
  · exact Good.thr ⟨p, s, r, ok0⟩ (Ans.ex p s (q_remove_bad p (Or.inr d))) (fun σ1 h => r_remove_bad ok h (Or.inr d)) (fun q => if_pos rfl) nn1
  · subst hy
    have hE := enTake_ok (e := e) ok.1.2.2.1 ok.1.2.2.2.2.2.2.2.2
    exact Good.ans ⟨p, s, r, ok0⟩ (q_remove p s ok.1 he) (fun σ1 h => r_remove ok h he) (ok.push.A (asE_ok ok.1 (Nat.le_refl _) hE.1 hE.2))
theorem s_set {T : Nat} {σ : Mem} {w : Wd} (hi : Inv T σ w) (x y : Int32) : Good T (L_set σ x y) (fun σ => X7_set σ x y) := by
  obtain ⟨p, s, r, ok0⟩ := hi
  have ok := ok0.mono (Nat.le_succ T)
  unfold L_set
  rcases bad_or x 0 1 (by omega) with c | ⟨i, i1, i2, hxx⟩
  · exact Good.thr ⟨p, s, r, ok0⟩ (Ans.ex p s (q_set_bad c)) (fun σ1 h => r_set_bad h c) (fun q => if_pos rfl) nn1
  · subst hxx
    rcases bad_or y i (if i = 0 then 1 else 4) (by split <;> omega) with c | ⟨v, v1, v2, hyy⟩
    · exact Good.thr ⟨p, s, r, ok0⟩ (Ans.ex p s (q_set_no i2 c)) (fun σ1 h => r_set_no h i2 c) (fun q => rfl) nn2
    · subst hyy
      exact Good.ans ⟨p, s, r, ok0⟩ (q_set p s ok.1 i2 v1 v2) (fun σ1 h => r_set ok h i2 v1 v2) (ok.push.A (asSet_ok ok.1 i2 v1 v2))
theorem s_append {T : Nat} {σ : Mem} {w : Wd} (hi : Inv T σ w) (x : Int32) : Good T (L_append σ x) (fun σ => X7_append σ x) := by
  obtain ⟨p, s, r, ok0⟩ := hi
  have ok := ok0.mono (Nat.le_succ T)
  have hx := ok.2.2.2.2
  unfold L_append
  rcases bad_or x 33 126 (by omega) with c | ⟨i, i1, i2, hxx⟩
  · exact Good.thr ⟨p, s, r, ok0⟩ (Ans.ex p s (q_append_bad c)) (fun σ1 h => r_append_bad h c) (fun q => if_pos rfl) nn1
  · subst hxx
    by_cases hn : w_n w = 60
    · exact Good.thr ⟨p, s, r, ok0⟩ (Ans.ex p s (q_append_full p ⟨i1, i2⟩ hn)) (fun σ1 h => r_append_full h ⟨i1, i2⟩ hn) (fun q => rfl) nn2
    · have hn2 : w_n w < 60 := by have := hx.1; omega
      refine Good.ans ⟨p, s, r, ok0⟩ (q_append p s ⟨i1, i2⟩ hn2) (fun σ1 h => r_append h ⟨i1, i2⟩ hn2) (ok.txt ⟨hn2, fun j hj => ?_⟩)
      by_cases c : j = w_n w
      · rw [c, updn_1]; exact ⟨i1, i2⟩
      · rw [updn_o _ _ c]; exact hx.2 j (by omega)
theorem s_clear {T : Nat} {σ : Mem} {w : Wd} (hi : Inv T σ w) : Good1 T (X6_clearBuffer σ) (fun σ => X7_clearBuffer σ) := by
  obtain ⟨p, s, r, ok0⟩ := hi
  have ok := ok0.mono (Nat.le_succ T)
  exact Good1.ans ⟨p, s, r, ok0⟩ (q_clear p s ok.2.2.2.2.1) (fun σ1 h => r_clear h) (ok.txt ⟨Nat.zero_le _, fun j hj => absurd hj (Nat.not_lt_zero j)⟩)
theorem s_fault {T : Nat} {σ : Mem} {w : Wd} (hi : Inv T σ w) : Good1 T (X6_firstError σ) (fun σ => X7_firstError σ) := by
  obtain ⟨p, s, r, ok0⟩ := hi
  have ok := ok0.mono (Nat.le_succ T)
  exact Good1.ans ⟨p, s, r, ok0⟩ ⟨σ, q_fault p ok.2.2.2.2, p, s, Off.rfl'⟩ (fun σ1 h => r_fault h ok.2.2.2.2) ok
theorem s_keep {T : Nat} {σ : Mem} {w : Wd} (hi : Inv T σ w) : Good1 T (X6_keep σ) (fun σ => X7_keep σ) := by
  obtain ⟨p, s, r, ok0⟩ := hi
  have ok := ok0.mono (Nat.le_succ T)
  exact Good1.ans ⟨p, s, r, ok0⟩ (q_keep p s ok.1) (fun σ1 h => r_keep ok h) ok.keep
theorem s_goBack {T : Nat} {σ : Mem} {w : Wd} (hi : Inv T σ w) : Good T (L_goBack σ) (fun σ => X7_goBack σ) := by
  obtain ⟨p, s, r, ok0⟩ := hi
  have ok := ok0.mono (Nat.le_succ T)
  unfold L_goBack
  cases hk : w_k w with
  | false => exact Good.thr ⟨p, s, r, ok0⟩ (Ans.ex p s (q_goBack_no p hk)) (fun σ1 h => r_goBack_no h hk) (fun q => if_pos rfl) nn1
  | true => exact Good.ans ⟨p, s, r, ok0⟩ (q_goBack p s ok.1 hk (ok.2.1 hk)) (fun σ1 h => r_goBack ok h hk) (ok.push.A (ok.2.1 hk))
theorem s_undo {T : Nat} {σ : Mem} {w : Wd} (hi : Inv T σ w) : Good T (L_undo σ) (fun σ => X7_undo σ) := by
  obtain ⟨p, s, r, ok0⟩ := hi
  have ok := ok0.mono (Nat.le_succ T)
  unfold L_undo
  by_cases hn : (w_v w).1 = 0
  · exact Good.thr ⟨p, s, r, ok0⟩ (Ans.ex p s (q_undo_no p hn)) (fun σ1 h => r_undo_no h hn) (fun q => if_pos rfl) nn1
  · have hn2 : 0 < (w_v w).1 := Nat.pos_of_ne_zero hn
    exact Good.ans ⟨p, s, r, ok0⟩ (q_undo p s hn2 (ok.2.2.2.1 _ (Nat.sub_lt hn2 (by omega)))) (fun σ1 h => r_undo ok h hn2) (ok.pop hn2)
theorem s_stroke {T : Nat} {σ : Mem} {w : Wd} (hi : Inv T σ w) (x : Int32) : Good T (L_stroke σ x) (fun σ => X7_stroke σ x) := by
  obtain ⟨p, s, r, ok0⟩ := hi
  have ok := ok0.mono (Nat.le_succ T)
  have hN := ok.1.1
  unfold L_stroke
  rcases pk_ix x (n := as_N (w_a w)) (by omega) with d | d | ⟨e, he, hy⟩
  · exact Good.thr ⟨p, s, r, ok0⟩ (Ans.ex p s (q_stroke_bad p (Or.inl d))) (fun σ1 h => r_stroke_bad ok h (Or.inl d)) (fun q => if_pos rfl) nn1
  · exact Good.thr ⟨p, s, r, ok0⟩ (Ans.ex p s (q_stroke_bad p (Or.inr d))) (fun σ1 h => r_stroke_bad ok h (Or.inr d)) (fun q => if_pos rfl) nn1
  · subst hy
    exact Good.ans ⟨p, s, r, ok0⟩ (Ans.ex p s (q_stroke p ok.1 he)) (fun σ1 h => r_stroke ok h he) ok
theorem s_item {T : Nat} {σ : Mem} {w : Wd} (hi : Inv T σ w) (x y : Int32) : Good T (L_item σ x y) (fun σ => X7_item σ x y) := by
  obtain ⟨p, s, r, ok0⟩ := hi
  have ok := ok0.mono (Nat.le_succ T)
  have ht := as_t_le ok.1
  unfold L_item
  rcases pk_ix x (n := as_t (w_a w)) (Nat.lt_of_le_of_lt ht (by omega)) with d | d | ⟨i, hi, hx⟩
  · exact Good.thr ⟨p, s, r, ok0⟩ (q_item_bad p s ok.1 (Or.inl d)) (fun σ1 h => r_item_bad ok h (Or.inl d)) (fun q => if_pos rfl) nn1
  · exact Good.thr ⟨p, s, r, ok0⟩ (q_item_bad p s ok.1 (Or.inr d)) (fun σ1 h => r_item_bad ok h (Or.inr d)) (fun q => if_pos rfl) nn1
  · subst hx
    rcases bad_or y 0 4 (by omega) with c | ⟨v, v1, v2, hyy⟩
    · exact Good.thr ⟨p, s, r, ok0⟩ (q_item_no p s ok.1 hi c) (fun σ1 h => r_item_no ok h hi c) (fun q => rfl) nn2
    · subst hyy
      exact Good.ans ⟨p, s, r, ok0⟩ (q_item p s ok.1 hi v2) (fun σ1 h => r_item ok h hi v2) ok
theorem s_entry {T : Nat} {σ : Mem} {w : Wd} (hi : Inv T σ w) (x y : Int32) : Good T (L_entry σ x y) (fun σ => X7_entry σ x y) := by
  obtain ⟨p, s, r, ok0⟩ := hi
  have ok := ok0.mono (Nat.le_succ T)
  have hm := ok.1.2.2.1.1
  unfold L_entry
  rcases pk_ix x (n := en_m (as_E (w_a w))) (by omega) with d | d | ⟨i, hi, hx⟩
  · exact Good.thr ⟨p, s, r, ok0⟩ (Ans.ex p s (q_entry_bad p (Or.inl d))) (fun σ1 h => r_entry_bad ok h (Or.inl d)) (fun q => if_pos rfl) nn1
  · exact Good.thr ⟨p, s, r, ok0⟩ (Ans.ex p s (q_entry_bad p (Or.inr d))) (fun σ1 h => r_entry_bad ok h (Or.inr d)) (fun q => if_pos rfl) nn1
  · subst hx
    rcases bad_or y 0 9 (by omega) with c | ⟨v, v1, v2, hyy⟩
    · exact Good.thr ⟨p, s, r, ok0⟩ (Ans.ex p s (q_entry_no p ok.1 hi c)) (fun σ1 h => r_entry_no ok h hi c) (fun q => rfl) nn2
    · subst hyy
      exact Good.ans ⟨p, s, r, ok0⟩ (q_entry p s ok.1 hi v2) (fun σ1 h => r_entry ok h hi v2) ok
theorem s_count {T : Nat} {σ : Mem} {w : Wd} (hi : Inv T σ w) (x : Int32) : Good T (L_count σ x) (fun σ => X7_count σ x) := by
  obtain ⟨p, s, r, ok0⟩ := hi
  have ok := ok0.mono (Nat.le_succ T)
  unfold L_count
  rcases bad_or x 0 9 (by omega) with c | ⟨v, v1, v2, hyy⟩
  · exact Good.thr ⟨p, s, r, ok0⟩ (Ans.ex p s (q_count_bad c)) (fun σ1 h => r_count_bad ok h c) (fun q => if_pos rfl) nn1
  · subst hyy
    exact Good.ans ⟨p, s, r, ok0⟩ (q_count p s ok.1 v2) (fun σ1 h => r_count ok h v2) ok
theorem s_setting {T : Nat} {σ : Mem} {w : Wd} (hi : Inv T σ w) (x : Int32) : Good T (L_setting σ x) (fun σ => X7_setting σ x) := by
  obtain ⟨p, s, r, ok0⟩ := hi
  have ok := ok0.mono (Nat.le_succ T)
  unfold L_setting
  rcases bad_or x 0 1 (by omega) with c | ⟨v, v1, v2, hyy⟩
  · exact Good.thr ⟨p, s, r, ok0⟩ (Ans.ex p s (q_setting_bad c)) (fun σ1 h => r_setting_bad h c) (fun q => if_pos rfl) nn1
  · subst hyy
    exact Good.ans ⟨p, s, r, ok0⟩ (Ans.ex p s (q_setting p v2)) (fun σ1 h => r_setting h v2) ok
theorem s_if {T : Nat} {σ : Mem} {w : Wd} (hi : Inv T σ w) (x y : Int32) : Good T (L_ifStruck σ x y) (fun σ => X7_ifStruck σ x y) := by
  obtain ⟨p, s, r, ok0⟩ := hi
  have ok := ok0.mono (Nat.le_succ T)
  unfold L_ifStruck
  rcases bad_or x 1 1023 (by omega) with c | ⟨i, i1, i2, hxx⟩
  · exact Good.thr ⟨p, s, r, ok0⟩ (Ans.ex p s (q_if_bad (Or.inl c))) (fun σ1 h => r_if_bad h (Or.inl c)) (fun q => if_pos rfl) nn1
  · rcases bad_or y 0 2 (by omega) with c | ⟨v, v1, v2, hyy⟩
    · exact Good.thr ⟨p, s, r, ok0⟩ (Ans.ex p s (q_if_bad (Or.inr c))) (fun σ1 h => r_if_bad h (Or.inr c)) (fun q => if_pos rfl) nn1
    · subst hxx
      subst hyy
      exact Good.ans ⟨p, s, r, ok0⟩ (q_if p s ok.1 ⟨i1, by omega⟩ v2).1 (fun σ1 h => r_if ok h ⟨i1, by omega⟩ v2) ok
theorem s_begun {T : Nat} {σ : Mem} {w : Wd} (hi : Inv T σ w) (x : Int32) : Good T (L_begun σ x) (fun σ => X7_begun σ x) := by
  obtain ⟨p, s, r, ok0⟩ := hi
  have ok := ok0.mono (Nat.le_succ T)
  unfold L_begun
  rcases bad_or x 1 3 (by omega) with c | ⟨v, v1, v2, hyy⟩
  · exact Good.thr ⟨p, s, r, ok0⟩ (Ans.ex p s (q_begun_bad c)) (fun σ1 h => r_begun_bad h c) (fun q => if_pos rfl) nn1
  · subst hyy
    exact Good.ans ⟨p, s, r, ok0⟩ (Ans.ex p s (q_begun p ok.1 ⟨v1, v2⟩)) (fun σ1 h => r_begun ok h ⟨v1, v2⟩) ok
theorem s_short {T : Nat} {σ : Mem} {w : Wd} (hi : Inv T σ w) (x : Int32) : Good T (L_shortest σ x) (fun σ => X7_shortest σ x) := by
  obtain ⟨p, s, r, ok0⟩ := hi
  have ok := ok0.mono (Nat.le_succ T)
  unfold L_shortest
  rcases bad_or x 0 99 (by omega) with c | ⟨v, v1, v2, hyy⟩
  · exact Good.thr ⟨p, s, r, ok0⟩ (Ans.ex p s (q_shortest_bad c)) (fun σ1 h => r_short_bad h c) (fun q => if_pos rfl) nn1
  · subst hyy
    exact Good.ans ⟨p, s, r, ok0⟩ (Ans.ex p s (q_shortest p ok.1 v2)) (fun σ1 h => r_short ok h v2) ok
theorem s_behind {T : Nat} {σ : Mem} {w : Wd} (hi : Inv T σ w) (x y : Int32) : Good T (L_behind σ x y) (fun σ => X7_behind σ x y) := by
  obtain ⟨p, s, r, ok0⟩ := hi
  have ok := ok0.mono (Nat.le_succ T)
  have hm := ok.1.2.2.1.1
  unfold L_behind
  have no : ((x < 0 ∨ nI (en_m (as_E (w_a w))) ≤ x) ∨ ((∃ e, e < en_m (as_E (w_a w)) ∧ x = nI e) ∧ (y < 0 ∨ nI (en_m (as_E (w_a w))) ≤ y))) → Good T ((X6_behind σ x y).bind fun q => sel q.2 (fun v => some (setL q.1 91 0 v.toInt64, (0 : Int32))) (fun x => (if x = 2 then some (q.1, (1 : Int32)) else none))) (fun σ => X7_behind σ x y) := fun hx => Good.thr ⟨p, s, r, ok0⟩ (Ans.ex p s (q_behind_bad p ok.1 hx)) (fun σ1 h => r_behind_bad ok h hx) (fun q => if_pos rfl) nn1
  rcases pk_ix x (n := en_m (as_E (w_a w))) (by omega) with c | c | ⟨i, hi, hx⟩
  · exact no (Or.inl (Or.inl c))
  · exact no (Or.inl (Or.inr c))
  · rcases pk_ix y (n := en_m (as_E (w_a w))) (by omega) with d | d | ⟨e, he, hy⟩
    · exact no (Or.inr ⟨⟨i, hi, hx⟩, Or.inl d⟩)
    · exact no (Or.inr ⟨⟨i, hi, hx⟩, Or.inr d⟩)
    · subst hx
      subst hy
      exact Good.ans ⟨p, s, r, ok0⟩ (q_behind p s ok.1 hi he) (fun σ1 h => r_behind ok h hi he) ok
theorem s_clashes {T : Nat} {σ : Mem} {w : Wd} (hi : Inv T σ w) : Good1 T (X6_clashes σ) (fun σ => X7_clashes σ) := by
  obtain ⟨p, s, r, ok0⟩ := hi
  have ok := ok0.mono (Nat.le_succ T)
  exact Good1.ans ⟨p, s, r, ok0⟩ (q_clashes p s ok.1) (fun σ1 h => r_clashes ok h) ok
theorem s_least {T : Nat} {σ : Mem} {w : Wd} (hi : Inv T σ w) : Good1 T (X6_least σ) (fun σ => X7_least σ) := by
  obtain ⟨p, s, r, ok0⟩ := hi
  have ok := ok0.mono (Nat.le_succ T)
  obtain ⟨x, hx, _, hA⟩ := q_least p s ok.1
  exact Good1.ans ⟨p, s, r, ok0⟩ hA (fun σ1 h => r_least ok h hx) ok
theorem s_share {T : Nat} {σ : Mem} {w : Wd} (hi : Inv T σ w) : ∃ σ1 v σ2 w', X6_readShare σ = some (σ1, v) ∧ X7_readShare σ1 = some (σ2, v) ∧ Inv (T + 1) σ2 w' := by
  obtain ⟨p, s, r, ok0⟩ := hi
  have ok := ok0.mono (Nat.le_succ T)
  obtain ⟨σ1, e1, p1, s1, o1⟩ := q_share p s ok.1
  obtain ⟨σ2, e2, r2, o2⟩ := r_share ok (r.o82 o1)
  exact ⟨σ1, _, σ2, w, e1, e2, Inv.o p1 s1 r2 ok o2 (by omega)⟩
theorem s_mean {T : Nat} {σ : Mem} {w : Wd} (hT : T + 1 ≤ 512) (hi : Inv T σ w) : ∃ σ1 v σ2 w', X6_meanKeys σ = some (σ1, v) ∧ X7_meanKeys σ1 = some (σ2, v) ∧ ((FP.f2d v) &&& 0x7fffffffffffffff ≤ 0x7ff0000000000000) ∧ Inv (T + 1) σ2 w' := by
  obtain ⟨p, s, r, ok0⟩ := hi
  have ok := ok0.mono (Nat.le_succ T)
  obtain ⟨σ2, e2, r2, o2⟩ := r_mean ok hT r
  exact ⟨σ, _, σ2, w, x6_meanKeys ok.1 hT p.1, e2, (x7_bitsMe (σ := σ) ok.1 hT).1, Inv.o p s r2 ok o2 (by omega)⟩
theorem s_digest {T : Nat} {σ : Mem} {w : Wd} (hT : T + 1 ≤ 512) (hi : Inv T σ w) : ∃ σ1 v σ2 w', X6_digest σ = some (σ1, v) ∧ X7_digest σ1 = some (σ2, v) ∧ Inv (T + 1) σ2 w' := by
  obtain ⟨p, s, r, ok0⟩ := hi
  have ok := ok0.mono (Nat.le_succ T)
  obtain ⟨σ1, x, hx, e1, p1, s1, o1⟩ := q_digest p s ok.2.2.2.2 ok.1 hT
  obtain ⟨σ2, e2, r2, o2⟩ := r_digest ok hT (r.o82 o1) hx
  exact ⟨σ1, _, σ2, w, e1, e2, Inv.o p1 s1 r2 ok o2 (by omega)⟩
