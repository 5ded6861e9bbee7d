theorem x2_itemsOf_4 {c n : Nat} {l : Nat → Int32} {x : Int32} (K : Mem → Int32 → Option (Mem × Int32)) {σ : Mem} (hc : cap (c + 5) = 61) (hn : n ≤ 61) (h : RowIs σ (c + 5) n l) : ∀ (r i fu : Nat), i + r = n → r < fu → X2_itemsOf_4 c K fu σ x (nI (cnt (fun i => decide (l i = x)) i)) (nI i) = K σ (nI (cnt (fun i => decide (l i = x)) n))
  | 0, i, 0, _, h => absurd h (by omega)
  | r + 1, i, 0, _, h => absurd h (by omega)
  | 0, i, fu + 1, h1, _ => by
    have : i = n := by omega
    subst this
    unfold X2_itemsOf_4 X3_length
    rw [uB, h.1, if_pos (nI_le (by omega) (by omega))]
  | r + 1, i, fu + 1, h1, hf => by
    have ih := x2_itemsOf_4 (x := x) K hc hn h r (i + 1) fu (by omega) (by omega)
    unfold X2_itemsOf_4 X3_length
    rw [uB, h.1, if_neg (nI_ge (by omega) (by omega)), x3_at h (by omega) (by omega) (by omega), uB]
    dsimp only
    by_cases c : l i = x
    · rw [cnt_t (decide_eq_true c)] at ih
      rw [if_pos c, nI_1, nI_1]
      exact ih
    · rw [cnt_f (decide_eq_false c)] at ih
      rw [if_neg c, nI_1]
      exact ih
/-- how many items stand for an entry; raw ones -/
def stN (a : As) (x : Int32) : Nat := cnt (fun i => decide (oN (as_st a i) = x)) (as_t a)
theorem r_itemsOf {σ : Mem} {a : As} {T : Nat} (ok : AsOk T a) (h : RdA σ 61 a) (x : Int32) : X2_itemsOf 61 σ x = some (σ, nI (stN a x)) := by
  have := as_t_le ok
  exact x2_itemsOf_4 (fun σ v => some (σ, v)) cap66' (Nat.le_trans this (by omega)) h.2.2 (as_t a) 0 FU (by omega) (by unfold FU; exact Nat.lt_of_le_of_lt this (by omega))
/-- what is told of an entry -/
def enAns (a : As) (e what : Nat) : Int32 := if what = 0 then nI (en_w (as_E a) e) else if what = 1 then nI (en_l (as_E a) e) else if what < 6 then en_s (as_E a) e (what - 2) else if what = 6 then nI (en_p (as_E a) e) else if what = 7 then bI (decide (ldr (as_E a) (en_k (as_E a) e) (en_m (as_E a)) = some e)) else if what = 8 then nI (stN a (nI e)) else nI (en_y (as_E a) e)
theorem oN_eq {o : Option Nat} {e : Nat} (h : ∀ x, o = some x → x < 2147483648) (he : e < 2147483648) : (oN o = nI e) = (o = some e) := by
  cases o with
  | none => exact propext ⟨fun x => absurd x.symm (nI_nem1 he), fun x => by cases x⟩
  | some d => exact propext ⟨fun x => by rw [(nI_eq (h d rfl) he).mp x], fun x => by cases x; rfl⟩
theorem ldr_lt {E : En} {R n e : Nat} (h : ldr E R n = some e) : e < n := (ldr_some h).1
theorem x6_entryNumber {σ : Mem} {a : As} {T e what : Nat} (ok : AsOk T a) (ha : StC σ 0 a) (h : RdA σ 61 a) (he : e < en_m (as_E a)) (hw : what < 10) : X6_entryNumber σ (nI e) (nI what) = some (σ, enAns a e what) := by
  have hm := ok.2.2.1.1
  have hk := ok.2.2.1.klt he
  have s4 : ∀ k, k < 4 → ((X6_strokeOf σ (lN (en_k (as_E a) e)) (nI k)).bind fun q => (if q.2 = 0 then some (q.1, (-1 : Int32)) else some (q.1, q.2))) = some (σ, en_s (as_E a) e k) := fun k hk => en_stroke ok.2.2.1 he hk σ (fun m v => some (m, v))
  unfold X6_entryNumber enAns
  rw [x0_rowOf ha.2.1 ok.2.2.1 he, uB]
  dsimp only
  rcases (show what = 0 ∨ what = 1 ∨ what = 2 ∨ what = 3 ∨ what = 4 ∨ what = 5 ∨ what = 6 ∨ what = 7 ∨ what = 8 ∨ what = 9 by omega) with c | c | c | c | c | c | c | c | c | c <;> subst c
  · rw [if_pos (show nI 0 = 0 from rfl), x0_wordOf ha.2.1 ok.2.2.1 he, uB]; rfl
  · rw [if_neg (show ¬ nI 1 = 0 by decide), if_pos (show nI 1 = 1 from rfl), en_len ok.2.2.1 he, uB]; rfl
  · rw [if_neg (show ¬ nI 2 = 0 by decide), if_neg (show ¬ nI 2 = 1 by decide), if_pos (show nI 2 = 2 from rfl)]; exact s4 0 (by omega)
  · rw [if_neg (show ¬ nI 3 = 0 by decide), if_neg (show ¬ nI 3 = 1 by decide), if_neg (show ¬ nI 3 = 2 by decide), if_pos (show nI 3 = 3 from rfl)]; exact s4 1 (by omega)
  · rw [if_neg (show ¬ nI 4 = 0 by decide), if_neg (show ¬ nI 4 = 1 by decide), if_neg (show ¬ nI 4 = 2 by decide), if_neg (show ¬ nI 4 = 3 by decide), if_pos (show nI 4 = 4 from rfl)]; exact s4 2 (by omega)
  · rw [if_neg (show ¬ nI 5 = 0 by decide), if_neg (show ¬ nI 5 = 1 by decide), if_neg (show ¬ nI 5 = 2 by decide), if_neg (show ¬ nI 5 = 3 by decide), if_neg (show ¬ nI 5 = 4 by decide), if_pos (show nI 5 = 5 from rfl)]; exact s4 3 (by omega)
  · rw [if_neg (show ¬ nI 6 = 0 by decide), if_neg (show ¬ nI 6 = 1 by decide), if_neg (show ¬ nI 6 = 2 by decide), if_neg (show ¬ nI 6 = 3 by decide), if_neg (show ¬ nI 6 = 4 by decide), if_neg (show ¬ nI 6 = 5 by decide), if_pos (show nI 6 = 6 from rfl), x0_picksOf ha.2.1 ok.2.2.1 he, uB]; rfl
  · rw [if_neg (show ¬ nI 7 = 0 by decide), if_neg (show ¬ nI 7 = 1 by decide), if_neg (show ¬ nI 7 = 2 by decide), if_neg (show ¬ nI 7 = 3 by decide), if_neg (show ¬ nI 7 = 4 by decide), if_neg (show ¬ nI 7 = 5 by decide), if_neg (show ¬ nI 7 = 6 by decide), if_pos (show nI 7 = 7 from rfl), x0_leaderOf ha.2.1 ok.2.2.1 (by omega), uB]
    dsimp only
    have := oN_eq (o := ldr (as_E a) (en_k (as_E a) e) (en_m (as_E a))) (e := e) (fun x hx => by have := ldr_lt hx; omega) (by omega)
    by_cases c : ldr (as_E a) (en_k (as_E a) e) (en_m (as_E a)) = some e
    · rw [if_pos (by rw [this]; exact c)]
      show _ = some (σ, bI (decide _))
      rw [decide_eq_true c]; rfl
    · rw [if_neg (by rw [this]; exact c)]
      show _ = some (σ, bI (decide _))
      rw [decide_eq_false c]; rfl
  · rw [if_neg (show ¬ nI 8 = 0 by decide), if_neg (show ¬ nI 8 = 1 by decide), if_neg (show ¬ nI 8 = 2 by decide), if_neg (show ¬ nI 8 = 3 by decide), if_neg (show ¬ nI 8 = 4 by decide), if_neg (show ¬ nI 8 = 5 by decide), if_neg (show ¬ nI 8 = 6 by decide), if_neg (show ¬ nI 8 = 7 by decide), if_pos (show nI 8 = 8 from rfl), r_itemsOf ok h, uB]; rfl
  · rw [if_neg (show ¬ nI 9 = 0 by decide), if_neg (show ¬ nI 9 = 1 by decide), if_neg (show ¬ nI 9 = 2 by decide), if_neg (show ¬ nI 9 = 3 by decide), if_neg (show ¬ nI 9 = 4 by decide), if_neg (show ¬ nI 9 = 5 by decide), if_neg (show ¬ nI 9 = 6 by decide), if_neg (show ¬ nI 9 = 7 by decide), if_neg (show ¬ nI 9 = 8 by decide), if_pos (show nI 9 = 9 from rfl), en_bc ok.2.2.1 he, uB]; rfl
/-! item, entry, pick -/
theorem q_item_bad {σ : Mem} {w : Wd} {T : Nat} (hP : ClP σ w) (hS : ClS σ) (ok : AsOk T (w_a w)) {x y : Int32} (hx : x < 0 ∨ nI (as_t (w_a w)) ≤ x) : Ans (X6_item σ x y) σ w (Sum.inr 2) := by
  obtain ⟨σ1, e1, h1, o1⟩ := x6_readPaper ok hP.1 hS.1
  refine ⟨σ1, ?_, hP.off o1 (by omega) (by omega), hS.read ok h1 o1, o1.mono (by omega) (by omega)⟩
  unfold X6_item
  rw [e1, uB, r_has_f h1 hx, uB, if_pos rfl]
theorem q_item_no {σ : Mem} {w : Wd} {T i : Nat} (hP : ClP σ w) (hS : ClS σ) (ok : AsOk T (w_a w)) (hi : i < as_t (w_a w)) {y : Int32} (hy : bad y 0 4) : Ans (X6_item σ (nI i) y) σ w (Sum.inr 0) := by
  obtain ⟨σ1, e1, h1, o1⟩ := x6_readPaper ok hP.1 hS.1
  refine ⟨σ1, ?_, hP.off o1 (by omega) (by omega), hS.read ok h1 o1, o1.mono (by omega) (by omega)⟩
  unfold X6_item
  rw [e1, uB, r_has_t ok h1 hi, uB, if_neg one_ne]
  exact bad_iflt (lo := 0) (hi := 4) hy (by omega) (by omega)
theorem q_item {σ : Mem} {w : Wd} {T i what : Nat} (hP : ClP σ w) (hS : ClS σ) (ok : AsOk T (w_a w)) (hi : i < as_t (w_a w)) (hw : what ≤ 4) : Ans (X6_item σ (nI i) (nI what)) σ w (Sum.inl (itAns (w_a w) i what)) := by
  obtain ⟨σ1, e1, h1, o1⟩ := x6_readPaper ok hP.1 hS.1
  have hP1 := hP.off o1 (by omega) (by omega)
  refine ⟨σ1, ?_, hP1, hS.read ok h1 o1, o1.mono (by omega) (by omega)⟩
  unfold X6_item
  rw [e1, uB, r_has_t ok h1 hi, uB, if_neg one_ne]
  refine (good_iflt (lo := 0) (hi := 4) (by omega) (by omega) (by omega)).trans ?_
  dsimp only
  rw [x6_itemNumber ok hP1.1 h1 hi (by omega), uB]
theorem q_entry_bad {σ : Mem} {w : Wd} (hP : ClP σ w) {x y : Int32} (hx : x < 0 ∨ nI (en_m (as_E (w_a w))) ≤ x) : X6_entry σ x y = some (σ, Sum.inr 2) := by
  unfold X6_entry
  rw [x0_has_f hP.1.2.1 hx, uB, if_pos rfl]
theorem q_entry_no {σ : Mem} {w : Wd} {T e : Nat} (hP : ClP σ w) (ok : AsOk T (w_a w)) (he : e < en_m (as_E (w_a w))) {y : Int32} (hy : bad y 0 9) : X6_entry σ (nI e) y = some (σ, Sum.inr 0) := by
  unfold X6_entry
  rw [x0_has_t hP.1.2.1 ok.2.2.1 he, uB, if_neg one_ne]
  exact bad_iflt (lo := 0) (hi := 9) hy (by omega) (by omega)
theorem q_entry {σ : Mem} {w : Wd} {T e what : Nat} (hP : ClP σ w) (hS : ClS σ) (ok : AsOk T (w_a w)) (he : e < en_m (as_E (w_a w))) (hw : what ≤ 9) : Ans (X6_entry σ (nI e) (nI what)) σ w (Sum.inl (enAns (w_a w) e what)) := by
  obtain ⟨σ1, e1, h1, o1⟩ := x6_readPaper ok hP.1 hS.1
  have hP1 := hP.off o1 (by omega) (by omega)
  refine ⟨σ1, ?_, hP1, hS.read ok h1 o1, o1.mono (by omega) (by omega)⟩
  unfold X6_entry
  rw [x0_has_t hP.1.2.1 ok.2.2.1 he, uB, if_neg one_ne]
  refine (good_iflt (lo := 0) (hi := 9) (by omega) (by omega) (by omega)).trans ?_
  dsimp only
  rw [e1, uB, x6_entryNumber ok hP1.1 h1 he (by omega), uB]
theorem q_pick_bad {σ : Mem} {w : Wd} {T : Nat} (hP : ClP σ w) (hS : ClS σ) (ok : AsOk T (w_a w)) {x y : Int32} (hx : (x < 0 ∨ nI (as_t (w_a w)) ≤ x) ∨ ((∃ i, i < as_t (w_a w) ∧ x = nI i) ∧ (y < 0 ∨ nI (en_m (as_E (w_a w))) ≤ y))) : Ans (X6_pick σ x y) σ w (Sum.inr 2) := by
  obtain ⟨σ1, e1, h1, o1⟩ := x6_readPaper ok hP.1 hS.1
  have hP1 := hP.off o1 (by omega) (by omega)
  refine ⟨σ1, ?_, hP1, hS.read ok h1 o1, o1.mono (by omega) (by omega)⟩
  unfold X6_pick
  rcases hx with hx | ⟨⟨i, hi, rfl⟩, hy⟩
  · rw [e1, uB, r_has_f h1 hx, uB, if_pos rfl]
  · rw [e1, uB, r_has_t ok h1 hi, uB, if_neg one_ne, x0_has_f hP1.1.2.1 hy, uB, if_pos rfl]
theorem q_pick_no {σ : Mem} {w : Wd} {T i e : Nat} (hP : ClP σ w) (hS : ClS σ) (ok : AsOk T (w_a w)) (hi : i < as_t (w_a w)) (he : e < en_m (as_E (w_a w))) (hk : it_k (w_a w) i ≠ en_k (as_E (w_a w)) e) : Ans (X6_pick σ (nI i) (nI e)) σ w (Sum.inr 1) := by
  obtain ⟨σ1, e1, h1, o1⟩ := x6_readPaper ok hP.1 hS.1
  have hP1 := hP.off o1 (by omega) (by omega)
  have b1 := it_k_lt ok hi
  have b2 := ok.2.2.1.klt he
  refine ⟨σ1, ?_, hP1, hS.read ok h1 o1, o1.mono (by omega) (by omega)⟩
  unfold X6_pick
  rw [e1, uB, r_has_t ok h1 hi, uB, if_neg one_ne, x0_has_t hP1.1.2.1 ok.2.2.1 he, uB, if_neg one_ne, r_rowOf ok hP1.1 h1 hi, uB, x0_rowOf hP1.1.2.1 ok.2.2.1 he, uB]
  dsimp only
  rw [if_neg (show ¬ lg_cmp (lN (it_k (w_a w) i)) (lN (en_k (as_E (w_a w)) e)) = 0 from of_eq_false (c_cmp_f (by omega)))]
theorem q_pick {σ : Mem} {w : Wd} {T i e : Nat} (hP : ClP σ w) (hS : ClS σ) (ok : AsOk T (w_a w)) (hi : i < as_t (w_a w)) (he : e < en_m (as_E (w_a w))) (hk : it_k (w_a w) i = en_k (as_E (w_a w)) e) : Ans (X6_pick σ (nI i) (nI e)) σ (wA (wPush w) (asE (w_a w) (enPick (as_E (w_a w)) e))) (Sum.inl (nI (en_p (as_E (w_a w)) e + 1))) := by
  obtain ⟨σ1, e1, h1, o1⟩ := x6_readPaper ok hP.1 hS.1
  have hP1 := hP.off o1 (by omega) (by omega)
  obtain ⟨σ2, e2, h2, s2, o2⟩ := x6_push hP1 (hS.read ok h1 o1) ok
  obtain ⟨σ3, e3, g3, o3⟩ := x0_pickOnce (i := 3) h2.1.2.1 ok.2.2.1 he
  have b1 := it_k_lt ok hi
  have b2 := ok.2.2.1.klt he
  have hm := ok.2.2.1.1
  refine ⟨σ3, ?_, h2.upd0 (o3.mono (by omega) (by omega)) (h2.1.ent (o3.mono (by omega) (by omega)) g3), s2.off o3 (by omega), ((o1.mono (by omega) (by omega)).trans (o2.mono (by omega) (by omega))).trans (o3.mono (by omega) (by omega))⟩
  have e4 : X0_picksOf 3 σ3 (nI e) = some (σ3, nI (en_p (as_E (w_a w)) e + 1)) := by
    unfold X0_picksOf X0_has
    rw [show σ3.1 3 3 = nI (en_m (as_E (w_a w))) from g3.1]
    have := (g3.2 e he).2.2
    simp (disch := omega) only [uB, ofn, k_0, k_1, k_2, k_3, k_4, k_5, k_6, k_7, k_8, k_9, k_10, k_24, k_60, k_68, k_236, c_le_t, c_le_f, c_lt_t, c_lt_f, c_eq_t, c_eq_f, c_m1_f, c_m1_f', c_m1_lt, c_m1_nlt, c_m1_le, c_m1_nle, c_inA, c_cl, c_sub, c_add, if_false, if_true]
    rw [this]
    show some (σ3, nI (updn (en_p (as_E (w_a w))) e (en_p (as_E (w_a w)) e + 1) e)) = _
    rw [updn_1]
  unfold X6_pick
  rw [e1, uB, r_has_t ok h1 hi, uB, if_neg one_ne, x0_has_t hP1.1.2.1 ok.2.2.1 he, uB, if_neg one_ne, r_rowOf ok hP1.1 h1 hi, uB, x0_rowOf hP1.1.2.1 ok.2.2.1 he, uB]
  dsimp only
  rw [if_pos (show lg_cmp (lN (it_k (w_a w) i)) (lN (en_k (as_E (w_a w)) e)) = 0 from of_eq_true (c_cmp_t hk)), e2, uB, e3, uB, e4, uB]
