/-! LOOKS, the reference's side -/
theorem nI_p0 (a : Nat) : nI a + (0 : Int32) = nI a := nI_add a 0
theorem x7_stand_4 {σ : Mem} {t : Nat} {g : Nat → Int32} {x : Int32} (h14 : σ.1 82 14 = nI t) (h89 : ∀ i, i < t → σ.1 89 i = g i) (ht : t ≤ 61) (K : Mem → Int32 → Option (Mem × Int32)) : ∀ (r v fu : Nat), v + r = t → r < fu → X7_standing_4 K fu σ x (nI (cnt (fun i => decide (g i = x)) v)) (nI v) = K σ (nI (cnt (fun i => decide (g i = x)) t))
  | r, v, 0, _, h => absurd h (by omega)
  | 0, v, fu + 1, h1, _ => by
    have : v = t := by omega
    subst this
    rw [X7_standing_4, h14, if_pos (nI_le (by omega) (by omega))]
  | r + 1, v, fu + 1, h1, hf => by
    have ih := x7_stand_4 (x := x) h14 h89 ht K r (v + 1) fu (by omega) (by omega)
    rw [X7_standing_4, h14, if_neg (nI_ge (by omega) (by omega)), if_pos (nI_inA (by omega) (by omega)), nI_clamp (by omega), h89 v (by omega)]
    by_cases c : g v = x
    · rw [cnt_t (decide_eq_true c)] at ih
      rw [if_pos c, nI_1, nI_1]
      exact ih
    · rw [cnt_f (decide_eq_false c)] at ih
      rw [if_neg c, nI_p0, nI_1]
      exact ih
theorem x7_standing {σ : Mem} {a : As} {T : Nat} (ok : AsOk T a) (g : RdRA σ a) (x : Int32) : X7_standing σ x = some (σ, nI (stN a x)) := by
  have ht := as_t_le ok
  exact x7_stand_4 (g := fun i => oN (as_st a i)) (x := x) g.1.1 (fun i hi => (g.1.2 i hi).2.2) (Nat.le_trans ht (by omega)) _ (as_t a) 0 FU (by omega) (by unfold FU; exact Nat.lt_of_le_of_lt ht (by omega))
theorem x7_wordOf {σ : Mem} {E : En} {lg N t i : Nat} {q : Nat → Nat} (h : RE (σ.1 83) 0 E) (ok : EnOk E) (g : RdR σ E lg N q t) (ht : t ≤ 61) (hi : i < t) : X7_wordOf σ (nI i) = some (σ, oN ((stf E lg N q (posf E lg N q i)).map (en_w E))) := by
  have hm := ok.1
  unfold X7_wordOf
  rw [if_pos (nI_inA (by omega) (by omega)), nI_clamp (by omega), (g.2 i hi).2.2]
  cases hs : stf E lg N q (posf E lg N q i) with
  | none => rw [if_pos (show oN none = (-1 : Int32) from rfl)]; rfl
  | some e =>
    have he := ldr_lt hs
    rw [if_neg (show ¬ oN (some e) = (-1 : Int32) from nI_nem1 (by omega)), if_pos (nI_inA (by omega) (by omega)), show oN (some e) = nI e from rfl, of_w h ok he, uB]
    rfl
theorem x7_ofi_64 {σ : Mem} {E : En} {R i : Nat} {o : Option Nat} (h : RE (σ.1 83) 0 E) (ok : EnOk E) (hi : i < 61) (h89 : σ.1 89 i = oN o) (ho : ∀ d, o = some d → d < en_m E ∧ en_k E d = R) (hn : o = none → ∀ e, e < en_m E → en_k E e ≠ R) (K : Mem → Int32 → Option (Mem × Int32)) : ∀ (r e fu : Nat), e + r = en_m E → r < fu → X7_ofItem_64 K fu σ (nI i) (nI (cnt (fun t => decide (en_k E t = R)) e)) (nI e) = K σ (nI (cnt (fun t => decide (en_k E t = R)) (en_m E)))
  | r, v, 0, _, h => absurd h (by omega)
  | 0, e, fu + 1, h1, _ => by
    have hm := ok.1
    have : e = en_m E := by omega
    subst this
    rw [X7_ofItem_64, h.m, if_pos (nI_le (by omega) (by omega))]
  | r + 1, e, fu + 1, h1, hf => by
    have hm := ok.1
    have he : e < en_m E := by omega
    have ih := x7_ofi_64 h ok hi h89 ho hn K r (e + 1) fu (by omega) (by omega)
    rw [X7_ofItem_64, h.m, if_neg (nI_ge (by omega) (by omega)), if_pos (nI_inA hi (by omega)), nI_clamp (by omega), h89]
    cases hd : o with
    | none =>
      have c := hn hd e he
      rw [cnt_f (decide_eq_false c)] at ih
      rw [if_pos (show oN none = (-1 : Int32) from rfl), nI_p0, nI_1]
      exact ih
    | some d =>
      obtain ⟨d1, d2⟩ := ho d hd
      rw [if_neg (show ¬ oN (some d) = (-1 : Int32) from nI_nem1 (by omega)), if_pos (nI_inA hi (by omega)), show oN (some d) = nI d from rfl, x7_riv h ok he d1, uB]
      dsimp only
      by_cases c : en_k E e = R
      · rw [cnt_t (decide_eq_true c)] at ih
        rw [decide_eq_true (show en_k E e = en_k E d from c.trans d2.symm), if_neg (show ¬ bI true = 0 by decide), nI_1, nI_1]
        exact ih
      · rw [cnt_f (decide_eq_false c)] at ih
        rw [decide_eq_false (show ¬ en_k E e = en_k E d from fun x => c (x.trans d2)), if_pos (show bI false = 0 from rfl), nI_p0, nI_1]
        exact ih
theorem x7_ofItem {σ : Mem} {a : As} {T i what : Nat} (ok : AsOk T a) (h : RS (σ.1 83) 0 a) (g : RdRA σ a) (hi : i < as_t a) (hw : what < 5) : X7_ofItem σ (nI i) (nI what) = some (σ, itAns a i what) := by
  have ht := as_t_le ok
  have hi61 : i < 61 := Nat.lt_of_lt_of_le hi (Nat.le_trans ht (by omega))
  have hE := h.z.2.2.1
  obtain ⟨r1, r2, r3⟩ := g.1.2 i hi
  unfold X7_ofItem itAns
  rcases (show what = 0 ∨ what = 1 ∨ what = 2 ∨ what = 3 ∨ what = 4 by omega) with c | c | c | c | c <;> subst c
  · rw [if_pos (show nI 0 = 0 from rfl), x7_wordOf hE ok.2.2.1 g.1 (Nat.le_trans ht (by omega)) hi, uB]; rfl
  · rw [if_neg (show ¬ nI 1 = 0 by decide), if_pos (show nI 1 = 1 from rfl), if_pos (nI_inA hi61 (by omega)), nI_clamp (by omega), r1]; rfl
  · rw [if_neg (show ¬ nI 2 = 0 by decide), if_neg (show ¬ nI 2 = 1 by decide), if_pos (show nI 2 = 2 from rfl), if_pos (nI_inA hi61 (by omega)), nI_clamp (by omega), r2]; rfl
  · rw [if_neg (show ¬ nI 3 = 0 by decide), if_neg (show ¬ nI 3 = 1 by decide), if_neg (show ¬ nI 3 = 2 by decide), if_pos (show nI 3 = 3 from rfl), if_pos (nI_inA hi61 (by omega)), nI_clamp (by omega), r3]; rfl
  · rw [if_neg (show ¬ nI 4 = 0 by decide), if_neg (show ¬ nI 4 = 1 by decide), if_neg (show ¬ nI 4 = 2 by decide), if_neg (show ¬ nI 4 = 3 by decide)]
    exact x7_ofi_64 (R := it_k a i) (o := as_st a i) hE ok.2.2.1 hi61 r3 (fun d hd => ⟨(ldr_some hd).1, (ldr_some hd).2.1⟩) (fun hd => ldr_none.mp hd) _ (en_m (as_E a)) 0 FU (by omega) (by have := ok.2.2.1.1; unfold FU; omega)
theorem r_item_bad {σ : Mem} {w : Wd} {T : Nat} (ok : WdOk T w) (h : RfP σ w) {x y : Int32} (hx : x < 0 ∨ nI (as_t (w_a w)) ≤ x) : Rf (X7_item σ x y) σ w 1 0 := by
  obtain ⟨σ1, e1, g1, f1⟩ := x7_readsPaper ok.1 h.1
  have ht := as_t_le ok.1
  refine Rf.no (h.p f1) (f1.off fun c j => pRp_c) ?_
  unfold X7_item
  rw [e1, uB]
  dsimp only
  rw [g1.1.1, uZ (in_m_bad (Nat.lt_of_le_of_lt ht (by omega)) hx)]
  exact uZ (h_n σ1 nn1) _ _
theorem r_item_no {σ : Mem} {w : Wd} {T i : Nat} (ok : WdOk T w) (h : RfP σ w) (hi : i < as_t (w_a w)) {y : Int32} (hy : bad y 0 4) : Rf (X7_item σ (nI i) y) σ w 2 0 := by
  obtain ⟨σ1, e1, g1, f1⟩ := x7_readsPaper ok.1 h.1
  have ht := as_t_le ok.1
  refine Rf.no (h.p f1) (f1.off fun c j => pRp_c) ?_
  unfold X7_item
  rw [e1, uB]
  dsimp only
  rw [g1.1.1, uN (in_m_good hi (Nat.lt_of_le_of_lt ht (by omega))) nn1]
  dsimp only
  rw [uZ (show X7_in σ1 y (0 : Int32) (4 : Int32) = some (σ1, 0) from in_bad (lo := 0) (hi := 4) hy)]
  exact uZ (h_n σ1 nn2) _ _
theorem RdRA.th {σ : Mem} {a : As} (h : RdRA σ a) (p : Int32) : RdRA (setI σ 82 0 p) a := by
  obtain ⟨⟨g1, g2⟩, g3, g4⟩ := h
  exact ⟨⟨(si_o _ _ (by omega)).trans g1, fun i hi => ⟨(si_o _ _ (by omega)).trans (g2 i hi).1, (si_o _ _ (by omega)).trans (g2 i hi).2.1, (si_o _ _ (by omega)).trans (g2 i hi).2.2⟩⟩, (si_o _ _ (by omega)).trans g3, fun j hj => (si_o _ _ (by omega)).trans (g4 j hj)⟩
theorem r_item {σ : Mem} {w : Wd} {T i what : Nat} (ok : WdOk T w) (h : RfP σ w) (hi : i < as_t (w_a w)) (hw : what ≤ 4) : Rf (X7_item σ (nI i) (nI what)) σ w 0 (itAns (w_a w) i what) := by
  obtain ⟨σ1, e1, g1, f1⟩ := x7_readsPaper ok.1 h.1
  have ht := as_t_le ok.1
  refine Rf.an h ((f1.mono fun c j => pRp_S).trans (fr_th σ1 0)) (si_1 _ _ _ _) ?_
  unfold X7_item
  rw [e1, uB]
  dsimp only
  rw [g1.1.1, uN (in_m_good hi (Nat.lt_of_le_of_lt ht (by omega))) nn1]
  dsimp only
  rw [uN (show X7_in σ1 (nI what) (0 : Int32) (4 : Int32) = some (σ1, 1) from in_good (lo := 0) (hi := 4) (by omega) hw (by omega)) nn1]
  dsimp only
  rw [uN (h_0 σ1) nn1]
  dsimp only
  rw [x7_ofItem ok.1 ((h.p f1).th 0).1 (g1.th 0) hi (by omega), uB]
/-! entry -/
theorem of_e {σ : Mem} {E : En} {e what : Nat} (h : RE (σ.1 83) 0 E) (ok : EnOk E) (he : e < en_m E) (h1 : 2 ≤ what) (h2 : what < 6) : X7_of σ (nI e) (((1 : Int32) + nI what) - (2 : Int32)) = some (σ, en_s E e (what - 2)) := by
  rw [show ((1 : Int32) + nI what) - (2 : Int32) = (1 : Int32) + nI (what - 2) from ?_]
  · exact of_s h ok he (by omega)
  · rw [k_1, k_2, nI_add, nI_add, pk_sub (by omega), show 1 + what - 2 = 1 + (what - 2) by omega]
theorem x7_ofEntry {σ : Mem} {a : As} {T e what : Nat} (ok : AsOk T a) (h : RS (σ.1 83) 0 a) (g : RdRA σ a) (he : e < en_m (as_E a)) (hw : what < 10) : X7_ofEntry σ (nI e) (nI what) = some (σ, enAns a e what) := by
  have hE := h.z.2.2.1
  have hm := ok.2.2.1.1
  unfold X7_ofEntry enAns
  rcases (show what = 0 ∨ what = 1 ∨ what = 2 ∨ what = 3 ∨ what = 4 ∨ what = 5 ∨ what = 6 ∨ what = 7 ∨ what = 8 ∨ what = 9 by omega) with c | c | c | c | c | c | c | c | c | c <;> subst c
  · rw [if_pos (show nI 0 = 0 from rfl), of_w hE ok.2.2.1 he, uB]; rfl
  · rw [if_neg (show ¬ nI 1 = 0 by decide), if_pos (show nI 1 = 1 from rfl), of_l hE ok.2.2.1 he, uB]; rfl
  · rw [if_neg (show ¬ nI 2 = 0 by decide), if_neg (show ¬ nI 2 = 1 by decide), if_pos (show nI 2 = 2 from rfl), of_e hE ok.2.2.1 he (by omega) (by omega), uB]; rfl
  · rw [if_neg (show ¬ nI 3 = 0 by decide), if_neg (show ¬ nI 3 = 1 by decide), if_neg (show ¬ nI 3 = 2 by decide), if_pos (show nI 3 = 3 from rfl), of_e hE ok.2.2.1 he (by omega) (by omega), uB]; rfl
  · rw [if_neg (show ¬ nI 4 = 0 by decide), if_neg (show ¬ nI 4 = 1 by decide), if_neg (show ¬ nI 4 = 2 by decide), if_neg (show ¬ nI 4 = 3 by decide), if_pos (show nI 4 = 4 from rfl), of_e hE ok.2.2.1 he (by omega) (by omega), uB]; rfl
  · rw [if_neg (show ¬ nI 5 = 0 by decide), if_neg (show ¬ nI 5 = 1 by decide), if_neg (show ¬ nI 5 = 2 by decide), if_neg (show ¬ nI 5 = 3 by decide), if_neg (show ¬ nI 5 = 4 by decide), if_pos (show nI 5 = 5 from rfl), of_e hE ok.2.2.1 he (by omega) (by omega), uB]; rfl
  · rw [if_neg (show ¬ nI 6 = 0 by decide), if_neg (show ¬ nI 6 = 1 by decide), if_neg (show ¬ nI 6 = 2 by decide), if_neg (show ¬ nI 6 = 3 by decide), if_neg (show ¬ nI 6 = 4 by decide), if_neg (show ¬ nI 6 = 5 by decide), if_pos (show nI 6 = 6 from rfl), of_p hE ok.2.2.1 he, uB]; rfl
  · rw [if_neg (show ¬ nI 7 = 0 by decide), if_neg (show ¬ nI 7 = 1 by decide), if_neg (show ¬ nI 7 = 2 by decide), if_neg (show ¬ nI 7 = 3 by decide), if_neg (show ¬ nI 7 = 4 by decide), if_neg (show ¬ nI 7 = 5 by decide), if_neg (show ¬ nI 7 = 6 by decide), if_pos (show nI 7 = 7 from rfl), x7_leads hE ok.2.2.1 he, uB]
    show (if bI (leB (as_E a) e (en_m (as_E a))) = 0 then some (σ, (0 : Int32)) else some (σ, (1 : Int32))) = some (σ, bI (decide (ldr (as_E a) (en_k (as_E a) e) (en_m (as_E a)) = some e)))
    have hk : leB (as_E a) e (en_m (as_E a)) = decide (ldr (as_E a) (en_k (as_E a) e) (en_m (as_E a)) = some e) := by
      cases hl : leB (as_E a) e (en_m (as_E a)) with
      | true => exact (decide_eq_true ((lead_ldr he).mpr (leB_lead.mp hl))).symm
      | false => exact (decide_eq_false (fun x => by have := leB_lead.mpr ((lead_ldr he).mp x); rw [hl] at this; cases this)).symm
    rw [← hk]
    cases leB (as_E a) e (en_m (as_E a)) <;> rfl
  · rw [if_neg (show ¬ nI 8 = 0 by decide), if_neg (show ¬ nI 8 = 1 by decide), if_neg (show ¬ nI 8 = 2 by decide), if_neg (show ¬ nI 8 = 3 by decide), if_neg (show ¬ nI 8 = 4 by decide), if_neg (show ¬ nI 8 = 5 by decide), if_neg (show ¬ nI 8 = 6 by decide), if_neg (show ¬ nI 8 = 7 by decide), if_pos (show nI 8 = 8 from rfl), x7_standing ok g, uB]; rfl
  · rw [if_neg (show ¬ nI 9 = 0 by decide), if_neg (show ¬ nI 9 = 1 by decide), if_neg (show ¬ nI 9 = 2 by decide), if_neg (show ¬ nI 9 = 3 by decide), if_neg (show ¬ nI 9 = 4 by decide), if_neg (show ¬ nI 9 = 5 by decide), if_neg (show ¬ nI 9 = 6 by decide), if_neg (show ¬ nI 9 = 7 by decide), if_neg (show ¬ nI 9 = 8 by decide), if_pos (show nI 9 = 9 from rfl), x7_keysE hE ok.2.2.1 he, uB]; rfl
theorem r_entry_bad {σ : Mem} {w : Wd} {T : Nat} (ok : WdOk T w) (h : RfP σ w) {x y : Int32} (hx : x < 0 ∨ nI (en_m (as_E (w_a w))) ≤ x) : Rf (X7_entry σ x y) σ w 1 0 := by
  obtain ⟨σ1, e1, g1, f1⟩ := x7_readsPaper ok.1 h.1
  refine Rf.no (h.p f1) (f1.off fun c j => pRp_c) ?_
  unfold X7_entry
  rw [e1, uB]
  dsimp only
  rw [uZ (x7_isEntry_bad ok.1 (h.p f1).1 hx)]
  exact uZ (h_n σ1 nn1) _ _
theorem r_entry_no {σ : Mem} {w : Wd} {T e : Nat} (ok : WdOk T w) (h : RfP σ w) (he : e < en_m (as_E (w_a w))) {y : Int32} (hy : bad y 0 9) : Rf (X7_entry σ (nI e) y) σ w 2 0 := by
  obtain ⟨σ1, e1, g1, f1⟩ := x7_readsPaper ok.1 h.1
  refine Rf.no (h.p f1) (f1.off fun c j => pRp_c) ?_
  unfold X7_entry
  rw [e1, uB]
  dsimp only
  rw [uN (x7_isEntry ok.1 (h.p f1).1 he) nn1]
  dsimp only
  rw [uZ (show X7_in σ1 y (0 : Int32) (9 : Int32) = some (σ1, 0) from in_bad (lo := 0) (hi := 9) hy)]
  exact uZ (h_n σ1 nn2) _ _
theorem r_entry {σ : Mem} {w : Wd} {T e what : Nat} (ok : WdOk T w) (h : RfP σ w) (he : e < en_m (as_E (w_a w))) (hw : what ≤ 9) : Rf (X7_entry σ (nI e) (nI what)) σ w 0 (enAns (w_a w) e what) := by
  obtain ⟨σ1, e1, g1, f1⟩ := x7_readsPaper ok.1 h.1
  refine Rf.an h ((f1.mono fun c j => pRp_S).trans (fr_th σ1 0)) (si_1 _ _ _ _) ?_
  unfold X7_entry
  rw [e1, uB]
  dsimp only
  rw [uN (x7_isEntry ok.1 (h.p f1).1 he) nn1]
  dsimp only
  rw [uN (show X7_in σ1 (nI what) (0 : Int32) (9 : Int32) = some (σ1, 1) from in_good (lo := 0) (hi := 9) (by omega) hw (by omega)) nn1]
  dsimp only
  rw [uN (h_0 σ1) nn1]
  dsimp only
  rw [x7_ofEntry ok.1 ((h.p f1).th 0).1 (g1.th 0) he (by omega), uB]
/-! count -/
theorem x7_counted {σ : Mem} {w : Wd} {T what : Nat} (ok : WdOk T w) (h : RfP σ w) (g : RdRA σ (w_a w)) (hw : what < 10) : X7_counted σ (nI what) = some (σ, coAns w what) := by
  obtain ⟨z1, z2, z3, z4, z5, z6, z7, z8, z9⟩ := h.1.z
  unfold X7_counted coAns
  rcases (show what = 0 ∨ what = 1 ∨ what = 2 ∨ what = 3 ∨ what = 4 ∨ what = 5 ∨ what = 6 ∨ what = 7 ∨ what = 8 ∨ what = 9 by omega) with c | c | c | c | c | c | c | c | c | c <;> subst c
  · rw [if_pos (show nI 0 = 0 from rfl), z1]; rfl
  · rw [if_neg (show ¬ nI 1 = 0 by decide), if_pos (show nI 1 = 1 from rfl), g.1.1]; rfl
  · rw [if_neg (show ¬ nI 2 = 0 by decide), if_neg (show ¬ nI 2 = 1 by decide), if_pos (show nI 2 = 2 from rfl), g.1.1]; rfl
  · rw [if_neg (show ¬ nI 3 = 0 by decide), if_neg (show ¬ nI 3 = 1 by decide), if_neg (show ¬ nI 3 = 2 by decide), if_pos (show nI 3 = 3 from rfl), x7_standing ok.1 g, uB]; rfl
  · rw [if_neg (show ¬ nI 4 = 0 by decide), if_neg (show ¬ nI 4 = 1 by decide), if_neg (show ¬ nI 4 = 2 by decide), if_neg (show ¬ nI 4 = 3 by decide), if_pos (show nI 4 = 4 from rfl), z3.m]; rfl
  · rw [if_neg (show ¬ nI 5 = 0 by decide), if_neg (show ¬ nI 5 = 1 by decide), if_neg (show ¬ nI 5 = 2 by decide), if_neg (show ¬ nI 5 = 3 by decide), if_neg (show ¬ nI 5 = 4 by decide), if_pos (show nI 5 = 5 from rfl), show (4 : Int32) + nI 5 - (5 : Int32) = nI 4 by decide, if_pos (nI_inA (by omega) (by omega)), nI_clamp (by omega), z6]; rfl
  · rw [if_neg (show ¬ nI 6 = 0 by decide), if_neg (show ¬ nI 6 = 1 by decide), if_neg (show ¬ nI 6 = 2 by decide), if_neg (show ¬ nI 6 = 3 by decide), if_neg (show ¬ nI 6 = 4 by decide), if_neg (show ¬ nI 6 = 5 by decide), if_pos (show nI 6 = 6 from rfl), show (4 : Int32) + nI 6 - (5 : Int32) = nI 5 by decide, if_pos (nI_inA (by omega) (by omega)), nI_clamp (by omega), z7]; rfl
  · rw [if_neg (show ¬ nI 7 = 0 by decide), if_neg (show ¬ nI 7 = 1 by decide), if_neg (show ¬ nI 7 = 2 by decide), if_neg (show ¬ nI 7 = 3 by decide), if_neg (show ¬ nI 7 = 4 by decide), if_neg (show ¬ nI 7 = 5 by decide), if_neg (show ¬ nI 7 = 6 by decide), if_pos (show nI 7 = 7 from rfl), show (4 : Int32) + nI 7 - (5 : Int32) = nI 6 by decide, if_pos (nI_inA (by omega) (by omega)), nI_clamp (by omega), z8]; rfl
  · rw [if_neg (show ¬ nI 8 = 0 by decide), if_neg (show ¬ nI 8 = 1 by decide), if_neg (show ¬ nI 8 = 2 by decide), if_neg (show ¬ nI 8 = 3 by decide), if_neg (show ¬ nI 8 = 4 by decide), if_neg (show ¬ nI 8 = 5 by decide), if_neg (show ¬ nI 8 = 6 by decide), if_neg (show ¬ nI 8 = 7 by decide), if_pos (show nI 8 = 8 from rfl), show (4 : Int32) + nI 8 - (5 : Int32) = nI 7 by decide, if_pos (nI_inA (by omega) (by omega)), nI_clamp (by omega), z9]; rfl
  · rw [if_neg (show ¬ nI 9 = 0 by decide), if_neg (show ¬ nI 9 = 1 by decide), if_neg (show ¬ nI 9 = 2 by decide), if_neg (show ¬ nI 9 = 3 by decide), if_neg (show ¬ nI 9 = 4 by decide), if_neg (show ¬ nI 9 = 5 by decide), if_neg (show ¬ nI 9 = 6 by decide), if_neg (show ¬ nI 9 = 7 by decide), if_neg (show ¬ nI 9 = 8 by decide), if_pos (show nI 9 = 9 from rfl), h.2.2.2.1]; rfl
theorem r_count_bad {σ : Mem} {w : Wd} {T : Nat} (ok : WdOk T w) (h : RfP σ w) {x : Int32} (hx : bad x 0 9) : Rf (X7_count σ x) σ w 1 0 := by
  obtain ⟨σ1, e1, g1, f1⟩ := x7_readsPaper ok.1 h.1
  refine Rf.no (h.p f1) (f1.off fun c j => pRp_c) ?_
  unfold X7_count
  rw [e1, uB]
  dsimp only
  rw [uZ (show X7_in σ1 x (0 : Int32) (9 : Int32) = some (σ1, 0) from in_bad (lo := 0) (hi := 9) hx)]
  exact uZ (h_n σ1 nn1) _ _
theorem r_count {σ : Mem} {w : Wd} {T what : Nat} (ok : WdOk T w) (h : RfP σ w) (hw : what ≤ 9) : Rf (X7_count σ (nI what)) σ w 0 (coAns w what) := by
  obtain ⟨σ1, e1, g1, f1⟩ := x7_readsPaper ok.1 h.1
  refine Rf.an h ((f1.mono fun c j => pRp_S).trans (fr_th σ1 0)) (si_1 _ _ _ _) ?_
  unfold X7_count
  rw [e1, uB]
  dsimp only
  rw [uN (show X7_in σ1 (nI what) (0 : Int32) (9 : Int32) = some (σ1, 1) from in_good (lo := 0) (hi := 9) (by omega) hw (by omega)) nn1]
  dsimp only
  rw [uN (h_0 σ1) nn1]
  dsimp only
  rw [x7_counted ok ((h.p f1).th 0) (g1.th 0) (by omega), uB]
/-! ifStruck -/
theorem x7_struck {σ : Mem} {a : As} {T s what : Nat} (ok : AsOk T a) (h : RS (σ.1 83) 0 a) (hs : 1 ≤ s ∧ s < 1024) (hw : what ≤ 2) : ∃ σ', X7_struck σ (nI s) (nI what) = some (σ', ifAns a s what) ∧ Fr pRp σ σ' := by
  have hN := ok.1
  obtain ⟨σ1, e1, g1, f1⟩ := x7_readsPaper ok h
  have h83 := f1.s83 n83p
  have f2 : Fr pRp σ1 (setI (setI σ1 86 (as_N a) (nI s)) 82 10 (nI (as_N a + 1))) := (Fr.setI (by unfold pRp; omega)).trans (Fr.setI (by unfold pRp; omega))
  have h83b := f2.s83 n83p
  have hS : ShR (setI (setI σ1 86 (as_N a) (nI s)) 82 10 (nI (as_N a + 1))) (as_N (asPut a s)) (as_p (asPut a s)) := by
    refine ⟨si_1 _ _ _ _, fun j hj => ?_⟩
    have hj : j < as_N a + 1 := hj
    show _ = nI (updn (as_p a) (as_N a) s j)
    rw [si_o _ _ (by omega)]
    by_cases c : j = as_N a
    · rw [c, si_1, updn_1]
    · rw [si_o _ _ (by omega), updn_o _ _ c]; exact g1.2.2 j (by omega)
  have hE : RE ((setI (setI σ1 86 (as_N a) (nI s)) 82 10 (nI (as_N a + 1))).1 83) 0 (as_E a) := by rw [h83b, h83]; exact h.z.2.2.1
  have hg : (setI (setI σ1 86 (as_N a) (nI s)) 82 10 (nI (as_N a + 1))).1 83 3 = nI (as_g a) := by rw [h83b, h83]; exact h.z.2.2.2.2.1
  have hN1 : as_N (asPut a s) ≤ 61 := by show as_N a + 1 ≤ 61; omega
  obtain ⟨σ3, e3, g3, g4, f3⟩ := x7_reads ok.2.2.1 ok.2.2.2.2.1 hN1 (shOk_put ok hs) hE hg hS
  have g3 : RdR σ3 (as_E a) (as_g a) (as_N (asPut a s)) (as_p (asPut a s)) (as_t (asPut a s)) := g3
  have hl := last_item (a := asPut a s) (by show 0 < as_N a + 1; omega)
  have ht : as_t (asPut a s) ≤ 61 := Nat.le_trans (items_le (itn_ok (as_E (asPut a s)) (as_g (asPut a s)) (as_N (asPut a s)) (as_p (asPut a s)))) hN1
  have hlt : as_t (asPut a s) - 1 < as_t (asPut a s) := Nat.sub_lt hl.1 (by omega)
  have em : nI (as_t (asPut a s)) - (1 : Int32) = nI (as_t (asPut a s) - 1) := pk_sub (b := 1) hl.1
  have hE3 : RE (σ3.1 83) 0 (as_E a) := by rw [f3.s83 n83d]; exact hE
  refine ⟨σ3, ?_, (f1.trans f2).trans (f3.mono fun c j => pRd_p)⟩
  have e5 : X7_struck σ (nI s) (nI what) = (if nI what = 0 then ((X7_wordOf σ3 (nI (as_t (asPut a s) - 1))).bind fun q9 => some (q9.1, q9.2)) else (if nI what = (1 : Int32) then (if inA (nI (as_t (asPut a s) - 1)) 61 then some (σ3, (σ3.1 88 (nI (as_t (asPut a s) - 1)).toNatClampNeg)) else none) else some (σ3, nI (as_t (asPut a s))))) := by
    unfold X7_struck
    rw [e1, uB]
    dsimp only
    rw [g1.2.1, if_pos (nI_inA (by omega) (by omega)), nI_clamp (by omega), uB, si_o _ _ (by omega), g1.2.1, nI_1, uB, e3, uB]
    dsimp only
    rw [g3.1, em]
  rw [e5]
  unfold ifAns
  rcases (show what = 0 ∨ what = 1 ∨ what = 2 by omega) with c | c | c <;> subst c
  · rw [if_pos (show nI 0 = 0 from rfl), x7_wordOf hE3 ok.2.2.1 g3 ht hlt, uB]; rfl
  · rw [if_neg (show ¬ nI 1 = 0 by decide), if_pos (show nI 1 = 1 from rfl), if_pos (nI_inA (Nat.lt_of_lt_of_le hlt ht) (by omega)), nI_clamp (Nat.lt_of_lt_of_le hlt (Nat.le_trans ht (by omega))), (g3.2 _ hlt).2.1]; rfl
  · rw [if_neg (show ¬ nI 2 = 0 by decide), if_neg (show ¬ nI 2 = 1 by decide)]; rfl
theorem r_if_bad {σ : Mem} {w : Wd} (h : RfP σ w) {x y : Int32} (hb : bad x 1 1023 ∨ bad y 0 2) : Rf (X7_ifStruck σ x y) σ w 1 0 := by
  refine Rf.no h Off.rfl' ?_
  unfold X7_ifStruck
  rcases bad_or x 1 1023 (by omega) with c | ⟨s, s1, s2, hxs⟩
  · rw [uZ (show X7_in σ x (1 : Int32) (1023 : Int32) = some (σ, 0) from in_bad (lo := 1) (hi := 1023) c)]
    exact uZ (h_n σ nn1) _ _
  · subst hxs
    have hy : bad y 0 2 := by
      rcases hb with hb | hb
      · rcases hb with hb | hb
        · exact absurd hb (nI_nlt s1 (by omega))
        · exact absurd hb (nI_nlt s2 (by omega))
      · exact hb
    rw [uN (show X7_in σ (nI s) (1 : Int32) (1023 : Int32) = some (σ, 1) from in_good (lo := 1) (hi := 1023) s1 s2 (by omega)) nn1]
    dsimp only
    rw [uZ (show X7_in σ y (0 : Int32) (2 : Int32) = some (σ, 0) from in_bad (lo := 0) (hi := 2) hy)]
    exact uZ (h_n σ nn1) _ _
theorem r_if {σ : Mem} {w : Wd} {T s what : Nat} (ok : WdOk T w) (h : RfP σ w) (hs : 1 ≤ s ∧ s < 1024) (hw : what ≤ 2) : Rf (X7_ifStruck σ (nI s) (nI what)) σ w 0 (ifAns (w_a w) s what) := by
  obtain ⟨σ1, e1, f1⟩ := x7_struck (what := what) ok.1 (h.th 0).1 hs hw
  refine Rf.an h ((fr_th σ 0).trans (f1.mono fun c j => pRp_S)) ?_ ?_
  · rw [f1.1 82 0 (by unfold pRp; omega), si_1]
  · unfold X7_ifStruck
    rw [uN (show X7_in σ (nI s) (1 : Int32) (1023 : Int32) = some (σ, 1) from in_good (lo := 1) (hi := 1023) hs.1 (by omega) (by omega)) nn1]
    dsimp only
    rw [uN (show X7_in σ (nI what) (0 : Int32) (2 : Int32) = some (σ, 1) from in_good (lo := 0) (hi := 2) (by omega) hw (by omega)) nn1]
    dsimp only
    rw [uN (h_0 σ) nn1]
    dsimp only
    rw [e1, uB]
/-! begun -/
theorem lgt_b {E : En} (ok : EnOk E) {e s N : Nat} {p : Nat → Nat} (he : e < en_m E) (hs : 1 ≤ s ∧ s ≤ 3) (hN : s ≤ N) (hq : ShOk N p) : lgt E (pac (shf p (N - s)) s) s e = decide (s < en_l E e ∧ ∀ k, k < s → en_r E e k = p (N - s + k)) := by
  have hl := (ok.2 e he).1
  have hr := (ok.2 e he).2.1
  have hp : ∀ t, t < s → 1 ≤ shf p (N - s) t ∧ shf p (N - s) t < 1024 := fun t ht => hq (N - s + t) (by omega)
  unfold lgt
  by_cases c : s < en_l E e
  · have h1 : en_k E e % 1024 ^ s = pac (en_r E e) s := pac_mod (fun t ht => (hr t ht).2) (by omega)
    have h2 : ¬ en_k E e = pac (shf p (N - s)) s := fun x => by
      have := ((pac_inj hr hp).mp x).1
      omega
    rw [h1, decide_eq_false h2]
    have h3 := pac_inj (k := s) (l := s) (r := en_r E e) (q := shf p (N - s)) (fun t ht => hr t (by omega)) hp
    by_cases c2 : ∀ k, k < s → en_r E e k = p (N - s + k)
    · rw [decide_eq_true (h3.mpr ⟨rfl, c2⟩), decide_eq_true ⟨c, c2⟩]; rfl
    · rw [decide_eq_false (fun x => c2 (h3.mp x).2), decide_eq_false (fun x => c2 x.2)]; rfl
  · have h1 : en_k E e < 1024 ^ s := Nat.lt_of_lt_of_le (pac_lt (fun t ht => (hr t ht).2)) (Nat.pow_le_pow_right (by decide) (by omega))
    rw [Nat.mod_eq_of_lt h1, decide_eq_false (show ¬ (s < en_l E e ∧ ∀ k, k < s → en_r E e k = p (N - s + k)) from fun x => c x.1)]
    cases decide (en_k E e = pac (shf p (N - s)) s) <;> rfl
theorem x7_beg_500 (K : Mem → Int32 → Int32 → Int32 → Int32 → Int32 → Option (Mem × Int32)) (fu : Nat) (σ : Mem) (v1 v2 v3 v4 v6 : Int32) : X7_begins_50 K (fu + 1) σ v1 v2 v3 v4 (0 : Int32) v6 = K σ v1 v2 v3 v4 (bI false) := by
  rw [X7_begins_50]
  split
  · rfl
  · rw [if_pos rfl]; rfl
theorem x7_beg_50 {σ : Mem} {E : En} (h : RE (σ.1 83) 0 E) (ok : EnOk E) {e s fr N : Nat} {p : Nat → Nat} (hs : s ≤ 3) (hN : fr + s ≤ N) (hN2 : N ≤ 60) (hp : ∀ j, j < N → σ.1 83 (8 + j) = nI (p j)) (hq : ShOk N p) (he : e < en_m E) (hl : s < en_l E e) (K : Mem → Int32 → Int32 → Int32 → Int32 → Int32 → Option (Mem × Int32)) {v3 : Int32} : ∀ (r v fu : Nat), v + r = s → r < fu → (∀ k, k < v → en_r E e k = p (fr + k)) → X7_begins_50 K fu σ (nI s) (nI fr) v3 (nI e) (1 : Int32) (nI v) = K σ (nI s) (nI fr) v3 (nI e) (bI (decide (∀ k, k < s → en_r E e k = p (fr + k))))
  | r, v, 0, _, h, _ => absurd h (by omega)
  | 0, v, fu + 1, h1, _, hk => by
    rw [X7_begins_50, if_pos (nI_le (by omega) (by omega)), decide_eq_true (fun k hk2 => hk k (by omega))]
    rfl
  | r + 1, v, fu + 1, h1, hf, hk => by
    have r1 := (ok.2 e he).2.1 v (by omega)
    have r2 := hq (fr + v) (by omega)
    rw [X7_begins_50, if_neg (nI_ge (by omega) (by omega)), if_neg one_ne, of_r h ok he (by omega), uB]
    dsimp only
    rw [show (8 : Int32) + nI fr + nI v = nI (8 + fr + v) by rw [k_8, nI_add, nI_add], if_pos (nI_inA (by omega) (by omega)), nI_clamp (by omega), show 8 + fr + v = 8 + (fr + v) by omega, hp (fr + v) (by omega)]
    by_cases c : en_r E e v = p (fr + v)
    · rw [if_pos (by rw [c]), nI_1]
      exact x7_beg_50 h ok hs hN hN2 hp hq he hl K r (v + 1) fu (by omega) (by omega) (fun k hk2 => by
        by_cases c2 : k = v
        · rw [c2]; exact c
        · exact hk k (by omega))
    · rw [if_neg (fun x => c ((nI_eq (by omega) (by omega)).mp x)), nI_1, decide_eq_false (fun x => c (x v (by omega)))]
      cases fu with
      | zero => omega
      | succ fu => exact x7_beg_500 K fu σ _ _ _ _ _
theorem x7_beg_14 {σ : Mem} {E : En} (h : RE (σ.1 83) 0 E) (ok : EnOk E) {s N : Nat} {p : Nat → Nat} (hs : 1 ≤ s ∧ s ≤ 3) (hN : s ≤ N) (hN2 : N ≤ 60) (hp : ∀ j, j < N → σ.1 83 (8 + j) = nI (p j)) (hq : ShOk N p) (K : Mem → Int32 → Option (Mem × Int32)) : ∀ (r e fu : Nat), e + r = en_m E → r < fu → X7_begins_14 K fu σ (nI s) (nI (N - s)) (nI (cnt (lgt E (pac (shf p (N - s)) s) s) e)) (nI e) = K σ (nI (cnt (lgt E (pac (shf p (N - s)) s) s) (en_m E)))
  | r, v, 0, _, h => absurd h (by omega)
  | 0, e, fu + 1, h1, _ => by
    have hm := ok.1
    have : e = en_m E := by omega
    subst this
    rw [X7_begins_14, h.m, if_pos (nI_le (by omega) (by omega))]
  | r + 1, e, fu + 1, h1, hf => by
    have hm := ok.1
    have he : e < en_m E := by omega
    have hle := (ok.2 e he).1
    have ih := x7_beg_14 h ok hs hN hN2 hp hq K r (e + 1) fu (by omega) (by omega)
    have hb := lgt_b ok he hs hN hq
    have fin : ∀ b : Bool, lgt E (pac (shf p (N - s)) s) s e = b → (if bI b = 0 then X7_begins_14 K fu σ (nI s) (nI (N - s)) (nI (cnt (lgt E (pac (shf p (N - s)) s) s) e) + (0 : Int32)) (nI e + (1 : Int32)) else X7_begins_14 K fu σ (nI s) (nI (N - s)) (nI (cnt (lgt E (pac (shf p (N - s)) s) s) e) + (1 : Int32)) (nI e + (1 : Int32))) = K σ (nI (cnt (lgt E (pac (shf p (N - s)) s) s) (en_m E))) := fun b hbb => by
      cases b with
      | false =>
        rw [cnt_f hbb] at ih
        rw [if_pos (show bI false = 0 from rfl), nI_p0, nI_1]
        exact ih
      | true =>
        rw [cnt_t hbb] at ih
        rw [if_neg (show ¬ bI true = 0 by decide), nI_1, nI_1]
        exact ih
    rw [X7_begins_14, h.m, if_neg (nI_ge (by omega) (by omega)), if_neg (nI_pos (by omega)), of_l h ok he, uB]
    dsimp only
    by_cases c : s < en_l E e
    · rw [if_neg (nI_ge c (by omega))]
      refine (x7_beg_50 (fr := N - s) h ok hs.2 (by omega) hN2 hp hq he c _ s 0 FU (by omega) (by unfold FU; omega) (fun k hk => absurd hk (Nat.not_lt_zero k))).trans ?_
      refine fin _ ?_
      rw [hb]
      by_cases c2 : ∀ k, k < s → en_r E e k = p (N - s + k)
      · rw [decide_eq_true c2, decide_eq_true ⟨c, c2⟩]
      · rw [decide_eq_false c2, decide_eq_false (fun x => c2 x.2)]
    · rw [if_pos (nI_le (by omega) (by omega))]
      refine (x7_beg_500 _ 999 σ _ _ _ _ _).trans ?_
      refine fin false ?_
      rw [hb]
      exact decide_eq_false (fun x => c x.1)
theorem x7_begins {σ : Mem} {a : As} {T s : Nat} (ok : AsOk T a) (h : RS (σ.1 83) 0 a) (hs : 1 ≤ s ∧ s ≤ 3) : X7_begins σ (nI s) = some (σ, nI (beAns a s)) := by
  obtain ⟨z1, z2, z3, z4⟩ := h.z
  have hN := ok.1
  have hm := ok.2.2.1.1
  unfold X7_begins beAns
  rw [z1]
  by_cases c : s ≤ as_N a
  · rw [if_pos c, pk_sub c]
    exact x7_beg_14 z3 ok.2.2.1 hs c hN z2 ok.2.1 _ (en_m (as_E a)) 0 FU (by omega) (by unfold FU; omega)
  · rw [if_neg c, show FU = 999 + 1 from rfl, X7_begins_14, z3.m]
    split
    · rfl
    · rw [if_pos (by
        rw [Int32.lt_iff_toInt_lt, pk_sub_toInt (by omega) (by omega)]
        have : (0 : Int32).toInt = 0 := by decide
        omega)]
      rfl
theorem r_begun_bad {σ : Mem} {w : Wd} (h : RfP σ w) {x : Int32} (hx : bad x 1 3) : Rf (X7_begun σ x) σ w 1 0 := by
  refine Rf.no h Off.rfl' ?_
  unfold X7_begun
  rw [uZ (show X7_in σ x (1 : Int32) (3 : Int32) = some (σ, 0) from in_bad (lo := 1) (hi := 3) hx)]
  exact uZ (h_n σ nn1) _ _
theorem r_begun {σ : Mem} {w : Wd} {T s : Nat} (ok : WdOk T w) (h : RfP σ w) (hs : 1 ≤ s ∧ s ≤ 3) : Rf (X7_begun σ (nI s)) σ w 0 (nI (beAns (w_a w) s)) := by
  refine Rf.an h (fr_th σ 0) (si_1 _ _ _ _) ?_
  unfold X7_begun
  rw [uN (show X7_in σ (nI s) (1 : Int32) (3 : Int32) = some (σ, 1) from in_good (lo := 1) (hi := 3) hs.1 hs.2 (by omega)) nn1]
  dsimp only
  rw [uN (h_0 σ) nn1]
  dsimp only
  rw [x7_begins ok.1 (h.th 0).1 hs, uB]
