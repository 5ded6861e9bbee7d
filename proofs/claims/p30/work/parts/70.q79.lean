/-! count: items, stroke by stroke -/
theorem szf_far {E : En} {lg N M pl : Nat} {q : Nat → Nat} (hl : lg ≤ 4) (h1 : pl + 4 ≤ N) (h2 : pl + 4 ≤ M) : szf E lg N q pl = szf E lg M q pl := by
  unfold szf
  rw [Nat.min_eq_left (show lg ≤ N - pl by omega), Nat.min_eq_left (show lg ≤ M - pl by omega)]
theorem stf_far {E : En} {lg N M pl : Nat} {q : Nat → Nat} (hl : lg ≤ 4) (h1 : pl + 4 ≤ N) (h2 : pl + 4 ≤ M) : stf E lg N q pl = stf E lg M q pl := by
  unfold stf
  rw [szf_far hl h1 h2]
theorem posf_far {E : En} {lg N M : Nat} {q : Nat → Nat} (hl : lg ≤ 4) : ∀ {s : Nat}, (∀ i, i < s → posf E lg N q i + 4 ≤ N ∧ posf E lg N q i + 4 ≤ M) → posf E lg M q s = posf E lg N q s
  | 0, _ => rfl
  | s + 1, h => by
    have ih := posf_far (M := M) hl (s := s) (fun i hi => h i (by omega))
    obtain ⟨h1, h2⟩ := h s (by omega)
    rw [posf, posf, ih, szf_far hl h1 h2]
theorem hx_sub {v : Nat} (hv : v < 100) : ∀ a, a < 2147483648 → (nI a < nI v - (3 : Int32) ↔ a < v - 3) := fun a ha => by
  rw [Int32.lt_iff_toInt_lt, k_3, pk_sub_toInt (by omega) (by omega), nI_toInt (by omega)]
  omega
theorem x6_sbs_18 {a : As} {T : Nat} (ok : AsOk T a) (K : Mem → Option (Mem × Int32)) : ∀ (r v fu : Nat) (σ : Mem), v + r = as_N a → r < fu → StC σ 0 a → RowIs σ 75 v (fun j => nI (as_p a j)) → Rd σ 68 (as_E a) (as_g a) v (as_p a) (itn (as_E a) (as_g a) v (as_p a)) → ∃ σ', X6_itemsStrokeByStroke_18 K fu σ (nI v) = K σ' ∧ RowIs σ' 75 (as_N a) (fun j => nI (as_p a j)) ∧ Rd σ' 68 (as_E a) (as_g a) (as_N a) (as_p a) (as_t a) ∧ Off 68 77 σ σ'
  | 0, v, 0, _, _, h, _, _, _ => absurd h (by omega)
  | r + 1, v, 0, _, _, h, _, _, _ => absurd h (by omega)
  | 0, v, fu + 1, σ, h1, _, ha, h75, h68 => by
    have hN := ok.1
    have hv : v = as_N a := by omega
    subst hv
    refine ⟨σ, ?_, h75, h68, Off.rfl'⟩
    unfold X6_itemsStrokeByStroke_18 X3_length
    rw [uB, ha.1.1, if_pos (nI_le (by omega) (by omega))]
  | r + 1, v, fu + 1, σ, h1, hf, ha, h75, h68 => by
    have hN := ok.1
    have hl := ok.2.2.2.2.1
    obtain ⟨σ1, e1, g1, o1⟩ := x3_put (i := 75) h75 (by rw [cap75']; omega) (by rw [cap75']; omega) (nI (as_p a v))
    have g1 : RowIs σ1 75 (v + 1) (fun j => nI (as_p a j)) := g1.le (upd_le (fun _ _ => rfl) rfl)
    have ht := itn_ok (as_E a) (as_g a) v (as_p a)
    have ht2 := items_le ht
    have h68' : RdW σ1 68 _ _ _ _ := RdW.off (c := 68) h68 o1 (by omega)
    obtain ⟨σ2, s, e2, hs, g2, g3, g4, o2⟩ := x2_dropFrom cap68 (hx_sub (v := v) (by omega)) (n := itn (as_E a) (as_g a) v (as_p a)) (by omega) h68' (fun i hi => by have := ht.2 i hi; omega)
    have hfar : ∀ i, i < s → posf (as_E a) (as_g a) v (as_p a) i + 4 ≤ v ∧ posf (as_E a) (as_g a) v (as_p a) i + 4 ≤ v + 1 := fun i hi => by
      rcases g4 with g4 | g4
      · omega
      · by_cases c : i = s - 1
        · rw [c]; omega
        · have := posf_lt (as_E a) (as_g a) v (as_p a) (i := i) (j := s - 1) (by omega)
          omega
    have hpos : ∀ i, i ≤ s → posf (as_E a) (as_g a) (v + 1) (as_p a) i = posf (as_E a) (as_g a) v (as_p a) i := fun i hi => posf_far hl.2 (fun k hk => hfar k (by omega))
    have hR : Rd σ2 68 (as_E a) (as_g a) (v + 1) (as_p a) s := g2.le (fun i hi => by rw [hpos i (by omega)]) (fun i hi => by rw [hpos i (by omega), szf_far hl.2 (hfar i hi).1 (hfar i hi).2]) (fun i hi => by rw [hpos i (by omega), stf_far hl.2 (hfar i hi).1 (hfar i hi).2])
    have hps : posf (as_E a) (as_g a) (v + 1) (as_p a) s ≤ v + 1 := by
      rw [hpos s (Nat.le_refl _)]
      by_cases c : s = itn (as_E a) (as_g a) v (as_p a)
      · rw [c, ht.1]; omega
      · have := ht.2 s (by omega); omega
    have ha2 : StC σ2 0 a := (ha.off o1 (by omega)).off o2 (by omega)
    obtain ⟨σ3, e3, g5, o3⟩ := x2_readOnS (c := 68) (j := 75) (j2 := 0) cap68 (show v + 1 ≤ cap 75 by rw [cap75']; omega) (by rw [cap75']; omega) (by omega) (by omega) ok.2.2.1 (fun t ht => ok.2.1 t (by omega)) hl (g1.off o2 (by omega)) ha2.2.1 ha2.2.2.2.1 hR hps
    obtain ⟨σ4, e4, g6, g7, o4⟩ := x6_sbs_18 ok K r (v + 1) fu σ3 (by omega) (by omega) (ha2.off o3 (by omega)) ((g1.off o2 (by omega)).off o3 (by omega)) g5
    refine ⟨σ4, ?_, g6, g7, (((o1.mono (by omega) (by omega)).trans (o2.mono (by omega) (by omega))).trans (o3.mono (by omega) (by omega))).trans o4⟩
    unfold X6_itemsStrokeByStroke_18 X3_length
    rw [uB, ha.1.1, if_neg (nI_ge (by omega) (by omega)), x3_at ha.1 (by rw [cap1']; exact hN) (by rw [cap1']; omega) (by omega), uB, e1, uB]
    dsimp only
    rw [e2, uB, e3, uB, nI_1, e4]
theorem x6_sbs {σ : Mem} {a : As} {T : Nat} (ok : AsOk T a) (ha : StC σ 0 a) (h68 : RdI σ 68) (h75 : RowI σ 75) : ∃ σ', X6_itemsStrokeByStroke σ = some (σ', nI (as_t a)) ∧ RdI σ' 68 ∧ RowI σ' 75 ∧ Off 68 77 σ σ' := by
  obtain ⟨n, f, hn, hr⟩ := h75
  rw [cap75'] at hn
  obtain ⟨σ1, e1, g1, o1⟩ := x3_shorten0 (i := 75) hr (by omega)
  obtain ⟨σ2, e2, g2, o2⟩ := x2_drop0 cap68 (h68.off o1 (by omega))
  obtain ⟨σ3, e3, g3, g4, o3⟩ := x6_sbs_18 ok (fun σ => (X2_size 68 σ).bind fun q15 => some (q15.1, q15.2)) (as_N a) 0 FU σ2 (by omega) (by have := ok.1; unfold FU; omega) ((ha.off o1 (by omega)).off o2 (by omega)) (RowIs.off (show RowIs σ1 75 0 (fun j => nI (as_p a j)) from ⟨g1.1, fun j hj => absurd hj (by omega)⟩) o2 (by omega)) (g2 _ _ _)
  refine ⟨σ3, ?_, Rd.i g4 (by have := ok.1; omega), ⟨_, _, by rw [cap75']; have := ok.1; omega, g3⟩, ((o1.mono (by omega) (by omega)).trans (o2.mono (by omega) (by omega))).trans o3⟩
  unfold X6_itemsStrokeByStroke
  rw [e1, uB, e2, uB]
  refine e3.trans ?_
  unfold X2_size X3_length
  rw [uB, uB]
  dsimp only
  rw [g4.1.1]
/-- what is counted -/
def coAns (w : Wd) (what : Nat) : Int32 := if what = 0 then nI (as_N (w_a w)) else if what ≤ 2 then nI (as_t (w_a w)) else if what = 3 then nI (stN (w_a w) (-1)) else if what = 4 then nI (en_m (as_E (w_a w))) else if what = 5 then nI (as_k (w_a w)) else if what = 6 then as_e (w_a w) else if what = 7 then as_a (w_a w) else if what = 8 then nI (as_y (w_a w)) else nI (w_v w).1
theorem x6_rawItems {σ : Mem} {a : As} {T : Nat} (ok : AsOk T a) (h : RdA σ 61 a) : X6_rawItems σ = some (σ, nI (stN a (-1))) := by
  unfold X6_rawItems
  rw [r_itemsOf ok h, uB]
theorem x6_countNumber {σ : Mem} {w : Wd} {T what : Nat} (hP : ClP σ w) (hS : ClS σ) (ok : AsOk T (w_a w)) (h : RdA σ 61 (w_a w)) (hw : what < 10) : ∃ σ', X6_countNumber σ (nI what) = some (σ', coAns w what) ∧ RdI σ' 68 ∧ RowI σ' 75 ∧ Off 68 77 σ σ' := by
  obtain ⟨g1, g2, g3, g4, g5, g6, g7, g8⟩ := hP.1
  obtain ⟨old, ⟨r1, r2, r3, r4, r5⟩⟩ := hP.2.2.2.1
  by_cases c1 : what = 1
  · subst c1
    obtain ⟨σ1, e1, h1, h2, o1⟩ := x6_sbs ok hP.1 hS.2.1 hS.2.2.1
    refine ⟨σ1, ?_, h1, h2, o1⟩
    unfold X6_countNumber
    rw [if_neg (show ¬ nI 1 = 0 by decide), if_pos (show nI 1 = 1 from rfl), e1, uB]; rfl
  · refine ⟨σ, ?_, hS.2.1, hS.2.2.1, Off.rfl'⟩
    unfold X6_countNumber X3_length X4_size coAns
    rcases (show what = 0 ∨ what = 2 ∨ what = 3 ∨ what = 4 ∨ what = 5 ∨ what = 6 ∨ what = 7 ∨ what = 8 ∨ what = 9 by omega) with c | c | c | c | c | c | c | c | c <;> subst c
    · rw [if_pos (show nI 0 = 0 from rfl), uB]; dsimp only; rw [g1.1]; rfl
    · rw [if_neg (show ¬ nI 2 = 0 by decide), if_neg (show ¬ nI 2 = 1 by decide), if_pos (show nI 2 = 2 from rfl), x6_size, uB]; dsimp only; rw [h.1.1]; rfl
    · rw [if_neg (show ¬ nI 3 = 0 by decide), if_neg (show ¬ nI 3 = 1 by decide), if_neg (show ¬ nI 3 = 2 by decide), if_pos (show nI 3 = 3 from rfl), x6_rawItems ok h, uB]; rfl
    · unfold X0_size
      rw [if_neg (show ¬ nI 4 = 0 by decide), if_neg (show ¬ nI 4 = 1 by decide), if_neg (show ¬ nI 4 = 2 by decide), if_neg (show ¬ nI 4 = 3 by decide), if_pos (show nI 4 = 4 from rfl), uB]; dsimp only; rw [g2.1]; rfl
    · rw [if_neg (show ¬ nI 5 = 0 by decide), if_neg (show ¬ nI 5 = 1 by decide), if_neg (show ¬ nI 5 = 2 by decide), if_neg (show ¬ nI 5 = 3 by decide), if_neg (show ¬ nI 5 = 4 by decide), if_pos (show nI 5 = 5 from rfl), g5]; rfl
    · rw [if_neg (show ¬ nI 6 = 0 by decide), if_neg (show ¬ nI 6 = 1 by decide), if_neg (show ¬ nI 6 = 2 by decide), if_neg (show ¬ nI 6 = 3 by decide), if_neg (show ¬ nI 6 = 4 by decide), if_neg (show ¬ nI 6 = 5 by decide), if_pos (show nI 6 = 6 from rfl), g6]; rfl
    · rw [if_neg (show ¬ nI 7 = 0 by decide), if_neg (show ¬ nI 7 = 1 by decide), if_neg (show ¬ nI 7 = 2 by decide), if_neg (show ¬ nI 7 = 3 by decide), if_neg (show ¬ nI 7 = 4 by decide), if_neg (show ¬ nI 7 = 5 by decide), if_neg (show ¬ nI 7 = 6 by decide), if_pos (show nI 7 = 7 from rfl), g7]; rfl
    · rw [if_neg (show ¬ nI 8 = 0 by decide), if_neg (show ¬ nI 8 = 1 by decide), if_neg (show ¬ nI 8 = 2 by decide), if_neg (show ¬ nI 8 = 3 by decide), if_neg (show ¬ nI 8 = 4 by decide), if_neg (show ¬ nI 8 = 5 by decide), if_neg (show ¬ nI 8 = 6 by decide), if_neg (show ¬ nI 8 = 7 by decide), if_pos (show nI 8 = 8 from rfl), g8]; rfl
    · rw [if_neg (show ¬ nI 9 = 0 by decide), if_neg (show ¬ nI 9 = 1 by decide), if_neg (show ¬ nI 9 = 2 by decide), if_neg (show ¬ nI 9 = 3 by decide), if_neg (show ¬ nI 9 = 4 by decide), if_neg (show ¬ nI 9 = 5 by decide), if_neg (show ¬ nI 9 = 6 by decide), if_neg (show ¬ nI 9 = 7 by decide), if_neg (show ¬ nI 9 = 8 by decide), uB, r4]; rfl
theorem ClS.s68 {σ σ' : Mem} (h : ClS σ) (o : Off 68 77 σ σ') (h1 : RdI σ' 68) (h2 : RowI σ' 75) : ClS σ' := ⟨h.1.off o (by omega), h1, h2, h.2.2.2.1.off o (by omega), h.2.2.2.2.off o (by omega)⟩
theorem q_count_bad {σ : Mem} {x : Int32} (h : bad x 0 9) : X6_count σ x = some (σ, Sum.inr 0) := by
  unfold X6_count
  exact bad_iflt (lo := 0) (hi := 9) h (by omega) (by omega)
theorem q_count {σ : Mem} {w : Wd} {T what : Nat} (hP : ClP σ w) (hS : ClS σ) (ok : AsOk T (w_a w)) (hw : what ≤ 9) : Ans (X6_count σ (nI what)) σ w (Sum.inl (coAns w what)) := by
  obtain ⟨σ1, e1, h1, o1⟩ := x6_readPaper ok hP.1 hS.1
  have hP1 := hP.off o1 (by omega) (by omega)
  have hS1 := hS.read ok h1 o1
  obtain ⟨σ2, e2, h2, h3, o2⟩ := x6_countNumber hP1 hS1 ok h1 (show what < 10 by omega)
  refine ⟨σ2, ?_, hP1.off o2 (by omega) (by omega), hS1.s68 o2 h2 h3, (o1.mono (by omega) (by omega)).trans (o2.mono (by omega) (by omega))⟩
  unfold X6_count
  refine (good_iflt (lo := 0) (hi := 9) (by omega) (by omega) (by omega)).trans ?_
  rw [e1, uB, e2, uB]
