/-! THE LAW'S LOOP -/
theorem cell_e {Ls : Nat} (hL : Ls ≤ 260) (xs : Nat → Int32) (k : Nat) (hk : k < 1000) : ∃ v, ∀ σ : Mem, L_cell Ls xs σ (nI k) = some (σ, v) := by
  by_cases c : Ls ≤ k
  · refine ⟨(1812433253 : Int32) * (nI k + (229 : Int32)), fun σ => ?_⟩
    unfold L_cell
    exact if_pos (show nI Ls ≤ nI k from nI_le c (by omega))
  · refine ⟨xs k, fun σ => ?_⟩
    unfold L_cell
    rw [if_neg (show ¬ Int32.ofNat Ls ≤ nI k from nI_ge (by omega) (by omega)), if_pos (nI_inA (by omega) (by omega)), nI_clamp (by omega)]
theorem lw_250 {Q : Mem × Int32 → Prop} {σ : Mem} {w : Wd} {T Ls : Nat} {xs : Nat → Int32} {v3 : Int32} (K : Mem → Int32 → Option (Mem × Int32)) (rc : Mem → Int32 → Int32 → Option (Mem × Int32)) (g : Gd σ w) (h : Iv T w) (hrc : ∀ σ' w', Gd σ' w' → Iv T w' → Hd Q (rc σ' 1 (v3 + 1))) : Hd Q (L_law_250 Ls xs K rc σ v3) := by
  unfold L_law_250 L_law_271
  refine Hd.s (fun _ => ?_) (fun _ => hrc σ w g h)
  refine yc_keep g h.ok (fun σ1 g1 => ?_)
  refine yc_c0 g1 (T := T) h.ok (fun σ2 g2 => ?_)
  exact Hd.t rfl (hrc σ2 (wKeep w) g2 h.keep)
theorem lw_217 {Q : Mem × Int32 → Prop} {σ : Mem} {w : Wd} {T Ls : Nat} {xs : Nat → Int32} {v3 v5 : Int32} (K : Mem → Int32 → Option (Mem × Int32)) (rc : Mem → Int32 → Int32 → Option (Mem × Int32)) (g : Gd σ w) (h : Iv T w) (hrc : ∀ σ' w', Gd σ' w' → Iv T w' → Hd Q (rc σ' 1 (v3 + 1))) : Hd Q (L_law_217 Ls xs K rc σ v3 v5) := by
  unfold L_law_217
  refine Hd.s (fun _ => ?_) (fun _ => lw_250 K rc g h hrc)
  refine yc_up (n := 24) rfl (by omega) (by omega) ?_
  refine yc_up (n := 24) rfl (by omega) (by omega) ?_
  refine yc_ab g h.ok rfl (upn_lt (by omega)) rfl (upn_lt (by omega)) (fun σ1 g1 => ?_)
  exact Hd.f one_ne (lw_250 K rc g1 h hrc)
theorem lw_192 {Q : Mem × Int32 → Prop} {σ : Mem} {w : Wd} {T Ls : Nat} {xs : Nat → Int32} {v3 v5 : Int32} (K : Mem → Int32 → Option (Mem × Int32)) (rc : Mem → Int32 → Int32 → Option (Mem × Int32)) (g : Gd σ w) (h : Iv T w) (hT : T ≤ 512) (hrc : ∀ σ' w', Gd σ' w' → Iv T w' → Hd Q (rc σ' 1 (v3 + 1))) : Hd Q (L_law_192 Ls xs K rc σ 1 v3 v5) := by
  unfold L_law_192
  refine Hd.f one_ne ?_
  refine yc_ir g h.ok (fun σ1 g1 => ?_)
  refine Hd.f one_ne ?_
  refine Hd.s (fun _ => ?_) (fun _ => lw_217 K rc g1 h hrc)
  refine yc_ae g1 h.ok hT h.2.2.1 (fun σ2 g2 => ?_)
  exact Hd.f one_ne (lw_217 K rc g2 h hrc)
theorem lw_115 {Q : Mem × Int32 → Prop} {σ : Mem} {w w' : Wd} {T Ls : Nat} {xs : Nat → Int32} {v3 x y : Int32} (K : Mem → Int32 → Option (Mem × Int32)) (rc : Mem → Int32 → Int32 → Option (Mem × Int32)) (h : Iv T w) (hT : T + 2 ≤ 512) (g : Gd σ w') (h' : Iv (T + 1) w') (ha : w_a w' = actA (w_a w) (w_s w) x y) (hv : w_v w' = svPush (w_v w) (w_a w)) (hs : w_s w' = w_s w) (hrc : ∀ σ' w', Gd σ' w' → Iv (T + 2) w' → Hd Q (rc σ' 1 (v3 + 1))) : Hd Q (L_law_115 Ls xs K rc σ v3 x y (lk (w_a w)) 1) := by
  have h2 := h'.mono (Nat.le_succ (T + 1))
  obtain ⟨n1, n2⟩ := svPush_n (w_v w) (w_a w) h.1.2.2.1
  have hn0 : 0 < (w_v w').1 := by rw [hv, n1]; split <;> omega
  have hn6 := h'.1.2.2.1
  have hpa : w_a (wPop w') = w_a w := by
    show (w_v w').2 ((w_v w').1 - 1) = w_a w
    rw [hv]
    exact n2
  have hp := h'.pop hn0
  unfold L_law_115
  refine Hd.f one_ne ?_
  refine Hd.s (fun _ => ?_) (fun _ => lw_192 K rc g h2 (by omega) hrc)
  refine yc_lo g h'.ok (fun σ1 g1 => ?_)
  refine yc_c9 g1 h'.ok (fun σ2 g2 => ?_)
  refine yc_undo g2 hn0 (h'.1.2.2.2.1 _ (Nat.sub_lt hn0 (by omega))) (fun σ3 g3 => ?_)
  refine Hd.t (pk_sub hn0).symm ?_
  refine yc_lo g3 hp.ok (fun σ4 g4 => ?_)
  refine Hd.t (show lg_cmp (lk (w_a (wPop w'))) (lk (w_a w)) = 0 by rw [hpa]; exact (lg_cmp_eq _ _).mpr rfl) ?_
  refine Hd.x (ac_e g4 hp (by omega)) (fun o ho => ?_)
  obtain ⟨σ5, v⟩ := o
  obtain ⟨hv1, w5, g5, ha5, -, -, h5⟩ := ho
  have hv1 : v = 1 := hv1
  subst hv1
  have g5 : Gd σ5 w5 := g5
  have ha6 : w_a w5 = w_a w' := by
    rw [ha5, ha, hpa]
    show actA (w_a w) (w_s w') x y = actA (w_a w) (w_s w) x y
    rw [hs]
  refine Hd.f one_ne ?_
  refine yc_lo g5 h5.ok (fun σ6 g6 => ?_)
  refine Hd.t (show lg_cmp (lk (w_a w5)) (lk (w_a w')) = 0 by rw [ha6]; exact (lg_cmp_eq _ _).mpr rfl) ?_
  unfold L_law_191
  exact lw_192 K rc g6 h5 (by omega) hrc
theorem lw_30 {Ls : Nat} (hL : Ls ≤ 260) (xs : Nat → Int32) : ∀ (r n fu T : Nat) (σ : Mem) (w : Wd), n + r = 56 → r < fu → T ≤ 2 * n → Gd σ w → Iv T w → Hd (fun o => o.2 = 1) (L_law_30 Ls xs (fun (σ : Mem) (v2 : Int32) => some (σ, v2)) fu σ 1 (nI n))
  | r, n, 0, _, _, _, _, h, _, _, _ => absurd h (by omega)
  | 0, n, fu + 1, T, σ, w, h1, _, _, g, h => by
    rw [L_law_30]
    exact Hd.t (show (56 : Int32) ≤ nI n from nI_le (a := 56) (by omega) (by omega)) (Hd.i rfl)
  | r + 1, n, fu + 1, T, σ, w, h1, hf, hT, g, h => by
    obtain ⟨x, hx⟩ := cell_e hL xs (2 * n) (by omega)
    obtain ⟨y, hy⟩ := cell_e hL xs (2 * n + 1) (by omega)
    obtain ⟨n1, -⟩ := svPush_n (w_v w) (w_a w) h.1.2.2.1
    have h6 := h.1.2.2.1
    have e2 : (2 : Int32) * nI n = nI (2 * n) := pk_mul 2 n
    have ih : ∀ σ' w', Gd σ' w' → Iv (T + 2) w' → Hd (fun o => o.2 = 1) (L_law_30 Ls xs (fun (σ : Mem) (v2 : Int32) => some (σ, v2)) fu σ' 1 (nI n + 1)) := fun σ' w' g' h' => by
      rw [nI_1]
      exact lw_30 hL xs r (n + 1) fu (T + 2) σ' w' (by omega) (by omega) (by omega) g' h'
    rw [L_law_30]
    refine Hd.f (show ¬ (56 : Int32) ≤ nI n from nI_ge (b := 56) (by omega) (by omega)) (Hd.f one_ne ?_)
    refine Hd.b (x := (σ, x)) (by rw [e2]; exact hx σ) ?_
    refine Hd.b (x := (σ, y)) (by rw [e2, nI_1]; exact hy σ) ?_
    refine yc_lo g h.ok (fun σ1 g1 => ?_)
    refine yc_c9 g1 h.ok (fun σ2 g2 => ?_)
    refine Hd.x (ac_e (x := x) (y := y) g2 h (by omega)) (fun o ho => ?_)
    obtain ⟨σ3, v⟩ := o
    obtain ⟨hv1, w', g3, ha, hv, hs, h'⟩ := ho
    have hv1 : v = 1 := hv1
    subst hv1
    have g3 : Gd σ3 w' := g3
    refine Hd.f one_ne ?_
    refine yc_c9 g3 h'.ok (fun σ4 g4 => ?_)
    have fin := lw_115 (Ls := Ls) (xs := xs) (v3 := nI n) (fun (σ : Mem) (v2 : Int32) => some (σ, v2)) (L_law_30 Ls xs (fun (σ : Mem) (v2 : Int32) => some (σ, v2)) fu) h (by omega) g4 h' ha hv hs ih
    refine Hd.s (fun c => ?_) (fun c => ?_)
    · have c : nI 6 ≤ nI (w_v w).1 := c
      have c2 : ¬ (w_v w).1 < 6 := fun hh => nI_ge hh (by omega) c
      have hc : (w_v w').1 = 6 := by rw [hv, n1, if_neg c2]
      unfold L_law_107
      exact Hd.t (show nI (w_v w').1 = nI 6 by rw [hc]) fin
    · have c : ¬ nI 6 ≤ nI (w_v w).1 := c
      have c2 : (w_v w).1 < 6 := by
        rcases Nat.lt_or_ge (w_v w).1 6 with hh | hh
        · exact hh
        · exact absurd (nI_le hh (by omega)) c
      have hc : (w_v w').1 = (w_v w).1 + 1 := by rw [hv, n1, if_pos c2]
      unfold L_law_107
      exact Hd.t (show nI (w_v w').1 = nI (w_v w).1 + 1 by rw [hc, nI_1]) fin
theorem lw_all_go {Ls : Nat} (hL : Ls ≤ 260) (xs : Nat → Int32) {σ : Mem} {w : Wd} (g : Gd σ w) (ok : AsOk 0 (w_a w)) (hN : as_N (w_a w) = 0) (hi : Iv 0 (wKeep w)) : Hd (fun o => o.2 = 1) (L_law Ls xs σ) := by
  unfold L_law
  refine yc_keep g ok (fun σ1 g1 => ?_)
  refine Hd.t (show nI (as_N (w_a w)) = 0 by rw [hN]; rfl) ?_
  refine yc_ir g1 hi.ok (fun σ2 g2 => ?_)
  refine Hd.f one_ne ?_
  exact lw_30 hL xs 56 0 FU 0 σ2 (wKeep w) (by omega) (by unfold FU; omega) (by omega) g2 hi
