/-! isRead: the items are all strokes; each is the longest row that could stand there -/
theorem cnt_ps {p : Nat → Bool} : ∀ {n e : Nat}, e < n → p e = true → 0 < cnt p n
  | 0, e, h, _ => absurd h (by omega)
  | n + 1, e, h, hp => by
    by_cases c : e = n
    · subst c; rw [cnt_t hp]; omega
    · have := cnt_ps (p := p) (n := n) (e := e) (by omega) hp
      rw [cnt]; omega
theorem cnt_zr {p : Nat → Bool} : ∀ {n : Nat}, (∀ e, e < n → p e = false) → cnt p n = 0
  | 0, _ => rfl
  | n + 1, h => by rw [cnt_f (h n (by omega))]; exact cnt_zr (fun e he => h e (by omega))
def rwB (a : As) (i : Nat) : Bool := decide (oN (as_st a i) = (-1 : Int32))
theorem gr_pt {a : As} {T : Nat} (ok : AsOk T a) : ∀ i, i ≤ as_t a → Pt (as_E a) (as_g a) (as_N a) (as_p a) i 0 (as_pos a i)
  | 0, _ => rfl
  | i + 1, h => by
    refine ⟨as_pos a i, gr_pt ok i (by omega), ?_⟩
    have hp := as_pos_lt (a := a) (i := i) (by omega)
    have hs := szf_stf ok.2.2.1 ok.2.1 hp ok.2.2.2.2.1.1
    show St _ _ _ _ _ (as_pos a i + szf (as_E a) (as_g a) (as_N a) (as_p a) (as_pos a i))
    cases hst : stf (as_E a) (as_g a) (as_N a) (as_p a) (as_pos a i) with
    | none =>
      rw [hst] at hs
      exact Or.inl (by rw [hs])
    | some e =>
      rw [hst] at hs
      exact Or.inr ⟨e, (stf_some ok.2.2.1 ok.2.1 hp ok.2.2.2.2.1.1 hst).1, by rw [hs]⟩
theorem pos_t (a : As) : as_pos a (as_t a) = as_N a := (itn_ok (as_E a) (as_g a) (as_N a) (as_p a)).1
theorem least_le {a : As} {T x : Nat} (ok : AsOk T a) (h : LeastIs a x) : x ≤ as_t a := by
  have h1 := gr_pt ok (as_t a) (Nat.le_refl _)
  rw [pos_t] at h1
  exact h.2 _ h1
theorem lg1_pos {a : As} (h : as_g a = 1) : ∀ i, as_pos a i = i
  | 0 => rfl
  | i + 1 => by
    have h1 := lg1_pos h i
    have h2 := lgst_le (as_E a) (as_p a) (as_pos a i) (min (as_g a) (as_N a - as_pos a i))
    have h3 : as_sz a i = 1 := by
      show max 1 (lgst (as_E a) (as_p a) (as_pos a i) (min (as_g a) (as_N a - as_pos a i))) = 1
      omega
    show as_pos a i + as_sz a i = i + 1
    omega
theorem lg1_t {a : As} (h : as_g a = 1) : as_t a = as_N a := by
  have h1 := lg1_pos h (as_t a)
  have h2 := pos_t a
  omega
theorem lg1_pt {E : En} (ok : EnOk E) {N : Nat} {q : Nat → Nat} : ∀ {c j : Nat}, Pt E 1 N q c 0 j → j = c
  | 0, j, h => by
    have h : 0 = j := h
    omega
  | c + 1, j, ⟨k, h1, h2⟩ => by
    have h3 := lg1_pt ok h1
    rcases h2 with h2 | ⟨e, h4, h5⟩
    · omega
    · have h6 := (ok.2 e h4.1).1
      have h7 := h4.2.1
      omega
theorem lg1_least {a : As} {T x : Nat} (ok : AsOk T a) (hg : as_g a = 1) (h : LeastIs a x) : x = as_N a := by
  have h1 := h.1
  rw [hg] at h1
  exact (lg1_pt ok.2.2.1 h1).symm
theorem least_0 {a : As} {T x : Nat} (ok : AsOk T a) (h : LeastIs a x) : x = 0 ↔ as_N a = 0 := by
  constructor
  · intro hx
    subst hx
    have h1 : 0 = as_N a := h.1
    exact h1.symm
  · intro hN
    have h1 := h.2 0 (by rw [hN]; rfl)
    omega
theorem ir_238 {Q : Mem × Int32 → Prop} {w : Wd} {T pl sz : Nat} {raw : Bool} (ok : AsOk T (w_a w)) (hpl : pl ≤ as_N (w_a w)) (hsz : sz ≤ 4) (hno : ∀ f, f < en_m (as_E (w_a w)) → en_l (as_E (w_a w)) f ≤ as_g (w_a w) → (raw = false → sz < en_l (as_E (w_a w)) f) → onB (w_a w) f pl = false) (K : Mem → Int32 → Int32 → Int32 → Int32 → Int32 → Int32 → Int32 → Option (Mem × Int32)) {v2 v3 v5 : Int32} (hK : ∀ σ', Gd σ' w → Hd Q (K σ' (nI pl) v2 v3 1 v5 (nI sz) (bI raw))) : ∀ (r f fu : Nat) (σ : Mem), f + r = en_m (as_E (w_a w)) → r < fu → Gd σ w → Hd Q (L_isRead_238 K fu σ (nI pl) v2 v3 1 v5 (nI sz) (bI raw) (nI f))
  | r, f, 0, _, _, h, _ => absurd h (by omega)
  | 0, f, fu + 1, σ, h1, _, g => by
    have hm := ok.2.2.1.1
    rw [L_isRead_238]
    refine yc_c4 g ok (fun σ1 g1 => ?_)
    exact Hd.t (nI_le (by omega) (by omega)) (hK σ1 g1)
  | r + 1, f, fu + 1, σ, h1, hf, g => by
    have hm := ok.2.2.1.1
    have hfm : f < en_m (as_E (w_a w)) := by omega
    have hE := (ok.2.2.1.2 f hfm).1
    have hg := ok.2.2.2.2.1
    have ih : ∀ σ', Gd σ' w → Hd Q (L_isRead_238 K fu σ' (nI pl) v2 v3 1 v5 (nI sz) (bI raw) (nI f + 1)) := fun σ' g' => by
      rw [nI_1]
      exact ir_238 ok hpl hsz hno K hK r (f + 1) fu σ' (by omega) (by omega) g'
    rw [L_isRead_238]
    refine yc_c4 g ok (fun σ1 g1 => ?_)
    refine Hd.f (nI_ge (by omega) (by omega)) (Hd.f one_ne ?_)
    refine yc_en g1 ok rfl hfm (what := 1) rfl (by omega) (v := nI (en_l (as_E (w_a w)) f)) rfl (fun σ2 g2 => ?_)
    refine yc_s1 g2 (fun σ3 g3 => ?_)
    refine Hd.s (fun c => ih σ3 g3) (fun c => ?_)
    have c : ¬ nI (as_g (w_a w)) < nI (en_l (as_E (w_a w)) f) := c
    have hlg : en_l (as_E (w_a w)) f ≤ as_g (w_a w) := by
      rcases Nat.lt_or_ge (as_g (w_a w)) (en_l (as_E (w_a w)) f) with h | h
      · exact absurd (nI_lt h (by omega)) c
      · exact h
    refine yc_en g3 ok rfl hfm (what := 1) rfl (by omega) (v := nI (en_l (as_E (w_a w)) f)) rfl (fun σ4 g4 => ?_)
    cases raw with
    | false =>
      refine Hd.t rfl ?_
      refine Hd.s (fun c2 => ih σ4 g4) (fun c2 => ?_)
      have c2 : ¬ nI (en_l (as_E (w_a w)) f) ≤ nI sz := c2
      have hlt : sz < en_l (as_E (w_a w)) f := by
        rcases Nat.lt_or_ge sz (en_l (as_E (w_a w)) f) with h | h
        · exact h
        · exact absurd (nI_le h (by omega)) c2
      refine yc_on g4 ok rfl hfm rfl hpl (fun σ5 g5 => ?_)
      exact Hd.t (show bI (onB (w_a w) f pl) = 0 by rw [hno f hfm hlg (fun _ => hlt)]; rfl) (ih σ5 g5)
    | true =>
      refine Hd.f (by decide) ?_
      refine Hd.f (nI_nle (by omega) (by omega)) ?_
      refine yc_on g4 ok rfl hfm rfl hpl (fun σ5 g5 => ?_)
      exact Hd.t (show bI (onB (w_a w) f pl) = 0 by rw [hno f hfm hlg (fun h => by cases h)]; rfl) (ih σ5 g5)
theorem ir_39 {Q : Mem × Int32 → Prop} {w : Wd} {T : Nat} (ok : AsOk T (w_a w)) (K : Mem → Int32 → Int32 → Int32 → Int32 → Option (Mem × Int32)) (hK : ∀ σ', Gd σ' w → Hd Q (K σ' (nI (as_N (w_a w))) (nI (stN (w_a w) (-1))) (nI (as_t (w_a w))) 1)) : ∀ (r i fu : Nat) (σ : Mem), i + r = as_t (w_a w) → r < fu → Gd σ w → Hd Q (L_isRead_39 K fu σ (nI (as_pos (w_a w) i)) (nI (cnt (rwB (w_a w)) i)) (nI (as_t (w_a w))) 1 (nI i))
  | r, i, 0, _, _, h, _ => absurd h (by omega)
  | 0, i, fu + 1, σ, h1, _, g => by
    have ht := as_t_le ok
    have e : i = as_t (w_a w) := by omega
    rw [e, L_isRead_39]
    refine Hd.t (nI_le (Nat.le_refl _) (by omega)) ?_
    rw [pos_t]
    exact hK σ g
  | r + 1, i, fu + 1, σ, h1, hf, g => by
    have ht := as_t_le ok
    have hi : i < as_t (w_a w) := by omega
    have hp := as_pos_lt hi
    have hN := ok.1
    have hlg := ok.2.2.2.2.1
    have hm := ok.2.2.1.1
    have hsb := as_sz_b ok hi
    have hs1 : 1 ≤ as_sz (w_a w) i := szf_1 _ _ _ _ _
    have hcl : cnt (fun t => decide (en_k (as_E (w_a w)) t = it_k (w_a w) i)) (en_m (as_E (w_a w))) ≤ 24 := Nat.le_trans (cnt_le _ _) hm
    rw [L_isRead_39]
    refine Hd.f (nI_ge (by omega) (by omega)) (Hd.f one_ne ?_)
    refine yc_it g ok rfl hi (what := 2) rfl (by omega) (v := nI (as_sz (w_a w) i)) rfl (fun σ1 g1 => ?_)
    refine yc_it g1 ok rfl hi (what := 3) rfl (by omega) (v := oN (as_st (w_a w) i)) rfl (fun σ2 g2 => ?_)
    have hso : as_st (w_a w) i = none ∨ ∃ e, as_st (w_a w) i = some e := by
      cases as_st (w_a w) i with
      | none => exact Or.inl rfl
      | some e => exact Or.inr ⟨e, rfl⟩
    rcases hso with hs | ⟨e, hs⟩
    · obtain ⟨hz, hno⟩ := stf_none ok.2.2.1 ok.2.1 hp hlg.1 hs
      have hz : as_sz (w_a w) i = 1 := hz
      have hc0 : cnt (fun t => decide (en_k (as_E (w_a w)) t = it_k (w_a w) i)) (en_m (as_E (w_a w))) = 0 := cnt_zr (fun t ht => decide_eq_false (ldr_none.mp hs t ht))
      have hb : rwB (w_a w) i = true := decide_eq_true (by rw [hs]; rfl)
      refine Hd.t (show oN (as_st (w_a w) i) = (-1 : Int32) by rw [hs]; rfl) ?_
      unfold L_isRead_79
      refine yc_it g2 ok rfl hi (what := 1) rfl (by omega) (v := nI (as_pos (w_a w) i)) rfl (fun σ3 g3 => ?_)
      refine Hd.t rfl ?_
      refine Hd.f (show ¬ nI (as_sz (w_a w) i) < nI 1 from nI_nlt hs1 (by omega)) ?_
      refine yc_s1 g3 (fun σ4 g4 => ?_)
      refine Hd.f (show ¬ nI (as_g (w_a w)) < nI (as_sz (w_a w) i) from nI_nlt (by omega) (by omega)) ?_
      refine yc_it g4 ok rfl hi (what := 0) rfl (by omega) (v := oN ((as_st (w_a w) i).map (en_w (as_E (w_a w))))) rfl (fun σ5 g5 => ?_)
      refine Hd.t (show oN ((as_st (w_a w) i).map (en_w (as_E (w_a w)))) = (-1 : Int32) by rw [hs]; rfl) ?_
      unfold L_isRead_124
      refine Hd.t rfl ?_
      refine yc_it g5 ok rfl hi (what := 4) rfl (by omega) (v := nI (cnt (fun t => decide (en_k (as_E (w_a w)) t = it_k (w_a w) i)) (en_m (as_E (w_a w))))) rfl (fun σ6 g6 => ?_)
      refine Hd.t (show nI (cnt (fun t => decide (en_k (as_E (w_a w)) t = it_k (w_a w) i)) (en_m (as_E (w_a w)))) = 0 by rw [hc0]; rfl) ?_
      unfold L_isRead_144
      refine Hd.t rfl (Hd.f one_ne ?_)
      refine Hd.t (show nI (as_sz (w_a w) i) = (1 : Int32) by rw [hz]; rfl) ?_
      unfold L_isRead_160 L_isRead_165
      refine Hd.f one_ne (Hd.f one_ne ?_)
      refine ir_238 (raw := true) ok (Nat.le_of_lt hp) hsb.1 (fun f hf hl _ => decide_eq_false (fun h => hno f ⟨hf, hl, h.1, h.2⟩)) _ (fun σ' g' => ?_) (en_m (as_E (w_a w))) 0 FU σ6 (by omega) (by unfold FU; omega) g6
      refine Hd.f (by decide) ?_
      show Hd Q (L_isRead_39 K fu σ' (nI (as_pos (w_a w) i) + nI (as_sz (w_a w) i)) (nI (cnt (rwB (w_a w)) i) + 1) (nI (as_t (w_a w))) 1 (nI i + 1))
      rw [nI_add, nI_1, nI_1, ← cnt_t hb]
      exact ir_39 ok K hK r (i + 1) fu σ' (by omega) (by omega) g'
    · obtain ⟨⟨h2, h3, h4, h5⟩, h6, h7⟩ := stf_some ok.2.2.1 ok.2.1 hp hlg.1 hs
      have hz : as_sz (w_a w) i = en_l (as_E (w_a w)) e := h6.symm
      have hk : en_k (as_E (w_a w)) e = it_k (w_a w) i := (ldr_some hs).2.1
      have hE := ok.2.2.1.2 e h2
      have hcp := cnt_ps (p := fun t => decide (en_k (as_E (w_a w)) t = it_k (w_a w) i)) h2 (decide_eq_true hk)
      have hb : rwB (w_a w) i = false := decide_eq_false (by rw [hs]; exact nI_nem1 (by omega))
      have hx : oN (as_st (w_a w) i) = nI e := by rw [hs]; rfl
      have hw : oN ((as_st (w_a w) i).map (en_w (as_E (w_a w)))) = nI (en_w (as_E (w_a w)) e) := by rw [hs]; rfl
      have hon : onB (w_a w) e (as_pos (w_a w) i) = true := decide_eq_true ⟨h4, h5⟩
      have hle := (lead_ldr h2).mpr h7
      refine Hd.f (show ¬ oN (as_st (w_a w) i) = (-1 : Int32) by rw [hx]; exact nI_nem1 (by omega)) ?_
      unfold L_isRead_79
      refine yc_it g2 ok rfl hi (what := 1) rfl (by omega) (v := nI (as_pos (w_a w) i)) rfl (fun σ3 g3 => ?_)
      refine Hd.t rfl ?_
      refine Hd.f (show ¬ nI (as_sz (w_a w) i) < nI 1 from nI_nlt hs1 (by omega)) ?_
      refine yc_s1 g3 (fun σ4 g4 => ?_)
      refine Hd.f (show ¬ nI (as_g (w_a w)) < nI (as_sz (w_a w) i) from nI_nlt (by omega) (by omega)) ?_
      refine yc_it g4 ok rfl hi (what := 0) rfl (by omega) (v := oN ((as_st (w_a w) i).map (en_w (as_E (w_a w))))) rfl (fun σ5 g5 => ?_)
      refine Hd.f (show ¬ oN ((as_st (w_a w) i).map (en_w (as_E (w_a w)))) = (-1 : Int32) by rw [hw]; exact nI_nem1 (by omega)) ?_
      unfold L_isRead_124
      refine Hd.t rfl ?_
      refine yc_it g5 ok rfl hi (what := 4) rfl (by omega) (v := nI (cnt (fun t => decide (en_k (as_E (w_a w)) t = it_k (w_a w) i)) (en_m (as_E (w_a w))))) rfl (fun σ6 g6 => ?_)
      refine Hd.f (nI_ne0 hcp (by omega)) ?_
      unfold L_isRead_144
      refine Hd.t rfl (Hd.t rfl ?_)
      unfold L_isRead_160 L_isRead_165
      refine Hd.f one_ne (Hd.t rfl ?_)
      refine yc_en g6 ok hx h2 (what := 0) rfl (by omega) (v := nI (en_w (as_E (w_a w)) e)) rfl (fun σ7 g7 => ?_)
      refine yc_it g7 ok rfl hi (what := 0) rfl (by omega) (v := oN ((as_st (w_a w) i).map (en_w (as_E (w_a w))))) rfl (fun σ8 g8 => ?_)
      refine Hd.t hw.symm ?_
      refine yc_en g8 ok hx h2 (what := 1) rfl (by omega) (v := nI (en_l (as_E (w_a w)) e)) rfl (fun σ9 g9 => ?_)
      refine Hd.t (show nI (en_l (as_E (w_a w)) e) = nI (as_sz (w_a w) i) by rw [hz]) ?_
      refine yc_en g9 ok hx h2 (what := 7) rfl (by omega) (v := bI (decide (ldr (as_E (w_a w)) (en_k (as_E (w_a w)) e) (en_m (as_E (w_a w))) = some e))) rfl (fun σa ga => ?_)
      refine Hd.t (show bI (decide (ldr (as_E (w_a w)) (en_k (as_E (w_a w)) e) (en_m (as_E (w_a w))) = some e)) = 1 by rw [decide_eq_true hle]; rfl) ?_
      refine yc_on ga ok hx h2 rfl (Nat.le_of_lt hp) (fun σb gb => ?_)
      refine Hd.f (show ¬ bI (onB (w_a w) e (as_pos (w_a w) i)) = 0 by rw [hon]; decide) ?_
      refine ir_238 (raw := false) ok (Nat.le_of_lt hp) hsb.1 (fun f hf hl hlt => decide_eq_false (fun h => ?_)) _ (fun σ' g' => ?_) (en_m (as_E (w_a w))) 0 FU σb (by omega) (by unfold FU; omega) gb
      · have h8 : en_l (as_E (w_a w)) f ≤ as_sz (w_a w) i := at_szf ok.2.2.1 ok.2.1 ⟨hf, hl, h.1, h.2⟩
        have := hlt rfl
        omega
      · refine Hd.t rfl ?_
        show Hd Q (L_isRead_39 K fu σ' (nI (as_pos (w_a w) i) + nI (as_sz (w_a w) i)) (nI (cnt (rwB (w_a w)) i) + nI 0) (nI (as_t (w_a w))) 1 (nI i + 1))
        rw [nI_add, nI_add, nI_1, Nat.add_zero, ← cnt_f hb]
        exact ir_39 ok K hK r (i + 1) fu σ' (by omega) (by omega) g'
theorem ir_381 {σ : Mem} {w : Wd} {T : Nat} (g : Gd σ w) (ok : AsOk T (w_a w)) : Hd (fun o => Gd o.1 w ∧ o.2 = 1) (L_isRead_381 σ (nI (as_N (w_a w))) (nI (as_t (w_a w)))) := by
  have ht := as_t_le ok
  have hN := ok.1
  unfold L_isRead_381
  refine yc_le g ok (fun σ1 x h1 h2 g1 => ?_)
  have h3 := least_le ok h1
  refine Hd.f (nI_nlt h3 (by omega)) ?_
  refine yc_le g1 ok (fun σ2 y h4 h5 g2 => ?_)
  have h6 := least_0 ok h4
  by_cases c : y = 0
  · refine Hd.t (show nI y = 0 by rw [c]; rfl) ?_
    refine Hd.t (show nI (as_N (w_a w)) = 0 by rw [h6.mp c]; rfl) ?_
    exact Hd.t rfl (Hd.i ⟨g2, rfl⟩)
  · have c2 : as_N (w_a w) ≠ 0 := fun h => c (h6.mpr h)
    refine Hd.f (nI_ne0 (by omega) (by omega)) ?_
    refine Hd.f (nI_ne0 (by omega) (by omega)) ?_
    exact Hd.t rfl (Hd.i ⟨g2, rfl⟩)
theorem ir_e {σ : Mem} {w : Wd} {T : Nat} (g : Gd σ w) (ok : AsOk T (w_a w)) : Hd (fun o => Gd o.1 w ∧ o.2 = 1) (L_isRead σ) := by
  have ht := as_t_le ok
  have hN := ok.1
  have hlg := ok.2.2.2.2.1
  unfold L_isRead
  refine yc_c2 g ok (fun σ1 g1 => ?_)
  refine yc_c1 g1 ok (fun σ2 g2 => ?_)
  refine Hd.t rfl ?_
  refine yc_c0 g2 ok (fun σ3 g3 => ?_)
  refine Hd.f (show ¬ (60 : Int32) < nI (as_N (w_a w)) from nI_nlt (a := 60) (by omega) (by omega)) ?_
  refine ir_39 ok _ (fun σ' g' => ?_) (as_t (w_a w)) 0 FU σ3 (by omega) (by unfold FU; omega) g3
  unfold L_isRead_336
  refine Hd.f one_ne ?_
  refine yc_c0 g' ok (fun σ4 g4 => ?_)
  refine Hd.t rfl ?_
  refine yc_c3 g4 ok (fun σ5 g5 => ?_)
  refine Hd.t rfl ?_
  refine yc_s1 g5 (fun σ6 g6 => ?_)
  refine Hd.s (fun c => ir_381 g6 ok) (fun c => ?_)
  have c : ¬ nI 1 < nI (as_g (w_a w)) := c
  have hg1 : as_g (w_a w) = 1 := by
    rcases Nat.lt_or_ge 1 (as_g (w_a w)) with h | h
    · exact absurd (nI_lt h (by omega)) c
    · omega
  refine Hd.t (show nI (as_t (w_a w)) = nI (as_N (w_a w)) by rw [lg1_t hg1]) ?_
  refine yc_le g6 ok (fun σ7 x h1 h2 g7 => ?_)
  refine Hd.t (show nI x = nI (as_N (w_a w)) by rw [lg1_least ok hg1 h1]) ?_
  exact ir_381 g7 ok
theorem yc_ir {β : Type} {Q : β → Prop} {f : Mem × Int32 → Option β} {σ : Mem} {w : Wd} {T : Nat} (g : Gd σ w) (ok : AsOk T (w_a w)) (k : ∀ σ', Gd σ' w → Hd Q (f (σ', 1))) : Hd Q ((L_isRead σ).bind f) := by
  refine Hd.x (ir_e g ok) (fun o ho => ?_)
  obtain ⟨σ', v⟩ := o
  obtain ⟨h1, h2⟩ := ho
  have h2 : v = 1 := h2
  subst h2
  exact k σ' h1
