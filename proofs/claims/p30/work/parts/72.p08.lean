/-! areBegun -/
theorem beAns_le (a : As) (s : Nat) : beAns a s ≤ en_m (as_E a) := by
  unfold beAns
  split
  · exact cnt_le _ _
  · exact Nat.zero_le _
theorem bhV_le (E : En) (lg f s : Nat) : bhV E lg f s ≤ 2 := by
  unfold bhV
  split
  · omega
  · split
    · split <;> omega
    · omega
theorem clS_ps {E : En} {lg f s : Nat} (hs : s < en_m E) (hb : bhV E lg f s ≠ 0) : ∀ {n : Nat}, f < n → 0 < clS E lg n
  | 0, h => absurd h (by omega)
  | n + 1, h => by
    rw [clS]
    by_cases c : f = n
    · subst c
      have := cnt_ps (p := clB E lg f) hs (decide_eq_true hb)
      omega
    · have := clS_ps (n := n) hs hb (by omega)
      omega
theorem ab_5 {Q : Mem × Int32 → Prop} {w : Wd} {T : Nat} (ok : AsOk T (w_a w)) (K : Mem → Int32 → Int32 → Int32 → Option (Mem × Int32)) {v1 v2 : Int32} (hK : ∀ σ', Gd σ' w → Hd Q (K σ' v1 v2 1)) : ∀ (r n fu : Nat) (σ : Mem), n + r = 4 → 1 ≤ n → r < fu → Gd σ w → Hd Q (L_areBegun_5 K fu σ v1 v2 1 (nI n))
  | r, n, 0, _, _, _, h, _ => absurd h (by omega)
  | 0, n, fu + 1, σ, h1, _, _, g => by
    rw [L_areBegun_5]
    exact Hd.t (show (4 : Int32) ≤ nI n from nI_le (a := 4) (by omega) (by omega)) (hK σ g)
  | r + 1, n, fu + 1, σ, h1, hn, hf, g => by
    have hm := ok.2.2.1.1
    have hN := ok.1
    have hb := beAns_le (w_a w) n
    have ih : ∀ σ', Gd σ' w → Hd Q (L_areBegun_5 K fu σ' v1 v2 1 (nI n + 1)) := fun σ' g' => by
      rw [nI_1]
      exact ab_5 ok K hK r (n + 1) fu σ' (by omega) (by omega) (by omega) g'
    rw [L_areBegun_5]
    refine Hd.f (show ¬ (4 : Int32) ≤ nI n from nI_ge (b := 4) (by omega) (by omega)) (Hd.f one_ne ?_)
    refine yc_be g ok rfl (by omega) (fun σ1 g1 => ?_)
    refine Hd.f (nI_pos (by omega)) ?_
    refine yc_be g1 ok rfl (by omega) (fun σ2 g2 => ?_)
    refine yc_c4 g2 ok (fun σ3 g3 => ?_)
    refine Hd.f (nI_nlt hb (by omega)) ?_
    refine yc_c0 g3 ok (fun σ4 g4 => ?_)
    refine Hd.s (fun _ => ih σ4 g4) (fun c => ?_)
    have c : ¬ nI n ≤ nI (as_N (w_a w)) := c
    have hlt : ¬ n ≤ as_N (w_a w) := fun h => c (nI_le h (by omega))
    refine yc_be g4 ok rfl (by omega) (fun σ5 g5 => ?_)
    exact Hd.t (show nI (beAns (w_a w) n) = 0 by unfold beAns; rw [if_neg hlt]; rfl) (ih σ5 g5)
theorem ab_e {σ : Mem} {w : Wd} {T a b : Nat} (g : Gd σ w) (ok : AsOk T (w_a w)) (ha : a < 24) (hb : b < 24) : Hd (fun o => Gd o.1 w ∧ o.2 = 1) (L_areBegun σ (nI a) (nI b)) := by
  have hm := ok.2.2.1.1
  unfold L_areBegun
  refine ab_5 ok _ (fun σ1 g1 => ?_) 3 1 FU σ (by omega) (by omega) (by unfold FU; omega) g
  refine yc_c4 g1 ok (fun σ2 g2 => ?_)
  refine Hd.s (fun c => ?_) (fun c => ?_)
  · have c : nI (en_m (as_E (w_a w))) = nI 0 := c
    have c := (nI_eq (by omega) (by omega)).mp c
    refine Hd.f one_ne ?_
    refine yc_cl g2 ok (fun σ3 g3 => ?_)
    refine Hd.t (show nI (clAns (w_a w)) = 0 by unfold clAns; rw [c]; rfl) (Hd.i ⟨g3, rfl⟩)
  · have c : ¬ nI (en_m (as_E (w_a w))) = nI 0 := c
    have hm0 : 0 < en_m (as_E (w_a w)) := by
      rcases Nat.eq_zero_or_pos (en_m (as_E (w_a w))) with h | h
      · exact absurd (congrArg nI h) c
      · exact h
    have ha2 := Nat.mod_lt a hm0
    have hb2 := Nat.mod_lt b hm0
    have hbv := bhV_le (as_E (w_a w)) (as_g (w_a w)) (a % en_m (as_E (w_a w))) (b % en_m (as_E (w_a w)))
    have hcl : clAns (w_a w) ≤ en_m (as_E (w_a w)) * en_m (as_E (w_a w)) := clS_le _ _ _
    have hmm : en_m (as_E (w_a w)) * en_m (as_E (w_a w)) ≤ 24 * 24 := Nat.mul_le_mul hm hm
    refine yc_c4 g2 ok (fun σ3 g3 => ?_)
    refine Hd.t c ?_
    refine yc_c4 g3 ok (fun σ4 g4 => ?_)
    refine Hd.t c ?_
    refine yc_bh g4 ok (pk_rem (by omega) hm0 (by omega)) ha2 (pk_rem (by omega) hm0 (by omega)) hb2 (fun σ5 g5 => ?_)
    refine yc_cl g5 ok (fun σ6 g6 => ?_)
    refine Hd.f one_ne ?_
    refine Hd.f (nI_pos (by omega)) ?_
    refine Hd.f (show ¬ (2 : Int32) < nI _ from nI_nlt (a := 2) hbv (by omega)) ?_
    refine Hd.s (fun _ => ?_) (fun c2 => ?_)
    · refine Hd.f (nI_pos (by omega)) ?_
      refine yc_c4 g6 ok (fun σ7 g7 => ?_)
      refine yc_c4 g7 ok (fun σ8 g8 => ?_)
      refine Hd.f (show ¬ nI (en_m (as_E (w_a w))) * nI (en_m (as_E (w_a w))) < nI (clAns (w_a w)) by rw [pk_mul]; exact nI_nlt hcl (by omega)) (Hd.i ⟨g8, rfl⟩)
    · have c2 : ¬ nI (bhV (as_E (w_a w)) (as_g (w_a w)) (a % en_m (as_E (w_a w))) (b % en_m (as_E (w_a w)))) ≤ nI 0 := c2
      have hne : bhV (as_E (w_a w)) (as_g (w_a w)) (a % en_m (as_E (w_a w))) (b % en_m (as_E (w_a w))) ≠ 0 := fun h => c2 (by rw [h]; exact nI_le (by omega) (by omega))
      have hc1 : 0 < clAns (w_a w) := clS_ps hb2 hne ha2
      refine Hd.f (show ¬ nI (clAns (w_a w)) < nI 1 from nI_nlt hc1 (by omega)) ?_
      refine yc_c4 g6 ok (fun σ7 g7 => ?_)
      refine yc_c4 g7 ok (fun σ8 g8 => ?_)
      refine Hd.f (show ¬ nI (en_m (as_E (w_a w))) * nI (en_m (as_E (w_a w))) < nI (clAns (w_a w)) by rw [pk_mul]; exact nI_nlt hcl (by omega)) (Hd.i ⟨g8, rfl⟩)
theorem yc_ab {β : Type} {Q : β → Prop} {f : Mem × Int32 → Option β} {σ : Mem} {w : Wd} {T a b : Nat} {x y : Int32} (g : Gd σ w) (ok : AsOk T (w_a w)) (hx : x = nI a) (ha : a < 24) (hy : y = nI b) (hb : b < 24) (k : ∀ σ', Gd σ' w → Hd Q (f (σ', 1))) : Hd Q ((L_areBegun σ x y).bind f) := by
  subst hx; subst hy
  refine Hd.x (ab_e g ok ha hb) (fun o ho => ?_)
  obtain ⟨σ', v⟩ := o
  obtain ⟨h1, h2⟩ := ho
  have h2 : v = 1 := h2
  subst h2
  exact k σ' h1
/-! strikes -/
theorem lgst_cut {E : En} {q : Nat → Nat} {pl L' : Nat} : ∀ {L : Nat}, L' ≤ L → lgst E q pl L ≤ L' → lgst E q pl L' = lgst E q pl L
  | 0, h, _ => by have : L' = 0 := by omega
                  rw [this]
  | L + 1, h, h2 => by
    by_cases c : L' = L + 1
    · rw [c]
    · rw [lgst] at h2 ⊢
      cases hl : ldr E (pac (fun t => q (pl + t)) (L + 1)) (en_m E) with
      | none =>
        rw [hl] at h2
        exact lgst_cut (L := L) (by omega) h2
      | some e =>
        rw [hl] at h2
        have h2 : L + 1 ≤ L' := h2
        omega
theorem szf_cut {E : En} {lg N M pl : Nat} {q : Nat → Nat} (hM : M ≤ N) (h : pl + szf E lg N q pl ≤ M) : szf E lg M q pl = szf E lg N q pl := by
  have h1 : lgst E q pl (min lg (N - pl)) ≤ szf E lg N q pl := Nat.le_max_right _ _
  have h2 := lgst_le E q pl (min lg (N - pl))
  have h3 := lgst_cut (E := E) (q := q) (pl := pl) (L := min lg (N - pl)) (L' := min lg (M - pl)) (by omega) (by omega)
  unfold szf
  rw [h3]
theorem posf_cut {E : En} {lg N s : Nat} {q : Nat → Nat} (hs : posf E lg N q s ≤ N) : ∀ i, i ≤ s → posf E lg (posf E lg N q s) q i = posf E lg N q i
  | 0, _ => rfl
  | i + 1, h => by
    have h1 := posf_cut hs i (by omega)
    have h2 : posf E lg N q (i + 1) ≤ posf E lg N q s := by
      by_cases c : i + 1 = s
      · rw [c]; exact Nat.le_refl _
      · exact Nat.le_of_lt (posf_lt E lg N q (by omega))
    rw [posf, posf, h1, szf_cut hs h2]
theorem itn_cut {E : En} {lg N s : Nat} {q : Nat → Nat} (hs : posf E lg N q s ≤ N) : itn E lg (posf E lg N q s) q = s := by
  refine (itn_eq ⟨posf_cut hs s (Nat.le_refl _), fun i hi => ?_⟩).symm
  rw [posf_cut hs i (by omega)]
  exact posf_lt E lg N q hi
theorem asEat_t {a : As} (hN : 0 < as_N a) (hs : as_s a = 1) : as_t (asEat a) = as_t a - 1 := by
  obtain ⟨h1, h2, h3⟩ := last_item hN
  have e : as_N a - eatN a = as_pos a (as_t a - 1) := by
    unfold eatN
    rw [if_pos hs]
    omega
  show itn (as_E a) (as_g a) (as_N a - eatN a) (as_p a) = as_t a - 1
  rw [e]
  exact itn_cut (Nat.le_of_lt h2)
theorem sr_72 {σ : Mem} {w : Wd} {T : Nat} (g : Gd σ w) (ok : AsOk T (w_a w)) (hN : 0 < as_N (w_a w)) (hk : as_k (w_a w) + 1 ≤ 30 * T) : Hd (fun o => Gd o.1 (wA (wPush w) (asStk (w_a w) 0)) ∧ o.2 = 1) (L_strikes_72 σ (nI (as_N (w_a w))) (nI (as_t (w_a w))) (nI (as_k (w_a w))) (as_e (w_a w)) (nI (as_p (w_a w) 0)) (nI (eatN (w_a w)))) := by
  have hN60 := ok.1
  have hs1 := ok.2.2.2.1
  have hc : canS (w_a w) 0 = true := by unfold canS; rw [if_pos rfl]; exact decide_eq_true hN
  have he := eatN_le hN
  have ok' := asStk_ok (s := 0) (by omega) ok hc hk
  have ht := as_t_le ok
  have e0 : asStk (w_a w) 0 = asEat (w_a w) := if_pos rfl
  rw [e0] at ok' ⊢
  have ht' := as_t_le ok'
  unfold L_strikes_72
  refine yc_strike g ok (s := 0) rfl (by omega) hc hk (fun σ1 g1 => ?_)
  rw [e0] at g1 ⊢
  have ok1 : AsOk T (w_a (wA (wPush w) (asEat (w_a w)))) := ok'
  refine yc_c2 g1 ok1 (fun σ2 g2 => ?_)
  refine Hd.t rfl ?_
  refine yc_c0 g2 ok1 (fun σ3 g3 => ?_)
  refine Hd.t (pk_sub he.2).symm ?_
  refine yc_c6 g3 ok1 (fun σ4 g4 => ?_)
  refine Hd.t rfl ?_
  refine yc_c5 g4 ok1 (fun σ5 g5 => ?_)
  refine Hd.t rfl ?_
  refine yc_s0 g5 (fun σ6 g6 => ?_)
  have fin : ∀ σ', Gd σ' (wA (wPush w) (asEat (w_a w))) → Hd (fun o => Gd o.1 (wA (wPush w) (asEat (w_a w))) ∧ o.2 = 1) ((xlv (X6_count σ' (0 : Int32))).bind fun q => if q.2 = 0 then some (q.1, (1 : Int32)) else ((xlv (X6_stroke q.1 (0 : Int32))).bind fun r => if r.2 = nI (as_p (w_a w) 0) then some (r.1, (1 : Int32)) else some (r.1, (0 : Int32)))) := fun σ' g' => by
    refine yc_c0 g' ok1 (fun σ7 g7 => ?_)
    refine Hd.s (fun _ => Hd.i ⟨g7, rfl⟩) (fun c => ?_)
    have c : ¬ nI (as_N (asEat (w_a w))) = nI 0 := c
    have hp : 0 < as_N (asEat (w_a w)) := by
      rcases Nat.eq_zero_or_pos (as_N (asEat (w_a w))) with h | h
      · exact absurd (congrArg nI h) c
      · exact h
    refine yc_st g7 ok1 (j := 0) rfl hp (fun σ8 g8 => ?_)
    exact Hd.t rfl (Hd.i ⟨g8, rfl⟩)
  refine Hd.s (fun _ => fin σ6 g6) (fun c => ?_)
  have c : ¬ nI (as_s (w_a w)) = nI 0 := c
  have hs : as_s (w_a w) = 1 := by
    rcases Nat.eq_zero_or_pos (as_s (w_a w)) with h | h
    · exact absurd (congrArg nI h) c
    · omega
  have h4 := asEat_t hN hs
  exact Hd.f (show ¬ nI (as_t (w_a w)) < nI (as_t (asEat (w_a w))) from nI_nlt (by omega) (by omega)) (fin σ6 g6)
theorem sr_e {σ : Mem} {w : Wd} {T s : Nat} (g : Gd σ w) (ok : AsOk T (w_a w)) (hs : s < 1024) (hc : canS (w_a w) s = true) (hk : as_k (w_a w) + 1 ≤ 30 * T) : Hd (fun o => Gd o.1 (wA (wPush w) (asStk (w_a w) s)) ∧ o.2 = 1) (L_strikes σ (nI s)) := by
  have hN60 := ok.1
  have hs1 := ok.2.2.2.1
  have ht := as_t_le ok
  unfold L_strikes
  refine yc_c0 g ok (fun σ1 g1 => ?_)
  refine yc_c2 g1 ok (fun σ2 g2 => ?_)
  refine yc_c5 g2 ok (fun σ3 g3 => ?_)
  refine yc_c6 g3 ok (fun σ4 g4 => ?_)
  by_cases c0 : s = 0
  · subst c0
    have hN : 0 < as_N (w_a w) := by unfold canS at hc; rw [if_pos rfl] at hc; exact of_decide_eq_true hc
    obtain ⟨l1, l2, l3⟩ := last_item hN
    refine Hd.t rfl ?_
    refine Hd.f (nI_ne0 hN (by omega)) ?_
    refine yc_st g4 ok (j := 0) rfl hN (fun σ5 g5 => ?_)
    refine yc_s0 g5 (fun σ6 g6 => ?_)
    refine Hd.s (fun c => ?_) (fun c => ?_)
    · have c : nI (as_s (w_a w)) = nI 0 := c
      have c := (nI_eq (by omega) (by omega)).mp c
      have e : eatN (w_a w) = 1 := by unfold eatN; rw [if_neg (by omega)]
      have h := sr_72 g6 ok hN hk
      rw [e] at h
      exact h
    · have c : ¬ nI (as_s (w_a w)) = nI 0 := c
      have hs2 : as_s (w_a w) = 1 := by
        rcases Nat.eq_zero_or_pos (as_s (w_a w)) with h | h
        · exact absurd (congrArg nI h) c
        · omega
      have e : eatN (w_a w) = as_sz (w_a w) (as_t (w_a w) - 1) := by unfold eatN; rw [if_pos hs2]; omega
      refine yc_it g6 ok (show nI (as_t (w_a w)) - nI 1 = nI (as_t (w_a w) - 1) from pk_sub l1) (by omega) (what := 2) rfl (by omega) (v := nI (as_sz (w_a w) (as_t (w_a w) - 1))) rfl (fun σ7 g7 => ?_)
      have h := sr_72 g7 ok hN hk
      rw [e] at h
      exact h
  · have hN : as_N (w_a w) < 60 := by unfold canS at hc; rw [if_neg c0] at hc; exact of_decide_eq_true hc
    have hs0 : 1 ≤ s ∧ s < 1024 := by omega
    have e0 : asStk (w_a w) s = asPut (w_a w) s := if_neg c0
    have ok' := asStk_ok hs ok hc hk
    rw [e0] at ok' ⊢
    have ht' := as_t_le ok'
    have ok1 : AsOk T (w_a (wA (wPush w) (asPut (w_a w) s))) := ok'
    have hp : 0 < as_t (asPut (w_a w) s) := (last_item (a := asPut (w_a w) s) (show 0 < as_N (w_a w) + 1 by omega)).1
    have hsub : nI (as_t (asPut (w_a w) s)) - nI 1 = nI (as_t (asPut (w_a w) s) - 1) := pk_sub hp
    refine Hd.f (nI_ne0 (by omega) (by omega)) ?_
    refine yc_if g4 ok rfl hs0 (what := 0) rfl (by omega) (fun σ5 g5 => ?_)
    refine yc_if g5 ok rfl hs0 (what := 1) rfl (by omega) (fun σ6 g6 => ?_)
    refine yc_if g6 ok rfl hs0 (what := 2) rfl (by omega) (fun σ7 g7 => ?_)
    refine Hd.f (show ¬ nI (as_N (w_a w)) = nI 60 from fun h => by have := (nI_eq (by omega) (by omega)).mp h; omega) ?_
    refine yc_strike g7 ok rfl hs hc hk (fun σ8 g8 => ?_)
    rw [e0] at g8 ⊢
    refine Hd.t rfl ?_
    refine yc_c2 g8 ok1 (fun σ9 g9 => ?_)
    refine Hd.t rfl ?_
    refine yc_it g9 ok1 (i := as_t (asPut (w_a w) s) - 1) hsub (show as_t (asPut (w_a w) s) - 1 < as_t (asPut (w_a w) s) by omega) (what := 0) rfl (by omega) rfl (fun σa ga => ?_)
    refine Hd.t rfl ?_
    refine yc_it ga ok1 (i := as_t (asPut (w_a w) s) - 1) hsub (show as_t (asPut (w_a w) s) - 1 < as_t (asPut (w_a w) s) by omega) (what := 2) rfl (by omega) rfl (fun σb gb => ?_)
    refine Hd.t rfl ?_
    refine yc_c0 gb ok1 (fun σc gc => ?_)
    refine Hd.t (nI_1 (as_N (w_a w))).symm ?_
    refine yc_st gc ok1 (j := as_N (w_a w)) rfl (show as_N (w_a w) < as_N (w_a w) + 1 by omega) (fun σd gd => ?_)
    refine Hd.t (show nI (updn (as_p (w_a w)) (as_N (w_a w)) s (as_N (w_a w))) = nI s by rw [updn_1]) ?_
    refine yc_c5 gd ok1 (fun σe ge => ?_)
    refine Hd.t (nI_1 (as_k (w_a w))).symm ?_
    refine yc_c6 ge ok1 (fun σf gf => ?_)
    exact Hd.t rfl (Hd.i ⟨gf, rfl⟩)
