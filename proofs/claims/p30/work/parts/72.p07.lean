/-! areEntries: one leads among rivals, no entry stands twice, the items are the entries' and the raw ones -/
theorem shF_tell {a : As} {wd : Nat} : ∀ {n e : Nat}, shF a wd n = some e → tellB a wd e = true
  | 0, e, h => by cases h
  | n + 1, e, h => by
    rw [shF] at h
    cases hs : shF a wd n with
    | none =>
      rw [hs] at h
      have h : (if tellB a wd n = true then some n else none) = some e := h
      by_cases c : tellB a wd n = true
      · rw [if_pos c] at h; cases h; exact c
      · rw [if_neg c] at h; cases h
    | some b =>
      rw [hs] at h
      have h : (if tellB a wd n = true ∧ shrB a n b = true then some n else some b) = some e := h
      by_cases c : tellB a wd n = true ∧ shrB a n b = true
      · rw [if_pos c] at h; cases h; exact c.1
      · rw [if_neg c] at h; cases h; exact shF_tell hs
theorem ksum_ge {r : Nat → Nat} : ∀ {L : Nat}, (∀ t, t < L → 1 ≤ r t ∧ r t < 1024) → L ≤ ksum r L
  | 0, _ => Nat.zero_le _
  | L + 1, h => by
    have h1 := ksum_ge (r := r) (L := L) (fun t ht => h t (by omega))
    have h2 := h L (by omega)
    have h3 := (kys_b (r L) h2.2).1 h2.1
    rw [ksum]
    omega
theorem mk_ok {a : As} {T : Nat} (ok : AsOk T a) (hT : T ≤ 512) : (¬ (Op.cmpValue (FP.fcmp (meAns a) FP.fconst0) CmpOp.l) < 0) ∧ ¬ 0 < (Op.cmpValue (FP.fcmp (meAns a) (1092616192 : UInt32)) CmpOp.g) := by
  rcases me_nn ok hT with ⟨c, e⟩ | ⟨E, t, g1, g2, g3, g4, c, g5⟩
  · rw [e]
    exact ⟨by decide +kernel, by decide +kernel⟩
  · rw [g4]
    exact ⟨f_ge0 g1 g2 g3, f_le10 g1 g2 g3 g5⟩
theorem en_same {E : En} (ok : EnOk E) {e f : Nat} (he : e < en_m E) (hf : f < en_m E) : en_k E e = en_k E f ↔ (en_l E e = en_l E f ∧ en_s E e 0 = en_s E f 0 ∧ en_s E e 1 = en_s E f 1 ∧ en_s E e 2 = en_s E f 2 ∧ en_s E e 3 = en_s E f 3) := by
  have hE := ok.2 e he
  have hF := ok.2 f hf
  unfold en_k
  rw [pac_inj hE.2.1 hF.2.1]
  constructor
  · intro ⟨h1, h2⟩
    have key : ∀ k, en_s E e k = en_s E f k := fun k => by
      unfold en_s
      by_cases c : k < en_l E e
      · rw [if_pos c, if_pos (by omega), h2 k c]
      · rw [if_neg c, if_neg (by omega)]
    exact ⟨h1, key 0, key 1, key 2, key 3⟩
  · intro ⟨h1, h2, h3, h4, h5⟩
    refine ⟨h1, fun t ht => ?_⟩
    have key : en_s E e t = en_s E f t := by
      have : t = 0 ∨ t = 1 ∨ t = 2 ∨ t = 3 := by omega
      rcases this with rfl | rfl | rfl | rfl
      · exact h2
      · exact h3
      · exact h4
      · exact h5
    unfold en_s at key
    rw [if_pos ht, if_pos (by omega)] at key
    have a1 := hE.2.1 t ht
    have a2 := hF.2.1 t (by omega)
    exact (nI_eq (by omega) (by omega)).mp key
def ldB (E : En) (f : Nat) : Bool := decide (ldr E (en_k E f) (en_m E) = some f)
def lcB (E : En) (e f : Nat) : Bool := decide (en_k E e = en_k E f) && ldB E f
theorem cnt_is (f0 : Nat) : ∀ n, cnt (fun f => decide (f = f0)) n = if f0 < n then 1 else 0
  | 0 => by rw [if_neg (by omega)]; rfl
  | n + 1 => by
    rw [cnt, cnt_is f0 n]
    by_cases c : n = f0
    · rw [if_neg (by omega), if_pos (decide_eq_true c), if_pos (by omega)]
    · rw [if_neg (show ¬ decide (n = f0) = true by rw [decide_eq_false c]; decide)]
      by_cases c2 : f0 < n
      · rw [if_pos c2, if_pos (by omega)]
      · rw [if_neg c2, if_neg (by omega)]
theorem lc_one {E : En} {e : Nat} (he : e < en_m E) : cnt (lcB E e) (en_m E) = 1 := by
  cases hl : ldr E (en_k E e) (en_m E) with
  | none => exact absurd rfl (ldr_none.mp hl e he)
  | some f0 =>
    obtain ⟨h1, h2, h3⟩ := ldr_some hl
    have h4 : cnt (lcB E e) (en_m E) = cnt (fun f => decide (f = f0)) (en_m E) := cnt_cong (fun f hf => by
      show (decide (en_k E e = en_k E f) && decide (ldr E (en_k E f) (en_m E) = some f)) = decide (f = f0)
      by_cases c : en_k E e = en_k E f
      · rw [decide_eq_true c, Bool.true_and, ← c, hl]
        exact decide_eq_decide.mpr ⟨fun h => (Option.some.inj h).symm, fun h => by rw [h]⟩
      · rw [decide_eq_false c, Bool.false_and, decide_eq_false (fun h => c (by rw [h, h2]))])
    rw [h4, cnt_is, if_pos h1]
theorem nI_bI (c : Nat) (b : Bool) : nI c + bI b = nI (c + if b = true then 1 else 0) := by
  cases b
  · exact nI_add c 0
  · exact nI_add c 1
theorem ae_192 {Q : Mem × Int32 → Prop} {σ : Mem} {w : Wd} {T e f c : Nat} (ok : AsOk T (w_a w)) (hds : Ds (as_E (w_a w))) (he : e < en_m (as_E (w_a w))) (hf : f < en_m (as_E (w_a w))) (K : Mem → Int32 → Int32 → Int32 → Int32 → Option (Mem × Int32)) (rc : Mem → Int32 → Int32 → Int32 → Int32 → Int32 → Option (Mem × Int32)) {v1 : Int32} (g : Gd σ w) (hrc : ∀ σ', Gd σ' w → Hd Q (rc σ' v1 1 (nI e) (nI (c + if lcB (as_E (w_a w)) e f = true then 1 else 0)) (nI f + 1))) {b : Bool} (hb : b = decide (en_k (as_E (w_a w)) e = en_k (as_E (w_a w)) f)) : Hd Q (L_areEntries_171 K rc σ v1 1 (nI e) (nI c) (nI f) (bI b)) := by
  have hm := ok.2.2.1.1
  have hE := ok.2.2.1.2 e he
  have hF := ok.2.2.1.2 f hf
  unfold L_areEntries_171
  by_cases ck : en_k (as_E (w_a w)) e = en_k (as_E (w_a w)) f
  · rw [decide_eq_true ck] at hb
    subst hb
    have hl : lcB (as_E (w_a w)) e f = ldB (as_E (w_a w)) f := by unfold lcB; rw [decide_eq_true ck, Bool.true_and]
    rw [hl] at hrc
    refine Hd.f (by decide) ?_
    refine yc_en g ok rfl hf (what := 7) rfl (by omega) (v := bI (ldB (as_E (w_a w)) f)) rfl (fun σ1 g1 => ?_)
    unfold L_areEntries_192
    refine Hd.f one_ne (Hd.f (by decide) ?_)
    have hrc' : ∀ σ', Gd σ' w → Hd Q (rc σ' v1 1 (nI e) (nI c + bI (ldB (as_E (w_a w)) f)) (nI f + 1)) := fun σ' g' => by
      rw [nI_bI]; exact hrc σ' g'
    refine Hd.s (fun _ => hrc' σ1 g1) (fun c1 => ?_)
    have c1 : ¬ nI e = nI f := c1
    refine yc_en g1 ok rfl he (what := 0) rfl (by omega) (v := nI (en_w (as_E (w_a w)) e)) rfl (fun σ2 g2 => ?_)
    refine yc_en g2 ok rfl hf (what := 0) rfl (by omega) (v := nI (en_w (as_E (w_a w)) f)) rfl (fun σ3 g3 => ?_)
    refine Hd.f (show ¬ nI (en_w (as_E (w_a w)) e) = nI (en_w (as_E (w_a w)) f) from fun h => c1 ?_) (hrc' σ3 g3)
    have h2 := (nI_eq (by omega) (by omega)).mp h
    rw [hds e f he hf ck h2]
  · rw [decide_eq_false ck] at hb
    subst hb
    have hl : lcB (as_E (w_a w)) e f = false := by unfold lcB; rw [decide_eq_false ck, Bool.false_and]
    rw [hl] at hrc
    refine Hd.t rfl ?_
    unfold L_areEntries_192
    refine Hd.f one_ne (Hd.t rfl ?_)
    show Hd Q (rc σ v1 1 (nI e) (nI c + nI 0) (nI f + 1))
    rw [nI_add]
    exact hrc σ g
theorem ae_76 {Q : Mem × Int32 → Prop} {w : Wd} {T e : Nat} (ok : AsOk T (w_a w)) (hds : Ds (as_E (w_a w))) (he : e < en_m (as_E (w_a w))) (K : Mem → Int32 → Int32 → Int32 → Int32 → Option (Mem × Int32)) {v1 : Int32} (hK : ∀ σ', Gd σ' w → Hd Q (K σ' v1 1 (nI e) (nI (cnt (lcB (as_E (w_a w)) e) (en_m (as_E (w_a w))))))) : ∀ (r f fu : Nat) (σ : Mem), f + r = en_m (as_E (w_a w)) → r < fu → Gd σ w → Hd Q (L_areEntries_76 K fu σ v1 1 (nI e) (nI (cnt (lcB (as_E (w_a w)) e) f)) (nI f))
  | r, f, 0, _, _, h, _ => absurd h (by omega)
  | 0, f, fu + 1, σ, h1, _, g => by
    have hm := ok.2.2.1.1
    have hf : f = en_m (as_E (w_a w)) := by omega
    rw [hf, L_areEntries_76]
    refine yc_c4 g ok (fun σ1 g1 => ?_)
    exact Hd.t (nI_le (Nat.le_refl _) (by omega)) (hK σ1 g1)
  | r + 1, f, fu + 1, σ, h1, hf, g => by
    have hm := ok.2.2.1.1
    have hfm : f < en_m (as_E (w_a w)) := by omega
    have hE := ok.2.2.1.2 e he
    have hF := ok.2.2.1.2 f hfm
    have hsm := en_same ok.2.2.1 he hfm
    have ih : ∀ σ', Gd σ' w → Hd Q (L_areEntries_76 K fu σ' v1 1 (nI e) (nI (cnt (lcB (as_E (w_a w)) e) f + if lcB (as_E (w_a w)) e f = true then 1 else 0)) (nI f + 1)) := fun σ' g' => by
      rw [nI_1]
      exact ae_76 ok hds he K hK r (f + 1) fu σ' (by omega) (by omega) g'
    have no : ∀ σ', Gd σ' w → ¬ en_k (as_E (w_a w)) e = en_k (as_E (w_a w)) f → Hd Q (L_areEntries_170 K (L_areEntries_76 K fu) σ' v1 1 (nI e) (nI (cnt (lcB (as_E (w_a w)) e) f)) (nI f)) := fun σ' g' ck => by
      unfold L_areEntries_170
      exact ae_192 (b := false) ok hds he hfm K _ g' ih (decide_eq_false ck).symm
    rw [L_areEntries_76]
    refine yc_c4 g ok (fun σ1 g1 => ?_)
    refine Hd.f (nI_ge (by omega) (by omega)) ?_
    refine yc_en g1 ok rfl he (what := 1) rfl (by omega) (v := nI (en_l (as_E (w_a w)) e)) rfl (fun σ2 g2 => ?_)
    refine yc_en g2 ok rfl hfm (what := 1) rfl (by omega) (v := nI (en_l (as_E (w_a w)) f)) rfl (fun σ3 g3 => ?_)
    refine Hd.s (fun c1 => ?_) (fun c1 => no σ3 g3 (fun ck => c1 (congrArg nI (hsm.mp ck).1)))
    have c1 : nI (en_l (as_E (w_a w)) e) = nI (en_l (as_E (w_a w)) f) := c1
    refine yc_en g3 ok rfl he (what := 2) rfl (by omega) (enAns_s (k := 0) (by omega)) (fun σ4 g4 => ?_)
    refine yc_en g4 ok rfl hfm (what := 2) rfl (by omega) (enAns_s (k := 0) (by omega)) (fun σ5 g5 => ?_)
    refine Hd.s (fun c2 => ?_) (fun c2 => no σ5 g5 (fun ck => c2 (hsm.mp ck).2.1))
    refine yc_en g5 ok rfl he (what := 3) rfl (by omega) (enAns_s (k := 1) (by omega)) (fun σ6 g6 => ?_)
    refine yc_en g6 ok rfl hfm (what := 3) rfl (by omega) (enAns_s (k := 1) (by omega)) (fun σ7 g7 => ?_)
    refine Hd.s (fun c3 => ?_) (fun c3 => no σ7 g7 (fun ck => c3 (hsm.mp ck).2.2.1))
    refine yc_en g7 ok rfl he (what := 4) rfl (by omega) (enAns_s (k := 2) (by omega)) (fun σ8 g8 => ?_)
    refine yc_en g8 ok rfl hfm (what := 4) rfl (by omega) (enAns_s (k := 2) (by omega)) (fun σ9 g9 => ?_)
    refine Hd.s (fun c4 => ?_) (fun c4 => no σ9 g9 (fun ck => c4 (hsm.mp ck).2.2.2.1))
    refine yc_en g9 ok rfl he (what := 5) rfl (by omega) (enAns_s (k := 3) (by omega)) (fun σa ga => ?_)
    refine yc_en ga ok rfl hfm (what := 5) rfl (by omega) (enAns_s (k := 3) (by omega)) (fun σb gb => ?_)
    refine Hd.s (fun c5 => ?_) (fun c5 => no σb gb (fun ck => c5 (hsm.mp ck).2.2.2.2))
    exact ae_192 (b := true) ok hds he hfm K _ gb ih (decide_eq_true (hsm.mpr ⟨(nI_eq (by omega) (by omega)).mp c1, c2, c3, c4, c5⟩)).symm
/-- sums over the entries -/
def smN (g : Nat → Nat) : Nat → Nat
  | 0 => 0
  | n + 1 => smN g n + g n
theorem smN_add (g : Nat → Nat) (p : Nat → Bool) : ∀ m, smN (fun e => g e + if p e = true then 1 else 0) m = smN g m + cnt p m
  | 0 => rfl
  | m + 1 => by
    rw [smN, smN_add g p m, smN, cnt]
    omega
theorem smN_z : ∀ {g : Nat → Nat} {m : Nat}, (∀ e, e < m → g e = 0) → smN g m = 0
  | _, 0, _ => rfl
  | g, m + 1, h => by rw [smN, smN_z (fun e he => h e (by omega)), h m (by omega)]
theorem st_sum {a : As} {T : Nat} (ok : AsOk T a) : ∀ n, n ≤ as_t a → smN (fun e => cnt (fun i => decide (oN (as_st a i) = nI e)) n) (en_m (as_E a)) + cnt (fun i => decide (oN (as_st a i) = (-1 : Int32))) n = n
  | 0, _ => by
    have h0 : smN (fun e => cnt (fun i => decide (oN (as_st a i) = nI e)) 0) (en_m (as_E a)) = 0 := smN_z (fun e _ => rfl)
    rw [h0]
    rfl
  | n + 1, h => by
    have h1 := st_sum ok n (by omega)
    have hm := ok.2.2.1.1
    have h2 : smN (fun e => cnt (fun i => decide (oN (as_st a i) = nI e)) (n + 1)) (en_m (as_E a)) = smN (fun e => cnt (fun i => decide (oN (as_st a i) = nI e)) n) (en_m (as_E a)) + cnt (fun e => decide (oN (as_st a n) = nI e)) (en_m (as_E a)) := smN_add _ (fun e => decide (oN (as_st a n) = nI e)) _
    rw [h2, show cnt (fun i => decide (oN (as_st a i) = (-1 : Int32))) (n + 1) = cnt (fun i => decide (oN (as_st a i) = (-1 : Int32))) n + (if decide (oN (as_st a n) = (-1 : Int32)) = true then 1 else 0) from rfl]
    have hso : as_st a n = none ∨ ∃ e, as_st a n = some e := by
      cases as_st a n with
      | none => exact Or.inl rfl
      | some e => exact Or.inr ⟨e, rfl⟩
    rcases hso with hs | ⟨e, hs⟩
    · rw [hs, if_pos (decide_eq_true (show oN none = (-1 : Int32) from rfl)), cnt_zr (fun e he => decide_eq_false (fun h => nI_nem1 (a := e) (by omega) (show nI e = (-1 : Int32) from (show oN none = nI e from h).symm)))]
      omega
    · have he : e < en_m (as_E a) := as_st_m hs
      have h3 : cnt (fun f => decide (oN (some e) = nI f)) (en_m (as_E a)) = cnt (fun f => decide (f = e)) (en_m (as_E a)) := cnt_cong (fun f hf => decide_eq_decide.mpr ⟨fun h => ((nI_eq (by omega) (by omega)).mp (show nI e = nI f from h)).symm, fun h => by rw [h]; rfl⟩)
      rw [hs, if_neg (show ¬ decide (oN (some e) = (-1 : Int32)) = true by rw [decide_eq_false (show ¬ oN (some e) = (-1 : Int32) from nI_nem1 (by omega))]; decide), h3, cnt_is, if_pos he]
      omega
theorem ae_47 {Q : Mem × Int32 → Prop} {w : Wd} {T : Nat} (ok : AsOk T (w_a w)) (hds : Ds (as_E (w_a w))) (K : Mem → Int32 → Int32 → Option (Mem × Int32)) (hK : ∀ σ', Gd σ' w → Hd Q (K σ' (nI (smN (fun e => stN (w_a w) (nI e)) (en_m (as_E (w_a w))))) 1)) : ∀ (r e fu : Nat) (σ : Mem), e + r = en_m (as_E (w_a w)) → r < fu → Gd σ w → Hd Q (L_areEntries_47 K fu σ (nI (smN (fun e => stN (w_a w) (nI e)) e)) 1 (nI e))
  | r, e, 0, _, _, h, _ => absurd h (by omega)
  | 0, e, fu + 1, σ, h1, _, g => by
    have hm := ok.2.2.1.1
    have he : e = en_m (as_E (w_a w)) := by omega
    rw [he, L_areEntries_47]
    refine yc_c4 g ok (fun σ1 g1 => ?_)
    exact Hd.t (nI_le (Nat.le_refl _) (by omega)) (hK σ1 g1)
  | r + 1, e, fu + 1, σ, h1, hf, g => by
    have hm := ok.2.2.1.1
    have he : e < en_m (as_E (w_a w)) := by omega
    have hE := ok.2.2.1.2 e he
    have hlg := ok.2.2.2.2.1
    have hy : en_l (as_E (w_a w)) e ≤ en_y (as_E (w_a w)) e := ksum_ge hE.2.1
    have hy2 := en_y_le ok.2.2.1 he
    have ih : ∀ σ', Gd σ' w → Hd Q (L_areEntries_47 K fu σ' (nI (smN (fun e => stN (w_a w) (nI e)) e) + nI (stN (w_a w) (nI e))) 1 (nI e + 1)) := fun σ' g' => by
      rw [nI_add, nI_1]
      exact ae_47 ok hds K hK r (e + 1) fu σ' (by omega) (by omega) g'
    rw [L_areEntries_47]
    refine yc_c4 g ok (fun σ1 g1 => ?_)
    refine Hd.f (nI_ge (by omega) (by omega)) (Hd.f one_ne ?_)
    refine yc_en g1 ok rfl he (what := 8) rfl (by omega) (v := nI (stN (w_a w) (nI e))) rfl (fun σ2 g2 => ?_)
    refine ae_76 ok hds he _ (fun σ3 g3 => ?_) (en_m (as_E (w_a w))) 0 FU σ2 (by omega) (by unfold FU; omega) g2
    rw [lc_one he]
    refine yc_en g3 ok rfl he (what := 0) rfl (by omega) (v := nI (en_w (as_E (w_a w)) e)) rfl (fun σ4 g4 => ?_)
    refine yc_sh g4 ok rfl (by omega) (fun σ5 g5 => ?_)
    refine Hd.f one_ne (Hd.t rfl ?_)
    refine yc_en g5 ok rfl he (what := 9) rfl (by omega) (v := nI (en_y (as_E (w_a w)) e)) rfl (fun σ6 g6 => ?_)
    refine yc_en g6 ok rfl he (what := 1) rfl (by omega) (v := nI (en_l (as_E (w_a w)) e)) rfl (fun σ7 g7 => ?_)
    refine Hd.f (nI_nlt hy (by omega)) ?_
    have hso : shF (w_a w) (en_w (as_E (w_a w)) e) (en_m (as_E (w_a w))) = none ∨ ∃ b, shF (w_a w) (en_w (as_E (w_a w)) e) (en_m (as_E (w_a w))) = some b := by
      cases shF (w_a w) (en_w (as_E (w_a w)) e) (en_m (as_E (w_a w))) with
      | none => exact Or.inl rfl
      | some b => exact Or.inr ⟨b, rfl⟩
    rcases hso with hs | ⟨b, hs⟩
    · exact Hd.t (show oN (shF (w_a w) (en_w (as_E (w_a w)) e) (en_m (as_E (w_a w)))) < 0 by rw [hs]; decide) (ih σ7 g7)
    · have hb := shF_lt hs
      have ht := shF_tell hs
      unfold tellB at ht
      rw [Bool.and_eq_true, Bool.and_eq_true] at ht
      have t1 := of_decide_eq_true ht.1.1
      have t2 := of_decide_eq_true ht.1.2
      have t3 := of_decide_eq_true ht.2
      have hx : oN (shF (w_a w) (en_w (as_E (w_a w)) e) (en_m (as_E (w_a w)))) = nI b := by rw [hs]; rfl
      have hB := ok.2.2.1.2 b hb
      refine Hd.f (show ¬ oN (shF (w_a w) (en_w (as_E (w_a w)) e) (en_m (as_E (w_a w)))) < 0 by rw [hx]; exact nI_pos (by omega)) ?_
      refine yc_en g7 ok hx hb (what := 0) rfl (by omega) (v := nI (en_w (as_E (w_a w)) b)) rfl (fun σ8 g8 => ?_)
      refine yc_en g8 ok rfl he (what := 0) rfl (by omega) (v := nI (en_w (as_E (w_a w)) e)) rfl (fun σ9 g9 => ?_)
      refine Hd.t (show nI (en_w (as_E (w_a w)) b) = nI (en_w (as_E (w_a w)) e) by rw [t1]) ?_
      refine yc_en g9 ok hx hb (what := 7) rfl (by omega) (v := bI (ldB (as_E (w_a w)) b)) rfl (fun σa ga => ?_)
      refine Hd.t (show bI (ldB (as_E (w_a w)) b) = 1 by unfold ldB; rw [decide_eq_true t3]; rfl) ?_
      refine yc_en ga ok hx hb (what := 1) rfl (by omega) (v := nI (en_l (as_E (w_a w)) b)) rfl (fun σb gb => ?_)
      refine yc_s1 gb (fun σc gc => ?_)
      exact Hd.f (nI_nlt t2 (by omega)) (ih σc gc)
theorem ae_e {σ : Mem} {w : Wd} {T : Nat} (g : Gd σ w) (ok : AsOk T (w_a w)) (hT : T ≤ 512) (hds : Ds (as_E (w_a w))) : Hd (fun o => Gd o.1 w ∧ o.2 = 1) (L_areEntries σ) := by
  have hm := ok.2.2.1.1
  obtain ⟨s1, s2, s3⟩ := shC_t (sh_nn ok)
  obtain ⟨m1, m2⟩ := mk_ok ok hT
  unfold L_areEntries
  refine yc_rs g ok (fun σ1 g1 => ?_)
  refine Hd.f s2 ?_
  refine yc_rs g1 ok (fun σ2 g2 => ?_)
  refine Hd.f s3 ?_
  refine yc_mk g2 ok hT ?_
  refine Hd.f m1 ?_
  refine yc_mk g2 ok hT ?_
  refine Hd.f m2 ?_
  refine ae_47 ok hds _ (fun σ' g' => ?_) (en_m (as_E (w_a w))) 0 FU σ2 (by omega) (by unfold FU; omega) g2
  unfold L_areEntries_336
  refine Hd.f one_ne ?_
  refine yc_c3 g' ok (fun σ4 g4 => ?_)
  refine yc_c2 g4 ok (fun σ5 g5 => ?_)
  refine Hd.t ?_ (Hd.i ⟨g5, rfl⟩)
  show nI (smN (fun e => stN (w_a w) (nI e)) (en_m (as_E (w_a w)))) + nI (stN (w_a w) (-1)) = nI (as_t (w_a w))
  rw [nI_add]
  exact congrArg nI (st_sum ok (as_t (w_a w)) (Nat.le_refl _))
theorem yc_ae {β : Type} {Q : β → Prop} {f : Mem × Int32 → Option β} {σ : Mem} {w : Wd} {T : Nat} (g : Gd σ w) (ok : AsOk T (w_a w)) (hT : T ≤ 512) (hds : Ds (as_E (w_a w))) (k : ∀ σ', Gd σ' w → Hd Q (f (σ', 1))) : Hd Q ((L_areEntries σ).bind f) := by
  refine Hd.x (ae_e g ok hT hds) (fun o ho => ?_)
  obtain ⟨σ', v⟩ := o
  obtain ⟨h1, h2⟩ := ho
  have h2 : v = 1 := h2
  subst h2
  exact k σ' h1
