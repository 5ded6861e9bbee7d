/-! shortest, the reference's side -/
theorem sh_x {lf le yf ye : Nat} (h1 : lf ≤ 4) (h2 : le ≤ 4) (h3 : yf ≤ 40) (h4 : ye ≤ 40) : ((100 : Int32) * (nI lf - nI le) + nI yf - nI ye).toInt = 100 * ((lf : Int) - (le : Int)) + (yf : Int) - (ye : Int) := by
  have e : (100 : Int32) * (nI lf - nI le) + nI yf - nI ye = Int32.ofInt (100 * ((lf : Int) - (le : Int)) + (yf : Int) - (ye : Int)) := by
    rw [Int32.ofInt_sub, Int32.ofInt_add, Int32.ofInt_mul, Int32.ofInt_sub]
    rw [show Int32.ofInt (lf : Int) = nI lf from Int32.ofInt_eq_ofNat, show Int32.ofInt (le : Int) = nI le from Int32.ofInt_eq_ofNat, show Int32.ofInt (yf : Int) = nI yf from Int32.ofInt_eq_ofNat, show Int32.ofInt (ye : Int) = nI ye from Int32.ofInt_eq_ofNat]
    rfl
  rw [e, Int32.toInt_ofInt_of_le (by omega) (by omega)]
theorem leB_ldr {E : En} {e : Nat} (he : e < en_m E) : leB E e (en_m E) = decide (ldr E (en_k E e) (en_m E) = some e) := by
  cases hl : leB E e (en_m E) with
  | true => exact (decide_eq_true ((lead_ldr he).mpr (leB_lead.mp hl))).symm
  | false => exact (decide_eq_false (fun x => by have := leB_lead.mpr ((lead_ldr he).mp x); rw [hl] at this; cases this)).symm
theorem x7_sh_51 {σ : Mem} {a : As} {T wd e : Nat} (ok : AsOk T a) (h : RS (σ.1 83) 0 a) (he : e < en_m (as_E a)) (hw : wd < 100) (K : Mem → Int32 → Option (Mem × Int32)) (rc : Mem → Int32 → Int32 → Int32 → Option (Mem × Int32)) (f : Int32) {x : Int32} (b : Bool) (hb : b = false ↔ x ≤ 0) : X7_shortestFor_51 K rc σ (nI wd) f (nI e) x = rc σ (nI wd) (if tellB a wd e = true ∧ b = true then nI e else f) (nI (e + 1)) := by
  obtain ⟨z1, z2, z3, z4, z5, z6⟩ := h.z
  have hle := (ok.2.2.1.2 e he).1
  have hwe := (ok.2.2.1.2 e he).2.2.1
  have hg := ok.2.2.2.2.1
  unfold X7_shortestFor_51 tellB
  rw [of_w z3 ok.2.2.1 he, uB, nI_1]
  dsimp only
  by_cases c1 : en_w (as_E a) e = wd
  · rw [if_pos (show nI (en_w (as_E a) e) = nI wd by rw [c1]), of_l z3 ok.2.2.1 he, uB, decide_eq_true c1, Bool.true_and]
    dsimp only
    rw [z5]
    by_cases c2 : en_l (as_E a) e ≤ as_g a
    · rw [if_neg (nI_nlt c2 (by omega)), x7_leads z3 ok.2.2.1 he, uB, decide_eq_true c2, Bool.true_and, ← leB_ldr he]
      dsimp only
      cases c3 : leB (as_E a) e (en_m (as_E a)) with
      | false => rw [if_pos (show bI false = 0 from rfl), if_pos rfl, if_neg (by simp)]
      | true =>
        rw [if_neg (show ¬ bI true = 0 by decide), if_neg one_ne]
        cases hbv : b with
        | false => rw [if_pos (hb.mp hbv), if_neg (by simp)]
        | true => rw [if_neg (fun y => by have := hb.mpr y; rw [hbv] at this; cases this), if_pos (by simp)]
    · rw [if_pos (nI_lt (by omega) (by omega)), if_pos rfl, decide_eq_false c2, if_neg (by simp)]
  · rw [if_neg (show ¬ nI (en_w (as_E a) e) = nI wd from fun y => c1 ((nI_eq (by omega) (by omega)).mp y)), if_pos rfl, decide_eq_false c1, if_neg (by simp)]
theorem x7_sh_4 {σ : Mem} {a : As} {T wd : Nat} (ok : AsOk T a) (h : RS (σ.1 83) 0 a) (hw : wd < 100) (K : Mem → Int32 → Option (Mem × Int32)) : ∀ (r e fu : Nat), e + r = en_m (as_E a) → r < fu → X7_shortestFor_4 K fu σ (nI wd) (oN (shF a wd e)) (nI e) = K σ (oN (shF a wd (en_m (as_E a))))
  | r, e, 0, _, h => absurd h (by omega)
  | 0, e, fu + 1, h1, _ => by
    have hm := ok.2.2.1.1
    have : e = en_m (as_E a) := by omega
    subst this
    rw [X7_shortestFor_4, h.z.2.2.1.m, if_pos (nI_le (by omega) (by omega))]
  | r + 1, e, fu + 1, h1, hf => by
    have hm := ok.2.2.1.1
    have he : e < en_m (as_E a) := by omega
    have z3 := h.z.2.2.1
    have hle := (ok.2.2.1.2 e he).1
    have ih := x7_sh_4 ok h hw K r (e + 1) fu (by omega) (by omega)
    rw [X7_shortestFor_4, z3.m, if_neg (nI_ge (by omega) (by omega))]
    cases hs : shF a wd e with
    | none =>
      rw [if_pos (show oN none = (-1 : Int32) from rfl), x7_sh_51 ok h he hw K _ _ true (by decide)]
      have e1 : oN (shF a wd (e + 1)) = if tellB a wd e = true ∧ true = true then nI e else oN none := by
        rw [shF, hs]
        dsimp only
        by_cases c : tellB a wd e = true
        · rw [if_pos c, if_pos ⟨c, rfl⟩]; rfl
        · rw [if_neg c, if_neg (fun x => c x.1)]
      rw [← e1]
      exact ih
    | some f =>
      have hfe := shF_lt hs
      have hf2 : f < en_m (as_E a) := by omega
      have hlf := (ok.2.2.1.2 f hf2).1
      have y1 := en_y_le ok.2.2.1 he
      have y2 := en_y_le ok.2.2.1 hf2
      have z0 : (0 : Int32).toInt = 0 := by decide
      rw [if_neg (show ¬ oN (some f) = (-1 : Int32) from nI_nem1 (by omega)), show oN (some f) = nI f from rfl, of_l z3 ok.2.2.1 hf2, uB]
      dsimp only
      rw [of_l z3 ok.2.2.1 he, uB]
      dsimp only
      rw [x7_keysE z3 ok.2.2.1 hf2, uB]
      dsimp only
      rw [x7_keysE z3 ok.2.2.1 he, uB]
      dsimp only
      rw [x7_sh_51 ok h he hw K _ _ (shrB a e f) (by
        unfold shrB
        rw [decide_eq_false_iff_not, Int32.le_iff_toInt_le, sh_x hlf.2 hle.2 y2 y1, z0]
        omega)]
      have e1 : oN (shF a wd (e + 1)) = if tellB a wd e = true ∧ shrB a e f = true then nI e else nI f := by
        rw [shF, hs]
        dsimp only
        by_cases c : tellB a wd e = true ∧ shrB a e f = true
        · rw [if_pos c, if_pos c]; rfl
        · rw [if_neg c, if_neg c]; rfl
      rw [← e1]
      exact ih
theorem x7_shortestFor {σ : Mem} {a : As} {T wd : Nat} (ok : AsOk T a) (h : RS (σ.1 83) 0 a) (hw : wd < 100) : X7_shortestFor σ (nI wd) = some (σ, oN (shF a wd (en_m (as_E a)))) :=
  x7_sh_4 ok h hw _ (en_m (as_E a)) 0 FU (by omega) (by have := ok.2.2.1.1; unfold FU; omega)
theorem r_short_bad {σ : Mem} {w : Wd} (h : RfP σ w) {x : Int32} (hx : bad x 0 99) : Rf (X7_shortest σ x) σ w 1 0 := by
  refine Rf.no h Off.rfl' ?_
  unfold X7_shortest
  rw [uZ (show X7_in σ x (0 : Int32) (99 : Int32) = some (σ, 0) from in_bad (lo := 0) (hi := 99) hx)]
  exact uZ (h_n σ nn1) _ _
theorem r_short {σ : Mem} {w : Wd} {T wd : Nat} (ok : WdOk T w) (h : RfP σ w) (hw : wd ≤ 99) : Rf (X7_shortest σ (nI wd)) σ w 0 (oN (shF (w_a w) wd (en_m (as_E (w_a w))))) := by
  refine Rf.an h (fr_th σ 0) (si_1 _ _ _ _) ?_
  unfold X7_shortest
  rw [uN (show X7_in σ (nI wd) (0 : Int32) (99 : Int32) = some (σ, 1) from in_good (lo := 0) (hi := 99) (by omega) hw (by omega)) nn1]
  dsimp only
  rw [uN (h_0 σ) nn1]
  dsimp only
  rw [x7_shortestFor ok.1 (h.th 0).1 (by omega), uB]
/-! behind -/
theorem stf_iff {E : En} (ok : EnOk E) {lg N pl : Nat} {q : Nat → Nat} (hq : ShOk N q) (hp : pl < N) (hl : 1 ≤ lg) : stf E lg N q pl = none ↔ lgst E q pl (min lg (N - pl)) = 0 := by
  refine ⟨fun h => ?_, fun h => ?_⟩
  · rcases lgst_yes (E := E) (q := q) (pl := pl) (L := min lg (N - pl)) with c | ⟨e, c⟩
    · exact c
    · rcases Nat.eq_zero_or_pos (lgst E q pl (min lg (N - pl))) with c2 | c2
      · exact c2
      · have h1 : szf E lg N q pl = lgst E q pl (min lg (N - pl)) := by unfold szf; omega
        unfold stf at h
        rw [h1, c] at h
        cases h
  · cases hs : stf E lg N q pl with
    | none => rfl
    | some e =>
      obtain ⟨h1, h2, h3⟩ := stf_some ok hq hp hl hs
      have := at_le ok hq h1
      have := (ok.2 e h1.1).1
      omega
def pvV (t : Nat) (o0 o1 : Option Nat) (z lf : Nat) : Nat := if t = 1 then 1 else if t = 2 ∧ o0 ≠ none ∧ o1 ≠ none ∧ z = lf then 0 else 2
theorem pv_bh {E : En} (ok : EnOk E) {lg f s : Nat} (hl : 1 ≤ lg) (hf : f < en_m E) (hs : s < en_m E) : pvV (itn E lg (bhN E f s) (bhq E f s)) (stf E lg (bhN E f s) (bhq E f s) 0) (stf E lg (bhN E f s) (bhq E f s) (posf E lg (bhN E f s) (bhq E f s) 1)) (szf E lg (bhN E f s) (bhq E f s) 0) (en_l E f) = bhV E lg f s := by
  have l1 := (ok.2 f hf).1
  have l2 := (ok.2 s hs).1
  have hq := bhq_ok ok hf hs
  have hN : bhN E f s = en_l E f + en_l E s := rfl
  have hz : szf E lg (bhN E f s) (bhq E f s) 0 = max 1 (lgst E (bhq E f s) 0 (min lg (bhN E f s))) := rfl
  have hp1 : posf E lg (bhN E f s) (bhq E f s) 1 = szf E lg (bhN E f s) (bhq E f s) 0 := by rw [posf, posf]; omega
  have hp2 : posf E lg (bhN E f s) (bhq E f s) 2 = posf E lg (bhN E f s) (bhq E f s) 1 + szf E lg (bhN E f s) (bhq E f s) (posf E lg (bhN E f s) (bhq E f s) 1) := by rw [posf]
  have hzN := szf_N (E := E) (lg := lg) (q := bhq E f s) (show 0 < bhN E f s by omega)
  have h0 : posf E lg (bhN E f s) (bhq E f s) 0 = 0 := by rw [posf]
  have i0 := stf_iff ok hq (show 0 < bhN E f s by omega) hl
  have i0 : stf E lg (bhN E f s) (bhq E f s) 0 = none ↔ lgst E (bhq E f s) 0 (min lg (bhN E f s)) = 0 := i0
  have hIt := itn_ok E lg (bhN E f s) (bhq E f s)
  unfold bhV
  by_cases hA : szf E lg (bhN E f s) (bhq E f s) 0 = bhN E f s
  · have ht : 1 = itn E lg (bhN E f s) (bhq E f s) := itn_eq ⟨by rw [hp1, hA], fun i hi => by rw [show i = 0 by omega, h0]; omega⟩
    rw [← ht, if_pos (show lgst E (bhq E f s) 0 (min lg (bhN E f s)) = bhN E f s by omega)]
    exact if_pos rfl
  · have ht : itn E lg (bhN E f s) (bhq E f s) ≠ 1 := fun x => by
      rw [x] at hIt
      have := hIt.1
      omega
    rw [if_neg (show ¬ lgst E (bhq E f s) 0 (min lg (bhN E f s)) = bhN E f s by omega)]
    unfold pvV
    rw [if_neg ht]
    by_cases hB : lgst E (bhq E f s) 0 (min lg (bhN E f s)) = en_l E f
    · have hz1 : szf E lg (bhN E f s) (bhq E f s) 0 = en_l E f := by omega
      have hp1' : posf E lg (bhN E f s) (bhq E f s) 1 = en_l E f := hp1.trans hz1
      rw [if_pos hB]
      have i1 := stf_iff ok hq (show en_l E f < bhN E f s by omega) hl
      rw [show bhN E f s - en_l E f = en_l E s by omega] at i1
      have hz2 : szf E lg (bhN E f s) (bhq E f s) (en_l E f) = max 1 (lgst E (bhq E f s) (en_l E f) (min lg (en_l E s))) := by
        unfold szf
        rw [show bhN E f s - en_l E f = en_l E s by omega]
      rw [hp1'] at hp2 ⊢
      by_cases hC : lgst E (bhq E f s) (en_l E f) (min lg (en_l E s)) = en_l E s
      · have ht2 : 2 = itn E lg (bhN E f s) (bhq E f s) := itn_eq ⟨by omega, fun i hi => by
          rcases (show i = 0 ∨ i = 1 by omega) with c | c
          · rw [c, h0]; omega
          · rw [c, hp1']; omega⟩
        rw [if_pos hC, if_pos ⟨ht2.symm, fun x => by have := i0.mp x; omega, fun x => by have := i1.mp x; omega, hz1⟩]
      · rw [if_neg hC, if_neg]
        rintro ⟨x1, x2, x3, x4⟩
        rw [x1] at hIt
        have h5 := hIt.1
        rw [hp2, hz2] at h5
        exact x3 (i1.mpr (by omega))
    · rw [if_neg hB, if_neg]
      rintro ⟨x1, x2, x3, x4⟩
      exact x2 (i0.mpr (by omega))
theorem x7_pair_22 {E : En} (ok : EnOk E) {f s : Nat} (hf : f < en_m E) (hs : s < en_m E) (K : Mem → Int32 → Option (Mem × Int32)) : ∀ (r v fu : Nat) (σ : Mem), v + r = bhN E f s → r < fu → RE (σ.1 83) 0 E → σ.1 82 10 = nI (bhN E f s) → (∀ j, j < v → σ.1 86 j = nI (bhq E f s j)) → ∃ σ', X7_pairOf_22 K fu σ (nI f) (nI s) (nI (en_l E f)) (nI v) = K σ' (nI (en_l E f)) ∧ ShR σ' (bhN E f s) (bhq E f s) ∧ Fr (fun c j => c = 86) σ σ'
  | r, v, 0, _, _, h, _, _, _ => absurd h (by omega)
  | 0, v, fu + 1, σ, h1, _, hE, h10, h86 => by
    have l1 := (ok.2 f hf).1
    have l2 := (ok.2 s hs).1
    have hN : bhN E f s = en_l E f + en_l E s := rfl
    have hv : v = bhN E f s := by omega
    subst hv
    exact ⟨σ, by rw [X7_pairOf_22, h10, if_pos (nI_le (by omega) (by omega))], ⟨h10, h86⟩, Fr.rfl'⟩
  | r + 1, v, fu + 1, σ, h1, hfu, hE, h10, h86 => by
    have l1 := (ok.2 f hf).1
    have l2 := (ok.2 s hs).1
    have hN : bhN E f s = en_l E f + en_l E s := rfl
    have f1 : Fr (fun c j => c = 86) σ (setI σ 86 v (nI (bhq E f s v))) := Fr.setI rfl
    obtain ⟨σ', e1, g, fr⟩ := x7_pair_22 ok hf hs K r (v + 1) fu (setI σ 86 v (nI (bhq E f s v))) (by omega) (by omega) (by rw [f1.s83 (fun j => by omega)]; exact hE) (by rw [si_o _ _ (by omega)]; exact h10) (fun j hj => by
      by_cases c : j = v
      · rw [c, si_1]
      · rw [si_o _ _ (by omega)]; exact h86 j (by omega))
    refine ⟨σ', ?_, g, f1.trans fr⟩
    rw [X7_pairOf_22, h10, if_neg (nI_ge (by omega) (by omega))]
    by_cases c : v < en_l E f
    · have hb : bhq E f s v = en_r E f v := if_pos c
      rw [hb] at e1
      rw [if_neg (nI_ge c (by omega)), of_r hE ok hf c, uB, if_pos (nI_inA (by omega) (by omega)), nI_clamp (by omega), uB, nI_1]
      exact e1
    · have hb : bhq E f s v = en_r E s (v - en_l E f) := if_neg c
      rw [hb] at e1
      rw [if_pos (nI_le (by omega) (by omega)), show (1 : Int32) + nI v - nI (en_l E f) = (1 : Int32) + nI (v - en_l E f) by rw [k_1, nI_add, nI_add, pk_sub (by omega), show 1 + v - en_l E f = 1 + (v - en_l E f) by omega], of_r hE ok hs (show v - en_l E f < en_l E s by omega), uB, if_pos (nI_inA (by omega) (by omega)), nI_clamp (by omega), uB, nI_1]
      exact e1
theorem x7_pairOf {σ : Mem} {a : As} {T f s : Nat} (ok : AsOk T a) (h : RS (σ.1 83) 0 a) (hf : f < en_m (as_E a)) (hs : s < en_m (as_E a)) : ∃ σ', X7_pairOf σ (nI f) (nI s) = some (σ', nI (bhV (as_E a) (as_g a) f s)) ∧ Fr pRp σ σ' := by
  have l1 := (ok.2.2.1.2 f hf).1
  have l2 := (ok.2.2.1.2 s hs).1
  have z3 := h.z.2.2.1
  have hN : bhN (as_E a) f s = en_l (as_E a) f + en_l (as_E a) s := rfl
  have f1 : Fr pRp σ (setI σ 82 10 (nI (bhN (as_E a) f s))) := Fr.setI (by unfold pRp; omega)
  obtain ⟨σ2, e2, g2, f2⟩ := x7_pair_22 ok.2.2.1 hf hs (fun (σ : Mem) (v3 : Int32) => ((X7_reads σ).bind fun q15 => (if (q15.1.1 82 14) = (2 : Int32) then (if (q15.1.1 89 0) = (-1 : Int32) then (if (q15.1.1 82 14) = (1 : Int32) then some (q15.1, (1 : Int32)) else (if (0 : Int32) = 0 then some (q15.1, (2 : Int32)) else some (q15.1, (0 : Int32)))) else (if (q15.1.1 89 1) = (-1 : Int32) then (if (q15.1.1 82 14) = (1 : Int32) then some (q15.1, (1 : Int32)) else (if (0 : Int32) = 0 then some (q15.1, (2 : Int32)) else some (q15.1, (0 : Int32)))) else (if (q15.1.1 88 0) = v3 then (if (q15.1.1 82 14) = (1 : Int32) then some (q15.1, (1 : Int32)) else (if (1 : Int32) = 0 then some (q15.1, (2 : Int32)) else some (q15.1, (0 : Int32)))) else (if (q15.1.1 82 14) = (1 : Int32) then some (q15.1, (1 : Int32)) else (if (0 : Int32) = 0 then some (q15.1, (2 : Int32)) else some (q15.1, (0 : Int32))))))) else (if (q15.1.1 82 14) = (1 : Int32) then some (q15.1, (1 : Int32)) else (if (0 : Int32) = 0 then some (q15.1, (2 : Int32)) else some (q15.1, (0 : Int32))))))) (bhN (as_E a) f s) 0 FU (setI σ 82 10 (nI (bhN (as_E a) f s))) (by omega) (by unfold FU; omega) (by rw [f1.s83 n83p]; exact z3) (si_1 _ _ _ _) (fun j hj => absurd hj (Nat.not_lt_zero j))
  have f12 : Fr pRp σ σ2 := f1.trans (f2.mono fun c j hc => by unfold pRp; omega)
  obtain ⟨σ3, e3, g3, g4, f3⟩ := x7_reads ok.2.2.1 ok.2.2.2.2.1 (show bhN (as_E a) f s ≤ 61 by omega) (bhq_ok ok.2.2.1 hf hs) (by rw [f12.s83 n83p]; exact z3) (by rw [f12.s83 n83p]; exact h.z.2.2.2.2.1) g2
  refine ⟨σ3, ?_, f12.trans (f3.mono fun c j => pRd_p)⟩
  unfold X7_pairOf
  rw [of_l z3 ok.2.2.1 hf, uB]
  dsimp only
  rw [of_l z3 ok.2.2.1 hs, uB, nI_add, uB]
  refine e2.trans ?_
  rw [e3, uB, ← pv_bh ok.2.2.1 ok.2.2.2.2.1.1 hf hs]
  dsimp only
  have hIt := itn_ok (as_E a) (as_g a) (bhN (as_E a) f s) (bhq (as_E a) f s)
  have htl := items_le hIt
  have hpos := items_pos hIt (show 0 < bhN (as_E a) f s by omega)
  have ho : ∀ pl e, stf (as_E a) (as_g a) (bhN (as_E a) f s) (bhq (as_E a) f s) pl = some e → e < 2147483648 := fun pl e he => by
    have := ldr_lt he
    have := ok.2.2.1.1
    omega
  obtain ⟨g14, gi⟩ := g3
  have h0 : posf (as_E a) (as_g a) (bhN (as_E a) f s) (bhq (as_E a) f s) 0 = 0 := by rw [posf]
  generalize itn (as_E a) (as_g a) (bhN (as_E a) f s) (bhq (as_E a) f s) = t at g14 gi htl hpos ⊢
  obtain ⟨a1, a2, a3⟩ := gi 0 hpos
  rw [h0] at a2 a3
  have hz0 : szf (as_E a) (as_g a) (bhN (as_E a) f s) (bhq (as_E a) f s) 0 ≤ 8 := by
    have := szf_N (E := as_E a) (lg := as_g a) (q := bhq (as_E a) f s) (show 0 < bhN (as_E a) f s by omega)
    omega
  rw [g14, a2, a3]
  unfold pvV
  by_cases c2 : t = 2
  · subst c2
    obtain ⟨b1, b2, b3⟩ := gi 1 (by omega)
    rw [b3, if_pos (show nI 2 = 2 from rfl), if_neg (show ¬ 2 = 1 by omega), if_neg (show ¬ nI 2 = (1 : Int32) by decide), if_neg (show ¬ nI 2 = (1 : Int32) by decide), if_pos (rfl : (0 : Int32) = 0), if_neg one_ne]
    by_cases d0 : stf (as_E a) (as_g a) (bhN (as_E a) f s) (bhq (as_E a) f s) 0 = none
    · rw [if_pos (by rw [d0]; rfl), if_neg (fun x => x.2.1 d0)]; rfl
    · rw [if_neg (fun x => d0 ((oN_m1 _ (ho 0)).mp x))]
      by_cases d1 : stf (as_E a) (as_g a) (bhN (as_E a) f s) (bhq (as_E a) f s) (posf (as_E a) (as_g a) (bhN (as_E a) f s) (bhq (as_E a) f s) 1) = none
      · rw [if_pos (by rw [d1]; rfl), if_neg (fun x => x.2.2.1 d1)]; rfl
      · rw [if_neg (fun x => d1 ((oN_m1 _ (ho _)).mp x))]
        by_cases d2 : szf (as_E a) (as_g a) (bhN (as_E a) f s) (bhq (as_E a) f s) 0 = en_l (as_E a) f
        · rw [if_pos (by rw [d2]), if_pos ⟨rfl, d0, d1, d2⟩]; rfl
        · rw [if_neg (fun x => d2 ((nI_eq (by omega) (by omega)).mp x)), if_neg (fun x => d2 x.2.2.2)]; rfl
  · rw [if_neg (show ¬ nI t = (2 : Int32) from fun x => c2 ((nI_eq (b := 2) (by omega) (by omega)).mp x))]
    by_cases c1 : t = 1
    · rw [if_pos c1, if_pos (show nI t = (1 : Int32) by rw [c1]; rfl)]; rfl
    · rw [if_neg c1, if_neg (show ¬ nI t = (1 : Int32) from fun x => c1 ((nI_eq (b := 1) (by omega) (by omega)).mp x)), if_pos rfl, if_neg (fun x => c2 x.1)]; rfl
theorem r_behind_bad {σ : Mem} {w : Wd} {T : Nat} (ok : WdOk T w) (h : RfP σ w) {x y : Int32} (hx : (x < 0 ∨ nI (en_m (as_E (w_a w))) ≤ x) ∨ ((∃ e, e < en_m (as_E (w_a w)) ∧ x = nI e) ∧ (y < 0 ∨ nI (en_m (as_E (w_a w))) ≤ y))) : Rf (X7_behind σ x y) σ w 1 0 := by
  refine Rf.no h Off.rfl' ?_
  unfold X7_behind
  rcases hx with hx | ⟨⟨e, he, hxe⟩, hy⟩
  · rw [uZ (x7_isEntry_bad ok.1 h.1 hx)]
    exact uZ (h_n σ nn1) _ _
  · rw [hxe, uN (x7_isEntry ok.1 h.1 he) nn1]
    dsimp only
    rw [uZ (x7_isEntry_bad ok.1 h.1 hy)]
    exact uZ (h_n σ nn1) _ _
theorem r_behind {σ : Mem} {w : Wd} {T f s : Nat} (ok : WdOk T w) (h : RfP σ w) (hf : f < en_m (as_E (w_a w))) (hs : s < en_m (as_E (w_a w))) : Rf (X7_behind σ (nI f) (nI s)) σ w 0 (nI (bhV (as_E (w_a w)) (as_g (w_a w)) f s)) := by
  obtain ⟨σ1, e1, f1⟩ := x7_pairOf ok.1 (h.th 0).1 hf hs
  refine Rf.an h ((fr_th σ 0).trans (f1.mono fun c j => pRp_S)) ?_ ?_
  · rw [f1.1 82 0 (by unfold pRp; omega), si_1]
  · unfold X7_behind
    rw [uN (x7_isEntry ok.1 h.1 hf) nn1]
    dsimp only
    rw [uN (x7_isEntry ok.1 h.1 hs) nn1]
    dsimp only
    rw [uN (h_0 σ) nn1]
    dsimp only
    rw [e1, uB]
