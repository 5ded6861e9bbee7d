/-! clashes, the reference's side -/
def cl2 (E : En) (lg k : Nat) : Nat := clS E lg (k / en_m E) + cnt (clB E lg (k / en_m E)) (k % en_m E)
theorem cl2_s {E : En} {lg k : Nat} (hm : 0 < en_m E) : cl2 E lg (k + 1) = cl2 E lg k + (if bhV E lg (k / en_m E) (k % en_m E) = 0 then 0 else 1) := by
  have e := Nat.div_add_mod k (en_m E)
  have hl := Nat.mod_lt k hm
  have key : cnt (clB E lg (k / en_m E)) (k % en_m E + 1) = cnt (clB E lg (k / en_m E)) (k % en_m E) + (if bhV E lg (k / en_m E) (k % en_m E) = 0 then 0 else 1) := by
    by_cases c : bhV E lg (k / en_m E) (k % en_m E) = 0
    · rw [cnt_f (show clB E lg (k / en_m E) (k % en_m E) = false from decide_eq_false (fun x => x c)), if_pos c, Nat.add_zero]
    · rw [cnt_t (show clB E lg (k / en_m E) (k % en_m E) = true from decide_eq_true c), if_neg c]
  unfold cl2
  by_cases c : k % en_m E + 1 < en_m E
  · obtain ⟨h1, h2⟩ := (Nat.div_mod_unique (a := k + 1) (d := k / en_m E) (c := k % en_m E + 1) hm).mpr ⟨by omega, c⟩
    rw [h1, h2, key, Nat.add_assoc]
  · have h3 : k % en_m E + 1 = en_m E := by omega
    obtain ⟨h1, h2⟩ := (Nat.div_mod_unique (a := k + 1) (d := k / en_m E + 1) (c := 0) hm).mpr ⟨by rw [Nat.mul_add, Nat.mul_one]; omega, hm⟩
    rw [h1, h2, clS, cnt, Nat.add_zero, Nat.add_assoc, ← key, h3]
theorem cl2_le {E : En} {lg : Nat} (hm : 0 < en_m E) : ∀ k, cl2 E lg k ≤ k
  | 0 => by
    unfold cl2
    rw [Nat.zero_div, Nat.zero_mod, clS, cnt]
    exact Nat.le_refl _
  | k + 1 => by
    have := cl2_le (lg := lg) hm k
    rw [cl2_s hm]
    split <;> omega
theorem x7_cl_4 {a : As} {T : Nat} (ok : AsOk T a) (hm0 : 0 < en_m (as_E a)) (K : Mem → Int32 → Option (Mem × Int32)) : ∀ (r k fu : Nat) (σ : Mem), k + r = en_m (as_E a) * en_m (as_E a) → r < fu → RS (σ.1 83) 0 a → ∃ σ', X7_clashesOf_4 K fu σ (nI (cl2 (as_E a) (as_g a) k)) (nI k) = K σ' (nI (cl2 (as_E a) (as_g a) (en_m (as_E a) * en_m (as_E a)))) ∧ Fr pRp σ σ'
  | r, k, 0, _, _, h, _ => absurd h (by omega)
  | 0, k, fu + 1, σ, h1, _, h => by
    have hm := ok.2.2.1.1
    have hmm : en_m (as_E a) * en_m (as_E a) ≤ 24 * 24 := Nat.mul_le_mul hm hm
    have : k = en_m (as_E a) * en_m (as_E a) := by omega
    refine ⟨σ, ?_, Fr.rfl'⟩
    rw [X7_clashesOf_4, h.z.2.2.1.m, pk_mul, if_pos (nI_le (by omega) (by omega)), this]
  | r + 1, k, fu + 1, σ, h1, hf, h => by
    have hm := ok.2.2.1.1
    have hmm : en_m (as_E a) * en_m (as_E a) ≤ 24 * 24 := Nat.mul_le_mul hm hm
    have hkm : k / en_m (as_E a) < en_m (as_E a) := (Nat.div_lt_iff_lt_mul hm0).mpr (by omega)
    have hle := cl2_le (E := as_E a) (lg := as_g a) hm0 k
    obtain ⟨σ1, e1, f1⟩ := x7_pairOf ok h hkm (Nat.mod_lt k hm0)
    obtain ⟨σ2, e2, f2⟩ := x7_cl_4 ok hm0 K r (k + 1) fu σ1 (by omega) (by omega) (by rw [f1.s83 n83p]; exact h)
    refine ⟨σ2, ?_, f1.trans f2⟩
    rw [X7_clashesOf_4, h.z.2.2.1.m, pk_mul, if_neg (nI_ge (by omega) (by omega)), if_pos (nI_ne0 hm0 (by omega)), if_pos (nI_ne0 hm0 (by omega)), pk_rem (by omega) hm0 (by omega), pk_div (by omega) hm0 (by omega), e1, uB]
    dsimp only
    rw [cl2_s hm0] at e2
    by_cases c : bhV (as_E a) (as_g a) (k / en_m (as_E a)) (k % en_m (as_E a)) = 0
    · rw [if_pos c, Nat.add_zero] at e2
      rw [if_pos (show nI (bhV (as_E a) (as_g a) (k / en_m (as_E a)) (k % en_m (as_E a))) = 0 by rw [c]; rfl), nI_p0, nI_1]
      exact e2
    · rw [if_neg c] at e2
      have hb : bhV (as_E a) (as_g a) (k / en_m (as_E a)) (k % en_m (as_E a)) ≤ 2 := by unfold bhV; split <;> (try split) <;> (try split) <;> omega
      rw [if_neg (nI_ne0 (by omega) (by omega)), nI_1, nI_1]
      exact e2
theorem x7_clashesOf {σ : Mem} {a : As} {T : Nat} (ok : AsOk T a) (h : RS (σ.1 83) 0 a) : ∃ σ', X7_clashesOf σ = some (σ', nI (clAns a)) ∧ Fr pRp σ σ' := by
  have hm := ok.2.2.1.1
  have hmm : en_m (as_E a) * en_m (as_E a) ≤ 24 * 24 := Nat.mul_le_mul hm hm
  by_cases c : en_m (as_E a) = 0
  · refine ⟨σ, ?_, Fr.rfl'⟩
    unfold X7_clashesOf clAns
    rw [show FU = 999 + 1 from rfl, X7_clashesOf_4, h.z.2.2.1.m, c, if_pos (by decide)]
    rfl
  · have hm0 : 0 < en_m (as_E a) := by omega
    obtain ⟨σ', e, f⟩ := x7_cl_4 ok hm0 (fun (σ : Mem) (v1 : Int32) => some (σ, v1)) (en_m (as_E a) * en_m (as_E a)) 0 FU σ (by omega) (by unfold FU; omega) h
    refine ⟨σ', ?_, f⟩
    unfold X7_clashesOf clAns
    have e0 : cl2 (as_E a) (as_g a) 0 = 0 := by have := cl2_le (E := as_E a) (lg := as_g a) hm0 0; omega
    have e9 : cl2 (as_E a) (as_g a) (en_m (as_E a) * en_m (as_E a)) = clS (as_E a) (as_g a) (en_m (as_E a)) := by
      unfold cl2
      rw [Nat.mul_div_cancel _ hm0, Nat.mul_mod_left, cnt, Nat.add_zero]
    rw [e0, e9] at e
    exact e
theorem r_clashes {σ : Mem} {w : Wd} {T : Nat} (ok : WdOk T w) (h : RfP σ w) : Rf (X7_clashes σ) σ w 0 (nI (clAns (w_a w))) := by
  obtain ⟨σ1, e1, f1⟩ := x7_clashesOf ok.1 (h.th 0).1
  refine Rf.an h ((fr_th σ 0).trans (f1.mono fun c j => pRp_S)) ?_ ?_
  · rw [f1.1 82 0 (by unfold pRp; omega), si_1]
  · unfold X7_clashes
    rw [uB, e1, uB]
/-! least -/
theorem at_of {E : En} {lg N pl e : Nat} {q : Nat → Nat} (he : e < en_m E) : atE E lg N q pl e ↔ en_l E e ≤ lg ∧ rowD E N q pl e = true := by
  rw [rowD_iff]
  exact ⟨fun h => ⟨h.2.1, h.2.2⟩, fun h => ⟨he, h.1, h.2⟩⟩
theorem x7_lst_43 {E : En} (ok : EnOk E) {lg N v : Nat} {p F : Nat → Nat} (hg : lg ≤ 4) (hN : N ≤ 60) (hq : ShOk N p) (hv : v < N) (hF : ∀ j, v < j → j ≤ N → Pt E lg N p (F j) j N ∧ F j ≤ N - j) (K : Mem → Int32 → Option (Mem × Int32)) : ∀ (r e fu : Nat) (σ : Mem) (x : Nat), e + r = en_m E → r < fu → RE (σ.1 83) 0 E → σ.1 83 3 = nI lg → ShR σ N p → σ.1 90 v = nI x → (∀ j, v < j → j ≤ N → σ.1 90 j = nI (F j)) → x ≤ N - v → Pt E lg N p x v N → (∀ e', e' < e → atE E lg N p v e' → x ≤ F (v + en_l E e') + 1) → ∃ σ' x', X7_leastOf_43 K fu σ (nI v) (nI e) = K σ' (nI v) ∧ σ'.1 90 v = nI x' ∧ x' ≤ x ∧ Pt E lg N p x' v N ∧ (∀ e', e' < en_m E → atE E lg N p v e' → x' ≤ F (v + en_l E e') + 1) ∧ Fr (fun c j => c = 90 ∧ j = v) σ σ'
  | r, k, 0, _, _, _, h, _, _, _, _, _, _, _, _ => absurd h (by omega)
  | 0, e, fu + 1, σ, x, h1, _, hE, h3, hS, hx, h90, hxN, hP, hall => by
    have hm := ok.1
    have : e = en_m E := by omega
    subst this
    exact ⟨σ, x, by rw [X7_leastOf_43, hE.m, if_pos (nI_le (by omega) (by omega))], hx, Nat.le_refl _, hP, hall, Fr.rfl'⟩
  | r + 1, e, fu + 1, σ, x, h1, hf, hE, h3, hS, hx, h90, hxN, hP, hall => by
    have hm := ok.1
    have he : e < en_m E := by omega
    have hle := (ok.2 e he).1
    have skip : (atE E lg N p v e → x ≤ F (v + en_l E e) + 1) → X7_leastOf_43 K (fu + 1) σ (nI v) (nI e) = X7_leastOf_43 K fu σ (nI v) (nI e + (1 : Int32)) → ∃ σ' x', X7_leastOf_43 K (fu + 1) σ (nI v) (nI e) = K σ' (nI v) ∧ σ'.1 90 v = nI x' ∧ x' ≤ x ∧ Pt E lg N p x' v N ∧ (∀ e', e' < en_m E → atE E lg N p v e' → x' ≤ F (v + en_l E e') + 1) ∧ Fr (fun c j => c = 90 ∧ j = v) σ σ' := fun hs e1 => by
      obtain ⟨σ', x', e2, b⟩ := x7_lst_43 ok hg hN hq hv hF K r (e + 1) fu σ x (by omega) (by omega) hE h3 hS hx h90 hxN hP (fun e' he' ha => by
        by_cases c : e' = e
        · rw [c] at ha ⊢; exact hs ha
        · exact hall e' (by omega) ha)
      exact ⟨σ', x', by rw [e1, nI_1]; exact e2, b⟩
    by_cases c1 : en_l E e ≤ lg
    · cases c2 : rowD E N p v e with
      | false =>
        refine skip (fun ha => by have := ((at_of he).mp ha).2; rw [c2] at this; cases this) ?_
        rw [X7_leastOf_43, hE.m, if_neg (nI_ge he (by omega)), of_l hE ok he, uB]
        dsimp only
        rw [h3, if_neg (nI_nlt c1 (by omega)), x7_isRow hE ok (Nat.le_trans hN (by omega)) hS hq (by omega) he, uB, c2]
        exact if_pos rfl
      | true =>
        have ha : atE E lg N p v e := (at_of he).mpr ⟨c1, c2⟩
        have hvl := ha.2.2.1
        obtain ⟨p1, p2⟩ := hF (v + en_l E e) (by omega) hvl
        have hF9 := h90 (v + en_l E e) (by omega) hvl
        have pre : X7_leastOf_43 K (fu + 1) σ (nI v) (nI e) = (if nI x ≤ nI (F (v + en_l E e)) then X7_leastOf_43 K fu σ (nI v) (nI e + (1 : Int32)) else X7_leastOf_43 K fu (setI σ 90 v (nI (F (v + en_l E e) + 1))) (nI v) (nI e + (1 : Int32))) := by
          rw [X7_leastOf_43, hE.m, if_neg (nI_ge he (by omega)), of_l hE ok he, uB]
          dsimp only
          rw [h3, if_neg (nI_nlt c1 (by omega)), x7_isRow hE ok (Nat.le_trans hN (by omega)) hS hq (by omega) he, uB, c2]
          dsimp only
          rw [if_neg (show ¬ bI true = 0 by decide), of_l hE ok he, uB]
          dsimp only
          rw [nI_add, if_pos (nI_inA (by omega) (by omega)), if_pos (nI_inA (by omega) (by omega)), nI_clamp (by omega), nI_clamp (by omega), hx, hF9, of_l hE ok he, uB]
          dsimp only
          rw [nI_add, if_pos (nI_inA (show v + en_l E e < 62 by omega) (by omega)), if_pos (nI_inA (show v < 62 by omega) (by omega)), nI_clamp (show v + en_l E e < 2147483648 by omega), hF9, uB, nI_1, nI_1]
        by_cases c3 : x ≤ F (v + en_l E e)
        · refine skip (fun _ => by omega) ?_
          rw [pre, if_pos (nI_le c3 (by omega))]
        · rw [pre, if_neg (nI_ge (by omega) (by omega)), nI_1]
          have f1 : Fr (fun c j => c = 90 ∧ j = v) σ (setI σ 90 v (nI (F (v + en_l E e) + 1))) := Fr.setI ⟨rfl, rfl⟩
          obtain ⟨σ', x', e2, b1, b2, b3, b4, b5⟩ := x7_lst_43 ok hg hN hq hv hF K r (e + 1) fu (setI σ 90 v (nI (F (v + en_l E e) + 1))) (F (v + en_l E e) + 1) (by omega) (by omega) (by rw [f1.s83 (fun j => by omega)]; exact hE) (by rw [si_o _ _ (by omega)]; exact h3) ⟨(si_o _ _ (by omega)).trans hS.1, fun j hj => (si_o _ _ (by omega)).trans (hS.2 j hj)⟩ (si_1 _ _ _ _) (fun j h1 h2 => (si_o _ _ (by omega)).trans (h90 j h1 h2)) (by omega) (Pt.front (Or.inr ⟨e, ha, rfl⟩) p1) (fun e' he' ha' => by
            by_cases c : e' = e
            · rw [c]; exact Nat.le_refl _
            · have := hall e' (by omega) ha'; omega)
          exact ⟨σ', x', e2, b1, by omega, b3, b4, f1.trans b5⟩
    · refine skip (fun ha => absurd ha.2.1 c1) ?_
      rw [X7_leastOf_43, hE.m, if_neg (nI_ge he (by omega)), of_l hE ok he, uB]
      dsimp only
      rw [h3, if_pos (nI_lt (by omega) (by omega))]
/-- the fewest parts from a place on -/
def Lp (E : En) (lg N : Nat) (p : Nat → Nat) (x v : Nat) : Prop := Pt E lg N p x v N ∧ x ≤ N - v ∧ ∀ c, Pt E lg N p c v N → x ≤ c
theorem Lp.step {E : En} (ok : EnOk E) {lg N v x : Nat} {p F : Nat → Nat} (hv : v < N) (hF : ∀ j, v < j → j ≤ N → Lp E lg N p (F j) j) (hP : Pt E lg N p x v N) (h1 : x ≤ F (v + 1) + 1) (h2 : ∀ e, e < en_m E → atE E lg N p v e → x ≤ F (v + en_l E e) + 1) : Lp E lg N p x v := by
  have hn := (hF (v + 1) (by omega) (by omega)).2.1
  refine ⟨hP, by omega, fun c hc => ?_⟩
  cases c with
  | zero => have hc : v = N := hc; omega
  | succ c =>
    obtain ⟨k, s1, s2⟩ := Pt.unfront hc
    have hk := s1.lt ok
    have hkN := Pt.le ok s2
    have hFk := (hF k hk hkN).2.2 c s2
    rcases s1 with s1 | ⟨e, s1, s3⟩
    · rw [s1] at hFk; omega
    · have := h2 e s1.1 s1
      rw [s3] at hFk; omega
theorem x7_lst_21 {E : En} (ok : EnOk E) {lg N : Nat} {p : Nat → Nat} (hg : lg ≤ 4) (hN : N ≤ 60) (hq : ShOk N p) (K : Mem → Option (Mem × Int32)) : ∀ (k fu : Nat) (σ : Mem) (F : Nat → Nat), k ≤ N → k < fu → RE (σ.1 83) 0 E → σ.1 83 3 = nI lg → ShR σ N p → (∀ j, k ≤ j → j ≤ N → σ.1 90 j = nI (F j) ∧ Lp E lg N p (F j) j) → ∃ σ' x, X7_leastOf_21 K fu σ (nI k - (1 : Int32)) = K σ' ∧ σ'.1 90 0 = nI x ∧ Lp E lg N p x 0 ∧ Fr (fun c j => c = 90) σ σ'
  | k, 0, _, _, _, h, _, _, _, _ => absurd h (by omega)
  | 0, fu + 1, σ, F, _, _, hE, h3, hS, hF => by
    obtain ⟨a1, a2⟩ := hF 0 (Nat.le_refl _) (Nat.zero_le _)
    exact ⟨σ, F 0, by rw [X7_leastOf_21, if_pos (by decide)], a1, a2, Fr.rfl'⟩
  | k + 1, fu + 1, σ, F, hk, hf, hE, h3, hS, hF => by
    obtain ⟨a1, a2⟩ := hF (k + 1) (Nat.le_refl _) hk
    have hb := a2.2.1
    have f1 : Fr (fun c j => c = 90) σ (setI σ 90 k (nI (F (k + 1) + 1))) := Fr.setI rfl
    have hE1 : RE ((setI σ 90 k (nI (F (k + 1) + 1))).1 83) 0 E := by rw [f1.s83 (fun j => by omega)]; exact hE
    have hg1 : (setI σ 90 k (nI (F (k + 1) + 1))).1 83 3 = nI lg := (si_o _ _ (by omega)).trans h3
    have hS1 : ShR (setI σ 90 k (nI (F (k + 1) + 1))) N p := ⟨(si_o _ _ (by omega)).trans hS.1, fun j hj => (si_o _ _ (by omega)).trans (hS.2 j hj)⟩
    obtain ⟨σ1, x, e1, b1, b2, b3, b4, b5⟩ := x7_lst_43 (F := F) ok hg hN hq (show k < N by omega) (fun j h1 h2 => ⟨(hF j h1 h2).2.1, (hF j h1 h2).2.2.1⟩) (fun (σ : Mem) (v1 : Int32) => X7_leastOf_21 K fu σ (v1 + (-1 : Int32))) (en_m E) 0 FU (setI σ 90 k (nI (F (k + 1) + 1))) (F (k + 1) + 1) (by omega) (by have := ok.1; unfold FU; omega) hE1 hg1 hS1 (si_1 _ _ _ _) (fun j h1 h2 => (si_o _ _ (by omega)).trans (hF j (by omega) h2).1) (by omega) (Pt.front (Or.inl rfl) a2.1) (fun e' he' => absurd he' (Nat.not_lt_zero e'))
    have hL : Lp E lg N p x k := Lp.step ok (show k < N by omega) (fun j h1 h2 => (hF j h1 h2).2) b3 b2 b4
    have f2 : Fr (fun c j => c = 90) (setI σ 90 k (nI (F (k + 1) + 1))) σ1 := b5.mono fun c j hc => hc.1
    obtain ⟨σ2, x2, e2, d1, d2, d3⟩ := x7_lst_21 ok hg hN hq K k fu σ1 (updn F k x) (by omega) (by omega) (by rw [f2.s83 (fun j => by omega)]; exact hE1) ((f2.1 83 3 (by omega)).trans hg1) ⟨(f2.1 82 10 (by omega)).trans hS1.1, fun j hj => (f2.1 86 j (by omega)).trans (hS1.2 j hj)⟩ (fun j h1 h2 => by
      by_cases c : j = k
      · rw [c, updn_1]; exact ⟨b1, hL⟩
      · rw [updn_o _ _ c, b5.1 90 j (by omega), si_o _ _ (by omega)]; exact hF j (by omega) h2)
    refine ⟨σ2, x2, ?_, d1, d2, (f1.trans f2).trans d3⟩
    rw [X7_leastOf_21, nI_pred, if_neg (nI_pos (by omega)), nI_1, if_pos (nI_inA (by omega) (by omega)), if_pos (nI_inA (by omega) (by omega)), nI_clamp (by omega), nI_clamp (by omega), a1, nI_1, uB]
    refine e1.trans ?_
    rw [show nI k + (-1 : Int32) = nI k - (1 : Int32) from (Int32.sub_eq_add_neg _ _).symm]
    exact e2
def pLs (c j : Nat) : Prop := c = 90 ∨ pRp c j
theorem pLs_S {c j : Nat} (h : pLs c j) : pS c j := by unfold pLs pRp at h; unfold pS; omega
theorem x7_leastOf {σ : Mem} {a : As} {T : Nat} (ok : AsOk T a) (h : RS (σ.1 83) 0 a) : ∃ σ' x, X7_leastOf σ = some (σ', nI x) ∧ LeastIs a x ∧ x ≤ 60 ∧ Fr pLs σ σ' := by
  have hN := ok.1
  obtain ⟨σ1, e1, g1, f1⟩ := x7_readsPaper ok h
  have f2 : Fr (fun c j => c = 90) σ1 (setI σ1 90 (as_N a) 0) := Fr.setI rfl
  have h83 : (setI σ1 90 (as_N a) 0).1 83 = σ.1 83 := (f2.s83 (fun j => by omega)).trans (f1.s83 n83p)
  obtain ⟨σ3, x, e3, b1, b2, f3⟩ := x7_lst_21 ok.2.2.1 ok.2.2.2.2.1.2 hN ok.2.1 (fun (σ : Mem) => some (σ, (σ.1 90 0))) (as_N a) FU (setI σ1 90 (as_N a) 0) (fun _ => 0) (Nat.le_refl _) (by unfold FU; omega) (by rw [h83]; exact h.z.2.2.1) (by rw [h83]; exact h.z.2.2.2.2.1) ⟨(si_o _ _ (by omega)).trans g1.2.1, fun j hj => (si_o _ _ (by omega)).trans (g1.2.2 j hj)⟩ (fun j h1 h2 => by
    have : j = as_N a := by omega
    subst this
    exact ⟨si_1 _ _ _ _, rfl, Nat.zero_le _, fun c _ => Nat.zero_le _⟩)
  refine ⟨σ3, x, ?_, ⟨b2.1, b2.2.2⟩, by have := b2.2.1; omega, ((f1.mono fun c j hc => (Or.inr hc : pLs c j)).trans (f2.mono fun c j hc => (Or.inl hc : pLs c j))).trans (f3.mono fun c j hc => (Or.inl hc : pLs c j))⟩
  unfold X7_leastOf
  rw [e1, uB]
  dsimp only
  rw [g1.2.1, if_pos (nI_inA (by omega) (by omega)), nI_clamp (by omega), uB, si_o _ _ (by omega), g1.2.1]
  refine e3.trans ?_
  rw [b1]
theorem r_least {σ : Mem} {w : Wd} {T x : Nat} (ok : WdOk T w) (h : RfP σ w) (hx : LeastIs (w_a w) x) : Rf (X7_least σ) σ w 0 (nI x) := by
  obtain ⟨σ1, y, e1, h1, h2, f1⟩ := x7_leastOf ok.1 (h.th 0).1
  have hxy := least_one h1 hx
  subst hxy
  refine Rf.an h ((fr_th σ 0).trans (f1.mono fun c j => pLs_S)) ?_ ?_
  · rw [f1.1 82 0 (by unfold pLs pRp; omega), si_1]
  · unfold X7_least
    rw [uB, e1, uB]
