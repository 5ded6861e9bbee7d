/-! keys -/
theorem v31 : ∀ v, v < 10 → ((nI v &&& 31).toBitVec.smod 32).toNat = v := by decide +kernel
theorem x7_keys_4 (K : Mem → Int32 → Option (Mem × Int32)) {σ : Mem} {s : Nat} (hs : s < 1024) : ∀ (r v fu : Nat), v + r = 10 → r < fu → X7_keysOf_4 K fu σ (nI s) (nI (kb v s)) (nI v) = K σ (nI (kys s))
  | r, v, 0, _, h => absurd h (by omega)
  | 0, v, fu + 1, h1, _ => by
    have : v = 10 := by omega
    subst this
    rw [X7_keysOf_4, if_pos (by decide)]
  | r + 1, v, fu + 1, h1, hf => by
    rw [X7_keysOf_4, if_neg (show ¬ (10 : Int32) ≤ nI v from nI_ge (b := 10) (by omega) (by omega)), pk_shrN (by omega) (nI v &&& 31) v (v31 v (by omega)), show (1 : Int32) = nI (2 ^ 1 - 1) from rfl, fa_mask, nI_add]
    rw [show nI v + nI (2 ^ 1 - 1) = nI (v + 1) from nI_add v 1]
    exact x7_keys_4 K hs r (v + 1) fu (by omega) (by omega)
theorem x7_keysOf (σ : Mem) {s : Nat} (hs : s < 1024) : X7_keysOf σ (nI s) = some (σ, nI (kys s)) := x7_keys_4 _ hs 10 0 FU (by omega) (by unfold FU; omega)
theorem x7_keysE_4 {σ : Mem} {E : En} (h : RE (σ.1 83) 0 E) (ok : EnOk E) {e : Nat} (he : e < en_m E) (K : Mem → Int32 → Option (Mem × Int32)) : ∀ (r v fu : Nat), v + r = en_l E e → r < fu → X7_keysOfEntry_4 K fu σ (nI e) (nI (ksum (en_r E e) v)) (nI v) = K σ (nI (en_y E e))
  | r, v, 0, _, h => absurd h (by omega)
  | 0, v, fu + 1, h1, _ => by
    have hl := (ok.2 e he).1
    have hv : v = en_l E e := by omega
    subst hv
    rw [X7_keysOfEntry_4, of_l h ok he, uB, if_pos (nI_le (by omega) (by omega))]
    rfl
  | r + 1, v, fu + 1, h1, hf => by
    have hl := (ok.2 e he).1
    rw [X7_keysOfEntry_4, of_l h ok he, uB, if_neg (nI_ge (by omega) (by omega)), of_r h ok he (by omega), uB]
    dsimp only
    rw [x7_keysOf σ (ok.r he v (by omega)), uB, nI_add, nI_1]
    exact x7_keysE_4 h ok he K r (v + 1) fu (by omega) (by omega)
theorem x7_keysE {σ : Mem} {E : En} (h : RE (σ.1 83) 0 E) (ok : EnOk E) {e : Nat} (he : e < en_m E) : X7_keysOfEntry σ (nI e) = some (σ, nI (en_y E e)) := x7_keysE_4 h ok he _ (en_l E e) 0 FU (by omega) (by have := (ok.2 e he).1; unfold FU; omega)
/-! a row on the sheet -/
def ShR (σ : Mem) (N : Nat) (q : Nat → Nat) : Prop := σ.1 82 10 = nI N ∧ ∀ j, j < N → σ.1 86 j = nI (q j)
def rowP (E : En) (N : Nat) (q : Nat → Nat) (pl e : Nat) : Prop := pl + en_l E e ≤ N ∧ ∀ k, k < en_l E e → q (pl + k) = en_r E e k
def rowD (E : En) (N : Nat) (q : Nat → Nat) (pl e : Nat) : Bool := decide (pl + en_l E e ≤ N) && decide (∀ k, k < en_l E e → q (pl + k) = en_r E e k)
theorem rowD_iff {E : En} {N : Nat} {q : Nat → Nat} {pl e : Nat} : rowD E N q pl e = true ↔ rowP E N q pl e := by
  unfold rowD rowP
  rw [Bool.and_eq_true, decide_eq_true_iff, decide_eq_true_iff]
theorem x7_isRow_27 {σ : Mem} {E : En} (h : RE (σ.1 83) 0 E) (ok : EnOk E) {N pl e : Nat} {q : Nat → Nat} (hN : N ≤ 61) (hS : ShR σ N q) (hq : ShOk N q) (he : e < en_m E) (hp : pl + en_l E e ≤ N) (K : Mem → Int32 → Option (Mem × Int32)) : ∀ (r v fu : Nat), v + r = en_l E e → r < fu → (∀ k, k < v → q (pl + k) = en_r E e k) → X7_isRow_27 K fu σ (nI e) (nI pl) (nI (en_l E e)) (1 : Int32) (nI v) = K σ (bI (decide (∀ k, k < en_l E e → q (pl + k) = en_r E e k)))
  | r, v, 0, _, h, _ => absurd h (by omega)
  | 0, v, fu + 1, h1, _, hk => by
    have hl := (ok.2 e he).1
    have hv : v = en_l E e := by omega
    rw [X7_isRow_27, if_pos (nI_le (by omega) (by omega)), decide_eq_true (fun k hk2 => hk k (by omega))]
    rfl
  | r + 1, v, fu + 1, h1, hf, hk => by
    have hl := (ok.2 e he).1
    have r1 := (ok.2 e he).2.1 v (by omega)
    have r2 := hq (pl + v) (by omega)
    rw [X7_isRow_27, if_neg (nI_ge (by omega) (by omega)), if_neg one_ne, nI_add, if_pos (nI_inA (by omega) (by omega)), nI_clamp (by omega), hS.2 (pl + v) (by omega), of_r h ok he (by omega), uB]
    dsimp only
    by_cases c : q (pl + v) = en_r E e v
    · rw [if_pos (by rw [c]), nI_1]
      exact x7_isRow_27 h ok hN hS hq he hp K r (v + 1) fu (by omega) (by omega) (fun k hk2 => by
        by_cases c2 : k = v
        · rw [c2]; exact c
        · exact hk k (by omega))
    · rw [if_neg (fun x => c ((nI_eq (by omega) (by omega)).mp x)), nI_1, decide_eq_false (fun x => c (x v (by omega)))]
      cases fu with
      | zero => omega
      | succ fu =>
        rw [X7_isRow_27]
        split
        · rfl
        · rw [if_pos rfl]; rfl
theorem x7_isRow {σ : Mem} {E : En} (h : RE (σ.1 83) 0 E) (ok : EnOk E) {N pl e : Nat} {q : Nat → Nat} (hN : N ≤ 61) (hS : ShR σ N q) (hq : ShOk N q) (hpl : pl ≤ 61) (he : e < en_m E) : X7_isRow σ (nI e) (nI pl) = some (σ, bI (rowD E N q pl e)) := by
  have hl := (ok.2 e he).1
  unfold X7_isRow rowD
  rw [of_l h ok he, uB]
  dsimp only
  rw [hS.1, nI_add]
  by_cases c : pl + en_l E e ≤ N
  · rw [if_neg (nI_nlt (by omega) (by omega)), decide_eq_true c, Bool.true_and]
    refine (x7_isRow_27 h ok hN hS hq he c _ (en_l E e) 0 FU (by omega) (by unfold FU; omega) (fun k hk => absurd hk (by omega))).trans ?_
    rw [bI_and1, if_pos rfl]
  · rw [if_pos (nI_lt (by omega) (by omega)), decide_eq_false c, Bool.false_and, show FU = 999 + 1 from rfl, X7_isRow_27, if_neg (show ¬ nI (en_l E e) ≤ (0 : Int32) from nI_nle (by omega) (by omega)), if_pos rfl]
    exact if_pos and1_0
/-! what is taken at a place -/
def atB (E : En) (lg N : Nat) (q : Nat → Nat) (pl e : Nat) : Bool := decide (en_l E e ≤ lg) && rowD E N q pl e && leB E e (en_m E)
theorem atB_iff {E : En} {lg N pl e : Nat} {q : Nat → Nat} (he : e < en_m E) : atB E lg N q pl e = true ↔ atE E lg N q pl e ∧ leadP E e := by
  unfold atB
  rw [Bool.and_eq_true, Bool.and_eq_true, decide_eq_true_iff, rowD_iff, leB_lead]
  exact ⟨fun h => ⟨⟨he, h.1.1, h.1.2.1, h.1.2.2⟩, h.2⟩, fun h => ⟨⟨h.1.2.1, h.1.2.2.1, h.1.2.2.2⟩, h.2⟩⟩
theorem x7_at_36 {σ : Mem} {E : En} (h : RE (σ.1 83) 0 E) (ok : EnOk E) {lg N pl e : Nat} {q : Nat → Nat} (hlg : σ.1 83 3 = nI lg) (hl4 : lg ≤ 4) (hN : N ≤ 61) (hS : ShR σ N q) (hq : ShOk N q) (hpl : pl ≤ 61) (he : e < en_m E) (K : Mem → Int32 → Option (Mem × Int32)) (rc : Mem → Int32 → Int32 → Int32 → Option (Mem × Int32)) (f : Int32) {x : Int32} (b : Bool) (hb : b = false ↔ x ≤ 0) : X7_entryAt_36 K rc σ (nI pl) f (nI e) x = rc σ (nI pl) (if b = true ∧ atB E lg N q pl e = true then nI e else f) (nI (e + 1)) := by
  have hle := (ok.2 e he).1
  unfold X7_entryAt_36
  cases hbv : b with
  | false => rw [if_pos (hb.mp hbv), if_neg (by simp), nI_1]
  | true =>
    rw [if_neg (fun y => by have := hb.mpr y; rw [hbv] at this; cases this), of_l h ok he, uB]
    dsimp only
    rw [hlg, nI_1]
    unfold atB
    by_cases c1 : en_l E e ≤ lg
    · rw [if_neg (nI_nlt c1 (by omega)), decide_eq_true c1, Bool.true_and, x7_isRow h ok hN hS hq hpl he, uB]
      dsimp only
      cases c2 : rowD E N q pl e with
      | false => rw [if_pos (show bI false = 0 from rfl), if_neg (by simp)]
      | true =>
        rw [if_neg (show ¬ bI true = 0 by decide), x7_leads h ok he, uB]
        dsimp only
        cases c3 : leB E e (en_m E) with
        | false => rw [if_pos (show bI false = 0 from rfl), if_neg (by simp)]
        | true => rw [if_neg (show ¬ bI true = 0 by decide), if_pos (by simp)]
    · rw [if_pos (nI_lt (by omega) (by omega)), decide_eq_false c1, if_neg (by simp)]
theorem rAt_lt {E : En} {lg N : Nat} {q : Nat → Nat} {pl : Nat} {B : Nat → Bool} {n e : Nat} (h : rAt E lg N q pl B n = some e) : e < n := (rAt_some h).1
theorem x7_at_4 {σ : Mem} {E : En} (h : RE (σ.1 83) 0 E) (ok : EnOk E) {lg N pl : Nat} {q : Nat → Nat} (hlg : σ.1 83 3 = nI lg) (hl4 : lg ≤ 4) (hN : N ≤ 61) (hS : ShR σ N q) (hq : ShOk N q) (hpl : pl ≤ 61) (K : Mem → Int32 → Option (Mem × Int32)) : ∀ (r e fu : Nat), e + r = en_m E → r < fu → X7_entryAt_4 K fu σ (nI pl) (oN (rAt E lg N q pl (atB E lg N q pl) e)) (nI e) = K σ (oN (rAt E lg N q pl (atB E lg N q pl) (en_m E)))
  | r, e, 0, _, h => absurd h (by omega)
  | 0, e, fu + 1, h1, _ => by
    have hm := ok.1
    have : e = en_m E := by omega
    subst this
    rw [X7_entryAt_4, h.m, if_pos (nI_le (by omega) (by omega))]
  | r + 1, e, fu + 1, h1, hf => by
    have hm := ok.1
    have he : e < en_m E := by omega
    have hle := (ok.2 e he).1
    have ih := x7_at_4 h ok hlg hl4 hN hS hq hpl K r (e + 1) fu (by omega) (by omega)
    rw [X7_entryAt_4, h.m, if_neg (nI_ge (by omega) (by omega))]
    cases hr : rAt E lg N q pl (atB E lg N q pl) e with
    | none =>
      rw [if_pos (show oN none = (-1 : Int32) from rfl), x7_at_36 h ok hlg hl4 hN hS hq hpl he K _ _ true (by decide)]
      have e1 : oN (rAt E lg N q pl (atB E lg N q pl) (e + 1)) = if true = true ∧ atB E lg N q pl e = true then nI e else oN none := by
        rw [rAt, hr]
        dsimp only
        by_cases c : atB E lg N q pl e = true
        · rw [if_pos c, if_pos ⟨rfl, c⟩]; rfl
        · rw [if_neg c, if_neg (fun x => c x.2)]
      rw [← e1]
      exact ih
    | some f =>
      have hfe := rAt_lt hr
      have hlf := (ok.2 f (by omega)).1
      have z0 : (0 : Int32).toInt = 0 := by decide
      rw [if_neg (show ¬ oN (some f) = (-1 : Int32) from nI_nem1 (by omega)), of_l h ok he, uB]
      dsimp only
      rw [show oN (some f) = nI f from rfl, of_l h ok (show f < en_m E by omega), uB]
      dsimp only
      rw [x7_at_36 h ok hlg hl4 hN hS hq hpl he K _ _ (decide (en_l E f < en_l E e)) (by
        rw [decide_eq_false_iff_not, Int32.le_iff_toInt_le, pk_sub_toInt (by omega) (by omega), z0]
        omega)]
      have e1 : oN (rAt E lg N q pl (atB E lg N q pl) (e + 1)) = if decide (en_l E f < en_l E e) = true ∧ atB E lg N q pl e = true then nI e else nI f := by
        rw [rAt, hr]
        dsimp only
        by_cases c : en_l E f < en_l E e ∧ atB E lg N q pl e = true
        · rw [if_pos c, if_pos ⟨decide_eq_true c.1, c.2⟩]; rfl
        · rw [if_neg c, if_neg (fun x => c ⟨of_decide_eq_true x.1, x.2⟩)]; rfl
      rw [← e1]
      exact ih
theorem x7_at {σ : Mem} {E : En} (h : RE (σ.1 83) 0 E) (ok : EnOk E) {lg N pl : Nat} {q : Nat → Nat} (hlg : σ.1 83 3 = nI lg) (hl4 : 1 ≤ lg ∧ lg ≤ 4) (hN : N ≤ 61) (hS : ShR σ N q) (hq : ShOk N q) (hpl : pl < N) : X7_entryAt σ (nI pl) = some (σ, oN (stf E lg N q pl)) := by
  have := x7_at_4 h ok hlg hl4.2 hN hS hq (show pl ≤ 61 by omega) (fun σ v => some (σ, v)) (en_m E) 0 FU (by omega) (by have := ok.1; unfold FU; omega)
  rw [rAt_stf ok hq hpl hl4.1 (fun e he => atB_iff he)] at this
  exact this
