/-! ifStruck, begun -/
def ifAns (a : As) (s what : Nat) : Int32 := if what = 0 then oN ((as_st (asPut a s) (as_t (asPut a s) - 1)).map (en_w (as_E a))) else if what = 1 then nI (as_sz (asPut a s) (as_t (asPut a s) - 1)) else nI (as_t (asPut a s))
theorem q_if_bad {σ : Mem} {x y : Int32} (h : bad x 1 1023 ∨ bad y 0 2) : X6_ifStruck σ x y = some (σ, Sum.inr 0) := by
  unfold X6_ifStruck
  rcases bad_or x 1 1023 (by omega) with c | ⟨s, s1, s2, rfl⟩
  · by_cases c2 : x ≤ 0
    · rw [if_pos c2]
    · rw [if_neg c2, if_neg (fun c3 => by
        rcases c with c | c
        · have h1 := nI_toInt (n := 1) (by omega)
          have h0 := nI_toInt (n := 0) (by omega)
          rw [Int32.lt_iff_toInt_lt] at c
          rw [Int32.le_iff_toInt_le] at c2
          have : (0 : Int32).toInt = 0 := by decide
          omega
        · rw [Int32.lt_iff_toInt_lt] at c
          rw [Int32.le_iff_toInt_le] at c3
          have : (1023 : Int32).toInt = (nI 1023).toInt := rfl
          omega)]
  · rcases h with h | h
    · rcases h with h | h
      · exact absurd h (nI_nlt s1 (by omega))
      · exact absurd h (nI_nlt s2 (by omega))
    · rw [if_neg (nI_nle (by omega) (by omega)), if_pos (show nI s ≤ (1023 : Int32) from nI_le (b := 1023) (by omega) (by omega))]
      exact bad_iflt (lo := 0) (hi := 2) h (by omega) (by omega)
theorem shOk_put {a : As} {T s : Nat} (ok : AsOk T a) (hs : 1 ≤ s ∧ s < 1024) : ShOk (as_N (asPut a s)) (as_p (asPut a s)) := fun t ht => by
  have ht : t < as_N a + 1 := ht
  show 1 ≤ updn (as_p a) (as_N a) s t ∧ updn (as_p a) (as_N a) s t < 1024
  by_cases c2 : t = as_N a
  · rw [c2, updn_1]; omega
  · rw [updn_o _ _ c2]; exact ok.2.1 t (by omega)
theorem upd_updn (p : Nat → Nat) (n s : Nat) : upd (fun j => nI (p j)) n (nI s) = fun j => nI (updn p n s j) := by
  funext j
  unfold upd updn
  by_cases c : j = n
  · rw [if_pos c, if_pos c]
  · rw [if_neg c, if_neg c]
theorem q_if {σ : Mem} {w : Wd} {T s what : Nat} (hP : ClP σ w) (hS : ClS σ) (ok : AsOk T (w_a w)) (hs : 1 ≤ s ∧ s < 1024) (hw : what ≤ 2) : Ans (X6_ifStruck σ (nI s) (nI what)) σ w (Sum.inl (ifAns (w_a w) s what)) ∧ ∀ σ', X6_ifStruck σ (nI s) (nI what) = some (σ', Sum.inl (ifAns (w_a w) s what)) → Off 68 77 σ σ' := by
  have hN := ok.1
  obtain ⟨n, f, hn, hr⟩ := hS.2.2.1
  rw [cap75'] at hn
  obtain ⟨σ1, e1, g1, o1⟩ := x3_become (i := 75) (j := 1) (by omega) (by rw [cap75']; omega) (by rw [cap75']; omega) (by rw [cap1']; exact hN) (by rw [cap1']; omega) hP.1.1
  obtain ⟨σ2, e2, g2, o2⟩ := x3_put g1 (by rw [cap75']; omega) (by rw [cap75']; omega) (nI s)
  rw [upd_updn] at g2
  obtain ⟨σ3, e3, g3, o3⟩ := x2_drop0 cap68 ((hS.2.1.off o1 (by omega)).off o2 (by omega))
  have hA3 : StC σ3 0 (w_a w) := ((hP.1.off o1 (by omega)).off o2 (by omega)).off o3 (by omega)
  obtain ⟨σ4, e4, g4, o4⟩ := x2_readOn0 (c := 68) (j := 75) (j2 := 0) (N := as_N (asPut (w_a w) s)) (q := as_p (asPut (w_a w) s)) cap68 (by rw [cap75']; show as_N (w_a w) + 1 ≤ 61; omega) (by rw [cap75']; omega) (by omega) (by omega) ok.2.2.1 (shOk_put ok hs) ok.2.2.2.2.1 (g2.off o3 (by omega)) hA3.2.1 hA3.2.2.2.1 g3
  have oo : Off 68 77 σ σ4 := (((o1.mono (by omega) (by omega)).trans (o2.mono (by omega) (by omega))).trans (o3.mono (by omega) (by omega))).trans (o4.mono (by omega) (by omega))
  have hl := last_item (a := asPut (w_a w) s) (by show 0 < as_N (w_a w) + 1; omega)
  have ht : as_t (asPut (w_a w) s) ≤ 61 := by
    have := items_le (itn_ok (as_E (asPut (w_a w) s)) (as_g (asPut (w_a w) s)) (as_N (asPut (w_a w) s)) (as_p (asPut (w_a w) s)))
    exact Nat.le_trans this (by show as_N (w_a w) + 1 ≤ 61; omega)
  have hlt : as_t (asPut (w_a w) s) - 1 < as_t (asPut (w_a w) s) := Nat.sub_lt hl.1 (by omega)
  have e5 : X2_size 68 σ4 = some (σ4, nI (as_t (asPut (w_a w) s))) := by
    unfold X2_size X3_length
    rw [uB]
    dsimp only
    rw [show σ4.1 (68 + 1) 1 = _ from g4.1.1]
    rfl
  have em : nI (as_t (asPut (w_a w) s)) - 1 = nI (as_t (asPut (w_a w) s) - 1) := by rw [k_1, pk_sub hl.1]
  have e0 : X6_ifStruck σ (nI s) (nI what) = some (σ4, Sum.inl (ifAns (w_a w) s what)) := by
    unfold X6_ifStruck
    rw [if_neg (nI_nle (by omega) (by omega)), if_pos (show nI s ≤ (1023 : Int32) from nI_le (b := 1023) (by omega) (by omega))]
    refine (good_iflt (lo := 0) (hi := 2) (by omega) (by omega) (by omega)).trans ?_
    rw [e1, uB, e2, uB, e3, uB, e4, uB, e5, uB]
    dsimp only
    unfold ifAns
    rcases (show what = 0 ∨ what = 1 ∨ what = 2 by omega) with c | c | c <;> subst c
    · have hE4 : EnC σ4 3 (as_E (w_a w)) := hA3.2.1.off o4 (by omega)
      have e6 : X2_leaderAt 68 σ4 (nI (as_t (asPut (w_a w) s) - 1)) = some (σ4, oN (as_st (asPut (w_a w) s) (as_t (asPut (w_a w) s) - 1))) := by
        unfold X2_leaderAt
        rw [x3_at g4.2.2 (by rw [cap73']; exact ht) (by rw [cap73']; omega) hlt, uB]
        rfl
      rw [if_pos (show nI 0 = 0 from rfl), em, e6, uB, x0_wordOf_o hE4 ok.2.2.1 (fun e he => as_st_m (a := asPut (w_a w) s) he), uB]; rfl
    · have e6 : X2_lengthAt 68 σ4 (nI (as_t (asPut (w_a w) s) - 1)) = some (σ4, nI (as_sz (asPut (w_a w) s) (as_t (asPut (w_a w) s) - 1))) := by
        unfold X2_lengthAt
        rw [x3_at g4.2.1 (by rw [cap71']; exact ht) (by rw [cap71']; omega) hlt, uB]
        rfl
      rw [if_neg (show ¬ nI 1 = 0 by decide), if_pos (show nI 1 = 1 from rfl), em, e6, uB]; rfl
    · rw [if_neg (show ¬ nI 2 = 0 by decide), if_neg (show ¬ nI 2 = 1 by decide), e5, uB]; rfl
  refine ⟨⟨σ4, e0, hP.off oo (by omega) (by omega), hS.s68 oo (Rd.i g4 (by show as_N (w_a w) + 1 ≤ 61; omega)) ⟨_, _, by rw [cap75']; show as_N (w_a w) + 1 ≤ 61; omega, (g2.off o3 (by omega)).off o4 (by omega)⟩, oo.mono (by omega) (by omega)⟩, fun σ' h' => ?_⟩
  rw [e0] at h'
  cases h'
  exact oo
def beAns (a : As) (s : Nat) : Nat := if s ≤ as_N a then cnt (lgt (as_E a) (pac (shf (as_p a) (as_N a - s)) s) s) (en_m (as_E a)) else 0
theorem q_begun_bad {σ : Mem} {x : Int32} (h : bad x 1 3) : X6_begun σ x = some (σ, Sum.inr 0) := by
  unfold X6_begun
  exact bad_iflt (lo := 1) (hi := 3) h (by omega) (by omega)
theorem q_begun {σ : Mem} {w : Wd} {T s : Nat} (hP : ClP σ w) (ok : AsOk T (w_a w)) (hs : 1 ≤ s ∧ s ≤ 3) : X6_begun σ (nI s) = some (σ, Sum.inl (nI (beAns (w_a w) s))) := by
  have hN := ok.1
  unfold X6_begun X3_length
  refine (good_iflt (lo := 1) (hi := 3) (by omega) (by omega) (by omega)).trans ?_
  rw [uB]
  dsimp only
  rw [hP.1.1.1]
  unfold beAns
  by_cases c : s ≤ as_N (w_a w)
  · have hlt := pac_lt4 (q := shf (as_p (w_a w)) (as_N (w_a w) - s)) (L := s) (by omega) (fun t ht => (ok.2.1 _ (by omega)).2)
    rw [pk_sub c, if_pos (nI_pos' (by omega)), hP.1.p ok (by omega) (by omega), uB]
    dsimp only
    rw [x0_longerThan hP.1.2.1 ok.2.2.1 (by omega) (by omega), uB, if_pos c]
  · rw [if_neg (fun x => by
      rw [Int32.le_iff_toInt_le, pk_sub_toInt (by omega) (by omega)] at x
      have : (0 : Int32).toInt = 0 := by decide
      omega), if_neg c]; rfl
/-! shortest -/
def tellB (a : As) (wd e : Nat) : Bool := decide (en_w (as_E a) e = wd) && decide (en_l (as_E a) e ≤ as_g a) && decide (ldr (as_E a) (en_k (as_E a) e) (en_m (as_E a)) = some e)
def shrB (a : As) (e b : Nat) : Bool := decide (en_l (as_E a) e < en_l (as_E a) b ∨ (en_l (as_E a) e = en_l (as_E a) b ∧ en_y (as_E a) e < en_y (as_E a) b))
def shF (a : As) (wd : Nat) : Nat → Option Nat
  | 0 => none
  | e + 1 => match shF a wd e with
    | none => if tellB a wd e = true then some e else none
    | some b => if tellB a wd e = true ∧ shrB a e b = true then some e else some b
theorem shF_lt {a : As} {wd : Nat} : ∀ {n e : Nat}, shF a wd n = some e → e < n
  | 0, e, h => by cases h
  | n + 1, e, h => by
    rw [shF] at h
    cases hs : shF a wd n with
    | none =>
      rw [hs] at h
      have h : (if tellB a wd n = true then some n else none) = some e := h
      split at h
      · cases h; omega
      · cases h
    | some b =>
      rw [hs] at h
      have h : (if tellB a wd n = true ∧ shrB a n b = true then some n else some b) = some e := h
      have := shF_lt hs
      split at h <;> cases h <;> omega
theorem x6_canTell {σ : Mem} {a : As} {T wd e : Nat} (ok : AsOk T a) (ha : StC σ 0 a) (he : e < en_m (as_E a)) (hw : wd < 100) : X6_canTell σ (nI e) (nI wd) = some (σ, bI (tellB a wd e)) := by
  have hm := ok.2.2.1.1
  have hk := ok.2.2.1.klt he
  have h2 := ok.2.2.1.2 e he
  have hl := ok.2.2.2.2.1
  unfold X6_canTell tellB
  rw [x0_rowOf ha.2.1 ok.2.2.1 he, uB, x0_wordOf ha.2.1 ok.2.2.1 he, uB]
  dsimp only
  by_cases c1 : en_w (as_E a) e = wd
  · rw [if_pos (by rw [c1]), en_len ok.2.2.1 he, uB]
    dsimp only
    rw [ha.2.2.2.1, decide_eq_true c1]
    by_cases c2 : en_l (as_E a) e ≤ as_g a
    · rw [if_neg (nI_nlt c2 (by omega)), x0_leaderOf ha.2.1 ok.2.2.1 (by omega), uB, decide_eq_true c2]
      dsimp only
      have h3 := oN_eq (o := ldr (as_E a) (en_k (as_E a) e) (en_m (as_E a))) (e := e) (fun x hx => by have := ldr_lt hx; omega) (by omega)
      by_cases c3 : ldr (as_E a) (en_k (as_E a) e) (en_m (as_E a)) = some e
      · rw [if_pos (by rw [h3]; exact c3), decide_eq_true c3]; rfl
      · rw [if_neg (by rw [h3]; exact c3), decide_eq_false c3]; rfl
    · rw [if_pos (nI_lt (by omega) (by omega)), decide_eq_false c2]; rfl
  · rw [if_neg (fun x => c1 ((nI_eq (by omega) (by omega)).mp x)), decide_eq_false c1]; rfl
theorem x6_isShorter {σ : Mem} {a : As} {T e b : Nat} (ok : AsOk T a) (ha : StC σ 0 a) (he : e < en_m (as_E a)) (hb : b < en_m (as_E a)) : X6_isShorter σ (nI e) (nI b) = some (σ, bI (shrB a e b)) := by
  have h1 := ok.2.2.1.2 e he
  have h2 := ok.2.2.1.2 b hb
  have y1 := en_y_le ok.2.2.1 he
  have y2 := en_y_le ok.2.2.1 hb
  unfold X6_isShorter shrB
  rw [x0_rowOf ha.2.1 ok.2.2.1 he, uB, x0_rowOf ha.2.1 ok.2.2.1 hb, uB]
  dsimp only
  rw [en_len ok.2.2.1 he, uB, en_len ok.2.2.1 hb, uB]
  dsimp only
  by_cases c : en_l (as_E a) e = en_l (as_E a) b
  · rw [if_pos (by rw [c]), en_bc ok.2.2.1 he, uB, en_bc ok.2.2.1 hb, uB]
    dsimp only
    by_cases c2 : en_y (as_E a) e < en_y (as_E a) b
    · rw [if_neg (nI_ge c2 (by omega)), decide_eq_true (Or.inr ⟨c, c2⟩)]; rfl
    · rw [if_pos (nI_le (by omega) (by omega)), decide_eq_false (by omega)]; rfl
  · rw [if_neg (fun x => c ((nI_eq (by omega) (by omega)).mp x))]
    by_cases c2 : en_l (as_E a) e < en_l (as_E a) b
    · rw [if_neg (nI_ge c2 (by omega)), decide_eq_true (Or.inl c2)]; rfl
    · rw [if_pos (nI_le (by omega) (by omega)), decide_eq_false (by omega)]; rfl
theorem x6_shortest_24 {a : As} {T wd : Nat} (ok : AsOk T a) (hw : wd < 100) (K : Mem → Int32 → Option (Mem × (Int32 ⊕ Nat))) {σ : Mem} (ha : StC σ 0 a) : ∀ (r e fu : Nat), e + r = en_m (as_E a) → r < fu → X6_shortest_24 K fu σ (nI wd) (oN (shF a wd e)) (nI e) = K σ (oN (shF a wd (en_m (as_E a))))
  | 0, e, 0, _, h => absurd h (by omega)
  | r + 1, e, 0, _, h => absurd h (by omega)
  | 0, e, fu + 1, h1, _ => by
    have hm := ok.2.2.1.1
    have : e = en_m (as_E a) := by omega
    subst this
    unfold X6_shortest_24 X0_size
    rw [uB, ha.2.1.1, if_pos (nI_le (by omega) (by omega))]
  | r + 1, e, fu + 1, h1, hf => by
    have hm := ok.2.2.1.1
    have he : e < en_m (as_E a) := by omega
    have ih := x6_shortest_24 ok hw K ha r (e + 1) fu (by omega) (by omega)
    unfold X6_shortest_24 X0_size
    rw [uB, ha.2.1.1, if_neg (nI_ge (by omega) (by omega)), x6_canTell ok ha he hw, uB]
    dsimp only
    cases ct : tellB a wd e with
    | false =>
      rw [if_pos (show bI false = 0 from rfl), nI_1]
      have : shF a wd (e + 1) = shF a wd e := by
        rw [shF]
        cases hs : shF a wd e with
        | none => exact if_neg (by rw [ct]; decide)
        | some b => exact if_neg (by rw [ct]; intro x; cases x.1)
      rw [this] at ih
      exact ih
    | true =>
      rw [if_neg (show ¬ bI true = 0 by decide), nI_1]
      cases hs : shF a wd e with
      | none =>
        have : shF a wd (e + 1) = some e := by rw [shF, hs]; exact if_pos ct
        rw [this] at ih
        rw [if_pos (show oN none = (-1 : Int32) from rfl)]
        exact ih
      | some b =>
        have hb := shF_lt hs
        rw [if_neg (show ¬ oN (some b) = (-1 : Int32) from nI_nem1 (by omega)), show oN (some b) = nI b from rfl, x6_isShorter ok ha he (by omega), uB]
        dsimp only
        cases cs : shrB a e b with
        | false =>
          have : shF a wd (e + 1) = some b := by rw [shF, hs]; exact if_neg (by rw [cs]; intro x; cases x.2)
          rw [this] at ih
          rw [if_pos (show bI false = 0 from rfl)]
          exact ih
        | true =>
          have : shF a wd (e + 1) = some e := by rw [shF, hs]; exact if_pos ⟨ct, cs⟩
          rw [this] at ih
          rw [if_neg (show ¬ bI true = 0 by decide)]
          exact ih
theorem q_shortest_bad {σ : Mem} {x : Int32} (h : bad x 0 99) : X6_shortest σ x = some (σ, Sum.inr 0) := by
  unfold X6_shortest
  exact bad_if (lo := 0) (hi := 99) h (by omega) (by omega)
theorem q_shortest {σ : Mem} {w : Wd} {T wd : Nat} (hP : ClP σ w) (ok : AsOk T (w_a w)) (hw : wd ≤ 99) : X6_shortest σ (nI wd) = some (σ, Sum.inl (oN (shF (w_a w) wd (en_m (as_E (w_a w)))))) := by
  unfold X6_shortest
  refine (good_if (lo := 0) (hi := 99) (by omega) (by omega) (by omega)).trans ?_
  exact x6_shortest_24 ok (by omega) _ hP.1 (en_m (as_E (w_a w))) 0 FU (by omega) (by have := ok.2.2.1.1; unfold FU; omega)
