/-! play -/
theorem ClS.s77 {σ σ' : Mem} (h : ClS σ) (o : Off 77 79 σ σ') (h2 : RowI σ' 77) : ClS σ' := ⟨h.1.off o (by omega), h.2.1.off o (by omega), h.2.2.1.off o (by omega), h2, h.2.2.2.2.off o (by omega)⟩
abbrev w_r (w : Wd) : Tr := tRead (w_n w) (w_t w)
theorem x6_told {σ : Mem} {w : Wd} (hP : ClP σ w) (hS : ClS σ) (hx : TxOk (w_n w) (w_t w)) : ∃ σ', X1_tellStrokes 77 σ = some (σ', bI (w_r w).1) ∧ ClP σ' w ∧ ClS σ' ∧ RowIs σ' 77 (w_r w).2.2.1 (fun j => nI ((w_r w).2.2.2 j)) ∧ Off 77 79 σ σ' := by
  obtain ⟨σ1, e1, g1, o1⟩ := x1_tell hx hP.2.2.2.2 hS.2.2.2.1
  have := tRead_ok (n := w_n w) (t := w_t w) hx.1
  exact ⟨σ1, e1, hP.off o1 (by omega) (by omega), hS.s77 o1 ⟨_, _, by rw [cap77']; exact Nat.le_trans this.2.2.1 (by omega), g1⟩, g1, o1⟩
/-! define -/
def rowB (r : Tr) : Bool := r.1 && decide (r.2.2.1 ≤ 4) && decide (∀ j, j < r.2.2.1 → r.2.2.2 j ≠ 0)
theorem x6_canBeRow_2 {c : Nat} {tl : Nat → Nat} (hc : c ≤ 31) (htl : ∀ j, j < c → tl j < 1024) (K : Mem → Option (Mem × Int32)) {σ : Mem} (h : RowIs σ 77 c (fun j => nI (tl j))) : ∀ (r v fu : Nat), v + r = c → r < fu → X6_canBeRow_2 77 K fu σ (nI v) = if (∀ j, j < c → v ≤ j → tl j ≠ 0) then K σ else some (σ, 0)
  | r, v, 0, _, h => absurd h (by omega)
  | 0, v, fu + 1, h1, _ => by
    unfold X6_canBeRow_2 X3_length
    rw [uB, h.1, if_pos (nI_le (by omega) (by omega)), if_pos (fun j h1 h2 => absurd h1 (by omega))]
  | r + 1, v, fu + 1, h1, hf => by
    have hv := htl v (by omega)
    have ih := x6_canBeRow_2 hc htl K h r (v + 1) fu (by omega) (by omega)
    unfold X6_canBeRow_2 X3_length
    rw [uB, h.1, if_neg (nI_ge (by omega) (by omega)), x3_at h (by rw [cap77']; omega) (by rw [cap77']; omega) (by omega), uB]
    dsimp only
    by_cases c0 : tl v = 0
    · rw [if_pos (show nI (tl v) = 0 by rw [c0]; rfl), if_neg (fun x => x v (by omega) (Nat.le_refl _) c0)]
    · rw [if_neg (nI_ne0 (by omega) (by omega)), nI_1, ih]
      congr 1
      refine propext ⟨fun x j h1 h2 => ?_, fun x j h1 h2 => x j h1 (by omega)⟩
      by_cases c1 : j = v
      · rw [c1]; exact c0
      · exact x j h1 (by omega)
theorem x6_canBeRow {r : Tr} (hr : r.1 = true) (hc : 1 ≤ r.2.2.1 ∧ r.2.2.1 ≤ 31) (htl : ∀ j, j < r.2.2.1 → r.2.2.2 j < 1024) {σ : Mem} (h : RowIs σ 77 r.2.2.1 (fun j => nI (r.2.2.2 j))) : X6_canBeRow 77 σ = some (σ, bI (rowB r)) := by
  have := x6_canBeRow_2 hc.2 htl (fun (σ : Mem)  => ((X3_length 77 σ).bind fun q5 => (if q5.2 < (1 : Int32) then some (q5.1, (0 : Int32)) else ((X3_length 77 q5.1).bind fun q7 => (if (4 : Int32) < q7.2 then some (q7.1, (0 : Int32)) else some (q7.1, (1 : Int32))))))) h r.2.2.1 0 FU (by omega) (by unfold FU; omega)
  refine this.trans ?_
  unfold rowB X3_length
  rw [hr, Bool.true_and, uB]
  dsimp only
  rw [h.1]
  by_cases c1 : ∀ j, j < r.2.2.1 → r.2.2.2 j ≠ 0
  · rw [if_pos (fun j h2 _ => c1 j h2), decide_eq_true c1, Bool.and_true, if_neg (show ¬ nI r.2.2.1 < (1 : Int32) from nI_nlt (b := 1) (by omega) (by omega)), uB]
    dsimp only
    by_cases c2 : r.2.2.1 ≤ 4
    · rw [if_neg (show ¬ (4 : Int32) < nI r.2.2.1 from nI_nlt (a := 4) (by omega) (by omega)), decide_eq_true c2]; rfl
    · rw [if_pos (show (4 : Int32) < nI r.2.2.1 from nI_lt (a := 4) (by omega) (by omega)), decide_eq_false c2]; rfl
  · rw [if_neg (fun x => c1 (fun j h2 => x j h2 (Nat.zero_le _))), decide_eq_false c1, Bool.and_false]; rfl
theorem q_define_bad {σ : Mem} {w : Wd} (hP : ClP σ w) (hS : ClS σ) {x : Int32} (h : bad x 0 99) : Ans (X6_define σ x) σ w (Sum.inr 0) := by
  refine Ans.ex hP hS ?_
  unfold X6_define
  exact bad_if (lo := 0) (hi := 99) h (by omega) (by omega)
theorem q_define_no {σ : Mem} {w : Wd} {wd : Nat} (hP : ClP σ w) (hS : ClS σ) (hx : TxOk (w_n w) (w_t w)) (hw : wd ≤ 99) (hr : rowB (w_r w) = false) : Ans (X6_define σ (nI wd)) σ w (Sum.inr 0) := by
  obtain ⟨σ1, e1, g1, s1, h77, o1⟩ := x6_told hP hS hx
  obtain ⟨t1, t2, t3, t4⟩ := tRead_ok (n := w_n w) (t := w_t w) hx.1
  refine ⟨σ1, ?_, g1, s1, o1.mono (by omega) (by omega)⟩
  unfold X6_define
  refine (good_if (lo := 0) (hi := 99) (by omega) (by omega) (by omega)).trans ?_
  rw [e1, uB]
  cases hk : (w_r w).1 with
  | false => rw [if_pos (show bI false = 0 from rfl)]
  | true => rw [if_neg (show ¬ bI true = 0 by decide), x6_canBeRow hk ⟨(t4 hk).1, t3⟩ t2 h77, uB, hr, if_pos (show bI false = 0 from rfl)]
abbrev deB (w : Wd) (wd : Nat) : Prop := ∃ t, t < en_m (as_E (w_a w)) ∧ en_k (as_E (w_a w)) t = pac (w_r w).2.2.2 (w_r w).2.2.1 ∧ en_w (as_E (w_a w)) t = wd
theorem rowB_t {r : Tr} (h : rowB r = true) : r.1 = true ∧ r.2.2.1 ≤ 4 ∧ ∀ j, j < r.2.2.1 → r.2.2.2 j ≠ 0 := by
  unfold rowB at h
  rw [Bool.and_eq_true, Bool.and_eq_true] at h
  exact ⟨h.1.1, of_decide_eq_true h.1.2, of_decide_eq_true h.2⟩
theorem x6_define_pre {σ : Mem} {w : Wd} {wd : Nat} {T : Nat} (ok : AsOk T (w_a w)) (hP : ClP σ w) (hS : ClS σ) (hx : TxOk (w_n w) (w_t w)) (hw : wd ≤ 99) (hr : rowB (w_r w) = true) : ∃ σ1, ClP σ1 w ∧ ClS σ1 ∧ Off 77 79 σ σ1 ∧ X6_define σ (nI wd) = ((X0_isFull 3 σ1).bind fun q9 => (if q9.2 = 0 then ((X0_hasBoth 3 q9.1 (lN (pac (w_r w).2.2.2 (w_r w).2.2.1)) (nI wd)).bind fun q11 => (if q11.2 = 0 then ((X4_push 0 q11.1).bind fun q13 => ((X0_put 3 q13.1 (lN (pac (w_r w).2.2.2 (w_r w).2.2.1)) (nI wd)).bind fun q15 => ((X1_wipe q15.1).bind fun q17 => ((X0_size 3 q17.1).bind fun q19 => some (q19.1, Sum.inl (q19.2 - (1 : Int32))))))) else some (q11.1, Sum.inr 1))) else some (q9.1, Sum.inr 1))) := by
  obtain ⟨σ1, e1, g1, s1, h77, o1⟩ := x6_told hP hS hx
  obtain ⟨t1, t2, t3, t4⟩ := tRead_ok (n := w_n w) (t := w_t w) hx.1
  obtain ⟨r1, r2, r3⟩ := rowB_t hr
  refine ⟨σ1, g1, s1, o1, ?_⟩
  have hpk : X3_packed 77 σ1 (0 : Int32) (nI (w_r w).2.2.1) = some (σ1, lN (pac (w_r w).2.2.2 (w_r w).2.2.1)) := x3_packed (pl := 0) (q := (w_r w).2.2.2) r2 h77 (by rw [cap77']; exact Nat.le_trans t3 (by omega)) (by rw [cap77']; omega) (by omega) (fun t ht => ⟨by rw [Nat.zero_add], t2 t ht⟩)
  unfold X6_define
  refine (good_if (lo := 0) (hi := 99) (by omega) (by omega) (by omega)).trans ?_
  rw [e1, uB, r1, if_neg (show ¬ bI true = 0 by decide), x6_canBeRow r1 ⟨(t4 r1).1, t3⟩ t2 h77, uB, hr, if_neg (show ¬ bI true = 0 by decide)]
  unfold X3_length
  rw [uB]
  dsimp only
  rw [h77.1, hpk, uB]
theorem x0_isFull {σ : Mem} {E : En} (h : EnC σ 3 E) (hm : en_m E ≤ 24) : X0_isFull 3 σ = some (σ, bI (decide (en_m E = 24))) := by
  unfold X0_isFull
  rw [h.1]
  by_cases c : en_m E = 24
  · rw [if_neg (show ¬ nI (en_m E) < (24 : Int32) from nI_nlt (b := 24) (by omega) (by omega)), decide_eq_true c]; rfl
  · rw [if_pos (show nI (en_m E) < (24 : Int32) from nI_lt (b := 24) (by omega) (by omega)), decide_eq_false c]; rfl
theorem q_define_full {σ : Mem} {w : Wd} {wd T : Nat} (ok : AsOk T (w_a w)) (hP : ClP σ w) (hS : ClS σ) (hx : TxOk (w_n w) (w_t w)) (hw : wd ≤ 99) (hr : rowB (w_r w) = true) (hf : en_m (as_E (w_a w)) = 24 ∨ deB w wd) : Ans (X6_define σ (nI wd)) σ w (Sum.inr 1) := by
  obtain ⟨σ1, g1, s1, o1, e1⟩ := x6_define_pre ok hP hS hx hw hr
  obtain ⟨t1, t2, t3, t4⟩ := tRead_ok (n := w_n w) (t := w_t w) hx.1
  obtain ⟨r1, r2, r3⟩ := rowB_t hr
  have hlt : pac (w_r w).2.2.2 (w_r w).2.2.1 < 1099511627776 := pac_lt4 r2 t2
  refine ⟨σ1, ?_, g1, s1, o1.mono (by omega) (by omega)⟩
  rw [e1, x0_isFull g1.1.2.1 ok.2.2.1.1, uB]
  dsimp only
  by_cases c : en_m (as_E (w_a w)) = 24
  · rw [decide_eq_true c, if_neg (show ¬ bI true = 0 by decide)]
  · rw [decide_eq_false c, if_pos (show bI false = 0 from rfl), x0_hasBoth g1.1.2.1 ok.2.2.1 (by omega) (by omega)]
    rcases hf with hf | hf
    · exact absurd hf c
    · rw [if_pos hf, uB, if_neg one_ne]
theorem q_define {σ : Mem} {w : Wd} {wd T : Nat} (ok : AsOk T (w_a w)) (hP : ClP σ w) (hS : ClS σ) (hx : TxOk (w_n w) (w_t w)) (hw : wd ≤ 99) (hr : rowB (w_r w) = true) (h1 : en_m (as_E (w_a w)) ≠ 24) (h2 : ¬ deB w wd) : Ans (X6_define σ (nI wd)) σ (wT (wA (wPush w) (asE (w_a w) (enPut (as_E (w_a w)) (w_r w).2.2.1 (w_r w).2.2.2 wd 0))) 0 (w_t w)) (Sum.inl (nI (en_m (as_E (w_a w))))) := by
  obtain ⟨σ1, g1, s1, o1, e1⟩ := x6_define_pre ok hP hS hx hw hr
  obtain ⟨t1, t2, t3, t4⟩ := tRead_ok (n := w_n w) (t := w_t w) hx.1
  obtain ⟨r1, r2, r3⟩ := rowB_t hr
  have hlt : pac (w_r w).2.2.2 (w_r w).2.2.1 < 1099511627776 := pac_lt4 r2 t2
  have hm := ok.2.2.1.1
  obtain ⟨σ2, e2, g2, s2, o2⟩ := x6_push g1 s1 ok
  obtain ⟨σ3, e3, g3, o3⟩ := x0_put (i := 3) (L := (w_r w).2.2.1) (w := wd) (r := (w_r w).2.2.2) g2.1.2.1 (show en_m (as_E (w_a w)) < 24 by omega)
  have g4 : ClP σ3 (wA (wPush w) (asE (w_a w) (enPut (as_E (w_a w)) (w_r w).2.2.1 (w_r w).2.2.2 wd 0))) := g2.upd0 (o3.mono (by omega) (by omega)) (g2.1.ent (o3.mono (by omega) (by omega)) g3)
  obtain ⟨σ4, e4, g5, o4⟩ := x1_wipe g4 (show w_n w ≤ 60 from hx.1)
  refine ⟨σ4, ?_, g5, (s2.off o3 (by omega)).off o4 (by omega), (((o1.mono (by omega) (by omega)).trans (o2.mono (by omega) (by omega))).trans (o3.mono (by omega) (by omega))).trans (o4.mono (by omega) (by omega))⟩
  rw [e1, x0_isFull g1.1.2.1 hm, uB]
  dsimp only
  rw [decide_eq_false h1, if_pos (show bI false = 0 from rfl), x0_hasBoth g1.1.2.1 ok.2.2.1 (by omega) (by omega), if_neg h2, uB]
  dsimp only
  rw [if_pos rfl, e2, uB, e3, uB, e4, uB]
  unfold X0_size
  rw [uB]
  dsimp only
  rw [g5.1.2.1.1]
  show some (σ4, Sum.inl (nI (en_m (as_E (w_a w)) + 1) - 1)) = _
  rw [nI_pred]
/-! the shares -/
def shAns (a : As) : UInt64 := if as_N a = 0 then FP.dconst1 else shV (as_N a) (stN a (-1))
def meAns (a : As) : UInt32 := if as_k a = 0 then FP.fconst0 else FP.fdiv (FP.i2f (nI (as_y a))) (FP.i2f (nI (as_k a)))
theorem stN_le {a : As} {T : Nat} (ok : AsOk T a) (x : Int32) : stN a x ≤ as_N a := Nat.le_trans (cnt_le _ _) (items_le (itn_ok (as_E a) (as_g a) (as_N a) (as_p a)))
theorem sh_nn {a : As} {T : Nat} (ok : AsOk T a) : shC (shAns a) = true := by
  have hN := ok.1
  have h1 := stN_le ok (-1)
  unfold shAns
  by_cases c : as_N a = 0
  · rw [if_pos c]; exact sh_1
  · rw [if_neg c]; exact sh_all _ (by omega) _ (by omega) (by omega) h1
theorem x6_readShare {σ : Mem} {a : As} {T : Nat} (ok : AsOk T a) (ha : StC σ 0 a) (hs : RdI σ 61) : ∃ σ', X6_readShare σ = some (σ', shAns a) ∧ Off 61 68 σ σ' ∧ (RdA σ' 61 a ∨ σ' = σ) := by
  have hN := ok.1
  unfold X6_readShare X3_length
  rw [uB]
  dsimp only
  rw [ha.1.1]
  by_cases c : as_N a = 0
  · refine ⟨σ, ?_, Off.rfl', Or.inr rfl⟩
    rw [c, if_pos (show nI 0 = 0 from rfl)]
    unfold shAns
    rw [if_pos c]
  · obtain ⟨σ1, e1, h1, o1⟩ := x6_readPaper ok ha hs
    refine ⟨σ1, ?_, o1, Or.inl h1⟩
    have hnn := (shC_t (sh_nn ok)).1
    have e : shAns a = FP.ddiv (FP.i2d (nI (as_N a) - nI (stN a (-1)))) (FP.i2d (nI (as_N a))) := by
      unfold shAns shV
      rw [if_neg c, pk_sub (stN_le ok _)]
    rw [if_neg (nI_ne0 (by omega) (by omega)), e1, uB, x6_rawItems ok h1, uB]
    dsimp only
    rw [← e, if_pos hnn]
theorem q_share {σ : Mem} {w : Wd} {T : Nat} (hP : ClP σ w) (hS : ClS σ) (ok : AsOk T (w_a w)) : ∃ σ', X6_readShare σ = some (σ', shAns (w_a w)) ∧ ClP σ' w ∧ ClS σ' ∧ Off 0 82 σ σ' := by
  obtain ⟨σ1, e1, o1, h1⟩ := x6_readShare ok hP.1 hS.1
  refine ⟨σ1, e1, hP.off o1 (by omega) (by omega), ?_, o1.mono (by omega) (by omega)⟩
  rcases h1 with h1 | h1
  · exact hS.read ok h1 o1
  · rw [h1]; exact hS
theorem me_nn {a : As} {T : Nat} (ok : AsOk T a) (hT : T ≤ 512) : (as_k a = 0 ∧ meAns a = FP.fconst0) ∨ ∃ E t, 127 ≤ E ∧ E ≤ 130 ∧ t < 8388608 ∧ meAns a = UInt32.ofNat (n32 E t) ∧ as_k a ≠ 0 ∧ (E = 130 → t ≤ 2097152) := by
  obtain ⟨h1, h2, h3, h4, h5, h6, h7, h8, h9⟩ := ok
  unfold meAns
  by_cases c : as_k a = 0
  · rw [if_pos c]; exact Or.inl ⟨c, rfl⟩
  · rw [if_neg c]
    obtain ⟨E, t, g1, g2, g3, g5, g4⟩ := mean_bits (K := as_y a) (S := as_k a) (by omega) h7 h8 (by omega)
    exact Or.inr ⟨E, t, g1, g2, g3, g4, c, g5⟩
theorem x6_meanKeys {σ : Mem} {a : As} {T : Nat} (ok : AsOk T a) (hT : T ≤ 512) (ha : StC σ 0 a) : X6_meanKeys σ = some (σ, meAns a) := by
  have hk := ok.2.2.2.2.2.1
  unfold X6_meanKeys
  rw [ha.2.2.2.2.1, ha.2.2.2.2.2.2.2]
  rcases me_nn ok hT with ⟨c, e⟩ | ⟨E, t, g1, g2, g3, g4, c, -⟩
  · rw [c, if_pos (show nI 0 = 0 from rfl), e]
  · have e : meAns a = FP.fdiv (FP.i2f (nI (as_y a))) (FP.i2f (nI (as_k a))) := by unfold meAns; rw [if_neg c]
    rw [if_neg (nI_ne0 (by omega) (by omega)), ← e, if_pos (by rw [g4]; exact nn32 (by omega) g3)]
