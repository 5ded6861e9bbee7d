/-! shares, the reference's side -/
theorem x7_share {σ : Mem} {a : As} {T : Nat} (ok : AsOk T a) (h : RS (σ.1 83) 0 a) : ∃ σ', X7_share σ = some (σ', shAns a) ∧ Fr pRp σ σ' := by
  have hN := ok.1
  obtain ⟨σ1, e1, g1, f1⟩ := x7_readsPaper ok h
  refine ⟨σ1, ?_, f1⟩
  unfold X7_share
  rw [e1, uB]
  dsimp only
  rw [g1.2.1]
  by_cases c : as_N a = 0
  · rw [if_pos (show nI (as_N a) = 0 by rw [c]; rfl)]
    unfold shAns
    rw [if_pos c]
  · have hnn := (shC_t (sh_nn ok)).1
    have e : shAns a = FP.ddiv (FP.i2d (nI (as_N a) - nI (stN a (-1)))) (FP.i2d (nI (as_N a))) := by
      unfold shAns shV
      rw [if_neg c, pk_sub (stN_le ok _)]
    rw [if_neg (nI_ne0 (by omega) (by omega)), x7_standing ok g1, uB]
    dsimp only
    rw [g1.2.1, ← e, if_pos hnn]
theorem r_share {σ : Mem} {w : Wd} {T : Nat} (ok : WdOk T w) (h : RfP σ w) : ∃ σ', X7_readShare σ = some (σ', shAns (w_a w)) ∧ RfP σ' w ∧ Off 82 91 σ σ' := by
  obtain ⟨σ1, e1, f1⟩ := x7_share ok.1 (h.th 0).1
  refine ⟨σ1, ?_, (h.th 0).p f1, (Off.setI (by omega) (by omega)).trans (f1.off fun c j => pRp_c)⟩
  unfold X7_readShare
  rw [uB, e1, uB]
theorem x7_mean {σ : Mem} {a : As} {T : Nat} (ok : AsOk T a) (hT : T ≤ 512) (h : RS (σ.1 83) 0 a) : X7_mean σ = some (σ, meAns a) := by
  obtain ⟨z1, z2, z3, z4, z5, z6, z7, z8, z9⟩ := h.z
  have hk := ok.2.2.2.2.2.1
  unfold X7_mean
  rw [z6, z9]
  rcases me_nn ok hT with ⟨c, e⟩ | ⟨E, t, g1, g2, g3, g4, c⟩
  · rw [c, if_pos (show nI 0 = 0 from rfl), e]
  · have e : meAns a = FP.fdiv (FP.i2f (nI (as_y a))) (FP.i2f (nI (as_k a))) := by unfold meAns; rw [if_neg c]
    rw [if_neg (nI_ne0 (by omega) (by omega)), ← e, if_pos (by rw [g4]; exact nn32 (by omega) g3)]
theorem r_mean {σ : Mem} {w : Wd} {T : Nat} (ok : WdOk T w) (hT : T ≤ 512) (h : RfP σ w) : ∃ σ', X7_meanKeys σ = some (σ', meAns (w_a w)) ∧ RfP σ' w ∧ Off 82 91 σ σ' := by
  refine ⟨setI σ 82 0 0, ?_, h.th 0, Off.setI (by omega) (by omega)⟩
  unfold X7_meanKeys
  rw [uB, x7_mean ok.1 hT (h.th 0).1, uB]
/-! digest, the reference's side -/
def Dh (σ : Mem) (w : Wd) (h : Int64) : Prop := RfP σ w ∧ σ.2 82 16 = h
def Dr (σ : Mem) (w : Wd) (h : Int64) : Prop := Dh σ w h ∧ RdRA σ (w_a w)
theorem d_mix {σ : Mem} {w : Wd} {h : Int64} (v : Int64) (hD : Dh σ w h) : X7_mix σ v = some (setL σ 82 16 (mixF h v), ()) ∧ Dh (setL σ 82 16 (mixF h v)) w (mixF h v) ∧ Off 82 91 σ (setL σ 82 16 (mixF h v)) := by
  refine ⟨?_, ⟨hD.1, sl_1 _ _ _ _⟩, Off.setL (by omega) (by omega)⟩
  unfold X7_mix
  rw [hD.2, uB]
  rfl
theorem e_mix {σ : Mem} {w : Wd} {h : Int64} (v : Int64) (hD : Dr σ w h) : X7_mix σ v = some (setL σ 82 16 (mixF h v), ()) ∧ Dr (setL σ 82 16 (mixF h v)) w (mixF h v) ∧ Off 82 91 σ (setL σ 82 16 (mixF h v)) := ⟨(d_mix v hD.1).1, ⟨(d_mix v hD.1).2.1, hD.2⟩, (d_mix v hD.1).2.2⟩
theorem Dh.fr {σ σ' : Mem} {w : Wd} {h : Int64} (hD : Dh σ w h) (f : Fr pS σ σ') : Dh σ' w h := ⟨hD.1.S f, by rw [f.2]; exact hD.2⟩
theorem d_18 {w : Wd} {T : Nat} {h : Int64} (ok : WdOk T w) : ∀ (r v fu : Nat) (σ : Mem), v + r = 10 → r < fu → Dr σ w (hf (coAns w) v h) → ∃ σ', (∀ K : Mem → Option (Mem × Int64), X7_digest_18 K fu σ (nI v) = K σ') ∧ Dr σ' w (hf (coAns w) 10 h) ∧ Off 82 91 σ σ'
  | r, v, 0, _, _, h, _ => absurd h (by omega)
  | 0, v, fu + 1, σ, h1, _, hD => by
    have : v = 10 := by omega
    subst this
    exact ⟨σ, fun K => by rw [X7_digest_18, if_pos (by decide)], hD, Off.rfl'⟩
  | r + 1, v, fu + 1, σ, h1, hf, hD => by
    obtain ⟨m1, m2, m3⟩ := e_mix (coAns w v).toInt64 hD
    obtain ⟨σ', e, g, o⟩ := d_18 ok r (v + 1) fu _ (by omega) (by omega) m2
    refine ⟨σ', fun K => ?_, g, m3.trans o⟩
    rw [X7_digest_18, if_neg (show ¬ (10 : Int32) ≤ nI v from nI_ge (b := 10) (by omega) (by omega)), x7_counted ok hD.1.1 hD.2 (by omega), uB]
    dsimp only
    rw [m1, uB, nI_1]
    exact e K
theorem d_64 {w : Wd} {T : Nat} {h : Int64} (ok : WdOk T w) : ∀ (r v fu : Nat) (σ : Mem), v + r = as_N (w_a w) → r < fu → Dr σ w (hf (fun i => nI (as_p (w_a w) i)) v h) → ∃ σ', (∀ K : Mem → Option (Mem × Int64), X7_digest_64 K fu σ (nI v) = K σ') ∧ Dr σ' w (hf (fun i => nI (as_p (w_a w) i)) (as_N (w_a w)) h) ∧ Off 82 91 σ σ'
  | r, v, 0, _, _, h, _ => absurd h (by omega)
  | 0, v, fu + 1, σ, h1, _, hD => by
    have hN := ok.1.1
    have hv : v = as_N (w_a w) := by omega
    subst hv
    exact ⟨σ, fun K => by rw [X7_digest_64, hD.1.1.1.z.1, if_pos (nI_le (by omega) (by omega))], hD, Off.rfl'⟩
  | r + 1, v, fu + 1, σ, h1, hf, hD => by
    have hN := ok.1.1
    obtain ⟨m1, m2, m3⟩ := e_mix (nI (as_p (w_a w) v)).toInt64 hD
    obtain ⟨σ', e, g, o⟩ := d_64 ok r (v + 1) fu _ (by omega) (by omega) m2
    refine ⟨σ', fun K => ?_, g, m3.trans o⟩
    rw [X7_digest_64, hD.1.1.1.z.1, if_neg (nI_ge (by omega) (by omega)), show (8 : Int32) + nI v = nI (8 + v) from nI_add 8 v, if_pos (nI_inA (by omega) (by omega)), nI_clamp (by omega), hD.1.1.1.z.2.1 v (by omega), m1, uB, nI_1]
    exact e K
theorem d_96 {w : Wd} {T : Nat} {h : Int64} (ok : WdOk T w) : ∀ (r v fu : Nat) (σ : Mem), v + r = 5 * as_t (w_a w) → r < fu → Dr σ w (hf (fun k => itAns (w_a w) (k / 5) (k % 5)) v h) → ∃ σ', (∀ K : Mem → Option (Mem × Int64), X7_digest_96 K fu σ (nI v) = K σ') ∧ Dr σ' w (hf (fun k => itAns (w_a w) (k / 5) (k % 5)) (5 * as_t (w_a w)) h) ∧ Off 82 91 σ σ'
  | r, v, 0, _, _, h, _ => absurd h (by omega)
  | 0, v, fu + 1, σ, h1, _, hD => by
    have ht := as_t_le ok.1
    have hv : v = 5 * as_t (w_a w) := h1
    rw [← hv]
    refine ⟨σ, fun K => ?_, hD, Off.rfl'⟩
    rw [X7_digest_96, hD.2.1.1, show (5 : Int32) * nI (as_t (w_a w)) = nI (5 * as_t (w_a w)) from pk_mul 5 _, ← hv, if_pos (nI_le (Nat.le_refl _) (by omega))]
  | r + 1, v, fu + 1, σ, h1, hf, hD => by
    have ht := as_t_le ok.1
    have hvt : v < 5 * as_t (w_a w) := by rw [← h1]; omega
    obtain ⟨m1, m2, m3⟩ := e_mix (itAns (w_a w) (v / 5) (v % 5)).toInt64 hD
    obtain ⟨σ', e, g, o⟩ := d_96 ok r (v + 1) fu _ (by omega) (by omega) m2
    refine ⟨σ', fun K => ?_, g, m3.trans o⟩
    rw [X7_digest_96, hD.2.1.1, show (5 : Int32) * nI (as_t (w_a w)) = nI (5 * as_t (w_a w)) from pk_mul 5 _, if_neg (nI_ge hvt (by omega)), show (5 : Int32) = nI 5 from rfl, pk_rem (by omega) (by omega) (by omega), pk_div (by omega) (by omega) (by omega), x7_ofItem ok.1 hD.1.1.1 hD.2 (by omega) (Nat.mod_lt v (by omega)), uB]
    dsimp only
    rw [m1, uB, nI_1]
    exact e K
theorem d_129 {w : Wd} {T : Nat} {h : Int64} (ok : WdOk T w) : ∀ (r v fu : Nat) (σ : Mem), v + r = 10 * en_m (as_E (w_a w)) → r < fu → Dr σ w (hf (fun k => enAns (w_a w) (k / 10) (k % 10)) v h) → ∃ σ', (∀ K : Mem → Option (Mem × Int64), X7_digest_129 K fu σ (nI v) = K σ') ∧ Dr σ' w (hf (fun k => enAns (w_a w) (k / 10) (k % 10)) (10 * en_m (as_E (w_a w))) h) ∧ Off 82 91 σ σ'
  | r, v, 0, _, _, h, _ => absurd h (by omega)
  | 0, v, fu + 1, σ, h1, _, hD => by
    have hm := ok.1.2.2.1.1
    have hv : v = 10 * en_m (as_E (w_a w)) := h1
    rw [← hv]
    refine ⟨σ, fun K => ?_, hD, Off.rfl'⟩
    rw [X7_digest_129, hD.1.1.1.z.2.2.1.m, show (10 : Int32) * nI (en_m (as_E (w_a w))) = nI (10 * en_m (as_E (w_a w))) from pk_mul 10 _, ← hv, if_pos (nI_le (Nat.le_refl _) (by omega))]
  | r + 1, v, fu + 1, σ, h1, hf, hD => by
    have hm := ok.1.2.2.1.1
    obtain ⟨m1, m2, m3⟩ := e_mix (enAns (w_a w) (v / 10) (v % 10)).toInt64 hD
    obtain ⟨σ', e, g, o⟩ := d_129 ok r (v + 1) fu _ (by omega) (by omega) m2
    refine ⟨σ', fun K => ?_, g, m3.trans o⟩
    rw [X7_digest_129, hD.1.1.1.z.2.2.1.m, show (10 : Int32) * nI (en_m (as_E (w_a w))) = nI (10 * en_m (as_E (w_a w))) from pk_mul 10 _, if_neg (nI_ge (by omega) (by omega)), show (10 : Int32) = nI 10 from rfl, pk_rem (by omega) (by omega) (by omega), pk_div (by omega) (by omega) (by omega), x7_ofEntry ok.1 hD.1.1.1 hD.2 (by omega) (Nat.mod_lt v (by omega)), uB]
    dsimp only
    rw [m1, uB, nI_1]
    exact e K
theorem d_167 {w : Wd} {T : Nat} {h : Int64} (ok : WdOk T w) : ∀ (r v fu : Nat) (σ : Mem), v + r = 3 → r < fu → Dh σ w (hf (fun i => nI (beAns (w_a w) (i + 1))) v h) → ∃ σ', (∀ K : Mem → Option (Mem × Int64), X7_digest_167 K fu σ (nI (v + 1)) = K σ') ∧ Dh σ' w (hf (fun i => nI (beAns (w_a w) (i + 1))) 3 h) ∧ Off 82 91 σ σ'
  | r, v, 0, _, _, h, _ => absurd h (by omega)
  | 0, v, fu + 1, σ, h1, _, hD => by
    have : v = 3 := by omega
    subst this
    exact ⟨σ, fun K => by rw [X7_digest_167, if_pos (by decide)], hD, Off.rfl'⟩
  | r + 1, v, fu + 1, σ, h1, hf, hD => by
    obtain ⟨m1, m2, m3⟩ := d_mix (nI (beAns (w_a w) (v + 1))).toInt64 hD
    obtain ⟨σ', e, g, o⟩ := d_167 ok r (v + 1) fu _ (by omega) (by omega) m2
    refine ⟨σ', fun K => ?_, g, m3.trans o⟩
    rw [X7_digest_167, if_neg (show ¬ (4 : Int32) ≤ nI (v + 1) from nI_ge (b := 4) (by omega) (by omega)), x7_begins ok.1 hD.1.1 (by omega), uB]
    dsimp only
    rw [m1, uB, nI_1]
    exact e K
theorem d_190 {w : Wd} {T : Nat} {h : Int64} (ok : WdOk T w) : ∀ (r v fu : Nat) (σ : Mem), v + r = 3 → r < fu → Dh σ w (hf (ifAns (w_a w) 1) v h) → ∃ σ', (∀ K : Mem → Option (Mem × Int64), X7_digest_190 K fu σ (nI v) = K σ') ∧ Dh σ' w (hf (ifAns (w_a w) 1) 3 h) ∧ Off 82 91 σ σ'
  | r, v, 0, _, _, h, _ => absurd h (by omega)
  | 0, v, fu + 1, σ, h1, _, hD => by
    have : v = 3 := by omega
    subst this
    exact ⟨σ, fun K => by rw [X7_digest_190, if_pos (by decide)], hD, Off.rfl'⟩
  | r + 1, v, fu + 1, σ, h1, hf, hD => by
    obtain ⟨σ1, e1, f1⟩ := x7_struck (s := 1) (what := v) ok.1 hD.1.1 (by omega) (by omega)
    obtain ⟨m1, m2, m3⟩ := d_mix (ifAns (w_a w) 1 v).toInt64 (hD.fr (f1.mono fun c j => pRp_S))
    obtain ⟨σ', e, g, o⟩ := d_190 ok r (v + 1) fu _ (by omega) (by omega) m2
    refine ⟨σ', fun K => ?_, g, ((f1.off fun c j => pRp_c).trans m3).trans o⟩
    rw [X7_digest_190, if_neg (show ¬ (3 : Int32) ≤ nI v from nI_ge (b := 3) (by omega) (by omega)), show X7_struck σ (1 : Int32) (nI v) = _ from e1, uB]
    dsimp only
    rw [m1, uB, nI_1]
    exact e K
theorem d_214 {w : Wd} {T : Nat} {h : Int64} (ok : WdOk T w) : ∀ (r v fu : Nat) (σ : Mem), v + r = 10 → r < fu → Dh σ w (hf (fun i => oN (shF (w_a w) i (en_m (as_E (w_a w))))) v h) → ∃ σ', (∀ K : Mem → Option (Mem × Int64), X7_digest_214 K fu σ (nI v) = K σ') ∧ Dh σ' w (hf (fun i => oN (shF (w_a w) i (en_m (as_E (w_a w))))) 10 h) ∧ Off 82 91 σ σ'
  | r, v, 0, _, _, h, _ => absurd h (by omega)
  | 0, v, fu + 1, σ, h1, _, hD => by
    have : v = 10 := by omega
    subst this
    exact ⟨σ, fun K => by rw [X7_digest_214, if_pos (by decide)], hD, Off.rfl'⟩
  | r + 1, v, fu + 1, σ, h1, hf, hD => by
    obtain ⟨m1, m2, m3⟩ := d_mix (oN (shF (w_a w) v (en_m (as_E (w_a w))))).toInt64 hD
    obtain ⟨σ', e, g, o⟩ := d_214 ok r (v + 1) fu _ (by omega) (by omega) m2
    refine ⟨σ', fun K => ?_, g, m3.trans o⟩
    rw [X7_digest_214, if_neg (show ¬ (10 : Int32) ≤ nI v from nI_ge (b := 10) (by omega) (by omega)), x7_shortestFor ok.1 hD.1.1 (by omega), uB]
    dsimp only
    rw [m1, uB, nI_1]
    exact e K
theorem d_316 {w : Wd} {T : Nat} {h : Int64} (ok : WdOk T w) : ∀ (r v fu : Nat) (σ : Mem), v + r = w_n w → r < fu → Dh σ w (hf (fun j => nI (w_t w j)) v h) → ∃ σ', (∀ K : Mem → Option (Mem × Int64), X7_digest_316 K fu σ (nI v) = K σ') ∧ Dh σ' w (hf (fun j => nI (w_t w j)) (w_n w) h) ∧ Off 82 91 σ σ'
  | r, v, 0, _, _, h, _ => absurd h (by omega)
  | 0, v, fu + 1, σ, h1, _, hD => by
    have hn := ok.2.2.2.2.1
    have hv : v = w_n w := by omega
    subst hv
    exact ⟨σ, fun K => by rw [X7_digest_316, hD.1.2.2.2.2.2.1, if_pos (nI_le (by omega) (by omega))], hD, Off.rfl'⟩
  | r + 1, v, fu + 1, σ, h1, hf, hD => by
    have hn := ok.2.2.2.2.1
    obtain ⟨m1, m2, m3⟩ := d_mix (nI (w_t w v)).toInt64 hD
    obtain ⟨σ', e, g, o⟩ := d_316 ok r (v + 1) fu _ (by omega) (by omega) m2
    refine ⟨σ', fun K => ?_, g, m3.trans o⟩
    rw [X7_digest_316, hD.1.2.2.2.2.2.1, if_neg (nI_ge (by omega) (by omega)), if_pos (nI_inA (by omega) (by omega)), nI_clamp (by omega), hD.1.2.2.2.2.2.2 v (by omega), m1, uB, nI_1]
    exact e K
theorem x7_bitsSh {σ : Mem} {a : As} {T : Nat} (ok : AsOk T a) : X7_bits σ (shAns a) (4503599627370496 : Int64) (1023 : Int64) = some (σ, shB a) := by
  obtain ⟨h1, x, h2, h3⟩ := shC_t (sh_nn ok)
  rw [x7_bitsS σ _ (by rw [h2]; rfl), h2]
  unfold shB
  rw [h3]
  rfl
theorem x7_bitsMe {σ : Mem} {a : As} {T : Nat} (ok : AsOk T a) (hT : T ≤ 512) : ((FP.f2d (meAns a)) &&& 0x7fffffffffffffff ≤ 0x7ff0000000000000) ∧ X7_bits σ (FP.f2d (meAns a)) (8388608 : Int64) (127 : Int64) = some (σ, (nI (meB a)).toInt64) := by
  unfold meB
  rcases me_nn ok hT with ⟨c, e⟩ | ⟨E, t, g1, g2, g3, g4, c⟩
  · rw [e, if_pos c]
    exact ⟨f2d_nn0, x7_bits_0 σ⟩
  · rw [g4, if_neg c, u32n (n32_lt (by omega) g3), lN_l _ (by unfold n32; omega)]
    exact ⟨f2d_nn g1 g2 g3, x7_bits_mean g1 g2 g3⟩
theorem d_18' {σ : Mem} {w : Wd} {T : Nat} {h : Int64} (ok : WdOk T w) (hD : Dr σ w h) : ∃ σ', (∀ K : Mem → Option (Mem × Int64), X7_digest_18 K FU σ (0 : Int32) = K σ') ∧ Dr σ' w (hf (coAns w) 10 h) ∧ Off 82 91 σ σ' := d_18 (h := h) ok 10 0 FU σ (by omega) (by unfold FU; omega) hD
theorem d_64' {σ : Mem} {w : Wd} {T : Nat} {h : Int64} (ok : WdOk T w) (hD : Dr σ w h) : ∃ σ', (∀ K : Mem → Option (Mem × Int64), X7_digest_64 K FU σ (0 : Int32) = K σ') ∧ Dr σ' w (hf (fun i => nI (as_p (w_a w) i)) (as_N (w_a w)) h) ∧ Off 82 91 σ σ' := d_64 (h := h) ok (as_N (w_a w)) 0 FU σ (by omega) (by have := ok.1.1; unfold FU; omega) hD
theorem d_96' {σ : Mem} {w : Wd} {T : Nat} {h : Int64} (ok : WdOk T w) (hD : Dr σ w h) : ∃ σ', (∀ K : Mem → Option (Mem × Int64), X7_digest_96 K FU σ (0 : Int32) = K σ') ∧ Dr σ' w (hh (itAns (w_a w)) 5 (as_t (w_a w)) h) ∧ Off 82 91 σ σ' := by
  have := as_t_le ok.1
  rw [← hf_flat (itAns (w_a w)) (by omega)]
  exact d_96 (h := h) ok (5 * as_t (w_a w)) 0 FU σ (Nat.zero_add _) (by unfold FU; omega) hD
theorem d_129' {σ : Mem} {w : Wd} {T : Nat} {h : Int64} (ok : WdOk T w) (hD : Dr σ w h) : ∃ σ', (∀ K : Mem → Option (Mem × Int64), X7_digest_129 K FU σ (0 : Int32) = K σ') ∧ Dr σ' w (hh (enAns (w_a w)) 10 (en_m (as_E (w_a w))) h) ∧ Off 82 91 σ σ' := by
  have := ok.1.2.2.1.1
  rw [← hf_flat (enAns (w_a w)) (by omega)]
  exact d_129 (h := h) ok (10 * en_m (as_E (w_a w))) 0 FU σ (Nat.zero_add _) (by unfold FU; omega) hD
theorem d_167' {σ : Mem} {w : Wd} {T : Nat} {h : Int64} (ok : WdOk T w) (hD : Dh σ w h) : ∃ σ', (∀ K : Mem → Option (Mem × Int64), X7_digest_167 K FU σ (1 : Int32) = K σ') ∧ Dh σ' w (hf (fun i => nI (beAns (w_a w) (i + 1))) 3 h) ∧ Off 82 91 σ σ' := d_167 (h := h) ok 3 0 FU σ (by omega) (by unfold FU; omega) hD
theorem d_190' {σ : Mem} {w : Wd} {T : Nat} {h : Int64} (ok : WdOk T w) (hD : Dh σ w h) : ∃ σ', (∀ K : Mem → Option (Mem × Int64), X7_digest_190 K FU σ (0 : Int32) = K σ') ∧ Dh σ' w (hf (ifAns (w_a w) 1) 3 h) ∧ Off 82 91 σ σ' := d_190 (h := h) ok 3 0 FU σ (by omega) (by unfold FU; omega) hD
theorem d_214' {σ : Mem} {w : Wd} {T : Nat} {h : Int64} (ok : WdOk T w) (hD : Dh σ w h) : ∃ σ', (∀ K : Mem → Option (Mem × Int64), X7_digest_214 K FU σ (0 : Int32) = K σ') ∧ Dh σ' w (hf (fun i => oN (shF (w_a w) i (en_m (as_E (w_a w))))) 10 h) ∧ Off 82 91 σ σ' := d_214 (h := h) ok 10 0 FU σ (by omega) (by unfold FU; omega) hD
theorem d_316' {σ : Mem} {w : Wd} {T : Nat} {h : Int64} (ok : WdOk T w) (hD : Dh σ w h) : ∃ σ', (∀ K : Mem → Option (Mem × Int64), X7_digest_316 K FU σ (0 : Int32) = K σ') ∧ Dh σ' w (hf (fun j => nI (w_t w j)) (w_n w) h) ∧ Off 82 91 σ σ' := d_316 (h := h) ok (w_n w) 0 FU σ (by omega) (by have := ok.2.2.2.2.1; unfold FU; omega) hD
theorem d_set (a : As) (h : Int64) : mixF (mixF h (nI (as_s a)).toInt64) (nI (as_g a)).toInt64 = hf (fun i => nI (asGet a i)) 2 h := rfl
theorem r_digest {σ : Mem} {w : Wd} {T x : Nat} (ok : WdOk T w) (hT : T ≤ 512) (h : RfP σ w) (hx : LeastIs (w_a w) x) : ∃ σ', X7_digest σ = some (σ', dgAns w x) ∧ RfP σ' w ∧ Off 82 91 σ σ' := by
  have hN := ok.1.1
  have hm := ok.1.2.2.1.1
  have ht := as_t_le ok.1
  have hn := ok.2.2.2.2.1
  have o0 : Off 82 91 σ (setL (setI σ 82 0 0) 82 16 3643) := (Off.setI (by omega) (by omega)).trans (Off.setL (by omega) (by omega))
  have D0 : Dh (setL (setI σ 82 0 0) 82 16 3643) w 3643 := ⟨h.th 0, sl_1 _ _ _ _⟩
  obtain ⟨σ1, e1, g1, f1⟩ := x7_readsPaper ok.1 D0.1.1
  have D1 : Dr σ1 w 3643 := ⟨D0.fr (f1.mono fun c j => pRp_S), g1⟩
  obtain ⟨σ2, e2, D2, o2⟩ := d_18' ok D1
  obtain ⟨m3, D3, o3⟩ := e_mix (nI (as_s (w_a w))).toInt64 D2
  obtain ⟨m4, D4, o4⟩ := e_mix (nI (as_g (w_a w))).toInt64 D3
  rw [d_set] at m4 D4 o4
  obtain ⟨σ5, e5, D5, o5⟩ := d_64' ok D4
  obtain ⟨σ6, e6, D6, o6⟩ := d_96' ok D5
  obtain ⟨σ7, e7, D7, o7⟩ := d_129' ok D6
  obtain ⟨σ8, e8, D8, o8⟩ := d_167' ok D7.1
  obtain ⟨σ9, e9, D9, o9⟩ := d_190' ok D8
  obtain ⟨σ10, e10, D10, o10⟩ := d_214' ok D9
  obtain ⟨σ11, e11, f11⟩ := x7_clashesOf ok.1 D10.1.1
  obtain ⟨m12, D12, o12⟩ := d_mix (nI (clAns (w_a w))).toInt64 (D10.fr (f11.mono fun c j => pRp_S))
  obtain ⟨σ13, y, e13, hy, _, f13⟩ := x7_leastOf ok.1 D12.1.1
  have hxy := least_one hy hx
  subst hxy
  obtain ⟨m14, D14, o14⟩ := d_mix (nI y).toInt64 (D12.fr (f13.mono fun c j => pLs_S))
  obtain ⟨σ15, e15, f15⟩ := x7_share ok.1 D14.1.1
  obtain ⟨m16, D16, o16⟩ := d_mix (shB (w_a w)) (D14.fr (f15.mono fun c j => pRp_S))
  have n17 := (x7_bitsMe (σ := σ) ok.1 hT).1
  have b17 : ∀ σ : Mem, X7_bits σ (FP.f2d (meAns (w_a w))) (8388608 : Int64) (127 : Int64) = some (σ, (nI (meB (w_a w))).toInt64) := fun σ => (x7_bitsMe (σ := σ) ok.1 hT).2
  obtain ⟨m18, D18, o18⟩ := d_mix (nI (meB (w_a w))).toInt64 D16
  obtain ⟨m19, D19, o19⟩ := d_mix (if w_k w then 1 else 0) D18
  obtain ⟨m20, D20, o20⟩ := d_mix (nI (w_n w)).toInt64 D19
  obtain ⟨σ21, e21, D21, o21⟩ := d_316' ok D20
  have oo := ((((((((((((((((((o0.trans (f1.off fun c j => pRp_c)).trans o2).trans o3).trans o4).trans o5).trans o6).trans o7).trans o8).trans o9).trans o10).trans (f11.off fun c j => pRp_c)).trans o12).trans (f13.off fun c j hc => pS_c (pLs_S hc))).trans o14).trans (f15.off fun c j => pRp_c)).trans o16).trans o18).trans o19).trans (o20.trans o21)
  refine ⟨σ21, ?_, D21.1, oo⟩
  unfold X7_digest
  rw [uB, uB, e1, uB]
  refine (e2 _).trans ?_
  rw [D2.1.1.1.z.2.2.2.1, m3, uB]
  dsimp only
  rw [D3.1.1.1.z.2.2.2.2.1, m4, uB]
  refine (e5 _).trans ((e6 _).trans ((e7 _).trans ((e8 _).trans ((e9 _).trans ((e10 _).trans ?_)))))
  rw [e11, uB]
  dsimp only
  rw [m12, uB]
  dsimp only
  rw [e13, uB]
  dsimp only
  rw [m14, uB]
  dsimp only
  rw [e15, uB]
  dsimp only
  rw [x7_bitsSh ok.1, uB]
  dsimp only
  rw [m16, uB]
  dsimp only
  rw [x7_mean ok.1 hT D16.1.1, uB]
  dsimp only
  rw [if_pos n17, b17, uB]
  dsimp only
  rw [m18, uB]
  dsimp only
  rw [D18.1.2.2.1]
  unfold dgAns dg2 dg1
  cases hk : w_k w with
  | false =>
    rw [hk] at m19 m20 D19 D20 e21 D21
    rw [if_pos (show bI false = 0 from rfl), show X7_mix _ (0 : Int64) = _ from m19, uB]
    dsimp only
    rw [D19.1.2.2.2.2.2.1, m20, uB]
    refine (e21 _).trans ?_
    rw [D21.2]
  | true =>
    rw [hk] at m19 m20 D19 D20 e21 D21
    rw [if_neg (show ¬ bI true = 0 by decide), show X7_mix _ (1 : Int64) = _ from m19, uB]
    dsimp only
    rw [D19.1.2.2.2.2.2.1, m20, uB]
    refine (e21 _).trans ?_
    rw [D21.2]
