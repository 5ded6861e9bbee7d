/-! THE LAW'S LOOP -/
theorem use2 {T : Nat} {L : Option (Mem × Int32)} {X : Mem → Option (Mem × Int32)} (g : Good T L X) (C : Mem → Option (Mem × Int32)) (hC : ∀ σ w, Inv (T + 1) σ w → ∃ out, C σ = some out ∧ out.2 = 1) : ∃ out, (L.bind fun q1 => ((X q1.1).bind fun q3 => ((X7_thrown q3.1).bind fun q5 => (if q5.2 = q1.2 then (if q1.2 = 0 then (if (lg_cmp (q5.1.2 91 0) q3.2.toInt64) = 0 then C q5.1 else some (q5.1, (0 : Int32))) else C q5.1) else some (q5.1, (0 : Int32)))))) = some out ∧ out.2 = 1 := by
  obtain ⟨σ1, k, σ2, r, w', e1, e2, e3, e4, hI⟩ := g
  rw [e1, uB]
  dsimp only
  rw [e2, uB]
  unfold X7_thrown
  dsimp only
  rw [uB]
  dsimp only
  rw [e3, if_pos rfl]
  by_cases k0 : k = 0
  · rw [if_pos k0, if_pos (e4 k0)]
    exact hC σ2 w' hI
  · rw [if_neg k0]
    exact hC σ2 w' hI
theorem use1 {T : Nat} {L : Option (Mem × Int32)} {X : Mem → Option (Mem × Int32)} (g : Good1 T L X) (C : Mem → Option (Mem × Int32)) (hC : ∀ σ w, Inv (T + 1) σ w → ∃ out, C σ = some out ∧ out.2 = 1) : ∃ out, (L.bind fun q1 => ((X q1.1).bind fun q3 => (if q1.2 = q3.2 then C q3.1 else some (q3.1, (0 : Int32))))) = some out ∧ out.2 = 1 := by
  obtain ⟨σ1, r, σ2, w', e1, e2, hI⟩ := g
  rw [e1, uB]
  dsimp only
  rw [e2, uB]
  dsimp only
  rw [if_pos rfl]
  exact hC σ2 w' hI
theorem law_go {Ls : Nat} (hL : Ls ≤ 1536) (xs : Nat → Int32) : ∀ (fu T : Nat) (σ : Mem) (w : Wd), 3 * T ≤ Ls → Ls < 3 * (T + fu) → Inv T σ w → ∃ out, L_law Ls xs fu σ (nI (3 * T)) = some out ∧ out.2 = 1
  | 0, T, σ, w, h1, h2, _ => absurd h2 (by omega)
  | fu + 1, T, σ, w, h1, h2, hi => by
    rw [L_law]
    by_cases c : Ls < 3 * T + 3
    · rw [if_pos (show Int32.ofNat Ls - (3 : Int32) < nI (3 * T) by
        have e1 := pk_sub_toInt (a := Ls) (b := 3) (by omega) (by omega)
        have e2 := nI_toInt (n := 3 * T) (by omega)
        rw [Int32.lt_iff_toInt_lt]
        show (nI Ls - nI 3).toInt < _
        omega)]
      exact ⟨_, rfl, rfl⟩
    · rw [if_neg (show ¬ Int32.ofNat Ls - (3 : Int32) < nI (3 * T) by
        have e1 := pk_sub_toInt (a := Ls) (b := 3) (by omega) (by omega)
        have e2 := nI_toInt (n := 3 * T) (by omega)
        rw [Int32.lt_iff_toInt_lt]
        show ¬ (nI Ls - nI 3).toInt < _
        omega)]
      have hT : T + 1 ≤ 512 := by omega
      have hA0 : inA (nI (3 * T)) Ls := nI_inA (by omega) (by omega)
      have hA1 : (inA (nI (3 * T) + (1 : Int32)) Ls) = True := eq_true (by rw [nI_1]; exact nI_inA (by omega) (by omega))
      have hA2 : (inA (nI (3 * T) + (2 : Int32)) Ls) = True := eq_true (by rw [show nI (3 * T) + (2 : Int32) = nI (3 * T + 2) from nI_add _ 2]; exact nI_inA (by omega) (by omega))
      have e3 : nI (3 * T) + (3 : Int32) = nI (3 * (T + 1)) := nI_add _ 3
      have next : ∀ σ w, Inv (T + 1) σ w → ∃ out, L_law Ls xs fu σ (nI (3 * (T + 1))) = some out ∧ out.2 = 1 := fun σ w h => law_go hL xs fu (T + 1) σ w (by omega) (by omega) h
      have stay : Inv (T + 1) σ w := ⟨hi.1, hi.2.1, hi.2.2.1, hi.2.2.2.mono (Nat.le_succ T)⟩
      rw [if_pos hA0]
      simp only [hA1, hA2, if_true, e3]
      generalize xs (nI (3 * T)).toNatClampNeg &&& (31 : Int32) = z
      by_cases h0 : z = (0 : Int32)
      · rw [if_pos h0]
        exact use2 (s_strike hi _) (fun σ => L_law Ls xs fu σ (nI (3 * (T + 1)))) next
      rw [if_neg h0]
      by_cases h1 : z = (1 : Int32)
      · rw [if_pos h1]
        exact use2 (s_play hi) (fun σ => L_law Ls xs fu σ (nI (3 * (T + 1)))) next
      rw [if_neg h1]
      by_cases h2 : z = (2 : Int32)
      · rw [if_pos h2]
        exact use1 (s_tear hi) (fun σ => L_law Ls xs fu σ (nI (3 * (T + 1)))) next
      rw [if_neg h2]
      by_cases h3 : z = (3 : Int32)
      · rw [if_pos h3]
        exact use2 (s_pick hT hi _ _) (fun σ => L_law Ls xs fu σ (nI (3 * (T + 1)))) next
      rw [if_neg h3]
      by_cases h4 : z = (4 : Int32)
      · rw [if_pos h4]
        exact use2 (s_define hi _) (fun σ => L_law Ls xs fu σ (nI (3 * (T + 1)))) next
      rw [if_neg h4]
      by_cases h5 : z = (5 : Int32)
      · rw [if_pos h5]
        exact use2 (s_remove hi _) (fun σ => L_law Ls xs fu σ (nI (3 * (T + 1)))) next
      rw [if_neg h5]
      by_cases h6 : z = (6 : Int32)
      · rw [if_pos h6]
        exact use2 (s_set hi _ _) (fun σ => L_law Ls xs fu σ (nI (3 * (T + 1)))) next
      rw [if_neg h6]
      by_cases h7 : z = (7 : Int32)
      · rw [if_pos h7]
        exact use2 (s_append hi _) (fun σ => L_law Ls xs fu σ (nI (3 * (T + 1)))) next
      rw [if_neg h7]
      by_cases h8 : z = (8 : Int32)
      · rw [if_pos h8]
        exact use1 (s_clear hi) (fun σ => L_law Ls xs fu σ (nI (3 * (T + 1)))) next
      rw [if_neg h8]
      by_cases h9 : z = (9 : Int32)
      · rw [if_pos h9]
        exact use1 (s_fault hi) (fun σ => L_law Ls xs fu σ (nI (3 * (T + 1)))) next
      rw [if_neg h9]
      by_cases h10 : z = (10 : Int32)
      · rw [if_pos h10]
        exact use1 (s_keep hi) (fun σ => L_law Ls xs fu σ (nI (3 * (T + 1)))) next
      rw [if_neg h10]
      by_cases h11 : z = (11 : Int32)
      · rw [if_pos h11]
        exact use2 (s_goBack hi) (fun σ => L_law Ls xs fu σ (nI (3 * (T + 1)))) next
      rw [if_neg h11]
      by_cases h12 : z = (12 : Int32)
      · rw [if_pos h12]
        exact use2 (s_undo hi) (fun σ => L_law Ls xs fu σ (nI (3 * (T + 1)))) next
      rw [if_neg h12]
      by_cases h13 : z = (13 : Int32)
      · rw [if_pos h13]
        exact use2 (s_stroke hi _) (fun σ => L_law Ls xs fu σ (nI (3 * (T + 1)))) next
      rw [if_neg h13]
      by_cases h14 : z = (14 : Int32)
      · rw [if_pos h14]
        exact use2 (s_item hi _ _) (fun σ => L_law Ls xs fu σ (nI (3 * (T + 1)))) next
      rw [if_neg h14]
      by_cases h15 : z = (15 : Int32)
      · rw [if_pos h15]
        exact use2 (s_entry hi _ _) (fun σ => L_law Ls xs fu σ (nI (3 * (T + 1)))) next
      rw [if_neg h15]
      by_cases h16 : z = (16 : Int32)
      · rw [if_pos h16]
        exact use2 (s_count hi _) (fun σ => L_law Ls xs fu σ (nI (3 * (T + 1)))) next
      rw [if_neg h16]
      by_cases h17 : z = (17 : Int32)
      · rw [if_pos h17]
        exact use2 (s_setting hi _) (fun σ => L_law Ls xs fu σ (nI (3 * (T + 1)))) next
      rw [if_neg h17]
      by_cases h18 : z = (18 : Int32)
      · rw [if_pos h18]
        exact use2 (s_if hi _ _) (fun σ => L_law Ls xs fu σ (nI (3 * (T + 1)))) next
      rw [if_neg h18]
      by_cases h19 : z = (19 : Int32)
      · rw [if_pos h19]
        exact use2 (s_begun hi _) (fun σ => L_law Ls xs fu σ (nI (3 * (T + 1)))) next
      rw [if_neg h19]
      by_cases h20 : z = (20 : Int32)
      · rw [if_pos h20]
        exact use2 (s_short hi _) (fun σ => L_law Ls xs fu σ (nI (3 * (T + 1)))) next
      rw [if_neg h20]
      by_cases h21 : z = (21 : Int32)
      · rw [if_pos h21]
        exact use2 (s_behind hi _ _) (fun σ => L_law Ls xs fu σ (nI (3 * (T + 1)))) next
      rw [if_neg h21]
      by_cases h22 : z = (22 : Int32)
      · rw [if_pos h22]
        exact use1 (s_clashes hi) (fun σ => L_law Ls xs fu σ (nI (3 * (T + 1)))) next
      rw [if_neg h22]
      by_cases h23 : z = (23 : Int32)
      · rw [if_pos h23]
        exact use1 (s_least hi) (fun σ => L_law Ls xs fu σ (nI (3 * (T + 1)))) next
      rw [if_neg h23]
      by_cases h24 : z = (24 : Int32)
      · rw [if_pos h24]
        obtain ⟨σ1, v, σ2, w', e1, e2, hI⟩ := s_share hi
        rw [e1, uB]
        dsimp only
        rw [e2, uB]
        dsimp only
        by_cases d : Op.cmpValue (FP.dcmp v v) CmpOp.l = 0
        · rw [if_pos d]; exact next σ2 w' hI
        · rw [if_neg d, if_neg d, if_neg d]; exact next σ2 w' hI
      rw [if_neg h24]
      by_cases h25 : z = (25 : Int32)
      · rw [if_pos h25]
        obtain ⟨σ1, v, σ2, w', e1, e2, hn, hI⟩ := s_mean hT hi
        rw [e1, uB]
        dsimp only
        rw [if_pos hn, e2, uB]
        dsimp only
        rw [if_pos hn]
        by_cases d : Op.cmpValue (FP.dcmp (FP.f2d v) (FP.f2d v)) CmpOp.l = 0
        · rw [if_pos d]; exact next σ2 w' hI
        · rw [if_neg d, if_neg d, if_neg d]; exact next σ2 w' hI
      rw [if_neg h25]
      by_cases h26 : z = (26 : Int32)
      · rw [if_pos h26]
        obtain ⟨σ1, v, σ2, w', e1, e2, hI⟩ := s_digest hT hi
        rw [e1, uB]
        dsimp only
        rw [e2, uB]
        dsimp only
        rw [if_pos ((lg_cmp_eq v v).mpr rfl)]
        exact next σ2 w' hI
      rw [if_neg h26]
      exact next σ w stay
/-! the start -/
def En0 : En := (0, fun _ => 0, fun _ _ => 0, fun _ => 0, fun _ => 0)
def As0 : As := ((0, fun _ => 0), En0, (0, 4), (0, 0, 0, 0))
def Wd0 : Wd := (As0, As0, false, (0, fun _ => As0), (0, fun _ => 0))
