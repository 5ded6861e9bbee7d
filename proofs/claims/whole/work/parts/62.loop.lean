theorem l0_out {σ : Mem} {out : Mem × Int32} (h : some (σ, (0 : Int32)) = some out) : ¬ out.2 = 1 := by
  cases h
  show ¬ (0 : Int32) = 1
  decide
def L_law (Ls : Nat) (xs : Nat → Int32) : Nat → Mem → Int32 → Option (Mem × Int32)
  | 0, _, _ => none
  | fu + 1, σ, v4 => (if ((Int32.ofNat Ls) - (3 : Int32)) < v4 then some (σ, (1 : Int32)) else (if inA v4 Ls then (if ((xs v4.toNatClampNeg) &&& (31 : Int32)) = (0 : Int32) then (if inA (v4 + (1 : Int32)) Ls then ((L_strike σ (xs (v4 + (1 : Int32)).toNatClampNeg)).bind fun q1 => (if inA (v4 + (1 : Int32)) Ls then ((X7_strike q1.1 (xs (v4 + (1 : Int32)).toNatClampNeg)).bind fun q3 => ((X7_thrown q3.1).bind fun q5 => (if q5.2 = q1.2 then (if q1.2 = 0 then (if (lg_cmp (q5.1.2 91 0) q3.2.toInt64) = 0 then L_law Ls xs fu q5.1 (v4 + (3 : Int32)) else some (q5.1, (0 : Int32))) else L_law Ls xs fu q5.1 (v4 + (3 : Int32))) else some (q5.1, (0 : Int32))))) else none)) else none) else (if ((xs v4.toNatClampNeg) &&& (31 : Int32)) = (1 : Int32) then ((L_play σ).bind fun q7 => ((X7_play q7.1).bind fun q9 => ((X7_thrown q9.1).bind fun q11 => (if q11.2 = q7.2 then (if q7.2 = 0 then (if (lg_cmp (q11.1.2 91 0) q9.2.toInt64) = 0 then L_law Ls xs fu q11.1 (v4 + (3 : Int32)) else some (q11.1, (0 : Int32))) else L_law Ls xs fu q11.1 (v4 + (3 : Int32))) else some (q11.1, (0 : Int32)))))) else (if ((xs v4.toNatClampNeg) &&& (31 : Int32)) = (2 : Int32) then ((X6_tear σ).bind fun q13 => ((X7_tear q13.1).bind fun q15 => (if q13.2 = q15.2 then L_law Ls xs fu q15.1 (v4 + (3 : Int32)) else some (q15.1, (0 : Int32))))) else (if ((xs v4.toNatClampNeg) &&& (31 : Int32)) = (3 : Int32) then (if inA (v4 + (1 : Int32)) Ls then (if inA (v4 + (2 : Int32)) Ls then ((L_pick σ (xs (v4 + (1 : Int32)).toNatClampNeg) (xs (v4 + (2 : Int32)).toNatClampNeg)).bind fun q17 => (if inA (v4 + (1 : Int32)) Ls then (if inA (v4 + (2 : Int32)) Ls then ((X7_pick q17.1 (xs (v4 + (1 : Int32)).toNatClampNeg) (xs (v4 + (2 : Int32)).toNatClampNeg)).bind fun q19 => ((X7_thrown q19.1).bind fun q21 => (if q21.2 = q17.2 then (if q17.2 = 0 then (if (lg_cmp (q21.1.2 91 0) q19.2.toInt64) = 0 then L_law Ls xs fu q21.1 (v4 + (3 : Int32)) else some (q21.1, (0 : Int32))) else L_law Ls xs fu q21.1 (v4 + (3 : Int32))) else some (q21.1, (0 : Int32))))) else none) else none)) else none) else none) else (if ((xs v4.toNatClampNeg) &&& (31 : Int32)) = (4 : Int32) then (if inA (v4 + (1 : Int32)) Ls then ((L_define σ (xs (v4 + (1 : Int32)).toNatClampNeg)).bind fun q23 => (if inA (v4 + (1 : Int32)) Ls then ((X7_define q23.1 (xs (v4 + (1 : Int32)).toNatClampNeg)).bind fun q25 => ((X7_thrown q25.1).bind fun q27 => (if q27.2 = q23.2 then (if q23.2 = 0 then (if (lg_cmp (q27.1.2 91 0) q25.2.toInt64) = 0 then L_law Ls xs fu q27.1 (v4 + (3 : Int32)) else some (q27.1, (0 : Int32))) else L_law Ls xs fu q27.1 (v4 + (3 : Int32))) else some (q27.1, (0 : Int32))))) else none)) else none) else (if ((xs v4.toNatClampNeg) &&& (31 : Int32)) = (5 : Int32) then (if inA (v4 + (1 : Int32)) Ls then ((L_remove σ (xs (v4 + (1 : Int32)).toNatClampNeg)).bind fun q29 => (if inA (v4 + (1 : Int32)) Ls then ((X7_remove q29.1 (xs (v4 + (1 : Int32)).toNatClampNeg)).bind fun q31 => ((X7_thrown q31.1).bind fun q33 => (if q33.2 = q29.2 then (if q29.2 = 0 then (if (lg_cmp (q33.1.2 91 0) q31.2.toInt64) = 0 then L_law Ls xs fu q33.1 (v4 + (3 : Int32)) else some (q33.1, (0 : Int32))) else L_law Ls xs fu q33.1 (v4 + (3 : Int32))) else some (q33.1, (0 : Int32))))) else none)) else none) else (if ((xs v4.toNatClampNeg) &&& (31 : Int32)) = (6 : Int32) then (if inA (v4 + (1 : Int32)) Ls then (if inA (v4 + (2 : Int32)) Ls then ((L_set σ (xs (v4 + (1 : Int32)).toNatClampNeg) (xs (v4 + (2 : Int32)).toNatClampNeg)).bind fun q35 => (if inA (v4 + (1 : Int32)) Ls then (if inA (v4 + (2 : Int32)) Ls then ((X7_set q35.1 (xs (v4 + (1 : Int32)).toNatClampNeg) (xs (v4 + (2 : Int32)).toNatClampNeg)).bind fun q37 => ((X7_thrown q37.1).bind fun q39 => (if q39.2 = q35.2 then (if q35.2 = 0 then (if (lg_cmp (q39.1.2 91 0) q37.2.toInt64) = 0 then L_law Ls xs fu q39.1 (v4 + (3 : Int32)) else some (q39.1, (0 : Int32))) else L_law Ls xs fu q39.1 (v4 + (3 : Int32))) else some (q39.1, (0 : Int32))))) else none) else none)) else none) else none) else (if ((xs v4.toNatClampNeg) &&& (31 : Int32)) = (7 : Int32) then (if inA (v4 + (1 : Int32)) Ls then ((L_append σ (xs (v4 + (1 : Int32)).toNatClampNeg)).bind fun q41 => (if inA (v4 + (1 : Int32)) Ls then ((X7_append q41.1 (xs (v4 + (1 : Int32)).toNatClampNeg)).bind fun q43 => ((X7_thrown q43.1).bind fun q45 => (if q45.2 = q41.2 then (if q41.2 = 0 then (if (lg_cmp (q45.1.2 91 0) q43.2.toInt64) = 0 then L_law Ls xs fu q45.1 (v4 + (3 : Int32)) else some (q45.1, (0 : Int32))) else L_law Ls xs fu q45.1 (v4 + (3 : Int32))) else some (q45.1, (0 : Int32))))) else none)) else none) else (if ((xs v4.toNatClampNeg) &&& (31 : Int32)) = (8 : Int32) then ((X6_clearBuffer σ).bind fun q47 => ((X7_clearBuffer q47.1).bind fun q49 => (if q47.2 = q49.2 then L_law Ls xs fu q49.1 (v4 + (3 : Int32)) else some (q49.1, (0 : Int32))))) else (if ((xs v4.toNatClampNeg) &&& (31 : Int32)) = (9 : Int32) then ((X6_firstError σ).bind fun q51 => ((X7_firstError q51.1).bind fun q53 => (if q51.2 = q53.2 then L_law Ls xs fu q53.1 (v4 + (3 : Int32)) else some (q53.1, (0 : Int32))))) else (if ((xs v4.toNatClampNeg) &&& (31 : Int32)) = (10 : Int32) then ((X6_keep σ).bind fun q55 => ((X7_keep q55.1).bind fun q57 => (if q55.2 = q57.2 then L_law Ls xs fu q57.1 (v4 + (3 : Int32)) else some (q57.1, (0 : Int32))))) else (if ((xs v4.toNatClampNeg) &&& (31 : Int32)) = (11 : Int32) then ((L_goBack σ).bind fun q59 => ((X7_goBack q59.1).bind fun q61 => ((X7_thrown q61.1).bind fun q63 => (if q63.2 = q59.2 then (if q59.2 = 0 then (if (lg_cmp (q63.1.2 91 0) q61.2.toInt64) = 0 then L_law Ls xs fu q63.1 (v4 + (3 : Int32)) else some (q63.1, (0 : Int32))) else L_law Ls xs fu q63.1 (v4 + (3 : Int32))) else some (q63.1, (0 : Int32)))))) else (if ((xs v4.toNatClampNeg) &&& (31 : Int32)) = (12 : Int32) then ((L_undo σ).bind fun q65 => ((X7_undo q65.1).bind fun q67 => ((X7_thrown q67.1).bind fun q69 => (if q69.2 = q65.2 then (if q65.2 = 0 then (if (lg_cmp (q69.1.2 91 0) q67.2.toInt64) = 0 then L_law Ls xs fu q69.1 (v4 + (3 : Int32)) else some (q69.1, (0 : Int32))) else L_law Ls xs fu q69.1 (v4 + (3 : Int32))) else some (q69.1, (0 : Int32)))))) else (if ((xs v4.toNatClampNeg) &&& (31 : Int32)) = (13 : Int32) then (if inA (v4 + (1 : Int32)) Ls then ((L_stroke σ (xs (v4 + (1 : Int32)).toNatClampNeg)).bind fun q71 => (if inA (v4 + (1 : Int32)) Ls then ((X7_stroke q71.1 (xs (v4 + (1 : Int32)).toNatClampNeg)).bind fun q73 => ((X7_thrown q73.1).bind fun q75 => (if q75.2 = q71.2 then (if q71.2 = 0 then (if (lg_cmp (q75.1.2 91 0) q73.2.toInt64) = 0 then L_law Ls xs fu q75.1 (v4 + (3 : Int32)) else some (q75.1, (0 : Int32))) else L_law Ls xs fu q75.1 (v4 + (3 : Int32))) else some (q75.1, (0 : Int32))))) else none)) else none) else (if ((xs v4.toNatClampNeg) &&& (31 : Int32)) = (14 : Int32) then (if inA (v4 + (1 : Int32)) Ls then (if inA (v4 + (2 : Int32)) Ls then ((L_item σ (xs (v4 + (1 : Int32)).toNatClampNeg) (xs (v4 + (2 : Int32)).toNatClampNeg)).bind fun q77 => (if inA (v4 + (1 : Int32)) Ls then (if inA (v4 + (2 : Int32)) Ls then ((X7_item q77.1 (xs (v4 + (1 : Int32)).toNatClampNeg) (xs (v4 + (2 : Int32)).toNatClampNeg)).bind fun q79 => ((X7_thrown q79.1).bind fun q81 => (if q81.2 = q77.2 then (if q77.2 = 0 then (if (lg_cmp (q81.1.2 91 0) q79.2.toInt64) = 0 then L_law Ls xs fu q81.1 (v4 + (3 : Int32)) else some (q81.1, (0 : Int32))) else L_law Ls xs fu q81.1 (v4 + (3 : Int32))) else some (q81.1, (0 : Int32))))) else none) else none)) else none) else none) else (if ((xs v4.toNatClampNeg) &&& (31 : Int32)) = (15 : Int32) then (if inA (v4 + (1 : Int32)) Ls then (if inA (v4 + (2 : Int32)) Ls then ((L_entry σ (xs (v4 + (1 : Int32)).toNatClampNeg) (xs (v4 + (2 : Int32)).toNatClampNeg)).bind fun q83 => (if inA (v4 + (1 : Int32)) Ls then (if inA (v4 + (2 : Int32)) Ls then ((X7_entry q83.1 (xs (v4 + (1 : Int32)).toNatClampNeg) (xs (v4 + (2 : Int32)).toNatClampNeg)).bind fun q85 => ((X7_thrown q85.1).bind fun q87 => (if q87.2 = q83.2 then (if q83.2 = 0 then (if (lg_cmp (q87.1.2 91 0) q85.2.toInt64) = 0 then L_law Ls xs fu q87.1 (v4 + (3 : Int32)) else some (q87.1, (0 : Int32))) else L_law Ls xs fu q87.1 (v4 + (3 : Int32))) else some (q87.1, (0 : Int32))))) else none) else none)) else none) else none) else (if ((xs v4.toNatClampNeg) &&& (31 : Int32)) = (16 : Int32) then (if inA (v4 + (1 : Int32)) Ls then ((L_count σ (xs (v4 + (1 : Int32)).toNatClampNeg)).bind fun q89 => (if inA (v4 + (1 : Int32)) Ls then ((X7_count q89.1 (xs (v4 + (1 : Int32)).toNatClampNeg)).bind fun q91 => ((X7_thrown q91.1).bind fun q93 => (if q93.2 = q89.2 then (if q89.2 = 0 then (if (lg_cmp (q93.1.2 91 0) q91.2.toInt64) = 0 then L_law Ls xs fu q93.1 (v4 + (3 : Int32)) else some (q93.1, (0 : Int32))) else L_law Ls xs fu q93.1 (v4 + (3 : Int32))) else some (q93.1, (0 : Int32))))) else none)) else none) else (if ((xs v4.toNatClampNeg) &&& (31 : Int32)) = (17 : Int32) then (if inA (v4 + (1 : Int32)) Ls then ((L_setting σ (xs (v4 + (1 : Int32)).toNatClampNeg)).bind fun q95 => (if inA (v4 + (1 : Int32)) Ls then ((X7_setting q95.1 (xs (v4 + (1 : Int32)).toNatClampNeg)).bind fun q97 => ((X7_thrown q97.1).bind fun q99 => (if q99.2 = q95.2 then (if q95.2 = 0 then (if (lg_cmp (q99.1.2 91 0) q97.2.toInt64) = 0 then L_law Ls xs fu q99.1 (v4 + (3 : Int32)) else some (q99.1, (0 : Int32))) else L_law Ls xs fu q99.1 (v4 + (3 : Int32))) else some (q99.1, (0 : Int32))))) else none)) else none) else (if ((xs v4.toNatClampNeg) &&& (31 : Int32)) = (18 : Int32) then (if inA (v4 + (1 : Int32)) Ls then (if inA (v4 + (2 : Int32)) Ls then ((L_ifStruck σ (xs (v4 + (1 : Int32)).toNatClampNeg) (xs (v4 + (2 : Int32)).toNatClampNeg)).bind fun q101 => (if inA (v4 + (1 : Int32)) Ls then (if inA (v4 + (2 : Int32)) Ls then ((X7_ifStruck q101.1 (xs (v4 + (1 : Int32)).toNatClampNeg) (xs (v4 + (2 : Int32)).toNatClampNeg)).bind fun q103 => ((X7_thrown q103.1).bind fun q105 => (if q105.2 = q101.2 then (if q101.2 = 0 then (if (lg_cmp (q105.1.2 91 0) q103.2.toInt64) = 0 then L_law Ls xs fu q105.1 (v4 + (3 : Int32)) else some (q105.1, (0 : Int32))) else L_law Ls xs fu q105.1 (v4 + (3 : Int32))) else some (q105.1, (0 : Int32))))) else none) else none)) else none) else none) else (if ((xs v4.toNatClampNeg) &&& (31 : Int32)) = (19 : Int32) then (if inA (v4 + (1 : Int32)) Ls then ((L_begun σ (xs (v4 + (1 : Int32)).toNatClampNeg)).bind fun q107 => (if inA (v4 + (1 : Int32)) Ls then ((X7_begun q107.1 (xs (v4 + (1 : Int32)).toNatClampNeg)).bind fun q109 => ((X7_thrown q109.1).bind fun q111 => (if q111.2 = q107.2 then (if q107.2 = 0 then (if (lg_cmp (q111.1.2 91 0) q109.2.toInt64) = 0 then L_law Ls xs fu q111.1 (v4 + (3 : Int32)) else some (q111.1, (0 : Int32))) else L_law Ls xs fu q111.1 (v4 + (3 : Int32))) else some (q111.1, (0 : Int32))))) else none)) else none) else (if ((xs v4.toNatClampNeg) &&& (31 : Int32)) = (20 : Int32) then (if inA (v4 + (1 : Int32)) Ls then ((L_shortest σ (xs (v4 + (1 : Int32)).toNatClampNeg)).bind fun q113 => (if inA (v4 + (1 : Int32)) Ls then ((X7_shortest q113.1 (xs (v4 + (1 : Int32)).toNatClampNeg)).bind fun q115 => ((X7_thrown q115.1).bind fun q117 => (if q117.2 = q113.2 then (if q113.2 = 0 then (if (lg_cmp (q117.1.2 91 0) q115.2.toInt64) = 0 then L_law Ls xs fu q117.1 (v4 + (3 : Int32)) else some (q117.1, (0 : Int32))) else L_law Ls xs fu q117.1 (v4 + (3 : Int32))) else some (q117.1, (0 : Int32))))) else none)) else none) else (if ((xs v4.toNatClampNeg) &&& (31 : Int32)) = (21 : Int32) then (if inA (v4 + (1 : Int32)) Ls then (if inA (v4 + (2 : Int32)) Ls then ((L_behind σ (xs (v4 + (1 : Int32)).toNatClampNeg) (xs (v4 + (2 : Int32)).toNatClampNeg)).bind fun q119 => (if inA (v4 + (1 : Int32)) Ls then (if inA (v4 + (2 : Int32)) Ls then ((X7_behind q119.1 (xs (v4 + (1 : Int32)).toNatClampNeg) (xs (v4 + (2 : Int32)).toNatClampNeg)).bind fun q121 => ((X7_thrown q121.1).bind fun q123 => (if q123.2 = q119.2 then (if q119.2 = 0 then (if (lg_cmp (q123.1.2 91 0) q121.2.toInt64) = 0 then L_law Ls xs fu q123.1 (v4 + (3 : Int32)) else some (q123.1, (0 : Int32))) else L_law Ls xs fu q123.1 (v4 + (3 : Int32))) else some (q123.1, (0 : Int32))))) else none) else none)) else none) else none) else (if ((xs v4.toNatClampNeg) &&& (31 : Int32)) = (22 : Int32) then ((X6_clashes σ).bind fun q125 => ((X7_clashes q125.1).bind fun q127 => (if q125.2 = q127.2 then L_law Ls xs fu q127.1 (v4 + (3 : Int32)) else some (q127.1, (0 : Int32))))) else (if ((xs v4.toNatClampNeg) &&& (31 : Int32)) = (23 : Int32) then ((X6_least σ).bind fun q129 => ((X7_least q129.1).bind fun q131 => (if q129.2 = q131.2 then L_law Ls xs fu q131.1 (v4 + (3 : Int32)) else some (q131.1, (0 : Int32))))) else (if ((xs v4.toNatClampNeg) &&& (31 : Int32)) = (24 : Int32) then ((X6_readShare σ).bind fun q133 => ((X7_readShare q133.1).bind fun q135 => (if (Op.cmpValue (FP.dcmp q133.2 q135.2) CmpOp.l) = 0 then L_law Ls xs fu q135.1 (v4 + (3 : Int32)) else (if (Op.cmpValue (FP.dcmp q133.2 q133.2) CmpOp.l) = 0 then some (q135.1, (0 : Int32)) else (if (Op.cmpValue (FP.dcmp q135.2 q135.2) CmpOp.l) = 0 then some (q135.1, (0 : Int32)) else L_law Ls xs fu q135.1 (v4 + (3 : Int32))))))) else (if ((xs v4.toNatClampNeg) &&& (31 : Int32)) = (25 : Int32) then ((X6_meanKeys σ).bind fun q137 => (if ((FP.f2d q137.2) &&& 0x7fffffffffffffff ≤ 0x7ff0000000000000) then ((X7_meanKeys q137.1).bind fun q139 => (if ((FP.f2d q139.2) &&& 0x7fffffffffffffff ≤ 0x7ff0000000000000) then (if (Op.cmpValue (FP.dcmp (FP.f2d q137.2) (FP.f2d q139.2)) CmpOp.l) = 0 then L_law Ls xs fu q139.1 (v4 + (3 : Int32)) else (if (Op.cmpValue (FP.dcmp (FP.f2d q137.2) (FP.f2d q137.2)) CmpOp.l) = 0 then some (q139.1, (0 : Int32)) else (if (Op.cmpValue (FP.dcmp (FP.f2d q139.2) (FP.f2d q139.2)) CmpOp.l) = 0 then some (q139.1, (0 : Int32)) else L_law Ls xs fu q139.1 (v4 + (3 : Int32))))) else none)) else none)) else (if ((xs v4.toNatClampNeg) &&& (31 : Int32)) = (26 : Int32) then ((X6_digest σ).bind fun q141 => ((X7_digest q141.1).bind fun q143 => (if (lg_cmp q141.2 q143.2) = 0 then L_law Ls xs fu q143.1 (v4 + (3 : Int32)) else some (q143.1, (0 : Int32))))) else L_law Ls xs fu σ (v4 + (3 : Int32))))))))))))))))))))))))))))) else none))
set_option maxHeartbeats 40000000 in
set_option maxRecDepth 100000 in
theorem w_L_law {E : Ev} {G : Gw} (C : Cx E G RL cL_law 9 room_1) (hNc : Nc3 (eS E)) (hst : (eL E).stackTraces = false) {b Ls : Nat} {xs : Nat → Int32} (hsc : Sc E G b Ls xs) (hR : RetOk E G) {out : Mem × Int32} (hout : out.2 = 1) : ∀ (fu k n : Nat) (hk : k + fu ≤ 600000) (hn : n + 6 * fu ≤ 7000000) (σ : Mem) (v4 : Int32), L_law Ls xs fu σ v4 = some out → J E G 9 k n σ 23 [(0, .ref b), (1, .ref (gA G 81)), (2, .ref (gA G 82)), (3, .ref (gA G 91)), (4, .int v4)] [] := by
  intro fu
  induction fu with
  | zero => intro k n hk hn σ v4 h; rw [L_law] at h; cases h
  | succ fu ih =>
    intro k n hk hn σ v4 h
    rw [L_law] at h
    refine j_iload C dL_law_23 4 rfl 25 rfl ?_
    refine j_aload_n C dL_law_25 rfl 0 rfl 26 rfl ?_
    refine j_slen C hsc dL_law_26 27 rfl ?_
    refine j_iconst C dL_law_27 (3 : Int32) (by decide) 28 rfl ?_
    refine j_isub C dL_law_28 29 rfl ?_
    refine j_icmp_gt C dL_law_29 1386 (by decide) 32 rfl (fun c => ?_) (fun c => ?_)
    · have h := it_t c h
      refine j_iconst C dL_law_1386 (1 : Int32) (by decide) 1387 rfl ?_
      exact hR _ _ _ _ _ (by omega) (by omega) dL_law_1387
    · have h := it_f c h
      refine j_aload_n C dL_law_32 rfl 0 rfl 33 rfl ?_
      refine j_iload C dL_law_33 4 rfl 35 rfl ?_
      obtain ⟨hc, h⟩ := if_some h
      refine j_sld C hsc hc dL_law_35 36 rfl ?_
      refine j_bipush C dL_law_36 (31 : Int32) (by decide) 38 rfl ?_
      refine j_iand C dL_law_38 39 rfl ?_
      by_cases c0 : ((xs v4.toNatClampNeg) &&& (31 : Int32)) = (0 : Int32)
      · have h := it_t c0 h
        refine j_tableIn C dL_law_39 (by rw [c0]; decide) (by rw [c0]; decide) (off := 121) (by rw [c0]; rfl) 160 (by decide) ?_
        refine j_aload_n C dL_law_160 rfl 1 rfl 161 rfl ?_
        refine j_aload_n C dL_law_161 rfl 0 rfl 162 rfl ?_
        refine j_iload C dL_law_162 4 rfl 164 rfl ?_
        refine j_iconst C dL_law_164 (1 : Int32) (by decide) 165 rfl ?_
        refine j_iadd C dL_law_165 166 rfl ?_
        obtain ⟨hc, h⟩ := if_some h
        refine j_sld C hsc hc dL_law_166 167 rfl ?_
        refine j_aload_n C dL_law_167 rfl 3 rfl 168 rfl ?_
        obtain ⟨q1, e2, h⟩ := ob_some h
        refine j_callSW C hNc (cw_L_strike (eL E) hst G e2) kw3_178 kw3_177 kw1_0 wd_L_strike kw3_176 rfl ⟨Nat.le_of_ble_eq_true rfl, Nat.le_of_ble_eq_true rfl, rfl, rfl⟩ ⟨by show k + 1 ≤ 601024; omega, by show n + 6 ≤ 7293034; omega⟩ (rest := []) rfl (Nat.le_of_ble_eq_true rfl) dL_law_168 (st1 := [.int q1.2]) rfl 171 rfl ?_
        refine j_istore C dL_law_171 (by decide) [(5, .int q1.2), (0, .ref b), (1, .ref (gA G 81)), (2, .ref (gA G 82)), (3, .ref (gA G 91)), (4, .int v4)] rfl 173 rfl ?_
        refine j_aload_n C dL_law_173 rfl 3 rfl 174 rfl ?_
        refine j_aload_n C dL_law_174 rfl 1 rfl 175 rfl ?_
        refine j_iload C dL_law_175 5 rfl 177 rfl ?_
        refine j_iconst C dL_law_177 (1 : Int32) (by decide) 178 rfl ?_
        refine j_iadd C dL_law_178 179 rfl ?_
        obtain ⟨hc, h⟩ := if_some h
        refine j_sld C hsc hc dL_law_179 180 rfl ?_
        obtain ⟨q3, e4, h⟩ := ob_some h
        refine j_callV C (ct_X7_strike (eL E) G  e4) sh82 foX7 rfl vk_X7_strike kw4_238 rfl ⟨Nat.le_of_ble_eq_true rfl, Nat.le_of_ble_eq_true rfl, rfl, rfl⟩ ⟨by first | (show k ≤ 601024; omega) | (show k + 1 ≤ 601024; omega), by first | (show n ≤ 7293034; omega) | (show n + 6 ≤ 7293034; omega)⟩ (rest := []) rfl (Nat.le_of_ble_eq_true rfl) dL_law_180 (st1 := [.int q3.2]) rfl 183 rfl ?_
        refine j_istore C dL_law_183 (by decide) [(6, .int q3.2), (5, .int q1.2), (0, .ref b), (1, .ref (gA G 81)), (2, .ref (gA G 82)), (3, .ref (gA G 91)), (4, .int v4)] rfl 185 rfl ?_
        refine j_aload_n C dL_law_185 rfl 4 rfl 186 rfl ?_
        obtain ⟨q5, e6, h⟩ := ob_some h
        refine j_callV C (ct_X7_thrown (eL E) G  e6) sh82 foX7 rfl vk_X7_thrown kw4_234 rfl ⟨Nat.le_of_ble_eq_true rfl, Nat.le_of_ble_eq_true rfl, rfl, rfl⟩ ⟨by first | (show k ≤ 601024; omega) | (show k + 1 ≤ 601024; omega), by first | (show n ≤ 7293034; omega) | (show n + 6 ≤ 7293034; omega)⟩ (rest := []) rfl (Nat.le_of_ble_eq_true rfl) dL_law_186 (st1 := [.int q5.2]) rfl 189 rfl ?_
        refine j_iload C dL_law_189 1 rfl 191 rfl ?_
        refine j_icmp_eq C dL_law_191 196 (by decide) 194 rfl (fun c => ?_) (fun c => ?_)
        · have h := it_t c h
          refine j_iload C dL_law_196 1 rfl 198 rfl ?_
          refine j_if_ne C dL_law_198 213 (by decide) 201 rfl (fun c => ?_) (fun c => ?_)
          · have h := it_f c h
            refine j_goto C dL_law_213 1380 (by decide) ?_
            refine j_iinc C dL_law_1380 6 rfl (v4 + (3 : Int32)) rfl (by decide) [(4, .int (v4 + (3 : Int32))), (6, .int q3.2), (5, .int q1.2), (0, .ref b), (1, .ref (gA G 81)), (2, .ref (gA G 82)), (3, .ref (gA G 91))] rfl 1383 rfl ?_
            refine j_goto C dL_law_1383 23 (by decide) ?_
            refine j_sub [(0, .ref b), (1, .ref (gA G 81)), (2, .ref (gA G 82)), (3, .ref (gA G 91)), (4, .int (v4 + (3 : Int32)))] [3, 4, 5, 6, 0] rfl ?_
            exact ih _ _ (by omega) (by omega) _ _ h
          · have h := it_t c h
            refine j_aload_n C dL_law_201 rfl 5 rfl 202 rfl ?_
            refine j_iconst C dL_law_202 (0 : Int32) (by decide) 203 rfl ?_
            refine j_lald C sh91 (by decide) dL_law_203 0 rfl 204 rfl ?_
            refine j_iload C dL_law_204 0 rfl 206 rfl ?_
            refine j_i2l C dL_law_206 207 rfl ?_
            refine j_lcmp C dL_law_207 208 rfl ?_
            refine j_if_eq C dL_law_208 213 (by decide) 211 rfl (fun c => ?_) (fun c => ?_)
            · have h := it_t c h
              refine j_goto C dL_law_213 1380 (by decide) ?_
              refine j_iinc C dL_law_1380 6 rfl (v4 + (3 : Int32)) rfl (by decide) [(4, .int (v4 + (3 : Int32))), (6, .int q3.2), (5, .int q1.2), (0, .ref b), (1, .ref (gA G 81)), (2, .ref (gA G 82)), (3, .ref (gA G 91))] rfl 1383 rfl ?_
              refine j_goto C dL_law_1383 23 (by decide) ?_
              refine j_sub [(0, .ref b), (1, .ref (gA G 81)), (2, .ref (gA G 82)), (3, .ref (gA G 91)), (4, .int (v4 + (3 : Int32)))] [3, 4, 5, 6, 0] rfl ?_
              exact ih _ _ (by omega) (by omega) _ _ h
            · have h := it_f c h
              refine j_iconst C dL_law_211 (0 : Int32) (by decide) 212 rfl ?_
              exact absurd hout (l0_out h)
        · have h := it_f c h
          refine j_iconst C dL_law_194 (0 : Int32) (by decide) 195 rfl ?_
          exact absurd hout (l0_out h)
      have h := it_f c0 h
      by_cases c1 : ((xs v4.toNatClampNeg) &&& (31 : Int32)) = (1 : Int32)
      · have h := it_t c1 h
        refine j_tableIn C dL_law_39 (by rw [c1]; decide) (by rw [c1]; decide) (off := 177) (by rw [c1]; rfl) 216 (by decide) ?_
        refine j_aload_n C dL_law_216 rfl 1 rfl 217 rfl ?_
        refine j_aload_n C dL_law_217 rfl 3 rfl 218 rfl ?_
        obtain ⟨q7, e8, h⟩ := ob_some h
        refine j_callSW C hNc (cw_L_play (eL E) hst G e8) kw3_225 kw3_224 kw1_0 wd_L_play kw3_223 rfl ⟨Nat.le_of_ble_eq_true rfl, Nat.le_of_ble_eq_true rfl, rfl, rfl⟩ ⟨by show k + 1 ≤ 601024; omega, by show n + 6 ≤ 7293034; omega⟩ (rest := []) rfl (Nat.le_of_ble_eq_true rfl) dL_law_218 (st1 := [.int q7.2]) rfl 221 rfl ?_
        refine j_istore C dL_law_221 (by decide) [(5, .int q7.2), (0, .ref b), (1, .ref (gA G 81)), (2, .ref (gA G 82)), (3, .ref (gA G 91)), (4, .int v4)] rfl 223 rfl ?_
        refine j_aload_n C dL_law_223 rfl 3 rfl 224 rfl ?_
        obtain ⟨q9, e10, h⟩ := ob_some h
        refine j_callV C (ct_X7_play (eL E) G  e10) sh82 foX7 rfl vk_X7_play kw5_56 rfl ⟨Nat.le_of_ble_eq_true rfl, Nat.le_of_ble_eq_true rfl, rfl, rfl⟩ ⟨by first | (show k ≤ 601024; omega) | (show k + 1 ≤ 601024; omega), by first | (show n ≤ 7293034; omega) | (show n + 6 ≤ 7293034; omega)⟩ (rest := []) rfl (Nat.le_of_ble_eq_true rfl) dL_law_224 (st1 := [.int q9.2]) rfl 227 rfl ?_
        refine j_istore C dL_law_227 (by decide) [(6, .int q9.2), (5, .int q7.2), (0, .ref b), (1, .ref (gA G 81)), (2, .ref (gA G 82)), (3, .ref (gA G 91)), (4, .int v4)] rfl 229 rfl ?_
        refine j_aload_n C dL_law_229 rfl 4 rfl 230 rfl ?_
        obtain ⟨q11, e12, h⟩ := ob_some h
        refine j_callV C (ct_X7_thrown (eL E) G  e12) sh82 foX7 rfl vk_X7_thrown kw4_234 rfl ⟨Nat.le_of_ble_eq_true rfl, Nat.le_of_ble_eq_true rfl, rfl, rfl⟩ ⟨by first | (show k ≤ 601024; omega) | (show k + 1 ≤ 601024; omega), by first | (show n ≤ 7293034; omega) | (show n + 6 ≤ 7293034; omega)⟩ (rest := []) rfl (Nat.le_of_ble_eq_true rfl) dL_law_230 (st1 := [.int q11.2]) rfl 233 rfl ?_
        refine j_iload C dL_law_233 1 rfl 235 rfl ?_
        refine j_icmp_eq C dL_law_235 240 (by decide) 238 rfl (fun c => ?_) (fun c => ?_)
        · have h := it_t c h
          refine j_iload C dL_law_240 1 rfl 242 rfl ?_
          refine j_if_ne C dL_law_242 257 (by decide) 245 rfl (fun c => ?_) (fun c => ?_)
          · have h := it_f c h
            refine j_goto C dL_law_257 1380 (by decide) ?_
            refine j_iinc C dL_law_1380 6 rfl (v4 + (3 : Int32)) rfl (by decide) [(4, .int (v4 + (3 : Int32))), (6, .int q9.2), (5, .int q7.2), (0, .ref b), (1, .ref (gA G 81)), (2, .ref (gA G 82)), (3, .ref (gA G 91))] rfl 1383 rfl ?_
            refine j_goto C dL_law_1383 23 (by decide) ?_
            refine j_sub [(0, .ref b), (1, .ref (gA G 81)), (2, .ref (gA G 82)), (3, .ref (gA G 91)), (4, .int (v4 + (3 : Int32)))] [3, 4, 5, 6, 0] rfl ?_
            exact ih _ _ (by omega) (by omega) _ _ h
          · have h := it_t c h
            refine j_aload_n C dL_law_245 rfl 5 rfl 246 rfl ?_
            refine j_iconst C dL_law_246 (0 : Int32) (by decide) 247 rfl ?_
            refine j_lald C sh91 (by decide) dL_law_247 0 rfl 248 rfl ?_
            refine j_iload C dL_law_248 0 rfl 250 rfl ?_
            refine j_i2l C dL_law_250 251 rfl ?_
            refine j_lcmp C dL_law_251 252 rfl ?_
            refine j_if_eq C dL_law_252 257 (by decide) 255 rfl (fun c => ?_) (fun c => ?_)
            · have h := it_t c h
              refine j_goto C dL_law_257 1380 (by decide) ?_
              refine j_iinc C dL_law_1380 6 rfl (v4 + (3 : Int32)) rfl (by decide) [(4, .int (v4 + (3 : Int32))), (6, .int q9.2), (5, .int q7.2), (0, .ref b), (1, .ref (gA G 81)), (2, .ref (gA G 82)), (3, .ref (gA G 91))] rfl 1383 rfl ?_
              refine j_goto C dL_law_1383 23 (by decide) ?_
              refine j_sub [(0, .ref b), (1, .ref (gA G 81)), (2, .ref (gA G 82)), (3, .ref (gA G 91)), (4, .int (v4 + (3 : Int32)))] [3, 4, 5, 6, 0] rfl ?_
              exact ih _ _ (by omega) (by omega) _ _ h
            · have h := it_f c h
              refine j_iconst C dL_law_255 (0 : Int32) (by decide) 256 rfl ?_
              exact absurd hout (l0_out h)
        · have h := it_f c h
          refine j_iconst C dL_law_238 (0 : Int32) (by decide) 239 rfl ?_
          exact absurd hout (l0_out h)
      have h := it_f c1 h
      by_cases c2 : ((xs v4.toNatClampNeg) &&& (31 : Int32)) = (2 : Int32)
      · have h := it_t c2 h
        refine j_tableIn C dL_law_39 (by rw [c2]; decide) (by rw [c2]; decide) (off := 221) (by rw [c2]; rfl) 260 (by decide) ?_
        refine j_aload_n C dL_law_260 rfl 1 rfl 261 rfl ?_
        obtain ⟨q13, e14, h⟩ := ob_some h
        refine j_callV C (ct_X6_tear (eL E) G  e14) sh81 foX6 rfl vk_X6_tear kw1_191 rfl ⟨Nat.le_of_ble_eq_true rfl, Nat.le_of_ble_eq_true rfl, rfl, rfl⟩ ⟨by first | (show k ≤ 601024; omega) | (show k + 1 ≤ 601024; omega), by first | (show n ≤ 7293034; omega) | (show n + 6 ≤ 7293034; omega)⟩ (rest := []) rfl (Nat.le_of_ble_eq_true rfl) dL_law_261 (st1 := [.int q13.2]) rfl 264 rfl ?_
        refine j_aload_n C dL_law_264 rfl 2 rfl 265 rfl ?_
        obtain ⟨q15, e16, h⟩ := ob_some h
        refine j_callV C (ct_X7_tear (eL E) G  e16) sh82 foX7 rfl vk_X7_tear kw5_71 rfl ⟨Nat.le_of_ble_eq_true rfl, Nat.le_of_ble_eq_true rfl, rfl, rfl⟩ ⟨by first | (show k ≤ 601024; omega) | (show k + 1 ≤ 601024; omega), by first | (show n ≤ 7293034; omega) | (show n + 6 ≤ 7293034; omega)⟩ (rest := [.int q13.2]) rfl (Nat.le_of_ble_eq_true rfl) dL_law_265 (st1 := [.int q15.2, .int q13.2]) rfl 268 rfl ?_
        refine j_icmp_eq C dL_law_268 1380 (by decide) 271 rfl (fun c => ?_) (fun c => ?_)
        · have h := it_t c h
          refine j_iinc C dL_law_1380 4 rfl (v4 + (3 : Int32)) rfl (by decide) [(4, .int (v4 + (3 : Int32))), (0, .ref b), (1, .ref (gA G 81)), (2, .ref (gA G 82)), (3, .ref (gA G 91))] rfl 1383 rfl ?_
          refine j_goto C dL_law_1383 23 (by decide) ?_
          refine j_sub [(0, .ref b), (1, .ref (gA G 81)), (2, .ref (gA G 82)), (3, .ref (gA G 91)), (4, .int (v4 + (3 : Int32)))] [1, 2, 3, 4, 0] rfl ?_
          exact ih _ _ (by omega) (by omega) _ _ h
        · have h := it_f c h
          refine j_iconst C dL_law_271 (0 : Int32) (by decide) 272 rfl ?_
          exact absurd hout (l0_out h)
      have h := it_f c2 h
      by_cases c3 : ((xs v4.toNatClampNeg) &&& (31 : Int32)) = (3 : Int32)
      · have h := it_t c3 h
        refine j_tableIn C dL_law_39 (by rw [c3]; decide) (by rw [c3]; decide) (off := 234) (by rw [c3]; rfl) 273 (by decide) ?_
        refine j_aload_n C dL_law_273 rfl 1 rfl 274 rfl ?_
        refine j_aload_n C dL_law_274 rfl 0 rfl 275 rfl ?_
        refine j_iload C dL_law_275 4 rfl 277 rfl ?_
        refine j_iconst C dL_law_277 (1 : Int32) (by decide) 278 rfl ?_
        refine j_iadd C dL_law_278 279 rfl ?_
        obtain ⟨hc, h⟩ := if_some h
        refine j_sld C hsc hc dL_law_279 280 rfl ?_
        refine j_aload_n C dL_law_280 rfl 0 rfl 281 rfl ?_
        refine j_iload C dL_law_281 4 rfl 283 rfl ?_
        refine j_iconst C dL_law_283 (2 : Int32) (by decide) 284 rfl ?_
        refine j_iadd C dL_law_284 285 rfl ?_
        obtain ⟨hc, h⟩ := if_some h
        refine j_sld C hsc hc dL_law_285 286 rfl ?_
        refine j_aload_n C dL_law_286 rfl 3 rfl 287 rfl ?_
        obtain ⟨q17, e18, h⟩ := ob_some h
        refine j_callSW C hNc (cw_L_pick (eL E) hst G e18) kw3_238 kw3_237 kw1_0 wd_L_pick kw3_236 rfl ⟨Nat.le_of_ble_eq_true rfl, Nat.le_of_ble_eq_true rfl, rfl, rfl⟩ ⟨by show k + 1 ≤ 601024; omega, by show n + 6 ≤ 7293034; omega⟩ (rest := []) rfl (Nat.le_of_ble_eq_true rfl) dL_law_287 (st1 := [.int q17.2]) rfl 290 rfl ?_
        refine j_istore C dL_law_290 (by decide) [(5, .int q17.2), (0, .ref b), (1, .ref (gA G 81)), (2, .ref (gA G 82)), (3, .ref (gA G 91)), (4, .int v4)] rfl 292 rfl ?_
        refine j_aload_n C dL_law_292 rfl 3 rfl 293 rfl ?_
        refine j_aload_n C dL_law_293 rfl 1 rfl 294 rfl ?_
        refine j_iload C dL_law_294 5 rfl 296 rfl ?_
        refine j_iconst C dL_law_296 (1 : Int32) (by decide) 297 rfl ?_
        refine j_iadd C dL_law_297 298 rfl ?_
        obtain ⟨hc, h⟩ := if_some h
        refine j_sld C hsc hc dL_law_298 299 rfl ?_
        refine j_aload_n C dL_law_299 rfl 1 rfl 300 rfl ?_
        refine j_iload C dL_law_300 5 rfl 302 rfl ?_
        refine j_iconst C dL_law_302 (2 : Int32) (by decide) 303 rfl ?_
        refine j_iadd C dL_law_303 304 rfl ?_
        obtain ⟨hc, h⟩ := if_some h
        refine j_sld C hsc hc dL_law_304 305 rfl ?_
        obtain ⟨q19, e20, h⟩ := ob_some h
        refine j_callV C (ct_X7_pick (eL E) G  e20) sh82 foX7 rfl vk_X7_pick kw5_75 rfl ⟨Nat.le_of_ble_eq_true rfl, Nat.le_of_ble_eq_true rfl, rfl, rfl⟩ ⟨by first | (show k ≤ 601024; omega) | (show k + 1 ≤ 601024; omega), by first | (show n ≤ 7293034; omega) | (show n + 6 ≤ 7293034; omega)⟩ (rest := []) rfl (Nat.le_of_ble_eq_true rfl) dL_law_305 (st1 := [.int q19.2]) rfl 308 rfl ?_
        refine j_istore C dL_law_308 (by decide) [(6, .int q19.2), (5, .int q17.2), (0, .ref b), (1, .ref (gA G 81)), (2, .ref (gA G 82)), (3, .ref (gA G 91)), (4, .int v4)] rfl 310 rfl ?_
        refine j_aload_n C dL_law_310 rfl 4 rfl 311 rfl ?_
        obtain ⟨q21, e22, h⟩ := ob_some h
        refine j_callV C (ct_X7_thrown (eL E) G  e22) sh82 foX7 rfl vk_X7_thrown kw4_234 rfl ⟨Nat.le_of_ble_eq_true rfl, Nat.le_of_ble_eq_true rfl, rfl, rfl⟩ ⟨by first | (show k ≤ 601024; omega) | (show k + 1 ≤ 601024; omega), by first | (show n ≤ 7293034; omega) | (show n + 6 ≤ 7293034; omega)⟩ (rest := []) rfl (Nat.le_of_ble_eq_true rfl) dL_law_311 (st1 := [.int q21.2]) rfl 314 rfl ?_
        refine j_iload C dL_law_314 1 rfl 316 rfl ?_
        refine j_icmp_eq C dL_law_316 321 (by decide) 319 rfl (fun c => ?_) (fun c => ?_)
        · have h := it_t c h
          refine j_iload C dL_law_321 1 rfl 323 rfl ?_
          refine j_if_ne C dL_law_323 338 (by decide) 326 rfl (fun c => ?_) (fun c => ?_)
          · have h := it_f c h
            refine j_goto C dL_law_338 1380 (by decide) ?_
            refine j_iinc C dL_law_1380 6 rfl (v4 + (3 : Int32)) rfl (by decide) [(4, .int (v4 + (3 : Int32))), (6, .int q19.2), (5, .int q17.2), (0, .ref b), (1, .ref (gA G 81)), (2, .ref (gA G 82)), (3, .ref (gA G 91))] rfl 1383 rfl ?_
            refine j_goto C dL_law_1383 23 (by decide) ?_
            refine j_sub [(0, .ref b), (1, .ref (gA G 81)), (2, .ref (gA G 82)), (3, .ref (gA G 91)), (4, .int (v4 + (3 : Int32)))] [3, 4, 5, 6, 0] rfl ?_
            exact ih _ _ (by omega) (by omega) _ _ h
          · have h := it_t c h
            refine j_aload_n C dL_law_326 rfl 5 rfl 327 rfl ?_
            refine j_iconst C dL_law_327 (0 : Int32) (by decide) 328 rfl ?_
            refine j_lald C sh91 (by decide) dL_law_328 0 rfl 329 rfl ?_
            refine j_iload C dL_law_329 0 rfl 331 rfl ?_
            refine j_i2l C dL_law_331 332 rfl ?_
            refine j_lcmp C dL_law_332 333 rfl ?_
            refine j_if_eq C dL_law_333 338 (by decide) 336 rfl (fun c => ?_) (fun c => ?_)
            · have h := it_t c h
              refine j_goto C dL_law_338 1380 (by decide) ?_
              refine j_iinc C dL_law_1380 6 rfl (v4 + (3 : Int32)) rfl (by decide) [(4, .int (v4 + (3 : Int32))), (6, .int q19.2), (5, .int q17.2), (0, .ref b), (1, .ref (gA G 81)), (2, .ref (gA G 82)), (3, .ref (gA G 91))] rfl 1383 rfl ?_
              refine j_goto C dL_law_1383 23 (by decide) ?_
              refine j_sub [(0, .ref b), (1, .ref (gA G 81)), (2, .ref (gA G 82)), (3, .ref (gA G 91)), (4, .int (v4 + (3 : Int32)))] [3, 4, 5, 6, 0] rfl ?_
              exact ih _ _ (by omega) (by omega) _ _ h
            · have h := it_f c h
              refine j_iconst C dL_law_336 (0 : Int32) (by decide) 337 rfl ?_
              exact absurd hout (l0_out h)
        · have h := it_f c h
          refine j_iconst C dL_law_319 (0 : Int32) (by decide) 320 rfl ?_
          exact absurd hout (l0_out h)
      have h := it_f c3 h
      by_cases c4 : ((xs v4.toNatClampNeg) &&& (31 : Int32)) = (4 : Int32)
      · have h := it_t c4 h
        refine j_tableIn C dL_law_39 (by rw [c4]; decide) (by rw [c4]; decide) (off := 302) (by rw [c4]; rfl) 341 (by decide) ?_
        refine j_aload_n C dL_law_341 rfl 1 rfl 342 rfl ?_
        refine j_aload_n C dL_law_342 rfl 0 rfl 343 rfl ?_
        refine j_iload C dL_law_343 4 rfl 345 rfl ?_
        refine j_iconst C dL_law_345 (1 : Int32) (by decide) 346 rfl ?_
        refine j_iadd C dL_law_346 347 rfl ?_
        obtain ⟨hc, h⟩ := if_some h
        refine j_sld C hsc hc dL_law_347 348 rfl ?_
        refine j_aload_n C dL_law_348 rfl 3 rfl 349 rfl ?_
        obtain ⟨q23, e24, h⟩ := ob_some h
        refine j_callSW C hNc (cw_L_define (eL E) hst G e24) kw4_33 kw4_32 kw1_0 wd_L_define kw4_31 rfl ⟨Nat.le_of_ble_eq_true rfl, Nat.le_of_ble_eq_true rfl, rfl, rfl⟩ ⟨by show k + 1 ≤ 601024; omega, by show n + 6 ≤ 7293034; omega⟩ (rest := []) rfl (Nat.le_of_ble_eq_true rfl) dL_law_349 (st1 := [.int q23.2]) rfl 352 rfl ?_
        refine j_istore C dL_law_352 (by decide) [(5, .int q23.2), (0, .ref b), (1, .ref (gA G 81)), (2, .ref (gA G 82)), (3, .ref (gA G 91)), (4, .int v4)] rfl 354 rfl ?_
        refine j_aload_n C dL_law_354 rfl 3 rfl 355 rfl ?_
        refine j_aload_n C dL_law_355 rfl 1 rfl 356 rfl ?_
        refine j_iload C dL_law_356 5 rfl 358 rfl ?_
        refine j_iconst C dL_law_358 (1 : Int32) (by decide) 359 rfl ?_
        refine j_iadd C dL_law_359 360 rfl ?_
        obtain ⟨hc, h⟩ := if_some h
        refine j_sld C hsc hc dL_law_360 361 rfl ?_
        obtain ⟨q25, e26, h⟩ := ob_some h
        refine j_callV C (ct_X7_define (eL E) G  e26) sh82 foX7 rfl vk_X7_define kw5_87 rfl ⟨Nat.le_of_ble_eq_true rfl, Nat.le_of_ble_eq_true rfl, rfl, rfl⟩ ⟨by first | (show k ≤ 601024; omega) | (show k + 1 ≤ 601024; omega), by first | (show n ≤ 7293034; omega) | (show n + 6 ≤ 7293034; omega)⟩ (rest := []) rfl (Nat.le_of_ble_eq_true rfl) dL_law_361 (st1 := [.int q25.2]) rfl 364 rfl ?_
        refine j_istore C dL_law_364 (by decide) [(6, .int q25.2), (5, .int q23.2), (0, .ref b), (1, .ref (gA G 81)), (2, .ref (gA G 82)), (3, .ref (gA G 91)), (4, .int v4)] rfl 366 rfl ?_
        refine j_aload_n C dL_law_366 rfl 4 rfl 367 rfl ?_
        obtain ⟨q27, e28, h⟩ := ob_some h
        refine j_callV C (ct_X7_thrown (eL E) G  e28) sh82 foX7 rfl vk_X7_thrown kw4_234 rfl ⟨Nat.le_of_ble_eq_true rfl, Nat.le_of_ble_eq_true rfl, rfl, rfl⟩ ⟨by first | (show k ≤ 601024; omega) | (show k + 1 ≤ 601024; omega), by first | (show n ≤ 7293034; omega) | (show n + 6 ≤ 7293034; omega)⟩ (rest := []) rfl (Nat.le_of_ble_eq_true rfl) dL_law_367 (st1 := [.int q27.2]) rfl 370 rfl ?_
        refine j_iload C dL_law_370 1 rfl 372 rfl ?_
        refine j_icmp_eq C dL_law_372 377 (by decide) 375 rfl (fun c => ?_) (fun c => ?_)
        · have h := it_t c h
          refine j_iload C dL_law_377 1 rfl 379 rfl ?_
          refine j_if_ne C dL_law_379 394 (by decide) 382 rfl (fun c => ?_) (fun c => ?_)
          · have h := it_f c h
            refine j_goto C dL_law_394 1380 (by decide) ?_
            refine j_iinc C dL_law_1380 6 rfl (v4 + (3 : Int32)) rfl (by decide) [(4, .int (v4 + (3 : Int32))), (6, .int q25.2), (5, .int q23.2), (0, .ref b), (1, .ref (gA G 81)), (2, .ref (gA G 82)), (3, .ref (gA G 91))] rfl 1383 rfl ?_
            refine j_goto C dL_law_1383 23 (by decide) ?_
            refine j_sub [(0, .ref b), (1, .ref (gA G 81)), (2, .ref (gA G 82)), (3, .ref (gA G 91)), (4, .int (v4 + (3 : Int32)))] [3, 4, 5, 6, 0] rfl ?_
            exact ih _ _ (by omega) (by omega) _ _ h
          · have h := it_t c h
            refine j_aload_n C dL_law_382 rfl 5 rfl 383 rfl ?_
            refine j_iconst C dL_law_383 (0 : Int32) (by decide) 384 rfl ?_
            refine j_lald C sh91 (by decide) dL_law_384 0 rfl 385 rfl ?_
            refine j_iload C dL_law_385 0 rfl 387 rfl ?_
            refine j_i2l C dL_law_387 388 rfl ?_
            refine j_lcmp C dL_law_388 389 rfl ?_
            refine j_if_eq C dL_law_389 394 (by decide) 392 rfl (fun c => ?_) (fun c => ?_)
            · have h := it_t c h
              refine j_goto C dL_law_394 1380 (by decide) ?_
              refine j_iinc C dL_law_1380 6 rfl (v4 + (3 : Int32)) rfl (by decide) [(4, .int (v4 + (3 : Int32))), (6, .int q25.2), (5, .int q23.2), (0, .ref b), (1, .ref (gA G 81)), (2, .ref (gA G 82)), (3, .ref (gA G 91))] rfl 1383 rfl ?_
              refine j_goto C dL_law_1383 23 (by decide) ?_
              refine j_sub [(0, .ref b), (1, .ref (gA G 81)), (2, .ref (gA G 82)), (3, .ref (gA G 91)), (4, .int (v4 + (3 : Int32)))] [3, 4, 5, 6, 0] rfl ?_
              exact ih _ _ (by omega) (by omega) _ _ h
            · have h := it_f c h
              refine j_iconst C dL_law_392 (0 : Int32) (by decide) 393 rfl ?_
              exact absurd hout (l0_out h)
        · have h := it_f c h
          refine j_iconst C dL_law_375 (0 : Int32) (by decide) 376 rfl ?_
          exact absurd hout (l0_out h)
      have h := it_f c4 h
      by_cases c5 : ((xs v4.toNatClampNeg) &&& (31 : Int32)) = (5 : Int32)
      · have h := it_t c5 h
        refine j_tableIn C dL_law_39 (by rw [c5]; decide) (by rw [c5]; decide) (off := 358) (by rw [c5]; rfl) 397 (by decide) ?_
        refine j_aload_n C dL_law_397 rfl 1 rfl 398 rfl ?_
        refine j_aload_n C dL_law_398 rfl 0 rfl 399 rfl ?_
        refine j_iload C dL_law_399 4 rfl 401 rfl ?_
        refine j_iconst C dL_law_401 (1 : Int32) (by decide) 402 rfl ?_
        refine j_iadd C dL_law_402 403 rfl ?_
        obtain ⟨hc, h⟩ := if_some h
        refine j_sld C hsc hc dL_law_403 404 rfl ?_
        refine j_aload_n C dL_law_404 rfl 3 rfl 405 rfl ?_
        obtain ⟨q29, e30, h⟩ := ob_some h
        refine j_callSW C hNc (cw_L_remove (eL E) hst G e30) kw4_57 kw4_56 kw1_0 wd_L_remove kw4_55 rfl ⟨Nat.le_of_ble_eq_true rfl, Nat.le_of_ble_eq_true rfl, rfl, rfl⟩ ⟨by show k + 1 ≤ 601024; omega, by show n + 6 ≤ 7293034; omega⟩ (rest := []) rfl (Nat.le_of_ble_eq_true rfl) dL_law_405 (st1 := [.int q29.2]) rfl 408 rfl ?_
        refine j_istore C dL_law_408 (by decide) [(5, .int q29.2), (0, .ref b), (1, .ref (gA G 81)), (2, .ref (gA G 82)), (3, .ref (gA G 91)), (4, .int v4)] rfl 410 rfl ?_
        refine j_aload_n C dL_law_410 rfl 3 rfl 411 rfl ?_
        refine j_aload_n C dL_law_411 rfl 1 rfl 412 rfl ?_
        refine j_iload C dL_law_412 5 rfl 414 rfl ?_
        refine j_iconst C dL_law_414 (1 : Int32) (by decide) 415 rfl ?_
        refine j_iadd C dL_law_415 416 rfl ?_
        obtain ⟨hc, h⟩ := if_some h
        refine j_sld C hsc hc dL_law_416 417 rfl ?_
        obtain ⟨q31, e32, h⟩ := ob_some h
        refine j_callV C (ct_X7_remove (eL E) G  e32) sh82 foX7 rfl vk_X7_remove kw5_99 rfl ⟨Nat.le_of_ble_eq_true rfl, Nat.le_of_ble_eq_true rfl, rfl, rfl⟩ ⟨by first | (show k ≤ 601024; omega) | (show k + 1 ≤ 601024; omega), by first | (show n ≤ 7293034; omega) | (show n + 6 ≤ 7293034; omega)⟩ (rest := []) rfl (Nat.le_of_ble_eq_true rfl) dL_law_417 (st1 := [.int q31.2]) rfl 420 rfl ?_
        refine j_istore C dL_law_420 (by decide) [(6, .int q31.2), (5, .int q29.2), (0, .ref b), (1, .ref (gA G 81)), (2, .ref (gA G 82)), (3, .ref (gA G 91)), (4, .int v4)] rfl 422 rfl ?_
        refine j_aload_n C dL_law_422 rfl 4 rfl 423 rfl ?_
        obtain ⟨q33, e34, h⟩ := ob_some h
        refine j_callV C (ct_X7_thrown (eL E) G  e34) sh82 foX7 rfl vk_X7_thrown kw4_234 rfl ⟨Nat.le_of_ble_eq_true rfl, Nat.le_of_ble_eq_true rfl, rfl, rfl⟩ ⟨by first | (show k ≤ 601024; omega) | (show k + 1 ≤ 601024; omega), by first | (show n ≤ 7293034; omega) | (show n + 6 ≤ 7293034; omega)⟩ (rest := []) rfl (Nat.le_of_ble_eq_true rfl) dL_law_423 (st1 := [.int q33.2]) rfl 426 rfl ?_
        refine j_iload C dL_law_426 1 rfl 428 rfl ?_
        refine j_icmp_eq C dL_law_428 433 (by decide) 431 rfl (fun c => ?_) (fun c => ?_)
        · have h := it_t c h
          refine j_iload C dL_law_433 1 rfl 435 rfl ?_
          refine j_if_ne C dL_law_435 450 (by decide) 438 rfl (fun c => ?_) (fun c => ?_)
          · have h := it_f c h
            refine j_goto C dL_law_450 1380 (by decide) ?_
            refine j_iinc C dL_law_1380 6 rfl (v4 + (3 : Int32)) rfl (by decide) [(4, .int (v4 + (3 : Int32))), (6, .int q31.2), (5, .int q29.2), (0, .ref b), (1, .ref (gA G 81)), (2, .ref (gA G 82)), (3, .ref (gA G 91))] rfl 1383 rfl ?_
            refine j_goto C dL_law_1383 23 (by decide) ?_
            refine j_sub [(0, .ref b), (1, .ref (gA G 81)), (2, .ref (gA G 82)), (3, .ref (gA G 91)), (4, .int (v4 + (3 : Int32)))] [3, 4, 5, 6, 0] rfl ?_
            exact ih _ _ (by omega) (by omega) _ _ h
          · have h := it_t c h
            refine j_aload_n C dL_law_438 rfl 5 rfl 439 rfl ?_
            refine j_iconst C dL_law_439 (0 : Int32) (by decide) 440 rfl ?_
            refine j_lald C sh91 (by decide) dL_law_440 0 rfl 441 rfl ?_
            refine j_iload C dL_law_441 0 rfl 443 rfl ?_
            refine j_i2l C dL_law_443 444 rfl ?_
            refine j_lcmp C dL_law_444 445 rfl ?_
            refine j_if_eq C dL_law_445 450 (by decide) 448 rfl (fun c => ?_) (fun c => ?_)
            · have h := it_t c h
              refine j_goto C dL_law_450 1380 (by decide) ?_
              refine j_iinc C dL_law_1380 6 rfl (v4 + (3 : Int32)) rfl (by decide) [(4, .int (v4 + (3 : Int32))), (6, .int q31.2), (5, .int q29.2), (0, .ref b), (1, .ref (gA G 81)), (2, .ref (gA G 82)), (3, .ref (gA G 91))] rfl 1383 rfl ?_
              refine j_goto C dL_law_1383 23 (by decide) ?_
              refine j_sub [(0, .ref b), (1, .ref (gA G 81)), (2, .ref (gA G 82)), (3, .ref (gA G 91)), (4, .int (v4 + (3 : Int32)))] [3, 4, 5, 6, 0] rfl ?_
              exact ih _ _ (by omega) (by omega) _ _ h
            · have h := it_f c h
              refine j_iconst C dL_law_448 (0 : Int32) (by decide) 449 rfl ?_
              exact absurd hout (l0_out h)
        · have h := it_f c h
          refine j_iconst C dL_law_431 (0 : Int32) (by decide) 432 rfl ?_
          exact absurd hout (l0_out h)
      have h := it_f c5 h
      by_cases c6 : ((xs v4.toNatClampNeg) &&& (31 : Int32)) = (6 : Int32)
      · have h := it_t c6 h
        refine j_tableIn C dL_law_39 (by rw [c6]; decide) (by rw [c6]; decide) (off := 414) (by rw [c6]; rfl) 453 (by decide) ?_
        refine j_aload_n C dL_law_453 rfl 1 rfl 454 rfl ?_
        refine j_aload_n C dL_law_454 rfl 0 rfl 455 rfl ?_
        refine j_iload C dL_law_455 4 rfl 457 rfl ?_
        refine j_iconst C dL_law_457 (1 : Int32) (by decide) 458 rfl ?_
        refine j_iadd C dL_law_458 459 rfl ?_
        obtain ⟨hc, h⟩ := if_some h
        refine j_sld C hsc hc dL_law_459 460 rfl ?_
        refine j_aload_n C dL_law_460 rfl 0 rfl 461 rfl ?_
        refine j_iload C dL_law_461 4 rfl 463 rfl ?_
        refine j_iconst C dL_law_463 (2 : Int32) (by decide) 464 rfl ?_
        refine j_iadd C dL_law_464 465 rfl ?_
        obtain ⟨hc, h⟩ := if_some h
        refine j_sld C hsc hc dL_law_465 466 rfl ?_
        refine j_aload_n C dL_law_466 rfl 3 rfl 467 rfl ?_
        obtain ⟨q35, e36, h⟩ := ob_some h
        refine j_callSW C hNc (cw_L_set (eL E) hst G e36) kw4_69 kw4_68 kw1_0 wd_L_set kw4_67 rfl ⟨Nat.le_of_ble_eq_true rfl, Nat.le_of_ble_eq_true rfl, rfl, rfl⟩ ⟨by show k + 1 ≤ 601024; omega, by show n + 6 ≤ 7293034; omega⟩ (rest := []) rfl (Nat.le_of_ble_eq_true rfl) dL_law_467 (st1 := [.int q35.2]) rfl 470 rfl ?_
        refine j_istore C dL_law_470 (by decide) [(5, .int q35.2), (0, .ref b), (1, .ref (gA G 81)), (2, .ref (gA G 82)), (3, .ref (gA G 91)), (4, .int v4)] rfl 472 rfl ?_
        refine j_aload_n C dL_law_472 rfl 3 rfl 473 rfl ?_
        refine j_aload_n C dL_law_473 rfl 1 rfl 474 rfl ?_
        refine j_iload C dL_law_474 5 rfl 476 rfl ?_
        refine j_iconst C dL_law_476 (1 : Int32) (by decide) 477 rfl ?_
        refine j_iadd C dL_law_477 478 rfl ?_
        obtain ⟨hc, h⟩ := if_some h
        refine j_sld C hsc hc dL_law_478 479 rfl ?_
        refine j_aload_n C dL_law_479 rfl 1 rfl 480 rfl ?_
        refine j_iload C dL_law_480 5 rfl 482 rfl ?_
        refine j_iconst C dL_law_482 (2 : Int32) (by decide) 483 rfl ?_
        refine j_iadd C dL_law_483 484 rfl ?_
        obtain ⟨hc, h⟩ := if_some h
        refine j_sld C hsc hc dL_law_484 485 rfl ?_
        obtain ⟨q37, e38, h⟩ := ob_some h
        refine j_callV C (ct_X7_set (eL E) G  e38) sh82 foX7 rfl vk_X7_set kw5_103 rfl ⟨Nat.le_of_ble_eq_true rfl, Nat.le_of_ble_eq_true rfl, rfl, rfl⟩ ⟨by first | (show k ≤ 601024; omega) | (show k + 1 ≤ 601024; omega), by first | (show n ≤ 7293034; omega) | (show n + 6 ≤ 7293034; omega)⟩ (rest := []) rfl (Nat.le_of_ble_eq_true rfl) dL_law_485 (st1 := [.int q37.2]) rfl 488 rfl ?_
        refine j_istore C dL_law_488 (by decide) [(6, .int q37.2), (5, .int q35.2), (0, .ref b), (1, .ref (gA G 81)), (2, .ref (gA G 82)), (3, .ref (gA G 91)), (4, .int v4)] rfl 490 rfl ?_
        refine j_aload_n C dL_law_490 rfl 4 rfl 491 rfl ?_
        obtain ⟨q39, e40, h⟩ := ob_some h
        refine j_callV C (ct_X7_thrown (eL E) G  e40) sh82 foX7 rfl vk_X7_thrown kw4_234 rfl ⟨Nat.le_of_ble_eq_true rfl, Nat.le_of_ble_eq_true rfl, rfl, rfl⟩ ⟨by first | (show k ≤ 601024; omega) | (show k + 1 ≤ 601024; omega), by first | (show n ≤ 7293034; omega) | (show n + 6 ≤ 7293034; omega)⟩ (rest := []) rfl (Nat.le_of_ble_eq_true rfl) dL_law_491 (st1 := [.int q39.2]) rfl 494 rfl ?_
        refine j_iload C dL_law_494 1 rfl 496 rfl ?_
        refine j_icmp_eq C dL_law_496 501 (by decide) 499 rfl (fun c => ?_) (fun c => ?_)
        · have h := it_t c h
          refine j_iload C dL_law_501 1 rfl 503 rfl ?_
          refine j_if_ne C dL_law_503 518 (by decide) 506 rfl (fun c => ?_) (fun c => ?_)
          · have h := it_f c h
            refine j_goto C dL_law_518 1380 (by decide) ?_
            refine j_iinc C dL_law_1380 6 rfl (v4 + (3 : Int32)) rfl (by decide) [(4, .int (v4 + (3 : Int32))), (6, .int q37.2), (5, .int q35.2), (0, .ref b), (1, .ref (gA G 81)), (2, .ref (gA G 82)), (3, .ref (gA G 91))] rfl 1383 rfl ?_
            refine j_goto C dL_law_1383 23 (by decide) ?_
            refine j_sub [(0, .ref b), (1, .ref (gA G 81)), (2, .ref (gA G 82)), (3, .ref (gA G 91)), (4, .int (v4 + (3 : Int32)))] [3, 4, 5, 6, 0] rfl ?_
            exact ih _ _ (by omega) (by omega) _ _ h
          · have h := it_t c h
            refine j_aload_n C dL_law_506 rfl 5 rfl 507 rfl ?_
            refine j_iconst C dL_law_507 (0 : Int32) (by decide) 508 rfl ?_
            refine j_lald C sh91 (by decide) dL_law_508 0 rfl 509 rfl ?_
            refine j_iload C dL_law_509 0 rfl 511 rfl ?_
            refine j_i2l C dL_law_511 512 rfl ?_
            refine j_lcmp C dL_law_512 513 rfl ?_
            refine j_if_eq C dL_law_513 518 (by decide) 516 rfl (fun c => ?_) (fun c => ?_)
            · have h := it_t c h
              refine j_goto C dL_law_518 1380 (by decide) ?_
              refine j_iinc C dL_law_1380 6 rfl (v4 + (3 : Int32)) rfl (by decide) [(4, .int (v4 + (3 : Int32))), (6, .int q37.2), (5, .int q35.2), (0, .ref b), (1, .ref (gA G 81)), (2, .ref (gA G 82)), (3, .ref (gA G 91))] rfl 1383 rfl ?_
              refine j_goto C dL_law_1383 23 (by decide) ?_
              refine j_sub [(0, .ref b), (1, .ref (gA G 81)), (2, .ref (gA G 82)), (3, .ref (gA G 91)), (4, .int (v4 + (3 : Int32)))] [3, 4, 5, 6, 0] rfl ?_
              exact ih _ _ (by omega) (by omega) _ _ h
            · have h := it_f c h
              refine j_iconst C dL_law_516 (0 : Int32) (by decide) 517 rfl ?_
              exact absurd hout (l0_out h)
        · have h := it_f c h
          refine j_iconst C dL_law_499 (0 : Int32) (by decide) 500 rfl ?_
          exact absurd hout (l0_out h)
      have h := it_f c6 h
      by_cases c7 : ((xs v4.toNatClampNeg) &&& (31 : Int32)) = (7 : Int32)
      · have h := it_t c7 h
        refine j_tableIn C dL_law_39 (by rw [c7]; decide) (by rw [c7]; decide) (off := 482) (by rw [c7]; rfl) 521 (by decide) ?_
        refine j_aload_n C dL_law_521 rfl 1 rfl 522 rfl ?_
        refine j_aload_n C dL_law_522 rfl 0 rfl 523 rfl ?_
        refine j_iload C dL_law_523 4 rfl 525 rfl ?_
        refine j_iconst C dL_law_525 (1 : Int32) (by decide) 526 rfl ?_
        refine j_iadd C dL_law_526 527 rfl ?_
        obtain ⟨hc, h⟩ := if_some h
        refine j_sld C hsc hc dL_law_527 528 rfl ?_
        refine j_aload_n C dL_law_528 rfl 3 rfl 529 rfl ?_
        obtain ⟨q41, e42, h⟩ := ob_some h
        refine j_callSW C hNc (cw_L_append (eL E) hst G e42) kw4_81 kw4_80 kw1_0 wd_L_append kw4_79 rfl ⟨Nat.le_of_ble_eq_true rfl, Nat.le_of_ble_eq_true rfl, rfl, rfl⟩ ⟨by show k + 1 ≤ 601024; omega, by show n + 6 ≤ 7293034; omega⟩ (rest := []) rfl (Nat.le_of_ble_eq_true rfl) dL_law_529 (st1 := [.int q41.2]) rfl 532 rfl ?_
        refine j_istore C dL_law_532 (by decide) [(5, .int q41.2), (0, .ref b), (1, .ref (gA G 81)), (2, .ref (gA G 82)), (3, .ref (gA G 91)), (4, .int v4)] rfl 534 rfl ?_
        refine j_aload_n C dL_law_534 rfl 3 rfl 535 rfl ?_
        refine j_aload_n C dL_law_535 rfl 1 rfl 536 rfl ?_
        refine j_iload C dL_law_536 5 rfl 538 rfl ?_
        refine j_iconst C dL_law_538 (1 : Int32) (by decide) 539 rfl ?_
        refine j_iadd C dL_law_539 540 rfl ?_
        obtain ⟨hc, h⟩ := if_some h
        refine j_sld C hsc hc dL_law_540 541 rfl ?_
        obtain ⟨q43, e44, h⟩ := ob_some h
        refine j_callV C (ct_X7_append (eL E) G  e44) sh82 foX7 rfl vk_X7_append kw5_107 rfl ⟨Nat.le_of_ble_eq_true rfl, Nat.le_of_ble_eq_true rfl, rfl, rfl⟩ ⟨by first | (show k ≤ 601024; omega) | (show k + 1 ≤ 601024; omega), by first | (show n ≤ 7293034; omega) | (show n + 6 ≤ 7293034; omega)⟩ (rest := []) rfl (Nat.le_of_ble_eq_true rfl) dL_law_541 (st1 := [.int q43.2]) rfl 544 rfl ?_
        refine j_istore C dL_law_544 (by decide) [(6, .int q43.2), (5, .int q41.2), (0, .ref b), (1, .ref (gA G 81)), (2, .ref (gA G 82)), (3, .ref (gA G 91)), (4, .int v4)] rfl 546 rfl ?_
        refine j_aload_n C dL_law_546 rfl 4 rfl 547 rfl ?_
        obtain ⟨q45, e46, h⟩ := ob_some h
        refine j_callV C (ct_X7_thrown (eL E) G  e46) sh82 foX7 rfl vk_X7_thrown kw4_234 rfl ⟨Nat.le_of_ble_eq_true rfl, Nat.le_of_ble_eq_true rfl, rfl, rfl⟩ ⟨by first | (show k ≤ 601024; omega) | (show k + 1 ≤ 601024; omega), by first | (show n ≤ 7293034; omega) | (show n + 6 ≤ 7293034; omega)⟩ (rest := []) rfl (Nat.le_of_ble_eq_true rfl) dL_law_547 (st1 := [.int q45.2]) rfl 550 rfl ?_
        refine j_iload C dL_law_550 1 rfl 552 rfl ?_
        refine j_icmp_eq C dL_law_552 557 (by decide) 555 rfl (fun c => ?_) (fun c => ?_)
        · have h := it_t c h
          refine j_iload C dL_law_557 1 rfl 559 rfl ?_
          refine j_if_ne C dL_law_559 574 (by decide) 562 rfl (fun c => ?_) (fun c => ?_)
          · have h := it_f c h
            refine j_goto C dL_law_574 1380 (by decide) ?_
            refine j_iinc C dL_law_1380 6 rfl (v4 + (3 : Int32)) rfl (by decide) [(4, .int (v4 + (3 : Int32))), (6, .int q43.2), (5, .int q41.2), (0, .ref b), (1, .ref (gA G 81)), (2, .ref (gA G 82)), (3, .ref (gA G 91))] rfl 1383 rfl ?_
            refine j_goto C dL_law_1383 23 (by decide) ?_
            refine j_sub [(0, .ref b), (1, .ref (gA G 81)), (2, .ref (gA G 82)), (3, .ref (gA G 91)), (4, .int (v4 + (3 : Int32)))] [3, 4, 5, 6, 0] rfl ?_
            exact ih _ _ (by omega) (by omega) _ _ h
          · have h := it_t c h
            refine j_aload_n C dL_law_562 rfl 5 rfl 563 rfl ?_
            refine j_iconst C dL_law_563 (0 : Int32) (by decide) 564 rfl ?_
            refine j_lald C sh91 (by decide) dL_law_564 0 rfl 565 rfl ?_
            refine j_iload C dL_law_565 0 rfl 567 rfl ?_
            refine j_i2l C dL_law_567 568 rfl ?_
            refine j_lcmp C dL_law_568 569 rfl ?_
            refine j_if_eq C dL_law_569 574 (by decide) 572 rfl (fun c => ?_) (fun c => ?_)
            · have h := it_t c h
              refine j_goto C dL_law_574 1380 (by decide) ?_
              refine j_iinc C dL_law_1380 6 rfl (v4 + (3 : Int32)) rfl (by decide) [(4, .int (v4 + (3 : Int32))), (6, .int q43.2), (5, .int q41.2), (0, .ref b), (1, .ref (gA G 81)), (2, .ref (gA G 82)), (3, .ref (gA G 91))] rfl 1383 rfl ?_
              refine j_goto C dL_law_1383 23 (by decide) ?_
              refine j_sub [(0, .ref b), (1, .ref (gA G 81)), (2, .ref (gA G 82)), (3, .ref (gA G 91)), (4, .int (v4 + (3 : Int32)))] [3, 4, 5, 6, 0] rfl ?_
              exact ih _ _ (by omega) (by omega) _ _ h
            · have h := it_f c h
              refine j_iconst C dL_law_572 (0 : Int32) (by decide) 573 rfl ?_
              exact absurd hout (l0_out h)
        · have h := it_f c h
          refine j_iconst C dL_law_555 (0 : Int32) (by decide) 556 rfl ?_
          exact absurd hout (l0_out h)
      have h := it_f c7 h
      by_cases c8 : ((xs v4.toNatClampNeg) &&& (31 : Int32)) = (8 : Int32)
      · have h := it_t c8 h
        refine j_tableIn C dL_law_39 (by rw [c8]; decide) (by rw [c8]; decide) (off := 538) (by rw [c8]; rfl) 577 (by decide) ?_
        refine j_aload_n C dL_law_577 rfl 1 rfl 578 rfl ?_
        obtain ⟨q47, e48, h⟩ := ob_some h
        refine j_callV C (ct_X6_clearBuffer (eL E) G  e48) sh81 foX6 rfl vk_X6_clearBuffer kw2_18 rfl ⟨Nat.le_of_ble_eq_true rfl, Nat.le_of_ble_eq_true rfl, rfl, rfl⟩ ⟨by first | (show k ≤ 601024; omega) | (show k + 1 ≤ 601024; omega), by first | (show n ≤ 7293034; omega) | (show n + 6 ≤ 7293034; omega)⟩ (rest := []) rfl (Nat.le_of_ble_eq_true rfl) dL_law_578 (st1 := [.int q47.2]) rfl 581 rfl ?_
        refine j_aload_n C dL_law_581 rfl 2 rfl 582 rfl ?_
        obtain ⟨q49, e50, h⟩ := ob_some h
        refine j_callV C (ct_X7_clearBuffer (eL E) G  e50) sh82 foX7 rfl vk_X7_clearBuffer kw5_111 rfl ⟨Nat.le_of_ble_eq_true rfl, Nat.le_of_ble_eq_true rfl, rfl, rfl⟩ ⟨by first | (show k ≤ 601024; omega) | (show k + 1 ≤ 601024; omega), by first | (show n ≤ 7293034; omega) | (show n + 6 ≤ 7293034; omega)⟩ (rest := [.int q47.2]) rfl (Nat.le_of_ble_eq_true rfl) dL_law_582 (st1 := [.int q49.2, .int q47.2]) rfl 585 rfl ?_
        refine j_icmp_eq C dL_law_585 1380 (by decide) 588 rfl (fun c => ?_) (fun c => ?_)
        · have h := it_t c h
          refine j_iinc C dL_law_1380 4 rfl (v4 + (3 : Int32)) rfl (by decide) [(4, .int (v4 + (3 : Int32))), (0, .ref b), (1, .ref (gA G 81)), (2, .ref (gA G 82)), (3, .ref (gA G 91))] rfl 1383 rfl ?_
          refine j_goto C dL_law_1383 23 (by decide) ?_
          refine j_sub [(0, .ref b), (1, .ref (gA G 81)), (2, .ref (gA G 82)), (3, .ref (gA G 91)), (4, .int (v4 + (3 : Int32)))] [1, 2, 3, 4, 0] rfl ?_
          exact ih _ _ (by omega) (by omega) _ _ h
        · have h := it_f c h
          refine j_iconst C dL_law_588 (0 : Int32) (by decide) 589 rfl ?_
          exact absurd hout (l0_out h)
      have h := it_f c8 h
      by_cases c9 : ((xs v4.toNatClampNeg) &&& (31 : Int32)) = (9 : Int32)
      · have h := it_t c9 h
        refine j_tableIn C dL_law_39 (by rw [c9]; decide) (by rw [c9]; decide) (off := 551) (by rw [c9]; rfl) 590 (by decide) ?_
        refine j_aload_n C dL_law_590 rfl 1 rfl 591 rfl ?_
        obtain ⟨q51, e52, h⟩ := ob_some h
        refine j_callV C (ct_X6_firstError (eL E) G  e52) sh81 foX6 rfl vk_X6_firstError kw2_32 rfl ⟨Nat.le_of_ble_eq_true rfl, Nat.le_of_ble_eq_true rfl, rfl, rfl⟩ ⟨by first | (show k ≤ 601024; omega) | (show k + 1 ≤ 601024; omega), by first | (show n ≤ 7293034; omega) | (show n + 6 ≤ 7293034; omega)⟩ (rest := []) rfl (Nat.le_of_ble_eq_true rfl) dL_law_591 (st1 := [.int q51.2]) rfl 594 rfl ?_
        refine j_aload_n C dL_law_594 rfl 2 rfl 595 rfl ?_
        obtain ⟨q53, e54, h⟩ := ob_some h
        refine j_callV C (ct_X7_firstError (eL E) G  e54) sh82 foX7 rfl vk_X7_firstError kw5_115 rfl ⟨Nat.le_of_ble_eq_true rfl, Nat.le_of_ble_eq_true rfl, rfl, rfl⟩ ⟨by first | (show k ≤ 601024; omega) | (show k + 1 ≤ 601024; omega), by first | (show n ≤ 7293034; omega) | (show n + 6 ≤ 7293034; omega)⟩ (rest := [.int q51.2]) rfl (Nat.le_of_ble_eq_true rfl) dL_law_595 (st1 := [.int q53.2, .int q51.2]) rfl 598 rfl ?_
        refine j_icmp_eq C dL_law_598 1380 (by decide) 601 rfl (fun c => ?_) (fun c => ?_)
        · have h := it_t c h
          refine j_iinc C dL_law_1380 4 rfl (v4 + (3 : Int32)) rfl (by decide) [(4, .int (v4 + (3 : Int32))), (0, .ref b), (1, .ref (gA G 81)), (2, .ref (gA G 82)), (3, .ref (gA G 91))] rfl 1383 rfl ?_
          refine j_goto C dL_law_1383 23 (by decide) ?_
          refine j_sub [(0, .ref b), (1, .ref (gA G 81)), (2, .ref (gA G 82)), (3, .ref (gA G 91)), (4, .int (v4 + (3 : Int32)))] [1, 2, 3, 4, 0] rfl ?_
          exact ih _ _ (by omega) (by omega) _ _ h
        · have h := it_f c h
          refine j_iconst C dL_law_601 (0 : Int32) (by decide) 602 rfl ?_
          exact absurd hout (l0_out h)
      have h := it_f c9 h
      by_cases c10 : ((xs v4.toNatClampNeg) &&& (31 : Int32)) = (10 : Int32)
      · have h := it_t c10 h
        refine j_tableIn C dL_law_39 (by rw [c10]; decide) (by rw [c10]; decide) (off := 564) (by rw [c10]; rfl) 603 (by decide) ?_
        refine j_aload_n C dL_law_603 rfl 1 rfl 604 rfl ?_
        obtain ⟨q55, e56, h⟩ := ob_some h
        refine j_callV C (ct_X6_keep (eL E) G  e56) sh81 foX6 rfl vk_X6_keep kw2_130 rfl ⟨Nat.le_of_ble_eq_true rfl, Nat.le_of_ble_eq_true rfl, rfl, rfl⟩ ⟨by first | (show k ≤ 601024; omega) | (show k + 1 ≤ 601024; omega), by first | (show n ≤ 7293034; omega) | (show n + 6 ≤ 7293034; omega)⟩ (rest := []) rfl (Nat.le_of_ble_eq_true rfl) dL_law_604 (st1 := [.int q55.2]) rfl 607 rfl ?_
        refine j_aload_n C dL_law_607 rfl 2 rfl 608 rfl ?_
        obtain ⟨q57, e58, h⟩ := ob_some h
        refine j_callV C (ct_X7_keep (eL E) G  e58) sh82 foX7 rfl vk_X7_keep kw5_119 rfl ⟨Nat.le_of_ble_eq_true rfl, Nat.le_of_ble_eq_true rfl, rfl, rfl⟩ ⟨by first | (show k ≤ 601024; omega) | (show k + 1 ≤ 601024; omega), by first | (show n ≤ 7293034; omega) | (show n + 6 ≤ 7293034; omega)⟩ (rest := [.int q55.2]) rfl (Nat.le_of_ble_eq_true rfl) dL_law_608 (st1 := [.int q57.2, .int q55.2]) rfl 611 rfl ?_
        refine j_icmp_eq C dL_law_611 1380 (by decide) 614 rfl (fun c => ?_) (fun c => ?_)
        · have h := it_t c h
          refine j_iinc C dL_law_1380 4 rfl (v4 + (3 : Int32)) rfl (by decide) [(4, .int (v4 + (3 : Int32))), (0, .ref b), (1, .ref (gA G 81)), (2, .ref (gA G 82)), (3, .ref (gA G 91))] rfl 1383 rfl ?_
          refine j_goto C dL_law_1383 23 (by decide) ?_
          refine j_sub [(0, .ref b), (1, .ref (gA G 81)), (2, .ref (gA G 82)), (3, .ref (gA G 91)), (4, .int (v4 + (3 : Int32)))] [1, 2, 3, 4, 0] rfl ?_
          exact ih _ _ (by omega) (by omega) _ _ h
        · have h := it_f c h
          refine j_iconst C dL_law_614 (0 : Int32) (by decide) 615 rfl ?_
          exact absurd hout (l0_out h)
      have h := it_f c10 h
      by_cases c11 : ((xs v4.toNatClampNeg) &&& (31 : Int32)) = (11 : Int32)
      · have h := it_t c11 h
        refine j_tableIn C dL_law_39 (by rw [c11]; decide) (by rw [c11]; decide) (off := 577) (by rw [c11]; rfl) 616 (by decide) ?_
        refine j_aload_n C dL_law_616 rfl 1 rfl 617 rfl ?_
        refine j_aload_n C dL_law_617 rfl 3 rfl 618 rfl ?_
        obtain ⟨q59, e60, h⟩ := ob_some h
        refine j_callSW C hNc (cw_L_goBack (eL E) hst G e60) kw4_99 kw4_98 kw1_0 wd_L_goBack kw4_97 rfl ⟨Nat.le_of_ble_eq_true rfl, Nat.le_of_ble_eq_true rfl, rfl, rfl⟩ ⟨by show k + 1 ≤ 601024; omega, by show n + 6 ≤ 7293034; omega⟩ (rest := []) rfl (Nat.le_of_ble_eq_true rfl) dL_law_618 (st1 := [.int q59.2]) rfl 621 rfl ?_
        refine j_istore C dL_law_621 (by decide) [(5, .int q59.2), (0, .ref b), (1, .ref (gA G 81)), (2, .ref (gA G 82)), (3, .ref (gA G 91)), (4, .int v4)] rfl 623 rfl ?_
        refine j_aload_n C dL_law_623 rfl 3 rfl 624 rfl ?_
        obtain ⟨q61, e62, h⟩ := ob_some h
        refine j_callV C (ct_X7_goBack (eL E) G  e62) sh82 foX7 rfl vk_X7_goBack kw5_123 rfl ⟨Nat.le_of_ble_eq_true rfl, Nat.le_of_ble_eq_true rfl, rfl, rfl⟩ ⟨by first | (show k ≤ 601024; omega) | (show k + 1 ≤ 601024; omega), by first | (show n ≤ 7293034; omega) | (show n + 6 ≤ 7293034; omega)⟩ (rest := []) rfl (Nat.le_of_ble_eq_true rfl) dL_law_624 (st1 := [.int q61.2]) rfl 627 rfl ?_
        refine j_istore C dL_law_627 (by decide) [(6, .int q61.2), (5, .int q59.2), (0, .ref b), (1, .ref (gA G 81)), (2, .ref (gA G 82)), (3, .ref (gA G 91)), (4, .int v4)] rfl 629 rfl ?_
        refine j_aload_n C dL_law_629 rfl 4 rfl 630 rfl ?_
        obtain ⟨q63, e64, h⟩ := ob_some h
        refine j_callV C (ct_X7_thrown (eL E) G  e64) sh82 foX7 rfl vk_X7_thrown kw4_234 rfl ⟨Nat.le_of_ble_eq_true rfl, Nat.le_of_ble_eq_true rfl, rfl, rfl⟩ ⟨by first | (show k ≤ 601024; omega) | (show k + 1 ≤ 601024; omega), by first | (show n ≤ 7293034; omega) | (show n + 6 ≤ 7293034; omega)⟩ (rest := []) rfl (Nat.le_of_ble_eq_true rfl) dL_law_630 (st1 := [.int q63.2]) rfl 633 rfl ?_
        refine j_iload C dL_law_633 1 rfl 635 rfl ?_
        refine j_icmp_eq C dL_law_635 640 (by decide) 638 rfl (fun c => ?_) (fun c => ?_)
        · have h := it_t c h
          refine j_iload C dL_law_640 1 rfl 642 rfl ?_
          refine j_if_ne C dL_law_642 657 (by decide) 645 rfl (fun c => ?_) (fun c => ?_)
          · have h := it_f c h
            refine j_goto C dL_law_657 1380 (by decide) ?_
            refine j_iinc C dL_law_1380 6 rfl (v4 + (3 : Int32)) rfl (by decide) [(4, .int (v4 + (3 : Int32))), (6, .int q61.2), (5, .int q59.2), (0, .ref b), (1, .ref (gA G 81)), (2, .ref (gA G 82)), (3, .ref (gA G 91))] rfl 1383 rfl ?_
            refine j_goto C dL_law_1383 23 (by decide) ?_
            refine j_sub [(0, .ref b), (1, .ref (gA G 81)), (2, .ref (gA G 82)), (3, .ref (gA G 91)), (4, .int (v4 + (3 : Int32)))] [3, 4, 5, 6, 0] rfl ?_
            exact ih _ _ (by omega) (by omega) _ _ h
          · have h := it_t c h
            refine j_aload_n C dL_law_645 rfl 5 rfl 646 rfl ?_
            refine j_iconst C dL_law_646 (0 : Int32) (by decide) 647 rfl ?_
            refine j_lald C sh91 (by decide) dL_law_647 0 rfl 648 rfl ?_
            refine j_iload C dL_law_648 0 rfl 650 rfl ?_
            refine j_i2l C dL_law_650 651 rfl ?_
            refine j_lcmp C dL_law_651 652 rfl ?_
            refine j_if_eq C dL_law_652 657 (by decide) 655 rfl (fun c => ?_) (fun c => ?_)
            · have h := it_t c h
              refine j_goto C dL_law_657 1380 (by decide) ?_
              refine j_iinc C dL_law_1380 6 rfl (v4 + (3 : Int32)) rfl (by decide) [(4, .int (v4 + (3 : Int32))), (6, .int q61.2), (5, .int q59.2), (0, .ref b), (1, .ref (gA G 81)), (2, .ref (gA G 82)), (3, .ref (gA G 91))] rfl 1383 rfl ?_
              refine j_goto C dL_law_1383 23 (by decide) ?_
              refine j_sub [(0, .ref b), (1, .ref (gA G 81)), (2, .ref (gA G 82)), (3, .ref (gA G 91)), (4, .int (v4 + (3 : Int32)))] [3, 4, 5, 6, 0] rfl ?_
              exact ih _ _ (by omega) (by omega) _ _ h
            · have h := it_f c h
              refine j_iconst C dL_law_655 (0 : Int32) (by decide) 656 rfl ?_
              exact absurd hout (l0_out h)
        · have h := it_f c h
          refine j_iconst C dL_law_638 (0 : Int32) (by decide) 639 rfl ?_
          exact absurd hout (l0_out h)
      have h := it_f c11 h
      by_cases c12 : ((xs v4.toNatClampNeg) &&& (31 : Int32)) = (12 : Int32)
      · have h := it_t c12 h
        refine j_tableIn C dL_law_39 (by rw [c12]; decide) (by rw [c12]; decide) (off := 621) (by rw [c12]; rfl) 660 (by decide) ?_
        refine j_aload_n C dL_law_660 rfl 1 rfl 661 rfl ?_
        refine j_aload_n C dL_law_661 rfl 3 rfl 662 rfl ?_
        obtain ⟨q65, e66, h⟩ := ob_some h
        refine j_callSW C hNc (cw_L_undo (eL E) hst G e66) kw4_107 kw4_106 kw1_0 wd_L_undo kw4_105 rfl ⟨Nat.le_of_ble_eq_true rfl, Nat.le_of_ble_eq_true rfl, rfl, rfl⟩ ⟨by show k + 1 ≤ 601024; omega, by show n + 6 ≤ 7293034; omega⟩ (rest := []) rfl (Nat.le_of_ble_eq_true rfl) dL_law_662 (st1 := [.int q65.2]) rfl 665 rfl ?_
        refine j_istore C dL_law_665 (by decide) [(5, .int q65.2), (0, .ref b), (1, .ref (gA G 81)), (2, .ref (gA G 82)), (3, .ref (gA G 91)), (4, .int v4)] rfl 667 rfl ?_
        refine j_aload_n C dL_law_667 rfl 3 rfl 668 rfl ?_
        obtain ⟨q67, e68, h⟩ := ob_some h
        refine j_callV C (ct_X7_undo (eL E) G  e68) sh82 foX7 rfl vk_X7_undo kw5_127 rfl ⟨Nat.le_of_ble_eq_true rfl, Nat.le_of_ble_eq_true rfl, rfl, rfl⟩ ⟨by first | (show k ≤ 601024; omega) | (show k + 1 ≤ 601024; omega), by first | (show n ≤ 7293034; omega) | (show n + 6 ≤ 7293034; omega)⟩ (rest := []) rfl (Nat.le_of_ble_eq_true rfl) dL_law_668 (st1 := [.int q67.2]) rfl 671 rfl ?_
        refine j_istore C dL_law_671 (by decide) [(6, .int q67.2), (5, .int q65.2), (0, .ref b), (1, .ref (gA G 81)), (2, .ref (gA G 82)), (3, .ref (gA G 91)), (4, .int v4)] rfl 673 rfl ?_
        refine j_aload_n C dL_law_673 rfl 4 rfl 674 rfl ?_
        obtain ⟨q69, e70, h⟩ := ob_some h
        refine j_callV C (ct_X7_thrown (eL E) G  e70) sh82 foX7 rfl vk_X7_thrown kw4_234 rfl ⟨Nat.le_of_ble_eq_true rfl, Nat.le_of_ble_eq_true rfl, rfl, rfl⟩ ⟨by first | (show k ≤ 601024; omega) | (show k + 1 ≤ 601024; omega), by first | (show n ≤ 7293034; omega) | (show n + 6 ≤ 7293034; omega)⟩ (rest := []) rfl (Nat.le_of_ble_eq_true rfl) dL_law_674 (st1 := [.int q69.2]) rfl 677 rfl ?_
        refine j_iload C dL_law_677 1 rfl 679 rfl ?_
        refine j_icmp_eq C dL_law_679 684 (by decide) 682 rfl (fun c => ?_) (fun c => ?_)
        · have h := it_t c h
          refine j_iload C dL_law_684 1 rfl 686 rfl ?_
          refine j_if_ne C dL_law_686 701 (by decide) 689 rfl (fun c => ?_) (fun c => ?_)
          · have h := it_f c h
            refine j_goto C dL_law_701 1380 (by decide) ?_
            refine j_iinc C dL_law_1380 6 rfl (v4 + (3 : Int32)) rfl (by decide) [(4, .int (v4 + (3 : Int32))), (6, .int q67.2), (5, .int q65.2), (0, .ref b), (1, .ref (gA G 81)), (2, .ref (gA G 82)), (3, .ref (gA G 91))] rfl 1383 rfl ?_
            refine j_goto C dL_law_1383 23 (by decide) ?_
            refine j_sub [(0, .ref b), (1, .ref (gA G 81)), (2, .ref (gA G 82)), (3, .ref (gA G 91)), (4, .int (v4 + (3 : Int32)))] [3, 4, 5, 6, 0] rfl ?_
            exact ih _ _ (by omega) (by omega) _ _ h
          · have h := it_t c h
            refine j_aload_n C dL_law_689 rfl 5 rfl 690 rfl ?_
            refine j_iconst C dL_law_690 (0 : Int32) (by decide) 691 rfl ?_
            refine j_lald C sh91 (by decide) dL_law_691 0 rfl 692 rfl ?_
            refine j_iload C dL_law_692 0 rfl 694 rfl ?_
            refine j_i2l C dL_law_694 695 rfl ?_
            refine j_lcmp C dL_law_695 696 rfl ?_
            refine j_if_eq C dL_law_696 701 (by decide) 699 rfl (fun c => ?_) (fun c => ?_)
            · have h := it_t c h
              refine j_goto C dL_law_701 1380 (by decide) ?_
              refine j_iinc C dL_law_1380 6 rfl (v4 + (3 : Int32)) rfl (by decide) [(4, .int (v4 + (3 : Int32))), (6, .int q67.2), (5, .int q65.2), (0, .ref b), (1, .ref (gA G 81)), (2, .ref (gA G 82)), (3, .ref (gA G 91))] rfl 1383 rfl ?_
              refine j_goto C dL_law_1383 23 (by decide) ?_
              refine j_sub [(0, .ref b), (1, .ref (gA G 81)), (2, .ref (gA G 82)), (3, .ref (gA G 91)), (4, .int (v4 + (3 : Int32)))] [3, 4, 5, 6, 0] rfl ?_
              exact ih _ _ (by omega) (by omega) _ _ h
            · have h := it_f c h
              refine j_iconst C dL_law_699 (0 : Int32) (by decide) 700 rfl ?_
              exact absurd hout (l0_out h)
        · have h := it_f c h
          refine j_iconst C dL_law_682 (0 : Int32) (by decide) 683 rfl ?_
          exact absurd hout (l0_out h)
      have h := it_f c12 h
      by_cases c13 : ((xs v4.toNatClampNeg) &&& (31 : Int32)) = (13 : Int32)
      · have h := it_t c13 h
        refine j_tableIn C dL_law_39 (by rw [c13]; decide) (by rw [c13]; decide) (off := 665) (by rw [c13]; rfl) 704 (by decide) ?_
        refine j_aload_n C dL_law_704 rfl 1 rfl 705 rfl ?_
        refine j_aload_n C dL_law_705 rfl 0 rfl 706 rfl ?_
        refine j_iload C dL_law_706 4 rfl 708 rfl ?_
        refine j_iconst C dL_law_708 (1 : Int32) (by decide) 709 rfl ?_
        refine j_iadd C dL_law_709 710 rfl ?_
        obtain ⟨hc, h⟩ := if_some h
        refine j_sld C hsc hc dL_law_710 711 rfl ?_
        refine j_aload_n C dL_law_711 rfl 3 rfl 712 rfl ?_
        obtain ⟨q71, e72, h⟩ := ob_some h
        refine j_callSW C hNc (cw_L_stroke (eL E) hst G e72) kw4_119 kw4_118 kw1_0 wd_L_stroke kw4_117 rfl ⟨Nat.le_of_ble_eq_true rfl, Nat.le_of_ble_eq_true rfl, rfl, rfl⟩ ⟨by show k + 1 ≤ 601024; omega, by show n + 6 ≤ 7293034; omega⟩ (rest := []) rfl (Nat.le_of_ble_eq_true rfl) dL_law_712 (st1 := [.int q71.2]) rfl 715 rfl ?_
        refine j_istore C dL_law_715 (by decide) [(5, .int q71.2), (0, .ref b), (1, .ref (gA G 81)), (2, .ref (gA G 82)), (3, .ref (gA G 91)), (4, .int v4)] rfl 717 rfl ?_
        refine j_aload_n C dL_law_717 rfl 3 rfl 718 rfl ?_
        refine j_aload_n C dL_law_718 rfl 1 rfl 719 rfl ?_
        refine j_iload C dL_law_719 5 rfl 721 rfl ?_
        refine j_iconst C dL_law_721 (1 : Int32) (by decide) 722 rfl ?_
        refine j_iadd C dL_law_722 723 rfl ?_
        obtain ⟨hc, h⟩ := if_some h
        refine j_sld C hsc hc dL_law_723 724 rfl ?_
        obtain ⟨q73, e74, h⟩ := ob_some h
        refine j_callV C (ct_X7_stroke (eL E) G  e74) sh82 foX7 rfl vk_X7_stroke kw5_131 rfl ⟨Nat.le_of_ble_eq_true rfl, Nat.le_of_ble_eq_true rfl, rfl, rfl⟩ ⟨by first | (show k ≤ 601024; omega) | (show k + 1 ≤ 601024; omega), by first | (show n ≤ 7293034; omega) | (show n + 6 ≤ 7293034; omega)⟩ (rest := []) rfl (Nat.le_of_ble_eq_true rfl) dL_law_724 (st1 := [.int q73.2]) rfl 727 rfl ?_
        refine j_istore C dL_law_727 (by decide) [(6, .int q73.2), (5, .int q71.2), (0, .ref b), (1, .ref (gA G 81)), (2, .ref (gA G 82)), (3, .ref (gA G 91)), (4, .int v4)] rfl 729 rfl ?_
        refine j_aload_n C dL_law_729 rfl 4 rfl 730 rfl ?_
        obtain ⟨q75, e76, h⟩ := ob_some h
        refine j_callV C (ct_X7_thrown (eL E) G  e76) sh82 foX7 rfl vk_X7_thrown kw4_234 rfl ⟨Nat.le_of_ble_eq_true rfl, Nat.le_of_ble_eq_true rfl, rfl, rfl⟩ ⟨by first | (show k ≤ 601024; omega) | (show k + 1 ≤ 601024; omega), by first | (show n ≤ 7293034; omega) | (show n + 6 ≤ 7293034; omega)⟩ (rest := []) rfl (Nat.le_of_ble_eq_true rfl) dL_law_730 (st1 := [.int q75.2]) rfl 733 rfl ?_
        refine j_iload C dL_law_733 1 rfl 735 rfl ?_
        refine j_icmp_eq C dL_law_735 740 (by decide) 738 rfl (fun c => ?_) (fun c => ?_)
        · have h := it_t c h
          refine j_iload C dL_law_740 1 rfl 742 rfl ?_
          refine j_if_ne C dL_law_742 757 (by decide) 745 rfl (fun c => ?_) (fun c => ?_)
          · have h := it_f c h
            refine j_goto C dL_law_757 1380 (by decide) ?_
            refine j_iinc C dL_law_1380 6 rfl (v4 + (3 : Int32)) rfl (by decide) [(4, .int (v4 + (3 : Int32))), (6, .int q73.2), (5, .int q71.2), (0, .ref b), (1, .ref (gA G 81)), (2, .ref (gA G 82)), (3, .ref (gA G 91))] rfl 1383 rfl ?_
            refine j_goto C dL_law_1383 23 (by decide) ?_
            refine j_sub [(0, .ref b), (1, .ref (gA G 81)), (2, .ref (gA G 82)), (3, .ref (gA G 91)), (4, .int (v4 + (3 : Int32)))] [3, 4, 5, 6, 0] rfl ?_
            exact ih _ _ (by omega) (by omega) _ _ h
          · have h := it_t c h
            refine j_aload_n C dL_law_745 rfl 5 rfl 746 rfl ?_
            refine j_iconst C dL_law_746 (0 : Int32) (by decide) 747 rfl ?_
            refine j_lald C sh91 (by decide) dL_law_747 0 rfl 748 rfl ?_
            refine j_iload C dL_law_748 0 rfl 750 rfl ?_
            refine j_i2l C dL_law_750 751 rfl ?_
            refine j_lcmp C dL_law_751 752 rfl ?_
            refine j_if_eq C dL_law_752 757 (by decide) 755 rfl (fun c => ?_) (fun c => ?_)
            · have h := it_t c h
              refine j_goto C dL_law_757 1380 (by decide) ?_
              refine j_iinc C dL_law_1380 6 rfl (v4 + (3 : Int32)) rfl (by decide) [(4, .int (v4 + (3 : Int32))), (6, .int q73.2), (5, .int q71.2), (0, .ref b), (1, .ref (gA G 81)), (2, .ref (gA G 82)), (3, .ref (gA G 91))] rfl 1383 rfl ?_
              refine j_goto C dL_law_1383 23 (by decide) ?_
              refine j_sub [(0, .ref b), (1, .ref (gA G 81)), (2, .ref (gA G 82)), (3, .ref (gA G 91)), (4, .int (v4 + (3 : Int32)))] [3, 4, 5, 6, 0] rfl ?_
              exact ih _ _ (by omega) (by omega) _ _ h
            · have h := it_f c h
              refine j_iconst C dL_law_755 (0 : Int32) (by decide) 756 rfl ?_
              exact absurd hout (l0_out h)
        · have h := it_f c h
          refine j_iconst C dL_law_738 (0 : Int32) (by decide) 739 rfl ?_
          exact absurd hout (l0_out h)
      have h := it_f c13 h
      by_cases c14 : ((xs v4.toNatClampNeg) &&& (31 : Int32)) = (14 : Int32)
      · have h := it_t c14 h
        refine j_tableIn C dL_law_39 (by rw [c14]; decide) (by rw [c14]; decide) (off := 721) (by rw [c14]; rfl) 760 (by decide) ?_
        refine j_aload_n C dL_law_760 rfl 1 rfl 761 rfl ?_
        refine j_aload_n C dL_law_761 rfl 0 rfl 762 rfl ?_
        refine j_iload C dL_law_762 4 rfl 764 rfl ?_
        refine j_iconst C dL_law_764 (1 : Int32) (by decide) 765 rfl ?_
        refine j_iadd C dL_law_765 766 rfl ?_
        obtain ⟨hc, h⟩ := if_some h
        refine j_sld C hsc hc dL_law_766 767 rfl ?_
        refine j_aload_n C dL_law_767 rfl 0 rfl 768 rfl ?_
        refine j_iload C dL_law_768 4 rfl 770 rfl ?_
        refine j_iconst C dL_law_770 (2 : Int32) (by decide) 771 rfl ?_
        refine j_iadd C dL_law_771 772 rfl ?_
        obtain ⟨hc, h⟩ := if_some h
        refine j_sld C hsc hc dL_law_772 773 rfl ?_
        refine j_aload_n C dL_law_773 rfl 3 rfl 774 rfl ?_
        obtain ⟨q77, e78, h⟩ := ob_some h
        refine j_callSW C hNc (cw_L_item (eL E) hst G e78) kw4_128 kw4_127 kw1_0 wd_L_item kw4_126 rfl ⟨Nat.le_of_ble_eq_true rfl, Nat.le_of_ble_eq_true rfl, rfl, rfl⟩ ⟨by show k + 1 ≤ 601024; omega, by show n + 6 ≤ 7293034; omega⟩ (rest := []) rfl (Nat.le_of_ble_eq_true rfl) dL_law_774 (st1 := [.int q77.2]) rfl 777 rfl ?_
        refine j_istore C dL_law_777 (by decide) [(5, .int q77.2), (0, .ref b), (1, .ref (gA G 81)), (2, .ref (gA G 82)), (3, .ref (gA G 91)), (4, .int v4)] rfl 779 rfl ?_
        refine j_aload_n C dL_law_779 rfl 3 rfl 780 rfl ?_
        refine j_aload_n C dL_law_780 rfl 1 rfl 781 rfl ?_
        refine j_iload C dL_law_781 5 rfl 783 rfl ?_
        refine j_iconst C dL_law_783 (1 : Int32) (by decide) 784 rfl ?_
        refine j_iadd C dL_law_784 785 rfl ?_
        obtain ⟨hc, h⟩ := if_some h
        refine j_sld C hsc hc dL_law_785 786 rfl ?_
        refine j_aload_n C dL_law_786 rfl 1 rfl 787 rfl ?_
        refine j_iload C dL_law_787 5 rfl 789 rfl ?_
        refine j_iconst C dL_law_789 (2 : Int32) (by decide) 790 rfl ?_
        refine j_iadd C dL_law_790 791 rfl ?_
        obtain ⟨hc, h⟩ := if_some h
        refine j_sld C hsc hc dL_law_791 792 rfl ?_
        obtain ⟨q79, e80, h⟩ := ob_some h
        refine j_callV C (ct_X7_item (eL E) G  e80) sh82 foX7 rfl vk_X7_item kw5_135 rfl ⟨Nat.le_of_ble_eq_true rfl, Nat.le_of_ble_eq_true rfl, rfl, rfl⟩ ⟨by first | (show k ≤ 601024; omega) | (show k + 1 ≤ 601024; omega), by first | (show n ≤ 7293034; omega) | (show n + 6 ≤ 7293034; omega)⟩ (rest := []) rfl (Nat.le_of_ble_eq_true rfl) dL_law_792 (st1 := [.int q79.2]) rfl 795 rfl ?_
        refine j_istore C dL_law_795 (by decide) [(6, .int q79.2), (5, .int q77.2), (0, .ref b), (1, .ref (gA G 81)), (2, .ref (gA G 82)), (3, .ref (gA G 91)), (4, .int v4)] rfl 797 rfl ?_
        refine j_aload_n C dL_law_797 rfl 4 rfl 798 rfl ?_
        obtain ⟨q81, e82, h⟩ := ob_some h
        refine j_callV C (ct_X7_thrown (eL E) G  e82) sh82 foX7 rfl vk_X7_thrown kw4_234 rfl ⟨Nat.le_of_ble_eq_true rfl, Nat.le_of_ble_eq_true rfl, rfl, rfl⟩ ⟨by first | (show k ≤ 601024; omega) | (show k + 1 ≤ 601024; omega), by first | (show n ≤ 7293034; omega) | (show n + 6 ≤ 7293034; omega)⟩ (rest := []) rfl (Nat.le_of_ble_eq_true rfl) dL_law_798 (st1 := [.int q81.2]) rfl 801 rfl ?_
        refine j_iload C dL_law_801 1 rfl 803 rfl ?_
        refine j_icmp_eq C dL_law_803 808 (by decide) 806 rfl (fun c => ?_) (fun c => ?_)
        · have h := it_t c h
          refine j_iload C dL_law_808 1 rfl 810 rfl ?_
          refine j_if_ne C dL_law_810 825 (by decide) 813 rfl (fun c => ?_) (fun c => ?_)
          · have h := it_f c h
            refine j_goto C dL_law_825 1380 (by decide) ?_
            refine j_iinc C dL_law_1380 6 rfl (v4 + (3 : Int32)) rfl (by decide) [(4, .int (v4 + (3 : Int32))), (6, .int q79.2), (5, .int q77.2), (0, .ref b), (1, .ref (gA G 81)), (2, .ref (gA G 82)), (3, .ref (gA G 91))] rfl 1383 rfl ?_
            refine j_goto C dL_law_1383 23 (by decide) ?_
            refine j_sub [(0, .ref b), (1, .ref (gA G 81)), (2, .ref (gA G 82)), (3, .ref (gA G 91)), (4, .int (v4 + (3 : Int32)))] [3, 4, 5, 6, 0] rfl ?_
            exact ih _ _ (by omega) (by omega) _ _ h
          · have h := it_t c h
            refine j_aload_n C dL_law_813 rfl 5 rfl 814 rfl ?_
            refine j_iconst C dL_law_814 (0 : Int32) (by decide) 815 rfl ?_
            refine j_lald C sh91 (by decide) dL_law_815 0 rfl 816 rfl ?_
            refine j_iload C dL_law_816 0 rfl 818 rfl ?_
            refine j_i2l C dL_law_818 819 rfl ?_
            refine j_lcmp C dL_law_819 820 rfl ?_
            refine j_if_eq C dL_law_820 825 (by decide) 823 rfl (fun c => ?_) (fun c => ?_)
            · have h := it_t c h
              refine j_goto C dL_law_825 1380 (by decide) ?_
              refine j_iinc C dL_law_1380 6 rfl (v4 + (3 : Int32)) rfl (by decide) [(4, .int (v4 + (3 : Int32))), (6, .int q79.2), (5, .int q77.2), (0, .ref b), (1, .ref (gA G 81)), (2, .ref (gA G 82)), (3, .ref (gA G 91))] rfl 1383 rfl ?_
              refine j_goto C dL_law_1383 23 (by decide) ?_
              refine j_sub [(0, .ref b), (1, .ref (gA G 81)), (2, .ref (gA G 82)), (3, .ref (gA G 91)), (4, .int (v4 + (3 : Int32)))] [3, 4, 5, 6, 0] rfl ?_
              exact ih _ _ (by omega) (by omega) _ _ h
            · have h := it_f c h
              refine j_iconst C dL_law_823 (0 : Int32) (by decide) 824 rfl ?_
              exact absurd hout (l0_out h)
        · have h := it_f c h
          refine j_iconst C dL_law_806 (0 : Int32) (by decide) 807 rfl ?_
          exact absurd hout (l0_out h)
      have h := it_f c14 h
      by_cases c15 : ((xs v4.toNatClampNeg) &&& (31 : Int32)) = (15 : Int32)
      · have h := it_t c15 h
        refine j_tableIn C dL_law_39 (by rw [c15]; decide) (by rw [c15]; decide) (off := 789) (by rw [c15]; rfl) 828 (by decide) ?_
        refine j_aload_n C dL_law_828 rfl 1 rfl 829 rfl ?_
        refine j_aload_n C dL_law_829 rfl 0 rfl 830 rfl ?_
        refine j_iload C dL_law_830 4 rfl 832 rfl ?_
        refine j_iconst C dL_law_832 (1 : Int32) (by decide) 833 rfl ?_
        refine j_iadd C dL_law_833 834 rfl ?_
        obtain ⟨hc, h⟩ := if_some h
        refine j_sld C hsc hc dL_law_834 835 rfl ?_
        refine j_aload_n C dL_law_835 rfl 0 rfl 836 rfl ?_
        refine j_iload C dL_law_836 4 rfl 838 rfl ?_
        refine j_iconst C dL_law_838 (2 : Int32) (by decide) 839 rfl ?_
        refine j_iadd C dL_law_839 840 rfl ?_
        obtain ⟨hc, h⟩ := if_some h
        refine j_sld C hsc hc dL_law_840 841 rfl ?_
        refine j_aload_n C dL_law_841 rfl 3 rfl 842 rfl ?_
        obtain ⟨q83, e84, h⟩ := ob_some h
        refine j_callSW C hNc (cw_L_entry (eL E) hst G e84) kw4_137 kw4_136 kw1_0 wd_L_entry kw4_135 rfl ⟨Nat.le_of_ble_eq_true rfl, Nat.le_of_ble_eq_true rfl, rfl, rfl⟩ ⟨by show k + 1 ≤ 601024; omega, by show n + 6 ≤ 7293034; omega⟩ (rest := []) rfl (Nat.le_of_ble_eq_true rfl) dL_law_842 (st1 := [.int q83.2]) rfl 845 rfl ?_
        refine j_istore C dL_law_845 (by decide) [(5, .int q83.2), (0, .ref b), (1, .ref (gA G 81)), (2, .ref (gA G 82)), (3, .ref (gA G 91)), (4, .int v4)] rfl 847 rfl ?_
        refine j_aload_n C dL_law_847 rfl 3 rfl 848 rfl ?_
        refine j_aload_n C dL_law_848 rfl 1 rfl 849 rfl ?_
        refine j_iload C dL_law_849 5 rfl 851 rfl ?_
        refine j_iconst C dL_law_851 (1 : Int32) (by decide) 852 rfl ?_
        refine j_iadd C dL_law_852 853 rfl ?_
        obtain ⟨hc, h⟩ := if_some h
        refine j_sld C hsc hc dL_law_853 854 rfl ?_
        refine j_aload_n C dL_law_854 rfl 1 rfl 855 rfl ?_
        refine j_iload C dL_law_855 5 rfl 857 rfl ?_
        refine j_iconst C dL_law_857 (2 : Int32) (by decide) 858 rfl ?_
        refine j_iadd C dL_law_858 859 rfl ?_
        obtain ⟨hc, h⟩ := if_some h
        refine j_sld C hsc hc dL_law_859 860 rfl ?_
        obtain ⟨q85, e86, h⟩ := ob_some h
        refine j_callV C (ct_X7_entry (eL E) G  e86) sh82 foX7 rfl vk_X7_entry kw5_147 rfl ⟨Nat.le_of_ble_eq_true rfl, Nat.le_of_ble_eq_true rfl, rfl, rfl⟩ ⟨by first | (show k ≤ 601024; omega) | (show k + 1 ≤ 601024; omega), by first | (show n ≤ 7293034; omega) | (show n + 6 ≤ 7293034; omega)⟩ (rest := []) rfl (Nat.le_of_ble_eq_true rfl) dL_law_860 (st1 := [.int q85.2]) rfl 863 rfl ?_
        refine j_istore C dL_law_863 (by decide) [(6, .int q85.2), (5, .int q83.2), (0, .ref b), (1, .ref (gA G 81)), (2, .ref (gA G 82)), (3, .ref (gA G 91)), (4, .int v4)] rfl 865 rfl ?_
        refine j_aload_n C dL_law_865 rfl 4 rfl 866 rfl ?_
        obtain ⟨q87, e88, h⟩ := ob_some h
        refine j_callV C (ct_X7_thrown (eL E) G  e88) sh82 foX7 rfl vk_X7_thrown kw4_234 rfl ⟨Nat.le_of_ble_eq_true rfl, Nat.le_of_ble_eq_true rfl, rfl, rfl⟩ ⟨by first | (show k ≤ 601024; omega) | (show k + 1 ≤ 601024; omega), by first | (show n ≤ 7293034; omega) | (show n + 6 ≤ 7293034; omega)⟩ (rest := []) rfl (Nat.le_of_ble_eq_true rfl) dL_law_866 (st1 := [.int q87.2]) rfl 869 rfl ?_
        refine j_iload C dL_law_869 1 rfl 871 rfl ?_
        refine j_icmp_eq C dL_law_871 876 (by decide) 874 rfl (fun c => ?_) (fun c => ?_)
        · have h := it_t c h
          refine j_iload C dL_law_876 1 rfl 878 rfl ?_
          refine j_if_ne C dL_law_878 893 (by decide) 881 rfl (fun c => ?_) (fun c => ?_)
          · have h := it_f c h
            refine j_goto C dL_law_893 1380 (by decide) ?_
            refine j_iinc C dL_law_1380 6 rfl (v4 + (3 : Int32)) rfl (by decide) [(4, .int (v4 + (3 : Int32))), (6, .int q85.2), (5, .int q83.2), (0, .ref b), (1, .ref (gA G 81)), (2, .ref (gA G 82)), (3, .ref (gA G 91))] rfl 1383 rfl ?_
            refine j_goto C dL_law_1383 23 (by decide) ?_
            refine j_sub [(0, .ref b), (1, .ref (gA G 81)), (2, .ref (gA G 82)), (3, .ref (gA G 91)), (4, .int (v4 + (3 : Int32)))] [3, 4, 5, 6, 0] rfl ?_
            exact ih _ _ (by omega) (by omega) _ _ h
          · have h := it_t c h
            refine j_aload_n C dL_law_881 rfl 5 rfl 882 rfl ?_
            refine j_iconst C dL_law_882 (0 : Int32) (by decide) 883 rfl ?_
            refine j_lald C sh91 (by decide) dL_law_883 0 rfl 884 rfl ?_
            refine j_iload C dL_law_884 0 rfl 886 rfl ?_
            refine j_i2l C dL_law_886 887 rfl ?_
            refine j_lcmp C dL_law_887 888 rfl ?_
            refine j_if_eq C dL_law_888 893 (by decide) 891 rfl (fun c => ?_) (fun c => ?_)
            · have h := it_t c h
              refine j_goto C dL_law_893 1380 (by decide) ?_
              refine j_iinc C dL_law_1380 6 rfl (v4 + (3 : Int32)) rfl (by decide) [(4, .int (v4 + (3 : Int32))), (6, .int q85.2), (5, .int q83.2), (0, .ref b), (1, .ref (gA G 81)), (2, .ref (gA G 82)), (3, .ref (gA G 91))] rfl 1383 rfl ?_
              refine j_goto C dL_law_1383 23 (by decide) ?_
              refine j_sub [(0, .ref b), (1, .ref (gA G 81)), (2, .ref (gA G 82)), (3, .ref (gA G 91)), (4, .int (v4 + (3 : Int32)))] [3, 4, 5, 6, 0] rfl ?_
              exact ih _ _ (by omega) (by omega) _ _ h
            · have h := it_f c h
              refine j_iconst C dL_law_891 (0 : Int32) (by decide) 892 rfl ?_
              exact absurd hout (l0_out h)
        · have h := it_f c h
          refine j_iconst C dL_law_874 (0 : Int32) (by decide) 875 rfl ?_
          exact absurd hout (l0_out h)
      have h := it_f c15 h
      by_cases c16 : ((xs v4.toNatClampNeg) &&& (31 : Int32)) = (16 : Int32)
      · have h := it_t c16 h
        refine j_tableIn C dL_law_39 (by rw [c16]; decide) (by rw [c16]; decide) (off := 857) (by rw [c16]; rfl) 896 (by decide) ?_
        refine j_aload_n C dL_law_896 rfl 1 rfl 897 rfl ?_
        refine j_aload_n C dL_law_897 rfl 0 rfl 898 rfl ?_
        refine j_iload C dL_law_898 4 rfl 900 rfl ?_
        refine j_iconst C dL_law_900 (1 : Int32) (by decide) 901 rfl ?_
        refine j_iadd C dL_law_901 902 rfl ?_
        obtain ⟨hc, h⟩ := if_some h
        refine j_sld C hsc hc dL_law_902 903 rfl ?_
        refine j_aload_n C dL_law_903 rfl 3 rfl 904 rfl ?_
        obtain ⟨q89, e90, h⟩ := ob_some h
        refine j_callSW C hNc (cw_L_count (eL E) hst G e90) kw4_145 kw4_144 kw1_0 wd_L_count kw4_143 rfl ⟨Nat.le_of_ble_eq_true rfl, Nat.le_of_ble_eq_true rfl, rfl, rfl⟩ ⟨by show k + 1 ≤ 601024; omega, by show n + 6 ≤ 7293034; omega⟩ (rest := []) rfl (Nat.le_of_ble_eq_true rfl) dL_law_904 (st1 := [.int q89.2]) rfl 907 rfl ?_
        refine j_istore C dL_law_907 (by decide) [(5, .int q89.2), (0, .ref b), (1, .ref (gA G 81)), (2, .ref (gA G 82)), (3, .ref (gA G 91)), (4, .int v4)] rfl 909 rfl ?_
        refine j_aload_n C dL_law_909 rfl 3 rfl 910 rfl ?_
        refine j_aload_n C dL_law_910 rfl 1 rfl 911 rfl ?_
        refine j_iload C dL_law_911 5 rfl 913 rfl ?_
        refine j_iconst C dL_law_913 (1 : Int32) (by decide) 914 rfl ?_
        refine j_iadd C dL_law_914 915 rfl ?_
        obtain ⟨hc, h⟩ := if_some h
        refine j_sld C hsc hc dL_law_915 916 rfl ?_
        obtain ⟨q91, e92, h⟩ := ob_some h
        refine j_callV C (ct_X7_count (eL E) G  e92) sh82 foX7 rfl vk_X7_count kw5_163 rfl ⟨Nat.le_of_ble_eq_true rfl, Nat.le_of_ble_eq_true rfl, rfl, rfl⟩ ⟨by first | (show k ≤ 601024; omega) | (show k + 1 ≤ 601024; omega), by first | (show n ≤ 7293034; omega) | (show n + 6 ≤ 7293034; omega)⟩ (rest := []) rfl (Nat.le_of_ble_eq_true rfl) dL_law_916 (st1 := [.int q91.2]) rfl 919 rfl ?_
        refine j_istore C dL_law_919 (by decide) [(6, .int q91.2), (5, .int q89.2), (0, .ref b), (1, .ref (gA G 81)), (2, .ref (gA G 82)), (3, .ref (gA G 91)), (4, .int v4)] rfl 921 rfl ?_
        refine j_aload_n C dL_law_921 rfl 4 rfl 922 rfl ?_
        obtain ⟨q93, e94, h⟩ := ob_some h
        refine j_callV C (ct_X7_thrown (eL E) G  e94) sh82 foX7 rfl vk_X7_thrown kw4_234 rfl ⟨Nat.le_of_ble_eq_true rfl, Nat.le_of_ble_eq_true rfl, rfl, rfl⟩ ⟨by first | (show k ≤ 601024; omega) | (show k + 1 ≤ 601024; omega), by first | (show n ≤ 7293034; omega) | (show n + 6 ≤ 7293034; omega)⟩ (rest := []) rfl (Nat.le_of_ble_eq_true rfl) dL_law_922 (st1 := [.int q93.2]) rfl 925 rfl ?_
        refine j_iload C dL_law_925 1 rfl 927 rfl ?_
        refine j_icmp_eq C dL_law_927 932 (by decide) 930 rfl (fun c => ?_) (fun c => ?_)
        · have h := it_t c h
          refine j_iload C dL_law_932 1 rfl 934 rfl ?_
          refine j_if_ne C dL_law_934 949 (by decide) 937 rfl (fun c => ?_) (fun c => ?_)
          · have h := it_f c h
            refine j_goto C dL_law_949 1380 (by decide) ?_
            refine j_iinc C dL_law_1380 6 rfl (v4 + (3 : Int32)) rfl (by decide) [(4, .int (v4 + (3 : Int32))), (6, .int q91.2), (5, .int q89.2), (0, .ref b), (1, .ref (gA G 81)), (2, .ref (gA G 82)), (3, .ref (gA G 91))] rfl 1383 rfl ?_
            refine j_goto C dL_law_1383 23 (by decide) ?_
            refine j_sub [(0, .ref b), (1, .ref (gA G 81)), (2, .ref (gA G 82)), (3, .ref (gA G 91)), (4, .int (v4 + (3 : Int32)))] [3, 4, 5, 6, 0] rfl ?_
            exact ih _ _ (by omega) (by omega) _ _ h
          · have h := it_t c h
            refine j_aload_n C dL_law_937 rfl 5 rfl 938 rfl ?_
            refine j_iconst C dL_law_938 (0 : Int32) (by decide) 939 rfl ?_
            refine j_lald C sh91 (by decide) dL_law_939 0 rfl 940 rfl ?_
            refine j_iload C dL_law_940 0 rfl 942 rfl ?_
            refine j_i2l C dL_law_942 943 rfl ?_
            refine j_lcmp C dL_law_943 944 rfl ?_
            refine j_if_eq C dL_law_944 949 (by decide) 947 rfl (fun c => ?_) (fun c => ?_)
            · have h := it_t c h
              refine j_goto C dL_law_949 1380 (by decide) ?_
              refine j_iinc C dL_law_1380 6 rfl (v4 + (3 : Int32)) rfl (by decide) [(4, .int (v4 + (3 : Int32))), (6, .int q91.2), (5, .int q89.2), (0, .ref b), (1, .ref (gA G 81)), (2, .ref (gA G 82)), (3, .ref (gA G 91))] rfl 1383 rfl ?_
              refine j_goto C dL_law_1383 23 (by decide) ?_
              refine j_sub [(0, .ref b), (1, .ref (gA G 81)), (2, .ref (gA G 82)), (3, .ref (gA G 91)), (4, .int (v4 + (3 : Int32)))] [3, 4, 5, 6, 0] rfl ?_
              exact ih _ _ (by omega) (by omega) _ _ h
            · have h := it_f c h
              refine j_iconst C dL_law_947 (0 : Int32) (by decide) 948 rfl ?_
              exact absurd hout (l0_out h)
        · have h := it_f c h
          refine j_iconst C dL_law_930 (0 : Int32) (by decide) 931 rfl ?_
          exact absurd hout (l0_out h)
      have h := it_f c16 h
      by_cases c17 : ((xs v4.toNatClampNeg) &&& (31 : Int32)) = (17 : Int32)
      · have h := it_t c17 h
        refine j_tableIn C dL_law_39 (by rw [c17]; decide) (by rw [c17]; decide) (off := 913) (by rw [c17]; rfl) 952 (by decide) ?_
        refine j_aload_n C dL_law_952 rfl 1 rfl 953 rfl ?_
        refine j_aload_n C dL_law_953 rfl 0 rfl 954 rfl ?_
        refine j_iload C dL_law_954 4 rfl 956 rfl ?_
        refine j_iconst C dL_law_956 (1 : Int32) (by decide) 957 rfl ?_
        refine j_iadd C dL_law_957 958 rfl ?_
        obtain ⟨hc, h⟩ := if_some h
        refine j_sld C hsc hc dL_law_958 959 rfl ?_
        refine j_aload_n C dL_law_959 rfl 3 rfl 960 rfl ?_
        obtain ⟨q95, e96, h⟩ := ob_some h
        refine j_callSW C hNc (cw_L_setting (eL E) hst G e96) kw4_152 kw4_151 kw1_0 wd_L_setting kw4_150 rfl ⟨Nat.le_of_ble_eq_true rfl, Nat.le_of_ble_eq_true rfl, rfl, rfl⟩ ⟨by show k + 1 ≤ 601024; omega, by show n + 6 ≤ 7293034; omega⟩ (rest := []) rfl (Nat.le_of_ble_eq_true rfl) dL_law_960 (st1 := [.int q95.2]) rfl 963 rfl ?_
        refine j_istore C dL_law_963 (by decide) [(5, .int q95.2), (0, .ref b), (1, .ref (gA G 81)), (2, .ref (gA G 82)), (3, .ref (gA G 91)), (4, .int v4)] rfl 965 rfl ?_
        refine j_aload_n C dL_law_965 rfl 3 rfl 966 rfl ?_
        refine j_aload_n C dL_law_966 rfl 1 rfl 967 rfl ?_
        refine j_iload C dL_law_967 5 rfl 969 rfl ?_
        refine j_iconst C dL_law_969 (1 : Int32) (by decide) 970 rfl ?_
        refine j_iadd C dL_law_970 971 rfl ?_
        obtain ⟨hc, h⟩ := if_some h
        refine j_sld C hsc hc dL_law_971 972 rfl ?_
        obtain ⟨q97, e98, h⟩ := ob_some h
        refine j_callV C (ct_X7_setting (eL E) G  e98) sh82 foX7 rfl vk_X7_setting kw5_171 rfl ⟨Nat.le_of_ble_eq_true rfl, Nat.le_of_ble_eq_true rfl, rfl, rfl⟩ ⟨by first | (show k ≤ 601024; omega) | (show k + 1 ≤ 601024; omega), by first | (show n ≤ 7293034; omega) | (show n + 6 ≤ 7293034; omega)⟩ (rest := []) rfl (Nat.le_of_ble_eq_true rfl) dL_law_972 (st1 := [.int q97.2]) rfl 975 rfl ?_
        refine j_istore C dL_law_975 (by decide) [(6, .int q97.2), (5, .int q95.2), (0, .ref b), (1, .ref (gA G 81)), (2, .ref (gA G 82)), (3, .ref (gA G 91)), (4, .int v4)] rfl 977 rfl ?_
        refine j_aload_n C dL_law_977 rfl 4 rfl 978 rfl ?_
        obtain ⟨q99, e100, h⟩ := ob_some h
        refine j_callV C (ct_X7_thrown (eL E) G  e100) sh82 foX7 rfl vk_X7_thrown kw4_234 rfl ⟨Nat.le_of_ble_eq_true rfl, Nat.le_of_ble_eq_true rfl, rfl, rfl⟩ ⟨by first | (show k ≤ 601024; omega) | (show k + 1 ≤ 601024; omega), by first | (show n ≤ 7293034; omega) | (show n + 6 ≤ 7293034; omega)⟩ (rest := []) rfl (Nat.le_of_ble_eq_true rfl) dL_law_978 (st1 := [.int q99.2]) rfl 981 rfl ?_
        refine j_iload C dL_law_981 1 rfl 983 rfl ?_
        refine j_icmp_eq C dL_law_983 988 (by decide) 986 rfl (fun c => ?_) (fun c => ?_)
        · have h := it_t c h
          refine j_iload C dL_law_988 1 rfl 990 rfl ?_
          refine j_if_ne C dL_law_990 1005 (by decide) 993 rfl (fun c => ?_) (fun c => ?_)
          · have h := it_f c h
            refine j_goto C dL_law_1005 1380 (by decide) ?_
            refine j_iinc C dL_law_1380 6 rfl (v4 + (3 : Int32)) rfl (by decide) [(4, .int (v4 + (3 : Int32))), (6, .int q97.2), (5, .int q95.2), (0, .ref b), (1, .ref (gA G 81)), (2, .ref (gA G 82)), (3, .ref (gA G 91))] rfl 1383 rfl ?_
            refine j_goto C dL_law_1383 23 (by decide) ?_
            refine j_sub [(0, .ref b), (1, .ref (gA G 81)), (2, .ref (gA G 82)), (3, .ref (gA G 91)), (4, .int (v4 + (3 : Int32)))] [3, 4, 5, 6, 0] rfl ?_
            exact ih _ _ (by omega) (by omega) _ _ h
          · have h := it_t c h
            refine j_aload_n C dL_law_993 rfl 5 rfl 994 rfl ?_
            refine j_iconst C dL_law_994 (0 : Int32) (by decide) 995 rfl ?_
            refine j_lald C sh91 (by decide) dL_law_995 0 rfl 996 rfl ?_
            refine j_iload C dL_law_996 0 rfl 998 rfl ?_
            refine j_i2l C dL_law_998 999 rfl ?_
            refine j_lcmp C dL_law_999 1000 rfl ?_
            refine j_if_eq C dL_law_1000 1005 (by decide) 1003 rfl (fun c => ?_) (fun c => ?_)
            · have h := it_t c h
              refine j_goto C dL_law_1005 1380 (by decide) ?_
              refine j_iinc C dL_law_1380 6 rfl (v4 + (3 : Int32)) rfl (by decide) [(4, .int (v4 + (3 : Int32))), (6, .int q97.2), (5, .int q95.2), (0, .ref b), (1, .ref (gA G 81)), (2, .ref (gA G 82)), (3, .ref (gA G 91))] rfl 1383 rfl ?_
              refine j_goto C dL_law_1383 23 (by decide) ?_
              refine j_sub [(0, .ref b), (1, .ref (gA G 81)), (2, .ref (gA G 82)), (3, .ref (gA G 91)), (4, .int (v4 + (3 : Int32)))] [3, 4, 5, 6, 0] rfl ?_
              exact ih _ _ (by omega) (by omega) _ _ h
            · have h := it_f c h
              refine j_iconst C dL_law_1003 (0 : Int32) (by decide) 1004 rfl ?_
              exact absurd hout (l0_out h)
        · have h := it_f c h
          refine j_iconst C dL_law_986 (0 : Int32) (by decide) 987 rfl ?_
          exact absurd hout (l0_out h)
      have h := it_f c17 h
      by_cases c18 : ((xs v4.toNatClampNeg) &&& (31 : Int32)) = (18 : Int32)
      · have h := it_t c18 h
        refine j_tableIn C dL_law_39 (by rw [c18]; decide) (by rw [c18]; decide) (off := 969) (by rw [c18]; rfl) 1008 (by decide) ?_
        refine j_aload_n C dL_law_1008 rfl 1 rfl 1009 rfl ?_
        refine j_aload_n C dL_law_1009 rfl 0 rfl 1010 rfl ?_
        refine j_iload C dL_law_1010 4 rfl 1012 rfl ?_
        refine j_iconst C dL_law_1012 (1 : Int32) (by decide) 1013 rfl ?_
        refine j_iadd C dL_law_1013 1014 rfl ?_
        obtain ⟨hc, h⟩ := if_some h
        refine j_sld C hsc hc dL_law_1014 1015 rfl ?_
        refine j_aload_n C dL_law_1015 rfl 0 rfl 1016 rfl ?_
        refine j_iload C dL_law_1016 4 rfl 1018 rfl ?_
        refine j_iconst C dL_law_1018 (2 : Int32) (by decide) 1019 rfl ?_
        refine j_iadd C dL_law_1019 1020 rfl ?_
        obtain ⟨hc, h⟩ := if_some h
        refine j_sld C hsc hc dL_law_1020 1021 rfl ?_
        refine j_aload_n C dL_law_1021 rfl 3 rfl 1022 rfl ?_
        obtain ⟨q101, e102, h⟩ := ob_some h
        refine j_callSW C hNc (cw_L_ifStruck (eL E) hst G e102) kw4_159 kw4_158 kw1_0 wd_L_ifStruck kw4_157 rfl ⟨Nat.le_of_ble_eq_true rfl, Nat.le_of_ble_eq_true rfl, rfl, rfl⟩ ⟨by show k + 1 ≤ 601024; omega, by show n + 6 ≤ 7293034; omega⟩ (rest := []) rfl (Nat.le_of_ble_eq_true rfl) dL_law_1022 (st1 := [.int q101.2]) rfl 1025 rfl ?_
        refine j_istore C dL_law_1025 (by decide) [(5, .int q101.2), (0, .ref b), (1, .ref (gA G 81)), (2, .ref (gA G 82)), (3, .ref (gA G 91)), (4, .int v4)] rfl 1027 rfl ?_
        refine j_aload_n C dL_law_1027 rfl 3 rfl 1028 rfl ?_
        refine j_aload_n C dL_law_1028 rfl 1 rfl 1029 rfl ?_
        refine j_iload C dL_law_1029 5 rfl 1031 rfl ?_
        refine j_iconst C dL_law_1031 (1 : Int32) (by decide) 1032 rfl ?_
        refine j_iadd C dL_law_1032 1033 rfl ?_
        obtain ⟨hc, h⟩ := if_some h
        refine j_sld C hsc hc dL_law_1033 1034 rfl ?_
        refine j_aload_n C dL_law_1034 rfl 1 rfl 1035 rfl ?_
        refine j_iload C dL_law_1035 5 rfl 1037 rfl ?_
        refine j_iconst C dL_law_1037 (2 : Int32) (by decide) 1038 rfl ?_
        refine j_iadd C dL_law_1038 1039 rfl ?_
        obtain ⟨hc, h⟩ := if_some h
        refine j_sld C hsc hc dL_law_1039 1040 rfl ?_
        obtain ⟨q103, e104, h⟩ := ob_some h
        refine j_callV C (ct_X7_ifStruck (eL E) G  e104) sh82 foX7 rfl vk_X7_ifStruck kw5_175 rfl ⟨Nat.le_of_ble_eq_true rfl, Nat.le_of_ble_eq_true rfl, rfl, rfl⟩ ⟨by first | (show k ≤ 601024; omega) | (show k + 1 ≤ 601024; omega), by first | (show n ≤ 7293034; omega) | (show n + 6 ≤ 7293034; omega)⟩ (rest := []) rfl (Nat.le_of_ble_eq_true rfl) dL_law_1040 (st1 := [.int q103.2]) rfl 1043 rfl ?_
        refine j_istore C dL_law_1043 (by decide) [(6, .int q103.2), (5, .int q101.2), (0, .ref b), (1, .ref (gA G 81)), (2, .ref (gA G 82)), (3, .ref (gA G 91)), (4, .int v4)] rfl 1045 rfl ?_
        refine j_aload_n C dL_law_1045 rfl 4 rfl 1046 rfl ?_
        obtain ⟨q105, e106, h⟩ := ob_some h
        refine j_callV C (ct_X7_thrown (eL E) G  e106) sh82 foX7 rfl vk_X7_thrown kw4_234 rfl ⟨Nat.le_of_ble_eq_true rfl, Nat.le_of_ble_eq_true rfl, rfl, rfl⟩ ⟨by first | (show k ≤ 601024; omega) | (show k + 1 ≤ 601024; omega), by first | (show n ≤ 7293034; omega) | (show n + 6 ≤ 7293034; omega)⟩ (rest := []) rfl (Nat.le_of_ble_eq_true rfl) dL_law_1046 (st1 := [.int q105.2]) rfl 1049 rfl ?_
        refine j_iload C dL_law_1049 1 rfl 1051 rfl ?_
        refine j_icmp_eq C dL_law_1051 1056 (by decide) 1054 rfl (fun c => ?_) (fun c => ?_)
        · have h := it_t c h
          refine j_iload C dL_law_1056 1 rfl 1058 rfl ?_
          refine j_if_ne C dL_law_1058 1073 (by decide) 1061 rfl (fun c => ?_) (fun c => ?_)
          · have h := it_f c h
            refine j_goto C dL_law_1073 1380 (by decide) ?_
            refine j_iinc C dL_law_1380 6 rfl (v4 + (3 : Int32)) rfl (by decide) [(4, .int (v4 + (3 : Int32))), (6, .int q103.2), (5, .int q101.2), (0, .ref b), (1, .ref (gA G 81)), (2, .ref (gA G 82)), (3, .ref (gA G 91))] rfl 1383 rfl ?_
            refine j_goto C dL_law_1383 23 (by decide) ?_
            refine j_sub [(0, .ref b), (1, .ref (gA G 81)), (2, .ref (gA G 82)), (3, .ref (gA G 91)), (4, .int (v4 + (3 : Int32)))] [3, 4, 5, 6, 0] rfl ?_
            exact ih _ _ (by omega) (by omega) _ _ h
          · have h := it_t c h
            refine j_aload_n C dL_law_1061 rfl 5 rfl 1062 rfl ?_
            refine j_iconst C dL_law_1062 (0 : Int32) (by decide) 1063 rfl ?_
            refine j_lald C sh91 (by decide) dL_law_1063 0 rfl 1064 rfl ?_
            refine j_iload C dL_law_1064 0 rfl 1066 rfl ?_
            refine j_i2l C dL_law_1066 1067 rfl ?_
            refine j_lcmp C dL_law_1067 1068 rfl ?_
            refine j_if_eq C dL_law_1068 1073 (by decide) 1071 rfl (fun c => ?_) (fun c => ?_)
            · have h := it_t c h
              refine j_goto C dL_law_1073 1380 (by decide) ?_
              refine j_iinc C dL_law_1380 6 rfl (v4 + (3 : Int32)) rfl (by decide) [(4, .int (v4 + (3 : Int32))), (6, .int q103.2), (5, .int q101.2), (0, .ref b), (1, .ref (gA G 81)), (2, .ref (gA G 82)), (3, .ref (gA G 91))] rfl 1383 rfl ?_
              refine j_goto C dL_law_1383 23 (by decide) ?_
              refine j_sub [(0, .ref b), (1, .ref (gA G 81)), (2, .ref (gA G 82)), (3, .ref (gA G 91)), (4, .int (v4 + (3 : Int32)))] [3, 4, 5, 6, 0] rfl ?_
              exact ih _ _ (by omega) (by omega) _ _ h
            · have h := it_f c h
              refine j_iconst C dL_law_1071 (0 : Int32) (by decide) 1072 rfl ?_
              exact absurd hout (l0_out h)
        · have h := it_f c h
          refine j_iconst C dL_law_1054 (0 : Int32) (by decide) 1055 rfl ?_
          exact absurd hout (l0_out h)
      have h := it_f c18 h
      by_cases c19 : ((xs v4.toNatClampNeg) &&& (31 : Int32)) = (19 : Int32)
      · have h := it_t c19 h
        refine j_tableIn C dL_law_39 (by rw [c19]; decide) (by rw [c19]; decide) (off := 1037) (by rw [c19]; rfl) 1076 (by decide) ?_
        refine j_aload_n C dL_law_1076 rfl 1 rfl 1077 rfl ?_
        refine j_aload_n C dL_law_1077 rfl 0 rfl 1078 rfl ?_
        refine j_iload C dL_law_1078 4 rfl 1080 rfl ?_
        refine j_iconst C dL_law_1080 (1 : Int32) (by decide) 1081 rfl ?_
        refine j_iadd C dL_law_1081 1082 rfl ?_
        obtain ⟨hc, h⟩ := if_some h
        refine j_sld C hsc hc dL_law_1082 1083 rfl ?_
        refine j_aload_n C dL_law_1083 rfl 3 rfl 1084 rfl ?_
        obtain ⟨q107, e108, h⟩ := ob_some h
        refine j_callSW C hNc (cw_L_begun (eL E) hst G e108) kw4_163 kw4_162 kw1_0 wd_L_begun kw4_161 rfl ⟨Nat.le_of_ble_eq_true rfl, Nat.le_of_ble_eq_true rfl, rfl, rfl⟩ ⟨by show k + 1 ≤ 601024; omega, by show n + 6 ≤ 7293034; omega⟩ (rest := []) rfl (Nat.le_of_ble_eq_true rfl) dL_law_1084 (st1 := [.int q107.2]) rfl 1087 rfl ?_
        refine j_istore C dL_law_1087 (by decide) [(5, .int q107.2), (0, .ref b), (1, .ref (gA G 81)), (2, .ref (gA G 82)), (3, .ref (gA G 91)), (4, .int v4)] rfl 1089 rfl ?_
        refine j_aload_n C dL_law_1089 rfl 3 rfl 1090 rfl ?_
        refine j_aload_n C dL_law_1090 rfl 1 rfl 1091 rfl ?_
        refine j_iload C dL_law_1091 5 rfl 1093 rfl ?_
        refine j_iconst C dL_law_1093 (1 : Int32) (by decide) 1094 rfl ?_
        refine j_iadd C dL_law_1094 1095 rfl ?_
        obtain ⟨hc, h⟩ := if_some h
        refine j_sld C hsc hc dL_law_1095 1096 rfl ?_
        obtain ⟨q109, e110, h⟩ := ob_some h
        refine j_callV C (ct_X7_begun (eL E) G  e110) sh82 foX7 rfl vk_X7_begun kw5_183 rfl ⟨Nat.le_of_ble_eq_true rfl, Nat.le_of_ble_eq_true rfl, rfl, rfl⟩ ⟨by first | (show k ≤ 601024; omega) | (show k + 1 ≤ 601024; omega), by first | (show n ≤ 7293034; omega) | (show n + 6 ≤ 7293034; omega)⟩ (rest := []) rfl (Nat.le_of_ble_eq_true rfl) dL_law_1096 (st1 := [.int q109.2]) rfl 1099 rfl ?_
        refine j_istore C dL_law_1099 (by decide) [(6, .int q109.2), (5, .int q107.2), (0, .ref b), (1, .ref (gA G 81)), (2, .ref (gA G 82)), (3, .ref (gA G 91)), (4, .int v4)] rfl 1101 rfl ?_
        refine j_aload_n C dL_law_1101 rfl 4 rfl 1102 rfl ?_
        obtain ⟨q111, e112, h⟩ := ob_some h
        refine j_callV C (ct_X7_thrown (eL E) G  e112) sh82 foX7 rfl vk_X7_thrown kw4_234 rfl ⟨Nat.le_of_ble_eq_true rfl, Nat.le_of_ble_eq_true rfl, rfl, rfl⟩ ⟨by first | (show k ≤ 601024; omega) | (show k + 1 ≤ 601024; omega), by first | (show n ≤ 7293034; omega) | (show n + 6 ≤ 7293034; omega)⟩ (rest := []) rfl (Nat.le_of_ble_eq_true rfl) dL_law_1102 (st1 := [.int q111.2]) rfl 1105 rfl ?_
        refine j_iload C dL_law_1105 1 rfl 1107 rfl ?_
        refine j_icmp_eq C dL_law_1107 1112 (by decide) 1110 rfl (fun c => ?_) (fun c => ?_)
        · have h := it_t c h
          refine j_iload C dL_law_1112 1 rfl 1114 rfl ?_
          refine j_if_ne C dL_law_1114 1129 (by decide) 1117 rfl (fun c => ?_) (fun c => ?_)
          · have h := it_f c h
            refine j_goto C dL_law_1129 1380 (by decide) ?_
            refine j_iinc C dL_law_1380 6 rfl (v4 + (3 : Int32)) rfl (by decide) [(4, .int (v4 + (3 : Int32))), (6, .int q109.2), (5, .int q107.2), (0, .ref b), (1, .ref (gA G 81)), (2, .ref (gA G 82)), (3, .ref (gA G 91))] rfl 1383 rfl ?_
            refine j_goto C dL_law_1383 23 (by decide) ?_
            refine j_sub [(0, .ref b), (1, .ref (gA G 81)), (2, .ref (gA G 82)), (3, .ref (gA G 91)), (4, .int (v4 + (3 : Int32)))] [3, 4, 5, 6, 0] rfl ?_
            exact ih _ _ (by omega) (by omega) _ _ h
          · have h := it_t c h
            refine j_aload_n C dL_law_1117 rfl 5 rfl 1118 rfl ?_
            refine j_iconst C dL_law_1118 (0 : Int32) (by decide) 1119 rfl ?_
            refine j_lald C sh91 (by decide) dL_law_1119 0 rfl 1120 rfl ?_
            refine j_iload C dL_law_1120 0 rfl 1122 rfl ?_
            refine j_i2l C dL_law_1122 1123 rfl ?_
            refine j_lcmp C dL_law_1123 1124 rfl ?_
            refine j_if_eq C dL_law_1124 1129 (by decide) 1127 rfl (fun c => ?_) (fun c => ?_)
            · have h := it_t c h
              refine j_goto C dL_law_1129 1380 (by decide) ?_
              refine j_iinc C dL_law_1380 6 rfl (v4 + (3 : Int32)) rfl (by decide) [(4, .int (v4 + (3 : Int32))), (6, .int q109.2), (5, .int q107.2), (0, .ref b), (1, .ref (gA G 81)), (2, .ref (gA G 82)), (3, .ref (gA G 91))] rfl 1383 rfl ?_
              refine j_goto C dL_law_1383 23 (by decide) ?_
              refine j_sub [(0, .ref b), (1, .ref (gA G 81)), (2, .ref (gA G 82)), (3, .ref (gA G 91)), (4, .int (v4 + (3 : Int32)))] [3, 4, 5, 6, 0] rfl ?_
              exact ih _ _ (by omega) (by omega) _ _ h
            · have h := it_f c h
              refine j_iconst C dL_law_1127 (0 : Int32) (by decide) 1128 rfl ?_
              exact absurd hout (l0_out h)
        · have h := it_f c h
          refine j_iconst C dL_law_1110 (0 : Int32) (by decide) 1111 rfl ?_
          exact absurd hout (l0_out h)
      have h := it_f c19 h
      by_cases c20 : ((xs v4.toNatClampNeg) &&& (31 : Int32)) = (20 : Int32)
      · have h := it_t c20 h
        refine j_tableIn C dL_law_39 (by rw [c20]; decide) (by rw [c20]; decide) (off := 1093) (by rw [c20]; rfl) 1132 (by decide) ?_
        refine j_aload_n C dL_law_1132 rfl 1 rfl 1133 rfl ?_
        refine j_aload_n C dL_law_1133 rfl 0 rfl 1134 rfl ?_
        refine j_iload C dL_law_1134 4 rfl 1136 rfl ?_
        refine j_iconst C dL_law_1136 (1 : Int32) (by decide) 1137 rfl ?_
        refine j_iadd C dL_law_1137 1138 rfl ?_
        obtain ⟨hc, h⟩ := if_some h
        refine j_sld C hsc hc dL_law_1138 1139 rfl ?_
        refine j_aload_n C dL_law_1139 rfl 3 rfl 1140 rfl ?_
        obtain ⟨q113, e114, h⟩ := ob_some h
        refine j_callSW C hNc (cw_L_shortest (eL E) hst G e114) kw4_167 kw4_166 kw1_0 wd_L_shortest kw4_165 rfl ⟨Nat.le_of_ble_eq_true rfl, Nat.le_of_ble_eq_true rfl, rfl, rfl⟩ ⟨by show k + 1 ≤ 601024; omega, by show n + 6 ≤ 7293034; omega⟩ (rest := []) rfl (Nat.le_of_ble_eq_true rfl) dL_law_1140 (st1 := [.int q113.2]) rfl 1143 rfl ?_
        refine j_istore C dL_law_1143 (by decide) [(5, .int q113.2), (0, .ref b), (1, .ref (gA G 81)), (2, .ref (gA G 82)), (3, .ref (gA G 91)), (4, .int v4)] rfl 1145 rfl ?_
        refine j_aload_n C dL_law_1145 rfl 3 rfl 1146 rfl ?_
        refine j_aload_n C dL_law_1146 rfl 1 rfl 1147 rfl ?_
        refine j_iload C dL_law_1147 5 rfl 1149 rfl ?_
        refine j_iconst C dL_law_1149 (1 : Int32) (by decide) 1150 rfl ?_
        refine j_iadd C dL_law_1150 1151 rfl ?_
        obtain ⟨hc, h⟩ := if_some h
        refine j_sld C hsc hc dL_law_1151 1152 rfl ?_
        obtain ⟨q115, e116, h⟩ := ob_some h
        refine j_callV C (ct_X7_shortest (eL E) G  e116) sh82 foX7 rfl vk_X7_shortest kw5_191 rfl ⟨Nat.le_of_ble_eq_true rfl, Nat.le_of_ble_eq_true rfl, rfl, rfl⟩ ⟨by first | (show k ≤ 601024; omega) | (show k + 1 ≤ 601024; omega), by first | (show n ≤ 7293034; omega) | (show n + 6 ≤ 7293034; omega)⟩ (rest := []) rfl (Nat.le_of_ble_eq_true rfl) dL_law_1152 (st1 := [.int q115.2]) rfl 1155 rfl ?_
        refine j_istore C dL_law_1155 (by decide) [(6, .int q115.2), (5, .int q113.2), (0, .ref b), (1, .ref (gA G 81)), (2, .ref (gA G 82)), (3, .ref (gA G 91)), (4, .int v4)] rfl 1157 rfl ?_
        refine j_aload_n C dL_law_1157 rfl 4 rfl 1158 rfl ?_
        obtain ⟨q117, e118, h⟩ := ob_some h
        refine j_callV C (ct_X7_thrown (eL E) G  e118) sh82 foX7 rfl vk_X7_thrown kw4_234 rfl ⟨Nat.le_of_ble_eq_true rfl, Nat.le_of_ble_eq_true rfl, rfl, rfl⟩ ⟨by first | (show k ≤ 601024; omega) | (show k + 1 ≤ 601024; omega), by first | (show n ≤ 7293034; omega) | (show n + 6 ≤ 7293034; omega)⟩ (rest := []) rfl (Nat.le_of_ble_eq_true rfl) dL_law_1158 (st1 := [.int q117.2]) rfl 1161 rfl ?_
        refine j_iload C dL_law_1161 1 rfl 1163 rfl ?_
        refine j_icmp_eq C dL_law_1163 1168 (by decide) 1166 rfl (fun c => ?_) (fun c => ?_)
        · have h := it_t c h
          refine j_iload C dL_law_1168 1 rfl 1170 rfl ?_
          refine j_if_ne C dL_law_1170 1185 (by decide) 1173 rfl (fun c => ?_) (fun c => ?_)
          · have h := it_f c h
            refine j_goto C dL_law_1185 1380 (by decide) ?_
            refine j_iinc C dL_law_1380 6 rfl (v4 + (3 : Int32)) rfl (by decide) [(4, .int (v4 + (3 : Int32))), (6, .int q115.2), (5, .int q113.2), (0, .ref b), (1, .ref (gA G 81)), (2, .ref (gA G 82)), (3, .ref (gA G 91))] rfl 1383 rfl ?_
            refine j_goto C dL_law_1383 23 (by decide) ?_
            refine j_sub [(0, .ref b), (1, .ref (gA G 81)), (2, .ref (gA G 82)), (3, .ref (gA G 91)), (4, .int (v4 + (3 : Int32)))] [3, 4, 5, 6, 0] rfl ?_
            exact ih _ _ (by omega) (by omega) _ _ h
          · have h := it_t c h
            refine j_aload_n C dL_law_1173 rfl 5 rfl 1174 rfl ?_
            refine j_iconst C dL_law_1174 (0 : Int32) (by decide) 1175 rfl ?_
            refine j_lald C sh91 (by decide) dL_law_1175 0 rfl 1176 rfl ?_
            refine j_iload C dL_law_1176 0 rfl 1178 rfl ?_
            refine j_i2l C dL_law_1178 1179 rfl ?_
            refine j_lcmp C dL_law_1179 1180 rfl ?_
            refine j_if_eq C dL_law_1180 1185 (by decide) 1183 rfl (fun c => ?_) (fun c => ?_)
            · have h := it_t c h
              refine j_goto C dL_law_1185 1380 (by decide) ?_
              refine j_iinc C dL_law_1380 6 rfl (v4 + (3 : Int32)) rfl (by decide) [(4, .int (v4 + (3 : Int32))), (6, .int q115.2), (5, .int q113.2), (0, .ref b), (1, .ref (gA G 81)), (2, .ref (gA G 82)), (3, .ref (gA G 91))] rfl 1383 rfl ?_
              refine j_goto C dL_law_1383 23 (by decide) ?_
              refine j_sub [(0, .ref b), (1, .ref (gA G 81)), (2, .ref (gA G 82)), (3, .ref (gA G 91)), (4, .int (v4 + (3 : Int32)))] [3, 4, 5, 6, 0] rfl ?_
              exact ih _ _ (by omega) (by omega) _ _ h
            · have h := it_f c h
              refine j_iconst C dL_law_1183 (0 : Int32) (by decide) 1184 rfl ?_
              exact absurd hout (l0_out h)
        · have h := it_f c h
          refine j_iconst C dL_law_1166 (0 : Int32) (by decide) 1167 rfl ?_
          exact absurd hout (l0_out h)
      have h := it_f c20 h
      by_cases c21 : ((xs v4.toNatClampNeg) &&& (31 : Int32)) = (21 : Int32)
      · have h := it_t c21 h
        refine j_tableIn C dL_law_39 (by rw [c21]; decide) (by rw [c21]; decide) (off := 1149) (by rw [c21]; rfl) 1188 (by decide) ?_
        refine j_aload_n C dL_law_1188 rfl 1 rfl 1189 rfl ?_
        refine j_aload_n C dL_law_1189 rfl 0 rfl 1190 rfl ?_
        refine j_iload C dL_law_1190 4 rfl 1192 rfl ?_
        refine j_iconst C dL_law_1192 (1 : Int32) (by decide) 1193 rfl ?_
        refine j_iadd C dL_law_1193 1194 rfl ?_
        obtain ⟨hc, h⟩ := if_some h
        refine j_sld C hsc hc dL_law_1194 1195 rfl ?_
        refine j_aload_n C dL_law_1195 rfl 0 rfl 1196 rfl ?_
        refine j_iload C dL_law_1196 4 rfl 1198 rfl ?_
        refine j_iconst C dL_law_1198 (2 : Int32) (by decide) 1199 rfl ?_
        refine j_iadd C dL_law_1199 1200 rfl ?_
        obtain ⟨hc, h⟩ := if_some h
        refine j_sld C hsc hc dL_law_1200 1201 rfl ?_
        refine j_aload_n C dL_law_1201 rfl 3 rfl 1202 rfl ?_
        obtain ⟨q119, e120, h⟩ := ob_some h
        refine j_callSW C hNc (cw_L_behind (eL E) hst G e120) kw4_171 kw4_170 kw1_0 wd_L_behind kw4_169 rfl ⟨Nat.le_of_ble_eq_true rfl, Nat.le_of_ble_eq_true rfl, rfl, rfl⟩ ⟨by show k + 1 ≤ 601024; omega, by show n + 6 ≤ 7293034; omega⟩ (rest := []) rfl (Nat.le_of_ble_eq_true rfl) dL_law_1202 (st1 := [.int q119.2]) rfl 1205 rfl ?_
        refine j_istore C dL_law_1205 (by decide) [(5, .int q119.2), (0, .ref b), (1, .ref (gA G 81)), (2, .ref (gA G 82)), (3, .ref (gA G 91)), (4, .int v4)] rfl 1207 rfl ?_
        refine j_aload_n C dL_law_1207 rfl 3 rfl 1208 rfl ?_
        refine j_aload_n C dL_law_1208 rfl 1 rfl 1209 rfl ?_
        refine j_iload C dL_law_1209 5 rfl 1211 rfl ?_
        refine j_iconst C dL_law_1211 (1 : Int32) (by decide) 1212 rfl ?_
        refine j_iadd C dL_law_1212 1213 rfl ?_
        obtain ⟨hc, h⟩ := if_some h
        refine j_sld C hsc hc dL_law_1213 1214 rfl ?_
        refine j_aload_n C dL_law_1214 rfl 1 rfl 1215 rfl ?_
        refine j_iload C dL_law_1215 5 rfl 1217 rfl ?_
        refine j_iconst C dL_law_1217 (2 : Int32) (by decide) 1218 rfl ?_
        refine j_iadd C dL_law_1218 1219 rfl ?_
        obtain ⟨hc, h⟩ := if_some h
        refine j_sld C hsc hc dL_law_1219 1220 rfl ?_
        obtain ⟨q121, e122, h⟩ := ob_some h
        refine j_callV C (ct_X7_behind (eL E) G  e122) sh82 foX7 rfl vk_X7_behind kw5_199 rfl ⟨Nat.le_of_ble_eq_true rfl, Nat.le_of_ble_eq_true rfl, rfl, rfl⟩ ⟨by first | (show k ≤ 601024; omega) | (show k + 1 ≤ 601024; omega), by first | (show n ≤ 7293034; omega) | (show n + 6 ≤ 7293034; omega)⟩ (rest := []) rfl (Nat.le_of_ble_eq_true rfl) dL_law_1220 (st1 := [.int q121.2]) rfl 1223 rfl ?_
        refine j_istore C dL_law_1223 (by decide) [(6, .int q121.2), (5, .int q119.2), (0, .ref b), (1, .ref (gA G 81)), (2, .ref (gA G 82)), (3, .ref (gA G 91)), (4, .int v4)] rfl 1225 rfl ?_
        refine j_aload_n C dL_law_1225 rfl 4 rfl 1226 rfl ?_
        obtain ⟨q123, e124, h⟩ := ob_some h
        refine j_callV C (ct_X7_thrown (eL E) G  e124) sh82 foX7 rfl vk_X7_thrown kw4_234 rfl ⟨Nat.le_of_ble_eq_true rfl, Nat.le_of_ble_eq_true rfl, rfl, rfl⟩ ⟨by first | (show k ≤ 601024; omega) | (show k + 1 ≤ 601024; omega), by first | (show n ≤ 7293034; omega) | (show n + 6 ≤ 7293034; omega)⟩ (rest := []) rfl (Nat.le_of_ble_eq_true rfl) dL_law_1226 (st1 := [.int q123.2]) rfl 1229 rfl ?_
        refine j_iload C dL_law_1229 1 rfl 1231 rfl ?_
        refine j_icmp_eq C dL_law_1231 1236 (by decide) 1234 rfl (fun c => ?_) (fun c => ?_)
        · have h := it_t c h
          refine j_iload C dL_law_1236 1 rfl 1238 rfl ?_
          refine j_if_ne C dL_law_1238 1253 (by decide) 1241 rfl (fun c => ?_) (fun c => ?_)
          · have h := it_f c h
            refine j_goto C dL_law_1253 1380 (by decide) ?_
            refine j_iinc C dL_law_1380 6 rfl (v4 + (3 : Int32)) rfl (by decide) [(4, .int (v4 + (3 : Int32))), (6, .int q121.2), (5, .int q119.2), (0, .ref b), (1, .ref (gA G 81)), (2, .ref (gA G 82)), (3, .ref (gA G 91))] rfl 1383 rfl ?_
            refine j_goto C dL_law_1383 23 (by decide) ?_
            refine j_sub [(0, .ref b), (1, .ref (gA G 81)), (2, .ref (gA G 82)), (3, .ref (gA G 91)), (4, .int (v4 + (3 : Int32)))] [3, 4, 5, 6, 0] rfl ?_
            exact ih _ _ (by omega) (by omega) _ _ h
          · have h := it_t c h
            refine j_aload_n C dL_law_1241 rfl 5 rfl 1242 rfl ?_
            refine j_iconst C dL_law_1242 (0 : Int32) (by decide) 1243 rfl ?_
            refine j_lald C sh91 (by decide) dL_law_1243 0 rfl 1244 rfl ?_
            refine j_iload C dL_law_1244 0 rfl 1246 rfl ?_
            refine j_i2l C dL_law_1246 1247 rfl ?_
            refine j_lcmp C dL_law_1247 1248 rfl ?_
            refine j_if_eq C dL_law_1248 1253 (by decide) 1251 rfl (fun c => ?_) (fun c => ?_)
            · have h := it_t c h
              refine j_goto C dL_law_1253 1380 (by decide) ?_
              refine j_iinc C dL_law_1380 6 rfl (v4 + (3 : Int32)) rfl (by decide) [(4, .int (v4 + (3 : Int32))), (6, .int q121.2), (5, .int q119.2), (0, .ref b), (1, .ref (gA G 81)), (2, .ref (gA G 82)), (3, .ref (gA G 91))] rfl 1383 rfl ?_
              refine j_goto C dL_law_1383 23 (by decide) ?_
              refine j_sub [(0, .ref b), (1, .ref (gA G 81)), (2, .ref (gA G 82)), (3, .ref (gA G 91)), (4, .int (v4 + (3 : Int32)))] [3, 4, 5, 6, 0] rfl ?_
              exact ih _ _ (by omega) (by omega) _ _ h
            · have h := it_f c h
              refine j_iconst C dL_law_1251 (0 : Int32) (by decide) 1252 rfl ?_
              exact absurd hout (l0_out h)
        · have h := it_f c h
          refine j_iconst C dL_law_1234 (0 : Int32) (by decide) 1235 rfl ?_
          exact absurd hout (l0_out h)
      have h := it_f c21 h
      by_cases c22 : ((xs v4.toNatClampNeg) &&& (31 : Int32)) = (22 : Int32)
      · have h := it_t c22 h
        refine j_tableIn C dL_law_39 (by rw [c22]; decide) (by rw [c22]; decide) (off := 1217) (by rw [c22]; rfl) 1256 (by decide) ?_
        refine j_aload_n C dL_law_1256 rfl 1 rfl 1257 rfl ?_
        obtain ⟨q125, e126, h⟩ := ob_some h
        refine j_callV C (ct_X6_clashes (eL E) G  e126) sh81 foX6 rfl vk_X6_clashes kw2_135 rfl ⟨Nat.le_of_ble_eq_true rfl, Nat.le_of_ble_eq_true rfl, rfl, rfl⟩ ⟨by first | (show k ≤ 601024; omega) | (show k + 1 ≤ 601024; omega), by first | (show n ≤ 7293034; omega) | (show n + 6 ≤ 7293034; omega)⟩ (rest := []) rfl (Nat.le_of_ble_eq_true rfl) dL_law_1257 (st1 := [.int q125.2]) rfl 1260 rfl ?_
        refine j_aload_n C dL_law_1260 rfl 2 rfl 1261 rfl ?_
        obtain ⟨q127, e128, h⟩ := ob_some h
        refine j_callV C (ct_X7_clashes (eL E) G  e128) sh82 foX7 rfl vk_X7_clashes kw5_207 rfl ⟨Nat.le_of_ble_eq_true rfl, Nat.le_of_ble_eq_true rfl, rfl, rfl⟩ ⟨by first | (show k ≤ 601024; omega) | (show k + 1 ≤ 601024; omega), by first | (show n ≤ 7293034; omega) | (show n + 6 ≤ 7293034; omega)⟩ (rest := [.int q125.2]) rfl (Nat.le_of_ble_eq_true rfl) dL_law_1261 (st1 := [.int q127.2, .int q125.2]) rfl 1264 rfl ?_
        refine j_icmp_eq C dL_law_1264 1380 (by decide) 1267 rfl (fun c => ?_) (fun c => ?_)
        · have h := it_t c h
          refine j_iinc C dL_law_1380 4 rfl (v4 + (3 : Int32)) rfl (by decide) [(4, .int (v4 + (3 : Int32))), (0, .ref b), (1, .ref (gA G 81)), (2, .ref (gA G 82)), (3, .ref (gA G 91))] rfl 1383 rfl ?_
          refine j_goto C dL_law_1383 23 (by decide) ?_
          refine j_sub [(0, .ref b), (1, .ref (gA G 81)), (2, .ref (gA G 82)), (3, .ref (gA G 91)), (4, .int (v4 + (3 : Int32)))] [1, 2, 3, 4, 0] rfl ?_
          exact ih _ _ (by omega) (by omega) _ _ h
        · have h := it_f c h
          refine j_iconst C dL_law_1267 (0 : Int32) (by decide) 1268 rfl ?_
          exact absurd hout (l0_out h)
      have h := it_f c22 h
      by_cases c23 : ((xs v4.toNatClampNeg) &&& (31 : Int32)) = (23 : Int32)
      · have h := it_t c23 h
        refine j_tableIn C dL_law_39 (by rw [c23]; decide) (by rw [c23]; decide) (off := 1230) (by rw [c23]; rfl) 1269 (by decide) ?_
        refine j_aload_n C dL_law_1269 rfl 1 rfl 1270 rfl ?_
        obtain ⟨q129, e130, h⟩ := ob_some h
        refine j_callV C (ct_X6_least (eL E) G  e130) sh81 foX6 rfl vk_X6_least kw2_173 rfl ⟨Nat.le_of_ble_eq_true rfl, Nat.le_of_ble_eq_true rfl, rfl, rfl⟩ ⟨by first | (show k ≤ 601024; omega) | (show k + 1 ≤ 601024; omega), by first | (show n ≤ 7293034; omega) | (show n + 6 ≤ 7293034; omega)⟩ (rest := []) rfl (Nat.le_of_ble_eq_true rfl) dL_law_1270 (st1 := [.int q129.2]) rfl 1273 rfl ?_
        refine j_aload_n C dL_law_1273 rfl 2 rfl 1274 rfl ?_
        obtain ⟨q131, e132, h⟩ := ob_some h
        refine j_callV C (ct_X7_least (eL E) G  e132) sh82 foX7 rfl vk_X7_least kw5_215 rfl ⟨Nat.le_of_ble_eq_true rfl, Nat.le_of_ble_eq_true rfl, rfl, rfl⟩ ⟨by first | (show k ≤ 601024; omega) | (show k + 1 ≤ 601024; omega), by first | (show n ≤ 7293034; omega) | (show n + 6 ≤ 7293034; omega)⟩ (rest := [.int q129.2]) rfl (Nat.le_of_ble_eq_true rfl) dL_law_1274 (st1 := [.int q131.2, .int q129.2]) rfl 1277 rfl ?_
        refine j_icmp_eq C dL_law_1277 1380 (by decide) 1280 rfl (fun c => ?_) (fun c => ?_)
        · have h := it_t c h
          refine j_iinc C dL_law_1380 4 rfl (v4 + (3 : Int32)) rfl (by decide) [(4, .int (v4 + (3 : Int32))), (0, .ref b), (1, .ref (gA G 81)), (2, .ref (gA G 82)), (3, .ref (gA G 91))] rfl 1383 rfl ?_
          refine j_goto C dL_law_1383 23 (by decide) ?_
          refine j_sub [(0, .ref b), (1, .ref (gA G 81)), (2, .ref (gA G 82)), (3, .ref (gA G 91)), (4, .int (v4 + (3 : Int32)))] [1, 2, 3, 4, 0] rfl ?_
          exact ih _ _ (by omega) (by omega) _ _ h
        · have h := it_f c h
          refine j_iconst C dL_law_1280 (0 : Int32) (by decide) 1281 rfl ?_
          exact absurd hout (l0_out h)
      have h := it_f c23 h
      by_cases c24 : ((xs v4.toNatClampNeg) &&& (31 : Int32)) = (24 : Int32)
      · have h := it_t c24 h
        refine j_tableIn C dL_law_39 (by rw [c24]; decide) (by rw [c24]; decide) (off := 1243) (by rw [c24]; rfl) 1282 (by decide) ?_
        refine j_aload_n C dL_law_1282 rfl 1 rfl 1283 rfl ?_
        obtain ⟨q133, e134, h⟩ := ob_some h
        refine j_callV C (ct_X6_readShare (eL E) G  e134) sh81 foX6 rfl vk_X6_readShare kw2_185 rfl ⟨Nat.le_of_ble_eq_true rfl, Nat.le_of_ble_eq_true rfl, rfl, rfl⟩ ⟨by first | (show k ≤ 601024; omega) | (show k + 1 ≤ 601024; omega), by first | (show n ≤ 7293034; omega) | (show n + 6 ≤ 7293034; omega)⟩ (rest := []) rfl (Nat.le_of_ble_eq_true rfl) dL_law_1283 (st1 := [.double q133.2]) rfl 1286 rfl ?_
        refine j_dstore C dL_law_1286 (by decide) [(5, .double q133.2), (0, .ref b), (1, .ref (gA G 81)), (2, .ref (gA G 82)), (3, .ref (gA G 91)), (4, .int v4)] rfl 1288 rfl ?_
        refine j_aload_n C dL_law_1288 rfl 3 rfl 1289 rfl ?_
        obtain ⟨q135, e136, h⟩ := ob_some h
        refine j_callV C (ct_X7_readShare (eL E) G  e136) sh82 foX7 rfl vk_X7_readShare kw5_223 rfl ⟨Nat.le_of_ble_eq_true rfl, Nat.le_of_ble_eq_true rfl, rfl, rfl⟩ ⟨by first | (show k ≤ 601024; omega) | (show k + 1 ≤ 601024; omega), by first | (show n ≤ 7293034; omega) | (show n + 6 ≤ 7293034; omega)⟩ (rest := []) rfl (Nat.le_of_ble_eq_true rfl) dL_law_1289 (st1 := [.double q135.2]) rfl 1292 rfl ?_
        refine j_dstore C dL_law_1292 (by decide) [(7, .double q135.2), (5, .double q133.2), (0, .ref b), (1, .ref (gA G 81)), (2, .ref (gA G 82)), (3, .ref (gA G 91)), (4, .int v4)] rfl 1294 rfl ?_
        refine j_dload C dL_law_1294 1 rfl 1296 rfl ?_
        refine j_dload C dL_law_1296 0 rfl 1298 rfl ?_
        refine j_dcmp C dL_law_1298 1299 rfl ?_
        refine j_if_eq C dL_law_1299 1320 (by decide) 1302 rfl (fun c => ?_) (fun c => ?_)
        · have h := it_t c h
          refine j_goto C dL_law_1320 1380 (by decide) ?_
          refine j_iinc C dL_law_1380 6 rfl (v4 + (3 : Int32)) rfl (by decide) [(4, .int (v4 + (3 : Int32))), (7, .double q135.2), (5, .double q133.2), (0, .ref b), (1, .ref (gA G 81)), (2, .ref (gA G 82)), (3, .ref (gA G 91))] rfl 1383 rfl ?_
          refine j_goto C dL_law_1383 23 (by decide) ?_
          refine j_sub [(0, .ref b), (1, .ref (gA G 81)), (2, .ref (gA G 82)), (3, .ref (gA G 91)), (4, .int (v4 + (3 : Int32)))] [3, 4, 5, 6, 0] rfl ?_
          exact ih _ _ (by omega) (by omega) _ _ h
        · have h := it_f c h
          refine j_dload C dL_law_1302 1 rfl 1304 rfl ?_
          refine j_dload C dL_law_1304 1 rfl 1306 rfl ?_
          refine j_dcmp C dL_law_1306 1307 rfl ?_
          refine j_if_eq C dL_law_1307 1318 (by decide) 1310 rfl (fun c => ?_) (fun c => ?_)
          · have h := it_t c h
            refine j_iconst C dL_law_1318 (0 : Int32) (by decide) 1319 rfl ?_
            exact absurd hout (l0_out h)
          · have h := it_f c h
            refine j_dload C dL_law_1310 0 rfl 1312 rfl ?_
            refine j_dload C dL_law_1312 0 rfl 1314 rfl ?_
            refine j_dcmp C dL_law_1314 1315 rfl ?_
            refine j_if_ne C dL_law_1315 1320 (by decide) 1318 rfl (fun c => ?_) (fun c => ?_)
            · have h := it_f c h
              refine j_goto C dL_law_1320 1380 (by decide) ?_
              refine j_iinc C dL_law_1380 6 rfl (v4 + (3 : Int32)) rfl (by decide) [(4, .int (v4 + (3 : Int32))), (7, .double q135.2), (5, .double q133.2), (0, .ref b), (1, .ref (gA G 81)), (2, .ref (gA G 82)), (3, .ref (gA G 91))] rfl 1383 rfl ?_
              refine j_goto C dL_law_1383 23 (by decide) ?_
              refine j_sub [(0, .ref b), (1, .ref (gA G 81)), (2, .ref (gA G 82)), (3, .ref (gA G 91)), (4, .int (v4 + (3 : Int32)))] [3, 4, 5, 6, 0] rfl ?_
              exact ih _ _ (by omega) (by omega) _ _ h
            · have h := it_t c h
              refine j_iconst C dL_law_1318 (0 : Int32) (by decide) 1319 rfl ?_
              exact absurd hout (l0_out h)
      have h := it_f c24 h
      by_cases c25 : ((xs v4.toNatClampNeg) &&& (31 : Int32)) = (25 : Int32)
      · have h := it_t c25 h
        refine j_tableIn C dL_law_39 (by rw [c25]; decide) (by rw [c25]; decide) (off := 1284) (by rw [c25]; rfl) 1323 (by decide) ?_
        refine j_aload_n C dL_law_1323 rfl 1 rfl 1324 rfl ?_
        obtain ⟨q137, e138, h⟩ := ob_some h
        refine j_callV C (ct_X6_meanKeys (eL E) G  e138) sh81 foX6 rfl vk_X6_meanKeys kw2_221 rfl ⟨Nat.le_of_ble_eq_true rfl, Nat.le_of_ble_eq_true rfl, rfl, rfl⟩ ⟨by first | (show k ≤ 601024; omega) | (show k + 1 ≤ 601024; omega), by first | (show n ≤ 7293034; omega) | (show n + 6 ≤ 7293034; omega)⟩ (rest := []) rfl (Nat.le_of_ble_eq_true rfl) dL_law_1324 (st1 := [.float q137.2]) rfl 1327 rfl ?_
        obtain ⟨hc, h⟩ := if_some h
        refine j_f2d C dL_law_1327 hc 1328 rfl ?_
        refine j_dstore C dL_law_1328 (by decide) [(5, .double (FP.f2d q137.2)), (0, .ref b), (1, .ref (gA G 81)), (2, .ref (gA G 82)), (3, .ref (gA G 91)), (4, .int v4)] rfl 1330 rfl ?_
        refine j_aload_n C dL_law_1330 rfl 3 rfl 1331 rfl ?_
        obtain ⟨q139, e140, h⟩ := ob_some h
        refine j_callV C (ct_X7_meanKeys (eL E) G  e140) sh82 foX7 rfl vk_X7_meanKeys kw5_231 rfl ⟨Nat.le_of_ble_eq_true rfl, Nat.le_of_ble_eq_true rfl, rfl, rfl⟩ ⟨by first | (show k ≤ 601024; omega) | (show k + 1 ≤ 601024; omega), by first | (show n ≤ 7293034; omega) | (show n + 6 ≤ 7293034; omega)⟩ (rest := []) rfl (Nat.le_of_ble_eq_true rfl) dL_law_1331 (st1 := [.float q139.2]) rfl 1334 rfl ?_
        obtain ⟨hc, h⟩ := if_some h
        refine j_f2d C dL_law_1334 hc 1335 rfl ?_
        refine j_dstore C dL_law_1335 (by decide) [(7, .double (FP.f2d q139.2)), (5, .double (FP.f2d q137.2)), (0, .ref b), (1, .ref (gA G 81)), (2, .ref (gA G 82)), (3, .ref (gA G 91)), (4, .int v4)] rfl 1337 rfl ?_
        refine j_dload C dL_law_1337 1 rfl 1339 rfl ?_
        refine j_dload C dL_law_1339 0 rfl 1341 rfl ?_
        refine j_dcmp C dL_law_1341 1342 rfl ?_
        refine j_if_eq C dL_law_1342 1363 (by decide) 1345 rfl (fun c => ?_) (fun c => ?_)
        · have h := it_t c h
          refine j_goto C dL_law_1363 1380 (by decide) ?_
          refine j_iinc C dL_law_1380 6 rfl (v4 + (3 : Int32)) rfl (by decide) [(4, .int (v4 + (3 : Int32))), (7, .double (FP.f2d q139.2)), (5, .double (FP.f2d q137.2)), (0, .ref b), (1, .ref (gA G 81)), (2, .ref (gA G 82)), (3, .ref (gA G 91))] rfl 1383 rfl ?_
          refine j_goto C dL_law_1383 23 (by decide) ?_
          refine j_sub [(0, .ref b), (1, .ref (gA G 81)), (2, .ref (gA G 82)), (3, .ref (gA G 91)), (4, .int (v4 + (3 : Int32)))] [3, 4, 5, 6, 0] rfl ?_
          exact ih _ _ (by omega) (by omega) _ _ h
        · have h := it_f c h
          refine j_dload C dL_law_1345 1 rfl 1347 rfl ?_
          refine j_dload C dL_law_1347 1 rfl 1349 rfl ?_
          refine j_dcmp C dL_law_1349 1350 rfl ?_
          refine j_if_eq C dL_law_1350 1361 (by decide) 1353 rfl (fun c => ?_) (fun c => ?_)
          · have h := it_t c h
            refine j_iconst C dL_law_1361 (0 : Int32) (by decide) 1362 rfl ?_
            exact absurd hout (l0_out h)
          · have h := it_f c h
            refine j_dload C dL_law_1353 0 rfl 1355 rfl ?_
            refine j_dload C dL_law_1355 0 rfl 1357 rfl ?_
            refine j_dcmp C dL_law_1357 1358 rfl ?_
            refine j_if_ne C dL_law_1358 1363 (by decide) 1361 rfl (fun c => ?_) (fun c => ?_)
            · have h := it_f c h
              refine j_goto C dL_law_1363 1380 (by decide) ?_
              refine j_iinc C dL_law_1380 6 rfl (v4 + (3 : Int32)) rfl (by decide) [(4, .int (v4 + (3 : Int32))), (7, .double (FP.f2d q139.2)), (5, .double (FP.f2d q137.2)), (0, .ref b), (1, .ref (gA G 81)), (2, .ref (gA G 82)), (3, .ref (gA G 91))] rfl 1383 rfl ?_
              refine j_goto C dL_law_1383 23 (by decide) ?_
              refine j_sub [(0, .ref b), (1, .ref (gA G 81)), (2, .ref (gA G 82)), (3, .ref (gA G 91)), (4, .int (v4 + (3 : Int32)))] [3, 4, 5, 6, 0] rfl ?_
              exact ih _ _ (by omega) (by omega) _ _ h
            · have h := it_t c h
              refine j_iconst C dL_law_1361 (0 : Int32) (by decide) 1362 rfl ?_
              exact absurd hout (l0_out h)
      have h := it_f c25 h
      by_cases c26 : ((xs v4.toNatClampNeg) &&& (31 : Int32)) = (26 : Int32)
      · have h := it_t c26 h
        refine j_tableIn C dL_law_39 (by rw [c26]; decide) (by rw [c26]; decide) (off := 1327) (by rw [c26]; rfl) 1366 (by decide) ?_
        refine j_aload_n C dL_law_1366 rfl 1 rfl 1367 rfl ?_
        obtain ⟨q141, e142, h⟩ := ob_some h
        refine j_callV C (ct_X6_digest (eL E) G  e142) sh81 foX6 rfl vk_X6_digest kw2_225 rfl ⟨Nat.le_of_ble_eq_true rfl, Nat.le_of_ble_eq_true rfl, rfl, rfl⟩ ⟨by first | (show k ≤ 601024; omega) | (show k + 1 ≤ 601024; omega), by first | (show n ≤ 7293034; omega) | (show n + 6 ≤ 7293034; omega)⟩ (rest := []) rfl (Nat.le_of_ble_eq_true rfl) dL_law_1367 (st1 := [.long q141.2]) rfl 1370 rfl ?_
        refine j_aload_n C dL_law_1370 rfl 2 rfl 1371 rfl ?_
        obtain ⟨q143, e144, h⟩ := ob_some h
        refine j_callV C (ct_X7_digest (eL E) G  e144) sh82 foX7 rfl vk_X7_digest kw5_239 rfl ⟨Nat.le_of_ble_eq_true rfl, Nat.le_of_ble_eq_true rfl, rfl, rfl⟩ ⟨by first | (show k ≤ 601024; omega) | (show k + 1 ≤ 601024; omega), by first | (show n ≤ 7293034; omega) | (show n + 6 ≤ 7293034; omega)⟩ (rest := [.long q141.2]) rfl (Nat.le_of_ble_eq_true rfl) dL_law_1371 (st1 := [.long q143.2, .long q141.2]) rfl 1374 rfl ?_
        refine j_lcmp C dL_law_1374 1375 rfl ?_
        refine j_if_eq C dL_law_1375 1380 (by decide) 1378 rfl (fun c => ?_) (fun c => ?_)
        · have h := it_t c h
          refine j_iinc C dL_law_1380 4 rfl (v4 + (3 : Int32)) rfl (by decide) [(4, .int (v4 + (3 : Int32))), (0, .ref b), (1, .ref (gA G 81)), (2, .ref (gA G 82)), (3, .ref (gA G 91))] rfl 1383 rfl ?_
          refine j_goto C dL_law_1383 23 (by decide) ?_
          refine j_sub [(0, .ref b), (1, .ref (gA G 81)), (2, .ref (gA G 82)), (3, .ref (gA G 91)), (4, .int (v4 + (3 : Int32)))] [1, 2, 3, 4, 0] rfl ?_
          exact ih _ _ (by omega) (by omega) _ _ h
        · have h := it_f c h
          refine j_iconst C dL_law_1378 (0 : Int32) (by decide) 1379 rfl ?_
          exact absurd hout (l0_out h)
      have h := it_f c26 h
      refine j_tableOut C dL_law_39 (by have n0 := tsw_ne (z := 0) (by decide) c0; have n1 := tsw_ne (z := 1) (by decide) c1; have n2 := tsw_ne (z := 2) (by decide) c2; have n3 := tsw_ne (z := 3) (by decide) c3; have n4 := tsw_ne (z := 4) (by decide) c4; have n5 := tsw_ne (z := 5) (by decide) c5; have n6 := tsw_ne (z := 6) (by decide) c6; have n7 := tsw_ne (z := 7) (by decide) c7; have n8 := tsw_ne (z := 8) (by decide) c8; have n9 := tsw_ne (z := 9) (by decide) c9; have n10 := tsw_ne (z := 10) (by decide) c10; have n11 := tsw_ne (z := 11) (by decide) c11; have n12 := tsw_ne (z := 12) (by decide) c12; have n13 := tsw_ne (z := 13) (by decide) c13; have n14 := tsw_ne (z := 14) (by decide) c14; have n15 := tsw_ne (z := 15) (by decide) c15; have n16 := tsw_ne (z := 16) (by decide) c16; have n17 := tsw_ne (z := 17) (by decide) c17; have n18 := tsw_ne (z := 18) (by decide) c18; have n19 := tsw_ne (z := 19) (by decide) c19; have n20 := tsw_ne (z := 20) (by decide) c20; have n21 := tsw_ne (z := 21) (by decide) c21; have n22 := tsw_ne (z := 22) (by decide) c22; have n23 := tsw_ne (z := 23) (by decide) c23; have n24 := tsw_ne (z := 24) (by decide) c24; have n25 := tsw_ne (z := 25) (by decide) c25; have n26 := tsw_ne (z := 26) (by decide) c26; omega) 1380 (by decide) ?_
      refine j_iinc C dL_law_1380 4 rfl (v4 + (3 : Int32)) rfl (by decide) [(4, .int (v4 + (3 : Int32))), (0, .ref b), (1, .ref (gA G 81)), (2, .ref (gA G 82)), (3, .ref (gA G 91))] rfl 1383 rfl ?_
      refine j_goto C dL_law_1383 23 (by decide) ?_
      refine j_sub [(0, .ref b), (1, .ref (gA G 81)), (2, .ref (gA G 82)), (3, .ref (gA G 91)), (4, .int (v4 + (3 : Int32)))] [1, 2, 3, 4, 0] rfl ?_
      exact ih _ _ (by omega) (by omega) _ _ h
