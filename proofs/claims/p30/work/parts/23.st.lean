-- ===== StenoChords$State.become(LStenoChords$State;)V
theorem vk_X5_become : VK yX5_become cX5_become 2 none 1 := ⟨kw1_197, kw1_195, kw1_196, kw1_2, by decide +kernel⟩
def X5_become (i : Nat) (j : Nat) (σ : Mem) : Option (Mem × Unit) :=
  ((X3_become (i + 1) (j + 1) σ).bind fun q1 => ((X0_become (i + 3) (j + 3) q1.1).bind fun q3 => ((some (setI q3.1 i 2 (q3.1.1 j 2))).bind fun σ5 => ((some (setI σ5 i 3 (σ5.1 j 3))).bind fun σ7 => ((some (setI σ7 i 4 (σ7.1 j 4))).bind fun σ9 => ((some (setI σ9 i 5 (σ9.1 j 5))).bind fun σ11 => ((some (setI σ11 i 6 (σ11.1 j 6))).bind fun σ13 => ((some (setI σ13 i 7 (σ13.1 j 7))).bind fun σ15 => some (σ15, ())))))))))
set_option maxHeartbeats 4000000 in
set_option maxRecDepth 100000 in
theorem ct_X5_become (l : Launch) (G : Gw) {i : Nat} (o : StOk i) {j : Nat} (oj : StOk j) {σ : Mem} {out : Mem × Unit} (h : X5_become i j σ = some out) : Ct l G yX5_become cX5_become 2 none { frames := 3, cells := 0, slots := 0, locals := 64 } [.ref (gA G i), .ref (gA G j)] σ out.1 (none) := by
  refine Ct.of (by decide +kernel) (Nat.le_of_ble_eq_true rfl) (fun E hE C F => ?_)
  subst hE
  have C : Cx E G RX5 cX5_become 2 { frames := 3, cells := 0, slots := 0, locals := 64 } := C
  unfold X5_become at h
  show J E G 2 0 0 σ 0 [(0, .ref (gA G i)), (1, .ref (gA G j))] []
  refine j_aload_n C dX5_become_0 rfl 0 rfl 1 rfl ?_
  refine j_get C foX5 o.1 0 (by decide) (i + 3) rfl kw1_73 rfl dX5_become_1 (.ref (gA G (i + 1))) (fv_r rfl) 4 rfl ?_
  refine j_aload_n C dX5_become_4 rfl 1 rfl 5 rfl ?_
  refine j_get C foX5 oj.1 0 (by decide) (j + 3) rfl kw1_73 rfl dX5_become_5 (.ref (gA G (j + 1))) (fv_r rfl) 8 rfl ?_
  obtain ⟨q1, e2, h⟩ := ob_some h
  refine j_callV C (ct_X3_become (eL E) G o.2.1 oj.2.1 e2) o.2.1.1 foX3 rfl vk_X3_become kw1_198 rfl ⟨Nat.le_of_ble_eq_true rfl, Nat.le_of_ble_eq_true rfl, rfl, rfl⟩ ⟨Nat.zero_le _, Nat.zero_le _⟩ (rest := []) rfl (Nat.le_of_ble_eq_true rfl) dX5_become_8 (st1 := []) rfl 11 rfl ?_
  refine j_aload_n C dX5_become_11 rfl 0 rfl 12 rfl ?_
  refine j_get C foX5 o.1 1 (by decide) (i + 5) rfl kw1_75 rfl dX5_become_12 (.ref (gA G (i + 3))) (fv_r rfl) 15 rfl ?_
  refine j_aload_n C dX5_become_15 rfl 1 rfl 16 rfl ?_
  refine j_get C foX5 oj.1 1 (by decide) (j + 5) rfl kw1_75 rfl dX5_become_16 (.ref (gA G (j + 3))) (fv_r rfl) 19 rfl ?_
  obtain ⟨q3, e4, h⟩ := ob_some h
  refine j_callV C (ct_X0_become (eL E) G o.2.2 oj.2.2 e4) o.2.2.1 foX0 rfl vk_X0_become kw1_214 rfl ⟨Nat.le_of_ble_eq_true rfl, Nat.le_of_ble_eq_true rfl, rfl, rfl⟩ ⟨Nat.zero_le _, Nat.zero_le _⟩ (rest := []) rfl (Nat.le_of_ble_eq_true rfl) dX5_become_19 (st1 := []) rfl 22 rfl ?_
  refine j_aload_n C dX5_become_22 rfl 0 rfl 23 rfl ?_
  refine j_aload_n C dX5_become_23 rfl 1 rfl 24 rfl ?_
  refine j_get C foX5 oj.1 2 (by decide) 0 rfl kw1_78 rfl dX5_become_24 (.int (q3.1.1 j 2)) rfl 27 rfl ?_
  obtain ⟨σ5, e6, h⟩ := ob_some h
  refine j_putI C foX5 o.1 2 (by decide) rfl kw1_78 rfl rfl rfl rfl dX5_become_27 σ5 (Option.some.inj e6) 30 rfl ?_
  refine j_aload_n C dX5_become_30 rfl 0 rfl 31 rfl ?_
  refine j_aload_n C dX5_become_31 rfl 1 rfl 32 rfl ?_
  refine j_get C foX5 oj.1 3 (by decide) 0 rfl kw1_80 rfl dX5_become_32 (.int (σ5.1 j 3)) rfl 35 rfl ?_
  obtain ⟨σ7, e8, h⟩ := ob_some h
  refine j_putI C foX5 o.1 3 (by decide) rfl kw1_80 rfl rfl rfl rfl dX5_become_35 σ7 (Option.some.inj e8) 38 rfl ?_
  refine j_aload_n C dX5_become_38 rfl 0 rfl 39 rfl ?_
  refine j_aload_n C dX5_become_39 rfl 1 rfl 40 rfl ?_
  refine j_get C foX5 oj.1 4 (by decide) 0 rfl kw1_83 rfl dX5_become_40 (.int (σ7.1 j 4)) rfl 43 rfl ?_
  obtain ⟨σ9, e10, h⟩ := ob_some h
  refine j_putI C foX5 o.1 4 (by decide) rfl kw1_83 rfl rfl rfl rfl dX5_become_43 σ9 (Option.some.inj e10) 46 rfl ?_
  refine j_aload_n C dX5_become_46 rfl 0 rfl 47 rfl ?_
  refine j_aload_n C dX5_become_47 rfl 1 rfl 48 rfl ?_
  refine j_get C foX5 oj.1 5 (by decide) 0 rfl kw1_85 rfl dX5_become_48 (.int (σ9.1 j 5)) rfl 51 rfl ?_
  obtain ⟨σ11, e12, h⟩ := ob_some h
  refine j_putI C foX5 o.1 5 (by decide) rfl kw1_85 rfl rfl rfl rfl dX5_become_51 σ11 (Option.some.inj e12) 54 rfl ?_
  refine j_aload_n C dX5_become_54 rfl 0 rfl 55 rfl ?_
  refine j_aload_n C dX5_become_55 rfl 1 rfl 56 rfl ?_
  refine j_get C foX5 oj.1 6 (by decide) 0 rfl kw1_87 rfl dX5_become_56 (.int (σ11.1 j 6)) rfl 59 rfl ?_
  obtain ⟨σ13, e14, h⟩ := ob_some h
  refine j_putI C foX5 o.1 6 (by decide) rfl kw1_87 rfl rfl rfl rfl dX5_become_59 σ13 (Option.some.inj e14) 62 rfl ?_
  refine j_aload_n C dX5_become_62 rfl 0 rfl 63 rfl ?_
  refine j_aload_n C dX5_become_63 rfl 1 rfl 64 rfl ?_
  refine j_get C foX5 oj.1 7 (by decide) 0 rfl kw1_89 rfl dX5_become_64 (.int (σ13.1 j 7)) rfl 67 rfl ?_
  obtain ⟨σ15, e16, h⟩ := ob_some h
  refine j_putI C foX5 o.1 7 (by decide) rfl kw1_89 rfl rfl rfl rfl dX5_become_67 σ15 (Option.some.inj e16) 70 rfl ?_
  exact j_vret C F dX5_become_70 h
