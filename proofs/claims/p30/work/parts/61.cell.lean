def L_cell (Ls : Nat) (xs : Nat → Int32) (σ : Mem) (p1 : Int32) : Option (Mem × Int32) :=
  (if (Int32.ofNat Ls) ≤ p1 then some (σ, ((1812433253 : Int32) * (p1 + (229 : Int32)))) else (if inA p1 Ls then some (σ, (xs p1.toNatClampNeg)) else none))
theorem vk_L_cell : SK yL_cell cL_cell 2 (some .int) 2 := ⟨kw2_178, kw2_177, kw1_0, by decide +kernel⟩
set_option maxHeartbeats 4000000 in
set_option maxRecDepth 100000 in
theorem ck_L_cell (l : Launch) (G : Gw) {b Ls : Nat} {xs : Nat → Int32} {σ : Mem} {p1 : Int32} {out : Mem × Int32} (h : L_cell Ls xs σ p1 = some out) : Ck l G yL_cell cL_cell 2 { frames := 0, cells := 0, slots := 0, locals := 0 } [.ref b, .int p1] b Ls xs σ out.1 out.2 := by
  refine Ck.of (by decide +kernel) (Nat.le_of_ble_eq_true rfl) (fun E hE C F hsc => ?_)
  subst hE
  have C : Cx E G RL cL_cell 2 { frames := 0, cells := 0, slots := 0, locals := 0 } := C
  unfold L_cell at h
  show J E G 2 0 0 σ 0 [(0, .ref b), (1, .int p1)] []
  refine j_iload_n C dL_cell_0 rfl 1 rfl 1 rfl ?_
  refine j_aload_n C dL_cell_1 rfl 0 rfl 2 rfl ?_
  refine j_slen C hsc dL_cell_2 3 rfl ?_
  refine j_icmp_ge C dL_cell_3 12 (by decide) 6 rfl (fun c => ?_) (fun c => ?_)
  · have h := it_t c h
    refine j_ldc C dL_cell_12 kw2_179 14 rfl ?_
    refine j_iload_n C dL_cell_14 rfl 1 rfl 15 rfl ?_
    refine j_sipush C dL_cell_15 (229 : Int32) (by decide) 18 rfl ?_
    refine j_iadd C dL_cell_18 19 rfl ?_
    refine j_imul C dL_cell_19 20 rfl ?_
    exact j_iret C F dL_cell_20 h
  · have h := it_f c h
    refine j_aload_n C dL_cell_6 rfl 0 rfl 7 rfl ?_
    refine j_iload_n C dL_cell_7 rfl 1 rfl 8 rfl ?_
    obtain ⟨hc, h⟩ := if_some h
    refine j_sld C hsc hc dL_cell_8 9 rfl ?_
    refine j_goto C dL_cell_9 20 (by decide) ?_
    exact j_iret C F dL_cell_20 h
