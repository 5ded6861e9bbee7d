/-! THE LAW'S OWN CALLS: a call of the class within try, and the law's loop -/
def Nc3 (U : State) : Prop := va_Nc "java/lang/IllegalStateException" "java/lang/IllegalArgumentException" U ∧ va_Nc "java/lang/IllegalStateException" "java/lang/IndexOutOfBoundsException" U ∧ va_Nc "java/lang/IllegalArgumentException" "java/lang/IndexOutOfBoundsException" U
theorem Nc3.moved {u U : State} (hvm : u.vm.Alike U.vm) (h : Nc3 u) : Nc3 U := ⟨h.1.moved hvm, h.2.1.moved hvm, h.2.2.moved hvm⟩
def Pw (G : Gw) (σ : Mem) (U : State) : Prop := Pm G σ U ∧ Nc3 U
/-- a call of the law's own that makes at most one cell of six slots -/
def Cw (l : Launch) (G : Gw) (y : MethodName) (cc : ByteArray) (nL : Nat) (hh : List (Nat × Nat × Nat × Nat)) (rm : Room) (as : List Value) (σ σ' : Mem) (r : Int32) : Prop :=
  AdOk G.2.2.2 G.2.2.1 → Met l y (Cond.codeWith y cc nL (some .int) hh :: lw_all) rm (va_Pc as (Pw G σ)) (Qm G σ' (some (.int r))) 1 6 (gF G)
theorem Cw.of {l : Launch} {G : Gw} {y : MethodName} {cc : ByteArray} {nL : Nat} {hh : List (Nat × Nat × Nat × Nat)} {rm : Room} {as : List Value} {σ σ' : Mem} {r : Int32} (hy : plainName y.cls = true) (hlen : (lg_sl as).length ≤ nL)
    (body : ∀ E : Ev, eL E = l → Cx E G y.cls cc nL rm → Ef E G σ' (some (.int r)) (some .int) 1 6 → (eC E).exceptionTable.toList = tableOf hh → Nc3 (eS E) → J E G nL 0 0 σ 0 (lv_args 0 as) []) : Cw l G y cc nL hh rm as σ σ' r := by
  intro hA
  refine va_MetW (cc := cc) (maxL := nL) (ret := some .int) (hh := hh) hy rfl ?_
  intro p e s m args below meth c s₁ B hml hv
  obtain ⟨rfl, ⟨hP, hK, hN, hX⟩, hNc⟩ := hv
  have hts := atoms_spec (ws := Cond.codeWith y cc nL (some .int) hh :: lw_all) B.pre
  have hown : s.vm.findClass y.cls = some m.cls := findClass_of_methodNamed B.named
  have hl := lv_entry as (n := nL) hlen
  have ht := vx_table (x := y) B (hts _ List.mem_cons_self)
  rw [lg_entry_eq]
  exact body (p, l, e, rm, s, m, as.toArray, below, meth, c, MQ below (Qm G σ' (some (.int r))) as.toArray s 1 6 (gF G)) rfl ⟨B.exec, B.bytes, hml, hown, fun w h => hts w (List.mem_cons_of_mem _ h), hK, hA, hN, rfl, hX⟩ ⟨rfl, B.returns, B.notSynchronized⟩ ht hNc s.heap [] _ hP va_S.rf hl
theorem Pw.blind {G : Gw} {σ : Mem} {as : List Value} : FrameBlind (va_Pc as (Pw G σ)) := fun a U g mk q => by
  obtain ⟨q0, ⟨qP, qK, qN, qX⟩, qC⟩ := q
  exact ⟨q0, ⟨qP, va_K.moved (u := U) (U := U.calling g mk a) (Vm.Alike.refl U.vm) qK, qN, Xt.warm (s := U) (U := U.calling g mk a) (State.WarmedH.refl U) qX⟩, Nc3.moved (u := U) (U := U.calling g mk a) (Vm.Alike.refl U.vm) qC⟩
theorem gd_SW {own : String} {idx : Nat} {y : MethodName} {cc : ByteArray} {n : Nat} {ret : Option FieldType} {hh : List (Nat × Nat × Nat × Nat)} (h : Cond.codeWith y cc n ret hh ∈ lw_all) (h1 : Cond.methodLink own idx y ∈ lw_all) (h2 : Cond.static y ∈ lw_all) (h4 : Cond.initialized y.cls ∈ lw_all) : GoodIn lw_all (va_wsS own idx y (Cond.codeWith y cc n ret hh :: lw_all)) := by
  refine gd_all (fun w hw => ?_)
  simp only [va_wsS, List.cons_append, List.nil_append, List.mem_cons] at hw
  rcases hw with rfl | rfl | rfl | rfl | hw
  · exact h1
  · exact h2
  · exact h4
  · exact h
  · exact hw
section LAW
variable {E : Ev} {G : Gw} {own : String} {cc : ByteArray} {nL : Nat} {rm : Room} {k n : Nat} {σ : Mem} {pc : Nat} {L : List (Nat × Value)} {st : List Value}
theorem j_catch (C : Cx E G RL cc nL rm) {y : MethodName} {bytes : ByteArray} {maxL nn : Nat} {ret : Option FieldType} {rm' : Room} {i x : Nat} {as rest : List Value} {σ' : Mem} (ct : Cx1 (eL E) G y bytes maxL ret rm' (.ref (gA G i) :: as) σ σ' x) {ci : Nat} {ds : List Nat} (hs : shp i = .inl (ci, ds)) {N : Nat} {K : String} {T : u_T} {ty : Nat → FieldType} (F : FO ci K T N ty) (hK : K = y.cls) {idx : Nat}
    (vk : VK y bytes maxL ret nn) (w1 : Cond.methodLink RL idx y ∈ lw_all) (hnn : as.length = nn) (hro : rm'.frames + 1 ≤ rm.frames ∧ 8 + (maxL + 11) + rm'.locals ≤ rm.locals ∧ rm'.cells = 1 ∧ rm'.slots = 6) (hkn : 1 ≤ rm.cells ∧ 6 ≤ rm.slots)
    (hst : st = as.reverse ++ .ref (gA G i) :: rest) (hcat : (rest.map fun v => v.category).sum ≤ 8) (hd : decode cc pc = .ok (.invokevirtual idx, 3))
    (pre : List ExceptionTableEntry) (z : ExceptionTableEntry) (suf : List ExceptionTableEntry) (hT : (eC E).exceptionTable.toList = pre ++ z :: suf) (hpass : ∀ u ∈ pre, covers u pc = false ∨ (u.catchType ≠ 0 ∧ ∃ nm : String, Cond.classLink RL u.catchType nm ∈ lw_all ∧ va_Nc (exN x) nm (eS E))) (hz : covers z pc = true) (hz0 : z.catchType ≠ 0) (wl : Cond.classLink RL z.catchType (exN x) ∈ lw_all) (hcs : Cond.castable (exN x) (exN x) ∈ lw_nw) (pc' : Nat) (hp : z.handlerPc = pc')
    (kk : ∀ q : Nat, J E G nL 1 6 σ' pc' L [.ref q]) : J E G nL 0 0 σ pc L st := by
  subst hp
  obtain ⟨cx, cb, cm, cown, cts, cK, cA, cN, cR, cX⟩ := C
  subst hst; subst hnn; subst hK
  intro H locs ls hP hS hl T1 hT1 X
  have hq := va_recv cK hP F.1 (q0 := i) (a := gA G i) (ci := ci) (fs := fvs G.2.2.1 σ i 0 ds) (by rw [wld_at (shp_lto hs), wE_o hs])
  have hr := vx_runV (As := as) (rest := rest) (R := eR E) (l := eL E) (e := eE E) (below := eB E) (meth := eT E) (H := H) (locs := locs) (cells := 0) (slots := 0) (g := F0 (eM E) pc ls (as.reverse ++ .ref (gA G i) :: rest)) ⟨cx, cb, cm, cown, cts⟩ (ct cA) (cwV as.length cts (gd_V vk.1 w1 vk.2.1 vk.2.2.1 vk.2.2.2.1) rfl hro.2.2.1 hro.2.2.2 ⟨rfl, vk.2.2.2.2⟩ (by rw [cR]; exact ⟨hro.1, hro.2.1⟩)) ⟨Pm.blind, hq, fun U hU hW => ⟨rfl, by rw [hU]; exact hP, va_K.moved hW.alike cK, by rw [hU]; exact Nat.le_trans cN hS.1, by rw [hU]; exact Xt.warm hW (cX.kept hS.2.1)⟩⟩ rfl rfl hl.1 rfl (lv_room hcat) hd ⟨by rw [cR]; omega, by rw [cR]; omega⟩
  rcases hr T1 hT1 X with ⟨v, st₀, t, T', L1, h0, X', hL, e1, e2, hf, stp⟩ | ⟨q, st₀, t, T', L1, E1, ce, h0, X', hL, e1, e2, ⟨rfl, hP1, hz1, hk1⟩, hc1, hc2, hc3, stp⟩
  · exact hf.elim
  · rw [h0] at hz1 hk1
    have hS1 : va_S (gF G) (eS E).heap T'.heap (locs ++ L1) := ⟨Nat.le_trans hS.1 (by rw [e1]; exact hz1), fun q h1 h2 => by rw [e1, hk1 q (Nat.lt_of_lt_of_le h1 hS.1) h2]; exact hS.2.1 q h1 h2, fun q hq => by
      rcases List.mem_append.mp hq with h | h
      · exact hS.2.2 q h
      · exact hL q h⟩
    have hw := kk q T'.heap (locs ++ L1) ls (by rw [e1]; exact hP1) hS1 hl
    obtain ⟨t2, a1, b1⟩ := vx_catch (rest := rest) cown pre z suf hT (fun u hu => by
      rcases hpass u hu with h | ⟨h1, nm, h2, h3⟩
      · exact Or.inl h
      · exact Or.inr ⟨h1, nm, cts _ h2, h3⟩) hz hz0 (cts _ wl) (va_Nw.use (nw_on _ hcs) (cX.2.2.2.2.2.2.2.2.1 _ hcs)) (by rw [e1]; exact hc1) hc2 hc3 hw T' rfl X'
    exact ⟨t2, stp.trans a1, b1⟩
/-- a static call of the law's own -/
theorem j_callSW (C : Cx E G own cc nL rm) (hNc : Nc3 (eS E)) {y : MethodName} {bytes : ByteArray} {maxL nn : Nat} {hh : List (Nat × Nat × Nat × Nat)} {rm' : Room} {as rest st1 : List Value} {σ' : Mem} {r : Int32} (ct : Cw (eL E) G y bytes maxL hh rm' as σ σ' r) {idx : Nat}
    (w0 : Cond.codeWith y bytes maxL (some .int) hh ∈ lw_all) (w2 : Cond.static y ∈ lw_all) (w4 : Cond.initialized y.cls ∈ lw_all) (hde : y.cls ≠ "java/lang/invoke/MethodHandle" ∧ y.cls ≠ "java/lang/invoke/VarHandle" ∧ (parseMethodDescriptor y.desc).map (fun d => d.parameters.length) = some nn) (w1 : Cond.methodLink own idx y ∈ lw_all) (hnn : as.length = nn) (hro : rm'.frames + 1 ≤ rm.frames ∧ 8 + (maxL + 11) + rm'.locals ≤ rm.locals ∧ rm'.cells = 1 ∧ rm'.slots = 6) (hkn : k + 1 ≤ rm.cells ∧ n + 6 ≤ rm.slots)
    (hst : st = as.reverse ++ rest) (hcat : (rest.map fun v => v.category).sum ≤ 8) (hd : decode cc pc = .ok (.invokestatic idx, 3)) (h1 : .int r :: rest = st1) (pc' : Nat) (hp : pc + 3 = pc') (kk : J E G nL (k + 1) (n + 6) σ' pc' L st1) : J E G nL k n σ pc L st := by
  subst hp; subst h1; subst hst; subst hnn
  obtain ⟨cx, cb, cm, cown, cts, cK, cA, cN, cR, cX⟩ := C
  intro H locs ls hP hS hl T hT X
  have hr := vx_runSW (As := as) (rest := rest) (R := eR E) (l := eL E) (e := eE E) (below := eB E) (meth := eT E) (H := H) (locs := locs) (cells := k) (slots := n) (g := F0 (eM E) pc ls (as.reverse ++ rest)) ⟨cx, cb, cm, cown, cts⟩ (ct cA) (vx_cwSW as.length cts (gd_SW w0 w1 w2 w4) rfl hro.2.2.1 hro.2.2.2 hde (by rw [cR]; exact ⟨hro.1, hro.2.1⟩)) ⟨Pw.blind, fun U hU hW => ⟨rfl, ⟨by rw [hU]; exact hP, va_K.moved hW.alike cK, by rw [hU]; exact Nat.le_trans cN hS.1, by rw [hU]; exact Xt.warm hW (cX.kept hS.2.1)⟩, Nc3.moved hW.alike hNc⟩⟩ rfl rfl hl.1 rfl (lv_room hcat) hd ⟨by rw [cR]; exact hkn.1, by rw [cR]; exact hkn.2⟩
  obtain ⟨v, st₀, t, T', L1, h0, X', hL, e1, e2, ⟨hv, hP1, hz, hk⟩, stp⟩ := hr T hT X
  cases hv
  rw [h0] at hz hk
  obtain ⟨t2, a1, b1⟩ := kk T'.heap (locs ++ L1) ls (by rw [e1]; exact hP1) ⟨Nat.le_trans hS.1 (by rw [e1]; exact hz), fun q h1 h2 => by rw [e1, hk q (Nat.lt_of_lt_of_le h1 hS.1) h2]; exact hS.2.1 q h1 h2, fun q hq => by
      rcases List.mem_append.mp hq with h | h
      · exact hS.2.2 q h
      · exact hL q h⟩ hl T' rfl X'
  exact ⟨t2, stp t2 a1, b1⟩
/-- the law's script -/
def Sc (E : Ev) (G : Gw) (b Ls : Nat) (xs : Nat → Int32) : Prop := va_X b Ls xs (eS E) (eS E).heap ∧ b < (eS E).heap.size ∧ ¬ gF G b
theorem j_sld (C : Cx E G own cc nL rm) {b Ls : Nat} {xs : Nat → Int32} (S : Sc E G b Ls xs) {x : Int32} (hin : inA x Ls) (hd : decode cc pc = .ok (.iaload, 1)) (pc' : Nat) (hp : pc + 1 = pc') (kk : J E G nL k n σ pc' L (.int (xs x.toNatClampNeg) :: st)) : J E G nL k n σ pc L (.int x :: .ref b :: st) := by
  subst hp
  exact fun H locs ls hP hS hl => va_sld C.1 C.2.1 S.1 S.2.1 S.2.2 hS (inA_in hin) hd (kk H locs ls hP hS hl)
theorem j_slen (C : Cx E G own cc nL rm) {b Ls : Nat} {xs : Nat → Int32} (S : Sc E G b Ls xs) (hd : decode cc pc = .ok (.arraylength, 1)) (pc' : Nat) (hp : pc + 1 = pc') (kk : J E G nL k n σ pc' L (.int (Int32.ofNat Ls) :: st)) : J E G nL k n σ pc L (.ref b :: st) := by
  subst hp
  exact fun H locs ls hP hS hl => va_slen C.1 C.2.1 S.1 S.2.1 S.2.2 hS hd (kk H locs ls hP hS hl)
/-- the law's own end: with 1 on the stack it's what is wanted -/
def RetOk (E : Ev) (G : Gw) : Prop := ∀ (k n : Nat) (σ : Mem) (pc : Nat) (L : List (Nat × Value)), k ≤ 601024 → n ≤ 7293034 → decode cL_law pc = .ok (.ireturn, 1) → J E G 9 k n σ pc L [.int 1]
end LAW
/-- a call's answer, or the exception that it threw -/
def sel {β : Type} (r : Int32 ⊕ Nat) (f : Int32 → Option β) (g : Nat → Option β) : Option β := match r with
  | .inl v => f v
  | .inr x => g x
theorem sel_some {β : Type} {r : Int32 ⊕ Nat} {f : Int32 → Option β} {g : Nat → Option β} {o : β} (h : sel r f g = some o) : (∃ v, r = .inl v ∧ f v = some o) ∨ ∃ x, r = .inr x ∧ g x = some o := by
  cases r with
  | inl v => exact Or.inl ⟨v, rfl, h⟩
  | inr x => exact Or.inr ⟨x, rfl, h⟩
