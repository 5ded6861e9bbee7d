/-! THE LAW'S OWN SCRIPT, and its own end -/
def Sc (E : Ev) (G : Gw) (b Ls : Nat) (xs : Nat → Int32) : Prop := va_X b Ls xs (eS E) (eS E).heap ∧ b < (eS E).heap.size ∧ ¬ gF G b
def Pk (G : Gw) (σ : Mem) (b Ls : Nat) (xs : Nat → Int32) (U : State) : Prop := Pm G σ U ∧ va_X b Ls xs U U.heap ∧ b < U.heap.size ∧ ¬ gF G b
/-- a contract of a call that reads the script -/
def Ck (l : Launch) (G : Gw) (y : MethodName) (cc : ByteArray) (nL : Nat) (rm : Room) (as : List Value) (b Ls : Nat) (xs : Nat → Int32) (σ σ' : Mem) (r : Int32) : Prop :=
  AdOk G.2.2.2 G.2.2.1 → Met l y (Cond.code y cc nL (some .int) :: lw_all) rm (va_Pc as (Pk G σ b Ls xs)) (Qm G σ' (some (.int r))) 0 0 (gF G)
theorem Ck.of {l : Launch} {G : Gw} {y : MethodName} {cc : ByteArray} {nL : Nat} {rm : Room} {as : List Value} {b Ls : Nat} {xs : Nat → Int32} {σ σ' : Mem} {r : Int32} (hy : plainFor y = true) (hlen : (lg_sl as).length ≤ nL)
    (body : ∀ E : Ev, eL E = l → Cx E G y.cls cc nL rm → Ef E G σ' (some (.int r)) (some .int) 0 0 → Sc E G b Ls xs → J E G nL 0 0 σ 0 (lv_args 0 as) []) : Ck l G y cc nL rm as b Ls xs σ σ' r := by
  intro hA
  refine va_MetF (cc := cc) (maxL := nL) (ret := some .int) hy rfl ?_
  intro p e s m args below meth c s₁ B hml hv
  obtain ⟨rfl, ⟨hP, hK, hN, hX⟩, hS1, hS2, hS3⟩ := hv
  have hts := atoms_spec (ws := Cond.code y cc nL (some .int) :: lw_all) B.pre
  have hown : s.vm.findClass y.cls = some m.cls := findClass_of_methodNamed B.named
  have hl := lv_entry as (n := nL) hlen
  rw [lg_entry_eq]
  exact body (p, l, e, rm, s, m, as.toArray, below, meth, c, MQ below (Qm G σ' (some (.int r))) as.toArray s 0 0 (gF G)) rfl ⟨B.exec, B.bytes, hml, hown, fun w h => hts w (List.mem_cons_of_mem _ h), hK, hA, hN, rfl, hX⟩ ⟨rfl, B.returns, B.notSynchronized⟩ ⟨hS1, hS2, hS3⟩ s.heap [] _ hP va_S.rf hl
theorem Pk.blind {G : Gw} {σ : Mem} {b Ls : Nat} {xs : Nat → Int32} {as : List Value} : FrameBlind (va_Pc as (Pk G σ b Ls xs)) := fun a U g mk q => by
  obtain ⟨q0, ⟨qP, qK, qN, qX⟩, q1, q2, q3⟩ := q
  exact ⟨q0, ⟨qP, va_K.moved (u := U) (U := U.calling g mk a) (Vm.Alike.refl U.vm) qK, qN, Xt.warm (s := U) (U := U.calling g mk a) (State.WarmedH.refl U) qX⟩, va_X.moved (u := U) (U := U.calling g mk a) (Vm.Alike.refl U.vm) q1, q2, q3⟩
section LAW
variable {E : Ev} {G : Gw} {own : String} {cc : ByteArray} {nL : Nat} {rm : Room} {k n : Nat} {σ : Mem} {pc : Nat} {L : List (Nat × Value)} {st : List Value}
theorem j_sld (C : Cx E G own cc nL rm) {b Ls : Nat} {xs : Nat → Int32} (S : Sc E G b Ls xs) {x : Int32} (hin : inA x Ls) (hd : decode cc pc = .ok (.iaload, 1)) (pc' : Nat) (hp : pc + 1 = pc') (kk : J E G nL k n σ pc' L (.int (xs x.toNatClampNeg) :: st)) : J E G nL k n σ pc L (.int x :: .ref b :: st) := by
  subst hp
  exact fun H locs ls hP hS hl => va_sld C.1 C.2.1 S.1 S.2.1 S.2.2 hS (inA_in hin) hd (kk H locs ls hP hS hl)
theorem j_slen (C : Cx E G own cc nL rm) {b Ls : Nat} {xs : Nat → Int32} (S : Sc E G b Ls xs) (hd : decode cc pc = .ok (.arraylength, 1)) (pc' : Nat) (hp : pc + 1 = pc') (kk : J E G nL k n σ pc' L (.int (Int32.ofNat Ls) :: st)) : J E G nL k n σ pc L (.ref b :: st) := by
  subst hp
  exact fun H locs ls hP hS hl => va_slen C.1 C.2.1 S.1 S.2.1 S.2.2 hS hd (kk H locs ls hP hS hl)
theorem j_callK (C : Cx E G own cc nL rm) {b Ls : Nat} {xs : Nat → Int32} (S : Sc E G b Ls xs) {y : MethodName} {bytes : ByteArray} {maxL nn : Nat} {rm' : Room} {as rest st1 : List Value} {σ' : Mem} {r : Int32} (ct : Ck (eL E) G y bytes maxL rm' as b Ls xs σ σ' r) {idx : Nat}
    (vk : SK y bytes maxL (some .int) nn) (w1 : Cond.methodLink own idx y ∈ lw_all) (hnn : as.length = nn) (hro : rm'.frames + 1 ≤ rm.frames ∧ 8 + (maxL + 11) + rm'.locals ≤ rm.locals ∧ rm'.cells = 0 ∧ rm'.slots = 0) (hkn : k ≤ rm.cells ∧ n ≤ rm.slots)
    (hst : st = as.reverse ++ rest) (hcat : (rest.map fun v => v.category).sum ≤ 8) (hd : decode cc pc = .ok (.invokestatic idx, 3)) (h1 : .int r :: rest = st1) (pc' : Nat) (hp : pc + 3 = pc') (kk : J E G nL k n σ' pc' L st1) : J E G nL k n σ pc L st := by
  refine j_run (a := as.toArray) (rest := rest) (r := some (.int r)) (fun H locs ls hP hS hl => ?_) h1 pc' hp kk
  obtain ⟨cx, cb, cm, cown, cts, cK, cA, cN, cR, cX⟩ := C
  subst hst
  subst hnn
  exact va_runS (As := as) (rest := rest) ⟨cx, cb, cm, cown, cts⟩ (ct cA) (va_cwS as.length cts (gd_S vk.1 w1 vk.2.1 vk.2.2.1) rfl hro.2.2.1 hro.2.2.2 vk.2.2.2 (by rw [cR]; exact ⟨hro.1, hro.2.1⟩)) ⟨Pk.blind, fun U hU hW => ⟨rfl, ⟨by rw [hU]; exact hP, va_K.moved hW.alike cK, by rw [hU]; exact Nat.le_trans cN hS.1, by rw [hU]; exact Xt.warm hW (cX.kept hS.2.1)⟩, by rw [hU]; exact va_X.moved hW.alike (va_X.kept S.1 (hS.2.1 b S.2.1 S.2.2)), by rw [hU]; exact Nat.lt_of_lt_of_le S.2.1 hS.1, S.2.2⟩⟩ rfl rfl hl.1 rfl (lv_room hcat) hd ⟨by rw [cR]; exact hkn.1, by rw [cR]; exact hkn.2⟩
/-- the law's own end: with 1 on the stack it's what is wanted -/
def RetOk (E : Ev) (G : Gw) (out : Mem × Int32) : Prop := ∀ {σ : Mem} {v : Int32} {pc : Nat} {L : List (Nat × Value)}, some (σ, v) = some out → decode cL_law pc = .ok (.ireturn, 1) → J E G 12 82 1822 σ pc L [.int v]
end LAW
