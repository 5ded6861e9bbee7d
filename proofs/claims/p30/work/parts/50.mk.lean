/-! MAKING: over a world that is a list of cells, newest first -/
def lw_nest : List Cond := [.methodLinkNest RX6 9 yX5_init RX6, .methodLinkNest RX5 22 yX0_init RX6, .methodLinkNest RX4 17 yX5_init RX6, .methodLinkNest RX6 28 yX1_init RX6, .methodLinkNest RX6 35 yX2_init RX6]
def XI (U : State) : Prop := (∀ w ∈ lw_nest, va_Nw w U) ∧ va_AO "StenoChords$State" U
theorem XI.warm {s U : State} (hW : s.WarmedH U.vm) (h : XI s) : XI U := by
  refine ⟨fun w hw => ?_, va_AO.moved hW.alike h.2⟩
  have h1 := h.1 w hw
  simp only [lw_nest, List.mem_cons, List.not_mem_nil, or_false] at hw
  rcases hw with rfl | rfl | rfl | rfl | rfl <;> exact va_Nw.warmM hW h1
def Pi (G : Gw) (ws : va_W) (U : State) : Prop := va_P G.1 vwCl ws U.heap ∧ va_D (gF G) ws ∧ va_K G.1 vwCl (tysOf G.2.1) U ∧ G.2.2.2 ≤ U.heap.size ∧ XI U
def Qi (G : Gw) (post : (Nat → Nat) → va_W) : Array Value → State → Outcome → State → Prop := fun _ st oc t => oc = .returned none ∧ (∃ a, va_P G.1 vwCl (post a) t.heap ∧ va_D (gF G) (post a)) ∧ va_F (gF G) st t
def Ci (l : Launch) (G : Gw) (y : MethodName) (cc : ByteArray) (nL : Nat) (rm : Room) (as : List Value) (pre : va_W) (post : (Nat → Nat) → va_W) (mc ms : Nat) : Prop :=
  Met l y (Cond.code y cc nL none :: lw_all) rm (va_Pc as (Pi G pre)) (Qi G post) mc ms (gF G)
theorem Pi.blind {G : Gw} {ws : va_W} {as : List Value} : FrameBlind (va_Pc as (Pi G ws)) := fun a U g mk q => by
  obtain ⟨q0, qP, qD, qK, qN, qX⟩ := q
  exact ⟨q0, qP, qD, va_K.moved (u := U) (U := U.calling g mk a) (Vm.Alike.refl U.vm) qK, qN, XI.warm (s := U) (U := U.calling g mk a) (State.WarmedH.refl U) qX⟩
def CI (E : Ev) (G : Gw) (own : String) (cc : ByteArray) (nL : Nat) (rm : Room) : Prop :=
  (eP E).tables.exec = Jvm.exec ∧ (eC E).code = cc ∧ (eC E).maxLocals = nL ∧ (eS E).vm.findClass own = some (eM E).cls ∧ (∀ w ∈ lw_all, w.before (eA E) (eS E) = true) ∧ va_K G.1 vwCl (tysOf G.2.1) (eS E) ∧ G.2.2.2 ≤ (eS E).heap.size ∧ eR E = rm ∧ XI (eS E)
def JI (E : Ev) (G : Gw) (nL k n : Nat) (ws : va_W) (pc : Nat) (L : List (Nat × Value)) (st : List Value) : Prop :=
  ∀ (H : Heap) (locs : List Loc) (ls : Array Slot), va_P G.1 vwCl ws H → va_D (gF G) ws → va_S (gF G) (eS E).heap H locs → lv_has ls nL L →
    W (eP E) (eL E) (eE E) (eR E) (eS E) (eM E) (eA E) (eB E) (eT E) (eC E) H locs k n (eQ E) (F0 (eM E) pc ls st)
def Ei (E : Ev) (G : Gw) (post : (Nat → Nat) → va_W) (k n : Nat) : Prop :=
  eQ E = MQ (eB E) (Qi G post) (eA E) (eS E) k n (gF G) ∧ (eT E).sig.returnType = none ∧ (eT E).locks = false ∧ (eT E).name = "<init>"
theorem Ci.of {l : Launch} {G : Gw} {y : MethodName} {cc : ByteArray} {nL mc ms : Nat} {rm : Room} {as : List Value} {pre : va_W} {post : (Nat → Nat) → va_W} (hy : plainFor y = true) (hyn : y.name = "<init>") (hlen : (lg_sl as).length ≤ nL)
    (body : ∀ E : Ev, eL E = l → CI E G y.cls cc nL rm → Ei E G post mc ms → JI E G nL 0 0 pre 0 (lv_args 0 as) []) : Ci l G y cc nL rm as pre post mc ms := by
  refine va_MetF (cc := cc) (maxL := nL) (ret := none) hy rfl ?_
  intro p e s m args below meth c s₁ B hml hv
  obtain ⟨rfl, hP, hD, hK, hN, hX⟩ := hv
  have hts := atoms_spec (ws := Cond.code y cc nL none :: lw_all) B.pre
  have hown : s.vm.findClass y.cls = some m.cls := findClass_of_methodNamed B.named
  have hl := lv_entry as (n := nL) hlen
  rw [lg_entry_eq]
  exact body (p, l, e, rm, s, m, as.toArray, below, meth, c, MQ below (Qi G post) as.toArray s mc ms (gF G)) rfl ⟨B.exec, B.bytes, hml, hown, fun w h => hts w (List.mem_cons_of_mem _ h), hK, hN, rfl, hX⟩ ⟨rfl, B.returns, B.notSynchronized, ((name_of_methodNamed B.named B.method).1).trans hyn⟩ s.heap [] _ hP hD va_S.rf hl
theorem va_P.ofmem {D : va_G} {cl : List vw_C} {ws ws' : va_W} {H : Heap} (h : va_P D cl ws H) (hm : ∀ q ∈ ws', q ∈ ws) : va_P D cl ws' H := by
  intro k q hk
  obtain ⟨i, hi⟩ := List.getElem?_of_mem (hm q (List.mem_of_getElem? hk))
  exact h i q hi
theorem nd_get {l : List Nat} : l.Nodup ↔ ∀ i j : Nat, i < j → j < l.length → l[i]? ≠ l[j]? := by
  show List.Pairwise (fun a b => a ≠ b) l ↔ _
  rw [List.pairwise_iff_getElem]
  constructor
  · intro h i j hij hj e
    have hi : i < l.length := Nat.lt_trans hij hj
    rw [List.getElem?_eq_getElem hi, List.getElem?_eq_getElem hj] at e
    exact h i j hi hj hij (Option.some.inj e)
  · intro h i j hi hj hij e
    exact h i j hij hj (by rw [List.getElem?_eq_getElem hi, List.getElem?_eq_getElem hj, e])
theorem va_D_iff {A : Nat → Prop} {ws : va_W} : va_D A ws ↔ (ws.map Prod.fst).Nodup ∧ ∀ q ∈ ws, A q.1 := by
  constructor
  · intro h
    refine ⟨?_, fun q hq => ?_⟩
    · rw [nd_get]
      intro i j hij hj e
      rw [List.length_map] at hj
      have hi : i < ws.length := Nat.lt_trans hij hj
      rw [List.getElem?_map, List.getElem?_map, List.getElem?_eq_getElem hi, List.getElem?_eq_getElem hj] at e
      have := h.1 i j ws[i] ws[j] (List.getElem?_eq_getElem hi) (List.getElem?_eq_getElem hj) (Option.some.inj e)
      omega
    · obtain ⟨i, hi⟩ := List.getElem?_of_mem hq
      exact h.2 i q hi
  · intro h
    refine ⟨fun i j p q hp hq e => ?_, fun k q hk => h.2 q (List.mem_of_getElem? hk)⟩
    have h1 := nd_get.mp h.1
    have li := (List.getElem?_eq_some_iff.mp hp).1
    have lj := (List.getElem?_eq_some_iff.mp hq).1
    have ei : (ws.map Prod.fst)[i]? = some p.1 := by rw [List.getElem?_map, hp]; rfl
    have ej : (ws.map Prod.fst)[j]? = some q.1 := by rw [List.getElem?_map, hq]; rfl
    rcases Nat.lt_trichotomy i j with c | c | c
    · exact absurd (ei.trans ((congrArg some e).trans ej.symm)) (h1 i j c (by rw [List.length_map]; exact lj))
    · exact c
    · exact absurd (ej.trans ((congrArg some e.symm).trans ei.symm)) (h1 j i c (by rw [List.length_map]; exact li))
theorem va_D.perm {A : Nat → Prop} {ws ws' : va_W} (h : va_D A ws) (hp : ws.Perm ws') : va_D A ws' := by
  rw [va_D_iff] at h ⊢
  exact ⟨(hp.map Prod.fst).nodup_iff.mp h.1, fun q hq => h.2 q (hp.mem_iff.mpr hq)⟩
theorem ty_uniq {D : va_G} {cl : List vw_C} {t1 : List (ClassId × FieldType)} {c1 c2 : ClassId} {ty : FieldType} {s : State} (i : Nat) (h1 : t1[i]? = some (c1, ty)) (hK : va_K D cl (t1 ++ [(c2, ty)]) s) : c2 = c1 := by
  have hl := (List.getElem?_eq_some_iff.mp h1).1
  have a := (hK.2 i (c1, ty) (by rw [List.getElem?_append_left hl]; exact h1)).2
  have b := (hK.2 t1.length (c2, ty) (by rw [List.getElem?_append_right (Nat.le_refl _), Nat.sub_self]; rfl)).2
  cases ty with
  | object C =>
    obtain ⟨_, _, _, _, _, e1⟩ := a
    obtain ⟨_, _, _, _, _, e2⟩ := b
    exact Option.some.inj (e2.symm.trans e1)
  | _ => exact Option.some.inj (b.symm.trans a)
section JIR
variable {E : Ev} {G : Gw} {own : String} {cc : ByteArray} {nL : Nat} {rm : Room} {k n : Nat} {ws : va_W} {pc : Nat} {L : List (Nat × Value)} {st : List Value}
theorem ji_lift {pc' : Nat} {st' : List Value} (kk : JI E G nL k n ws pc' L st') (h : ∀ (H : Heap) (locs : List Loc) (ls : Array Slot), lv_has ls nL L → W (eP E) (eL E) (eE E) (eR E) (eS E) (eM E) (eA E) (eB E) (eT E) (eC E) H locs k n (eQ E) (F0 (eM E) pc' ls st') → W (eP E) (eL E) (eE E) (eR E) (eS E) (eM E) (eA E) (eB E) (eT E) (eC E) H locs k n (eQ E) (F0 (eM E) pc ls st)) : JI E G nL k n ws pc L st :=
  fun H locs ls hP hD hS hl => h H locs ls hl (kk H locs ls hP hD hS hl)
theorem ji_aload0 (C : CI E G own cc nL rm) (hd : decode cc pc = .ok (.aload_n 0, 1)) {x : Nat} (q : Nat) (hL : L[q]? = some (0, .ref x)) (pc' : Nat) (hp : pc + 1 = pc') (kk : JI E G nL k n ws pc' L (.ref x :: st)) : JI E G nL k n ws pc L st := by
  subst hp
  exact ji_lift kk (fun H locs ls hl w => lv_aload_n C.1 C.2.1 hd rfl (lv_at hl q hL) w)
theorem ji_iload1 (C : CI E G own cc nL rm) (hd : decode cc pc = .ok (.iload_n 1, 1)) {x : Int32} (q : Nat) (hL : L[q]? = some (1, .int x)) (pc' : Nat) (hp : pc + 1 = pc') (kk : JI E G nL k n ws pc' L (.int x :: st)) : JI E G nL k n ws pc L st := by
  subst hp
  exact ji_lift kk (fun H locs ls hl w => lv_iload_n C.1 C.2.1 hd rfl (lv_at hl q hL) w)
theorem ji_iconst (C : CI E G own cc nL rm) {z : Int} (hd : decode cc pc = .ok (.iconst z, 1)) (v : Int32) (hv : Int32.ofInt z = v) (pc' : Nat) (hp : pc + 1 = pc') (kk : JI E G nL k n ws pc' L (.int v :: st)) : JI E G nL k n ws pc L st := by
  subst hp
  exact ji_lift kk (fun H locs ls hl w => lv_iconst C.1 C.2.1 hd hv w)
theorem ji_bipush (C : CI E G own cc nL rm) {z : Int} (hd : decode cc pc = .ok (.bipush z, 2)) (v : Int32) (hv : (Int8.ofInt z).toInt32 = v) (pc' : Nat) (hp : pc + 2 = pc') (kk : JI E G nL k n ws pc' L (.int v :: st)) : JI E G nL k n ws pc L st := by
  subst hp
  exact ji_lift kk (fun H locs ls hl w => lv_bipush C.1 C.2.1 hd hv w)
theorem ji_sipush (C : CI E G own cc nL rm) {z : Int} (hd : decode cc pc = .ok (.sipush z, 3)) (v : Int32) (hv : (Int16.ofInt z).toInt32 = v) (pc' : Nat) (hp : pc + 3 = pc') (kk : JI E G nL k n ws pc' L (.int v :: st)) : JI E G nL k n ws pc L st := by
  subst hp
  exact ji_lift kk (fun H locs ls hl w => lv_sipush C.1 C.2.1 hd hv w)
theorem ji_dup (C : CI E G own cc nL rm) {va : Value} (hd : decode cc pc = .ok (.dup, 1)) (hva : va.category = 1) (pc' : Nat) (hp : pc + 1 = pc') (kk : JI E G nL k n ws pc' L (va :: va :: st)) : JI E G nL k n ws pc L (va :: st) := by
  subst hp
  exact ji_lift kk (fun H locs ls hl w => lv_dup C.1 C.2.1 hd hva w)
theorem ji_goto (C : CI E G own cc nL rm) {off : Int} (hd : decode cc pc = .ok (.goto off, 3)) (tgt : Nat) (ht : (pc : Int) + off = (tgt : Int)) (kk : JI E G nL k n ws tgt L st) : JI E G nL k n ws pc L st :=
  ji_lift kk (fun H locs ls hl w => lv_goto C.1 C.2.1 hd ht w)
theorem ji_istore1 (C : CI E G own cc nL rm) {x : Int32} (hd : decode cc pc = .ok (.istore_n 1, 1)) (hn : 1 < nL) (L' : List (Nat × Value)) (hL : (1, Value.int x) :: L.filter (fun q => !(q.1 == 1) && !(q.1 + 1 == 1 && q.2.category == 2)) = L') (pc' : Nat) (hp : pc + 1 = pc') (kk : JI E G nL k n ws pc' L' st) : JI E G nL k n ws pc L (.int x :: st) := by
  subst hp
  exact fun H locs ls hP hD hS hl => lv_istore_n C.1 C.2.1 hd rfl hl hn hL (fun ls' hl' => kk H locs ls' hP hD hS hl')
theorem ji_iinc1 (C : CI E G own cc nL rm) {z : Int} {x : Int32} (hd : decode cc pc = .ok (.iinc 1 z, 3)) (q : Nat) (hq : L[q]? = some (1, .int x)) (v : Int32) (hv : x + Int32.ofInt z = v) (hn : 1 < nL) (L' : List (Nat × Value)) (hL : (1, Value.int v) :: L.filter (fun q => !(q.1 == 1) && !(q.1 + 1 == 1 && q.2.category == 2)) = L') (pc' : Nat) (hp : pc + 3 = pc') (kk : JI E G nL k n ws pc' L' st) : JI E G nL k n ws pc L st := by
  subst hp
  exact fun H locs ls hP hD hS hl => lv_iinc C.1 C.2.1 hd hl hq hv hn hL (fun ls' hl' => kk H locs ls' hP hD hS hl')
theorem ji_geT (C : CI E G own cc nL rm) {x y : Int32} {off : Int} (hd : decode cc pc = .ok (.if_icmp .ge off, 3)) (tgt : Nat) (ht : (pc : Int) + off = (tgt : Int)) (hc : y ≤ x) (kk : JI E G nL k n ws tgt L st) : JI E G nL k n ws pc L (.int y :: .int x :: st) :=
  ji_lift kk (fun H locs ls hl w => lv_icmp_ge C.1 C.2.1 hd ht (fun _ => w) (fun h => absurd hc h))
theorem ji_geF (C : CI E G own cc nL rm) {x y : Int32} {off : Int} (hd : decode cc pc = .ok (.if_icmp .ge off, 3)) (tgt : Nat) (ht : (pc : Int) + off = (tgt : Int)) (hc : ¬ y ≤ x) (pc' : Nat) (hp : pc + 3 = pc') (kk : JI E G nL k n ws pc' L st) : JI E G nL k n ws pc L (.int y :: .int x :: st) := by
  subst hp
  exact ji_lift kk (fun H locs ls hl w => lv_icmp_ge C.1 C.2.1 hd ht (fun h => absurd h hc) (fun _ => w))
theorem ji_objInit (C : CI E G own cc nL rm) {a idx : Nat} (w0 : Cond.methodLink own idx objectInit ∈ lw_all) (w1 : Cond.instanceMethod objectInit ∈ lw_all) (w2 : Cond.code objectInit ⟨#[0xb1]⟩ 1 none ∈ lw_all) (hd : decode cc pc = .ok (.invokespecial idx, 3)) (hro : 1 ≤ rm.frames ∧ 20 ≤ rm.locals) (hcat : (st.map fun v => v.category).sum ≤ 8) (pc' : Nat) (hp : pc + 3 = pc') (kk : JI E G nL k n ws pc' L st) : JI E G nL k n ws pc L (.ref a :: st) := by
  subst hp
  obtain ⟨cx, cb, cm, cown, cts, cK, cN, cR, cX⟩ := C
  refine ji_lift kk (fun H locs ls hl w => ?_)
  refine W.objInit cx cb cown (cts _ w0) (cts _ w1) (cts _ w2) rfl (hl.1.trans cm.symm) rfl hd (by rw [cR]; exact hro.1) ?_ w
  show 2 * 0 + _ + 12 ≤ _
  rw [cR]
  omega
theorem ji_max (C : CI E G own cc nL rm) {idx : Nat} (w0 : Cond.code Lib.Math.max.name Lib.Math.max.code 2 (some .int) ∈ lw_all) (w1 : Cond.methodLink own idx Lib.Math.max.name ∈ lw_all) (w2 : Cond.static Lib.Math.max.name ∈ lw_all) (w4 : Cond.initialized "java/lang/Math" ∈ lw_all) {x y : Int32} (hro : 1 ≤ rm.frames ∧ 21 ≤ rm.locals) (hkn : k ≤ rm.cells ∧ n ≤ rm.slots) (hcat : (st.map fun v => v.category).sum ≤ 8) (hd : decode cc pc = .ok (.invokestatic idx, 3)) (v : Int32) (hv : (if x < y then y else x) = v) (pc' : Nat) (hp : pc + 3 = pc') (kk : JI E G nL k n ws pc' L (.int v :: st)) : JI E G nL k n ws pc L (.int y :: .int x :: st) := by
  subst hp
  subst hv
  obtain ⟨cx, cb, cm, cown, cts, cK, cN, cR, cX⟩ := C
  exact ji_lift kk (fun H locs ls hl w => va_mmax cx cb (cm.trans hl.1.symm) cown (cts _ w1) (cts _ w2) (cts _ w4) (cts _ w0) (by rw [cR]; exact hro.1) (by rw [cR]; omega) (by rw [cR]; exact hkn.1) (by rw [cR]; exact hkn.2) hd w)
theorem ji_new (C : CI E G own cc nL rm) {ci N idx : Nat} {K : String} {T : u_T} {ty : Nat → FieldType} (F : FO ci K T N ty) (w0 : Cond.classLink own idx K ∈ lw_all) (w1 : Cond.instantiable K N ∈ lw_all) (w2 : Cond.initialized K ∈ lw_all) (fs : List Value) (hfs : ∀ j, j < N → defaultValue (ty j) = vp_V fs j) (hkn : k + 1 ≤ rm.cells ∧ n + N ≤ rm.slots) (hd : decode cc pc = .ok (.new idx, 3)) (k' n' : Nat) (hk : k + 1 = k') (hn : n + N = n') (pc' : Nat) (hp : pc + 3 = pc') (kk : ∀ q : Nat, JI E G nL k' n' ((q, .inr (ci, fs)) :: ws) pc' L (.ref q :: st)) : JI E G nL k n ws pc L st := by
  subst hp; subst hk; subst hn
  obtain ⟨cx, cb, cm, cown, cts, cK, cN, cR, cX⟩ := C
  intro H locs ls hP hD hS hl
  refine va_new cx cb cts F.2.1 ty F.2.2.1 cown (cts _ w0) (cts _ w1) (cts _ w2) cK hP hD hS (fun q hq => Nat.le_trans cN hq) F.1 hfs (by rw [cR]; exact hkn.1) (by rw [cR]; exact hkn.2) hd (fun q H1 hP1 hD1 hS1 => ?_)
  have hp := List.perm_append_singleton (q, (Sum.inr (ci, fs) : va_E)) ws
  exact kk q H1 locs ls (hP1.ofmem (fun x hx => hp.mem_iff.mpr hx)) (hD1.perm hp) hS1 hl
theorem ji_newI (C : CI E G own cc nL rm) (wa : Cond.arrayClass .int ∈ lw_all) {x : Int32} {N : Nat} (hx : ¬ x < 0) (hN : x.toNatClampNeg = N) (hb8 : N * 4 ≤ 536870912) (hkn : k + 1 ≤ rm.cells ∧ n + N ≤ rm.slots) (hd : decode cc pc = .ok (.newarray .int, 2)) (k' n' : Nat) (hk : k + 1 = k') (hn : n + N = n') (pc' : Nat) (hp : pc + 2 = pc') (kk : ∀ q : Nat, JI E G nL k' n' ((q, .inl (G.2.1.1, N, .inl (fun _ => 0))) :: ws) pc' L (.ref q :: st)) : JI E G nL k n ws pc L (.int x :: st) := by
  subst hp; subst hk; subst hn
  obtain ⟨cx, cb, cm, cown, cts, cK, cN, cR, cX⟩ := C
  intro H locs ls hP hD hS hl
  refine va_newa (atype := .int) (ty := .int) (a0 := (N, .inl (fun _ => 0))) cx cb (cts _ wa) rfl cK hP hD hS (fun q hq => Nat.le_trans cN hq) (fun _ => rfl) hx hN hb8 (by rw [cR]; exact hkn.1) (by rw [cR]; exact hkn.2) hd (fun q cA H1 hK1 hP1 hD1 hS1 => ?_)
  have hc : cA = G.2.1.1 := ty_uniq 0 rfl hK1
  subst hc
  have hp := List.perm_append_singleton (q, (Sum.inl (G.2.1.1, N, .inl (fun _ => 0)) : va_E)) ws
  exact kk q H1 locs ls (hP1.ofmem (fun x hx => hp.mem_iff.mpr hx)) (hD1.perm hp) hS1 hl
theorem ji_newL (C : CI E G own cc nL rm) (wa : Cond.arrayClass .long ∈ lw_all) {x : Int32} {N : Nat} (hx : ¬ x < 0) (hN : x.toNatClampNeg = N) (hb8 : N * 8 ≤ 536870912) (hkn : k + 1 ≤ rm.cells ∧ n + N ≤ rm.slots) (hd : decode cc pc = .ok (.newarray .long, 2)) (k' n' : Nat) (hk : k + 1 = k') (hn : n + N = n') (pc' : Nat) (hp : pc + 2 = pc') (kk : ∀ q : Nat, JI E G nL k' n' ((q, .inl (G.2.1.2.1, N, .inr (.inl (fun _ => 0)))) :: ws) pc' L (.ref q :: st)) : JI E G nL k n ws pc L (.int x :: st) := by
  subst hp; subst hk; subst hn
  obtain ⟨cx, cb, cm, cown, cts, cK, cN, cR, cX⟩ := C
  intro H locs ls hP hD hS hl
  refine va_newa (atype := .long) (ty := .long) (a0 := (N, .inr (.inl (fun _ => 0)))) cx cb (cts _ wa) rfl cK hP hD hS (fun q hq => Nat.le_trans cN hq) (fun _ => rfl) hx hN hb8 (by rw [cR]; exact hkn.1) (by rw [cR]; exact hkn.2) hd (fun q cA H1 hK1 hP1 hD1 hS1 => ?_)
  have hc : cA = G.2.1.2.1 := ty_uniq 1 rfl hK1
  subst hc
  have hp := List.perm_append_singleton (q, (Sum.inl (G.2.1.2.1, N, .inr (.inl (fun _ => 0))) : va_E)) ws
  exact kk q H1 locs ls (hP1.ofmem (fun x hx => hp.mem_iff.mpr hx)) (hD1.perm hp) hS1 hl
theorem ji_newq (C : CI E G own cc nL rm) {idx : Nat} (wa : Cond.classLink own idx "StenoChords$State" ∈ lw_all) {x : Int32} {N : Nat} (hx : ¬ x < 0) (hN : x.toNatClampNeg = N) (hb8 : N * 4 ≤ 536870912) (hkn : k + 1 ≤ rm.cells ∧ n + N ≤ rm.slots) (hd : decode cc pc = .ok (.anewarray idx, 3)) (k' n' : Nat) (hk : k + 1 = k') (hn : n + N = n') (pc' : Nat) (hp : pc + 3 = pc') (kk : ∀ q : Nat, JI E G nL k' n' ((q, .inl (G.2.1.2.2, N, .inr (.inr (.inr (.inr (fun _ => none)))))) :: ws) pc' L (.ref q :: st)) : JI E G nL k n ws pc L (.int x :: st) := by
  subst hp; subst hk; subst hn
  obtain ⟨cx, cb, cm, cown, cts, cK, cN, cR, cX⟩ := C
  intro H locs ls hP hD hS hl
  refine va_newq cx cb cown (cts _ wa) cX.2 cK hP hD hS (fun q hq => Nat.le_trans cN hq) hx hN hb8 (by rw [cR]; exact hkn.1) (by rw [cR]; exact hkn.2) hd (fun q cA H1 hK1 hP1 hD1 hS1 => ?_)
  have hc : cA = G.2.1.2.2 := ty_uniq 2 rfl hK1
  subst hc
  have hp := List.perm_append_singleton (q, (Sum.inl (G.2.1.2.2, N, .inr (.inr (.inr (.inr (fun _ => none))))) : va_E)) ws
  exact kk q H1 locs ls (hP1.ofmem (fun x hx => hp.mem_iff.mpr hx)) (hD1.perm hp) hS1 hl
theorem ji_putF (C : CI E G own cc nL rm) (hin : (eT E).name = "<init>") {ci N idx a : Nat} {K ref : String} {T : u_T} {ty : Nat → FieldType} (F : FO ci K T N ty) (q0 : Nat) {fs : List Value} (he : ws[q0]? = some (a, .inr (ci, fs))) (f : Nat) (hf : f < N) (hl0 : f < fs.length) (hw : Cond.fieldLink own idx ref (T f).2.1 (T f).2.2.1 ∈ lw_all) (hsame : (T f).1 = ref) (hfin : (T f).2.2.2 = true) (hdecl : (T f).1 = own) {v : Value} (hn : narrow (ty f) v = v) (hfit : fits (ty f) v = true) (hd : decode cc pc = .ok (.putfield idx, 3)) (ws' : va_W) (hws : ws.set q0 (a, .inr (ci, fs.set f v)) = ws') (pc' : Nat) (hp : pc + 3 = pc') (kk : JI E G nL k n ws' pc' L st) : JI E G nL k n ws pc L (v :: .ref a :: st) := by
  subst hp; subst hsame; subst hws
  obtain ⟨cx, cb, cm, cown, cts, cK, cN, cR, cX⟩ := C
  intro H locs ls hP hD hS hl
  exact va_putF cx cb cts F.2.1 ty F.2.2.1 F.2.2.2 cown cK hP hD hS q0 he F.1 f hf (cts _ hw) (fun _ h => h) hfin hin hdecl (F.2.2.1 f hf) hn hfit hl0 hd (fun H1 locs1 hP1 hD1 hS1 => kk H1 locs1 ls hP1 hD1 hS1 hl)
theorem ji_put (C : CI E G own cc nL rm) {ci N idx a : Nat} {K ref : String} {T : u_T} {ty : Nat → FieldType} (F : FO ci K T N ty) (q0 : Nat) {fs : List Value} (he : ws[q0]? = some (a, .inr (ci, fs))) (f : Nat) (hf : f < N) (hl0 : f < fs.length) (hw : Cond.fieldLink own idx ref (T f).2.1 (T f).2.2.1 ∈ lw_all) (hsame : (T f).1 = ref) (hfin : (T f).2.2.2 = false) {v : Value} (hn : narrow (ty f) v = v) (hfit : fits (ty f) v = true) (hd : decode cc pc = .ok (.putfield idx, 3)) (ws' : va_W) (hws : ws.set q0 (a, .inr (ci, fs.set f v)) = ws') (pc' : Nat) (hp : pc + 3 = pc') (kk : JI E G nL k n ws' pc' L st) : JI E G nL k n ws pc L (v :: .ref a :: st) := by
  subst hp; subst hsame; subst hws
  obtain ⟨cx, cb, cm, cown, cts, cK, cN, cR, cX⟩ := C
  intro H locs ls hP hD hS hl
  exact va_put cx cb cts F.2.1 ty F.2.2.1 F.2.2.2 cown cK hP hD hS q0 he F.1 f hf (cts _ hw) (fun _ h => h) hfin (F.2.2.1 f hf) hn hfit hl0 hd (fun H1 locs1 hP1 hD1 hS1 => kk H1 locs1 ls hP1 hD1 hS1 hl)
theorem ji_get (C : CI E G own cc nL rm) {ci N idx a : Nat} {K ref : String} {T : u_T} {ty : Nat → FieldType} (F : FO ci K T N ty) (q0 : Nat) {fs : List Value} (he : ws[q0]? = some (a, .inr (ci, fs))) (f : Nat) (hf : f < N) (hw : Cond.fieldLink own idx ref (T f).2.1 (T f).2.2.1 ∈ lw_all) (hsame : (T f).1 = ref) {v : Value} (hv : fs[f]? = some v) (hd : decode cc pc = .ok (.getfield idx, 3)) (pc' : Nat) (hp : pc + 3 = pc') (kk : JI E G nL k n ws pc' L (v :: st)) : JI E G nL k n ws pc L (.ref a :: st) := by
  subst hp; subst hsame
  obtain ⟨cx, cb, cm, cown, cts, cK, cN, cR, cX⟩ := C
  intro H locs ls hP hD hS hl
  exact va_get cx cb cts F.2.1 cown cK hP q0 he F.1 f hf (cts _ hw) (fun _ h => h) hv hd (kk H locs ls hP hD hS hl)
theorem ji_alenq (C : CI E G own cc nL rm) (q0 : Nat) {a N : Nat} {f : Nat → Option Nat} (he : ws[q0]? = some (a, .inl (G.2.1.2.2, N, .inr (.inr (.inr (.inr f)))))) (hd : decode cc pc = .ok (.arraylength, 1)) (v : Int32) (hv : Int32.ofNat N = v) (pc' : Nat) (hp : pc + 1 = pc') (kk : JI E G nL k n ws pc' L (.int v :: st)) : JI E G nL k n ws pc L (.ref a :: st) := by
  subst hp
  obtain ⟨cx, cb, cm, cown, cts, cK, cN, cR, cX⟩ := C
  intro H locs ls hP hD hS hl
  exact va_alen cx cb cK hP q0 2 he rfl hv hd (kk H locs ls hP hD hS hl)
theorem ji_astq (C : CI E G own cc nL rm) (q0 qk : Nat) {a N v : Nat} {f : Nat → Option Nat} {vs : List Value} (he : ws[q0]? = some (a, .inl (G.2.1.2.2, N, .inr (.inr (.inr (.inr f)))))) (hv : ws[qk]? = some (v, .inr (5, vs))) {x : Int32} (hin : inA x N) (hd : decode cc pc = .ok (.aastore, 1)) (ws' : va_W) (hws : ws.set q0 (a, .inl (G.2.1.2.2, N, .inr (.inr (.inr (.inr (va_up f x.toNatClampNeg (some v))))))) = ws') (pc' : Nat) (hp : pc + 1 = pc') (kk : JI E G nL k n ws' pc' L st) : JI E G nL k n ws pc L (.ref v :: .int x :: .ref a :: st) := by
  subst hp; subst hws
  obtain ⟨cx, cb, cm, cown, cts, cK, cN, cR, cX⟩ := C
  intro H locs ls hP hD hS hl
  exact va_astq cx cb cK hP hD hS q0 2 qk 5 (r := (RX5, TX5, 8)) he rfl hv rfl (inA_in hin) hd (fun H1 locs1 hP1 hD1 hS1 => kk H1 locs1 ls hP1 hD1 hS1 hl)
theorem ji_iast (C : CI E G own cc nL rm) (q0 : Nat) {a N : Nat} {f : Nat → Int32} (he : ws[q0]? = some (a, .inl (G.2.1.1, N, .inl f))) {x v : Int32} (hin : inA x N) (hd : decode cc pc = .ok (.iastore, 1)) (ws' : va_W) (hws : ws.set q0 (a, .inl (G.2.1.1, N, .inl (upd f x.toNatClampNeg v))) = ws') (pc' : Nat) (hp : pc + 1 = pc') (kk : JI E G nL k n ws' pc' L st) : JI E G nL k n ws pc L (.int v :: .int x :: .ref a :: st) := by
  subst hp; subst hws
  obtain ⟨cx, cb, cm, cown, cts, cK, cN, cR, cX⟩ := C
  intro H locs ls hP hD hS hl
  exact va_iast cx cb cK hP hD hS q0 0 he rfl (inA_in hin) hd (fun H1 locs1 hP1 hD1 hS1 => kk H1 locs1 ls hP1 hD1 hS1 hl)
/-- an <init> of a cell that is at the front -/
theorem ji_call {mc ms : Nat} {a : Array Value} {rest : List Value} {post : (Nat → Nat) → va_W} (hr : ∀ (H : Heap) (locs : List Loc) (ls : Array Slot), va_P G.1 vwCl ws H → va_D (gF G) ws → va_S (gF G) (eS E).heap H locs → lv_has ls nL L → va_Run (eP E) (eL E) (eE E) (eR E) (eS E) (eM E) (eA E) (eB E) (eT E) (eC E) H locs k n mc ms (F0 (eM E) pc ls st) rest (Qi G post a) (gF G)) (k' n' : Nat) (hk : k + mc = k') (hn : n + ms = n') (pc' : Nat) (hp : pc + 3 = pc') (kk : ∀ b : Nat → Nat, JI E G nL k' n' (post b) pc' L rest) : JI E G nL k n ws pc L st := by
  subst hp; subst hk; subst hn
  intro H locs ls hP hD hS hl T hT X
  obtain ⟨v, st₀, t, T', L1, h0, X', hL, e1, e2, ⟨hv, ⟨b, hP1, hD1⟩, hz, hq⟩, stp⟩ := hr H locs ls hP hD hS hl T hT X
  cases hv
  rw [h0] at hz hq
  obtain ⟨t2, a1, b1⟩ := kk b T'.heap (locs ++ L1) ls (by rw [e1]; exact hP1) hD1 ⟨Nat.le_trans hS.1 (by rw [e1]; exact hz), fun q h1 h2 => by rw [e1, hq q (Nat.lt_of_lt_of_le h1 hS.1) h2]; exact hS.2.1 q h1 h2, fun q hq => by
      rcases List.mem_append.mp hq with h | h
      · exact hS.2.2 q h
      · exact hL q h⟩ hl T' rfl X'
  exact ⟨t2, stp t2 a1, b1⟩
/-- what a call of an <init> wants of the tables, but its link -/
def IK (y : MethodName) (bytes : ByteArray) (maxL nn : Nat) : Prop := Cond.code y bytes maxL none ∈ lw_all ∧ Cond.instanceMethod y ∈ lw_all ∧ Cond.initialized y.cls ∈ lw_all ∧ (y.cls ≠ "java/lang/invoke/MethodHandle" ∧ y.cls ≠ "java/lang/invoke/VarHandle" ∧ (parseMethodDescriptor y.desc).map (fun d => d.parameters.length) = some nn) ∧ y.name = "<init>"
theorem ji_init (C : CI E G own cc nL rm) {y : MethodName} {bytes : ByteArray} {maxL nn mc ms i : Nat} {rm' : Room} {as rest : List Value} {post : (Nat → Nat) → va_W} (ct : Ci (eL E) G y bytes maxL rm' (.ref i :: as) ws post mc ms) {idx : Nat} (vk : IK y bytes maxL nn) (w1 : Cond.methodLink own idx y ∈ lw_all) (hnn : as.length = nn) (hro : rm'.frames + 1 ≤ rm.frames ∧ 8 + (maxL + 11) + rm'.locals ≤ rm.locals ∧ rm'.cells = mc ∧ rm'.slots = ms) (hkn : k + mc ≤ rm.cells ∧ n + ms ≤ rm.slots)
    (hst : st = as.reverse ++ .ref i :: rest) (hcat : (rest.map fun v => v.category).sum ≤ 8) (hd : decode cc pc = .ok (.invokespecial idx, 3)) (k' n' : Nat) (hk : k + mc = k') (hn : n + ms = n') (pc' : Nat) (hp : pc + 3 = pc') (kk : ∀ b : Nat → Nat, JI E G nL k' n' (post b) pc' L rest) : JI E G nL k n ws pc L st := by
  refine ji_call (a := (Value.ref i :: as).toArray) (fun H locs ls hP hD hS hl => ?_) k' n' hk hn pc' hp kk
  obtain ⟨cx, cb, cm, cown, cts, cK, cN, cR, cX⟩ := C
  subst hst; subst hnn
  exact va_runI (As := as) (rest := rest) ⟨cx, cb, cm, cown, cts⟩ ct (cwI as.length cts (gd_self vk.1) rfl hro.2.2.1 hro.2.2.2 (cts _ vk.2.2.1) (cts _ w1) (cts _ vk.2.1) vk.2.2.2.2 vk.2.2.2.1 (by rw [cR]; exact ⟨hro.1, hro.2.1⟩)) ⟨Pi.blind, fun U hU hW => ⟨rfl, by rw [hU]; exact hP, hD, va_K.moved hW.alike cK, by rw [hU]; exact Nat.le_trans cN hS.1, XI.warm hW cX⟩⟩ rfl rfl hl.1 rfl (lv_room hcat) hd ⟨by rw [cR]; exact hkn.1, by rw [cR]; exact hkn.2⟩
theorem ji_initN (C : CI E G own cc nL rm) {y : MethodName} {bytes : ByteArray} {maxL nn mc ms i : Nat} {rm' : Room} {as rest : List Value} {post : (Nat → Nat) → va_W} (ct : Ci (eL E) G y bytes maxL rm' (.ref i :: as) ws post mc ms) {idx : Nat} {host : String} (vk : IK y bytes maxL nn) (w1 : Cond.methodLinkNest own idx y host ∈ lw_nest) (hnn : as.length = nn) (hro : rm'.frames + 1 ≤ rm.frames ∧ 8 + (maxL + 11) + rm'.locals ≤ rm.locals ∧ rm'.cells = mc ∧ rm'.slots = ms) (hkn : k + mc ≤ rm.cells ∧ n + ms ≤ rm.slots)
    (hst : st = as.reverse ++ .ref i :: rest) (hcat : (rest.map fun v => v.category).sum ≤ 8) (hd : decode cc pc = .ok (.invokespecial idx, 3)) (k' n' : Nat) (hk : k + mc = k') (hn : n + ms = n') (pc' : Nat) (hp : pc + 3 = pc') (kk : ∀ b : Nat → Nat, JI E G nL k' n' (post b) pc' L rest) : JI E G nL k n ws pc L st := by
  refine ji_call (a := (Value.ref i :: as).toArray) (fun H locs ls hP hD hS hl => ?_) k' n' hk hn pc' hp kk
  obtain ⟨cx, cb, cm, cown, cts, cK, cN, cR, cX⟩ := C
  subst hst; subst hnn
  exact va_runIN (As := as) (rest := rest) ⟨cx, cb, cm, cown, cts⟩ ct ⟨va_cnB as.length cts (gd_self vk.1) rfl hro.2.2.1 hro.2.2.2 (cX.1 _ w1) (cts _ vk.2.2.1) vk.2.2.2.1 (by rw [cR]; exact ⟨hro.1, hro.2.1⟩), vk.2.2.2.2, cts _ vk.2.1⟩ ⟨Pi.blind, fun U hU hW => ⟨rfl, by rw [hU]; exact hP, hD, va_K.moved hW.alike cK, by rw [hU]; exact Nat.le_trans cN hS.1, XI.warm hW cX⟩⟩ rfl rfl hl.1 rfl (lv_room hcat) hd ⟨by rw [cR]; exact hkn.1, by rw [cR]; exact hkn.2⟩
theorem ji_ret (C : CI E G own cc nL rm) {post : (Nat → Nat) → va_W} (F : Ei E G post k n) (hd : decode cc pc = .ok (.return_, 1)) (a : Nat → Nat) (h : ws = post a) : JI E G nL k n ws pc L [] := by
  subst h
  intro H locs ls hP hD hS hl
  rw [F.1]
  exact W.vret C.1 C.2.1 F.2.1 (fun t ht _ => ⟨rfl, ⟨a, by rw [ht]; exact hP, hD⟩, hS.F ht⟩) hS.2.2 hd F.2.2.1
end JIR
