/-! THE MEMORY OF THE WHOLE SYSTEM: 82 cells (0..81, the class's), at addresses that are variables; the numbers that they hold are a pure value (Mem). -/
abbrev Mem : Type := (Nat → Nat → Int32) × (Nat → Nat → Int64)
def up2 {α : Type} (f : Nat → Nat → α) (a b : Nat) (v : α) : Nat → Nat → α := fun i j => if i = a then (if j = b then v else f i j) else f i j
def setI (σ : Mem) (a b : Nat) (v : Int32) : Mem := (up2 σ.1 a b v, σ.2)
def setL (σ : Mem) (a b : Nat) (v : Int64) : Mem := (σ.1, up2 σ.2 a b v)
abbrev Shp : Type := (Nat × List Nat) ⊕ (Nat × Nat)
/-- fields: 0 an int, 1 a long, k + 2 the cell k; arrays: 0 of ints, 1 of longs, 2 the ring -/
def shpL : List Shp := [.inl (5, [3, 5, 0, 0, 0, 0, 0, 0]), .inl (3, [4, 0]), .inr (0, 60), .inl (0, [6, 7, 8, 0]), .inr (1, 24), .inr (0, 24), .inr (0, 24), .inl (5, [10, 12, 0, 0, 0, 0, 0, 0]), .inl (3, [11, 0]), .inr (0, 60), .inl (0, [13, 14, 15, 0]), .inr (1, 24), .inr (0, 24), .inr (0, 24), .inl (5, [17, 19, 0, 0, 0, 0, 0, 0]), .inl (3, [18, 0]), .inr (0, 60), .inl (0, [20, 21, 22, 0]), .inr (1, 24), .inr (0, 24), .inr (0, 24), .inl (5, [24, 26, 0, 0, 0, 0, 0, 0]), .inl (3, [25, 0]), .inr (0, 60), .inl (0, [27, 28, 29, 0]), .inr (1, 24), .inr (0, 24), .inr (0, 24), .inl (5, [31, 33, 0, 0, 0, 0, 0, 0]), .inl (3, [32, 0]), .inr (0, 60), .inl (0, [34, 35, 36, 0]), .inr (1, 24), .inr (0, 24), .inr (0, 24), .inl (5, [38, 40, 0, 0, 0, 0, 0, 0]), .inl (3, [39, 0]), .inr (0, 60), .inl (0, [41, 42, 43, 0]), .inr (1, 24), .inr (0, 24), .inr (0, 24), .inl (5, [45, 47, 0, 0, 0, 0, 0, 0]), .inl (3, [46, 0]), .inr (0, 60), .inl (0, [48, 49, 50, 0]), .inr (1, 24), .inr (0, 24), .inr (0, 24), .inl (5, [52, 54, 0, 0, 0, 0, 0, 0]), .inl (3, [53, 0]), .inr (0, 60), .inl (0, [55, 56, 57, 0]), .inr (1, 24), .inr (0, 24), .inr (0, 24), .inl (4, [59, 0, 0]), .inr (2, 6), .inl (1, [61]), .inl (3, [62, 0]), .inr (0, 60), .inl (2, [64, 66, 68]), .inl (3, [65, 0]), .inr (0, 61), .inl (3, [67, 0]), .inr (0, 61), .inl (3, [69, 0]), .inr (0, 61), .inl (2, [71, 73, 75]), .inl (3, [72, 0]), .inr (0, 61), .inl (3, [74, 0]), .inr (0, 61), .inl (3, [76, 0]), .inr (0, 61), .inl (3, [78, 0]), .inr (0, 61), .inl (3, [80, 0]), .inr (0, 60), .inl (3, [82, 0]), .inr (0, 61), .inl (6, [2, 9, 58, 60, 63, 77, 70, 79, 81, 0])]
def shp (i : Nat) : Shp := shpL.getD i (.inr (3, 0))
theorem shpL_len : shpL.length = 82 := rfl
theorem shp_big {i : Nat} (h : 82 ≤ i) : shp i = .inr (3, 0) := by
  unfold shp
  rw [List.getD_eq_getElem?_getD, List.getElem?_eq_none (by rw [shpL_len]; exact h)]
  rfl
theorem shp_lto {i : Nat} {q : Nat × List Nat} (h : shp i = .inl q) : i < 82 := by
  rcases Nat.lt_or_ge i 82 with c | c
  · exact c
  · rw [shp_big c] at h; cases h
theorem shp_lta {i t n : Nat} (h : shp i = .inr (t, n)) (ht : t ≠ 3) : i < 82 := by
  rcases Nat.lt_or_ge i 82 with c | c
  · exact c
  · rw [shp_big c] at h; cases h; exact absurd rfl ht
def fv (ad : Nat → Nat) (σ : Mem) (i j d : Nat) : Value := if d = 0 then .int (σ.1 i j) else if d = 1 then .long (σ.2 i j) else .ref (ad (d - 2))
def fvs (ad : Nat → Nat) (σ : Mem) (i : Nat) : Nat → List Nat → List Value
  | _, [] => []
  | j, d :: ds => fv ad σ i j d :: fvs ad σ i (j + 1) ds
theorem fvs_at {ad : Nat → Nat} {σ : Mem} {i : Nat} : ∀ (ds : List Nat) (j k : Nat), (fvs ad σ i j ds)[k]? = (ds[k]?).map (fun d => fv ad σ i (j + k) d)
  | [], j, k => by simp [fvs]
  | d :: ds, j, 0 => by simp [fvs]
  | d :: ds, j, k + 1 => by
    rw [fvs, List.getElem?_cons_succ, List.getElem?_cons_succ, fvs_at ds (j + 1) k, show j + 1 + k = j + (k + 1) by omega]
theorem fvs_len {ad : Nat → Nat} {σ : Mem} {i : Nat} : ∀ (ds : List Nat) (j : Nat), (fvs ad σ i j ds).length = ds.length
  | [], j => rfl
  | d :: ds, j => by rw [fvs, List.length_cons, List.length_cons, fvs_len ds (j + 1)]
theorem fvs_congr {ad : Nat → Nat} {σ σ' : Mem} {i : Nat} (h1 : σ'.1 i = σ.1 i) (h2 : σ'.2 i = σ.2 i) (ds : List Nat) (j : Nat) : fvs ad σ' i j ds = fvs ad σ i j ds := by
  refine List.ext_getElem? (fun k => ?_)
  rw [fvs_at, fvs_at]
  congr 1
  funext d
  unfold fv
  rw [h1, h2]
theorem setI_1s {σ : Mem} {a b : Nat} {v : Int32} : (setI σ a b v).1 a b = v := by simp [setI, up2]
theorem setI_1n {σ : Mem} {a b i j : Nat} {v : Int32} (h : ¬ (i = a ∧ j = b)) : (setI σ a b v).1 i j = σ.1 i j := by
  simp only [setI, up2]
  split
  · split
    · exact absurd ⟨by assumption, by assumption⟩ h
    · rfl
  · rfl
theorem setI_1r {σ : Mem} {a b i : Nat} {v : Int32} (h : i ≠ a) : (setI σ a b v).1 i = σ.1 i := by
  funext j
  exact setI_1n (fun q => h q.1)
theorem setI_2 {σ : Mem} {a b : Nat} {v : Int32} : (setI σ a b v).2 = σ.2 := rfl
theorem setL_2s {σ : Mem} {a b : Nat} {v : Int64} : (setL σ a b v).2 a b = v := by simp [setL, up2]
theorem setL_2n {σ : Mem} {a b i j : Nat} {v : Int64} (h : ¬ (i = a ∧ j = b)) : (setL σ a b v).2 i j = σ.2 i j := by
  simp only [setL, up2]
  split
  · split
    · exact absurd ⟨by assumption, by assumption⟩ h
    · rfl
  · rfl
theorem setL_2r {σ : Mem} {a b i : Nat} {v : Int64} (h : i ≠ a) : (setL σ a b v).2 i = σ.2 i := by
  funext j
  exact setL_2n (fun q => h q.1)
theorem setL_1 {σ : Mem} {a b : Nat} {v : Int64} : (setL σ a b v).1 = σ.1 := rfl
theorem fvs_setI {ad : Nat → Nat} {σ : Mem} {i k : Nat} {v : Int32} (ds : List Nat) (h : ds[k]? = some 0) : fvs ad (setI σ i k v) i 0 ds = (fvs ad σ i 0 ds).set k (.int v) := by
  refine List.ext_getElem? (fun x => ?_)
  rw [List.getElem?_set, fvs_at, fvs_at, fvs_len, Nat.zero_add]
  by_cases hx : k = x
  · subst hx
    rw [if_pos rfl, if_pos (List.getElem?_eq_some_iff.mp h).1, h]
    simp [fv, setI_1s]
  · rw [if_neg hx]
    congr 1
    funext d
    unfold fv
    rw [setI_1n (fun q => hx q.2.symm), setI_2]
theorem fvs_setL {ad : Nat → Nat} {σ : Mem} {i k : Nat} {v : Int64} (ds : List Nat) (h : ds[k]? = some 1) : fvs ad (setL σ i k v) i 0 ds = (fvs ad σ i 0 ds).set k (.long v) := by
  refine List.ext_getElem? (fun x => ?_)
  rw [List.getElem?_set, fvs_at, fvs_at, fvs_len, Nat.zero_add]
  by_cases hx : k = x
  · subst hx
    rw [if_pos rfl, if_pos (List.getElem?_eq_some_iff.mp h).1, h]
    simp [fv, setL_2s]
  · rw [if_neg hx]
    congr 1
    funext d
    unfold fv
    rw [setL_2n (fun q => hx q.2.symm), setL_1]
abbrev Cls : Type := ClassId × ClassId × ClassId
def wE (cs : Cls) (ad : Nat → Nat) (σ : Mem) (i : Nat) : va_E := match shp i with
  | .inl (ci, ds) => .inr (ci, fvs ad σ i 0 ds)
  | .inr (t, n) => if t = 0 then .inl (cs.1, n, .inl (σ.1 i)) else if t = 1 then .inl (cs.2.1, n, .inr (.inl (σ.2 i))) else .inl (cs.2.2, n, .inr (.inr (.inr (.inr (fun j => some (ad (14 + 7 * j)))))))
theorem wE_o {cs : Cls} {ad : Nat → Nat} {σ : Mem} {i ci : Nat} {ds : List Nat} (h : shp i = .inl (ci, ds)) : wE cs ad σ i = .inr (ci, fvs ad σ i 0 ds) := by unfold wE; rw [h]
theorem wE_i {cs : Cls} {ad : Nat → Nat} {σ : Mem} {i n : Nat} (h : shp i = .inr (0, n)) : wE cs ad σ i = .inl (cs.1, n, .inl (σ.1 i)) := by unfold wE; rw [h]; rfl
theorem wE_l {cs : Cls} {ad : Nat → Nat} {σ : Mem} {i n : Nat} (h : shp i = .inr (1, n)) : wE cs ad σ i = .inl (cs.2.1, n, .inr (.inl (σ.2 i))) := by unfold wE; rw [h]; rfl
theorem wE_r {cs : Cls} {ad : Nat → Nat} {σ : Mem} {i n : Nat} (h : shp i = .inr (2, n)) : wE cs ad σ i = .inl (cs.2.2, n, .inr (.inr (.inr (.inr (fun j => some (ad (14 + 7 * j))))))) := by unfold wE; rw [h]; rfl
theorem wE_congr {cs : Cls} {ad : Nat → Nat} {σ σ' : Mem} {i : Nat} (h1 : σ'.1 i = σ.1 i) (h2 : σ'.2 i = σ.2 i) : wE cs ad σ' i = wE cs ad σ i := by
  unfold wE
  split
  · rw [fvs_congr h1 h2]
  · rw [h1, h2]
def wld (cs : Cls) (ad : Nat → Nat) (σ : Mem) : va_W := (List.range 82).map (fun i => (ad i, wE cs ad σ i))
theorem wld_at {cs : Cls} {ad : Nat → Nat} {σ : Mem} {i : Nat} (hi : i < 82) : (wld cs ad σ)[i]? = some (ad i, wE cs ad σ i) := by
  unfold wld
  rw [List.getElem?_map, List.getElem?_range hi]
  rfl
theorem wld_in {cs : Cls} {ad : Nat → Nat} {σ : Mem} {i : Nat} {q : Nat × va_E} (h : (wld cs ad σ)[i]? = some q) : i < 82 ∧ q = (ad i, wE cs ad σ i) := by
  have hl : i < 82 := by
    have h1 := (List.getElem?_eq_some_iff.mp h).1
    simpa [wld] using h1
  rw [wld_at hl] at h
  exact ⟨hl, (Option.some.inj h).symm⟩
theorem wld_set {cs : Cls} {ad : Nat → Nat} {σ σ' : Mem} {i : Nat} {e : va_E} (hi : i < 82) (he : wE cs ad σ' i = e) (ho : ∀ j, j ≠ i → wE cs ad σ' j = wE cs ad σ j) : (wld cs ad σ).set i (ad i, e) = wld cs ad σ' := by
  refine List.ext_getElem? (fun x => ?_)
  rw [List.getElem?_set]
  by_cases hx : i = x
  · subst hx
    rw [if_pos rfl, wld_at hi, he, if_pos (by simpa [wld] using hi)]
  · rw [if_neg hx]
    rcases Nat.lt_or_ge x 82 with c | c
    · rw [wld_at c, wld_at c, ho x (fun q => hx q.symm)]
    · rw [List.getElem?_eq_none (by simpa [wld] using c), List.getElem?_eq_none (by simpa [wld] using c)]
theorem wld_setI_f {cs : Cls} {ad : Nat → Nat} {σ : Mem} {i k ci : Nat} {ds : List Nat} {v : Int32} (hs : shp i = .inl (ci, ds)) (hk : ds[k]? = some 0) : (wld cs ad σ).set i (ad i, .inr (ci, (fvs ad σ i 0 ds).set k (.int v))) = wld cs ad (setI σ i k v) :=
  wld_set (shp_lto hs) (by rw [wE_o hs, fvs_setI ds hk]) (fun _ hj => wE_congr (setI_1r hj) rfl)
theorem wld_setL_f {cs : Cls} {ad : Nat → Nat} {σ : Mem} {i k ci : Nat} {ds : List Nat} {v : Int64} (hs : shp i = .inl (ci, ds)) (hk : ds[k]? = some 1) : (wld cs ad σ).set i (ad i, .inr (ci, (fvs ad σ i 0 ds).set k (.long v))) = wld cs ad (setL σ i k v) :=
  wld_set (shp_lto hs) (by rw [wE_o hs, fvs_setL ds hk]) (fun _ hj => wE_congr rfl (setL_2r hj))
theorem wld_setI_a {cs : Cls} {ad : Nat → Nat} {σ : Mem} {i n k : Nat} {v : Int32} (hs : shp i = .inr (0, n)) : (wld cs ad σ).set i (ad i, .inl (cs.1, n, .inl (upd (σ.1 i) k v))) = wld cs ad (setI σ i k v) :=
  wld_set (shp_lta hs (by decide)) (by
    rw [wE_i hs]
    have h : (setI σ i k v).1 i = upd (σ.1 i) k v := by funext j; simp [setI, up2, upd]
    rw [h]) (fun _ hj => wE_congr (setI_1r hj) rfl)
theorem wld_setL_a {cs : Cls} {ad : Nat → Nat} {σ : Mem} {i n k : Nat} {v : Int64} (hs : shp i = .inr (1, n)) : (wld cs ad σ).set i (ad i, .inl (cs.2.1, n, .inr (.inl (vp_updL (σ.2 i) k v)))) = wld cs ad (setL σ i k v) :=
  wld_set (shp_lta hs (by decide)) (by
    rw [wE_l hs]
    have h : (setL σ i k v).2 i = vp_updL (σ.2 i) k v := by funext j; simp [setL, up2, vp_updL]
    rw [h]) (fun _ hj => wE_congr rfl (setL_2r hj))
def AdOk (N0 : Nat) (ad : Nat → Nat) : Prop := (∀ i j, i < 82 → j < 82 → ad i = ad j → i = j) ∧ ∀ i, i < 82 → N0 ≤ ad i
theorem wld_D {N0 : Nat} {cs : Cls} {ad : Nat → Nat} {σ : Mem} (h : AdOk N0 ad) : va_D (fun q => N0 ≤ q) (wld cs ad σ) := by
  refine ⟨fun i j p q hp hq hpq => ?_, fun k q hq => ?_⟩
  · obtain ⟨h1, rfl⟩ := wld_in hp
    obtain ⟨h2, rfl⟩ := wld_in hq
    exact h.1 i j h1 h2 hpq
  · obtain ⟨h1, rfl⟩ := wld_in hq
    exact h.2 k h1
abbrev Gw : Type := va_G × Cls × (Nat → Nat) × Nat
abbrev gA (G : Gw) (i : Nat) : Nat := G.2.2.1 i
abbrev gW (G : Gw) (σ : Mem) : va_W := wld G.2.1 G.2.2.1 σ
abbrev gF (G : Gw) : Nat → Prop := fun q => G.2.2.2 ≤ q
abbrev tysOf (cs : Cls) : List (ClassId × FieldType) := [(cs.1, .int), (cs.2.1, .long), (cs.2.2, .object "StenoChords$State")]
/-- what the world outside holds, and stays: the letters' String, some statics, words that a call keeps by other laws -/
def lw_nw : List Cond := [.declares ⟨"java/lang/RuntimeException", "<init>", "(Ljava/lang/String;)V"⟩, .declares ⟨"java/lang/Exception", "<init>", "(Ljava/lang/String;)V"⟩, .declares ⟨"java/lang/Throwable", "<init>", "(Ljava/lang/String;)V"⟩, .castable "java/lang/IllegalArgumentException" "java/lang/IllegalArgumentException", .castable "java/lang/IllegalStateException" "java/lang/IllegalStateException", .castable "java/lang/IndexOutOfBoundsException" "java/lang/IndexOutOfBoundsException"]
def ltr (j : Nat) : Int32 := ([115, 116, 107, 112, 97, 111, 101, 114, 108, 100] : List Int32).getD j 0
def strTab : List (Nat × String) := [(256, "not 1 to 3 strokes"), (60, "no such stroke"), (231, "no such number"), (140, "no such word"), (71, "no room for a stroke, or nothing to eat"), (122, "no such item or entry"), (132, "the entry has another row"), (145, "the buffer is not 1 to 4 strokes"), (159, "24 entries, or one with this row and word"), (166, "no such entry"), (171, "no such setting"), (177, "no such value of the setting"), (189, "no such character code"), (192, "the buffer is full"), (207, "there is no snapshot"), (210, "there is no saved state"), (216, "no such place"), (218, "no such item"), (220, "no such number of an item"), (226, "no such number of an entry")]
def Xt (G : Gw) (U : State) (H : Heap) : Prop :=
  va_O "java/lang/String" (gA G 92) (gF G) U H ∧ va_OF "java/lang/String" "coder" "B" (.int 0) (gA G 92) (gF G) U H ∧ va_OF "java/lang/String" "value" "[B" (.ref (gA G 93)) (gA G 92) (gF G) U H ∧ va_T .byte (gA G 93) 10 (fun j => .int (ltr j)) (gF G) U H ∧ va_Z "java/lang/String" "COMPACT_STRINGS" "Z" (.int 1) (gF G) U H ∧ vk_R RX1 42 "stkpaoerld" (gA G 92) U ∧ vx_Zq Bundle.tN "UNASSIGNED_STACK" Bundle.steD (gF G) U H ∧ vx_Zq Bundle.tN "SUPPRESSED_SENTINEL" Bundle.listD (gF G) U H ∧ (∀ w ∈ lw_nw, va_Nw w U) ∧ ∀ q ∈ strTab, ∃ a, vk_R RX6 q.1 q.2 a U
theorem nw_warm {s U : State} (hW : s.WarmedH U.vm) {w : Cond} (hw : w ∈ lw_nw) (h : va_Nw w s) : va_Nw w U := by
  simp only [lw_nw, List.mem_cons, List.not_mem_nil, or_false] at hw
  rcases hw with rfl | rfl | rfl | rfl | rfl | rfl
  · exact va_Nw.warmD hW h
  · exact va_Nw.warmD hW h
  · exact va_Nw.warmD hW h
  · exact va_tabs rfl (rfl : (s.setVm U.vm).vm = U.vm) (by rw [Cond.castable_setVm hW.alike]; exact h)
  · exact va_tabs rfl (rfl : (s.setVm U.vm).vm = U.vm) (by rw [Cond.castable_setVm hW.alike]; exact h)
  · exact va_tabs rfl (rfl : (s.setVm U.vm).vm = U.vm) (by rw [Cond.castable_setVm hW.alike]; exact h)
theorem Xt.warm {G : Gw} {s U : State} {H : Heap} (hW : s.WarmedH U.vm) (h : Xt G s H) : Xt G U H := by
  obtain ⟨h1, h2, h3, h4, h5, h6, h7, h8, h9, h10⟩ := h
  refine ⟨va_O.moved hW.alike h1, va_OF.moved hW.alike h2, va_OF.moved hW.alike h3, va_T.moved hW.alike h4, va_Z.moved hW.alike h5, vk_R.warm hW h6, vx_Zq.moved hW.alike h7, vx_Zq.moved hW.alike h8, fun w hw => nw_warm hW hw (h9 w hw), fun q hq => ?_⟩
  obtain ⟨a, ha⟩ := h10 q hq
  exact ⟨a, vk_R.warm hW ha⟩
theorem Xt.kept {G : Gw} {U : State} {H H1 : Heap} (h : Xt G U H) (hq : ∀ a : Nat, a < H.size → ¬ gF G a → H1[a]? = H[a]?) : Xt G U H1 := by
  obtain ⟨h1, h2, h3, h4, h5, h6, h7, h8, h9, h10⟩ := h
  exact ⟨h1.kept hq, h2.kept hq, h3.kept hq, h4.kept hq, h5.kept hq, h6, h7.kept hq, h8.kept hq, h9, h10⟩
/-- a method's own run: program, launch, env, room, state, method, arguments, frames below, its record, its code, what is to come -/
abbrev Ev := Program × Launch × Env × Room × State × MethodId × Array Value × List Frame × Method × Code × (State → Prop)
abbrev eP (E : Ev) := E.1
abbrev eL (E : Ev) := E.2.1
abbrev eE (E : Ev) := E.2.2.1
abbrev eR (E : Ev) := E.2.2.2.1
abbrev eS (E : Ev) := E.2.2.2.2.1
abbrev eM (E : Ev) := E.2.2.2.2.2.1
abbrev eA (E : Ev) := E.2.2.2.2.2.2.1
abbrev eB (E : Ev) := E.2.2.2.2.2.2.2.1
abbrev eT (E : Ev) := E.2.2.2.2.2.2.2.2.1
abbrev eC (E : Ev) := E.2.2.2.2.2.2.2.2.2.1
abbrev eQ (E : Ev) := E.2.2.2.2.2.2.2.2.2.2
/-- THE JUDGEMENT: over any heap that holds the memory σ, the machine at pc with these locals and this stack comes to what is wanted -/
def J (E : Ev) (G : Gw) (nL k n : Nat) (σ : Mem) (pc : Nat) (L : List (Nat × Value)) (st : List Value) : Prop :=
  ∀ (H : Heap) (locs : List Loc) (ls : Array Slot), va_P G.1 vwCl (gW G σ) H → va_S (gF G) (eS E).heap H locs → lv_has ls nL L →
    W (eP E) (eL E) (eE E) (eR E) (eS E) (eM E) (eA E) (eB E) (eT E) (eC E) H locs k n (eQ E) (F0 (eM E) pc ls st)
/-- what stands all through a method's run -/
def Cx (E : Ev) (G : Gw) (own : String) (cc : ByteArray) (nL : Nat) (rm : Room) : Prop :=
  (eP E).tables.exec = Jvm.exec ∧ (eC E).code = cc ∧ (eC E).maxLocals = nL ∧ (eS E).vm.findClass own = some (eM E).cls ∧ (∀ w ∈ lw_all, w.before (eA E) (eS E) = true) ∧ va_K G.1 vwCl (tysOf G.2.1) (eS E) ∧ AdOk G.2.2.2 G.2.2.1 ∧ G.2.2.2 ≤ (eS E).heap.size ∧ eR E = rm ∧ Xt G (eS E) (eS E).heap
abbrev inA (x : Int32) (n : Nat) : Prop := 0 ≤ x.toInt ∧ x.toInt < (n : Int)
theorem ldcw_f {p : Program} {l : Launch} {e : Env} {R : Room} {s : State} {m : MethodId} {args : Array Value} {below : List Frame} {meth : Method} {c : Code} {locs : List Loc} {cells slots : Nat} {T : State} (X : Stand p l e R s m args below meth c T locs cells slots) (hexec : p.tables.exec = Jvm.exec) {own : String} {index : Nat} {v : UInt32} (hown : s.vm.findClass own = some m.cls)
    (hconst : (Cond.constantFloat own index v).before args s = true) {g : JFrame} (hg : g.method = m) (hdg : decode c.code g.pc = .ok (.ldc_w index, 3)) :
    ∀ target, Steps p.tables e below (T.setTop { g with pc := g.pc + 3, stack := .float v :: g.stack }) target → Steps p.tables e below (T.setTop g) target := by
  obtain ⟨k, cf, hk, hcf, hcp⟩ := Cond.constantFloat_spec hown hconst
  obtain ⟨k', hk', he⟩ := X.warmed.alike.2.2 _ _ hk
  intro target hrest
  subst hg
  jvm_step X.here [hexec, hdg, ldc_w.wp_float (s := T) (f := g) X.here.top hk' (by rw [he]; exact hcf) hcp]
  exact hrest
section ROWS
variable {E : Ev} {G : Gw} {own : String} {cc : ByteArray} {nL : Nat} {rm : Room} {k n : Nat} {σ : Mem} {pc : Nat} {L : List (Nat × Value)} {st : List Value}
theorem j_sub (L' : List (Nat × Value)) (ks : List Nat) (h : lv_pick L ks = L') (kk : J E G nL k n σ pc L' st) : J E G nL k n σ pc L st :=
  fun H locs ls hP hS hl => kk H locs ls hP hS (lv_sub hl ks h)
theorem j_mem {σ' : Mem} (h : σ = σ') (kk : J E G nL k n σ' pc L st) : J E G nL k n σ pc L st := h ▸ kk
theorem j_pc {pc' : Nat} (h : pc = pc') (kk : J E G nL k n σ pc' L st) : J E G nL k n σ pc L st := h ▸ kk
theorem j_widen {k' n' : Nat} (h1 : k ≤ k') (h2 : n ≤ n') (kk : J E G nL k' n' σ pc L st) : J E G nL k n σ pc L st :=
  fun H locs ls hP hS hl => W.widen h1 h2 (kk H locs ls hP hS hl)
theorem j_iconst (C : Cx E G own cc nL rm) {z : Int} (hd : decode cc pc = .ok (.iconst z, 1)) (v : Int32) (hv : Int32.ofInt z = v) (pc' : Nat) (hp : pc + 1 = pc') (kk : J E G nL k n σ pc' L (.int v :: st)) : J E G nL k n σ pc L (st) := by
  subst hp
  exact fun H locs ls hP hS hl => lv_iconst C.1 C.2.1 hd hv (kk H locs ls hP hS hl)
theorem j_bipush (C : Cx E G own cc nL rm) {z : Int} (hd : decode cc pc = .ok (.bipush z, 2)) (v : Int32) (hv : (Int8.ofInt z).toInt32 = v) (pc' : Nat) (hp : pc + 2 = pc') (kk : J E G nL k n σ pc' L (.int v :: st)) : J E G nL k n σ pc L (st) := by
  subst hp
  exact fun H locs ls hP hS hl => lv_bipush C.1 C.2.1 hd hv (kk H locs ls hP hS hl)
theorem j_sipush (C : Cx E G own cc nL rm) {z : Int} (hd : decode cc pc = .ok (.sipush z, 3)) (v : Int32) (hv : (Int16.ofInt z).toInt32 = v) (pc' : Nat) (hp : pc + 3 = pc') (kk : J E G nL k n σ pc' L (.int v :: st)) : J E G nL k n σ pc L (st) := by
  subst hp
  exact fun H locs ls hP hS hl => lv_sipush C.1 C.2.1 hd hv (kk H locs ls hP hS hl)
theorem j_lconst (C : Cx E G own cc nL rm) {z : Fin 2} (hd : decode cc pc = .ok (.lconst z, 1)) (v : Int64) (hv : Int64.ofNat (z : Nat) = v) (pc' : Nat) (hp : pc + 1 = pc') (kk : J E G nL k n σ pc' L (.long v :: st)) : J E G nL k n σ pc L (st) := by
  subst hp
  exact fun H locs ls hP hS hl => lv_lconst C.1 C.2.1 hd hv (kk H locs ls hP hS hl)
theorem j_iload_n (C : Cx E G own cc nL rm) {z : Fin 4} (hd : decode cc pc = .ok (.iload_n z, 1)) {i : Nat} (hi : (z : Nat) = i) (q : Nat) {x : Int32} (hL : L[q]? = some (i, .int x)) (pc' : Nat) (hp : pc + 1 = pc') (kk : J E G nL k n σ pc' L (.int x :: st)) : J E G nL k n σ pc L (st) := by
  subst hp
  exact fun H locs ls hP hS hl => lv_iload_n C.1 C.2.1 hd hi (lv_at hl q hL) (kk H locs ls hP hS hl)
theorem j_iload (C : Cx E G own cc nL rm) {i : Nat} (hd : decode cc pc = .ok (.iload i, 2)) (q : Nat) {x : Int32} (hL : L[q]? = some (i, .int x)) (pc' : Nat) (hp : pc + 2 = pc') (kk : J E G nL k n σ pc' L (.int x :: st)) : J E G nL k n σ pc L (st) := by
  subst hp
  exact fun H locs ls hP hS hl => lv_iload C.1 C.2.1 hd (lv_at hl q hL) (kk H locs ls hP hS hl)
theorem j_lload_n (C : Cx E G own cc nL rm) {z : Fin 4} (hd : decode cc pc = .ok (.lload_n z, 1)) {i : Nat} (hi : (z : Nat) = i) (q : Nat) {x : Int64} (hL : L[q]? = some (i, .long x)) (pc' : Nat) (hp : pc + 1 = pc') (kk : J E G nL k n σ pc' L (.long x :: st)) : J E G nL k n σ pc L (st) := by
  subst hp
  exact fun H locs ls hP hS hl => lv_lload_n C.1 C.2.1 hd hi (lv_at hl q hL) (kk H locs ls hP hS hl)
theorem j_lload (C : Cx E G own cc nL rm) {i : Nat} (hd : decode cc pc = .ok (.lload i, 2)) (q : Nat) {x : Int64} (hL : L[q]? = some (i, .long x)) (pc' : Nat) (hp : pc + 2 = pc') (kk : J E G nL k n σ pc' L (.long x :: st)) : J E G nL k n σ pc L (st) := by
  subst hp
  exact fun H locs ls hP hS hl => lv_lload C.1 C.2.1 hd (lv_at hl q hL) (kk H locs ls hP hS hl)
theorem j_aload_n (C : Cx E G own cc nL rm) {z : Fin 4} (hd : decode cc pc = .ok (.aload_n z, 1)) {i : Nat} (hi : (z : Nat) = i) (q : Nat) {x : Nat} (hL : L[q]? = some (i, .ref x)) (pc' : Nat) (hp : pc + 1 = pc') (kk : J E G nL k n σ pc' L (.ref x :: st)) : J E G nL k n σ pc L (st) := by
  subst hp
  exact fun H locs ls hP hS hl => lv_aload_n C.1 C.2.1 hd hi (lv_at hl q hL) (kk H locs ls hP hS hl)
theorem j_aload (C : Cx E G own cc nL rm) {i : Nat} (hd : decode cc pc = .ok (.aload i, 2)) (q : Nat) {x : Nat} (hL : L[q]? = some (i, .ref x)) (pc' : Nat) (hp : pc + 2 = pc') (kk : J E G nL k n σ pc' L (.ref x :: st)) : J E G nL k n σ pc L (st) := by
  subst hp
  exact fun H locs ls hP hS hl => lv_aload C.1 C.2.1 hd (lv_at hl q hL) (kk H locs ls hP hS hl)
theorem j_fload_n (C : Cx E G own cc nL rm) {z : Fin 4} (hd : decode cc pc = .ok (.fload_n z, 1)) {i : Nat} (hi : (z : Nat) = i) (q : Nat) {x : UInt32} (hL : L[q]? = some (i, .float x)) (pc' : Nat) (hp : pc + 1 = pc') (kk : J E G nL k n σ pc' L (.float x :: st)) : J E G nL k n σ pc L (st) := by
  subst hp
  exact fun H locs ls hP hS hl => lv_fload_n C.1 C.2.1 hd hi (lv_at hl q hL) (kk H locs ls hP hS hl)
theorem j_fload (C : Cx E G own cc nL rm) {i : Nat} (hd : decode cc pc = .ok (.fload i, 2)) (q : Nat) {x : UInt32} (hL : L[q]? = some (i, .float x)) (pc' : Nat) (hp : pc + 2 = pc') (kk : J E G nL k n σ pc' L (.float x :: st)) : J E G nL k n σ pc L (st) := by
  subst hp
  exact fun H locs ls hP hS hl => lv_fload C.1 C.2.1 hd (lv_at hl q hL) (kk H locs ls hP hS hl)
theorem j_dload_n (C : Cx E G own cc nL rm) {z : Fin 4} (hd : decode cc pc = .ok (.dload_n z, 1)) {i : Nat} (hi : (z : Nat) = i) (q : Nat) {x : UInt64} (hL : L[q]? = some (i, .double x)) (pc' : Nat) (hp : pc + 1 = pc') (kk : J E G nL k n σ pc' L (.double x :: st)) : J E G nL k n σ pc L (st) := by
  subst hp
  exact fun H locs ls hP hS hl => lv_dload_n C.1 C.2.1 hd hi (lv_at hl q hL) (kk H locs ls hP hS hl)
theorem j_dload (C : Cx E G own cc nL rm) {i : Nat} (hd : decode cc pc = .ok (.dload i, 2)) (q : Nat) {x : UInt64} (hL : L[q]? = some (i, .double x)) (pc' : Nat) (hp : pc + 2 = pc') (kk : J E G nL k n σ pc' L (.double x :: st)) : J E G nL k n σ pc L (st) := by
  subst hp
  exact fun H locs ls hP hS hl => lv_dload C.1 C.2.1 hd (lv_at hl q hL) (kk H locs ls hP hS hl)
theorem j_iadd (C : Cx E G own cc nL rm) {x y : Int32} (hd : decode cc pc = .ok (.iadd, 1)) (pc' : Nat) (hp : pc + 1 = pc') (kk : J E G nL k n σ pc' L (.int (x + y) :: st)) : J E G nL k n σ pc L (.int y :: .int x :: st) := by
  subst hp
  exact fun H locs ls hP hS hl => lv_iadd C.1 C.2.1 hd (kk H locs ls hP hS hl)
theorem j_isub (C : Cx E G own cc nL rm) {x y : Int32} (hd : decode cc pc = .ok (.isub, 1)) (pc' : Nat) (hp : pc + 1 = pc') (kk : J E G nL k n σ pc' L (.int (x - y) :: st)) : J E G nL k n σ pc L (.int y :: .int x :: st) := by
  subst hp
  exact fun H locs ls hP hS hl => lv_isub C.1 C.2.1 hd (kk H locs ls hP hS hl)
theorem j_imul (C : Cx E G own cc nL rm) {x y : Int32} (hd : decode cc pc = .ok (.imul, 1)) (pc' : Nat) (hp : pc + 1 = pc') (kk : J E G nL k n σ pc' L (.int (x * y) :: st)) : J E G nL k n σ pc L (.int y :: .int x :: st) := by
  subst hp
  exact fun H locs ls hP hS hl => lv_imul C.1 C.2.1 hd (kk H locs ls hP hS hl)
theorem j_iand (C : Cx E G own cc nL rm) {x y : Int32} (hd : decode cc pc = .ok (.iand, 1)) (pc' : Nat) (hp : pc + 1 = pc') (kk : J E G nL k n σ pc' L (.int (x &&& y) :: st)) : J E G nL k n σ pc L (.int y :: .int x :: st) := by
  subst hp
  exact fun H locs ls hP hS hl => lv_iand C.1 C.2.1 hd (kk H locs ls hP hS hl)
theorem j_ior (C : Cx E G own cc nL rm) {x y : Int32} (hd : decode cc pc = .ok (.ior, 1)) (pc' : Nat) (hp : pc + 1 = pc') (kk : J E G nL k n σ pc' L (.int (x ||| y) :: st)) : J E G nL k n σ pc L (.int y :: .int x :: st) := by
  subst hp
  exact fun H locs ls hP hS hl => lv_ior C.1 C.2.1 hd (kk H locs ls hP hS hl)
theorem j_ixor (C : Cx E G own cc nL rm) {x y : Int32} (hd : decode cc pc = .ok (.ixor, 1)) (pc' : Nat) (hp : pc + 1 = pc') (kk : J E G nL k n σ pc' L (.int (x ^^^ y) :: st)) : J E G nL k n σ pc L (.int y :: .int x :: st) := by
  subst hp
  exact fun H locs ls hP hS hl => lv_ixor C.1 C.2.1 hd (kk H locs ls hP hS hl)
theorem j_ladd (C : Cx E G own cc nL rm) {x y : Int64} (hd : decode cc pc = .ok (.ladd, 1)) (pc' : Nat) (hp : pc + 1 = pc') (kk : J E G nL k n σ pc' L (.long (x + y) :: st)) : J E G nL k n σ pc L (.long y :: .long x :: st) := by
  subst hp
  exact fun H locs ls hP hS hl => lv_ladd C.1 C.2.1 hd (kk H locs ls hP hS hl)
theorem j_lsub (C : Cx E G own cc nL rm) {x y : Int64} (hd : decode cc pc = .ok (.lsub, 1)) (pc' : Nat) (hp : pc + 1 = pc') (kk : J E G nL k n σ pc' L (.long (x - y) :: st)) : J E G nL k n σ pc L (.long y :: .long x :: st) := by
  subst hp
  exact fun H locs ls hP hS hl => lv_lsub C.1 C.2.1 hd (kk H locs ls hP hS hl)
theorem j_lmul (C : Cx E G own cc nL rm) {x y : Int64} (hd : decode cc pc = .ok (.lmul, 1)) (pc' : Nat) (hp : pc + 1 = pc') (kk : J E G nL k n σ pc' L (.long (x * y) :: st)) : J E G nL k n σ pc L (.long y :: .long x :: st) := by
  subst hp
  exact fun H locs ls hP hS hl => lv_lmul C.1 C.2.1 hd (kk H locs ls hP hS hl)
theorem j_land (C : Cx E G own cc nL rm) {x y : Int64} (hd : decode cc pc = .ok (.land, 1)) (pc' : Nat) (hp : pc + 1 = pc') (kk : J E G nL k n σ pc' L (.long (x &&& y) :: st)) : J E G nL k n σ pc L (.long y :: .long x :: st) := by
  subst hp
  exact fun H locs ls hP hS hl => lv_land C.1 C.2.1 hd (kk H locs ls hP hS hl)
theorem j_lor (C : Cx E G own cc nL rm) {x y : Int64} (hd : decode cc pc = .ok (.lor, 1)) (pc' : Nat) (hp : pc + 1 = pc') (kk : J E G nL k n σ pc' L (.long (x ||| y) :: st)) : J E G nL k n σ pc L (.long y :: .long x :: st) := by
  subst hp
  exact fun H locs ls hP hS hl => lv_lor C.1 C.2.1 hd (kk H locs ls hP hS hl)
theorem j_lxor (C : Cx E G own cc nL rm) {x y : Int64} (hd : decode cc pc = .ok (.lxor, 1)) (pc' : Nat) (hp : pc + 1 = pc') (kk : J E G nL k n σ pc' L (.long (x ^^^ y) :: st)) : J E G nL k n σ pc L (.long y :: .long x :: st) := by
  subst hp
  exact fun H locs ls hP hS hl => lv_lxor C.1 C.2.1 hd (kk H locs ls hP hS hl)
theorem j_ishl (C : Cx E G own cc nL rm) {x y : Int32} (hd : decode cc pc = .ok (.ishl, 1)) (pc' : Nat) (hp : pc + 1 = pc') (kk : J E G nL k n σ pc' L (.int (x <<< (y &&& 31)) :: st)) : J E G nL k n σ pc L (.int y :: .int x :: st) := by
  subst hp
  exact fun H locs ls hP hS hl => lv_ishl C.1 C.2.1 hd (kk H locs ls hP hS hl)
theorem j_ishr (C : Cx E G own cc nL rm) {x y : Int32} (hd : decode cc pc = .ok (.ishr, 1)) (pc' : Nat) (hp : pc + 1 = pc') (kk : J E G nL k n σ pc' L (.int (x >>> (y &&& 31)) :: st)) : J E G nL k n σ pc L (.int y :: .int x :: st) := by
  subst hp
  exact fun H locs ls hP hS hl => lv_ishr C.1 C.2.1 hd (kk H locs ls hP hS hl)
theorem j_iushr (C : Cx E G own cc nL rm) {x y : Int32} (hd : decode cc pc = .ok (.iushr, 1)) (pc' : Nat) (hp : pc + 1 = pc') (kk : J E G nL k n σ pc' L (.int ((x.toUInt32 >>> (y.toUInt32 &&& Int32.toUInt32 31)).toInt32) :: st)) : J E G nL k n σ pc L (.int y :: .int x :: st) := by
  subst hp
  exact fun H locs ls hP hS hl => lv_iushr C.1 C.2.1 hd rfl (kk H locs ls hP hS hl)
theorem j_lushr (C : Cx E G own cc nL rm) {x : Int64} {y : Int32} (hd : decode cc pc = .ok (.lushr, 1)) (pc' : Nat) (hp : pc + 1 = pc') (kk : J E G nL k n σ pc' L (.long ((x.toUInt64 >>> (y.toInt64.toUInt64 &&& Int64.toUInt64 63)).toInt64) :: st)) : J E G nL k n σ pc L (.int y :: .long x :: st) := by
  subst hp
  exact fun H locs ls hP hS hl => lv_lushr C.1 C.2.1 hd rfl (kk H locs ls hP hS hl)
theorem j_lshl (C : Cx E G own cc nL rm) {x : Int64} {y : Int32} (hd : decode cc pc = .ok (.lshl, 1)) (pc' : Nat) (hp : pc + 1 = pc') (kk : J E G nL k n σ pc' L (.long (x <<< (y.toInt64 &&& 63)) :: st)) : J E G nL k n σ pc L (.int y :: .long x :: st) := by
  subst hp
  exact fun H locs ls hP hS hl => lv_lshl C.1 C.2.1 hd rfl (kk H locs ls hP hS hl)
theorem j_lshr (C : Cx E G own cc nL rm) {x : Int64} {y : Int32} (hd : decode cc pc = .ok (.lshr, 1)) (pc' : Nat) (hp : pc + 1 = pc') (kk : J E G nL k n σ pc' L (.long (x >>> (y.toInt64 &&& 63)) :: st)) : J E G nL k n σ pc L (.int y :: .long x :: st) := by
  subst hp
  exact fun H locs ls hP hS hl => lv_lshr C.1 C.2.1 hd rfl (kk H locs ls hP hS hl)
theorem j_ineg (C : Cx E G own cc nL rm) {x : Int32} (hd : decode cc pc = .ok (.ineg, 1)) (pc' : Nat) (hp : pc + 1 = pc') (kk : J E G nL k n σ pc' L (.int (-x) :: st)) : J E G nL k n σ pc L (.int x :: st) := by
  subst hp
  exact fun H locs ls hP hS hl => lv_ineg C.1 C.2.1 hd (kk H locs ls hP hS hl)
theorem j_idiv (C : Cx E G own cc nL rm) {x y : Int32} (hd : decode cc pc = .ok (.idiv, 1)) (hne : ¬ y = 0) (pc' : Nat) (hp : pc + 1 = pc') (kk : J E G nL k n σ pc' L (.int (x / y) :: st)) : J E G nL k n σ pc L (.int y :: .int x :: st) := by
  subst hp
  exact fun H locs ls hP hS hl => lv_idiv C.1 C.2.1 hd hne (kk H locs ls hP hS hl)
theorem j_irem (C : Cx E G own cc nL rm) {x y : Int32} (hd : decode cc pc = .ok (.irem, 1)) (hne : ¬ y = 0) (pc' : Nat) (hp : pc + 1 = pc') (kk : J E G nL k n σ pc' L (.int (x - x / y * y) :: st)) : J E G nL k n σ pc L (.int y :: .int x :: st) := by
  subst hp
  exact fun H locs ls hP hS hl => lv_irem C.1 C.2.1 hd hne (kk H locs ls hP hS hl)
theorem j_lcmp (C : Cx E G own cc nL rm) {x y : Int64} (hd : decode cc pc = .ok (.lcmp, 1)) (pc' : Nat) (hp : pc + 1 = pc') (kk : J E G nL k n σ pc' L (.int (lg_cmp x y) :: st)) : J E G nL k n σ pc L (.long y :: .long x :: st) := by
  subst hp
  exact fun H locs ls hP hS hl => W.lcmp C.1 C.2.1 hd (kk H locs ls hP hS hl)
theorem j_i2l (C : Cx E G own cc nL rm) {x : Int32} (hd : decode cc pc = .ok (.i2l, 1)) (pc' : Nat) (hp : pc + 1 = pc') (kk : J E G nL k n σ pc' L (.long x.toInt64 :: st)) : J E G nL k n σ pc L (.int x :: st) := by
  subst hp
  exact fun H locs ls hP hS hl => lv_i2l C.1 C.2.1 hd rfl (kk H locs ls hP hS hl)
theorem j_l2i (C : Cx E G own cc nL rm) {x : Int64} (hd : decode cc pc = .ok (.l2i, 1)) (pc' : Nat) (hp : pc + 1 = pc') (kk : J E G nL k n σ pc' L (.int x.toInt32 :: st)) : J E G nL k n σ pc L (.long x :: st) := by
  subst hp
  exact fun H locs ls hP hS hl => lv_l2i C.1 C.2.1 hd rfl (kk H locs ls hP hS hl)
theorem j_i2c (C : Cx E G own cc nL rm) {x : Int32} (hd : decode cc pc = .ok (.i2c, 1)) (pc' : Nat) (hp : pc + 1 = pc') (kk : J E G nL k n σ pc' L (.int (x.toUInt32 % 65536).toInt32 :: st)) : J E G nL k n σ pc L (.int x :: st) := by
  subst hp
  exact fun H locs ls hP hS hl => lv_i2c C.1 C.2.1 hd rfl (kk H locs ls hP hS hl)
theorem j_i2b (C : Cx E G own cc nL rm) {x : Int32} (hd : decode cc pc = .ok (.i2b, 1)) (pc' : Nat) (hp : pc + 1 = pc') (kk : J E G nL k n σ pc' L (.int x.toInt8.toInt32 :: st)) : J E G nL k n σ pc L (.int x :: st) := by
  subst hp
  exact fun H locs ls hP hS hl => lv_i2b C.1 C.2.1 hd rfl (kk H locs ls hP hS hl)
theorem j_i2d (C : Cx E G own cc nL rm) {x : Int32} (hd : decode cc pc = .ok (.i2d, 1)) (pc' : Nat) (hp : pc + 1 = pc') (kk : J E G nL k n σ pc' L (.double (FP.i2d x) :: st)) : J E G nL k n σ pc L (.int x :: st) := by
  subst hp
  exact fun H locs ls hP hS hl => lv_i2d C.1 C.2.1 hd (kk H locs ls hP hS hl)
theorem j_i2f (C : Cx E G own cc nL rm) {x : Int32} (hd : decode cc pc = .ok (.i2f, 1)) (pc' : Nat) (hp : pc + 1 = pc') (kk : J E G nL k n σ pc' L (.float (FP.i2f x) :: st)) : J E G nL k n σ pc L (.int x :: st) := by
  subst hp
  exact fun H locs ls hP hS hl => lv_i2f C.1 C.2.1 hd (kk H locs ls hP hS hl)
theorem j_l2d (C : Cx E G own cc nL rm) {x : Int64} (hd : decode cc pc = .ok (.l2d, 1)) (pc' : Nat) (hp : pc + 1 = pc') (kk : J E G nL k n σ pc' L (.double (FP.l2d x) :: st)) : J E G nL k n σ pc L (.long x :: st) := by
  subst hp
  exact fun H locs ls hP hS hl => lv_l2d C.1 C.2.1 hd (kk H locs ls hP hS hl)
theorem j_d2l (C : Cx E G own cc nL rm) {x : UInt64} (hd : decode cc pc = .ok (.d2l, 1)) (pc' : Nat) (hp : pc + 1 = pc') (kk : J E G nL k n σ pc' L (.long (FP.d2l x) :: st)) : J E G nL k n σ pc L (.double x :: st) := by
  subst hp
  exact fun H locs ls hP hS hl => lv_d2l C.1 C.2.1 hd (kk H locs ls hP hS hl)
theorem j_f2i (C : Cx E G own cc nL rm) {x : UInt32} (hd : decode cc pc = .ok (.f2i, 1)) (pc' : Nat) (hp : pc + 1 = pc') (kk : J E G nL k n σ pc' L (.int (FP.f2i x) :: st)) : J E G nL k n σ pc L (.float x :: st) := by
  subst hp
  exact fun H locs ls hP hS hl => lv_f2i C.1 C.2.1 hd (kk H locs ls hP hS hl)
theorem j_f2d (C : Cx E G own cc nL rm) {x : UInt32} (hd : decode cc pc = .ok (.f2d, 1)) (hne : vf_n64 (FP.f2d x)) (pc' : Nat) (hp : pc + 1 = pc') (kk : J E G nL k n σ pc' L (.double (FP.f2d x) :: st)) : J E G nL k n σ pc L (.float x :: st) := by
  subst hp
  exact fun H locs ls hP hS hl => lv_f2d C.1 C.2.1 hd hne (kk H locs ls hP hS hl)
theorem j_fdiv (C : Cx E G own cc nL rm) {x y : UInt32} (hd : decode cc pc = .ok (.fdiv, 1)) (hne : vf_n32 (FP.fdiv x y)) (pc' : Nat) (hp : pc + 1 = pc') (kk : J E G nL k n σ pc' L (.float (FP.fdiv x y) :: st)) : J E G nL k n σ pc L (.float y :: .float x :: st) := by
  subst hp
  exact fun H locs ls hP hS hl => lv_fdiv C.1 C.2.1 hd hne (kk H locs ls hP hS hl)
theorem j_fsub (C : Cx E G own cc nL rm) {x y : UInt32} (hd : decode cc pc = .ok (.fsub, 1)) (hne : vf_n32 (FP.fsub x y)) (pc' : Nat) (hp : pc + 1 = pc') (kk : J E G nL k n σ pc' L (.float (FP.fsub x y) :: st)) : J E G nL k n σ pc L (.float y :: .float x :: st) := by
  subst hp
  exact fun H locs ls hP hS hl => lv_fsub C.1 C.2.1 hd hne (kk H locs ls hP hS hl)
theorem j_fmul (C : Cx E G own cc nL rm) {x y : UInt32} (hd : decode cc pc = .ok (.fmul, 1)) (hne : vf_n32 (FP.fmul x y)) (pc' : Nat) (hp : pc + 1 = pc') (kk : J E G nL k n σ pc' L (.float (FP.fmul x y) :: st)) : J E G nL k n σ pc L (.float y :: .float x :: st) := by
  subst hp
  exact fun H locs ls hP hS hl => lv_fmul C.1 C.2.1 hd hne (kk H locs ls hP hS hl)
theorem j_ddiv (C : Cx E G own cc nL rm) {x y : UInt64} (hd : decode cc pc = .ok (.ddiv, 1)) (hne : vf_n64 (FP.ddiv x y)) (pc' : Nat) (hp : pc + 1 = pc') (kk : J E G nL k n σ pc' L (.double (FP.ddiv x y) :: st)) : J E G nL k n σ pc L (.double y :: .double x :: st) := by
  subst hp
  exact fun H locs ls hP hS hl => lv_ddiv C.1 C.2.1 hd hne (kk H locs ls hP hS hl)
theorem j_dsub (C : Cx E G own cc nL rm) {x y : UInt64} (hd : decode cc pc = .ok (.dsub, 1)) (hne : vf_n64 (FP.dsub x y)) (pc' : Nat) (hp : pc + 1 = pc') (kk : J E G nL k n σ pc' L (.double (FP.dsub x y) :: st)) : J E G nL k n σ pc L (.double y :: .double x :: st) := by
  subst hp
  exact fun H locs ls hP hS hl => lv_dsub C.1 C.2.1 hd hne (kk H locs ls hP hS hl)
theorem j_dmul (C : Cx E G own cc nL rm) {x y : UInt64} (hd : decode cc pc = .ok (.dmul, 1)) (hne : vf_n64 (FP.dmul x y)) (pc' : Nat) (hp : pc + 1 = pc') (kk : J E G nL k n σ pc' L (.double (FP.dmul x y) :: st)) : J E G nL k n σ pc L (.double y :: .double x :: st) := by
  subst hp
  exact fun H locs ls hP hS hl => lv_dmul C.1 C.2.1 hd hne (kk H locs ls hP hS hl)
theorem j_fcmp (C : Cx E G own cc nL rm) {x y : UInt32} {op : CmpOp} (hd : decode cc pc = .ok (.fcmp op, 1)) (pc' : Nat) (hp : pc + 1 = pc') (kk : J E G nL k n σ pc' L (.int (Op.cmpValue (FP.fcmp x y) op) :: st)) : J E G nL k n σ pc L (.float y :: .float x :: st) := by
  subst hp
  exact fun H locs ls hP hS hl => lv_fcmp C.1 C.2.1 hd (kk H locs ls hP hS hl)
theorem j_dcmp (C : Cx E G own cc nL rm) {x y : UInt64} {op : CmpOp} (hd : decode cc pc = .ok (.dcmp op, 1)) (pc' : Nat) (hp : pc + 1 = pc') (kk : J E G nL k n σ pc' L (.int (Op.cmpValue (FP.dcmp x y) op) :: st)) : J E G nL k n σ pc L (.double y :: .double x :: st) := by
  subst hp
  exact fun H locs ls hP hS hl => lv_dcmp C.1 C.2.1 hd (kk H locs ls hP hS hl)
theorem j_fconst0 (C : Cx E G own cc nL rm) (hd : decode cc pc = .ok (.fconst 0, 1)) (pc' : Nat) (hp : pc + 1 = pc') (kk : J E G nL k n σ pc' L (.float FP.fconst0 :: st)) : J E G nL k n σ pc L (st) := by
  subst hp
  exact fun H locs ls hP hS hl => lv_fconst0 C.1 C.2.1 hd (kk H locs ls hP hS hl)
theorem j_fconst1 (C : Cx E G own cc nL rm) (hd : decode cc pc = .ok (.fconst 1, 1)) (pc' : Nat) (hp : pc + 1 = pc') (kk : J E G nL k n σ pc' L (.float FP.fconst1 :: st)) : J E G nL k n σ pc L (st) := by
  subst hp
  exact fun H locs ls hP hS hl => lv_fconst1 C.1 C.2.1 hd (kk H locs ls hP hS hl)
theorem j_fconst2 (C : Cx E G own cc nL rm) (hd : decode cc pc = .ok (.fconst 2, 1)) (pc' : Nat) (hp : pc + 1 = pc') (kk : J E G nL k n σ pc' L (.float FP.fconst2 :: st)) : J E G nL k n σ pc L (st) := by
  subst hp
  exact fun H locs ls hP hS hl => lv_fconst2 C.1 C.2.1 hd (kk H locs ls hP hS hl)
theorem j_dconst0 (C : Cx E G own cc nL rm) (hd : decode cc pc = .ok (.dconst 0, 1)) (pc' : Nat) (hp : pc + 1 = pc') (kk : J E G nL k n σ pc' L (.double FP.dconst0 :: st)) : J E G nL k n σ pc L (st) := by
  subst hp
  exact fun H locs ls hP hS hl => lv_dconst0 C.1 C.2.1 hd (kk H locs ls hP hS hl)
theorem j_dconst1 (C : Cx E G own cc nL rm) (hd : decode cc pc = .ok (.dconst 1, 1)) (pc' : Nat) (hp : pc + 1 = pc') (kk : J E G nL k n σ pc' L (.double FP.dconst1 :: st)) : J E G nL k n σ pc L (st) := by
  subst hp
  exact fun H locs ls hP hS hl => lv_dconst1 C.1 C.2.1 hd (kk H locs ls hP hS hl)
theorem j_dup (C : Cx E G own cc nL rm) {va : Value} (hd : decode cc pc = .ok (.dup, 1)) (hva : va.category = 1) (pc' : Nat) (hp : pc + 1 = pc') (kk : J E G nL k n σ pc' L (va :: va :: st)) : J E G nL k n σ pc L (va :: st) := by
  subst hp
  exact fun H locs ls hP hS hl => lv_dup C.1 C.2.1 hd hva (kk H locs ls hP hS hl)
theorem j_dup2 (C : Cx E G own cc nL rm) {va vb : Value} (hd : decode cc pc = .ok (.dup2, 1)) (hva : va.category = 1) (hvb : vb.category = 1) (pc' : Nat) (hp : pc + 1 = pc') (kk : J E G nL k n σ pc' L (va :: vb :: va :: vb :: st)) : J E G nL k n σ pc L (va :: vb :: st) := by
  subst hp
  exact fun H locs ls hP hS hl => lv_dup2_11 C.1 C.2.1 hd hva hvb (kk H locs ls hP hS hl)
theorem j_pop (C : Cx E G own cc nL rm) {va : Value} (hd : decode cc pc = .ok (.pop, 1)) (hva : va.category = 1) (pc' : Nat) (hp : pc + 1 = pc') (kk : J E G nL k n σ pc' L (st)) : J E G nL k n σ pc L (va :: st) := by
  subst hp
  exact fun H locs ls hP hS hl => lv_pop C.1 C.2.1 hd hva (kk H locs ls hP hS hl)
theorem j_null (C : Cx E G own cc nL rm) (hd : decode cc pc = .ok (.aconst_null, 1)) (pc' : Nat) (hp : pc + 1 = pc') (kk : J E G nL k n σ pc' L (.null :: st)) : J E G nL k n σ pc L (st) := by
  subst hp
  exact fun H locs ls hP hS hl => lv_null C.1 C.2.1 hd (kk H locs ls hP hS hl)
theorem j_ldc (C : Cx E G own cc nL rm) {idx : Nat} (hd : decode cc pc = .ok (.ldc idx, 2)) {v : Int32} (hw : Cond.constant own idx v ∈ lw_all) (pc' : Nat) (hp : pc + 2 = pc') (kk : J E G nL k n σ pc' L (.int v :: st)) : J E G nL k n σ pc L (st) := by
  subst hp
  exact fun H locs ls hP hS hl => lv_ldc C.1 C.2.1 C.2.2.2.1 (C.2.2.2.2.1 _ hw) hd (kk H locs ls hP hS hl)
theorem j_ldcw (C : Cx E G own cc nL rm) {idx : Nat} (hd : decode cc pc = .ok (.ldc_w idx, 3)) {v : Int32} (hw : Cond.constant own idx v ∈ lw_all) (pc' : Nat) (hp : pc + 3 = pc') (kk : J E G nL k n σ pc' L (.int v :: st)) : J E G nL k n σ pc L st := by
  subst hp
  exact fun H locs ls hP hS hl => lv_ldcw C.1 C.2.1 C.2.2.2.1 (C.2.2.2.2.1 _ hw) hd (kk H locs ls hP hS hl)
theorem j_ldc2 (C : Cx E G own cc nL rm) {idx : Nat} (hd : decode cc pc = .ok (.ldc2_w idx, 3)) {v : Int64} (hw : Cond.constantLong own idx v ∈ lw_all) (pc' : Nat) (hp : pc + 3 = pc') (kk : J E G nL k n σ pc' L (.long v :: st)) : J E G nL k n σ pc L st := by
  subst hp
  exact fun H locs ls hP hS hl => lv_ldc2 C.1 C.2.1 C.2.2.2.1 (C.2.2.2.2.1 _ hw) hd (kk H locs ls hP hS hl)
theorem j_ldc2d (C : Cx E G own cc nL rm) {idx : Nat} (hd : decode cc pc = .ok (.ldc2_w idx, 3)) {v : UInt64} (hw : Cond.constantDouble own idx v ∈ lw_all) (pc' : Nat) (hp : pc + 3 = pc') (kk : J E G nL k n σ pc' L (.double v :: st)) : J E G nL k n σ pc L st := by
  subst hp
  exact fun H locs ls hP hS hl => lv_ldc2d C.1 C.2.1 C.2.2.2.1 (C.2.2.2.2.1 _ hw) hd (kk H locs ls hP hS hl)
theorem j_ldcf (C : Cx E G own cc nL rm) {idx : Nat} (hd : decode cc pc = .ok (.ldc idx, 2)) {v : UInt32} (hw : Cond.constantFloat own idx v ∈ lw_all) (pc' : Nat) (hp : pc + 2 = pc') (kk : J E G nL k n σ pc' L (.float v :: st)) : J E G nL k n σ pc L st := by
  subst hp
  exact fun H locs ls hP hS hl => lv_ldcf C.1 C.2.1 C.2.2.2.1 (C.2.2.2.2.1 _ hw) hd (kk H locs ls hP hS hl)
theorem j_ldcwf (C : Cx E G own cc nL rm) {idx : Nat} (hd : decode cc pc = .ok (.ldc_w idx, 3)) {v : UInt32} (hw : Cond.constantFloat own idx v ∈ lw_all) (pc' : Nat) (hp : pc + 3 = pc') (kk : J E G nL k n σ pc' L (.float v :: st)) : J E G nL k n σ pc L st := by
  subst hp
  intro H locs ls hP hS hl T hT X
  obtain ⟨t, a, b⟩ := kk H locs ls hP hS hl T hT X
  exact ⟨t, ldcw_f X C.1 C.2.2.2.1 (C.2.2.2.2.1 _ hw) (g := F0 (eM E) pc ls st) rfl (by rw [C.2.1]; exact hd) t a, b⟩
theorem j_istore_n (C : Cx E G own cc nL rm) {i : Nat} {z : Fin 4} {x : Int32} (hd : decode cc pc = .ok (.istore_n z, 1)) (hi : (z : Nat) = i) (hn : i < nL) (L' : List (Nat × Value)) (hL : (i, Value.int x) :: L.filter (fun q => !(q.1 == i) && !(q.1 + 1 == i && q.2.category == 2)) = L') (pc' : Nat) (hp : pc + 1 = pc') (kk : J E G nL k n σ pc' L' st) : J E G nL k n σ pc L (.int x :: st) := by
  subst hp
  exact fun H locs ls hP hS hl => lv_istore_n C.1 C.2.1 hd hi hl hn hL (fun ls' hl' => kk H locs ls' hP hS hl')
theorem j_istore (C : Cx E G own cc nL rm) {i : Nat} {x : Int32} (hd : decode cc pc = .ok (.istore i, 2)) (hn : i < nL) (L' : List (Nat × Value)) (hL : (i, Value.int x) :: L.filter (fun q => !(q.1 == i) && !(q.1 + 1 == i && q.2.category == 2)) = L') (pc' : Nat) (hp : pc + 2 = pc') (kk : J E G nL k n σ pc' L' st) : J E G nL k n σ pc L (.int x :: st) := by
  subst hp
  exact fun H locs ls hP hS hl => lv_istore C.1 C.2.1 hd hl hn hL (fun ls' hl' => kk H locs ls' hP hS hl')
theorem j_lstore_n (C : Cx E G own cc nL rm) {i : Nat} {z : Fin 4} {x : Int64} (hd : decode cc pc = .ok (.lstore_n z, 1)) (hi : (z : Nat) = i) (hn : i + 1 < nL) (L' : List (Nat × Value)) (hL : (i, Value.long x) :: L.filter (fun q => !(q.1 == i) && (!(q.1 == i + 1) && !(q.1 + 1 == i && q.2.category == 2))) = L') (pc' : Nat) (hp : pc + 1 = pc') (kk : J E G nL k n σ pc' L' st) : J E G nL k n σ pc L (.long x :: st) := by
  subst hp
  exact fun H locs ls hP hS hl => lv_lstore_n C.1 C.2.1 hd hi hl hn hL (fun ls' hl' => kk H locs ls' hP hS hl')
theorem j_lstore (C : Cx E G own cc nL rm) {i : Nat} {x : Int64} (hd : decode cc pc = .ok (.lstore i, 2)) (hn : i + 1 < nL) (L' : List (Nat × Value)) (hL : (i, Value.long x) :: L.filter (fun q => !(q.1 == i) && (!(q.1 == i + 1) && !(q.1 + 1 == i && q.2.category == 2))) = L') (pc' : Nat) (hp : pc + 2 = pc') (kk : J E G nL k n σ pc' L' st) : J E G nL k n σ pc L (.long x :: st) := by
  subst hp
  exact fun H locs ls hP hS hl => lv_lstore C.1 C.2.1 hd hl hn hL (fun ls' hl' => kk H locs ls' hP hS hl')
theorem j_astore_n (C : Cx E G own cc nL rm) {i : Nat} {z : Fin 4} {x : Nat} (hd : decode cc pc = .ok (.astore_n z, 1)) (hi : (z : Nat) = i) (hn : i < nL) (L' : List (Nat × Value)) (hL : (i, Value.ref x) :: L.filter (fun q => !(q.1 == i) && !(q.1 + 1 == i && q.2.category == 2)) = L') (pc' : Nat) (hp : pc + 1 = pc') (kk : J E G nL k n σ pc' L' st) : J E G nL k n σ pc L (.ref x :: st) := by
  subst hp
  exact fun H locs ls hP hS hl => lv_astore_n C.1 C.2.1 hd hi hl hn hL (fun ls' hl' => kk H locs ls' hP hS hl')
theorem j_astore (C : Cx E G own cc nL rm) {i : Nat} {x : Nat} (hd : decode cc pc = .ok (.astore i, 2)) (hn : i < nL) (L' : List (Nat × Value)) (hL : (i, Value.ref x) :: L.filter (fun q => !(q.1 == i) && !(q.1 + 1 == i && q.2.category == 2)) = L') (pc' : Nat) (hp : pc + 2 = pc') (kk : J E G nL k n σ pc' L' st) : J E G nL k n σ pc L (.ref x :: st) := by
  subst hp
  exact fun H locs ls hP hS hl => lv_astore C.1 C.2.1 hd hl hn hL (fun ls' hl' => kk H locs ls' hP hS hl')
theorem j_fstore_n (C : Cx E G own cc nL rm) {i : Nat} {z : Fin 4} {x : UInt32} (hd : decode cc pc = .ok (.fstore_n z, 1)) (hi : (z : Nat) = i) (hn : i < nL) (L' : List (Nat × Value)) (hL : (i, Value.float x) :: L.filter (fun q => !(q.1 == i) && !(q.1 + 1 == i && q.2.category == 2)) = L') (pc' : Nat) (hp : pc + 1 = pc') (kk : J E G nL k n σ pc' L' st) : J E G nL k n σ pc L (.float x :: st) := by
  subst hp
  exact fun H locs ls hP hS hl => lv_fstore_n C.1 C.2.1 hd hi hl hn hL (fun ls' hl' => kk H locs ls' hP hS hl')
theorem j_fstore (C : Cx E G own cc nL rm) {i : Nat} {x : UInt32} (hd : decode cc pc = .ok (.fstore i, 2)) (hn : i < nL) (L' : List (Nat × Value)) (hL : (i, Value.float x) :: L.filter (fun q => !(q.1 == i) && !(q.1 + 1 == i && q.2.category == 2)) = L') (pc' : Nat) (hp : pc + 2 = pc') (kk : J E G nL k n σ pc' L' st) : J E G nL k n σ pc L (.float x :: st) := by
  subst hp
  exact fun H locs ls hP hS hl => lv_fstore C.1 C.2.1 hd hl hn hL (fun ls' hl' => kk H locs ls' hP hS hl')
theorem j_dstore_n (C : Cx E G own cc nL rm) {i : Nat} {z : Fin 4} {x : UInt64} (hd : decode cc pc = .ok (.dstore_n z, 1)) (hi : (z : Nat) = i) (hn : i + 1 < nL) (L' : List (Nat × Value)) (hL : (i, Value.double x) :: L.filter (fun q => !(q.1 == i) && (!(q.1 == i + 1) && !(q.1 + 1 == i && q.2.category == 2))) = L') (pc' : Nat) (hp : pc + 1 = pc') (kk : J E G nL k n σ pc' L' st) : J E G nL k n σ pc L (.double x :: st) := by
  subst hp
  exact fun H locs ls hP hS hl => lv_dstore_n C.1 C.2.1 hd hi hl hn hL (fun ls' hl' => kk H locs ls' hP hS hl')
theorem j_dstore (C : Cx E G own cc nL rm) {i : Nat} {x : UInt64} (hd : decode cc pc = .ok (.dstore i, 2)) (hn : i + 1 < nL) (L' : List (Nat × Value)) (hL : (i, Value.double x) :: L.filter (fun q => !(q.1 == i) && (!(q.1 == i + 1) && !(q.1 + 1 == i && q.2.category == 2))) = L') (pc' : Nat) (hp : pc + 2 = pc') (kk : J E G nL k n σ pc' L' st) : J E G nL k n σ pc L (.double x :: st) := by
  subst hp
  exact fun H locs ls hP hS hl => lv_dstore C.1 C.2.1 hd hl hn hL (fun ls' hl' => kk H locs ls' hP hS hl')
theorem j_astore_nN (C : Cx E G own cc nL rm) {i : Nat} {z : Fin 4} (hd : decode cc pc = .ok (.astore_n z, 1)) (hi : (z : Nat) = i) (hn : i < nL) (L' : List (Nat × Value)) (hL : (i, Value.null) :: L.filter (fun q => !(q.1 == i) && !(q.1 + 1 == i && q.2.category == 2)) = L') (pc' : Nat) (hp : pc + 1 = pc') (kk : J E G nL k n σ pc' L' st) : J E G nL k n σ pc L (.null :: st) := by
  subst hp
  exact fun H locs ls hP hS hl => lv_astore_nN C.1 C.2.1 hd hi hl hn hL (fun ls' hl' => kk H locs ls' hP hS hl')
theorem j_aload_nN (C : Cx E G own cc nL rm) {z : Fin 4} (hd : decode cc pc = .ok (.aload_n z, 1)) {i : Nat} (hi : (z : Nat) = i) (q : Nat) (hL : L[q]? = some (i, .null)) (pc' : Nat) (hp : pc + 1 = pc') (kk : J E G nL k n σ pc' L (.null :: st)) : J E G nL k n σ pc L st := by
  subst hp
  exact fun H locs ls hP hS hl => lv_aload_nN C.1 C.2.1 hd hi (lv_at hl q hL) (kk H locs ls hP hS hl)
theorem j_iinc (C : Cx E G own cc nL rm) {i : Nat} {z : Int} {x : Int32} (hd : decode cc pc = .ok (.iinc i z, 3)) (q : Nat) (hq : L[q]? = some (i, .int x)) (v : Int32) (hv : x + Int32.ofInt z = v) (hn : i < nL) (L' : List (Nat × Value)) (hL : (i, Value.int v) :: L.filter (fun q => !(q.1 == i) && !(q.1 + 1 == i && q.2.category == 2)) = L') (pc' : Nat) (hp : pc + 3 = pc') (kk : J E G nL k n σ pc' L' st) : J E G nL k n σ pc L st := by
  subst hp
  exact fun H locs ls hP hS hl => lv_iinc C.1 C.2.1 hd hl hq hv hn hL (fun ls' hl' => kk H locs ls' hP hS hl')
theorem j_goto (C : Cx E G own cc nL rm) {off : Int} (hd : decode cc pc = .ok (.goto off, 3)) (tgt : Nat) (ht : (pc : Int) + off = (tgt : Int)) (kk : J E G nL k n σ tgt L st) : J E G nL k n σ pc L st :=
  fun H locs ls hP hS hl => lv_goto C.1 C.2.1 hd ht (kk H locs ls hP hS hl)
theorem j_if_eq (C : Cx E G own cc nL rm) {x : Int32} {off : Int} (hd : decode cc pc = .ok (.ifCond .eq off, 3)) (tgt : Nat) (ht : (pc : Int) + off = (tgt : Int)) (pc' : Nat) (hp : pc + 3 = pc') (kt : x = 0 → J E G nL k n σ tgt L st) (kf : ¬ x = 0 → J E G nL k n σ pc' L st) : J E G nL k n σ pc L (.int x :: st) := by
  subst hp
  exact fun H locs ls hP hS hl => lv_if_eq C.1 C.2.1 hd ht (fun h => kt h H locs ls hP hS hl) (fun h => kf h H locs ls hP hS hl)
theorem j_icmp_eq (C : Cx E G own cc nL rm) {x y : Int32} {off : Int} (hd : decode cc pc = .ok (.if_icmp .eq off, 3)) (tgt : Nat) (ht : (pc : Int) + off = (tgt : Int)) (pc' : Nat) (hp : pc + 3 = pc') (kt : x = y → J E G nL k n σ tgt L st) (kf : ¬ x = y → J E G nL k n σ pc' L st) : J E G nL k n σ pc L (.int y :: .int x :: st) := by
  subst hp
  exact fun H locs ls hP hS hl => lv_icmp_eq C.1 C.2.1 hd ht (fun h => kt h H locs ls hP hS hl) (fun h => kf h H locs ls hP hS hl)
theorem j_if_ne (C : Cx E G own cc nL rm) {x : Int32} {off : Int} (hd : decode cc pc = .ok (.ifCond .ne off, 3)) (tgt : Nat) (ht : (pc : Int) + off = (tgt : Int)) (pc' : Nat) (hp : pc + 3 = pc') (kt : ¬ x = 0 → J E G nL k n σ tgt L st) (kf : x = 0 → J E G nL k n σ pc' L st) : J E G nL k n σ pc L (.int x :: st) := by
  subst hp
  exact fun H locs ls hP hS hl => lv_if_ne C.1 C.2.1 hd ht (fun h => kt h H locs ls hP hS hl) (fun h => kf h H locs ls hP hS hl)
theorem j_icmp_ne (C : Cx E G own cc nL rm) {x y : Int32} {off : Int} (hd : decode cc pc = .ok (.if_icmp .ne off, 3)) (tgt : Nat) (ht : (pc : Int) + off = (tgt : Int)) (pc' : Nat) (hp : pc + 3 = pc') (kt : ¬ x = y → J E G nL k n σ tgt L st) (kf : x = y → J E G nL k n σ pc' L st) : J E G nL k n σ pc L (.int y :: .int x :: st) := by
  subst hp
  exact fun H locs ls hP hS hl => lv_icmp_ne C.1 C.2.1 hd ht (fun h => kt h H locs ls hP hS hl) (fun h => kf h H locs ls hP hS hl)
theorem j_if_lt (C : Cx E G own cc nL rm) {x : Int32} {off : Int} (hd : decode cc pc = .ok (.ifCond .lt off, 3)) (tgt : Nat) (ht : (pc : Int) + off = (tgt : Int)) (pc' : Nat) (hp : pc + 3 = pc') (kt : x < 0 → J E G nL k n σ tgt L st) (kf : ¬ x < 0 → J E G nL k n σ pc' L st) : J E G nL k n σ pc L (.int x :: st) := by
  subst hp
  exact fun H locs ls hP hS hl => lv_if_lt C.1 C.2.1 hd ht (fun h => kt h H locs ls hP hS hl) (fun h => kf h H locs ls hP hS hl)
theorem j_icmp_lt (C : Cx E G own cc nL rm) {x y : Int32} {off : Int} (hd : decode cc pc = .ok (.if_icmp .lt off, 3)) (tgt : Nat) (ht : (pc : Int) + off = (tgt : Int)) (pc' : Nat) (hp : pc + 3 = pc') (kt : x < y → J E G nL k n σ tgt L st) (kf : ¬ x < y → J E G nL k n σ pc' L st) : J E G nL k n σ pc L (.int y :: .int x :: st) := by
  subst hp
  exact fun H locs ls hP hS hl => lv_icmp_lt C.1 C.2.1 hd ht (fun h => kt h H locs ls hP hS hl) (fun h => kf h H locs ls hP hS hl)
theorem j_if_ge (C : Cx E G own cc nL rm) {x : Int32} {off : Int} (hd : decode cc pc = .ok (.ifCond .ge off, 3)) (tgt : Nat) (ht : (pc : Int) + off = (tgt : Int)) (pc' : Nat) (hp : pc + 3 = pc') (kt : 0 ≤ x → J E G nL k n σ tgt L st) (kf : ¬ 0 ≤ x → J E G nL k n σ pc' L st) : J E G nL k n σ pc L (.int x :: st) := by
  subst hp
  exact fun H locs ls hP hS hl => lv_if_ge C.1 C.2.1 hd ht (fun h => kt h H locs ls hP hS hl) (fun h => kf h H locs ls hP hS hl)
theorem j_icmp_ge (C : Cx E G own cc nL rm) {x y : Int32} {off : Int} (hd : decode cc pc = .ok (.if_icmp .ge off, 3)) (tgt : Nat) (ht : (pc : Int) + off = (tgt : Int)) (pc' : Nat) (hp : pc + 3 = pc') (kt : y ≤ x → J E G nL k n σ tgt L st) (kf : ¬ y ≤ x → J E G nL k n σ pc' L st) : J E G nL k n σ pc L (.int y :: .int x :: st) := by
  subst hp
  exact fun H locs ls hP hS hl => lv_icmp_ge C.1 C.2.1 hd ht (fun h => kt h H locs ls hP hS hl) (fun h => kf h H locs ls hP hS hl)
theorem j_if_gt (C : Cx E G own cc nL rm) {x : Int32} {off : Int} (hd : decode cc pc = .ok (.ifCond .gt off, 3)) (tgt : Nat) (ht : (pc : Int) + off = (tgt : Int)) (pc' : Nat) (hp : pc + 3 = pc') (kt : 0 < x → J E G nL k n σ tgt L st) (kf : ¬ 0 < x → J E G nL k n σ pc' L st) : J E G nL k n σ pc L (.int x :: st) := by
  subst hp
  exact fun H locs ls hP hS hl => lv_if_gt C.1 C.2.1 hd ht (fun h => kt h H locs ls hP hS hl) (fun h => kf h H locs ls hP hS hl)
theorem j_icmp_gt (C : Cx E G own cc nL rm) {x y : Int32} {off : Int} (hd : decode cc pc = .ok (.if_icmp .gt off, 3)) (tgt : Nat) (ht : (pc : Int) + off = (tgt : Int)) (pc' : Nat) (hp : pc + 3 = pc') (kt : y < x → J E G nL k n σ tgt L st) (kf : ¬ y < x → J E G nL k n σ pc' L st) : J E G nL k n σ pc L (.int y :: .int x :: st) := by
  subst hp
  exact fun H locs ls hP hS hl => lv_icmp_gt C.1 C.2.1 hd ht (fun h => kt h H locs ls hP hS hl) (fun h => kf h H locs ls hP hS hl)
theorem j_if_le (C : Cx E G own cc nL rm) {x : Int32} {off : Int} (hd : decode cc pc = .ok (.ifCond .le off, 3)) (tgt : Nat) (ht : (pc : Int) + off = (tgt : Int)) (pc' : Nat) (hp : pc + 3 = pc') (kt : x ≤ 0 → J E G nL k n σ tgt L st) (kf : ¬ x ≤ 0 → J E G nL k n σ pc' L st) : J E G nL k n σ pc L (.int x :: st) := by
  subst hp
  exact fun H locs ls hP hS hl => lv_if_le C.1 C.2.1 hd ht (fun h => kt h H locs ls hP hS hl) (fun h => kf h H locs ls hP hS hl)
theorem j_icmp_le (C : Cx E G own cc nL rm) {x y : Int32} {off : Int} (hd : decode cc pc = .ok (.if_icmp .le off, 3)) (tgt : Nat) (ht : (pc : Int) + off = (tgt : Int)) (pc' : Nat) (hp : pc + 3 = pc') (kt : x ≤ y → J E G nL k n σ tgt L st) (kf : ¬ x ≤ y → J E G nL k n σ pc' L st) : J E G nL k n σ pc L (.int y :: .int x :: st) := by
  subst hp
  exact fun H locs ls hP hS hl => lv_icmp_le C.1 C.2.1 hd ht (fun h => kt h H locs ls hP hS hl) (fun h => kf h H locs ls hP hS hl)
theorem j_ifnull (C : Cx E G own cc nL rm) {x : Nat} {off : Int} (hd : decode cc pc = .ok (.ifnull off, 3)) (pc' : Nat) (hp : pc + 3 = pc') (kk : J E G nL k n σ pc' L st) : J E G nL k n σ pc L (.ref x :: st) := by
  subst hp
  exact fun H locs ls hP hS hl => lv_ifnull C.1 C.2.1 hd (kk H locs ls hP hS hl)
theorem j_ifnullN (C : Cx E G own cc nL rm) {off : Int} (hd : decode cc pc = .ok (.ifnull off, 3)) (tgt : Nat) (ht : (pc : Int) + off = (tgt : Int)) (kk : J E G nL k n σ tgt L st) : J E G nL k n σ pc L (.null :: st) :=
  fun H locs ls hP hS hl => lv_ifnullN C.1 C.2.1 hd ht (kk H locs ls hP hS hl)
theorem j_tableIn (C : Cx E G own cc nL rm) {dflt lo hi : Int} {offs : Array Int} {len : Nat} {x : Int32} {off : Int} (hd : decode cc pc = .ok (.tableswitch dflt lo hi offs, len)) (h1 : ¬ x.toInt < lo) (h2 : ¬ hi < x.toInt) (ho : offs[(x.toInt - lo).toNat]? = some off) (tgt : Nat) (ht : (pc : Int) + off = (tgt : Int)) (kk : J E G nL k n σ tgt L st) : J E G nL k n σ pc L (.int x :: st) :=
  fun H locs ls hP hS hl => lv_tableIn C.1 C.2.1 hd h1 h2 ho ht (kk H locs ls hP hS hl)
theorem j_tableOut (C : Cx E G own cc nL rm) {dflt lo hi : Int} {offs : Array Int} {len : Nat} {x : Int32} (hd : decode cc pc = .ok (.tableswitch dflt lo hi offs, len)) (h : x.toInt < lo ∨ hi < x.toInt) (tgt : Nat) (ht : (pc : Int) + dflt = (tgt : Int)) (kk : J E G nL k n σ tgt L st) : J E G nL k n σ pc L (.int x :: st) :=
  fun H locs ls hP hS hl => lv_tableOut C.1 C.2.1 hd h ht (kk H locs ls hP hS hl)
theorem j_lookup (C : Cx E G own cc nL rm) {dflt : Int} {ps : Array (Int × Int)} {len : Nat} {x : Int32} {off : Int} (hd : decode cc pc = .ok (.lookupswitch dflt ps, len)) (hp : (ps.toList.zip (ps.toList.drop 1)).all (fun (a, next) => a.1 < next.1) = true) (ho : Op.lookupswitch.offset ps.toList dflt x.toInt = off) (tgt : Nat) (ht : (pc : Int) + off = (tgt : Int)) (kk : J E G nL k n σ tgt L st) : J E G nL k n σ pc L (.int x :: st) :=
  fun H locs ls hP hS hl => lv_lookup C.1 C.2.1 hd hp ho ht (kk H locs ls hP hS hl)
/-- a class's fields, as the tables have them -/
def FO (ci : Nat) (K : String) (T : u_T) (N : Nat) (ty : Nat → FieldType) : Prop := vwCl[ci]? = some (K, T, N) ∧ (∀ w ∈ u_ws K T N, w ∈ lw_all) ∧ (∀ k, k < N → parseFieldDescriptor (T k).2.2.1 = some (ty k)) ∧ (∀ a, a < N → ∀ b, b < N → a ≠ b → (T a).2.1 ≠ (T b).2.1)
theorem j_get (C : Cx E G own cc nL rm) {ci N idx : Nat} {K ref : String} {T : u_T} {ty : Nat → FieldType} (F : FO ci K T N ty) {i : Nat} {ds : List Nat} (hs : shp i = .inl (ci, ds)) (f : Nat) (hf : f < N) (d : Nat) (hdf : ds[f]? = some d) (hw : Cond.fieldLink own idx ref (T f).2.1 (T f).2.2.1 ∈ lw_all) (hsame : (T f).1 = ref) (hd : decode cc pc = .ok (.getfield idx, 3)) (v : Value) (hv : fv G.2.2.1 σ i f d = v) (pc' : Nat) (hp : pc + 3 = pc') (kk : J E G nL k n σ pc' L (v :: st)) : J E G nL k n σ pc L (.ref (gA G i) :: st) := by
  subst hp
  subst hsame
  intro H locs ls hP hS hl
  exact va_get C.1 C.2.1 C.2.2.2.2.1 F.2.1 C.2.2.2.1 C.2.2.2.2.2.1 hP i (by rw [wld_at (shp_lto hs), wE_o hs]) F.1 f hf (C.2.2.2.2.1 _ hw) (fun _ h => h) (by rw [fvs_at, hdf, Nat.zero_add]; exact congrArg some hv) hd (kk H locs ls hP hS hl)
theorem j_putI (C : Cx E G own cc nL rm) {ci N idx : Nat} {K ref : String} {T : u_T} {ty : Nat → FieldType} (F : FO ci K T N ty) {i : Nat} {ds : List Nat} (hs : shp i = .inl (ci, ds)) (f : Nat) (hf : f < N) (hdf : ds[f]? = some 0) (hw : Cond.fieldLink own idx ref (T f).2.1 (T f).2.2.1 ∈ lw_all) (hsame : (T f).1 = ref) (hfin : (T f).2.2.2 = false) {x : Int32} (hn : narrow (ty f) (.int x) = .int x) (hfit : fits (ty f) (.int x) = true) (hd : decode cc pc = .ok (.putfield idx, 3)) (σ' : Mem) (hσ : setI σ i f x = σ') (pc' : Nat) (hp : pc + 3 = pc') (kk : J E G nL k n σ' pc' L st) : J E G nL k n σ pc L (.int x :: .ref (gA G i) :: st) := by
  subst hp
  subst hsame
  subst hσ
  intro H locs ls hP hS hl
  refine va_put C.1 C.2.1 C.2.2.2.2.1 F.2.1 ty F.2.2.1 F.2.2.2 C.2.2.2.1 C.2.2.2.2.2.1 hP (wld_D C.2.2.2.2.2.2.1) hS i (by rw [wld_at (shp_lto hs), wE_o hs]) F.1 f hf (C.2.2.2.2.1 _ hw) (fun _ h => h) hfin (F.2.2.1 f hf) hn hfit (by rw [fvs_len]; exact (List.getElem?_eq_some_iff.mp hdf).1) hd (fun H1 locs1 hP1 _ hS1 => ?_)
  rw [wld_setI_f hs hdf] at hP1
  exact kk H1 locs1 ls hP1 hS1 hl
theorem j_putL (C : Cx E G own cc nL rm) {ci N idx : Nat} {K ref : String} {T : u_T} {ty : Nat → FieldType} (F : FO ci K T N ty) {i : Nat} {ds : List Nat} (hs : shp i = .inl (ci, ds)) (f : Nat) (hf : f < N) (hdf : ds[f]? = some 1) (hw : Cond.fieldLink own idx ref (T f).2.1 (T f).2.2.1 ∈ lw_all) (hsame : (T f).1 = ref) (hfin : (T f).2.2.2 = false) {x : Int64} (hn : narrow (ty f) (.long x) = .long x) (hfit : fits (ty f) (.long x) = true) (hd : decode cc pc = .ok (.putfield idx, 3)) (σ' : Mem) (hσ : setL σ i f x = σ') (pc' : Nat) (hp : pc + 3 = pc') (kk : J E G nL k n σ' pc' L st) : J E G nL k n σ pc L (.long x :: .ref (gA G i) :: st) := by
  subst hp
  subst hsame
  subst hσ
  intro H locs ls hP hS hl
  refine va_put C.1 C.2.1 C.2.2.2.2.1 F.2.1 ty F.2.2.1 F.2.2.2 C.2.2.2.1 C.2.2.2.2.2.1 hP (wld_D C.2.2.2.2.2.2.1) hS i (by rw [wld_at (shp_lto hs), wE_o hs]) F.1 f hf (C.2.2.2.2.1 _ hw) (fun _ h => h) hfin (F.2.2.1 f hf) hn hfit (by rw [fvs_len]; exact (List.getElem?_eq_some_iff.mp hdf).1) hd (fun H1 locs1 hP1 _ hS1 => ?_)
  rw [wld_setL_f hs hdf] at hP1
  exact kk H1 locs1 ls hP1 hS1 hl
theorem inA_in {x : Int32} {n : Nat} (h : inA x n) : vp_in x n := vp_in_iff.mpr h
theorem j_iald (C : Cx E G own cc nL rm) {i N : Nat} (hs : shp i = .inr (0, N)) {x : Int32} (hin : inA x N) (hd : decode cc pc = .ok (.iaload, 1)) (j : Nat) (hj : x.toNatClampNeg = j) (pc' : Nat) (hp : pc + 1 = pc') (kk : J E G nL k n σ pc' L (.int (σ.1 i j) :: st)) : J E G nL k n σ pc L (.int x :: .ref (gA G i) :: st) := by
  subst hp
  subst hj
  intro H locs ls hP hS hl
  exact va_iald C.1 C.2.1 C.2.2.2.2.2.1 hP i 0 (by rw [wld_at (shp_lta hs (by decide)), wE_i hs]) rfl (inA_in hin) hd (kk H locs ls hP hS hl)
theorem j_lald (C : Cx E G own cc nL rm) {i N : Nat} (hs : shp i = .inr (1, N)) {x : Int32} (hin : inA x N) (hd : decode cc pc = .ok (.laload, 1)) (j : Nat) (hj : x.toNatClampNeg = j) (pc' : Nat) (hp : pc + 1 = pc') (kk : J E G nL k n σ pc' L (.long (σ.2 i j) :: st)) : J E G nL k n σ pc L (.int x :: .ref (gA G i) :: st) := by
  subst hp
  subst hj
  intro H locs ls hP hS hl
  exact va_lald C.1 C.2.1 C.2.2.2.2.2.1 hP i 1 (by rw [wld_at (shp_lta hs (by decide)), wE_l hs]) rfl (inA_in hin) hd (kk H locs ls hP hS hl)
theorem j_aald (C : Cx E G own cc nL rm) {i N : Nat} (hs : shp i = .inr (2, N)) {x : Int32} (hin : inA x N) (hd : decode cc pc = .ok (.aaload, 1)) (pc' : Nat) (hp : pc + 1 = pc') (kk : J E G nL k n σ pc' L (.ref (gA G (14 + 7 * x.toNatClampNeg)) :: st)) : J E G nL k n σ pc L (.int x :: .ref (gA G i) :: st) := by
  subst hp
  intro H locs ls hP hS hl
  exact va_aldq (f := fun j => some (gA G (14 + 7 * j))) C.1 C.2.1 C.2.2.2.2.2.1 hP i 2 (by rw [wld_at (shp_lta hs (by decide)), wE_r hs]) rfl (inA_in hin) hd (kk H locs ls hP hS hl)
theorem j_iast (C : Cx E G own cc nL rm) {i N : Nat} (hs : shp i = .inr (0, N)) {x v : Int32} (hin : inA x N) (hd : decode cc pc = .ok (.iastore, 1)) (j : Nat) (hj : x.toNatClampNeg = j) (σ' : Mem) (hσ : setI σ i j v = σ') (pc' : Nat) (hp : pc + 1 = pc') (kk : J E G nL k n σ' pc' L st) : J E G nL k n σ pc L (.int v :: .int x :: .ref (gA G i) :: st) := by
  subst hp
  subst hj
  subst hσ
  intro H locs ls hP hS hl
  refine va_iast C.1 C.2.1 C.2.2.2.2.2.1 hP (wld_D C.2.2.2.2.2.2.1) hS i 0 (by rw [wld_at (shp_lta hs (by decide)), wE_i hs]) rfl (inA_in hin) hd (fun H1 locs1 hP1 _ hS1 => ?_)
  rw [wld_setI_a hs] at hP1
  exact kk H1 locs1 ls hP1 hS1 hl
theorem j_last (C : Cx E G own cc nL rm) {i N : Nat} (hs : shp i = .inr (1, N)) {x : Int32} {v : Int64} (hin : inA x N) (hd : decode cc pc = .ok (.lastore, 1)) (j : Nat) (hj : x.toNatClampNeg = j) (σ' : Mem) (hσ : setL σ i j v = σ') (pc' : Nat) (hp : pc + 1 = pc') (kk : J E G nL k n σ' pc' L st) : J E G nL k n σ pc L (.long v :: .int x :: .ref (gA G i) :: st) := by
  subst hp
  subst hj
  subst hσ
  intro H locs ls hP hS hl
  refine va_last C.1 C.2.1 C.2.2.2.2.2.1 hP (wld_D C.2.2.2.2.2.2.1) hS i 1 (by rw [wld_at (shp_lta hs (by decide)), wE_l hs]) rfl (inA_in hin) hd (fun H1 locs1 hP1 _ hS1 => ?_)
  rw [wld_setL_a hs] at hP1
  exact kk H1 locs1 ls hP1 hS1 hl
theorem j_alen (C : Cx E G own cc nL rm) {i N : Nat} (hs : shp i = .inr (0, N)) (hd : decode cc pc = .ok (.arraylength, 1)) (v : Int32) (hv : Int32.ofNat N = v) (pc' : Nat) (hp : pc + 1 = pc') (kk : J E G nL k n σ pc' L (.int v :: st)) : J E G nL k n σ pc L (.ref (gA G i) :: st) := by
  subst hp
  intro H locs ls hP hS hl
  exact va_alen C.1 C.2.1 C.2.2.2.2.2.1 hP i 0 (by rw [wld_at (shp_lta hs (by decide)), wE_i hs]) rfl hv hd (kk H locs ls hP hS hl)
theorem j_alenR (C : Cx E G own cc nL rm) {i N : Nat} (hs : shp i = .inr (2, N)) (hd : decode cc pc = .ok (.arraylength, 1)) (v : Int32) (hv : Int32.ofNat N = v) (pc' : Nat) (hp : pc + 1 = pc') (kk : J E G nL k n σ pc' L (.int v :: st)) : J E G nL k n σ pc L (.ref (gA G i) :: st) := by
  subst hp
  intro H locs ls hP hS hl
  exact va_alen C.1 C.2.1 C.2.2.2.2.2.1 hP i 2 (by rw [wld_at (shp_lta hs (by decide)), wE_r hs]) rfl hv hd (kk H locs ls hP hS hl)
/-- behind a call that makes nothing new: what the world is then, and the answer -/
def Qm (G : Gw) (σ' : Mem) (r : Option Value) : Array Value → State → Outcome → State → Prop := fun _ st oc t => oc = .returned r ∧ va_P G.1 vwCl (gW G σ') t.heap ∧ va_F (gF G) st t
def Pm (G : Gw) (σ : Mem) (U : State) : Prop := va_P G.1 vwCl (gW G σ) U.heap ∧ va_K G.1 vwCl (tysOf G.2.1) U ∧ G.2.2.2 ≤ U.heap.size ∧ Xt G U U.heap
/-- A CONTRACT: over the memory σ and these arguments the method y answers r and leaves the memory σ' -/
def Ct (l : Launch) (G : Gw) (y : MethodName) (cc : ByteArray) (nL : Nat) (ret : Option FieldType) (rm : Room) (as : List Value) (σ σ' : Mem) (r : Option Value) : Prop :=
  AdOk G.2.2.2 G.2.2.1 → Met l y (Cond.code y cc nL ret :: lw_all) rm (va_Pc as (Pm G σ)) (Qm G σ' r) 0 0 (gF G)
/-- what a method's end looks at -/
def Ef (E : Ev) (G : Gw) (σo : Mem) (ro : Option Value) (ret : Option FieldType) (k n : Nat) : Prop :=
  eQ E = MQ (eB E) (Qm G σo ro) (eA E) (eS E) k n (gF G) ∧ (eT E).sig.returnType = ret ∧ (eT E).locks = false
theorem Ct.of {l : Launch} {G : Gw} {y : MethodName} {cc : ByteArray} {nL : Nat} {ret : Option FieldType} {rm : Room} {as : List Value} {σ σ' : Mem} {r : Option Value} (hy : plainFor y = true) (hlen : (lg_sl as).length ≤ nL)
    (body : ∀ E : Ev, eL E = l → Cx E G y.cls cc nL rm → Ef E G σ' r ret 0 0 → J E G nL 0 0 σ 0 (lv_args 0 as) []) : Ct l G y cc nL ret rm as σ σ' r := by
  intro hA
  refine va_MetF (cc := cc) (maxL := nL) (ret := ret) hy rfl ?_
  intro p e s m args below meth c s₁ B hml hv
  obtain ⟨rfl, hP, hK, hN, hX⟩ := hv
  have hts := atoms_spec (ws := Cond.code y cc nL ret :: lw_all) B.pre
  have hown : s.vm.findClass y.cls = some m.cls := findClass_of_methodNamed B.named
  have hl := lv_entry as (n := nL) hlen
  rw [lg_entry_eq]
  exact body (p, l, e, rm, s, m, as.toArray, below, meth, c, MQ below (Qm G σ' r) as.toArray s 0 0 (gF G)) rfl ⟨B.exec, B.bytes, hml, hown, fun w h => hts w (List.mem_cons_of_mem _ h), hK, hA, hN, rfl, hX⟩ ⟨rfl, B.returns, B.notSynchronized⟩ s.heap [] _ hP va_S.rf hl
theorem Pm.blind {G : Gw} {σ : Mem} {as : List Value} : FrameBlind (va_Pc as (Pm G σ)) := fun a U g mk q => by
  obtain ⟨q0, qP, qK, qN, qX⟩ := q
  exact ⟨q0, qP, va_K.moved (u := U) (U := U.calling g mk a) (Vm.Alike.refl U.vm) qK, qN, Xt.warm (s := U) (U := U.calling g mk a) (State.WarmedH.refl U) qX⟩
theorem j_run {σ' : Mem} {r : Option Value} {a : Array Value} {rest st1 : List Value} (hr : ∀ (H : Heap) (locs : List Loc) (ls : Array Slot), va_P G.1 vwCl (gW G σ) H → va_S (gF G) (eS E).heap H locs → lv_has ls nL L → va_Run (eP E) (eL E) (eE E) (eR E) (eS E) (eM E) (eA E) (eB E) (eT E) (eC E) H locs k n 0 0 (F0 (eM E) pc ls st) rest (Qm G σ' r a) (gF G)) (h1 : r.toList ++ rest = st1) (pc' : Nat) (hp : pc + 3 = pc') (kk : J E G nL k n σ' pc' L st1) : J E G nL k n σ pc L st := by
  subst hp
  subst h1
  intro H locs ls hP hS hl T hT X
  obtain ⟨v, st₀, t, T', L1, h0, X', hL, e1, e2, ⟨hv, hP1, hz, hk⟩, stp⟩ := hr H locs ls hP hS hl T hT X
  cases hv
  rw [h0] at hz hk
  obtain ⟨t2, a1, b1⟩ := kk T'.heap (locs ++ L1) ls (by rw [e1]; exact hP1) ⟨Nat.le_trans hS.1 (by rw [e1]; exact hz), fun q h1 h2 => by rw [e1, hk q (Nat.lt_of_lt_of_le h1 hS.1) h2]; exact hS.2.1 q h1 h2, fun q hq => by
      rcases List.mem_append.mp hq with h | h
      · exact hS.2.2 q h
      · exact hL q h⟩ hl T' rfl X'
  exact ⟨t2, stp t2 a1, b1⟩
/-- what a call of y wants of the tables, but its link -/
def VK (y : MethodName) (bytes : ByteArray) (maxL : Nat) (ret : Option FieldType) (nn : Nat) : Prop := Cond.code y bytes maxL ret ∈ lw_all ∧ Cond.instanceMethod y ∈ lw_all ∧ Cond.selects y.cls y y ∈ lw_all ∧ Cond.initialized y.cls ∈ lw_all ∧ (y.cls ≠ "java/lang/invoke/MethodHandle" ∧ y.cls ≠ "java/lang/invoke/VarHandle" ∧ (parseMethodDescriptor y.desc).map (fun d => d.parameters.length) = some nn)
def SK (y : MethodName) (bytes : ByteArray) (maxL : Nat) (ret : Option FieldType) (nn : Nat) : Prop := Cond.code y bytes maxL ret ∈ lw_all ∧ Cond.static y ∈ lw_all ∧ Cond.initialized y.cls ∈ lw_all ∧ (y.cls ≠ "java/lang/invoke/MethodHandle" ∧ y.cls ≠ "java/lang/invoke/VarHandle" ∧ (parseMethodDescriptor y.desc).map (fun d => d.parameters.length) = some nn)
theorem j_callV (C : Cx E G own cc nL rm) {y : MethodName} {bytes : ByteArray} {maxL nn : Nat} {ret : Option FieldType} {rm' : Room} {i : Nat} {as rest st1 : List Value} {σ' : Mem} {r : Option Value} (ct : Ct (eL E) G y bytes maxL ret rm' (.ref (gA G i) :: as) σ σ' r) {ci : Nat} {ds : List Nat} (hs : shp i = .inl (ci, ds)) {N : Nat} {K : String} {T : u_T} {ty : Nat → FieldType} (F : FO ci K T N ty) (hK : K = y.cls) {idx : Nat}
    (vk : VK y bytes maxL ret nn) (w1 : Cond.methodLink own idx y ∈ lw_all) (hnn : as.length = nn) (hro : rm'.frames + 1 ≤ rm.frames ∧ 8 + (maxL + 11) + rm'.locals ≤ rm.locals ∧ rm'.cells = 0 ∧ rm'.slots = 0) (hkn : k ≤ rm.cells ∧ n ≤ rm.slots)
    (hst : st = as.reverse ++ .ref (gA G i) :: rest) (hcat : (rest.map fun v => v.category).sum ≤ 8) (hd : decode cc pc = .ok (.invokevirtual idx, 3)) (h1 : r.toList ++ rest = st1) (pc' : Nat) (hp : pc + 3 = pc') (kk : J E G nL k n σ' pc' L st1) : J E G nL k n σ pc L st := by
  refine j_run (a := (Value.ref (gA G i) :: as).toArray) (rest := rest) (fun H locs ls hP hS hl => ?_) h1 pc' hp kk
  obtain ⟨cx, cb, cm, cown, cts, cK, cA, cN, cR, cX⟩ := C
  subst hst
  subst hnn
  have hq := va_recv cK hP F.1 (q0 := i) (a := gA G i) (ci := ci) (fs := fvs G.2.2.1 σ i 0 ds) (by rw [wld_at (shp_lto hs), wE_o hs])
  subst hK
  exact va_runV (As := as) (rest := rest) ⟨cx, cb, cm, cown, cts⟩ (ct cA) (cwV as.length cts (gd_V vk.1 w1 vk.2.1 vk.2.2.1 vk.2.2.2.1) rfl hro.2.2.1 hro.2.2.2 ⟨rfl, vk.2.2.2.2⟩ (by rw [cR]; exact ⟨hro.1, hro.2.1⟩)) ⟨Pm.blind, hq, fun U hU hW => ⟨rfl, by rw [hU]; exact hP, va_K.moved hW.alike cK, by rw [hU]; exact Nat.le_trans cN hS.1, by rw [hU]; exact Xt.warm hW (cX.kept hS.2.1)⟩⟩ rfl rfl hl.1 rfl (lv_room hcat) hd ⟨by rw [cR]; exact hkn.1, by rw [cR]; exact hkn.2⟩
theorem j_callS (C : Cx E G own cc nL rm) {y : MethodName} {bytes : ByteArray} {maxL nn : Nat} {ret : Option FieldType} {rm' : Room} {as rest st1 : List Value} {σ' : Mem} {r : Option Value} (ct : Ct (eL E) G y bytes maxL ret rm' as σ σ' r) {idx : Nat}
    (vk : SK y bytes maxL ret nn) (w1 : Cond.methodLink own idx y ∈ lw_all) (hnn : as.length = nn) (hro : rm'.frames + 1 ≤ rm.frames ∧ 8 + (maxL + 11) + rm'.locals ≤ rm.locals ∧ rm'.cells = 0 ∧ rm'.slots = 0) (hkn : k ≤ rm.cells ∧ n ≤ rm.slots)
    (hst : st = as.reverse ++ rest) (hcat : (rest.map fun v => v.category).sum ≤ 8) (hd : decode cc pc = .ok (.invokestatic idx, 3)) (h1 : r.toList ++ rest = st1) (pc' : Nat) (hp : pc + 3 = pc') (kk : J E G nL k n σ' pc' L st1) : J E G nL k n σ pc L st := by
  refine j_run (a := as.toArray) (rest := rest) (fun H locs ls hP hS hl => ?_) h1 pc' hp kk
  obtain ⟨cx, cb, cm, cown, cts, cK, cA, cN, cR, cX⟩ := C
  subst hst
  subst hnn
  exact va_runS (As := as) (rest := rest) ⟨cx, cb, cm, cown, cts⟩ (ct cA) (va_cwS as.length cts (gd_S vk.1 w1 vk.2.1 vk.2.2.1) rfl hro.2.2.1 hro.2.2.2 vk.2.2.2 (by rw [cR]; exact ⟨hro.1, hro.2.1⟩)) ⟨Pm.blind, fun U hU hW => ⟨rfl, by rw [hU]; exact hP, va_K.moved hW.alike cK, by rw [hU]; exact Nat.le_trans cN hS.1, by rw [hU]; exact Xt.warm hW (cX.kept hS.2.1)⟩⟩ rfl rfl hl.1 rfl (lv_room hcat) hd ⟨by rw [cR]; exact hkn.1, by rw [cR]; exact hkn.2⟩
theorem j_min (C : Cx E G own cc nL rm) {idx : Nat} (w0 : Cond.code Lib.Math.min.name Lib.Math.min.code 2 (some .int) ∈ lw_all) (w1 : Cond.methodLink own idx Lib.Math.min.name ∈ lw_all) (w2 : Cond.static Lib.Math.min.name ∈ lw_all) (w4 : Cond.initialized "java/lang/Math" ∈ lw_all) {x y : Int32} (hro : 1 ≤ rm.frames ∧ 21 ≤ rm.locals) (hkn : k ≤ rm.cells ∧ n ≤ rm.slots) (hcat : (st.map fun v => v.category).sum ≤ 8) (hd : decode cc pc = .ok (.invokestatic idx, 3)) (pc' : Nat) (hp : pc + 3 = pc') (kk : J E G nL k n σ pc' L (.int (if y < x then y else x) :: st)) : J E G nL k n σ pc L (.int y :: .int x :: st) := by
  subst hp
  intro H locs ls hP hS hl
  have hts := C.2.2.2.2.1
  have cR := C.2.2.2.2.2.2.2.2.1
  exact va_mmin C.1 C.2.1 (C.2.2.1.trans hl.1.symm) C.2.2.2.1 (hts _ w1) (hts _ w2) (hts _ w4) (hts _ w0) (by rw [cR]; exact hro.1) (by rw [cR]; omega) (by rw [cR]; exact hkn.1) (by rw [cR]; exact hkn.2) hd (kk H locs ls hP hS hl)
theorem j_max (C : Cx E G own cc nL rm) {idx : Nat} (w0 : Cond.code Lib.Math.max.name Lib.Math.max.code 2 (some .int) ∈ lw_all) (w1 : Cond.methodLink own idx Lib.Math.max.name ∈ lw_all) (w2 : Cond.static Lib.Math.max.name ∈ lw_all) (w4 : Cond.initialized "java/lang/Math" ∈ lw_all) {x y : Int32} (hro : 1 ≤ rm.frames ∧ 21 ≤ rm.locals) (hkn : k ≤ rm.cells ∧ n ≤ rm.slots) (hcat : (st.map fun v => v.category).sum ≤ 8) (hd : decode cc pc = .ok (.invokestatic idx, 3)) (pc' : Nat) (hp : pc + 3 = pc') (kk : J E G nL k n σ pc' L (.int (if x < y then y else x) :: st)) : J E G nL k n σ pc L (.int y :: .int x :: st) := by
  subst hp
  intro H locs ls hP hS hl
  have hts := C.2.2.2.2.1
  have cR := C.2.2.2.2.2.2.2.2.1
  exact va_mmax C.1 C.2.1 (C.2.2.1.trans hl.1.symm) C.2.2.2.1 (hts _ w1) (hts _ w2) (hts _ w4) (hts _ w0) (by rw [cR]; exact hro.1) (by rw [cR]; omega) (by rw [cR]; exact hkn.1) (by rw [cR]; exact hkn.2) hd (kk H locs ls hP hS hl)
theorem j_iret (C : Cx E G own cc nL rm) {out : Mem × Int32} {v : Int32} (F : Ef E G out.1 (some (.int out.2)) (some .int) k n) (hd : decode cc pc = .ok (.ireturn, 1)) (h : some (σ, v) = some out) : J E G nL k n σ pc L [.int v] := by
  cases h
  intro H locs ls hP hS hl
  rw [F.1]
  exact W.iret C.1 C.2.1 F.2.1 (fun t ht _ => ⟨rfl, by rw [ht]; exact hP, hS.F ht⟩) hS.2.2 hd F.2.2
theorem nar_bool {v : Int32} (h : v &&& 1 = v) : narrow .boolean (.int v) = .int v := by
  simp [narrow, h]
theorem j_zret (C : Cx E G own cc nL rm) {out : Mem × Int32} {v : Int32} (F : Ef E G out.1 (some (.int out.2)) (some .boolean) k n) (hd : decode cc pc = .ok (.ireturn, 1)) (hb : v &&& 1 = v) (h : some (σ, v) = some out) : J E G nL k n σ pc L [.int v] := by
  cases h
  intro H locs ls hP hS hl
  rw [F.1]
  exact W.zret C.1 C.2.1 F.2.1 (nar_bool hb) (fun t ht _ => ⟨rfl, by rw [ht]; exact hP, hS.F ht⟩) hS.2.2 hd F.2.2
theorem j_lret (C : Cx E G own cc nL rm) {out : Mem × Int64} {v : Int64} (F : Ef E G out.1 (some (.long out.2)) (some .long) k n) (hd : decode cc pc = .ok (.lreturn, 1)) (h : some (σ, v) = some out) : J E G nL k n σ pc L [.long v] := by
  cases h
  intro H locs ls hP hS hl
  rw [F.1]
  exact W.lret C.1 C.2.1 F.2.1 (fun t ht _ => ⟨rfl, by rw [ht]; exact hP, hS.F ht⟩) hS.2.2 hd F.2.2
theorem j_fret (C : Cx E G own cc nL rm) {out : Mem × UInt32} {v : UInt32} (F : Ef E G out.1 (some (.float out.2)) (some .float) k n) (hd : decode cc pc = .ok (.freturn, 1)) (h : some (σ, v) = some out) : J E G nL k n σ pc L [.float v] := by
  cases h
  intro H locs ls hP hS hl
  rw [F.1]
  exact W.fret C.1 C.2.1 F.2.1 (fun t ht _ => ⟨rfl, by rw [ht]; exact hP, hS.F ht⟩) hS.2.2 hd F.2.2
theorem j_dret (C : Cx E G own cc nL rm) {out : Mem × UInt64} {v : UInt64} (F : Ef E G out.1 (some (.double out.2)) (some .double) k n) (hd : decode cc pc = .ok (.dreturn, 1)) (h : some (σ, v) = some out) : J E G nL k n σ pc L [.double v] := by
  cases h
  intro H locs ls hP hS hl
  rw [F.1]
  exact W.dret C.1 C.2.1 F.2.1 (fun t ht _ => ⟨rfl, by rw [ht]; exact hP, hS.F ht⟩) hS.2.2 hd F.2.2
theorem j_vret (C : Cx E G own cc nL rm) {out : Mem × Unit} (F : Ef E G out.1 none none k n) (hd : decode cc pc = .ok (.return_, 1)) (h : some (σ, ()) = some out) : J E G nL k n σ pc L [] := by
  cases h
  intro H locs ls hP hS hl
  rw [F.1]
  exact W.vret C.1 C.2.1 F.2.1 (fun t ht _ => ⟨rfl, by rw [ht]; exact hP, hS.F ht⟩) hS.2.2 hd F.2.2
/-- an answer that is a cell of the system, or null -/
def orf (G : Gw) (r : Option Nat) : Value := match r with
  | none => .null
  | some i => .ref (gA G i)
theorem j_aret (C : Cx E G own cc nL rm) {out : Mem × Option Nat} {v : Value} {x : Option Nat} {nm : String} (F : Ef E G out.1 (some (orf G out.2)) (some (.object nm)) k n) (hv : orf G x = v) (hd : decode cc pc = .ok (.areturn, 1)) (h : some (σ, x) = some out) : J E G nL k n σ pc L [v] := by
  cases h
  subst hv
  intro H locs ls hP hS hl
  rw [F.1]
  refine W.aret C.1 C.2.1 F.2.1 (Or.inl ⟨_, rfl⟩) ?_ (fun t ht _ => ⟨rfl, by rw [ht]; exact hP, hS.F ht⟩) hS.2.2 hd F.2.2
  cases x with
  | none => exact Or.inl rfl
  | some i => exact Or.inr ⟨_, rfl⟩
end ROWS

/-- the exceptions: 0, 1, 2 -/
def exN (x : Nat) : String := if x = 0 then "java/lang/IllegalArgumentException" else if x = 1 then "java/lang/IllegalStateException" else "java/lang/IndexOutOfBoundsException"
abbrev exSup : List String := ["java/lang/RuntimeException", "java/lang/Exception"]
def QX (G : Gw) (σo : Mem) (x : Nat) : String → State → State → Prop := fun X st t => X = exN x ∧ va_P G.1 vwCl (gW G σo) t.heap ∧ va_F (gF G) st t
/-- A CONTRACT of a call that throws: the exception x, the memory σ' -/
def Cx1 (l : Launch) (G : Gw) (y : MethodName) (cc : ByteArray) (nL : Nat) (ret : Option FieldType) (rm : Room) (as : List Value) (σ σ' : Mem) (x : Nat) : Prop :=
  AdOk G.2.2.2 G.2.2.1 → vx_Met l y (Cond.code y cc nL ret :: lw_all) rm (va_Pc as (Pm G σ)) (fun _ _ _ _ => False) (QX G σ' x) 1 6 (gF G)
def Et (E : Ev) (G : Gw) (σo : Mem) (x : Nat) : Prop :=
  eQ E = vx_MQ (eB E) (fun _ _ _ _ => False) (QX G σo x) (eA E) (eS E) 1 6 (gF G) ∧ (eT E).locks = false ∧ (∀ z ∈ (eC E).exceptionTable.toList, False) ∧ (eL E).stackTraces = false ∧ 1 ≤ (eR E).cells ∧ 6 ≤ (eR E).slots
/-- the end of a method that may throw -/
def Efx (E : Ev) (G : Gw) (out : Mem × (Int32 ⊕ Nat)) (ret : Option FieldType) : Prop :=
  (∀ v, out.2 = .inl v → Ef E G out.1 (some (.int v)) ret 0 0) ∧ ∀ x, out.2 = .inr x → Et E G out.1 x
theorem Cx1.of {l : Launch} {G : Gw} {y : MethodName} {cc : ByteArray} {nL : Nat} {ret : Option FieldType} {rm : Room} {as : List Value} {σ σ' : Mem} {x : Nat} (hy : plainName y.cls = true) (hlen : (lg_sl as).length ≤ nL) (hst : l.stackTraces = false) (hrm : 1 ≤ rm.cells ∧ 6 ≤ rm.slots)
    (body : ∀ E : Ev, eL E = l → Cx E G y.cls cc nL rm → Et E G σ' x → J E G nL 0 0 σ 0 (lv_args 0 as) []) : Cx1 l G y cc nL ret rm as σ σ' x := by
  intro hA
  refine vx_ofW (cc := cc) (maxL := nL) (ret := ret) hy rfl ?_
  intro p e s m args below meth c s₁ B hml htab hv
  obtain ⟨rfl, hP, hK, hN, hX⟩ := hv
  have hts := atoms_spec (ws := Cond.code y cc nL ret :: lw_all) B.pre
  have hown : s.vm.findClass y.cls = some m.cls := findClass_of_methodNamed B.named
  have hl := lv_entry as (n := nL) hlen
  rw [lg_entry_eq]
  exact body (p, l, e, rm, s, m, as.toArray, below, meth, c, vx_MQ below (fun _ _ _ _ => False) (QX G σ' x) as.toArray s 1 6 (gF G)) rfl ⟨B.exec, B.bytes, hml, hown, fun w h => hts w (List.mem_cons_of_mem _ h), hK, hA, hN, rfl, hX⟩ ⟨rfl, B.notSynchronized, htab, hst, hrm⟩ s.heap [] _ hP va_S.rf hl
section STR
variable {E : Ev} {G : Gw} {own : String} {cc : ByteArray} {nL : Nat} {rm : Room} {k n : Nat} {σ : Mem} {pc : Nat} {L : List (Nat × Value)} {st : List Value}
theorem j_ldcS (C : Cx E G RX1 cc nL rm) (hd : decode cc pc = .ok (.ldc 42, 2)) (pc' : Nat) (hp : pc + 2 = pc') (kk : J E G nL k n σ pc' L (.ref (gA G 92) :: st)) : J E G nL k n σ pc L st := by
  subst hp
  exact fun H locs ls hP hS hl => va_ldcS C.1 C.2.1 C.2.2.2.1 C.2.2.2.2.2.2.2.2.2.2.2.2.2.2.1 hd (kk H locs ls hP hS hl)
theorem j_strV (C : Cx E G RJ0 cc nL rm) (hw : Cond.fieldLink RJ0 9 "java/lang/String" "value" "[B" ∈ lw_all) (hd : decode cc pc = .ok (.getfield 9, 3)) (pc' : Nat) (hp : pc + 3 = pc') (kk : J E G nL k n σ pc' L (.ref (gA G 93) :: st)) : J E G nL k n σ pc L (.ref (gA G 92) :: st) := by
  subst hp
  exact fun H locs ls hP hS hl => vk_getf C.1 C.2.1 C.2.2.2.2.2.2.2.2.2.2.2.1 hS C.2.2.2.1 (C.2.2.2.2.1 _ hw) (fun _ h => h) hd (kk H locs ls hP hS hl)
theorem j_strC (C : Cx E G RJ0 cc nL rm) (hw : Cond.fieldLink RJ0 15 "java/lang/String" "coder" "B" ∈ lw_all) (hd : decode cc pc = .ok (.getfield 15, 3)) (pc' : Nat) (hp : pc + 3 = pc') (kk : J E G nL k n σ pc' L (.int (0 : Int32) :: st)) : J E G nL k n σ pc L (.ref (gA G 92) :: st) := by
  subst hp
  exact fun H locs ls hP hS hl => vk_getf C.1 C.2.1 C.2.2.2.2.2.2.2.2.2.2.1 hS C.2.2.2.1 (C.2.2.2.2.1 _ hw) (fun _ h => h) hd (kk H locs ls hP hS hl)
theorem j_cmpS (C : Cx E G RJ0 cc nL rm) (hw : Cond.fieldLink RJ0 38 "java/lang/String" "COMPACT_STRINGS" "Z" ∈ lw_all) (hd : decode cc pc = .ok (.getstatic 38, 3)) (pc' : Nat) (hp : pc + 3 = pc') (kk : J E G nL k n σ pc' L (.int (1 : Int32) :: st)) : J E G nL k n σ pc L st := by
  subst hp
  exact fun H locs ls hP hS hl => va_gets C.1 C.2.1 C.2.2.2.2.2.2.2.2.2.2.2.2.2.1 hS C.2.2.2.1 (C.2.2.2.2.1 _ hw) (fun _ h => h) hd (kk H locs ls hP hS hl)
theorem j_baldS (C : Cx E G own cc nL rm) {x : Int32} (hin : inA x 10) (hd : decode cc pc = .ok (.baload, 1)) (j : Nat) (hj : x.toNatClampNeg = j) (pc' : Nat) (hp : pc + 1 = pc') (kk : J E G nL k n σ pc' L (.int (ltr j) :: st)) : J E G nL k n σ pc L (.int x :: .ref (gA G 93) :: st) := by
  subst hp
  subst hj
  exact fun H locs ls hP hS hl => va_tb C.1 C.2.1 C.2.2.2.2.2.2.2.2.2.2.2.2.1 hS (inA_in hin) rfl hd (kk H locs ls hP hS hl)
theorem j_alenS (C : Cx E G own cc nL rm) (hd : decode cc pc = .ok (.arraylength, 1)) (pc' : Nat) (hp : pc + 1 = pc') (kk : J E G nL k n σ pc' L (.int (10 : Int32) :: st)) : J E G nL k n σ pc L (.ref (gA G 93) :: st) := by
  subst hp
  exact fun H locs ls hP hS hl => va_tlen C.1 C.2.1 C.2.2.2.2.2.2.2.2.2.2.2.2.1 hS rfl hd (kk H locs ls hP hS hl)
theorem j_bret (C : Cx E G own cc nL rm) {out : Mem × Int32} {v : Int32} (F : Ef E G out.1 (some (.int out.2)) (some .byte) k n) (hd : decode cc pc = .ok (.ireturn, 1)) (hb : narrow .byte (.int v) = .int v) (h : some (σ, v) = some out) : J E G nL k n σ pc L [.int v] := by
  cases h
  intro H locs ls hP hS hl
  rw [F.1]
  exact W.zret C.1 C.2.1 F.2.1 hb (fun t ht _ => ⟨rfl, by rw [ht]; exact hP, hS.F ht⟩) hS.2.2 hd F.2.2
theorem j_callVS (C : Cx E G own cc nL rm) {y : MethodName} {bytes : ByteArray} {maxL nn : Nat} {ret : Option FieldType} {rm' : Room} {as rest st1 : List Value} {σ' : Mem} {r : Option Value} (ct : Ct (eL E) G y bytes maxL ret rm' (.ref (gA G 92) :: as) σ σ' r) (hK : "java/lang/String" = y.cls) {idx : Nat}
    (vk : VK y bytes maxL ret nn) (w1 : Cond.methodLink own idx y ∈ lw_all) (hnn : as.length = nn) (hro : rm'.frames + 1 ≤ rm.frames ∧ 8 + (maxL + 11) + rm'.locals ≤ rm.locals ∧ rm'.cells = 0 ∧ rm'.slots = 0) (hkn : k ≤ rm.cells ∧ n ≤ rm.slots)
    (hst : st = as.reverse ++ .ref (gA G 92) :: rest) (hcat : (rest.map fun v => v.category).sum ≤ 8) (hd : decode cc pc = .ok (.invokevirtual idx, 3)) (h1 : r.toList ++ rest = st1) (pc' : Nat) (hp : pc + 3 = pc') (kk : J E G nL k n σ' pc' L st1) : J E G nL k n σ pc L st := by
  refine j_run (a := (Value.ref (gA G 92) :: as).toArray) (rest := rest) (fun H locs ls hP hS hl => ?_) h1 pc' hp kk
  obtain ⟨cx, cb, cm, cown, cts, cK, cA, cN, cR, cX⟩ := C
  subst hst
  subst hnn
  have hq : ∃ cell : Cell, H[gA G 92]? = some cell ∧ cell.vm.isStatics = false ∧ (eS E).vm.findClass "java/lang/String" = some cell.cls := by
    obtain ⟨cell, h1, h2, h3, -⟩ := cX.1.kept hS.2.1
    exact ⟨cell, h1, h2, h3⟩
  exact va_runV (As := as) (rest := rest) (C := "java/lang/String") ⟨cx, cb, cm, cown, cts⟩ (ct cA) (by rw [hK]; exact cwV as.length cts (gd_V vk.1 w1 vk.2.1 vk.2.2.1 vk.2.2.2.1) rfl hro.2.2.1 hro.2.2.2 ⟨rfl, vk.2.2.2.2⟩ (by rw [cR]; exact ⟨hro.1, hro.2.1⟩)) ⟨Pm.blind, hq, fun U hU hW => ⟨rfl, by rw [hU]; exact hP, va_K.moved hW.alike cK, by rw [hU]; exact Nat.le_trans cN hS.1, by rw [hU]; exact Xt.warm hW (cX.kept hS.2.1)⟩⟩ rfl rfl hl.1 rfl (lv_room hcat) hd ⟨by rw [cR]; exact hkn.1, by rw [cR]; exact hkn.2⟩
end STR
theorem lks {a o df x : Int} {r : List (Int × Int)} (h : ¬ x = a) : Op.lookupswitch.offset ((a, o) :: r) df x = Op.lookupswitch.offset r df x := by
  rw [Op.lookupswitch.offset_cons, if_neg (fun e => h e.symm)]
theorem nw_ot : ∀ w ∈ lw_nw, vx_ot w = true := by decide
theorem nw_on : ∀ w ∈ lw_nw, w.onTables = true := by decide
section THR
variable {E : Ev} {G : Gw} {own : String} {cc : ByteArray} {nL : Nat} {rm : Room} {σ : Mem} {pc : Nat} {L : List (Nat × Value)} {st : List Value}
theorem j_iretX (C : Cx E G own cc nL rm) {out : Mem × (Int32 ⊕ Nat)} {v : Int32} (F : Efx E G out (some .int)) (hd : decode cc pc = .ok (.ireturn, 1)) (h : some (σ, Sum.inl v) = some out) : J E G nL 0 0 σ pc L [.int v] := by
  cases h
  exact j_iret C (out := (σ, v)) (F.1 v rfl) hd rfl
theorem j_throw (C : Cx E G RX6 cc nL rm) {out : Mem × (Int32 ⊕ Nat)} {ret : Option FieldType} (F : Efx E G out ret) {x ik is ic : Nat} {text : String} (hfit : Bundle.fit (exN x) = true) (hk : Cond.classLink RX6 ik (exN x) ∈ lw_all) (hini : Cond.initialized (exN x) ∈ lw_all) (hstr : (is, text) ∈ strTab) (ha : ∀ w ∈ vx_atS RX6 ic (exN x) exSup, w ∈ lw_all ∨ w ∈ lw_nw)
    (d0 : decode cc pc = .ok (.new ik, 3)) (d3 : decode cc (pc + 3) = .ok (.dup, 1)) (d4 : decode cc (pc + 4) = .ok (.ldc is, 2)) (d6 : decode cc (pc + 6) = .ok (.invokespecial ic, 3)) (d9 : decode cc (pc + 9) = .ok (.athrow, 1)) (hro : 6 ≤ rm.frames ∧ 82 ≤ rm.locals) (h : some (σ, Sum.inr x) = some out) : J E G nL 0 0 σ pc L [] := by
  cases h
  obtain ⟨e1, e2, e3, e4, e5, e6⟩ := F.2 x rfl
  obtain ⟨cx, cb, cm, cown, cts, cK, cA, cN, cR, cX⟩ := C
  intro H locs ls hP hS hl
  rw [e1]
  obtain ⟨sa, hsa⟩ := cX.2.2.2.2.2.2.2.2.2 _ hstr
  rw [cR] at e5 e6
  refine vx_throwS (A := gF G) cx cb e4 (names := exSup) cown hfit (by decide +kernel) (cts _ hk) (cts _ hini) hsa (fun w hw => ?_) (fun w hw => ?_) cX.2.2.2.2.2.2.1 cX.2.2.2.2.2.2.2.1 hS (hl.1.trans cm.symm) d0 d3 d4 d6 d9 (fun z hz => (e3 z hz).elim) (by rw [cR]; exact hro.1) (by rw [cR]; exact hro.2) (by rw [cR]; exact e5) (by rw [cR]; exact e6) e2 (fun t hal hz hq => ⟨rfl, hP.kept (fun k q hk => hq q.1 (hP k q hk).lt), Nat.le_trans hS.1 hz, fun q h1 h2 => (hq q (Nat.lt_of_lt_of_le h1 hS.1)).trans (hS.2.1 q h1 h2)⟩) hS.2.2 (Nat.le_refl 1) (Nat.le_refl 6)
  · rcases ha w hw with h | h
    · exact cts w h
    · exact va_Nw.use (nw_on w h) (cX.2.2.2.2.2.2.2.2.1 w h)
  · rcases List.mem_cons.mp hw with rfl | hw
    · rfl
    · rcases List.mem_cons.mp hw with rfl | hw
      · rfl
      · rcases ha w hw with h | h
        · unfold vx_ot
          rw [(lw_all_good w h).2, Bool.or_true]
        · exact nw_ot w h
theorem j_throwW (C : Cx E G RX6 cc nL rm) {out : Mem × (Int32 ⊕ Nat)} {ret : Option FieldType} (F : Efx E G out ret) {x ik is ic : Nat} {text : String} (hfit : Bundle.fit (exN x) = true) (hk : Cond.classLink RX6 ik (exN x) ∈ lw_all) (hini : Cond.initialized (exN x) ∈ lw_all) (hstr : (is, text) ∈ strTab) (ha : ∀ w ∈ vx_atS RX6 ic (exN x) exSup, w ∈ lw_all ∨ w ∈ lw_nw)
    (d0 : decode cc pc = .ok (.new ik, 3)) (d3 : decode cc (pc + 3) = .ok (.dup, 1)) (d4 : decode cc (pc + 4) = .ok (.ldc_w is, 3)) (d6 : decode cc (pc + 7) = .ok (.invokespecial ic, 3)) (d9 : decode cc (pc + 10) = .ok (.athrow, 1)) (hro : 6 ≤ rm.frames ∧ 82 ≤ rm.locals) (h : some (σ, Sum.inr x) = some out) : J E G nL 0 0 σ pc L [] := by
  cases h
  obtain ⟨e1, e2, e3, e4, e5, e6⟩ := F.2 x rfl
  obtain ⟨cx, cb, cm, cown, cts, cK, cA, cN, cR, cX⟩ := C
  intro H locs ls hP hS hl
  rw [e1]
  obtain ⟨sa, hsa⟩ := cX.2.2.2.2.2.2.2.2.2 _ hstr
  rw [cR] at e5 e6
  refine vx_throwSW (A := gF G) cx cb e4 (names := exSup) cown hfit (by decide +kernel) (cts _ hk) (cts _ hini) hsa (fun w hw => ?_) (fun w hw => ?_) cX.2.2.2.2.2.2.1 cX.2.2.2.2.2.2.2.1 hS (hl.1.trans cm.symm) d0 d3 d4 d6 d9 (fun z hz => (e3 z hz).elim) (by rw [cR]; exact hro.1) (by rw [cR]; exact hro.2) (by rw [cR]; exact e5) (by rw [cR]; exact e6) e2 (fun t hal hz hq => ⟨rfl, hP.kept (fun k q hk => hq q.1 (hP k q hk).lt), Nat.le_trans hS.1 hz, fun q h1 h2 => (hq q (Nat.lt_of_lt_of_le h1 hS.1)).trans (hS.2.1 q h1 h2)⟩) hS.2.2 (Nat.le_refl 1) (Nat.le_refl 6)
  · rcases ha w hw with h | h
    · exact cts w h
    · exact va_Nw.use (nw_on w h) (cX.2.2.2.2.2.2.2.2.1 w h)
  · rcases List.mem_cons.mp hw with rfl | hw
    · rfl
    · rcases List.mem_cons.mp hw with rfl | hw
      · rfl
      · rcases ha w hw with h | h
        · unfold vx_ot
          rw [(lw_all_good w h).2, Bool.or_true]
        · exact nw_ot w h
end THR
/-- what a call answers that did not throw -/
def xlv (o : Option (Mem × (Int32 ⊕ Nat))) : Option (Mem × Int32) := match o with
  | some (m, .inl v) => some (m, v)
  | _ => none
theorem xlv_some {o : Option (Mem × (Int32 ⊕ Nat))} {q : Mem × Int32} (h : xlv o = some q) : o = some (q.1, .inl q.2) := by
  unfold xlv at h
  split at h
  · cases h; rfl
  · cases h
/-- an answer that may be null -/
def oel {β : Type} (x : Option Nat) (a : Option β) (f : Nat → Option β) : Option β := match x with
  | none => a
  | some i => f i
theorem oel_some {β : Type} {x : Option Nat} {a : Option β} {f : Nat → Option β} {o : β} (h : oel x a f = some o) : (x = none ∧ a = some o) ∨ ∃ i, x = some i ∧ f i = some o := by
  cases x with
  | none => exact Or.inl ⟨rfl, h⟩
  | some i => exact Or.inr ⟨i, rfl, h⟩
theorem ob_some {α β : Type} {x : Option α} {f : α → Option β} {o : β} (h : x.bind f = some o) : ∃ a, x = some a ∧ f a = some o := by
  cases x with
  | none => cases h
  | some a => exact ⟨a, rfl, h⟩
theorem if_some {α : Type} {c : Prop} [Decidable c] {a : Option α} {o : α} (h : (if c then a else none) = some o) : c ∧ a = some o := by
  by_cases hc : c
  · rw [if_pos hc] at h; exact ⟨hc, h⟩
  · rw [if_neg hc] at h; cases h
def FU : Nat := 1000
