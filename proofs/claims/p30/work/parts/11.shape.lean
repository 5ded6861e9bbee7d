/-! shapes of the cells, and what each class's fields are -/
def cap (i : Nat) : Nat := match shp (i + 1) with
  | .inr (_, n) => n
  | _ => 0
def RowOk (i : Nat) : Prop := shp i = .inl (3, [i + 3, 0]) ∧ shp (i + 1) = .inr (0, cap i)
def EntOk (i : Nat) : Prop := shp i = .inl (0, [i + 3, i + 4, i + 5, 0]) ∧ shp (i + 1) = .inr (1, 24) ∧ shp (i + 2) = .inr (0, 24) ∧ shp (i + 3) = .inr (0, 24)
def StOk (i : Nat) : Prop := shp i = .inl (5, [i + 3, i + 5, 0, 0, 0, 0, 0, 0]) ∧ RowOk (i + 1) ∧ EntOk (i + 3)
def RdOk (i : Nat) : Prop := shp i = .inl (2, [i + 3, i + 5, i + 7]) ∧ RowOk (i + 1) ∧ RowOk (i + 3) ∧ RowOk (i + 5)
theorem fv_r {ad : Nat → Nat} {σ : Mem} {i f d r : Nat} (h : d = r + 2) : fv ad σ i f d = .ref (ad r) := by
  subst h
  simp [fv]
theorem sh0 : shp 0 = .inl (5, [3, 5, 0, 0, 0, 0, 0, 0]) := rfl
theorem sh1 : shp 1 = .inl (3, [4, 0]) := rfl
theorem sh2 : shp 2 = .inr (0, 60) := rfl
theorem sh3 : shp 3 = .inl (0, [6, 7, 8, 0]) := rfl
theorem sh4 : shp 4 = .inr (1, 24) := rfl
theorem sh5 : shp 5 = .inr (0, 24) := rfl
theorem sh6 : shp 6 = .inr (0, 24) := rfl
theorem sh7 : shp 7 = .inl (5, [10, 12, 0, 0, 0, 0, 0, 0]) := rfl
theorem sh8 : shp 8 = .inl (3, [11, 0]) := rfl
theorem sh9 : shp 9 = .inr (0, 60) := rfl
theorem sh10 : shp 10 = .inl (0, [13, 14, 15, 0]) := rfl
theorem sh11 : shp 11 = .inr (1, 24) := rfl
theorem sh12 : shp 12 = .inr (0, 24) := rfl
theorem sh13 : shp 13 = .inr (0, 24) := rfl
theorem sh14 : shp 14 = .inl (5, [17, 19, 0, 0, 0, 0, 0, 0]) := rfl
theorem sh15 : shp 15 = .inl (3, [18, 0]) := rfl
theorem sh16 : shp 16 = .inr (0, 60) := rfl
theorem sh17 : shp 17 = .inl (0, [20, 21, 22, 0]) := rfl
theorem sh18 : shp 18 = .inr (1, 24) := rfl
theorem sh19 : shp 19 = .inr (0, 24) := rfl
theorem sh20 : shp 20 = .inr (0, 24) := rfl
theorem sh21 : shp 21 = .inl (5, [24, 26, 0, 0, 0, 0, 0, 0]) := rfl
theorem sh22 : shp 22 = .inl (3, [25, 0]) := rfl
theorem sh23 : shp 23 = .inr (0, 60) := rfl
theorem sh24 : shp 24 = .inl (0, [27, 28, 29, 0]) := rfl
theorem sh25 : shp 25 = .inr (1, 24) := rfl
theorem sh26 : shp 26 = .inr (0, 24) := rfl
theorem sh27 : shp 27 = .inr (0, 24) := rfl
theorem sh28 : shp 28 = .inl (5, [31, 33, 0, 0, 0, 0, 0, 0]) := rfl
theorem sh29 : shp 29 = .inl (3, [32, 0]) := rfl
theorem sh30 : shp 30 = .inr (0, 60) := rfl
theorem sh31 : shp 31 = .inl (0, [34, 35, 36, 0]) := rfl
theorem sh32 : shp 32 = .inr (1, 24) := rfl
theorem sh33 : shp 33 = .inr (0, 24) := rfl
theorem sh34 : shp 34 = .inr (0, 24) := rfl
theorem sh35 : shp 35 = .inl (5, [38, 40, 0, 0, 0, 0, 0, 0]) := rfl
theorem sh36 : shp 36 = .inl (3, [39, 0]) := rfl
theorem sh37 : shp 37 = .inr (0, 60) := rfl
theorem sh38 : shp 38 = .inl (0, [41, 42, 43, 0]) := rfl
theorem sh39 : shp 39 = .inr (1, 24) := rfl
theorem sh40 : shp 40 = .inr (0, 24) := rfl
theorem sh41 : shp 41 = .inr (0, 24) := rfl
theorem sh42 : shp 42 = .inl (5, [45, 47, 0, 0, 0, 0, 0, 0]) := rfl
theorem sh43 : shp 43 = .inl (3, [46, 0]) := rfl
theorem sh44 : shp 44 = .inr (0, 60) := rfl
theorem sh45 : shp 45 = .inl (0, [48, 49, 50, 0]) := rfl
theorem sh46 : shp 46 = .inr (1, 24) := rfl
theorem sh47 : shp 47 = .inr (0, 24) := rfl
theorem sh48 : shp 48 = .inr (0, 24) := rfl
theorem sh49 : shp 49 = .inl (5, [52, 54, 0, 0, 0, 0, 0, 0]) := rfl
theorem sh50 : shp 50 = .inl (3, [53, 0]) := rfl
theorem sh51 : shp 51 = .inr (0, 60) := rfl
theorem sh52 : shp 52 = .inl (0, [55, 56, 57, 0]) := rfl
theorem sh53 : shp 53 = .inr (1, 24) := rfl
theorem sh54 : shp 54 = .inr (0, 24) := rfl
theorem sh55 : shp 55 = .inr (0, 24) := rfl
theorem sh56 : shp 56 = .inl (4, [59, 0, 0]) := rfl
theorem sh57 : shp 57 = .inr (2, 6) := rfl
theorem sh58 : shp 58 = .inl (1, [61]) := rfl
theorem sh59 : shp 59 = .inl (3, [62, 0]) := rfl
theorem sh60 : shp 60 = .inr (0, 60) := rfl
theorem sh61 : shp 61 = .inl (2, [64, 66, 68]) := rfl
theorem sh62 : shp 62 = .inl (3, [65, 0]) := rfl
theorem sh63 : shp 63 = .inr (0, 61) := rfl
theorem sh64 : shp 64 = .inl (3, [67, 0]) := rfl
theorem sh65 : shp 65 = .inr (0, 61) := rfl
theorem sh66 : shp 66 = .inl (3, [69, 0]) := rfl
theorem sh67 : shp 67 = .inr (0, 61) := rfl
theorem sh68 : shp 68 = .inl (2, [71, 73, 75]) := rfl
theorem sh69 : shp 69 = .inl (3, [72, 0]) := rfl
theorem sh70 : shp 70 = .inr (0, 61) := rfl
theorem sh71 : shp 71 = .inl (3, [74, 0]) := rfl
theorem sh72 : shp 72 = .inr (0, 61) := rfl
theorem sh73 : shp 73 = .inl (3, [76, 0]) := rfl
theorem sh74 : shp 74 = .inr (0, 61) := rfl
theorem sh75 : shp 75 = .inl (3, [78, 0]) := rfl
theorem sh76 : shp 76 = .inr (0, 61) := rfl
theorem sh77 : shp 77 = .inl (3, [80, 0]) := rfl
theorem sh78 : shp 78 = .inr (0, 60) := rfl
theorem sh79 : shp 79 = .inl (3, [82, 0]) := rfl
theorem sh80 : shp 80 = .inr (0, 61) := rfl
theorem sh81 : shp 81 = .inl (6, [2, 9, 58, 60, 63, 77, 70, 79, 81, 0]) := rfl
theorem row1 : RowOk 1 := ⟨rfl, rfl⟩
theorem row8 : RowOk 8 := ⟨rfl, rfl⟩
theorem row15 : RowOk 15 := ⟨rfl, rfl⟩
theorem row22 : RowOk 22 := ⟨rfl, rfl⟩
theorem row29 : RowOk 29 := ⟨rfl, rfl⟩
theorem row36 : RowOk 36 := ⟨rfl, rfl⟩
theorem row43 : RowOk 43 := ⟨rfl, rfl⟩
theorem row50 : RowOk 50 := ⟨rfl, rfl⟩
theorem row59 : RowOk 59 := ⟨rfl, rfl⟩
theorem row62 : RowOk 62 := ⟨rfl, rfl⟩
theorem row64 : RowOk 64 := ⟨rfl, rfl⟩
theorem row66 : RowOk 66 := ⟨rfl, rfl⟩
theorem row69 : RowOk 69 := ⟨rfl, rfl⟩
theorem row71 : RowOk 71 := ⟨rfl, rfl⟩
theorem row73 : RowOk 73 := ⟨rfl, rfl⟩
theorem row75 : RowOk 75 := ⟨rfl, rfl⟩
theorem row77 : RowOk 77 := ⟨rfl, rfl⟩
theorem row79 : RowOk 79 := ⟨rfl, rfl⟩
theorem ent3 : EntOk 3 := ⟨rfl, rfl, rfl, rfl⟩
theorem ent10 : EntOk 10 := ⟨rfl, rfl, rfl, rfl⟩
theorem ent17 : EntOk 17 := ⟨rfl, rfl, rfl, rfl⟩
theorem ent24 : EntOk 24 := ⟨rfl, rfl, rfl, rfl⟩
theorem ent31 : EntOk 31 := ⟨rfl, rfl, rfl, rfl⟩
theorem ent38 : EntOk 38 := ⟨rfl, rfl, rfl, rfl⟩
theorem ent45 : EntOk 45 := ⟨rfl, rfl, rfl, rfl⟩
theorem ent52 : EntOk 52 := ⟨rfl, rfl, rfl, rfl⟩
theorem sta0 : StOk 0 := ⟨rfl, row1, ent3⟩
theorem sta7 : StOk 7 := ⟨rfl, row8, ent10⟩
theorem sta14 : StOk 14 := ⟨rfl, row15, ent17⟩
theorem sta21 : StOk 21 := ⟨rfl, row22, ent24⟩
theorem sta28 : StOk 28 := ⟨rfl, row29, ent31⟩
theorem sta35 : StOk 35 := ⟨rfl, row36, ent38⟩
theorem sta42 : StOk 42 := ⟨rfl, row43, ent45⟩
theorem sta49 : StOk 49 := ⟨rfl, row50, ent52⟩
theorem rdg61 : RdOk 61 := ⟨rfl, row62, row64, row66⟩
theorem rdg68 : RdOk 68 := ⟨rfl, row69, row71, row73⟩
theorem cap1 : cap 1 = 60 := rfl
theorem cap8 : cap 8 = 60 := rfl
theorem cap15 : cap 15 = 60 := rfl
theorem cap22 : cap 22 = 60 := rfl
theorem cap29 : cap 29 = 60 := rfl
theorem cap36 : cap 36 = 60 := rfl
theorem cap43 : cap 43 = 60 := rfl
theorem cap50 : cap 50 = 60 := rfl
theorem cap59 : cap 59 = 60 := rfl
theorem cap62 : cap 62 = 61 := rfl
theorem cap64 : cap 64 = 61 := rfl
theorem cap66 : cap 66 = 61 := rfl
theorem cap69 : cap 69 = 61 := rfl
theorem cap71 : cap 71 = 61 := rfl
theorem cap73 : cap 73 = 61 := rfl
theorem cap75 : cap 75 = 61 := rfl
theorem cap77 : cap 77 = 60 := rfl
theorem cap79 : cap 79 = 61 := rfl
theorem stOk_of {i : Nat} (h : i % 7 = 0 ∧ i < 56) : StOk i := by
  have : i = 0 ∨ i = 7 ∨ i = 14 ∨ i = 21 ∨ i = 28 ∨ i = 35 ∨ i = 42 ∨ i = 49 := by omega
  rcases this with rfl | rfl | rfl | rfl | rfl | rfl | rfl | rfl
  · exact sta0
  · exact sta7
  · exact sta14
  · exact sta21
  · exact sta28
  · exact sta35
  · exact sta42
  · exact sta49
theorem inX0 : ∀ w ∈ wsX00, w ∈ lw_all := show ∀ w ∈ ([Cond.laysFinal RX0 "StenoChords$Entries" "rows" "[J", Cond.laysFinal RX0 "StenoChords$Entries" "words" "[I", Cond.laysFinal RX0 "StenoChords$Entries" "picks" "[I", Cond.lays RX0 "StenoChords$Entries" "size" "I"] : List Cond), w ∈ lw_all from List.forall_mem_cons.mpr ⟨kw1_63, List.forall_mem_cons.mpr ⟨kw1_65, List.forall_mem_cons.mpr ⟨kw1_67, List.forall_mem_cons.mpr ⟨kw1_69, fun _ h => absurd h List.not_mem_nil⟩⟩⟩⟩
theorem foX0 : FO 0 RX0 TX0 4 tyX0 := ⟨rfl, inX0, tyX0_ok, nmX0⟩
theorem inX1 : ∀ w ∈ wsX10, w ∈ lw_all := show ∀ w ∈ ([Cond.laysFinal RX1 "StenoChords$InputText" "codes" "LStenoChords$Row;"] : List Cond), w ∈ lw_all from List.forall_mem_cons.mpr ⟨kw1_136, fun _ h => absurd h List.not_mem_nil⟩
theorem foX1 : FO 1 RX1 TX1 1 tyX1 := ⟨rfl, inX1, tyX1_ok, nmX1⟩
theorem inX2 : ∀ w ∈ wsX20, w ∈ lw_all := show ∀ w ∈ ([Cond.laysFinal RX2 "StenoChords$Reading" "places" "LStenoChords$Row;", Cond.laysFinal RX2 "StenoChords$Reading" "lengths" "LStenoChords$Row;", Cond.laysFinal RX2 "StenoChords$Reading" "leaders" "LStenoChords$Row;"] : List Cond), w ∈ lw_all from List.forall_mem_cons.mpr ⟨kw1_150, List.forall_mem_cons.mpr ⟨kw1_152, List.forall_mem_cons.mpr ⟨kw1_154, fun _ h => absurd h List.not_mem_nil⟩⟩⟩
theorem foX2 : FO 2 RX2 TX2 3 tyX2 := ⟨rfl, inX2, tyX2_ok, nmX2⟩
theorem inX3 : ∀ w ∈ wsX30, w ∈ lw_all := show ∀ w ∈ ([Cond.laysFinal RX3 "StenoChords$Row" "cells" "[I", Cond.lays RX3 "StenoChords$Row" "length" "I"] : List Cond), w ∈ lw_all from List.forall_mem_cons.mpr ⟨kw1_47, List.forall_mem_cons.mpr ⟨kw1_49, fun _ h => absurd h List.not_mem_nil⟩⟩
theorem foX3 : FO 3 RX3 TX3 2 tyX3 := ⟨rfl, inX3, tyX3_ok, nmX3⟩
theorem inX4 : ∀ w ∈ wsX40, w ∈ lw_all := show ∀ w ∈ ([Cond.laysFinal RX4 "StenoChords$SavedStates" "ring" "[LStenoChords$State;", Cond.lays RX4 "StenoChords$SavedStates" "oldest" "I", Cond.lays RX4 "StenoChords$SavedStates" "size" "I"] : List Cond), w ∈ lw_all from List.forall_mem_cons.mpr ⟨kw1_120, List.forall_mem_cons.mpr ⟨kw1_122, List.forall_mem_cons.mpr ⟨kw1_124, fun _ h => absurd h List.not_mem_nil⟩⟩⟩
theorem foX4 : FO 4 RX4 TX4 3 tyX4 := ⟨rfl, inX4, tyX4_ok, nmX4⟩
theorem inX5 : ∀ w ∈ wsX50, w ∈ lw_all := show ∀ w ∈ ([Cond.laysFinal RX5 "StenoChords$State" "paper" "LStenoChords$Row;", Cond.laysFinal RX5 "StenoChords$State" "entries" "LStenoChords$Entries;", Cond.lays RX5 "StenoChords$State" "eatsItems" "I", Cond.lays RX5 "StenoChords$State" "longestRead" "I", Cond.lays RX5 "StenoChords$State" "struck" "I", Cond.lays RX5 "StenoChords$State" "eaten" "I", Cond.lays RX5 "StenoChords$State" "asterisks" "I", Cond.lays RX5 "StenoChords$State" "keys" "I"] : List Cond), w ∈ lw_all from List.forall_mem_cons.mpr ⟨kw1_91, List.forall_mem_cons.mpr ⟨kw1_93, List.forall_mem_cons.mpr ⟨kw1_95, List.forall_mem_cons.mpr ⟨kw1_97, List.forall_mem_cons.mpr ⟨kw1_99, List.forall_mem_cons.mpr ⟨kw1_101, List.forall_mem_cons.mpr ⟨kw1_103, List.forall_mem_cons.mpr ⟨kw1_105, fun _ h => absurd h List.not_mem_nil⟩⟩⟩⟩⟩⟩⟩⟩
theorem foX5 : FO 5 RX5 TX5 8 tyX5 := ⟨rfl, inX5, tyX5_ok, nmX5⟩
theorem inX6 : ∀ w ∈ wsX60, w ∈ lw_all := show ∀ w ∈ ([Cond.laysFinal RX6 "StenoChords" "now" "LStenoChords$State;", Cond.laysFinal RX6 "StenoChords" "snapshot" "LStenoChords$State;", Cond.laysFinal RX6 "StenoChords" "saved" "LStenoChords$SavedStates;", Cond.laysFinal RX6 "StenoChords" "buffer" "LStenoChords$InputText;", Cond.laysFinal RX6 "StenoChords" "reading" "LStenoChords$Reading;", Cond.laysFinal RX6 "StenoChords" "otherPaper" "LStenoChords$Row;", Cond.laysFinal RX6 "StenoChords" "otherReading" "LStenoChords$Reading;", Cond.laysFinal RX6 "StenoChords" "told" "LStenoChords$Row;", Cond.laysFinal RX6 "StenoChords" "fewest" "LStenoChords$Row;", Cond.lays RX6 "StenoChords" "snapshotTaken" "Z"] : List Cond), w ∈ lw_all from List.forall_mem_cons.mpr ⟨kw1_169, List.forall_mem_cons.mpr ⟨kw1_171, List.forall_mem_cons.mpr ⟨kw1_173, List.forall_mem_cons.mpr ⟨kw1_175, List.forall_mem_cons.mpr ⟨kw1_177, List.forall_mem_cons.mpr ⟨kw1_179, List.forall_mem_cons.mpr ⟨kw1_181, List.forall_mem_cons.mpr ⟨kw1_183, List.forall_mem_cons.mpr ⟨kw1_185, List.forall_mem_cons.mpr ⟨kw1_187, fun _ h => absurd h List.not_mem_nil⟩⟩⟩⟩⟩⟩⟩⟩⟩⟩
theorem foX6 : FO 6 RX6 TX6 10 tyX6 := ⟨rfl, inX6, tyX6_ok, nmX6⟩
theorem it_t {α : Type} {c : Prop} [Decidable c] {a b o : Option α} (hc : c) (h : (if c then a else b) = o) : a = o := (if_pos hc).symm.trans h
theorem it_f {α : Type} {c : Prop} [Decidable c] {a b o : Option α} (hc : ¬ c) (h : (if c then a else b) = o) : b = o := (if_neg hc).symm.trans h
theorem tsw_ne {x : Int32} {c : Int32} {z : Int} (hz : c.toInt = z) (h : ¬ x = c) : x.toInt ≠ z := fun e => h (Int32.toInt_inj.mp (e.trans hz.symm))
theorem nI_inA {n N : Nat} (h : n < N) (hN : N ≤ 2147483648) : inA (nI n) N := by
  have := nI_toInt (n := n) (by omega)
  exact ⟨by omega, by omega⟩
