theorem ha_of {l : List Cond} (h : (l.all fun w => (goodWord w && (decide (w ∈ tables_1) || decide (w ∈ k2_sels lw_privs))) || decide (w ∈ lw_nw)) = true) : ∀ w ∈ l, w ∈ lw_all ∨ w ∈ lw_nw := by
  intro w hw
  have h1 := List.all_eq_true.mp h w hw
  simp only [Bool.or_eq_true, Bool.and_eq_true, decide_eq_true_eq] at h1
  rcases h1 with ⟨hg, h2 | h2⟩ | h2
  · exact Or.inl (lw_in (List.mem_append_right _ h2) hg)
  · exact Or.inl (lw_in (List.mem_append_left _ h2) hg)
  · exact Or.inr h2
theorem str_256 : (256, "not 1 to 3 strokes") ∈ strTab := List.mem_of_getElem? (i := 0) rfl
theorem str_60 : (60, "no such stroke") ∈ strTab := List.mem_of_getElem? (i := 1) rfl
theorem str_231 : (231, "no such number") ∈ strTab := List.mem_of_getElem? (i := 2) rfl
theorem str_140 : (140, "no such word") ∈ strTab := List.mem_of_getElem? (i := 3) rfl
theorem str_71 : (71, "no room for a stroke, or nothing to eat") ∈ strTab := List.mem_of_getElem? (i := 4) rfl
theorem str_122 : (122, "no such item or entry") ∈ strTab := List.mem_of_getElem? (i := 5) rfl
theorem str_132 : (132, "the entry has another row") ∈ strTab := List.mem_of_getElem? (i := 6) rfl
theorem str_145 : (145, "the buffer is not 1 to 4 strokes") ∈ strTab := List.mem_of_getElem? (i := 7) rfl
theorem str_159 : (159, "24 entries, or one with this row and word") ∈ strTab := List.mem_of_getElem? (i := 8) rfl
theorem str_166 : (166, "no such entry") ∈ strTab := List.mem_of_getElem? (i := 9) rfl
theorem str_171 : (171, "no such setting") ∈ strTab := List.mem_of_getElem? (i := 10) rfl
theorem str_177 : (177, "no such value of the setting") ∈ strTab := List.mem_of_getElem? (i := 11) rfl
theorem str_189 : (189, "no such character code") ∈ strTab := List.mem_of_getElem? (i := 12) rfl
theorem str_192 : (192, "the buffer is full") ∈ strTab := List.mem_of_getElem? (i := 13) rfl
theorem str_207 : (207, "there is no snapshot") ∈ strTab := List.mem_of_getElem? (i := 14) rfl
theorem str_210 : (210, "there is no saved state") ∈ strTab := List.mem_of_getElem? (i := 15) rfl
theorem str_216 : (216, "no such place") ∈ strTab := List.mem_of_getElem? (i := 16) rfl
theorem str_218 : (218, "no such item") ∈ strTab := List.mem_of_getElem? (i := 17) rfl
theorem str_220 : (220, "no such number of an item") ∈ strTab := List.mem_of_getElem? (i := 18) rfl
theorem str_226 : (226, "no such number of an entry") ∈ strTab := List.mem_of_getElem? (i := 19) rfl
set_option maxRecDepth 100000 in
theorem ha_0_62 : ∀ w ∈ vx_atS RX6 62 (exN 0) exSup, w ∈ lw_all ∨ w ∈ lw_nw := ha_of (by decide +kernel)
set_option maxRecDepth 100000 in
theorem ha_1_73 : ∀ w ∈ vx_atS RX6 73 (exN 1) exSup, w ∈ lw_all ∨ w ∈ lw_nw := ha_of (by decide +kernel)
set_option maxRecDepth 100000 in
theorem ha_2_124 : ∀ w ∈ vx_atS RX6 124 (exN 2) exSup, w ∈ lw_all ∨ w ∈ lw_nw := ha_of (by decide +kernel)
