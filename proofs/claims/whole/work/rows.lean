section
-- ===== PART A: goes FIRST, ahead of the names: the tables' words, and 'selects' of the private methods out of them =====
/-- a private method of a class that the tables say can be made, by its rows of tables_1 -/
def lw_okq (q : MethodName × Nat) : Prop := (q.1.cls ≠ "java/lang/invoke/MethodHandle" ∧ q.1.cls ≠ "java/lang/invoke/VarHandle") ∧ Cond.instantiable q.1.cls q.2 ∈ tables_1 ∧ Cond.privateMethod q.1 ∈ tables_1 ∧ Cond.instanceMethod q.1 ∈ tables_1
theorem lw_p0 : lw_okq (⟨"StenoChords$SavedStates", "slotBehindOldest", "(I)LStenoChords$State;"⟩, 3) := ⟨⟨by decide +kernel, by decide +kernel⟩, List.mem_of_getElem? (i := 110) (by decide +kernel), List.mem_of_getElem? (i := 200) (by decide +kernel), List.mem_of_getElem? (i := 201) (by decide +kernel)⟩
theorem lw_p1 : lw_okq (⟨"StenoChords$Entries", "put", "(JII)V"⟩, 4) := ⟨⟨by decide +kernel, by decide +kernel⟩, List.mem_of_getElem? (i := 55) (by decide +kernel), List.mem_of_getElem? (i := 247) (by decide +kernel), List.mem_of_getElem? (i := 248) (by decide +kernel)⟩
theorem lw_p2 : lw_okq (⟨"StenoChords", "readBehind", "(II)I"⟩, 10) := ⟨⟨by decide +kernel, by decide +kernel⟩, List.mem_of_getElem? (i := 24) (by decide +kernel), List.mem_of_getElem? (i := 384) (by decide +kernel), List.mem_of_getElem? (i := 385) (by decide +kernel)⟩
theorem lw_p3 : lw_okq (⟨"StenoChords", "putRow", "(J)V"⟩, 10) := ⟨⟨by decide +kernel, by decide +kernel⟩, List.mem_of_getElem? (i := 24) (by decide +kernel), List.mem_of_getElem? (i := 389) (by decide +kernel), List.mem_of_getElem? (i := 390) (by decide +kernel)⟩
theorem lw_p4 : lw_okq (⟨"StenoChords", "fewestUpTo", "(I)I"⟩, 10) := ⟨⟨by decide +kernel, by decide +kernel⟩, List.mem_of_getElem? (i := 24) (by decide +kernel), List.mem_of_getElem? (i := 418) (by decide +kernel), List.mem_of_getElem? (i := 419) (by decide +kernel)⟩
theorem lw_p5 : lw_okq (⟨"StenoChords", "readPaper", "()V"⟩, 10) := ⟨⟨by decide +kernel, by decide +kernel⟩, List.mem_of_getElem? (i := 24) (by decide +kernel), List.mem_of_getElem? (i := 430) (by decide +kernel), List.mem_of_getElem? (i := 431) (by decide +kernel)⟩
theorem lw_p6 : lw_okq (⟨"StenoChords", "rawItems", "()I"⟩, 10) := ⟨⟨by decide +kernel, by decide +kernel⟩, List.mem_of_getElem? (i := 24) (by decide +kernel), List.mem_of_getElem? (i := 454) (by decide +kernel), List.mem_of_getElem? (i := 455) (by decide +kernel)⟩
theorem lw_p7 : lw_okq (⟨"StenoChords", "mixNumbers", "(J)J"⟩, 10) := ⟨⟨by decide +kernel, by decide +kernel⟩, List.mem_of_getElem? (i := 24) (by decide +kernel), List.mem_of_getElem? (i := 471) (by decide +kernel), List.mem_of_getElem? (i := 472) (by decide +kernel)⟩
theorem lw_p8 : lw_okq (⟨"StenoChords", "countNumber", "(I)I"⟩, 10) := ⟨⟨by decide +kernel, by decide +kernel⟩, List.mem_of_getElem? (i := 24) (by decide +kernel), List.mem_of_getElem? (i := 475) (by decide +kernel), List.mem_of_getElem? (i := 476) (by decide +kernel)⟩
theorem lw_p9 : lw_okq (⟨"StenoChords", "itemsStrokeByStroke", "()I"⟩, 10) := ⟨⟨by decide +kernel, by decide +kernel⟩, List.mem_of_getElem? (i := 24) (by decide +kernel), List.mem_of_getElem? (i := 479) (by decide +kernel), List.mem_of_getElem? (i := 480) (by decide +kernel)⟩
theorem lw_p10 : lw_okq (⟨"StenoChords", "settingNumber", "(I)I"⟩, 10) := ⟨⟨by decide +kernel, by decide +kernel⟩, List.mem_of_getElem? (i := 24) (by decide +kernel), List.mem_of_getElem? (i := 492) (by decide +kernel), List.mem_of_getElem? (i := 493) (by decide +kernel)⟩
theorem lw_p11 : lw_okq (⟨"StenoChords", "mixItems", "(J)J"⟩, 10) := ⟨⟨by decide +kernel, by decide +kernel⟩, List.mem_of_getElem? (i := 24) (by decide +kernel), List.mem_of_getElem? (i := 496) (by decide +kernel), List.mem_of_getElem? (i := 497) (by decide +kernel)⟩
theorem lw_p12 : lw_okq (⟨"StenoChords", "itemNumber", "(II)I"⟩, 10) := ⟨⟨by decide +kernel, by decide +kernel⟩, List.mem_of_getElem? (i := 24) (by decide +kernel), List.mem_of_getElem? (i := 500) (by decide +kernel), List.mem_of_getElem? (i := 501) (by decide +kernel)⟩
theorem lw_p13 : lw_okq (⟨"StenoChords", "rowOfItem", "(I)J"⟩, 10) := ⟨⟨by decide +kernel, by decide +kernel⟩, List.mem_of_getElem? (i := 24) (by decide +kernel), List.mem_of_getElem? (i := 517) (by decide +kernel), List.mem_of_getElem? (i := 518) (by decide +kernel)⟩
theorem lw_p14 : lw_okq (⟨"StenoChords", "mixEntries", "(J)J"⟩, 10) := ⟨⟨by decide +kernel, by decide +kernel⟩, List.mem_of_getElem? (i := 24) (by decide +kernel), List.mem_of_getElem? (i := 525) (by decide +kernel), List.mem_of_getElem? (i := 526) (by decide +kernel)⟩
theorem lw_p15 : lw_okq (⟨"StenoChords", "entryNumber", "(II)I"⟩, 10) := ⟨⟨by decide +kernel, by decide +kernel⟩, List.mem_of_getElem? (i := 24) (by decide +kernel), List.mem_of_getElem? (i := 529) (by decide +kernel), List.mem_of_getElem? (i := 530) (by decide +kernel)⟩
def lw_privs_1 : List (MethodName × Nat) := [(⟨"StenoChords$SavedStates", "slotBehindOldest", "(I)LStenoChords$State;"⟩, 3), (⟨"StenoChords$Entries", "put", "(JII)V"⟩, 4), (⟨"StenoChords", "readBehind", "(II)I"⟩, 10), (⟨"StenoChords", "putRow", "(J)V"⟩, 10), (⟨"StenoChords", "fewestUpTo", "(I)I"⟩, 10), (⟨"StenoChords", "readPaper", "()V"⟩, 10), (⟨"StenoChords", "rawItems", "()I"⟩, 10), (⟨"StenoChords", "mixNumbers", "(J)J"⟩, 10), (⟨"StenoChords", "countNumber", "(I)I"⟩, 10), (⟨"StenoChords", "itemsStrokeByStroke", "()I"⟩, 10), (⟨"StenoChords", "settingNumber", "(I)I"⟩, 10), (⟨"StenoChords", "mixItems", "(J)J"⟩, 10), (⟨"StenoChords", "itemNumber", "(II)I"⟩, 10), (⟨"StenoChords", "rowOfItem", "(I)J"⟩, 10), (⟨"StenoChords", "mixEntries", "(J)J"⟩, 10), (⟨"StenoChords", "entryNumber", "(II)I"⟩, 10)]
theorem lw_r1 : ∀ q ∈ lw_privs_1, lw_okq q := List.forall_mem_cons.mpr ⟨lw_p0, List.forall_mem_cons.mpr ⟨lw_p1, List.forall_mem_cons.mpr ⟨lw_p2, List.forall_mem_cons.mpr ⟨lw_p3, List.forall_mem_cons.mpr ⟨lw_p4, List.forall_mem_cons.mpr ⟨lw_p5, List.forall_mem_cons.mpr ⟨lw_p6, List.forall_mem_cons.mpr ⟨lw_p7, List.forall_mem_cons.mpr ⟨lw_p8, List.forall_mem_cons.mpr ⟨lw_p9, List.forall_mem_cons.mpr ⟨lw_p10, List.forall_mem_cons.mpr ⟨lw_p11, List.forall_mem_cons.mpr ⟨lw_p12, List.forall_mem_cons.mpr ⟨lw_p13, List.forall_mem_cons.mpr ⟨lw_p14, List.forall_mem_cons.mpr ⟨lw_p15, fun _ h => absurd h List.not_mem_nil⟩⟩⟩⟩⟩⟩⟩⟩⟩⟩⟩⟩⟩⟩⟩⟩
theorem lw_p16 : lw_okq (⟨"StenoChords", "mixWhatWouldBe", "(J)J"⟩, 10) := ⟨⟨by decide +kernel, by decide +kernel⟩, List.mem_of_getElem? (i := 24) (by decide +kernel), List.mem_of_getElem? (i := 540) (by decide +kernel), List.mem_of_getElem? (i := 541) (by decide +kernel)⟩
theorem lw_p17 : lw_okq (⟨"java/lang/Throwable", "fillInStackTrace", "(I)Ljava/lang/Throwable;"⟩, 6) := ⟨⟨by decide +kernel, by decide +kernel⟩, List.mem_of_getElem? (i := 586) (by decide +kernel), List.mem_of_getElem? (i := 584) (by decide +kernel), List.mem_of_getElem? (i := 585) (by decide +kernel)⟩
theorem lw_p18 : lw_okq (⟨"StenoChords", "canTell", "(II)Z"⟩, 10) := ⟨⟨by decide +kernel, by decide +kernel⟩, List.mem_of_getElem? (i := 24) (by decide +kernel), List.mem_of_getElem? (i := 631) (by decide +kernel), List.mem_of_getElem? (i := 632) (by decide +kernel)⟩
theorem lw_p19 : lw_okq (⟨"StenoChords", "isShorter", "(II)Z"⟩, 10) := ⟨⟨by decide +kernel, by decide +kernel⟩, List.mem_of_getElem? (i := 24) (by decide +kernel), List.mem_of_getElem? (i := 635) (by decide +kernel), List.mem_of_getElem? (i := 636) (by decide +kernel)⟩
theorem lw_p20 : lw_okq (⟨"StenoChords", "canStrike", "(I)Z"⟩, 10) := ⟨⟨by decide +kernel, by decide +kernel⟩, List.mem_of_getElem? (i := 24) (by decide +kernel), List.mem_of_getElem? (i := 666) (by decide +kernel), List.mem_of_getElem? (i := 667) (by decide +kernel)⟩
theorem lw_p21 : lw_okq (⟨"StenoChords", "putOrEat", "(I)V"⟩, 10) := ⟨⟨by decide +kernel, by decide +kernel⟩, List.mem_of_getElem? (i := 24) (by decide +kernel), List.mem_of_getElem? (i := 690) (by decide +kernel), List.mem_of_getElem? (i := 691) (by decide +kernel)⟩
theorem lw_p22 : lw_okq (⟨"StenoChords", "eat", "()V"⟩, 10) := ⟨⟨by decide +kernel, by decide +kernel⟩, List.mem_of_getElem? (i := 24) (by decide +kernel), List.mem_of_getElem? (i := 694) (by decide +kernel), List.mem_of_getElem? (i := 695) (by decide +kernel)⟩
theorem lw_p23 : lw_okq (⟨"StenoChordsModel", "canStrike", "(I)Z"⟩, 17) := ⟨⟨by decide +kernel, by decide +kernel⟩, List.mem_of_getElem? (i := 897) (by decide +kernel), List.mem_of_getElem? (i := 966) (by decide +kernel), List.mem_of_getElem? (i := 967) (by decide +kernel)⟩
theorem lw_p24 : lw_okq (⟨"StenoChordsModel", "holds", "(I)Z"⟩, 17) := ⟨⟨by decide +kernel, by decide +kernel⟩, List.mem_of_getElem? (i := 897) (by decide +kernel), List.mem_of_getElem? (i := 970) (by decide +kernel), List.mem_of_getElem? (i := 971) (by decide +kernel)⟩
theorem lw_p25 : lw_okq (⟨"StenoChordsModel", "save", "()V"⟩, 17) := ⟨⟨by decide +kernel, by decide +kernel⟩, List.mem_of_getElem? (i := 897) (by decide +kernel), List.mem_of_getElem? (i := 974) (by decide +kernel), List.mem_of_getElem? (i := 975) (by decide +kernel)⟩
theorem lw_p26 : lw_okq (⟨"StenoChordsModel", "copies", "(II)V"⟩, 17) := ⟨⟨by decide +kernel, by decide +kernel⟩, List.mem_of_getElem? (i := 897) (by decide +kernel), List.mem_of_getElem? (i := 978) (by decide +kernel), List.mem_of_getElem? (i := 979) (by decide +kernel)⟩
theorem lw_p27 : lw_okq (⟨"StenoChordsModel", "strikes", "(I)V"⟩, 17) := ⟨⟨by decide +kernel, by decide +kernel⟩, List.mem_of_getElem? (i := 897) (by decide +kernel), List.mem_of_getElem? (i := 982) (by decide +kernel), List.mem_of_getElem? (i := 983) (by decide +kernel)⟩
theorem lw_p28 : lw_okq (⟨"StenoChordsModel", "readsPaper", "()V"⟩, 17) := ⟨⟨by decide +kernel, by decide +kernel⟩, List.mem_of_getElem? (i := 897) (by decide +kernel), List.mem_of_getElem? (i := 989) (by decide +kernel), List.mem_of_getElem? (i := 990) (by decide +kernel)⟩
theorem lw_p29 : lw_okq (⟨"StenoChordsModel", "reads", "()V"⟩, 17) := ⟨⟨by decide +kernel, by decide +kernel⟩, List.mem_of_getElem? (i := 897) (by decide +kernel), List.mem_of_getElem? (i := 993) (by decide +kernel), List.mem_of_getElem? (i := 994) (by decide +kernel)⟩
theorem lw_p30 : lw_okq (⟨"StenoChordsModel", "entryAt", "(I)I"⟩, 17) := ⟨⟨by decide +kernel, by decide +kernel⟩, List.mem_of_getElem? (i := 897) (by decide +kernel), List.mem_of_getElem? (i := 997) (by decide +kernel), List.mem_of_getElem? (i := 998) (by decide +kernel)⟩
theorem lw_p31 : lw_okq (⟨"StenoChordsModel", "of", "(II)I"⟩, 17) := ⟨⟨by decide +kernel, by decide +kernel⟩, List.mem_of_getElem? (i := 897) (by decide +kernel), List.mem_of_getElem? (i := 1001) (by decide +kernel), List.mem_of_getElem? (i := 1002) (by decide +kernel)⟩
def lw_privs_2 : List (MethodName × Nat) := [(⟨"StenoChords", "mixWhatWouldBe", "(J)J"⟩, 10), (⟨"java/lang/Throwable", "fillInStackTrace", "(I)Ljava/lang/Throwable;"⟩, 6), (⟨"StenoChords", "canTell", "(II)Z"⟩, 10), (⟨"StenoChords", "isShorter", "(II)Z"⟩, 10), (⟨"StenoChords", "canStrike", "(I)Z"⟩, 10), (⟨"StenoChords", "putOrEat", "(I)V"⟩, 10), (⟨"StenoChords", "eat", "()V"⟩, 10), (⟨"StenoChordsModel", "canStrike", "(I)Z"⟩, 17), (⟨"StenoChordsModel", "holds", "(I)Z"⟩, 17), (⟨"StenoChordsModel", "save", "()V"⟩, 17), (⟨"StenoChordsModel", "copies", "(II)V"⟩, 17), (⟨"StenoChordsModel", "strikes", "(I)V"⟩, 17), (⟨"StenoChordsModel", "readsPaper", "()V"⟩, 17), (⟨"StenoChordsModel", "reads", "()V"⟩, 17), (⟨"StenoChordsModel", "entryAt", "(I)I"⟩, 17), (⟨"StenoChordsModel", "of", "(II)I"⟩, 17)]
theorem lw_r2 : ∀ q ∈ lw_privs_2, lw_okq q := List.forall_mem_cons.mpr ⟨lw_p16, List.forall_mem_cons.mpr ⟨lw_p17, List.forall_mem_cons.mpr ⟨lw_p18, List.forall_mem_cons.mpr ⟨lw_p19, List.forall_mem_cons.mpr ⟨lw_p20, List.forall_mem_cons.mpr ⟨lw_p21, List.forall_mem_cons.mpr ⟨lw_p22, List.forall_mem_cons.mpr ⟨lw_p23, List.forall_mem_cons.mpr ⟨lw_p24, List.forall_mem_cons.mpr ⟨lw_p25, List.forall_mem_cons.mpr ⟨lw_p26, List.forall_mem_cons.mpr ⟨lw_p27, List.forall_mem_cons.mpr ⟨lw_p28, List.forall_mem_cons.mpr ⟨lw_p29, List.forall_mem_cons.mpr ⟨lw_p30, List.forall_mem_cons.mpr ⟨lw_p31, fun _ h => absurd h List.not_mem_nil⟩⟩⟩⟩⟩⟩⟩⟩⟩⟩⟩⟩⟩⟩⟩⟩
theorem lw_p32 : lw_okq (⟨"StenoChordsModel", "isRow", "(II)Z"⟩, 17) := ⟨⟨by decide +kernel, by decide +kernel⟩, List.mem_of_getElem? (i := 897) (by decide +kernel), List.mem_of_getElem? (i := 1005) (by decide +kernel), List.mem_of_getElem? (i := 1006) (by decide +kernel)⟩
theorem lw_p33 : lw_okq (⟨"StenoChordsModel", "leads", "(I)Z"⟩, 17) := ⟨⟨by decide +kernel, by decide +kernel⟩, List.mem_of_getElem? (i := 897) (by decide +kernel), List.mem_of_getElem? (i := 1009) (by decide +kernel), List.mem_of_getElem? (i := 1010) (by decide +kernel)⟩
theorem lw_p34 : lw_okq (⟨"StenoChordsModel", "areRivals", "(II)Z"⟩, 17) := ⟨⟨by decide +kernel, by decide +kernel⟩, List.mem_of_getElem? (i := 897) (by decide +kernel), List.mem_of_getElem? (i := 1013) (by decide +kernel), List.mem_of_getElem? (i := 1014) (by decide +kernel)⟩
theorem lw_p35 : lw_okq (⟨"StenoChordsModel", "areStrokes", "()Z"⟩, 17) := ⟨⟨by decide +kernel, by decide +kernel⟩, List.mem_of_getElem? (i := 897) (by decide +kernel), List.mem_of_getElem? (i := 1021) (by decide +kernel), List.mem_of_getElem? (i := 1022) (by decide +kernel)⟩
theorem lw_p36 : lw_okq (⟨"StenoChordsModel", "readsStroke", "()I"⟩, 17) := ⟨⟨by decide +kernel, by decide +kernel⟩, List.mem_of_getElem? (i := 897) (by decide +kernel), List.mem_of_getElem? (i := 1025) (by decide +kernel), List.mem_of_getElem? (i := 1026) (by decide +kernel)⟩
theorem lw_p37 : lw_okq (⟨"StenoChordsModel", "isEntry", "(I)Z"⟩, 17) := ⟨⟨by decide +kernel, by decide +kernel⟩, List.mem_of_getElem? (i := 897) (by decide +kernel), List.mem_of_getElem? (i := 1040) (by decide +kernel), List.mem_of_getElem? (i := 1041) (by decide +kernel)⟩
theorem lw_p38 : lw_okq (⟨"StenoChordsModel", "lay", "(III)V"⟩, 17) := ⟨⟨by decide +kernel, by decide +kernel⟩, List.mem_of_getElem? (i := 897) (by decide +kernel), List.mem_of_getElem? (i := 1044) (by decide +kernel), List.mem_of_getElem? (i := 1045) (by decide +kernel)⟩
theorem lw_p39 : lw_okq (⟨"StenoChordsModel", "hasAsterisk", "()Z"⟩, 17) := ⟨⟨by decide +kernel, by decide +kernel⟩, List.mem_of_getElem? (i := 897) (by decide +kernel), List.mem_of_getElem? (i := 1052) (by decide +kernel), List.mem_of_getElem? (i := 1053) (by decide +kernel)⟩
theorem lw_p40 : lw_okq (⟨"StenoChordsModel", "isThere", "(I)Z"⟩, 17) := ⟨⟨by decide +kernel, by decide +kernel⟩, List.mem_of_getElem? (i := 897) (by decide +kernel), List.mem_of_getElem? (i := 1056) (by decide +kernel), List.mem_of_getElem? (i := 1057) (by decide +kernel)⟩
theorem lw_p41 : lw_okq (⟨"StenoChordsModel", "ofItem", "(II)I"⟩, 17) := ⟨⟨by decide +kernel, by decide +kernel⟩, List.mem_of_getElem? (i := 897) (by decide +kernel), List.mem_of_getElem? (i := 1100) (by decide +kernel), List.mem_of_getElem? (i := 1101) (by decide +kernel)⟩
theorem lw_p42 : lw_okq (⟨"StenoChordsModel", "wordOf", "(I)I"⟩, 17) := ⟨⟨by decide +kernel, by decide +kernel⟩, List.mem_of_getElem? (i := 897) (by decide +kernel), List.mem_of_getElem? (i := 1104) (by decide +kernel), List.mem_of_getElem? (i := 1105) (by decide +kernel)⟩
theorem lw_p43 : lw_okq (⟨"StenoChordsModel", "ofEntry", "(II)I"⟩, 17) := ⟨⟨by decide +kernel, by decide +kernel⟩, List.mem_of_getElem? (i := 897) (by decide +kernel), List.mem_of_getElem? (i := 1112) (by decide +kernel), List.mem_of_getElem? (i := 1113) (by decide +kernel)⟩
theorem lw_p44 : lw_okq (⟨"StenoChordsModel", "standing", "(I)I"⟩, 17) := ⟨⟨by decide +kernel, by decide +kernel⟩, List.mem_of_getElem? (i := 897) (by decide +kernel), List.mem_of_getElem? (i := 1116) (by decide +kernel), List.mem_of_getElem? (i := 1117) (by decide +kernel)⟩
theorem lw_p45 : lw_okq (⟨"StenoChordsModel", "keysOfEntry", "(I)I"⟩, 17) := ⟨⟨by decide +kernel, by decide +kernel⟩, List.mem_of_getElem? (i := 897) (by decide +kernel), List.mem_of_getElem? (i := 1120) (by decide +kernel), List.mem_of_getElem? (i := 1121) (by decide +kernel)⟩
theorem lw_p46 : lw_okq (⟨"StenoChordsModel", "counted", "(I)I"⟩, 17) := ⟨⟨by decide +kernel, by decide +kernel⟩, List.mem_of_getElem? (i := 897) (by decide +kernel), List.mem_of_getElem? (i := 1128) (by decide +kernel), List.mem_of_getElem? (i := 1129) (by decide +kernel)⟩
theorem lw_p47 : lw_okq (⟨"StenoChordsModel", "struck", "(II)I"⟩, 17) := ⟨⟨by decide +kernel, by decide +kernel⟩, List.mem_of_getElem? (i := 897) (by decide +kernel), List.mem_of_getElem? (i := 1140) (by decide +kernel), List.mem_of_getElem? (i := 1141) (by decide +kernel)⟩
def lw_privs_3 : List (MethodName × Nat) := [(⟨"StenoChordsModel", "isRow", "(II)Z"⟩, 17), (⟨"StenoChordsModel", "leads", "(I)Z"⟩, 17), (⟨"StenoChordsModel", "areRivals", "(II)Z"⟩, 17), (⟨"StenoChordsModel", "areStrokes", "()Z"⟩, 17), (⟨"StenoChordsModel", "readsStroke", "()I"⟩, 17), (⟨"StenoChordsModel", "isEntry", "(I)Z"⟩, 17), (⟨"StenoChordsModel", "lay", "(III)V"⟩, 17), (⟨"StenoChordsModel", "hasAsterisk", "()Z"⟩, 17), (⟨"StenoChordsModel", "isThere", "(I)Z"⟩, 17), (⟨"StenoChordsModel", "ofItem", "(II)I"⟩, 17), (⟨"StenoChordsModel", "wordOf", "(I)I"⟩, 17), (⟨"StenoChordsModel", "ofEntry", "(II)I"⟩, 17), (⟨"StenoChordsModel", "standing", "(I)I"⟩, 17), (⟨"StenoChordsModel", "keysOfEntry", "(I)I"⟩, 17), (⟨"StenoChordsModel", "counted", "(I)I"⟩, 17), (⟨"StenoChordsModel", "struck", "(II)I"⟩, 17)]
theorem lw_r3 : ∀ q ∈ lw_privs_3, lw_okq q := List.forall_mem_cons.mpr ⟨lw_p32, List.forall_mem_cons.mpr ⟨lw_p33, List.forall_mem_cons.mpr ⟨lw_p34, List.forall_mem_cons.mpr ⟨lw_p35, List.forall_mem_cons.mpr ⟨lw_p36, List.forall_mem_cons.mpr ⟨lw_p37, List.forall_mem_cons.mpr ⟨lw_p38, List.forall_mem_cons.mpr ⟨lw_p39, List.forall_mem_cons.mpr ⟨lw_p40, List.forall_mem_cons.mpr ⟨lw_p41, List.forall_mem_cons.mpr ⟨lw_p42, List.forall_mem_cons.mpr ⟨lw_p43, List.forall_mem_cons.mpr ⟨lw_p44, List.forall_mem_cons.mpr ⟨lw_p45, List.forall_mem_cons.mpr ⟨lw_p46, List.forall_mem_cons.mpr ⟨lw_p47, fun _ h => absurd h List.not_mem_nil⟩⟩⟩⟩⟩⟩⟩⟩⟩⟩⟩⟩⟩⟩⟩⟩
theorem lw_p48 : lw_okq (⟨"StenoChordsModel", "begins", "(I)I"⟩, 17) := ⟨⟨by decide +kernel, by decide +kernel⟩, List.mem_of_getElem? (i := 897) (by decide +kernel), List.mem_of_getElem? (i := 1148) (by decide +kernel), List.mem_of_getElem? (i := 1149) (by decide +kernel)⟩
theorem lw_p49 : lw_okq (⟨"StenoChordsModel", "shortestFor", "(I)I"⟩, 17) := ⟨⟨by decide +kernel, by decide +kernel⟩, List.mem_of_getElem? (i := 897) (by decide +kernel), List.mem_of_getElem? (i := 1156) (by decide +kernel), List.mem_of_getElem? (i := 1157) (by decide +kernel)⟩
theorem lw_p50 : lw_okq (⟨"StenoChordsModel", "pairOf", "(II)I"⟩, 17) := ⟨⟨by decide +kernel, by decide +kernel⟩, List.mem_of_getElem? (i := 897) (by decide +kernel), List.mem_of_getElem? (i := 1164) (by decide +kernel), List.mem_of_getElem? (i := 1165) (by decide +kernel)⟩
theorem lw_p51 : lw_okq (⟨"StenoChordsModel", "clashesOf", "()I"⟩, 17) := ⟨⟨by decide +kernel, by decide +kernel⟩, List.mem_of_getElem? (i := 897) (by decide +kernel), List.mem_of_getElem? (i := 1172) (by decide +kernel), List.mem_of_getElem? (i := 1173) (by decide +kernel)⟩
theorem lw_p52 : lw_okq (⟨"StenoChordsModel", "leastOf", "()I"⟩, 17) := ⟨⟨by decide +kernel, by decide +kernel⟩, List.mem_of_getElem? (i := 897) (by decide +kernel), List.mem_of_getElem? (i := 1180) (by decide +kernel), List.mem_of_getElem? (i := 1181) (by decide +kernel)⟩
theorem lw_p53 : lw_okq (⟨"StenoChordsModel", "share", "()D"⟩, 17) := ⟨⟨by decide +kernel, by decide +kernel⟩, List.mem_of_getElem? (i := 897) (by decide +kernel), List.mem_of_getElem? (i := 1188) (by decide +kernel), List.mem_of_getElem? (i := 1189) (by decide +kernel)⟩
theorem lw_p54 : lw_okq (⟨"StenoChordsModel", "mean", "()F"⟩, 17) := ⟨⟨by decide +kernel, by decide +kernel⟩, List.mem_of_getElem? (i := 897) (by decide +kernel), List.mem_of_getElem? (i := 1196) (by decide +kernel), List.mem_of_getElem? (i := 1197) (by decide +kernel)⟩
theorem lw_p55 : lw_okq (⟨"StenoChordsModel", "mix", "(J)V"⟩, 17) := ⟨⟨by decide +kernel, by decide +kernel⟩, List.mem_of_getElem? (i := 897) (by decide +kernel), List.mem_of_getElem? (i := 1205) (by decide +kernel), List.mem_of_getElem? (i := 1206) (by decide +kernel)⟩
def lw_privs_4 : List (MethodName × Nat) := [(⟨"StenoChordsModel", "begins", "(I)I"⟩, 17), (⟨"StenoChordsModel", "shortestFor", "(I)I"⟩, 17), (⟨"StenoChordsModel", "pairOf", "(II)I"⟩, 17), (⟨"StenoChordsModel", "clashesOf", "()I"⟩, 17), (⟨"StenoChordsModel", "leastOf", "()I"⟩, 17), (⟨"StenoChordsModel", "share", "()D"⟩, 17), (⟨"StenoChordsModel", "mean", "()F"⟩, 17), (⟨"StenoChordsModel", "mix", "(J)V"⟩, 17)]
theorem lw_r4 : ∀ q ∈ lw_privs_4, lw_okq q := List.forall_mem_cons.mpr ⟨lw_p48, List.forall_mem_cons.mpr ⟨lw_p49, List.forall_mem_cons.mpr ⟨lw_p50, List.forall_mem_cons.mpr ⟨lw_p51, List.forall_mem_cons.mpr ⟨lw_p52, List.forall_mem_cons.mpr ⟨lw_p53, List.forall_mem_cons.mpr ⟨lw_p54, List.forall_mem_cons.mpr ⟨lw_p55, fun _ h => absurd h List.not_mem_nil⟩⟩⟩⟩⟩⟩⟩⟩
def lw_privs : List (MethodName × Nat) := lw_privs_1 ++ (lw_privs_2 ++ (lw_privs_3 ++ (lw_privs_4)))
def lw_tbl : List Cond := k2_sels lw_privs ++ tables_1
theorem lw_privs_ok : ∀ q ∈ lw_privs, lw_okq q := by
  show ∀ q ∈ lw_privs_1 ++ (lw_privs_2 ++ (lw_privs_3 ++ (lw_privs_4))), lw_okq q
  exact List.forall_mem_append.mpr ⟨lw_r1, List.forall_mem_append.mpr ⟨lw_r2, List.forall_mem_append.mpr ⟨lw_r3, lw_r4⟩⟩⟩
/-- the streams that the claim lets the run draw from -/
abbrev lw_cs : List Choice := [Jvm.Choice.named "NaN.bits"]
theorem lw_bits : nanBits ∈ lw_cs := by first | decide | exact List.mem_cons_self | simp [lw_cs, nanBits]
-- ===== words that stay true across calls =====
def lw_all : List Cond := lw_tbl.filter goodWord
theorem lw_all_good : ∀ w ∈ lw_all, w ∈ lw_tbl ∧ goodWord w = true := fun _ h => List.mem_filter.mp h
theorem lw_all_tbl {w : Cond} (h : w ∈ lw_all) : w ∈ lw_tbl := (List.mem_filter.mp h).1
theorem lw_in {w : Cond} (h : w ∈ lw_tbl) (hg : goodWord w = true) : w ∈ lw_all := List.mem_filter.mpr ⟨h, hg⟩
theorem lw_in1 {w : Cond} (h : w ∈ tables_1_1) (hg : goodWord w = true) : w ∈ lw_all := lw_in (List.mem_append_right _ (List.mem_append_left _ h)) hg
theorem lw_in2 {w : Cond} (h : w ∈ tables_1_2) (hg : goodWord w = true) : w ∈ lw_all := lw_in (List.mem_append_right _ (List.mem_append_right _ (List.mem_append_left _ h))) hg
theorem lw_in3 {w : Cond} (h : w ∈ tables_1_3) (hg : goodWord w = true) : w ∈ lw_all := lw_in (List.mem_append_right _ (List.mem_append_right _ (List.mem_append_right _ (List.mem_append_left _ h)))) hg
theorem lw_in4 {w : Cond} (h : w ∈ tables_1_4) (hg : goodWord w = true) : w ∈ lw_all := lw_in (List.mem_append_right _ (List.mem_append_right _ (List.mem_append_right _ (List.mem_append_right _ (List.mem_append_left _ h))))) hg
theorem lw_in5 {w : Cond} (h : w ∈ tables_1_5) (hg : goodWord w = true) : w ∈ lw_all := lw_in (List.mem_append_right _ (List.mem_append_right _ (List.mem_append_right _ (List.mem_append_right _ (List.mem_append_right _ (List.mem_append_left _ h)))))) hg
theorem lw_in6 {w : Cond} (h : w ∈ tables_1_6) (hg : goodWord w = true) : w ∈ lw_all := lw_in (List.mem_append_right _ (List.mem_append_right _ (List.mem_append_right _ (List.mem_append_right _ (List.mem_append_right _ (List.mem_append_right _ h)))))) hg
theorem lw_inS {w : Cond} (h : w ∈ k2_sels lw_privs) (hg : goodWord w = true) : w ∈ lw_all := lw_in (List.mem_append_left _ h) hg
theorem gd_all {ws : List Cond} (h : ∀ w ∈ ws, w ∈ lw_all) : GoodIn lw_all ws := fun w hw => ⟨h w hw, good_of_word (lw_all_good w (h w hw)).2⟩
theorem gd_self {y : MethodName} {cc : ByteArray} {n : Nat} {ret : Option FieldType} (h : Cond.code y cc n ret ∈ lw_all) : GoodIn lw_all (Cond.code y cc n ret :: lw_all) :=
  gd_all (fun w hw => (List.mem_cons.mp hw).elim (fun e => e ▸ h) (fun h => h))
theorem gd_V {own : String} {idx : Nat} {y : MethodName} {cc : ByteArray} {n : Nat} {ret : Option FieldType} (h : Cond.code y cc n ret ∈ lw_all) (h1 : Cond.methodLink own idx y ∈ lw_all) (h2 : Cond.instanceMethod y ∈ lw_all) (h3 : Cond.selects y.cls y y ∈ lw_all) (h4 : Cond.initialized y.cls ∈ lw_all) : GoodIn lw_all (wsV own idx y.cls y (Cond.code y cc n ret :: lw_all)) := by
  refine gd_all (fun w hw => ?_)
  simp only [wsV, List.cons_append, List.nil_append, List.mem_cons] at hw
  rcases hw with rfl | rfl | rfl | rfl | rfl | hw
  · exact h1
  · exact h2
  · exact h3
  · exact h4
  · exact h
  · exact hw
theorem gd_S {own : String} {idx : Nat} {y : MethodName} {cc : ByteArray} {n : Nat} {ret : Option FieldType} (h : Cond.code y cc n ret ∈ lw_all) (h1 : Cond.methodLink own idx y ∈ lw_all) (h2 : Cond.static y ∈ lw_all) (h4 : Cond.initialized y.cls ∈ lw_all) : GoodIn lw_all (va_wsS own idx y (Cond.code y cc n ret :: lw_all)) := by
  refine gd_all (fun w hw => ?_)
  simp only [va_wsS, List.cons_append, List.nil_append, List.mem_cons] at hw
  rcases hw with rfl | rfl | rfl | rfl | hw
  · exact h1
  · exact h2
  · exact h4
  · exact h
  · exact hw
end
section
/-! ===== BEGIN words of one list among another's, by their places ===== -/
theorem goodIn_r {big : List Cond} (ws : List Cond) (ps : List Nat) (hp : ws = ps.filterMap (fun i => big[i]?)) (h : ws.all goodWord = true) : GoodIn big ws := by
  intro w hw
  have h1 := List.all_eq_true.mp h w hw
  rw [hp] at hw
  obtain ⟨i, -, hi⟩ := List.mem_filterMap.mp hw
  have hm : w ∈ big := by first | exact List.mem_of_getElem? hi | exact List.getElem?_mem hi
  exact ⟨hm, good_of_word h1⟩
theorem goodIn_app {big a b : List Cond} (ha : GoodIn big a) (hb : GoodIn big b) : GoodIn big (a ++ b) := fun w h => (List.mem_append.mp h).elim (ha w) (hb w)
theorem goodIn_ca {big a b : List Cond} {c : Cond} (ha : GoodIn big (c :: a)) (hb : GoodIn big b) : GoodIn big (c :: (a ++ b)) := fun w h => (List.mem_cons.mp h).elim (fun e => ha w (List.mem_cons.mpr (Or.inl e))) (fun h => (List.mem_append.mp h).elim (fun h => ha w (List.mem_cons.mpr (Or.inr h))) (hb w))
theorem goodIn_sub {big ws : List Cond} (hm : ∀ w ∈ ws, w ∈ big) (h : ws.all goodWord = true) : GoodIn big ws := fun w hw => ⟨hm w hw, good_of_word (List.all_eq_true.mp h w hw)⟩
/-! ===== END ===== -/

/-! ===== BEGIN exceptions that leave a method, and their catching by the caller (launches without stack traces) ===== -/
section VXA
/-! The laws vx_back, vx_callV, vx_callS, vx_callSW, vx_throw0, vx_throwS follow proofs of the library, with one case more: JvmDerived/Free/Laws.lean (Back.of_free), Shelf42/LK1.lean (callV, callS), Shelf/KitTraced.lean (throwNew0V, throwNewS). -/
/-- where a method has thrown q: the class by its name, the cell, what was written, the world -/
def vx_T (XC : String → State → State → Prop) (st : State) (q : Addr) (t : State) (mc ms : Nat) (free : Addr → Prop) : Prop :=
  ∃ (E : String) (ce : Cell) (L : List Loc), XC E st t ∧ t.heap[q]? = some ce ∧ ce.vm = .none ∧ st.vm.findClass E = some ce.cls ∧ st.WarmedH t.vm ∧ st.sameButNew ({ t with vm := st.vm } : State) L mc ms ∧ ∀ z ∈ L, free z.base
def vx_Q (Qc : Array Value → State → Outcome → State → Prop) (XC : String → State → State → Prop) (mc ms : Nat) (free : Addr → Prop) : Array Value → State → Outcome → State → Prop := fun a st o t =>
  (Qc a st o t ∧ ∃ L, FrameEnd st o t L mc ms ∧ ∀ q ∈ L, free q.base) ∨ ∃ q, o = .threw q ∧ vx_T XC st q t mc ms free
/-- a callee that returns or throws -/
def vx_Met (l : Launch) (y : MethodName) (ws : List Cond) (rm : Room) (Pc : Array Value → State → Prop) (Qc : Array Value → State → Outcome → State → Prop) (XC : String → State → State → Prop) (mc ms : Nat) (free : Addr → Prop) : Prop :=
  MetFree l y (headSpec ws rm) Pc (fun _ _ _ _ _ => True) (vx_Q Qc XC mc ms free)
def vx_Post (XC : String → State → State → Prop) (mc ms : Nat) (free : Addr → Prop) : Pt → Array Value → Addr → Pt → Prop := fun A a q B =>
  ∃ (g : JFrame) (mk : MethodId) (t : State) (L : List Loc) (E : String) (ce : Cell), B.U.heap = t.heap ∧ B.U.vm = t.vm ∧ XC E (A.U.calling g mk a) t ∧ t.heap[q]? = some ce ∧ ce.vm = .none ∧ A.U.vm.findClass E = some ce.cls ∧ B.locs = A.locs ++ L ∧ (∀ z ∈ L, free z.base) ∧ B.cells = A.cells + mc ∧ B.slots = A.slots + ms
def vx_Back (l : Launch) (R : Room) (p : Program) (e : Env) (below : List Frame) (s : State) (sargs : Array Value) (y : MethodName) (len W9 : Nat)
    (Pre : Pt → Array Value → Prop) (Post : Pt → Array Value → Option Value → Pt → Prop) (PostX : Pt → Array Value → Addr → Pt → Prop) : Prop :=
  ∀ (m : MethodId) (meth : Method) (c : Code) (A : Pt) (g : JFrame) (ig : Instr) (mk : MethodId) (a : Array Value),
    Stand p l e R s m sargs below meth c A.U A.locs A.cells A.slots → g.method = m → g.locals.size = c.maxLocals → decode c.code g.pc = .ok (ig, len) →
    2 * g.monitorRoom + (g.stack.map fun v => v.category).sum ≤ W9 → A.U.methodNamed? y = some mk → Pre A a →
    (∃ (v : Option Value) (B : Pt), Stand p l e R s m sargs below meth c B.U B.locs B.cells B.slots ∧ Post A a v B ∧
      Steps p.tables e below (doInvoke e (A.U.setTop g) [] mk a).1 (B.U.setTop { g with pc := g.pc + len, stack := v.toList ++ g.stack })) ∨
    (∃ (q : Addr) (B : Pt), Stand p l e R s m sargs below meth c B.U B.locs B.cells B.slots ∧ PostX A a q B ∧
      Steps p.tables e below (doInvoke e (A.U.setTop g) [] mk a).1 ((B.U.setTop g).pushFrame (.throwing q)))
section Payer
variable {l : Launch} {R : Room} {p : Program} {e : Env} {below : List Frame} {s : State} {sargs : Array Value} {y : MethodName} {len W9 : Nat}
theorem vx_back {ws : List Cond} {rm : Room} {Pc : Array Value → State → Prop} {Qc : Array Value → State → Outcome → State → Prop} {XC : String → State → State → Prop} {mc ms : Nat} {free : Addr → Prop} {bytes : ByteArray} {maxL : Nat} {ret : Option FieldType}
    (hM : vx_Met l y ws rm Pc Qc XC mc ms free) (hblind : FrameBlind Pc) (hrc : rm.cells = mc) (hrs : rm.slots = ms)
    (hframes : rm.frames + 1 ≤ R.frames) (hlocals : W9 + (maxL + 11) + rm.locals ≤ R.locals)
    (hws : ∀ w ∈ ws, ∀ a' U, s.WarmedH U.vm → w.before a' U = true) (hcode : Cond.code y bytes maxL ret ∈ ws) (hinit : ∀ a' U, s.WarmedH U.vm → (Cond.initialized y.cls).before a' U = true) :
    vx_Back l R p e below s sargs y len W9 (PreOf R mc ms Pc) (PostOf Qc mc ms free) (vx_Post XC mc ms free) := by
  intro m meth c A g ig mk a X hg hsize hdg hW hn hp
  have h1 : (headSpec ws rm).pre.before a A.U = true := atoms_intro fun w hw => hws w hw _ _ X.warmed
  have h2 : (Cond.code y bytes maxL ret).before a A.U = true := hws _ hcode _ _ X.warmed
  have h3 : (Cond.initialized y.cls).before a A.U = true := hinit _ _ X.warmed
  have h4 : A.cells + (headSpec ws rm).room.cells ≤ R.cells := by rw [show (headSpec ws rm).room.cells = mc from hrc]; exact hp.1
  have h5 : A.slots + (headSpec ws rm).room.slots ≤ R.slots := by rw [show (headSpec ws rm).room.slots = ms from hrs]; exact hp.2.1
  have hPc : Pc a (A.U.calling g mk a) := hblind _ _ _ _ hp.2.2
  obtain ⟨U, Ls, c0, s0⟩ := A
  dsimp only [Pt.U, Pt.locs, Pt.cells, Pt.slots] at h1 h2 h3 h4 h5 X hn hPc ⊢
  obtain ⟨methY, cY, hmY, hcY, -, hlY, -, -, -, -⟩ := Cond.code_spec hn h2
  obtain ⟨kY, hkY, -⟩ := className_of_methodNamed hn
  have hinitY : kY.init = .initialized := Cond.initialized_spec (findClass_of_methodNamed hn) hkY h3
  have h : At U g.method c below := by rw [hg]; exact X.here
  have hlocals9 : W9 + (maxL + 11) + (headSpec ws rm).room.locals ≤ R.locals := hlocals
  have happ : (headSpec ws rm).appliesLoose y e.platform (U.calling g mk a) = true :=
    Spec.appliesLoose_calling (g := g) h hdg hn hkY hinitY
      (X.room_calling (g := g) (R' := (headSpec ws rm).room) hsize hmY hcY hframes (by rw [hlY]; omega) h4 h5) h1
  obtain ⟨mid, hmid⟩ := h.above
  have hfr : (U.setTop g).frames = (.java g :: mid) ++ below := by rw [State.frames_setTop' g h.top, hmid]; rfl
  obtain ⟨o, s₂, hsteps, -, hend, hq⟩ := Steps.callFree hM p X.admits X.cas X.clock (acts := []) hfr happ hPc trivial
  have hq' : vx_Q Qc XC mc ms free a (U.calling g mk a) o s₂ := hq
  rw [State.frames_setTop' g h.top] at hend
  obtain ⟨g₀, hg0⟩ := Option.isSome_iff_exists.mp h.top
  obtain ⟨r, hr⟩ := State.topJava?_eq_some.mp hg0
  have hr' : (({ U with heap := s₂.heap, slotsUsed := s₂.slotsUsed } : State).setVm s₂.vm).frames = .java g₀ :: r := hr
  rcases hq' with ⟨hqc, L, hfe, hL⟩ | ⟨q, rfl, E, ce, L, hx, hce, hcv, hcl, hW₂, hsm, hL⟩
  · obtain ⟨⟨v, rfl⟩, hW₂, e2, q2, q3, q4, q5, q6⟩ := id hfe
    have e3 : s₂ = ({ (U.calling g mk a).setFrames s₂.frames with heap := s₂.heap, slotsUsed := s₂.slotsUsed } : State).setVm s₂.vm := by
      have : s₂ = ({ s₂ with vm := (U.calling g mk a).vm } : State).setVm s₂.vm := rfl
      rw [e2] at this
      exact this
    obtain ⟨c₂, i₂, len₂, hc₂, hd₂, hf₂⟩ := hend
    have hW' : U.WarmedH s₂.vm := hW₂
    have hcc : c₂ = c := by
      have h1 : s₂.code? g.method = U.code? g.method := by
        rw [State.code?_eq, State.code?_eq, hW'.alike.method?]
      exact Option.some.inj (hc₂.symm.trans (h1.trans h.code))
    subst hcc
    have hlen : len₂ = len := by rw [hdg] at hd₂; cases hd₂; rfl
    subst hlen
    have hs₂ : s₂ = (({ U with heap := s₂.heap, slotsUsed := s₂.slotsUsed } : State).setVm s₂.vm).setTop { g with pc := g.pc + len₂, stack := v.toList ++ g.stack } := by
      refine e3.trans ?_
      rw [hf₂, State.calling_eq h.top, State.setFrames_setFrames, State.setTop_of_frames _ hr', hr]
      rfl
    have hsame : U.sameButNew ({ U with heap := s₂.heap, slotsUsed := s₂.slotsUsed } : State) L mc ms := by
      refine ⟨?_, q2, q3, q4, q5, q6⟩
      obtain ⟨t, ht, -⟩ := State.frames_cons hr
      show ({ U with heap := s₂.heap, slotsUsed := s₂.slotsUsed } : State) = { U.setFrames U.frames with heap := s₂.heap, slotsUsed := s₂.slotsUsed }
      rw [State.setFrames_self ht]
    subst hg
    refine Or.inl ⟨v, ⟨(({ U with heap := s₂.heap, slotsUsed := s₂.slotsUsed } : State).setVm s₂.vm), Ls ++ L, c0 + mc, s0 + ms⟩,
      ⟨X.admits, X.cas, X.clock, X.frames, X.room, X.hears, X.method, X.code, (X.here.setHeapUsed s₂.heap s₂.slotsUsed).setVm hW'.alike, X.tail, State.WarmedH.trans X.warmed hW', X.limits, X.bytes, X.same.trans (hsame.setVm s.vm)⟩,
      ⟨g, mk, s₂, L, rfl, rfl, hqc, rfl, hL, rfl, rfl⟩, ?_⟩
    show Steps p.tables e below _ ((({ U with heap := s₂.heap, slotsUsed := s₂.slotsUsed } : State).setVm s₂.vm).setTop { g with pc := g.pc + len₂, stack := v.toList ++ g.stack })
    rw [← hs₂]
    exact hsteps
  · obtain ⟨e2, q2, q3, q4, q5, q6⟩ := id hsm
    have e3 : s₂ = ({ (U.calling g mk a).setFrames s₂.frames with heap := s₂.heap, slotsUsed := s₂.slotsUsed } : State).setVm s₂.vm := by
      have : s₂ = ({ s₂ with vm := (U.calling g mk a).vm } : State).setVm s₂.vm := rfl
      rw [e2] at this
      exact this
    have hf₂ : s₂.frames = .throwing q :: .java g :: U.frames.tail := hend
    have hW' : U.WarmedH s₂.vm := hW₂
    have hs₂ : s₂ = ((({ U with heap := s₂.heap, slotsUsed := s₂.slotsUsed } : State).setVm s₂.vm).setTop g).pushFrame (.throwing q) := by
      refine e3.trans ?_
      rw [hf₂, State.calling_eq h.top, State.setFrames_setFrames, State.pushFrame, State.frames_setTop _ hr', State.setTop_of_frames _ hr', State.setFrames_setFrames, hr]
      rfl
    have hsame : U.sameButNew ({ U with heap := s₂.heap, slotsUsed := s₂.slotsUsed } : State) L mc ms := by
      refine ⟨?_, q2, q3, q4, q5, q6⟩
      obtain ⟨t, ht, -⟩ := State.frames_cons hr
      show ({ U with heap := s₂.heap, slotsUsed := s₂.slotsUsed } : State) = { U.setFrames U.frames with heap := s₂.heap, slotsUsed := s₂.slotsUsed }
      rw [State.setFrames_self ht]
    subst hg
    refine Or.inr ⟨q, ⟨(({ U with heap := s₂.heap, slotsUsed := s₂.slotsUsed } : State).setVm s₂.vm), Ls ++ L, c0 + mc, s0 + ms⟩,
      ⟨X.admits, X.cas, X.clock, X.frames, X.room, X.hears, X.method, X.code, (X.here.setHeapUsed s₂.heap s₂.slotsUsed).setVm hW'.alike, X.tail, State.WarmedH.trans X.warmed hW', X.limits, X.bytes, X.same.trans (hsame.setVm s.vm)⟩,
      ⟨g, mk, s₂, L, E, ce, rfl, rfl, hx, hce, hcv, hcl, rfl, hL, rfl, rfl⟩, ?_⟩
    show Steps p.tables e below _ (((({ U with heap := s₂.heap, slotsUsed := s₂.slotsUsed } : State).setVm s₂.vm).setTop g).pushFrame (.throwing q))
    rw [← hs₂]
    exact hsteps
end Payer
section Calls
variable {p : Program} {l : Launch} {e : Env} {R : Room} {s : State} {m : MethodId} {args : Array Value} {below : List Frame} {meth : Method} {c : Code} {T : State} {locs : List Loc} {cells slots : Nat}
theorem vx_callV (X : Stand p l e R s m args below meth c T locs cells slots) (hexec : p.tables.exec = Jvm.exec) {own C : String} {index : Nat} {y : MethodName} {bytes : ByteArray} {maxL : Nat} {ret : Option FieldType}
    (hown : s.vm.findClass own = some m.cls) (hlink : (Cond.methodLink own index y).before args s = true) (hinst : (Cond.instanceMethod y).before args s = true) (hsel : (Cond.selects C y y).before args s = true)
    (hcode : (Cond.code y bytes maxL ret).before args s = true) (hy : y.cls ≠ "java/lang/invoke/MethodHandle" ∧ y.cls ≠ "java/lang/invoke/VarHandle")
    {W9 : Nat} {Pre : Pt → Array Value → Prop} {Post : Pt → Array Value → Option Value → Pt → Prop} {PostX : Pt → Array Value → Addr → Pt → Prop} (hK : vx_Back l R p e below s args y 3 W9 Pre Post PostX)
    {b : Addr} {cellB : Cell} (hcell : T.heap[b]? = some cellB) (hobj : cellB.vm.isStatics = false) (hcls : s.vm.findClass C = some cellB.cls)
    {g : JFrame} (hg : g.method = m) (hsize : g.locals.size = c.maxLocals) {argsL rest : List Value} (hlen : ∀ sig, parseMethodDescriptor y.desc = some sig → argsL.length = sig.parameters.length)
    (hstack : g.stack = argsL.reverse ++ .ref b :: rest) (hW : 2 * g.monitorRoom + (rest.map fun v => v.category).sum ≤ W9) (hdg : decode c.code g.pc = .ok (.invokevirtual index, 3))
    (hpre : ∀ vm₁, s.WarmedH vm₁ → Pre ⟨T.setVm vm₁, locs, cells, slots⟩ (Value.ref b :: argsL).toArray) :
    (∃ (v : Option Value) (vm₁ : Vm) (B : Pt), s.WarmedH vm₁ ∧ Stand p l e R s m args below meth c B.U B.locs B.cells B.slots ∧ Post ⟨T.setVm vm₁, locs, cells, slots⟩ (Value.ref b :: argsL).toArray v B ∧
      ∀ target, Steps p.tables e below (B.U.setTop { g with pc := g.pc + 3, stack := v.toList ++ rest }) target → Steps p.tables e below (T.setTop g) target) ∨
    (∃ (q : Addr) (vm₁ : Vm) (B : Pt), s.WarmedH vm₁ ∧ Stand p l e R s m args below meth c B.U B.locs B.cells B.slots ∧ PostX ⟨T.setVm vm₁, locs, cells, slots⟩ (Value.ref b :: argsL).toArray q B ∧
      Steps p.tables e below (T.setTop g) ((B.U.setTop { g with stack := rest }).pushFrame (.throwing q))) := by
  obtain ⟨mk, methM, hnamed, hmethM, hstM, habM⟩ := Cond.instanceMethod_spec hinst
  obtain ⟨methM', cM, hmethM', -, -, -, -, -, -, hsigM⟩ := Cond.code_spec hnamed hcode
  cases hmethM.symm.trans hmethM'
  obtain ⟨c2, r2, m2, q1, q2, q3, q4, kP, hkP, hkPi⟩ := Cond.selects_spec hsel
  cases hcls.symm.trans q1
  cases (State.methodFound?_of_named hnamed hy).symm.trans q2
  cases hnamed.symm.trans q3
  have hselP : selectMethod e.platform s.vm cellB.cls mk = .method mk := by rw [Launch.admits_selectMethod X.admits]; exact q4
  obtain ⟨vm₁, X₁, hstep₁⟩ := X.invokevirtual hexec hown hlink hnamed hmethM hstM hkP hkPi hy (a := b) (cell := cellB) hcell
    (fun z h => by rw [h] at hobj; cases hobj) hselP hmethM habM hkP hkPi (g := g) hg (argsL := argsL) (rest := rest) (hlen _ hsigM) hstack hdg
  rcases hK m meth c ⟨T.setVm vm₁, locs, cells, slots⟩ { g with stack := rest } (.invokevirtual index) mk (Value.ref b :: argsL).toArray X₁ hg hsize hdg hW (X₁.named hnamed) (hpre vm₁ X₁.warmed) with ⟨v, B, X', hpost, hsteps⟩ | ⟨q, B, X', hpost, hsteps⟩
  · exact Or.inl ⟨v, vm₁, B, X₁.warmed, X', hpost, fun target h => hstep₁ _ fun acts => by rw [doInvoke_state]; exact hsteps.trans h⟩
  · exact Or.inr ⟨q, vm₁, B, X₁.warmed, X', hpost, hstep₁ _ fun acts => by rw [doInvoke_state]; exact hsteps⟩
theorem vx_callS (X : Stand p l e R s m args below meth c T locs cells slots) (hexec : p.tables.exec = Jvm.exec) {own : String} {index : Nat} {y : MethodName} {bytes : ByteArray} {maxL : Nat} {ret : Option FieldType}
    (hown : s.vm.findClass own = some m.cls) (hlink : (Cond.methodLink own index y).before args s = true) (hstat : (Cond.static y).before args s = true) (hinit : (Cond.initialized y.cls).before args s = true)
    (hcode : (Cond.code y bytes maxL ret).before args s = true) (hy : y.cls ≠ "java/lang/invoke/MethodHandle" ∧ y.cls ≠ "java/lang/invoke/VarHandle")
    {W9 : Nat} {Pre : Pt → Array Value → Prop} {Post : Pt → Array Value → Option Value → Pt → Prop} {PostX : Pt → Array Value → Addr → Pt → Prop} (hK : vx_Back l R p e below s args y 3 W9 Pre Post PostX)
    {g : JFrame} (hg : g.method = m) (hsize : g.locals.size = c.maxLocals) {argsL rest : List Value} (hlen : ∀ sig, parseMethodDescriptor y.desc = some sig → argsL.length = sig.parameters.length)
    (hstack : g.stack = argsL.reverse ++ rest) (hW : 2 * g.monitorRoom + (rest.map fun v => v.category).sum ≤ W9) (hdg : decode c.code g.pc = .ok (.invokestatic index, 3))
    (hpre : ∀ vm₁, s.WarmedH vm₁ → Pre ⟨T.setVm vm₁, locs, cells, slots⟩ argsL.toArray) :
    (∃ (v : Option Value) (vm₁ : Vm) (B : Pt), s.WarmedH vm₁ ∧ Stand p l e R s m args below meth c B.U B.locs B.cells B.slots ∧ Post ⟨T.setVm vm₁, locs, cells, slots⟩ argsL.toArray v B ∧
      ∀ target, Steps p.tables e below (B.U.setTop { g with pc := g.pc + 3, stack := v.toList ++ rest }) target → Steps p.tables e below (T.setTop g) target) ∨
    (∃ (q : Addr) (vm₁ : Vm) (B : Pt), s.WarmedH vm₁ ∧ Stand p l e R s m args below meth c B.U B.locs B.cells B.slots ∧ PostX ⟨T.setVm vm₁, locs, cells, slots⟩ argsL.toArray q B ∧
      Steps p.tables e below (T.setTop g) ((B.U.setTop { g with stack := rest }).pushFrame (.throwing q))) := by
  obtain ⟨mk, hnamed⟩ := Cond.code_named hcode
  obtain ⟨methM, cM, hmethM, -, -, -, -, -, -, hsigM⟩ := Cond.code_spec hnamed hcode
  have hstatic : methM.isStatic = true := Cond.static_spec hnamed hmethM hstat
  obtain ⟨kP, hkP, -⟩ := className_of_methodNamed hnamed
  have hinitP : kP.init = .initialized := Cond.initialized_spec (findClass_of_methodNamed hnamed) hkP hinit
  obtain ⟨vm₁, X₁, hstep₁⟩ := X.invokestatic hexec hown hlink hnamed hmethM hstatic hkP hinitP hy (g := g) hg (argsL := argsL) (rest := rest) (hlen _ hsigM) hstack hdg
  rcases hK m meth c ⟨T.setVm vm₁, locs, cells, slots⟩ { g with stack := rest } (.invokestatic index) mk argsL.toArray X₁ hg hsize hdg hW (X₁.named hnamed) (hpre vm₁ X₁.warmed) with ⟨v, B, X', hpost, hsteps⟩ | ⟨q, B, X', hpost, hsteps⟩
  · exact Or.inl ⟨v, vm₁, B, X₁.warmed, X', hpost, fun target h => hstep₁ _ fun acts => by rw [doInvoke_state]; exact hsteps.trans h⟩
  · exact Or.inr ⟨q, vm₁, B, X₁.warmed, X', hpost, hstep₁ _ fun acts => by rw [doInvoke_state]; exact hsteps⟩
end Calls
theorem vx_cls {s : State} {T : State} {vm₁ : Vm} {E : String} {k : ClassId} (hW : s.WarmedH vm₁) (h : (T.setVm vm₁).vm.findClass E = some k) : s.vm.findClass E = some k := by
  have h1 : vm₁.findClass E = some k := h
  rw [hW.alike.findClass] at h1
  exact h1
/-- the method's frame g, with q thrown over it -/
def vx_W (p : Program) (l : Launch) (e : Env) (R : Room) (s : State) (m : MethodId) (args : Array Value) (below : List Frame) (meth : Method) (c : Code) (H : Heap) (locs : List Loc) (cells slots : Nat) (Q : State → Prop) (g : JFrame) (q : Addr) : Prop :=
  ∀ T : State, T.heap = H → Stand p l e R s m args below meth c T locs cells slots → ∃ t, Steps p.tables e below ((T.setTop g).pushFrame (.throwing q)) t ∧ Q t
def vx_Run (p : Program) (l : Launch) (e : Env) (R : Room) (s : State) (m : MethodId) (args : Array Value) (below : List Frame) (meth : Method) (c : Code) (H : Heap) (locs : List Loc) (cells slots mc ms : Nat) (g : JFrame) (rest : List Value) (Qa : State → Outcome → State → Prop) (XC : String → State → State → Prop) (free : Addr → Prop) : Prop :=
  ∀ T : State, T.heap = H → Stand p l e R s m args below meth c T locs cells slots →
    (∃ (v : Option Value) (st₀ t T' : State) (L : List Loc), st₀.heap = H ∧ Stand p l e R s m args below meth c T' (locs ++ L) (cells + mc) (slots + ms) ∧ (∀ q ∈ L, free q.base) ∧ T'.heap = t.heap ∧ T'.vm = t.vm ∧ Qa st₀ (.returned v) t ∧
      Goes p e below T g T' { g with pc := g.pc + 3, stack := v.toList ++ rest }) ∨
    (∃ (q : Addr) (st₀ t T' : State) (L : List Loc) (E : String) (ce : Cell), st₀.heap = H ∧ Stand p l e R s m args below meth c T' (locs ++ L) (cells + mc) (slots + ms) ∧ (∀ z ∈ L, free z.base) ∧ T'.heap = t.heap ∧ T'.vm = t.vm ∧ XC E st₀ t ∧ t.heap[q]? = some ce ∧ ce.vm = .none ∧ s.vm.findClass E = some ce.cls ∧
      Steps p.tables e below (T.setTop g) ((T'.setTop { g with stack := rest }).pushFrame (.throwing q)))
def vx_X {S : Type} (px : S → Prop) (B : String → S → State → Prop) (A : Nat → Prop) : String → State → State → Prop := fun E st t => ∃ u : S, px u ∧ B E u t ∧ va_F A st t
section Runs
variable {p : Program} {l : Launch} {e : Env} {R : Room} {s : State} {m : MethodId} {args : Array Value} {below : List Frame} {meth : Method} {c : Code} {H : Heap} {locs : List Loc} {cells slots : Nat}
variable {y : MethodName} {bytes cc : ByteArray} {maxL nL mc ms n index : Nat} {ret : Option FieldType} {ws : List Cond} {rm : Room} {Pc : Array Value → State → Prop} {Qc : Array Value → State → Outcome → State → Prop} {XC : String → State → State → Prop} {free : Addr → Prop} {Ts : List Cond} {own C : String} {b : Addr} {As rest : List Value} {g : JFrame}
theorem vx_callBack (cb : CallB R s args own index y bytes maxL ret ws rm mc ms n) (hM : vx_Met l y ws rm Pc Qc XC mc ms free) (hbl : FrameBlind Pc) : vx_Back l R p e below s args y 3 8 (PreOf R mc ms Pc) (PostOf Qc mc ms free) (vx_Post XC mc ms free) := by
  obtain ⟨hrc, hrs, hfr, hlo, hws, hcw, -, hini, -⟩ := cb
  exact vx_back (bytes := bytes) (maxL := maxL) (ret := ret) hM hbl hrc hrs hfr hlo hws hcw (fun a' U hW => word_at hW (Or.inl (by first | rfl | simp [Cond.onTables, Cond.keeps, Cond.steady])) hini)
theorem vx_runV (S : CallFix p m c cc nL s args Ts own) (hM : vx_Met l y ws rm Pc Qc XC mc ms free) (cw : CallW R s args own C index y bytes maxL ret ws rm mc ms n) (hp : PreV s H C b Pc As)
    (hg : g.method = m) (hn : As.length = n) (hsize : g.locals.size = nL) (hstack : g.stack = As.reverse ++ .ref b :: rest) (hW : 2 * g.monitorRoom + (rest.map fun v => v.category).sum ≤ 8) (hdg : decode cc g.pc = .ok (.invokevirtual index, 3)) (hf : cells + mc ≤ R.cells ∧ slots + ms ≤ R.slots) :
    vx_Run p l e R s m args below meth c H locs cells slots mc ms g rest (Qc (Value.ref b :: As).toArray) XC free := by
  have hK : vx_Back l R p e below s args y 3 8 (PreOf R mc ms Pc) (PostOf Qc mc ms free) (vx_Post XC mc ms free) := vx_callBack cw.1 hM hp.1
  obtain ⟨⟨-, -, -, -, -, -, hcode, -, hy, hlen, hl⟩, hin, hse⟩ := cw
  obtain ⟨hx, hb, hml, ho, -⟩ := S
  obtain ⟨-, ⟨cellB, hcB, hoB, hclB⟩, hPc⟩ := hp
  intro T hT X
  rcases vx_callV X hx (C := C) (bytes := bytes) (maxL := maxL) (ret := ret) ho hl hin hse hcode hy hK (by rw [hT]; exact hcB) hoB hclB hg (hsize.trans hml.symm) (argsL := As) (rest := rest) (fun sig h => hn.trans (hlen sig h)) hstack hW (by rw [hb]; exact hdg)
    (fun vm₁ hW₁ => ⟨hf.1, hf.2, hPc (T.setVm vm₁) hT hW₁⟩) with ⟨v, vm₁, ⟨U', l2, c2, s2⟩, hW₁, X', ⟨g', mk, t, L, e1, e2, hq, h1, hL, h2, h3⟩, st⟩ | ⟨q, vm₁, ⟨U', l2, c2, s2⟩, hW₁, X', ⟨g', mk, t, L, E, ce, e1, e2, hq, hce, hcv, hcl, h1, hL, h2, h3⟩, st⟩
  · dsimp only [Pt.U, Pt.locs, Pt.cells, Pt.slots] at X' e1 e2 h1 h2 h3 st
    subst h1; subst h2; subst h3
    exact Or.inl ⟨v, (T.setVm vm₁).calling g' mk (Value.ref b :: As).toArray, t, U', L, hT, X', hL, e1, e2, hq, st⟩
  · dsimp only [Pt.U, Pt.locs, Pt.cells, Pt.slots] at X' e1 e2 h1 h2 h3 st hcl
    subst h1; subst h2; subst h3
    exact Or.inr ⟨q, (T.setVm vm₁).calling g' mk (Value.ref b :: As).toArray, t, U', L, E, ce, hT, X', hL, e1, e2, hq, hce, hcv, vx_cls hW₁ hcl, st⟩
theorem vx_runS (S : CallFix p m c cc nL s args Ts own) (hM : vx_Met l y ws rm Pc Qc XC mc ms free) (cw : CallB R s args own index y bytes maxL ret ws rm mc ms n ∧ (Cond.static y).before args s = true) (hp : PreS s H Pc As)
    (hg : g.method = m) (hn : As.length = n) (hsize : g.locals.size = nL) (hstack : g.stack = As.reverse ++ rest) (hW : 2 * g.monitorRoom + (rest.map fun v => v.category).sum ≤ 8) (hdg : decode cc g.pc = .ok (.invokestatic index, 3)) (hf : cells + mc ≤ R.cells ∧ slots + ms ≤ R.slots) :
    vx_Run p l e R s m args below meth c H locs cells slots mc ms g rest (Qc As.toArray) XC free := by
  have hK : vx_Back l R p e below s args y 3 8 (PreOf R mc ms Pc) (PostOf Qc mc ms free) (vx_Post XC mc ms free) := vx_callBack cw.1 hM hp.1
  obtain ⟨⟨-, -, -, -, -, -, hcode, hini, hy, hlen, hl⟩, hstt⟩ := cw
  obtain ⟨hx, hb, hml, ho, -⟩ := S
  intro T hT X
  rcases vx_callS X hx (bytes := bytes) (maxL := maxL) (ret := ret) ho hl hstt hini hcode hy hK hg (hsize.trans hml.symm) (argsL := As) (rest := rest) (fun sig h => hn.trans (hlen sig h)) hstack hW (by rw [hb]; exact hdg)
    (fun vm₁ hW₁ => ⟨hf.1, hf.2, hp.2 (T.setVm vm₁) hT hW₁⟩) with ⟨v, vm₁, ⟨U', l2, c2, s2⟩, hW₁, X', ⟨g', mk, t, L, e1, e2, hq, h1, hL, h2, h3⟩, st⟩ | ⟨q, vm₁, ⟨U', l2, c2, s2⟩, hW₁, X', ⟨g', mk, t, L, E, ce, e1, e2, hq, hce, hcv, hcl, h1, hL, h2, h3⟩, st⟩
  · dsimp only [Pt.U, Pt.locs, Pt.cells, Pt.slots] at X' e1 e2 h1 h2 h3 st
    subst h1; subst h2; subst h3
    exact Or.inl ⟨v, (T.setVm vm₁).calling g' mk As.toArray, t, U', L, hT, X', hL, e1, e2, hq, st⟩
  · dsimp only [Pt.U, Pt.locs, Pt.cells, Pt.slots] at X' e1 e2 h1 h2 h3 st hcl
    subst h1; subst h2; subst h3
    exact Or.inr ⟨q, (T.setVm vm₁).calling g' mk As.toArray, t, U', L, E, ce, hT, X', hL, e1, e2, hq, hce, hcv, vx_cls hW₁ hcl, st⟩
end Runs
section Rows
variable {p : Program} {l : Launch} {e : Env} {R : Room} {s : State} {m : MethodId} {args : Array Value} {below : List Frame} {meth : Method} {c : Code} {H : Heap} {locs : List Loc} {cells slots : Nat} {Q : State → Prop}
variable {mc ms : Nat} {free : Addr → Prop} {A0 A1 : Nat → Prop} {H0 : Heap} {a : Array Value} {pc : Nat} {ls : Array Slot} {st0 rest : List Value}
theorem vx_keep {st₀ t T' : State} {L : List Loc} (h0 : st₀.heap = H) (e1 : T'.heap = t.heap) (hS : va_S A0 H0 H locs) (hA : ∀ q, q < H.size → A1 q → A0 q) (hf : ∀ q, free q → A0 q) (hL : ∀ q ∈ L, free q.base) (hF : va_F A1 st₀ t) :
    H.size ≤ T'.heap.size ∧ (∀ q : Nat, q < H.size → ¬ A1 q → T'.heap[q]? = H[q]?) ∧ va_S A0 H0 T'.heap (locs ++ L) := by
  obtain ⟨hz, hk⟩ := hF
  rw [h0] at hz hk
  exact ⟨by rw [e1]; exact hz, fun q h1 h2 => by rw [e1]; exact hk q h1 h2,
    ⟨Nat.le_trans hS.1 (by rw [e1]; exact hz), fun q h1 h2 => by rw [e1, hk q (Nat.lt_of_lt_of_le h1 hS.1) (fun z => h2 (hA q (Nat.lt_of_lt_of_le h1 hS.1) z))]; exact hS.2.1 q h1 h2, fun q hq => by
      rcases List.mem_append.mp hq with h | h
      · exact hS.2.2 q h
      · exact hf _ (hL q h)⟩⟩
theorem vx_calli {S SX : Type} {post : Int32 → S → Prop} {px : SX → Prop} {B : S → State → Prop} {BX : String → SX → State → Prop} {AX : Nat → Prop} (hr : vx_Run p l e R s m args below meth c H locs cells slots mc ms (F0 m pc ls st0) rest (va_Qi post B A1 a) (vx_X px BX AX) free) (hS : va_S A0 H0 H locs) (hA : ∀ q, q < H.size → A1 q → A0 q) (hf : ∀ q, free q → A0 q) (hAX : ∀ q, q < H.size → AX q → A0 q)
    (kx : ∀ (E : String) (ce : Cell) (q9 : Addr) (u : SX) (t : State) (H1 : Heap) (locs1 : List Loc), t.heap = H1 → s.vm.Alike t.vm → px u → BX E u t → H.size ≤ H1.size → (∀ q : Nat, q < H.size → ¬ AX q → H1[q]? = H[q]?) → va_S A0 H0 H1 locs1 → H1[q9]? = some ce → ce.vm = .none → s.vm.findClass E = some ce.cls → vx_W p l e R s m args below meth c H1 locs1 (cells + mc) (slots + ms) Q (F0 m pc ls rest) q9)
    (kk : ∀ (r : Int32) (u : S) (t : State) (H1 : Heap) (locs1 : List Loc), t.heap = H1 → s.vm.Alike t.vm → post r u → B u t → H.size ≤ H1.size → (∀ q : Nat, q < H.size → ¬ A1 q → H1[q]? = H[q]?) → va_S A0 H0 H1 locs1 → W p l e R s m args below meth c H1 locs1 (cells + mc) (slots + ms) Q (F0 m (pc + 3) ls (.int r :: rest))) : W p l e R s m args below meth c H locs cells slots Q (F0 m pc ls st0) := by
  intro T hT X
  rcases hr T hT X with ⟨v, st₀, t, T', L, h0, X', hL, e1, e2, ⟨⟨r, u, hv, hp, hb⟩, hF⟩, st⟩ | ⟨q, st₀, t, T', L, E, ce, h0, X', hL, e1, e2, ⟨u, hp, hb, hF⟩, hce, hcv, hcl, st⟩
  · cases hv
    obtain ⟨k1, k2, k3⟩ := vx_keep h0 e1 hS hA hf hL hF
    obtain ⟨t2, a1, b1⟩ := kk r u t T'.heap (locs ++ L) e1.symm (by rw [← e2]; exact X'.warmed.alike) hp hb k1 k2 k3 T' rfl X'
    exact ⟨t2, st t2 a1, b1⟩
  · obtain ⟨k1, k2, k3⟩ := vx_keep h0 e1 hS hAX hf hL hF
    obtain ⟨t2, a1, b1⟩ := kx E ce q u t T'.heap (locs ++ L) e1.symm (by rw [← e2]; exact X'.warmed.alike) hp hb k1 k2 k3 (by rw [e1]; exact hce) hcv hcl T' rfl X'
    exact ⟨t2, st.trans a1, b1⟩
theorem vx_calll {S SX : Type} {post : Int64 → S → Prop} {px : SX → Prop} {B : S → State → Prop} {BX : String → SX → State → Prop} {AX : Nat → Prop} (hr : vx_Run p l e R s m args below meth c H locs cells slots mc ms (F0 m pc ls st0) rest (va_Ql post B A1 a) (vx_X px BX AX) free) (hS : va_S A0 H0 H locs) (hA : ∀ q, q < H.size → A1 q → A0 q) (hf : ∀ q, free q → A0 q) (hAX : ∀ q, q < H.size → AX q → A0 q)
    (kx : ∀ (E : String) (ce : Cell) (q9 : Addr) (u : SX) (t : State) (H1 : Heap) (locs1 : List Loc), t.heap = H1 → s.vm.Alike t.vm → px u → BX E u t → H.size ≤ H1.size → (∀ q : Nat, q < H.size → ¬ AX q → H1[q]? = H[q]?) → va_S A0 H0 H1 locs1 → H1[q9]? = some ce → ce.vm = .none → s.vm.findClass E = some ce.cls → vx_W p l e R s m args below meth c H1 locs1 (cells + mc) (slots + ms) Q (F0 m pc ls rest) q9)
    (kk : ∀ (r : Int64) (u : S) (t : State) (H1 : Heap) (locs1 : List Loc), t.heap = H1 → s.vm.Alike t.vm → post r u → B u t → H.size ≤ H1.size → (∀ q : Nat, q < H.size → ¬ A1 q → H1[q]? = H[q]?) → va_S A0 H0 H1 locs1 → W p l e R s m args below meth c H1 locs1 (cells + mc) (slots + ms) Q (F0 m (pc + 3) ls (.long r :: rest))) : W p l e R s m args below meth c H locs cells slots Q (F0 m pc ls st0) := by
  intro T hT X
  rcases hr T hT X with ⟨v, st₀, t, T', L, h0, X', hL, e1, e2, ⟨⟨r, u, hv, hp, hb⟩, hF⟩, st⟩ | ⟨q, st₀, t, T', L, E, ce, h0, X', hL, e1, e2, ⟨u, hp, hb, hF⟩, hce, hcv, hcl, st⟩
  · cases hv
    obtain ⟨k1, k2, k3⟩ := vx_keep h0 e1 hS hA hf hL hF
    obtain ⟨t2, a1, b1⟩ := kk r u t T'.heap (locs ++ L) e1.symm (by rw [← e2]; exact X'.warmed.alike) hp hb k1 k2 k3 T' rfl X'
    exact ⟨t2, st t2 a1, b1⟩
  · obtain ⟨k1, k2, k3⟩ := vx_keep h0 e1 hS hAX hf hL hF
    obtain ⟨t2, a1, b1⟩ := kx E ce q u t T'.heap (locs ++ L) e1.symm (by rw [← e2]; exact X'.warmed.alike) hp hb k1 k2 k3 (by rw [e1]; exact hce) hcv hcl T' rfl X'
    exact ⟨t2, st.trans a1, b1⟩
theorem vx_callf {S SX : Type} {post : UInt32 → S → Prop} {px : SX → Prop} {B : S → State → Prop} {BX : String → SX → State → Prop} {AX : Nat → Prop} (hr : vx_Run p l e R s m args below meth c H locs cells slots mc ms (F0 m pc ls st0) rest (va_Qf post B A1 a) (vx_X px BX AX) free) (hS : va_S A0 H0 H locs) (hA : ∀ q, q < H.size → A1 q → A0 q) (hf : ∀ q, free q → A0 q) (hAX : ∀ q, q < H.size → AX q → A0 q)
    (kx : ∀ (E : String) (ce : Cell) (q9 : Addr) (u : SX) (t : State) (H1 : Heap) (locs1 : List Loc), t.heap = H1 → s.vm.Alike t.vm → px u → BX E u t → H.size ≤ H1.size → (∀ q : Nat, q < H.size → ¬ AX q → H1[q]? = H[q]?) → va_S A0 H0 H1 locs1 → H1[q9]? = some ce → ce.vm = .none → s.vm.findClass E = some ce.cls → vx_W p l e R s m args below meth c H1 locs1 (cells + mc) (slots + ms) Q (F0 m pc ls rest) q9)
    (kk : ∀ (r : UInt32) (u : S) (t : State) (H1 : Heap) (locs1 : List Loc), t.heap = H1 → s.vm.Alike t.vm → post r u → B u t → H.size ≤ H1.size → (∀ q : Nat, q < H.size → ¬ A1 q → H1[q]? = H[q]?) → va_S A0 H0 H1 locs1 → W p l e R s m args below meth c H1 locs1 (cells + mc) (slots + ms) Q (F0 m (pc + 3) ls (.float r :: rest))) : W p l e R s m args below meth c H locs cells slots Q (F0 m pc ls st0) := by
  intro T hT X
  rcases hr T hT X with ⟨v, st₀, t, T', L, h0, X', hL, e1, e2, ⟨⟨r, u, hv, hp, hb⟩, hF⟩, st⟩ | ⟨q, st₀, t, T', L, E, ce, h0, X', hL, e1, e2, ⟨u, hp, hb, hF⟩, hce, hcv, hcl, st⟩
  · cases hv
    obtain ⟨k1, k2, k3⟩ := vx_keep h0 e1 hS hA hf hL hF
    obtain ⟨t2, a1, b1⟩ := kk r u t T'.heap (locs ++ L) e1.symm (by rw [← e2]; exact X'.warmed.alike) hp hb k1 k2 k3 T' rfl X'
    exact ⟨t2, st t2 a1, b1⟩
  · obtain ⟨k1, k2, k3⟩ := vx_keep h0 e1 hS hAX hf hL hF
    obtain ⟨t2, a1, b1⟩ := kx E ce q u t T'.heap (locs ++ L) e1.symm (by rw [← e2]; exact X'.warmed.alike) hp hb k1 k2 k3 (by rw [e1]; exact hce) hcv hcl T' rfl X'
    exact ⟨t2, st.trans a1, b1⟩
theorem vx_calld {S SX : Type} {post : UInt64 → S → Prop} {px : SX → Prop} {B : S → State → Prop} {BX : String → SX → State → Prop} {AX : Nat → Prop} (hr : vx_Run p l e R s m args below meth c H locs cells slots mc ms (F0 m pc ls st0) rest (va_Qd post B A1 a) (vx_X px BX AX) free) (hS : va_S A0 H0 H locs) (hA : ∀ q, q < H.size → A1 q → A0 q) (hf : ∀ q, free q → A0 q) (hAX : ∀ q, q < H.size → AX q → A0 q)
    (kx : ∀ (E : String) (ce : Cell) (q9 : Addr) (u : SX) (t : State) (H1 : Heap) (locs1 : List Loc), t.heap = H1 → s.vm.Alike t.vm → px u → BX E u t → H.size ≤ H1.size → (∀ q : Nat, q < H.size → ¬ AX q → H1[q]? = H[q]?) → va_S A0 H0 H1 locs1 → H1[q9]? = some ce → ce.vm = .none → s.vm.findClass E = some ce.cls → vx_W p l e R s m args below meth c H1 locs1 (cells + mc) (slots + ms) Q (F0 m pc ls rest) q9)
    (kk : ∀ (r : UInt64) (u : S) (t : State) (H1 : Heap) (locs1 : List Loc), t.heap = H1 → s.vm.Alike t.vm → post r u → B u t → H.size ≤ H1.size → (∀ q : Nat, q < H.size → ¬ A1 q → H1[q]? = H[q]?) → va_S A0 H0 H1 locs1 → W p l e R s m args below meth c H1 locs1 (cells + mc) (slots + ms) Q (F0 m (pc + 3) ls (.double r :: rest))) : W p l e R s m args below meth c H locs cells slots Q (F0 m pc ls st0) := by
  intro T hT X
  rcases hr T hT X with ⟨v, st₀, t, T', L, h0, X', hL, e1, e2, ⟨⟨r, u, hv, hp, hb⟩, hF⟩, st⟩ | ⟨q, st₀, t, T', L, E, ce, h0, X', hL, e1, e2, ⟨u, hp, hb, hF⟩, hce, hcv, hcl, st⟩
  · cases hv
    obtain ⟨k1, k2, k3⟩ := vx_keep h0 e1 hS hA hf hL hF
    obtain ⟨t2, a1, b1⟩ := kk r u t T'.heap (locs ++ L) e1.symm (by rw [← e2]; exact X'.warmed.alike) hp hb k1 k2 k3 T' rfl X'
    exact ⟨t2, st t2 a1, b1⟩
  · obtain ⟨k1, k2, k3⟩ := vx_keep h0 e1 hS hAX hf hL hF
    obtain ⟨t2, a1, b1⟩ := kx E ce q u t T'.heap (locs ++ L) e1.symm (by rw [← e2]; exact X'.warmed.alike) hp hb k1 k2 k3 (by rw [e1]; exact hce) hcv hcl T' rfl X'
    exact ⟨t2, st.trans a1, b1⟩
theorem vx_callv {S SX : Type} {post : S → Prop} {px : SX → Prop} {B : S → State → Prop} {BX : String → SX → State → Prop} {AX : Nat → Prop} (hr : vx_Run p l e R s m args below meth c H locs cells slots mc ms (F0 m pc ls st0) rest (va_Qv post B A1 a) (vx_X px BX AX) free) (hS : va_S A0 H0 H locs) (hA : ∀ q, q < H.size → A1 q → A0 q) (hf : ∀ q, free q → A0 q) (hAX : ∀ q, q < H.size → AX q → A0 q)
    (kx : ∀ (E : String) (ce : Cell) (q9 : Addr) (u : SX) (t : State) (H1 : Heap) (locs1 : List Loc), t.heap = H1 → s.vm.Alike t.vm → px u → BX E u t → H.size ≤ H1.size → (∀ q : Nat, q < H.size → ¬ AX q → H1[q]? = H[q]?) → va_S A0 H0 H1 locs1 → H1[q9]? = some ce → ce.vm = .none → s.vm.findClass E = some ce.cls → vx_W p l e R s m args below meth c H1 locs1 (cells + mc) (slots + ms) Q (F0 m pc ls rest) q9)
    (kk : ∀ (u : S) (t : State) (H1 : Heap) (locs1 : List Loc), t.heap = H1 → s.vm.Alike t.vm → post u → B u t → H.size ≤ H1.size → (∀ q : Nat, q < H.size → ¬ A1 q → H1[q]? = H[q]?) → va_S A0 H0 H1 locs1 → W p l e R s m args below meth c H1 locs1 (cells + mc) (slots + ms) Q (F0 m (pc + 3) ls (rest))) : W p l e R s m args below meth c H locs cells slots Q (F0 m pc ls st0) := by
  intro T hT X
  rcases hr T hT X with ⟨v, st₀, t, T', L, h0, X', hL, e1, e2, ⟨⟨u, hv, hp, hb⟩, hF⟩, st⟩ | ⟨q, st₀, t, T', L, E, ce, h0, X', hL, e1, e2, ⟨u, hp, hb, hF⟩, hce, hcv, hcl, st⟩
  · cases hv
    obtain ⟨k1, k2, k3⟩ := vx_keep h0 e1 hS hA hf hL hF
    obtain ⟨t2, a1, b1⟩ := kk u t T'.heap (locs ++ L) e1.symm (by rw [← e2]; exact X'.warmed.alike) hp hb k1 k2 k3 T' rfl X'
    exact ⟨t2, st t2 a1, b1⟩
  · obtain ⟨k1, k2, k3⟩ := vx_keep h0 e1 hS hAX hf hL hF
    obtain ⟨t2, a1, b1⟩ := kx E ce q u t T'.heap (locs ++ L) e1.symm (by rw [← e2]; exact X'.warmed.alike) hp hb k1 k2 k3 (by rw [e1]; exact hce) hcv hcl T' rfl X'
    exact ⟨t2, st.trans a1, b1⟩
/-- caught by the row x of this method's table; the rows ahead don't take it -/
theorem vx_catch {own name : String} {E : String} {ce : Cell} {q : Addr} (hown : s.vm.findClass own = some m.cls) (pre : List ExceptionTableEntry) (x : ExceptionTableEntry) (suf : List ExceptionTableEntry) (hsplit : c.exceptionTable.toList = pre ++ x :: suf)
    (hpass : ∀ z ∈ pre, covers z pc = false ∨ (z.catchType ≠ 0 ∧ ∃ nm : String, (Cond.classLink own z.catchType nm).before args s = true ∧ va_Nc E nm s)) (hx : covers x pc = true) (h0 : x.catchType ≠ 0)
    (hlink : (Cond.classLink own x.catchType name).before args s = true) (hcast : (Cond.castable E name).before args s = true) (hcell : H[q]? = some ce) (hv : ce.vm = .none) (hcl : s.vm.findClass E = some ce.cls)
    (kk : W p l e R s m args below meth c H locs cells slots Q (F0 m x.handlerPc ls [.ref q])) : vx_W p l e R s m args below meth c H locs cells slots Q (F0 m pc ls rest) q := by
  intro T hT X
  have hpl : e.platform.magicAccessors = ({} : Platform).magicAccessors := by rw [X.admits.platform]
  obtain ⟨c3, c4, hc3, hc4, hasg⟩ := Cond.castable_spec hcast
  cases Option.some.inj (hc3.symm.trans hcl)
  obtain ⟨c5, hc5, hcl5⟩ := Cond.classLink_spec hown hlink e.platform hpl
  cases Option.some.inj (hc4.symm.trans hc5)
  obtain ⟨vm', X', st⟩ := X.thenCaughtThrough q (g := F0 m pc ls rest) rfl (Steps.refl _) (by rw [hT]; exact hcell) (by rw [hv]; rfl) (by obtain ⟨k9, h9, -⟩ := Vm.findClass_spec hcl; exact ⟨k9, h9⟩) pre x suf hsplit
    (fun z hz => by
      rcases hpass z hz with h | ⟨hz0, nm, hl1, hn1⟩
      · exact Or.inl h
      · obtain ⟨c6, hc6, hcl6⟩ := Cond.classLink_spec hown hl1 e.platform hpl
        obtain ⟨a8, b8, h1, h2, h3⟩ := hn1
        cases Option.some.inj (h1.symm.trans hcl)
        cases Option.some.inj (h2.symm.trans hc6)
        exact Or.inr ⟨hz0, _, hcl6, h3⟩) hx (Or.inr ⟨h0, c4, hcl5, hasg⟩)
  obtain ⟨t, a1, b1⟩ := kk (T.setVm vm') hT X'
  exact ⟨t, st.trans a1, b1⟩
end Rows
section Ends
variable {p : Program} {l : Launch} {e : Env} {R : Room} {s : State} {m : MethodId} {args : Array Value} {below : List Frame} {meth : Method} {c : Code} {H : Heap} {locs : List Loc} {cells slots : Nat} {Q : State → Prop}
variable {mc ms : Nat} {free : Addr → Prop} {A0 A1 : Nat → Prop} {H0 : Heap} {a : Array Value} {ls : Array Slot} {st0 rest : List Value}
variable {Qc : Array Value → State → Outcome → State → Prop} {XC : String → State → State → Prop}
/-- what a body that may throw owes at its end -/
def vx_MQ (below : List Frame) (Qc : Array Value → State → Outcome → State → Prop) (XC : String → State → State → Prop) (a : Array Value) (s : State) (mc ms : Nat) (free : Addr → Prop) : State → Prop := fun t =>
  ∃ o, t.status = .running ∧ Ended t below o ∧ vx_Q Qc XC mc ms free a s o t
theorem vx_ret {g : JFrame} {mc ms : Nat} (k : W p l e R s m args below meth c H locs cells slots (MQ below Qc args s mc ms free) g) : W p l e R s m args below meth c H locs cells slots (vx_MQ below Qc XC args s mc ms free) g := by
  intro T hT X
  obtain ⟨t, a1, o, b1, b2, b3, b4⟩ := k T hT X
  exact ⟨t, a1, o, b1, b2, Or.inl ⟨b3, b4⟩⟩
/-- not caught here: it goes on to the caller -/
theorem vx_widen {g : JFrame} {q : Addr} {k n : Nat} (h1 : cells ≤ k) (h2 : slots ≤ n) (kk : vx_W p l e R s m args below meth c H locs k n Q g q) : vx_W p l e R s m args below meth c H locs cells slots Q g q := fun T hT X => kk T hT (stand_widen X h1 h2)
theorem vx_out {pc : Nat} {E : String} {ce : Cell} {q : Addr} {mc ms : Nat} (hout : ∀ x ∈ c.exceptionTable.toList, covers x pc = false) (hlocks : meth.locks = false) (hcell : H[q]? = some ce) (hv : ce.vm = .none) (hcl : s.vm.findClass E = some ce.cls)
    (hx : ∀ t : State, t.heap = H → s.vm.Alike t.vm → XC E s t) (hf : ∀ z ∈ locs, free z.base) (hc : cells ≤ mc) (hs : slots ≤ ms) :
    vx_W p l e R s m args below meth c H locs cells slots (vx_MQ below Qc XC args s mc ms free) (F0 m pc ls rest) q := by
  intro T hT X
  obtain ⟨st1, hrun, hend, hW, hsm⟩ := X.leaveThrown q (g := F0 m pc ls rest) rfl rfl rfl hout hlocks
  have hcell9 : (T.setFrames (.throwing q :: below)).heap[q]? = some ce := by
    show T.heap[q]? = some ce
    rw [hT]; exact hcell
  exact ⟨_, st1, .threw q, hrun, hend, Or.inr ⟨q, rfl, E, ce, locs, hx _ hT hW.alike, hcell9, hv, hcl, hW, hsm.mono hc hs, hf⟩⟩
theorem vx_frame {U : State} {k n : Nat} (h : s.sameButNew ({ U with vm := s.vm } : State) locs k n) : s.heap.size ≤ U.heap.size ∧ ∀ q : Nat, q < s.heap.size → (∀ z ∈ locs, z.base ≠ q) → U.heap[q]? = s.heap[q]? := by
  obtain ⟨-, h2, -, -, -, h6⟩ := h
  refine ⟨h2, fun q hq hz => ?_⟩
  obtain ⟨c9, e1, e2, e3, e4⟩ := h6 q _ (Array.getElem?_eq_getElem hq)
  have hs : c9.slots = (s.heap[q]).slots := Array.ext_getElem? fun i => e4 i fun hm => hz _ hm rfl
  have h9 : c9 = s.heap[q] := by
    rw [hs] at e2
    exact e2
  have e5 : U.heap[q]? = some c9 := e1
  rw [e5, h9, Array.getElem?_eq_getElem hq]
/-- the words of a throw but the four that speak of the heap -/
def vx_no (w : Cond) : Bool := decide (w ≠ .isRef (.static Bundle.tN "UNASSIGNED_STACK" Bundle.steD)) && decide (w ≠ .isRef (.static Bundle.tN "SUPPRESSED_SENTINEL" Bundle.listD)) && decide (w ≠ .laysStatic Bundle.tN "UNASSIGNED_STACK" Bundle.steD) && decide (w ≠ .laysStatic Bundle.tN "SUPPRESSED_SENTINEL" Bundle.listD)
def vx_at0 (own : String) (ic : Nat) (X : String) (names : List String) : List Cond := (Bundle.ownAtoms0 own ic X names).filter vx_no
def vx_atS (own : String) (ic : Nat) (X : String) (names : List String) : List Cond := (Bundle.ownAtoms own ic X names).filter vx_no
/-- a word that the tables alone decide, or a good one -/
def vx_ot (w : Cond) : Bool := w.onTables || goodWord w
theorem vx_ot_at {args a' : Array Value} {s U : State} {w : Cond} (hW : s.WarmedH U.vm) (hvm : s.vm = U.vm) (hg : vx_ot w = true) (h : w.before args s = true) : w.before a' U = true := by
  simp only [vx_ot, Bool.or_eq_true] at hg
  rcases hg with hg | hg
  · exact va_tabs hg hvm h
  · exact word_at hW (good_of_word hg) h
/-- a list's words: the good ones out of the method's own list, the others by premises of their own -/
theorem vx_hat {args : Array Value} {s : State} {L B : List Cond} (h1 : ∀ w ∈ L.filter goodWord, w.before args s = true) (h2 : ∀ w ∈ L.filter (fun w => !goodWord w), w ∈ B) (h3 : ∀ w ∈ B, w.before args s = true) : ∀ w ∈ L, w.before args s = true := by
  intro w hw
  by_cases g : goodWord w = true
  · exact h1 w (List.mem_filter.mpr ⟨hw, g⟩)
  · refine h3 w (h2 w (List.mem_filter.mpr ⟨hw, ?_⟩))
    show (!goodWord w) = true
    cases hgw : goodWord w
    · rfl
    · exact absurd hgw g
theorem vx_c {args : Array Value} {s : State} {w : Cond} {B : List Cond} (h : w.before args s = true) (t : ∀ w ∈ B, w.before args s = true) : ∀ w' ∈ w :: B, w'.before args s = true := fun w' h' => (List.mem_cons.mp h').elim (fun e => by rw [e]; exact h) (t w')
theorem vx_n {args : Array Value} {s : State} : ∀ w ∈ ([] : List Cond), w.before args s = true := fun _ h => nomatch h
theorem vx_own {args : Array Value} {s : State} {L : List Cond} (h1 : ∀ w ∈ L.filter vx_no, w.before args s = true)
    (hU : (Cond.isRef (.static Bundle.tN "UNASSIGNED_STACK" Bundle.steD)).before args s = true) (hN : (Cond.isRef (.static Bundle.tN "SUPPRESSED_SENTINEL" Bundle.listD)).before args s = true)
    (lU : (Cond.laysStatic Bundle.tN "UNASSIGNED_STACK" Bundle.steD).before args s = true) (lN : (Cond.laysStatic Bundle.tN "SUPPRESSED_SENTINEL" Bundle.listD).before args s = true) : ∀ w ∈ L, w.before args s = true := by
  intro w hw
  by_cases e1 : w = .isRef (.static Bundle.tN "UNASSIGNED_STACK" Bundle.steD)
  · rw [e1]; exact hU
  · by_cases e2 : w = .isRef (.static Bundle.tN "SUPPRESSED_SENTINEL" Bundle.listD)
    · rw [e2]; exact hN
    · by_cases e3 : w = .laysStatic Bundle.tN "UNASSIGNED_STACK" Bundle.steD
      · rw [e3]; exact lU
      · by_cases e4 : w = .laysStatic Bundle.tN "SUPPRESSED_SENTINEL" Bundle.listD
        · rw [e4]; exact lN
        · exact h1 w (List.mem_filter.mpr ⟨hw, by unfold vx_no; rw [decide_eq_true e1, decide_eq_true e2, decide_eq_true e3, decide_eq_true e4]; rfl⟩)
/-- where a static field lies, its class's statics cell in H -/
def vx_L (C n d : String) (A : Nat → Prop) (U : State) (H : Heap) : Prop := ∃ (c : ClassId) (k : Class) (i : Nat) (f : Field) (a : Nat) (cell : Cell), U.vm.findClass C = some c ∧ U.fieldFound? C n d = some (c, k, i, f) ∧ f.isStatic = true ∧ k.statics = some a ∧ H[a]? = some cell ∧ cell.vm.isStatics = true ∧ cell.cls = c ∧ f.slot < cell.slots.size ∧ k.staticTypes[f.slot]? = some f.type ∧ ¬ A a
theorem vx_L.moved {C n d : String} {A : Nat → Prop} {u U : State} {H : Heap} (hvm : u.vm.Alike U.vm) (h : vx_L C n d A u H) : vx_L C n d A U H := by
  obtain ⟨c, k, i, f, a, cell, h1, h2, h3, h4, h5, h6, h7, h8, h9, h10⟩ := h
  obtain ⟨k', hi', he⟩ := State.fieldFound?_setVm hvm h2
  exact ⟨c, k', i, f, a, cell, by rw [hvm.findClass]; exact h1, hi', h3, by rw [he]; exact h4, h5, h6, h7, h8, by rw [he]; exact h9, h10⟩
theorem vx_L.kept {C n d : String} {A : Nat → Prop} {U : State} {H H1 : Heap} (h : vx_L C n d A U H) (hq : ∀ a : Nat, a < H.size → ¬ A a → H1[a]? = H[a]?) : vx_L C n d A U H1 := by
  obtain ⟨c, k, i, f, a, cell, h1, h2, h3, h4, h5, h6, h7, h8, h9, h10⟩ := h
  exact ⟨c, k, i, f, a, cell, h1, h2, h3, h4, by rw [hq a (Array.getElem?_eq_some_iff.mp h5).1 h10]; exact h5, h6, h7, h8, h9, h10⟩
theorem vx_L.narrow {C n d : String} {A B : Nat → Prop} {U : State} {H : Heap} (h : vx_L C n d A U H) (hAB : ∀ q, B q → A q) : vx_L C n d B U H := by
  obtain ⟨c, k, i, f, a, cell, h1, h2, h3, h4, h5, h6, h7, h8, h9, h10⟩ := h
  exact ⟨c, k, i, f, a, cell, h1, h2, h3, h4, h5, h6, h7, h8, h9, fun z => h10 (hAB _ z)⟩
theorem vx_L.word {C n d : String} {A : Nat → Prop} {s : State} {args : Array Value} (h : vx_L C n d A s s.heap) : (Cond.laysStatic C n d).before args s = true := by
  obtain ⟨c, k, i, f, a, cell, h1, h2, h3, h4, h5, h6, h7, h8, h9, -⟩ := h
  show (Cond.laysStatic C n d).holds args s none s [] = true
  exact Cond.laysStatic_of h1 h2 h3 h4 h5 h6 h7 h8 h9
/-- .. and what it holds: null or some reference -/
def vx_Zq (C n d : String) (A : Nat → Prop) (U : State) (H : Heap) : Prop := va_Zq C n d A U H ∧ vx_L C n d A U H
theorem vx_Zq.moved {C n d : String} {A : Nat → Prop} {u U : State} {H : Heap} (hvm : u.vm.Alike U.vm) (h : vx_Zq C n d A u H) : vx_Zq C n d A U H := ⟨va_Zq.moved hvm h.1, vx_L.moved hvm h.2⟩
theorem vx_Zq.kept {C n d : String} {A : Nat → Prop} {U : State} {H H1 : Heap} (h : vx_Zq C n d A U H) (hq : ∀ a : Nat, a < H.size → ¬ A a → H1[a]? = H[a]?) : vx_Zq C n d A U H1 := ⟨va_Zq.kept h.1 hq, vx_L.kept h.2 hq⟩
theorem vx_Zq.narrow {C n d : String} {A B : Nat → Prop} {U : State} {H : Heap} (h : vx_Zq C n d A U H) (hAB : ∀ q, B q → A q) : vx_Zq C n d B U H := ⟨va_Zq.narrow h.1 hAB, vx_L.narrow h.2 hAB⟩
theorem vx_Zqof {args : Array Value} {s : State} {C n d : String} {A : Nat → Prop} (hl : (Cond.laysStatic C n d).before args s = true) (hini : (Cond.initialized C).before args s = true) (h : (Cond.isRef (.static C n d)).before args s = true) (hA : ∀ a : Nat, a < s.heap.size → ¬ A a) : vx_Zq C n d A s s.heap := by
  refine ⟨va_Zqof hl hini h hA, ?_⟩
  obtain ⟨c, k, i, f, a, cell, h1, h2, h3, h4, h5, h6, h7, h8, h9⟩ := Cond.laysStatic_spec hl
  exact ⟨c, k, i, f, a, cell, h1, h2, h3, h4, h5, h6, h7, h8, h9, hA a (Array.getElem?_eq_some_iff.mp h5).1⟩
theorem vx_isRef {C n d : String} {v : Value} {A : Nat → Prop} {s : State} {args : Array Value} (h : va_Z C n d v A s s.heap) (hv : v.isRef = true) : (Cond.isRef (.static C n d)).before args s = true := by
  obtain ⟨cf, kf, fi, f, a, cell, h1, h2, h3, h4, h5, h6, h7, -⟩ := h
  have he : (Term.static C n d).eval args s none [] s = some v := by
    simp [Term.eval, State.fieldNamed?, h1, h2, h4, h5, h6, h7]
  simp only [Cond.before, Cond.holds, Cond.value, he]
  cases v <;> simp_all [Value.isRef]
theorem vx_isRefq {C n d : String} {A : Nat → Prop} {s : State} {args : Array Value} (h : va_Zq C n d A s s.heap) : (Cond.isRef (.static C n d)).before args s = true := by
  rcases h with h | ⟨t, h⟩
  · exact vx_isRef h rfl
  · exact vx_isRef h rfl
/-- the same frame, seen from here: as if the method were called anew in this heap -/
theorem vx_rebase {T : State} (X : Stand p l e R s m args below meth c T locs cells slots) {R' : Room} (hf : R'.frames ≤ R.frames) (hl : R'.locals ≤ R.locals) (hc : cells + R'.cells ≤ R.cells) (hs : slots + R'.slots ≤ R.slots) :
    Stand p l e R' ((T.setVm s.vm).setFrames (.invoking m args :: below)) m args below meth c T [] 0 0 := by
  have htop : (T.setVm s.vm).topJava?.isSome := X.here.top
  have hF : ((T.setVm s.vm).setFrames (.invoking m args :: below)).frames = .invoking m args :: below := State.frames_setFrames _ (State.cur_lt_of_top htop)
  obtain ⟨g₀, hg0⟩ := Option.isSome_iff_exists.mp htop
  obtain ⟨r, hr⟩ := State.topJava?_eq_some.mp hg0
  have hl9 : e.platform.stackLimits (T.setVm s.vm).me = e.platform.stackLimits s.me := X.limits
  have hb9 : (T.setVm s.vm).me.stackBytes = s.me.stackBytes := X.bytes
  refine ⟨X.admits, X.cas, X.clock, hF, ?_, X.hears, X.method, X.code, X.here, X.tail, X.warmed, ?_, ?_, ?_⟩
  · have h := X.room
    have hU : ((T.setVm s.vm).setFrames (.invoking m args :: below)).localsInUse = s.localsInUse := by
      rw [State.localsInUse_invoking hF (meth := meth) (c := c) X.method X.code, State.localsInUse_invoking X.frames X.method X.code]
    simp only [State.hasRoom, Bool.and_eq_true, decide_eq_true_eq] at h ⊢
    obtain ⟨⟨⟨⟨h1, h2, h3, h4, h5, h6⟩, h7⟩, h8⟩, h9⟩ := h
    rw [X.frames, List.length_cons] at h2 h3
    have q1 := X.heapSize
    have q2 := X.used
    simp only [hF, hU, List.length_cons, State.stackLimits_setFrames, State.stackBytes_setFrames, hl9, hb9]
    refine ⟨⟨⟨⟨by omega, by omega, by omega, by omega, by omega, h6⟩, ?_⟩, ?_⟩, X.book⟩
    · show T.heap.size + R'.cells ≤ e.platform.maxCells
      omega
    · show T.slotsUsed + R'.slots ≤ e.platform.maxSlots
      omega
  · rw [State.stackLimits_setFrames]; rfl
  · rw [State.stackBytes_setFrames]; rfl
  · refine ⟨?_, Nat.le_refl _, Nat.le_refl _, ?_, ?_, fun a c9 h9 => ⟨c9, h9, rfl, rfl, fun _ _ => rfl⟩⟩
    · obtain ⟨t, ht, -⟩ := State.frames_cons hr
      show T.setVm s.vm = { ((T.setVm s.vm).setFrames (.invoking m args :: below)).setFrames (T.setVm s.vm).frames with heap := T.heap, slotsUsed := T.slotsUsed }
      rw [State.setFrames_setFrames, State.setFrames_self ht]
      rfl
    · show T.slotsUsed = T.slotsUsed + ((T.heap.toList.drop T.heap.size).map (·.slots.size)).sum
      rw [List.drop_eq_nil_of_le (Nat.le_of_eq Array.length_toList)]
      rfl
    · show ((T.heap.toList.drop T.heap.size).map (·.slots.size)).sum ≤ 0
      rw [List.drop_eq_nil_of_le (Nat.le_of_eq Array.length_toList)]
      exact Nat.le_refl _
/-- 'throw new E()': new; dup; invokespecial; athrow -/
theorem vx_throw0 {cc : ByteArray} {pc : Nat} (hexec : p.tables.exec = Jvm.exec) (hb : c.code = cc) (hl : l.stackTraces = false) {own cls : String} {names : List String} {ik ic mc ms : Nat} {A : Nat → Prop}
    (hown : s.vm.findClass own = some m.cls) (hcls : Bundle.fit cls = true) (hnames : ∀ n ∈ names, Bundle.fit n = true)
    (hk : (Cond.classLink own ik cls).before args s = true) (hini : (Cond.initialized cls).before args s = true) (hat : ∀ w ∈ vx_at0 own ic cls names, w.before args s = true)
    (hgood : ∀ w ∈ Cond.classLink own ik cls :: Cond.initialized cls :: vx_at0 own ic cls names, vx_ot w = true)
    (hU : vx_Zq Bundle.tN "UNASSIGNED_STACK" Bundle.steD A s s.heap) (hN : vx_Zq Bundle.tN "SUPPRESSED_SENTINEL" Bundle.listD A s s.heap) (hS : va_S A s.heap H locs) (hsize : ls.size = c.maxLocals)
    (d0 : decode cc pc = .ok (.new ik, 3)) (d3 : decode cc (pc + 3) = .ok (.dup, 1)) (d4 : decode cc (pc + 4) = .ok (.invokespecial ic, 3)) (d7 : decode cc (pc + 7) = .ok (.athrow, 1))
    (hout : ∀ x ∈ c.exceptionTable.toList, covers x (pc + 7) = false)
    (hRframes : names.length + 3 < R.frames) (hRlocals : (rest.map fun v => v.category).sum + (13 * (names.length + 1) + 42) ≤ R.locals) (hRcells : cells + 1 ≤ R.cells) (hRslots : slots + 6 ≤ R.slots) (hlocks : meth.locks = false)
    (hx : ∀ t : State, s.vm.Alike t.vm → H.size ≤ t.heap.size → (∀ q : Nat, q < H.size → t.heap[q]? = H[q]?) → XC cls s t)
    (hf : ∀ z ∈ locs, free z.base) (hc : cells + 1 ≤ mc) (hs : slots + 6 ≤ ms) :
    W p l e R s m args below meth c H locs cells slots (vx_MQ below Qc XC args s mc ms free) (F0 m pc ls rest) := by
  intro T hT X
  have htr : e.platform.stackTraces = false := (show e.platform.stackTraces = l.stackTraces by rw [X.admits.platform]).trans hl
  have Y := vx_rebase X (R' := { frames := R.frames, locals := R.locals, cells := 1, slots := 6 }) (Nat.le_refl _) (Nat.le_refl _) hRcells hRslots
  obtain ⟨s', hA⟩ : ∃ z, z = (T.setVm s.vm).setFrames (.invoking m args :: below) := ⟨_, rfl⟩
  rw [← hA] at Y
  have hvm : s'.vm = s.vm := by rw [hA]; rfl
  have hhp : s'.heap = H := by rw [hA]; exact hT
  have hW0 : s.WarmedH s'.vm := by rw [hvm]; exact State.WarmedH.refl s
  have hat' : ∀ w ∈ vx_at0 own ic cls names, w.before args s' = true := fun w hw => vx_ot_at hW0 hvm.symm (hgood w (List.mem_cons_of_mem _ (List.mem_cons_of_mem _ hw))) (hat w hw)
  have hk' : (Cond.classLink own ik cls).before args s' = true := vx_ot_at hW0 hvm.symm (hgood _ List.mem_cons_self) hk
  have hini' : (Cond.initialized cls).before args s' = true := vx_ot_at hW0 hvm.symm (hgood _ (List.mem_cons_of_mem _ List.mem_cons_self)) hini
  have hU' : vx_Zq Bundle.tN "UNASSIGNED_STACK" Bundle.steD A s' s'.heap := by rw [hhp]; exact vx_Zq.moved hW0.alike (hU.kept hS.2.1)
  have hN' : vx_Zq Bundle.tN "SUPPRESSED_SENTINEL" Bundle.listD A s' s'.heap := by rw [hhp]; exact vx_Zq.moved hW0.alike (hN.kept hS.2.1)
  have h : ∀ w ∈ Bundle.ownAtoms0 own ic cls names, w.before args s' = true := vx_own hat' (vx_isRefq hU'.1) (vx_isRefq hN'.1) hU'.2.word hN'.2.word
  have hown' : s'.vm.findClass own = some m.cls := by rw [hvm]; exact hown
  have hins : (Cond.instantiable cls 6).before args s' = true := h _ (by simp [Bundle.ownAtoms0])
  obtain ⟨vm₁, cX, kX, hfX, hkX, -, -, X₁, st1⟩ := Y.newCold hexec (own := own) (C := cls) (index := ik) (n := 6) hown' hk' hins hini'
    (g := F0 m pc ls rest) rfl (by rw [hb]; exact d0) (Nat.le_refl _) (Nat.le_refl _)
  generalize hT1 : (T.setVm vm₁).pushCell { cls := cX, slots := kX.instanceTypes.map defaultValue, vm := .none } = T1 at X₁ st1
  have hcat : (Value.ref T.heap.size).category = 1 := rfl
  have hcellA : T1.heap[T.heap.size]? = some (freshCell cX kX) := by rw [← hT1]; exact State.heap_pushCell_size _ _
  have d3' : decode c.code (pc + 3) = .ok (.dup, 1) := by rw [hb]; exact d3
  obtain ⟨U, hsteps, hrun, hend, hW, hsame, ce, hce, hO⟩ := X₁.ctorThrow0 hexec htr (own := own) (cls := cls) (names := names) (ic := ic) hown' hcls hnames h (fun x hx => nomatch hx) hfX hkX hcellA (by rw [hhp, hT]; exact Nat.le_refl _)
    (g := { method := m, pc := pc + 4, locals := ls, stack := .ref T.heap.size :: .ref T.heap.size :: rest, locked := none }) rfl hsize rfl rfl (rest := rest) rfl
    (by rw [hb]; exact d4) (by rw [hb]; exact d7) hout hRframes (by simp only [List.map_cons, List.sum_cons, hcat]; omega) hlocks
  obtain ⟨f1, f2⟩ := vx_frame hsame
  rw [hhp] at f1 f2
  have hWs : s.WarmedH U.vm := State.WarmedH.trans hW0 hW
  have hcl : s.vm.findClass cls = some ce.cls := by
    have h9 := hO.cls
    rw [hvm] at h9
    exact h9
  have hall : s.sameButNew ({ U with vm := s.vm } : State) locs mc ms := by
    subst hA
    obtain ⟨e1, e2⟩ := hsame
    rw [State.setFrames_setFrames] at e1
    have h2 : (T.setVm s.vm).sameButNew ({ U with vm := s.vm } : State) [] (0 + 1) (0 + 6) := ⟨e1, e2⟩
    have h3 := X.same.trans h2
    rw [List.append_nil] at h3
    exact h3.mono hc hs
  refine ⟨U, ?_, .threw T.heap.size, hrun, hend, Or.inr ⟨T.heap.size, rfl, cls, ce, locs, hx U hWs.alike f1 (fun q hq => f2 q hq (fun z hz => nomatch hz)), hce, hO.vm, hcl, hWs, hall, hf⟩⟩
  refine st1 _ ?_
  show Steps p.tables e below (T1.setTop { method := m, pc := pc + 3, locals := ls, stack := .ref T.heap.size :: rest, locked := none }) _
  jvm_step X₁.here [X₁.here.top, hexec, d3', Value.category]
  exact hsteps
/-- 'throw new E("text")': new; dup; ldc; invokespecial; athrow -/
theorem vx_throwS {cc : ByteArray} {pc : Nat} (hexec : p.tables.exec = Jvm.exec) (hb : c.code = cc) (hl : l.stackTraces = false) {own cls text : String} {names : List String} {ik is ic mc ms sa : Nat} {A : Nat → Prop}
    (hown : s.vm.findClass own = some m.cls) (hcls : Bundle.fit cls = true) (hnames : ∀ n ∈ names, Bundle.fit n = true)
    (hk : (Cond.classLink own ik cls).before args s = true) (hini : (Cond.initialized cls).before args s = true) (hstr : vk_R own is text sa s) (hat : ∀ w ∈ vx_atS own ic cls names, w.before args s = true)
    (hgood : ∀ w ∈ Cond.classLink own ik cls :: Cond.initialized cls :: vx_atS own ic cls names, vx_ot w = true)
    (hU : vx_Zq Bundle.tN "UNASSIGNED_STACK" Bundle.steD A s s.heap) (hN : vx_Zq Bundle.tN "SUPPRESSED_SENTINEL" Bundle.listD A s s.heap) (hS : va_S A s.heap H locs) (hsize : ls.size = c.maxLocals)
    (d0 : decode cc pc = .ok (.new ik, 3)) (d3 : decode cc (pc + 3) = .ok (.dup, 1)) (d4 : decode cc (pc + 4) = .ok (.ldc is, 2)) (d6 : decode cc (pc + 6) = .ok (.invokespecial ic, 3)) (d9 : decode cc (pc + 9) = .ok (.athrow, 1))
    (hout : ∀ x ∈ c.exceptionTable.toList, covers x (pc + 9) = false)
    (hRframes : names.length + 3 < R.frames) (hRlocals : (rest.map fun v => v.category).sum + (13 * (names.length + 1) + 43) ≤ R.locals) (hRcells : cells + 1 ≤ R.cells) (hRslots : slots + 6 ≤ R.slots) (hlocks : meth.locks = false)
    (hx : ∀ t : State, s.vm.Alike t.vm → H.size ≤ t.heap.size → (∀ q : Nat, q < H.size → t.heap[q]? = H[q]?) → XC cls s t)
    (hf : ∀ z ∈ locs, free z.base) (hc : cells + 1 ≤ mc) (hs : slots + 6 ≤ ms) :
    W p l e R s m args below meth c H locs cells slots (vx_MQ below Qc XC args s mc ms free) (F0 m pc ls rest) := by
  intro T hT X
  have htr : e.platform.stackTraces = false := (show e.platform.stackTraces = l.stackTraces by rw [X.admits.platform]).trans hl
  have Y := vx_rebase X (R' := { frames := R.frames, locals := R.locals, cells := 1, slots := 6 }) (Nat.le_refl _) (Nat.le_refl _) hRcells hRslots
  obtain ⟨s', hA⟩ : ∃ z, z = (T.setVm s.vm).setFrames (.invoking m args :: below) := ⟨_, rfl⟩
  rw [← hA] at Y
  have hvm : s'.vm = s.vm := by rw [hA]; rfl
  have hhp : s'.heap = H := by rw [hA]; exact hT
  have hW0 : s.WarmedH s'.vm := by rw [hvm]; exact State.WarmedH.refl s
  have hat' : ∀ w ∈ vx_atS own ic cls names, w.before args s' = true := fun w hw => vx_ot_at hW0 hvm.symm (hgood w (List.mem_cons_of_mem _ (List.mem_cons_of_mem _ hw))) (hat w hw)
  have hk' : (Cond.classLink own ik cls).before args s' = true := vx_ot_at hW0 hvm.symm (hgood _ List.mem_cons_self) hk
  have hini' : (Cond.initialized cls).before args s' = true := vx_ot_at hW0 hvm.symm (hgood _ (List.mem_cons_of_mem _ List.mem_cons_self)) hini
  have hU' : vx_Zq Bundle.tN "UNASSIGNED_STACK" Bundle.steD A s' s'.heap := by rw [hhp]; exact vx_Zq.moved hW0.alike (hU.kept hS.2.1)
  have hN' : vx_Zq Bundle.tN "SUPPRESSED_SENTINEL" Bundle.listD A s' s'.heap := by rw [hhp]; exact vx_Zq.moved hW0.alike (hN.kept hS.2.1)
  have h : ∀ w ∈ Bundle.ownAtoms own ic cls names, w.before args s' = true := vx_own hat' (vx_isRefq hU'.1) (vx_isRefq hN'.1) hU'.2.word hN'.2.word
  have hown' : s'.vm.findClass own = some m.cls := by rw [hvm]; exact hown
  have hins : (Cond.instantiable cls 6).before args s' = true := h _ (by simp [Bundle.ownAtoms])
  obtain ⟨vm₁, cX, kX, hfX, hkX, -, -, X₁, st1⟩ := Y.newCold hexec (own := own) (C := cls) (index := ik) (n := 6) hown' hk' hins hini'
    (g := F0 m pc ls rest) rfl (by rw [hb]; exact d0) (Nat.le_refl _) (Nat.le_refl _)
  generalize hT1 : (T.setVm vm₁).pushCell { cls := cX, slots := kX.instanceTypes.map defaultValue, vm := .none } = T1 at X₁ st1
  have hcat : (Value.ref T.heap.size).category = 1 := rfl
  have hcellA : T1.heap[T.heap.size]? = some (freshCell cX kX) := by rw [← hT1]; exact State.heap_pushCell_size _ _
  have d3' : decode c.code (pc + 3) = .ok (.dup, 1) := by rw [hb]; exact d3
  have d4' : decode c.code (pc + 4) = .ok (.ldc is, 2) := by rw [hb]; exact d4
  have hstr' : vk_R own is text sa s' := vk_R.warm hW0 hstr
  obtain ⟨U, hsteps, hrun, hend, hW, hsame, ce, hce, hO⟩ := X₁.ctorThrowS hexec htr (own := own) (cls := cls) (names := names) (ic := ic) hown' hcls hnames h (fun x hx => nomatch hx) hfX hkX hcellA (by rw [hhp, hT]; exact Nat.le_refl _) (msg := .ref sa) rfl
    (g := { method := m, pc := pc + 6, locals := ls, stack := .ref sa :: .ref T.heap.size :: .ref T.heap.size :: rest, locked := none }) rfl hsize rfl rfl (rest := rest) rfl
    (by rw [hb]; exact d6) (by rw [hb]; exact d9) hout hRframes (by simp only [List.map_cons, List.sum_cons, hcat]; omega) hlocks
  obtain ⟨f1, f2⟩ := vx_frame hsame
  rw [hhp] at f1 f2
  have hWs : s.WarmedH U.vm := State.WarmedH.trans hW0 hW
  have hcl : s.vm.findClass cls = some ce.cls := by
    have h9 := hO.cls
    rw [hvm] at h9
    exact h9
  have hall : s.sameButNew ({ U with vm := s.vm } : State) locs mc ms := by
    subst hA
    obtain ⟨e1, e2⟩ := hsame
    rw [State.setFrames_setFrames] at e1
    have h2 : (T.setVm s.vm).sameButNew ({ U with vm := s.vm } : State) [] (0 + 1) (0 + 6) := ⟨e1, e2⟩
    have h3 := X.same.trans h2
    rw [List.append_nil] at h3
    exact h3.mono hc hs
  refine ⟨U, ?_, .threw T.heap.size, hrun, hend, Or.inr ⟨T.heap.size, rfl, cls, ce, locs, hx U hWs.alike f1 (fun q hq => f2 q hq (fun z hz => nomatch hz)), hce, hO.vm, hcl, hWs, hall, hf⟩⟩
  refine st1 _ ?_
  show Steps p.tables e below (T1.setTop { method := m, pc := pc + 3, locals := ls, stack := .ref T.heap.size :: rest, locked := none }) _
  jvm_step X₁.here [X₁.here.top, hexec, d3', Value.category]
  exact X₁.ldcString hexec (own := own) (text := text) (index := is) (a := sa) hown' hstr'.1 hstr'.2
    (g := { method := m, pc := pc + 4, locals := ls, stack := .ref T.heap.size :: .ref T.heap.size :: rest, locked := none }) rfl d4' _ hsteps
/-- 'throw new E("text")', the text by a wide index -/
theorem vx_throwSW {cc : ByteArray} {pc : Nat} (hexec : p.tables.exec = Jvm.exec) (hb : c.code = cc) (hl : l.stackTraces = false) {own cls text : String} {names : List String} {ik is ic mc ms sa : Nat} {A : Nat → Prop}
    (hown : s.vm.findClass own = some m.cls) (hcls : Bundle.fit cls = true) (hnames : ∀ n ∈ names, Bundle.fit n = true)
    (hk : (Cond.classLink own ik cls).before args s = true) (hini : (Cond.initialized cls).before args s = true) (hstr : vk_R own is text sa s) (hat : ∀ w ∈ vx_atS own ic cls names, w.before args s = true)
    (hgood : ∀ w ∈ Cond.classLink own ik cls :: Cond.initialized cls :: vx_atS own ic cls names, vx_ot w = true)
    (hU : vx_Zq Bundle.tN "UNASSIGNED_STACK" Bundle.steD A s s.heap) (hN : vx_Zq Bundle.tN "SUPPRESSED_SENTINEL" Bundle.listD A s s.heap) (hS : va_S A s.heap H locs) (hsize : ls.size = c.maxLocals)
    (d0 : decode cc pc = .ok (.new ik, 3)) (d3 : decode cc (pc + 3) = .ok (.dup, 1)) (d4 : decode cc (pc + 4) = .ok (.ldc_w is, 3)) (d7 : decode cc (pc + 7) = .ok (.invokespecial ic, 3)) (d10 : decode cc (pc + 10) = .ok (.athrow, 1))
    (hout : ∀ x ∈ c.exceptionTable.toList, covers x (pc + 10) = false)
    (hRframes : names.length + 3 < R.frames) (hRlocals : (rest.map fun v => v.category).sum + (13 * (names.length + 1) + 43) ≤ R.locals) (hRcells : cells + 1 ≤ R.cells) (hRslots : slots + 6 ≤ R.slots) (hlocks : meth.locks = false)
    (hx : ∀ t : State, s.vm.Alike t.vm → H.size ≤ t.heap.size → (∀ q : Nat, q < H.size → t.heap[q]? = H[q]?) → XC cls s t)
    (hf : ∀ z ∈ locs, free z.base) (hc : cells + 1 ≤ mc) (hs : slots + 6 ≤ ms) :
    W p l e R s m args below meth c H locs cells slots (vx_MQ below Qc XC args s mc ms free) (F0 m pc ls rest) := by
  intro T hT X
  have htr : e.platform.stackTraces = false := (show e.platform.stackTraces = l.stackTraces by rw [X.admits.platform]).trans hl
  have Y := vx_rebase X (R' := { frames := R.frames, locals := R.locals, cells := 1, slots := 6 }) (Nat.le_refl _) (Nat.le_refl _) hRcells hRslots
  obtain ⟨s', hA⟩ : ∃ z, z = (T.setVm s.vm).setFrames (.invoking m args :: below) := ⟨_, rfl⟩
  rw [← hA] at Y
  have hvm : s'.vm = s.vm := by rw [hA]; rfl
  have hhp : s'.heap = H := by rw [hA]; exact hT
  have hW0 : s.WarmedH s'.vm := by rw [hvm]; exact State.WarmedH.refl s
  have hat' : ∀ w ∈ vx_atS own ic cls names, w.before args s' = true := fun w hw => vx_ot_at hW0 hvm.symm (hgood w (List.mem_cons_of_mem _ (List.mem_cons_of_mem _ hw))) (hat w hw)
  have hk' : (Cond.classLink own ik cls).before args s' = true := vx_ot_at hW0 hvm.symm (hgood _ List.mem_cons_self) hk
  have hini' : (Cond.initialized cls).before args s' = true := vx_ot_at hW0 hvm.symm (hgood _ (List.mem_cons_of_mem _ List.mem_cons_self)) hini
  have hU' : vx_Zq Bundle.tN "UNASSIGNED_STACK" Bundle.steD A s' s'.heap := by rw [hhp]; exact vx_Zq.moved hW0.alike (hU.kept hS.2.1)
  have hN' : vx_Zq Bundle.tN "SUPPRESSED_SENTINEL" Bundle.listD A s' s'.heap := by rw [hhp]; exact vx_Zq.moved hW0.alike (hN.kept hS.2.1)
  have h : ∀ w ∈ Bundle.ownAtoms own ic cls names, w.before args s' = true := vx_own hat' (vx_isRefq hU'.1) (vx_isRefq hN'.1) hU'.2.word hN'.2.word
  have hown' : s'.vm.findClass own = some m.cls := by rw [hvm]; exact hown
  have hins : (Cond.instantiable cls 6).before args s' = true := h _ (by simp [Bundle.ownAtoms])
  obtain ⟨vm₁, cX, kX, hfX, hkX, -, -, X₁, st1⟩ := Y.newCold hexec (own := own) (C := cls) (index := ik) (n := 6) hown' hk' hins hini'
    (g := F0 m pc ls rest) rfl (by rw [hb]; exact d0) (Nat.le_refl _) (Nat.le_refl _)
  generalize hT1 : (T.setVm vm₁).pushCell { cls := cX, slots := kX.instanceTypes.map defaultValue, vm := .none } = T1 at X₁ st1
  have hcat : (Value.ref T.heap.size).category = 1 := rfl
  have hcellA : T1.heap[T.heap.size]? = some (freshCell cX kX) := by rw [← hT1]; exact State.heap_pushCell_size _ _
  have d3' : decode c.code (pc + 3) = .ok (.dup, 1) := by rw [hb]; exact d3
  have d4' : decode c.code (pc + 4) = .ok (.ldc_w is, 3) := by rw [hb]; exact d4
  have hstr' : vk_R own is text sa s' := vk_R.warm hW0 hstr
  obtain ⟨U, hsteps, hrun, hend, hW, hsame, ce, hce, hO⟩ := X₁.ctorThrowS hexec htr (own := own) (cls := cls) (names := names) (ic := ic) hown' hcls hnames h (fun x hx => nomatch hx) hfX hkX hcellA (by rw [hhp, hT]; exact Nat.le_refl _) (msg := .ref sa) rfl
    (g := { method := m, pc := pc + 7, locals := ls, stack := .ref sa :: .ref T.heap.size :: .ref T.heap.size :: rest, locked := none }) rfl hsize rfl rfl (rest := rest) rfl
    (by rw [hb]; exact d7) (by rw [hb]; exact d10) hout hRframes (by simp only [List.map_cons, List.sum_cons, hcat]; omega) hlocks
  obtain ⟨f1, f2⟩ := vx_frame hsame
  rw [hhp] at f1 f2
  have hWs : s.WarmedH U.vm := State.WarmedH.trans hW0 hW
  have hcl : s.vm.findClass cls = some ce.cls := by
    have h9 := hO.cls
    rw [hvm] at h9
    exact h9
  have hall : s.sameButNew ({ U with vm := s.vm } : State) locs mc ms := by
    subst hA
    obtain ⟨e1, e2⟩ := hsame
    rw [State.setFrames_setFrames] at e1
    have h2 : (T.setVm s.vm).sameButNew ({ U with vm := s.vm } : State) [] (0 + 1) (0 + 6) := ⟨e1, e2⟩
    have h3 := X.same.trans h2
    rw [List.append_nil] at h3
    exact h3.mono hc hs
  refine ⟨U, ?_, .threw T.heap.size, hrun, hend, Or.inr ⟨T.heap.size, rfl, cls, ce, locs, hx U hWs.alike f1 (fun q hq => f2 q hq (fun z hz => nomatch hz)), hce, hO.vm, hcl, hWs, hall, hf⟩⟩
  refine st1 _ ?_
  show Steps p.tables e below (T1.setTop { method := m, pc := pc + 3, locals := ls, stack := .ref T.heap.size :: rest, locked := none }) _
  jvm_step X₁.here [X₁.here.top, hexec, d3', Value.category]
  exact X₁.ldcStringW hexec (own := own) (text := text) (index := is) (a := sa) hown' hstr'.1 hstr'.2
    (g := { method := m, pc := pc + 4, locals := ls, stack := .ref T.heap.size :: .ref T.heap.size :: rest, locked := none }) rfl d4' _ hsteps
end Ends
section Bodies
variable {l : Launch}
theorem vx_ofW {y : MethodName} {ws ws' : List Cond} {rm : Room} {Pc : Array Value → State → Prop} {Qc : Array Value → State → Outcome → State → Prop} {XC : String → State → State → Prop} {mc ms : Nat} {free : Addr → Prop} {cc : ByteArray} {maxL : Nat} {ret : Option FieldType}
    (hy : plainName y.cls = true) (hw : ws = Cond.code y cc maxL ret :: ws')
    (body : ∀ p e s m args below meth c s₁, BodyLoose p l y (headSpec ws rm) cc maxL ret e s m args below meth c s₁ → c.maxLocals = maxL → (∀ x ∈ c.exceptionTable.toList, False) → Pc args s →
      W p l e (headSpec ws rm).room s m args below meth c s.heap [] 0 0 (vx_MQ below Qc XC args s mc ms free) (entryFrame m args maxL)) : vx_Met l y ws rm Pc Qc XC mc ms free := by
  refine MetFree.of_bodyS (code := cc) (maxLocals := maxL) (ret := ret) hy ?_ ?_
  · intro args s m h hn
    obtain ⟨meth, c, h1, h2, h3, h4, h5, h6, -, -⟩ := Cond.code_spec hn (atoms_spec (ws := ws) h _ (by rw [hw]; exact List.mem_cons_self))
    exact ⟨meth, c, h1, h2, h3, h4, h5, h6⟩
  · intro p e s m args below meth c s₁ B hml hP _
    have hh0 : s₁.heap = s.heap := by rw [B.state]; rfl
    have ht : ∀ x ∈ c.exceptionTable.toList, False := by
      obtain ⟨meth9, c9, h1, h2, -, -, -, -, h7, -⟩ := Cond.code_spec B.named (atoms_spec (ws := ws) B.pre _ (by rw [hw]; exact List.mem_cons_self))
      cases Option.some.inj (h1.symm.trans B.method)
      cases Option.some.inj (h2.symm.trans (Stand.of_body B).code)
      intro x hx
      rw [Array.isEmpty_iff.mp h7] at hx
      cases hx
    obtain ⟨t, a1, o, b1, b2, b3⟩ := body p e s m args below meth c s₁ B hml ht hP s₁ hh0 (Stand.of_body B)
    exact ⟨t, o, a1, b1, b2, b3⟩
/-- the table of a body with handlers -/
theorem vx_table {p : Program} {x y : MethodName} {S : Spec} {cc bytes : ByteArray} {maxL maxL' : Nat} {ret ret' : Option FieldType} {e : Env} {s s₁ : State} {m : MethodId} {args : Array Value} {below : List Frame} {meth : Method} {c : Code} {hh : List (Nat × Nat × Nat × Nat)}
    (B : BodyLoose p l y S cc maxL ret e s m args below meth c s₁) (h : (Cond.codeWith y bytes maxL' ret' hh).before args s = true) : c.exceptionTable.toList = tableOf hh := by
  obtain ⟨m9, meth9, c9, hn9, h1, h2, -, -, h6, -⟩ := Cond.codeWith_spec h
  cases Option.some.inj (hn9.symm.trans B.named)
  cases Option.some.inj (h1.symm.trans B.method)
  cases Option.some.inj (h2.symm.trans (Stand.of_body B).code)
  rw [← h6, table_eq]
end Bodies
end VXA
/-! ===== END ===== -/
/-! ===== BEGIN a static call of a method with an exception table ===== -/
section VXS
variable {p : Program} {l : Launch} {e : Env} {R : Room} {s : State} {m : MethodId} {args : Array Value} {below : List Frame} {meth : Method} {c : Code} {T : State} {H : Heap} {locs : List Loc} {cells slots : Nat}
abbrev vx_CSW (R : Room) (s : State) (args : Array Value) (own : String) (index : Nat) (y : MethodName) (bytes : ByteArray) (maxL : Nat) (ret : Option FieldType) (hh : List (Nat × Nat × Nat × Nat)) (ws : List Cond) (rm : Room) (mc ms n : Nat) : Prop :=
  (rm.cells = mc ∧ rm.slots = ms ∧ rm.frames + 1 ≤ R.frames ∧ 8 + (maxL + 11) + rm.locals ≤ R.locals ∧ (∀ w ∈ ws, ∀ (a' : Array Value) (U : State), s.WarmedH U.vm → w.before a' U = true) ∧ Cond.codeWith y bytes maxL ret hh ∈ ws) ∧
  (Cond.codeWith y bytes maxL ret hh).before args s = true ∧ (Cond.initialized y.cls).before args s = true ∧ (y.cls ≠ "java/lang/invoke/MethodHandle" ∧ y.cls ≠ "java/lang/invoke/VarHandle") ∧
  (∀ sig, parseMethodDescriptor y.desc = some sig → n = sig.parameters.length) ∧ (Cond.methodLink own index y).before args s = true ∧ (Cond.static y).before args s = true
theorem vx_cwSW {own : String} {index maxL mc ms : Nat} {y : MethodName} {bytes : ByteArray} {ret : Option FieldType} {hh : List (Nat × Nat × Nat × Nat)} {Ts ws ws' : List Cond} {rm : Room} (n : Nat) (ht : ∀ w ∈ Ts, w.before args s = true) (hT : GoodIn Ts (va_wsS own index y ws)) (hw : ws = Cond.codeWith y bytes maxL ret hh :: ws') (hrc : rm.cells = mc) (hrs : rm.slots = ms)
    (hd : y.cls ≠ "java/lang/invoke/MethodHandle" ∧ y.cls ≠ "java/lang/invoke/VarHandle" ∧ (parseMethodDescriptor y.desc).map (fun d => d.parameters.length) = some n) (hR : rm.frames + 1 ≤ R.frames ∧ 8 + (maxL + 11) + rm.locals ≤ R.locals) :
    vx_CSW R s args own index y bytes maxL ret hh ws rm mc ms n := by
  have ok : ∀ w ∈ va_wsS own index y ws, w.before args s = true := fun w h => ht w (hT w h).1
  have hG : GoodIn Ts ws := fun w h => hT w (by unfold va_wsS; exact List.mem_append_right _ h)
  have hc : Cond.codeWith y bytes maxL ret hh ∈ ws := by rw [hw]; exact List.mem_cons_self
  refine ⟨⟨hrc, hrs, hR.1, hR.2, pay_in ht hG, hc⟩, ht _ (hG _ hc).1, ok _ (by simp [va_wsS]), ⟨hd.1, hd.2.1⟩, fun sig h => ?_, ok _ (by simp [va_wsS]), ok _ (by simp [va_wsS])⟩
  have h2 := hd.2.2
  rw [h] at h2
  exact (Option.some.inj h2).symm
theorem vx_callSW (X : Stand p l e R s m args below meth c T locs cells slots) (hexec : p.tables.exec = Jvm.exec) {own : String} {index : Nat} {y : MethodName} {bytes : ByteArray} {maxL : Nat} {ret : Option FieldType} {hh : List (Nat × Nat × Nat × Nat)}
    (hown : s.vm.findClass own = some m.cls) (hlink : (Cond.methodLink own index y).before args s = true) (hstat : (Cond.static y).before args s = true) (hinit : (Cond.initialized y.cls).before args s = true)
    (hcode : (Cond.codeWith y bytes maxL ret hh).before args s = true) (hy : y.cls ≠ "java/lang/invoke/MethodHandle" ∧ y.cls ≠ "java/lang/invoke/VarHandle")
    {W9 : Nat} {Pre : Pt → Array Value → Prop} {Post : Pt → Array Value → Option Value → Pt → Prop} (hK : Back l R p e below s args y 3 W9 Pre Post)
    {g : JFrame} (hg : g.method = m) (hsize : g.locals.size = c.maxLocals) {argsL rest : List Value} (hlen : ∀ sig, parseMethodDescriptor y.desc = some sig → argsL.length = sig.parameters.length)
    (hstack : g.stack = argsL.reverse ++ rest) (hW : 2 * g.monitorRoom + (rest.map fun v => v.category).sum ≤ W9) (hdg : decode c.code g.pc = .ok (.invokestatic index, 3))
    (hpre : ∀ vm₁, s.WarmedH vm₁ → Pre ⟨T.setVm vm₁, locs, cells, slots⟩ argsL.toArray) :
    ∃ (v : Option Value) (vm₁ : Vm) (B : Pt), s.WarmedH vm₁ ∧ Stand p l e R s m args below meth c B.U B.locs B.cells B.slots ∧ Post ⟨T.setVm vm₁, locs, cells, slots⟩ argsL.toArray v B ∧
      ∀ target, Steps p.tables e below (B.U.setTop { g with pc := g.pc + 3, stack := v.toList ++ rest }) target → Steps p.tables e below (T.setTop g) target := by
  obtain ⟨mk, methM, cM, hnamed, hmethM, -, -, -, -, -, -, hsigM⟩ := Cond.codeWith_spec hcode
  have hstatic : methM.isStatic = true := Cond.static_spec hnamed hmethM hstat
  obtain ⟨kP, hkP, -⟩ := className_of_methodNamed hnamed
  have hinitP : kP.init = .initialized := Cond.initialized_spec (findClass_of_methodNamed hnamed) hkP hinit
  obtain ⟨vm₁, X₁, hstep₁⟩ := X.invokestatic hexec hown hlink hnamed hmethM hstatic hkP hinitP hy (g := g) hg (argsL := argsL) (rest := rest) (hlen _ hsigM) hstack hdg
  obtain ⟨v, B, X', hpost, hsteps⟩ := hK m meth c ⟨T.setVm vm₁, locs, cells, slots⟩ { g with stack := rest } (.invokestatic index) mk argsL.toArray X₁ hg hsize hdg hW (X₁.named hnamed) (hpre vm₁ X₁.warmed)
  exact ⟨v, vm₁, B, X₁.warmed, X', hpost, fun target h => hstep₁ _ fun acts => by rw [doInvoke_state]; exact hsteps.trans h⟩
theorem vx_runSW {y : MethodName} {bytes cc : ByteArray} {maxL nL mc ms n index : Nat} {ret : Option FieldType} {hh : List (Nat × Nat × Nat × Nat)} {ws : List Cond} {rm : Room} {Pc : Array Value → State → Prop} {Qc : Array Value → State → Outcome → State → Prop} {free : Addr → Prop} {Ts : List Cond} {own : String} {As rest : List Value} {g : JFrame}
    (S : CallFix p m c cc nL s args Ts own) (hM : Met l y ws rm Pc Qc mc ms free) (cw : vx_CSW R s args own index y bytes maxL ret hh ws rm mc ms n) (hp : PreS s H Pc As)
    (hg : g.method = m) (hn : As.length = n) (hsize : g.locals.size = nL) (hstack : g.stack = As.reverse ++ rest) (hW : 2 * g.monitorRoom + (rest.map fun v => v.category).sum ≤ 8) (hdg : decode cc g.pc = .ok (.invokestatic index, 3)) (hf : cells + mc ≤ R.cells ∧ slots + ms ≤ R.slots) :
    va_Run p l e R s m args below meth c H locs cells slots mc ms g rest (Qc As.toArray) (free) := by
  obtain ⟨⟨hrc, hrs, hfr, hlo, hws, hcw⟩, hcode, hini, hy, hlen, hl, hstt⟩ := cw
  have hK : Back l R p e below s args y 3 8 (PreOf R mc ms Pc) (PostOf Qc mc ms free) := va_backW (hh := hh) (bytes := bytes) (maxL := maxL) (ret := ret) hM hp.1 hrc hrs hfr hlo hws hcw (fun a' U hW => word_at hW (Or.inl (by first | rfl | simp [Cond.onTables, Cond.keeps, Cond.steady])) hini)
  obtain ⟨hx, hb, hml, ho, -⟩ := S
  intro T hT X
  obtain ⟨v, vm₁, ⟨U', l2, c2, s2⟩, hW₁, X', ⟨g', mk, t, L, e1, e2, hq, h1, hL, h2, h3⟩, st⟩ := vx_callSW X hx (hh := hh) (bytes := bytes) (maxL := maxL) (ret := ret) ho hl hstt hini hcode hy hK hg (hsize.trans hml.symm) (argsL := As) (rest := rest) (fun sig h => hn.trans (hlen sig h)) hstack hW (by rw [hb]; exact hdg)
    (fun vm₁ hW₁ => ⟨hf.1, hf.2, hp.2 (T.setVm vm₁) hT hW₁⟩)
  dsimp only [Pt.U, Pt.locs, Pt.cells, Pt.slots] at X' e1 e2 h1 h2 h3 st
  subst h1; subst h2; subst h3
  exact ⟨v, (T.setVm vm₁).calling g' mk As.toArray, t, U', L, hT, X', hL, e1, e2, hq, st⟩
/-- not caught here, past rows that name other classes: it goes on to the caller -/
theorem vx_outP {p : Program} {l : Launch} {e : Env} {R : Room} {s : State} {m : MethodId} {args : Array Value} {below : List Frame} {meth : Method} {c : Code} {H : Heap} {locs : List Loc} {cells slots : Nat} {free : Addr → Prop} {ls : Array Slot} {rest : List Value} {Qc : Array Value → State → Outcome → State → Prop} {XC : String → State → State → Prop}
    {pc : Nat} {own E : String} {ce : Cell} {q : Addr} {mc ms : Nat} (hown : s.vm.findClass own = some m.cls) (hlocks : meth.locks = false)
    (hpass : ∀ z ∈ c.exceptionTable.toList, covers z pc = false ∨ (z.catchType ≠ 0 ∧ ∃ nm : String, (Cond.classLink own z.catchType nm).before args s = true ∧ va_Nc E nm s)) (hcell : H[q]? = some ce) (hv : ce.vm = .none) (hcl : s.vm.findClass E = some ce.cls)
    (hx : ∀ t : State, t.heap = H → s.vm.Alike t.vm → XC E s t) (hf : ∀ z ∈ locs, free z.base) (hc : cells ≤ mc) (hs : slots ≤ ms) :
    vx_W p l e R s m args below meth c H locs cells slots (vx_MQ below Qc XC args s mc ms free) (F0 m pc ls rest) q := by
  intro T hT X
  have hpl : e.platform.magicAccessors = ({} : Platform).magicAccessors := by rw [X.admits.platform]
  obtain ⟨vm', hW', X', st⟩ := X.outThrough hlocks q (g := F0 m pc ls rest) rfl rfl rfl (cell := ce) (by rw [hT]; exact hcell) (by rw [hv]; rfl)
    (by obtain ⟨k9, h9, -⟩ := Vm.findClass_spec hcl; exact ⟨k9, h9⟩) (fun z hz => by
      rcases hpass z hz with h | ⟨hz0, nm, hl1, hn1⟩
      · exact Or.inl h
      · obtain ⟨c6, hc6, hcl6⟩ := Cond.classLink_spec hown hl1 e.platform hpl
        obtain ⟨a8, b8, h1, h2, h3⟩ := hn1
        cases Option.some.inj (h1.symm.trans hcl)
        cases Option.some.inj (h2.symm.trans hc6)
        exact Or.inr ⟨hz0, _, hcl6, h3⟩)
  obtain ⟨g₀, hfr⟩ := X'.frames_eq
  have hcell9 : ((T.setVm vm').setFrames (.throwing q :: below)).heap[q]? = some ce := by
    show T.heap[q]? = some ce
    rw [hT]; exact hcell
  have hend : Ended ((T.setVm vm').setFrames (.throwing q :: below)) below (.threw q) := State.frames_setFrames _ (State.cur_lt_of_frames hfr)
  refine ⟨(T.setVm vm').setFrames (.throwing q :: below), ?_, .threw q, X'.here.running, hend, Or.inr ⟨q, rfl, E, ce, locs, hx _ hT (X'.ends _).1.alike, hcell9, hv, hcl, (X'.ends _).1, (X'.ends _).2.mono hc hs, hf⟩⟩
  rw [X.pushThrowing_eq]
  exact st
/-- a thing of a world lies in the heap -/
theorem vx_lt {D : va_G} {cl : List vw_C} {ws : va_W} {H1 : Heap} (h : va_P D cl ws H1) {k : Nat} {q : Nat × va_E} (hk : ws[k]? = some q) : q.1 < H1.size := (h k q hk).lt
end VXS
/-! ===== END ===== -/
/-! ===== BEGIN methods with a table of their own: called by a name, returning or throwing ===== -/
section VXH
/-! vx_backW, vx_callVX, vx_callSX, vx_callVW, vx_runVW, vx_runVX, vx_runSX, vx_ofWH follow the same proofs as their sisters above (Free/Laws.lean, Shelf42/LK1.lean); vx_outP calls Shelf42/NT130.lean (outThrough). -/
section
variable {l : Launch} {R : Room} {p : Program} {e : Env} {below : List Frame} {s : State} {sargs : Array Value} {y : MethodName} {len W9 : Nat}
theorem vx_backW {ws : List Cond} {rm : Room} {Pc : Array Value → State → Prop} {Qc : Array Value → State → Outcome → State → Prop} {XC : String → State → State → Prop} {mc ms : Nat} {free : Addr → Prop} {bytes : ByteArray} {maxL : Nat} {ret : Option FieldType} {hh : List (Nat × Nat × Nat × Nat)}
    (hM : vx_Met l y ws rm Pc Qc XC mc ms free) (hblind : FrameBlind Pc) (hrc : rm.cells = mc) (hrs : rm.slots = ms)
    (hframes : rm.frames + 1 ≤ R.frames) (hlocals : W9 + (maxL + 11) + rm.locals ≤ R.locals)
    (hws : ∀ w ∈ ws, ∀ a' U, s.WarmedH U.vm → w.before a' U = true) (hcode : Cond.codeWith y bytes maxL ret hh ∈ ws) (hinit : ∀ a' U, s.WarmedH U.vm → (Cond.initialized y.cls).before a' U = true) :
    vx_Back l R p e below s sargs y len W9 (PreOf R mc ms Pc) (PostOf Qc mc ms free) (vx_Post XC mc ms free) := by
  intro m meth c A g ig mk a X hg hsize hdg hW hn hp
  have h1 : (headSpec ws rm).pre.before a A.U = true := atoms_intro fun w hw => hws w hw _ _ X.warmed
  have h2 : (Cond.codeWith y bytes maxL ret hh).before a A.U = true := hws _ hcode _ _ X.warmed
  have h3 : (Cond.initialized y.cls).before a A.U = true := hinit _ _ X.warmed
  have h4 : A.cells + (headSpec ws rm).room.cells ≤ R.cells := by rw [show (headSpec ws rm).room.cells = mc from hrc]; exact hp.1
  have h5 : A.slots + (headSpec ws rm).room.slots ≤ R.slots := by rw [show (headSpec ws rm).room.slots = ms from hrs]; exact hp.2.1
  have hPc : Pc a (A.U.calling g mk a) := hblind _ _ _ _ hp.2.2
  obtain ⟨U, Ls, c0, s0⟩ := A
  dsimp only [Pt.U, Pt.locs, Pt.cells, Pt.slots] at h1 h2 h3 h4 h5 X hn hPc ⊢
  obtain ⟨m9, methY, cY, hn9, hmY, hcY, -, hlY, -⟩ := Cond.codeWith_spec h2
  cases Option.some.inj (hn9.symm.trans hn)
  obtain ⟨kY, hkY, -⟩ := className_of_methodNamed hn
  have hinitY : kY.init = .initialized := Cond.initialized_spec (findClass_of_methodNamed hn) hkY h3
  have h : At U g.method c below := by rw [hg]; exact X.here
  have hlocals9 : W9 + (maxL + 11) + (headSpec ws rm).room.locals ≤ R.locals := hlocals
  have happ : (headSpec ws rm).appliesLoose y e.platform (U.calling g mk a) = true :=
    Spec.appliesLoose_calling (g := g) h hdg hn hkY hinitY
      (X.room_calling (g := g) (R' := (headSpec ws rm).room) hsize hmY hcY hframes (by rw [hlY]; omega) h4 h5) h1
  obtain ⟨mid, hmid⟩ := h.above
  have hfr : (U.setTop g).frames = (.java g :: mid) ++ below := by rw [State.frames_setTop' g h.top, hmid]; rfl
  obtain ⟨o, s₂, hsteps, -, hend, hq⟩ := Steps.callFree hM p X.admits X.cas X.clock (acts := []) hfr happ hPc trivial
  have hq' : vx_Q Qc XC mc ms free a (U.calling g mk a) o s₂ := hq
  rw [State.frames_setTop' g h.top] at hend
  obtain ⟨g₀, hg0⟩ := Option.isSome_iff_exists.mp h.top
  obtain ⟨r, hr⟩ := State.topJava?_eq_some.mp hg0
  have hr' : (({ U with heap := s₂.heap, slotsUsed := s₂.slotsUsed } : State).setVm s₂.vm).frames = .java g₀ :: r := hr
  rcases hq' with ⟨hqc, L, hfe, hL⟩ | ⟨q, rfl, E, ce, L, hx, hce, hcv, hcl, hW₂, hsm, hL⟩
  · obtain ⟨⟨v, rfl⟩, hW₂, e2, q2, q3, q4, q5, q6⟩ := id hfe
    have e3 : s₂ = ({ (U.calling g mk a).setFrames s₂.frames with heap := s₂.heap, slotsUsed := s₂.slotsUsed } : State).setVm s₂.vm := by
      have : s₂ = ({ s₂ with vm := (U.calling g mk a).vm } : State).setVm s₂.vm := rfl
      rw [e2] at this
      exact this
    obtain ⟨c₂, i₂, len₂, hc₂, hd₂, hf₂⟩ := hend
    have hW' : U.WarmedH s₂.vm := hW₂
    have hcc : c₂ = c := by
      have h1 : s₂.code? g.method = U.code? g.method := by
        rw [State.code?_eq, State.code?_eq, hW'.alike.method?]
      exact Option.some.inj (hc₂.symm.trans (h1.trans h.code))
    subst hcc
    have hlen : len₂ = len := by rw [hdg] at hd₂; cases hd₂; rfl
    subst hlen
    have hs₂ : s₂ = (({ U with heap := s₂.heap, slotsUsed := s₂.slotsUsed } : State).setVm s₂.vm).setTop { g with pc := g.pc + len₂, stack := v.toList ++ g.stack } := by
      refine e3.trans ?_
      rw [hf₂, State.calling_eq h.top, State.setFrames_setFrames, State.setTop_of_frames _ hr', hr]
      rfl
    have hsame : U.sameButNew ({ U with heap := s₂.heap, slotsUsed := s₂.slotsUsed } : State) L mc ms := by
      refine ⟨?_, q2, q3, q4, q5, q6⟩
      obtain ⟨t, ht, -⟩ := State.frames_cons hr
      show ({ U with heap := s₂.heap, slotsUsed := s₂.slotsUsed } : State) = { U.setFrames U.frames with heap := s₂.heap, slotsUsed := s₂.slotsUsed }
      rw [State.setFrames_self ht]
    subst hg
    refine Or.inl ⟨v, ⟨(({ U with heap := s₂.heap, slotsUsed := s₂.slotsUsed } : State).setVm s₂.vm), Ls ++ L, c0 + mc, s0 + ms⟩,
      ⟨X.admits, X.cas, X.clock, X.frames, X.room, X.hears, X.method, X.code, (X.here.setHeapUsed s₂.heap s₂.slotsUsed).setVm hW'.alike, X.tail, State.WarmedH.trans X.warmed hW', X.limits, X.bytes, X.same.trans (hsame.setVm s.vm)⟩,
      ⟨g, mk, s₂, L, rfl, rfl, hqc, rfl, hL, rfl, rfl⟩, ?_⟩
    show Steps p.tables e below _ ((({ U with heap := s₂.heap, slotsUsed := s₂.slotsUsed } : State).setVm s₂.vm).setTop { g with pc := g.pc + len₂, stack := v.toList ++ g.stack })
    rw [← hs₂]
    exact hsteps
  · obtain ⟨e2, q2, q3, q4, q5, q6⟩ := id hsm
    have e3 : s₂ = ({ (U.calling g mk a).setFrames s₂.frames with heap := s₂.heap, slotsUsed := s₂.slotsUsed } : State).setVm s₂.vm := by
      have : s₂ = ({ s₂ with vm := (U.calling g mk a).vm } : State).setVm s₂.vm := rfl
      rw [e2] at this
      exact this
    have hf₂ : s₂.frames = .throwing q :: .java g :: U.frames.tail := hend
    have hW' : U.WarmedH s₂.vm := hW₂
    have hs₂ : s₂ = ((({ U with heap := s₂.heap, slotsUsed := s₂.slotsUsed } : State).setVm s₂.vm).setTop g).pushFrame (.throwing q) := by
      refine e3.trans ?_
      rw [hf₂, State.calling_eq h.top, State.setFrames_setFrames, State.pushFrame, State.frames_setTop _ hr', State.setTop_of_frames _ hr', State.setFrames_setFrames, hr]
      rfl
    have hsame : U.sameButNew ({ U with heap := s₂.heap, slotsUsed := s₂.slotsUsed } : State) L mc ms := by
      refine ⟨?_, q2, q3, q4, q5, q6⟩
      obtain ⟨t, ht, -⟩ := State.frames_cons hr
      show ({ U with heap := s₂.heap, slotsUsed := s₂.slotsUsed } : State) = { U.setFrames U.frames with heap := s₂.heap, slotsUsed := s₂.slotsUsed }
      rw [State.setFrames_self ht]
    subst hg
    refine Or.inr ⟨q, ⟨(({ U with heap := s₂.heap, slotsUsed := s₂.slotsUsed } : State).setVm s₂.vm), Ls ++ L, c0 + mc, s0 + ms⟩,
      ⟨X.admits, X.cas, X.clock, X.frames, X.room, X.hears, X.method, X.code, (X.here.setHeapUsed s₂.heap s₂.slotsUsed).setVm hW'.alike, X.tail, State.WarmedH.trans X.warmed hW', X.limits, X.bytes, X.same.trans (hsame.setVm s.vm)⟩,
      ⟨g, mk, s₂, L, E, ce, rfl, rfl, hx, hce, hcv, hcl, rfl, hL, rfl, rfl⟩, ?_⟩
    show Steps p.tables e below _ (((({ U with heap := s₂.heap, slotsUsed := s₂.slotsUsed } : State).setVm s₂.vm).setTop g).pushFrame (.throwing q))
    rw [← hs₂]
    exact hsteps
end
variable {p : Program} {l : Launch} {e : Env} {R : Room} {s : State} {m : MethodId} {args : Array Value} {below : List Frame} {meth : Method} {c : Code} {T : State} {H : Heap} {locs : List Loc} {cells slots : Nat}
theorem vx_callVX (X : Stand p l e R s m args below meth c T locs cells slots) (hexec : p.tables.exec = Jvm.exec) {own C : String} {index : Nat} {y : MethodName} {bytes : ByteArray} {maxL : Nat} {ret : Option FieldType} {hh : List (Nat × Nat × Nat × Nat)}
    (hown : s.vm.findClass own = some m.cls) (hlink : (Cond.methodLink own index y).before args s = true) (hinst : (Cond.instanceMethod y).before args s = true) (hsel : (Cond.selects C y y).before args s = true)
    (hcode : (Cond.codeWith y bytes maxL ret hh).before args s = true) (hy : y.cls ≠ "java/lang/invoke/MethodHandle" ∧ y.cls ≠ "java/lang/invoke/VarHandle")
    {W9 : Nat} {Pre : Pt → Array Value → Prop} {Post : Pt → Array Value → Option Value → Pt → Prop} {PostX : Pt → Array Value → Addr → Pt → Prop} (hK : vx_Back l R p e below s args y 3 W9 Pre Post PostX)
    {b : Addr} {cellB : Cell} (hcell : T.heap[b]? = some cellB) (hobj : cellB.vm.isStatics = false) (hcls : s.vm.findClass C = some cellB.cls)
    {g : JFrame} (hg : g.method = m) (hsize : g.locals.size = c.maxLocals) {argsL rest : List Value} (hlen : ∀ sig, parseMethodDescriptor y.desc = some sig → argsL.length = sig.parameters.length)
    (hstack : g.stack = argsL.reverse ++ .ref b :: rest) (hW : 2 * g.monitorRoom + (rest.map fun v => v.category).sum ≤ W9) (hdg : decode c.code g.pc = .ok (.invokevirtual index, 3))
    (hpre : ∀ vm₁, s.WarmedH vm₁ → Pre ⟨T.setVm vm₁, locs, cells, slots⟩ (Value.ref b :: argsL).toArray) :
    (∃ (v : Option Value) (vm₁ : Vm) (B : Pt), s.WarmedH vm₁ ∧ Stand p l e R s m args below meth c B.U B.locs B.cells B.slots ∧ Post ⟨T.setVm vm₁, locs, cells, slots⟩ (Value.ref b :: argsL).toArray v B ∧
      ∀ target, Steps p.tables e below (B.U.setTop { g with pc := g.pc + 3, stack := v.toList ++ rest }) target → Steps p.tables e below (T.setTop g) target) ∨
    (∃ (q : Addr) (vm₁ : Vm) (B : Pt), s.WarmedH vm₁ ∧ Stand p l e R s m args below meth c B.U B.locs B.cells B.slots ∧ PostX ⟨T.setVm vm₁, locs, cells, slots⟩ (Value.ref b :: argsL).toArray q B ∧
      Steps p.tables e below (T.setTop g) ((B.U.setTop { g with stack := rest }).pushFrame (.throwing q))) := by
  obtain ⟨mk, methM, hnamed, hmethM, hstM, habM⟩ := Cond.instanceMethod_spec hinst
  obtain ⟨m8, methM', cM, hn8, hmethM', -, -, -, -, -, -, hsigM⟩ := Cond.codeWith_spec hcode
  cases Option.some.inj (hn8.symm.trans hnamed)
  cases hmethM.symm.trans hmethM'
  obtain ⟨c2, r2, m2, q1, q2, q3, q4, kP, hkP, hkPi⟩ := Cond.selects_spec hsel
  cases hcls.symm.trans q1
  cases (State.methodFound?_of_named hnamed hy).symm.trans q2
  cases hnamed.symm.trans q3
  have hselP : selectMethod e.platform s.vm cellB.cls mk = .method mk := by rw [Launch.admits_selectMethod X.admits]; exact q4
  obtain ⟨vm₁, X₁, hstep₁⟩ := X.invokevirtual hexec hown hlink hnamed hmethM hstM hkP hkPi hy (a := b) (cell := cellB) hcell
    (fun z h => by rw [h] at hobj; cases hobj) hselP hmethM habM hkP hkPi (g := g) hg (argsL := argsL) (rest := rest) (hlen _ hsigM) hstack hdg
  rcases hK m meth c ⟨T.setVm vm₁, locs, cells, slots⟩ { g with stack := rest } (.invokevirtual index) mk (Value.ref b :: argsL).toArray X₁ hg hsize hdg hW (X₁.named hnamed) (hpre vm₁ X₁.warmed) with ⟨v, B, X', hpost, hsteps⟩ | ⟨q, B, X', hpost, hsteps⟩
  · exact Or.inl ⟨v, vm₁, B, X₁.warmed, X', hpost, fun target h => hstep₁ _ fun acts => by rw [doInvoke_state]; exact hsteps.trans h⟩
  · exact Or.inr ⟨q, vm₁, B, X₁.warmed, X', hpost, hstep₁ _ fun acts => by rw [doInvoke_state]; exact hsteps⟩
theorem vx_callSX (X : Stand p l e R s m args below meth c T locs cells slots) (hexec : p.tables.exec = Jvm.exec) {own : String} {index : Nat} {y : MethodName} {bytes : ByteArray} {maxL : Nat} {ret : Option FieldType} {hh : List (Nat × Nat × Nat × Nat)}
    (hown : s.vm.findClass own = some m.cls) (hlink : (Cond.methodLink own index y).before args s = true) (hstat : (Cond.static y).before args s = true) (hinit : (Cond.initialized y.cls).before args s = true)
    (hcode : (Cond.codeWith y bytes maxL ret hh).before args s = true) (hy : y.cls ≠ "java/lang/invoke/MethodHandle" ∧ y.cls ≠ "java/lang/invoke/VarHandle")
    {W9 : Nat} {Pre : Pt → Array Value → Prop} {Post : Pt → Array Value → Option Value → Pt → Prop} {PostX : Pt → Array Value → Addr → Pt → Prop} (hK : vx_Back l R p e below s args y 3 W9 Pre Post PostX)
    {g : JFrame} (hg : g.method = m) (hsize : g.locals.size = c.maxLocals) {argsL rest : List Value} (hlen : ∀ sig, parseMethodDescriptor y.desc = some sig → argsL.length = sig.parameters.length)
    (hstack : g.stack = argsL.reverse ++ rest) (hW : 2 * g.monitorRoom + (rest.map fun v => v.category).sum ≤ W9) (hdg : decode c.code g.pc = .ok (.invokestatic index, 3))
    (hpre : ∀ vm₁, s.WarmedH vm₁ → Pre ⟨T.setVm vm₁, locs, cells, slots⟩ argsL.toArray) :
    (∃ (v : Option Value) (vm₁ : Vm) (B : Pt), s.WarmedH vm₁ ∧ Stand p l e R s m args below meth c B.U B.locs B.cells B.slots ∧ Post ⟨T.setVm vm₁, locs, cells, slots⟩ argsL.toArray v B ∧
      ∀ target, Steps p.tables e below (B.U.setTop { g with pc := g.pc + 3, stack := v.toList ++ rest }) target → Steps p.tables e below (T.setTop g) target) ∨
    (∃ (q : Addr) (vm₁ : Vm) (B : Pt), s.WarmedH vm₁ ∧ Stand p l e R s m args below meth c B.U B.locs B.cells B.slots ∧ PostX ⟨T.setVm vm₁, locs, cells, slots⟩ argsL.toArray q B ∧
      Steps p.tables e below (T.setTop g) ((B.U.setTop { g with stack := rest }).pushFrame (.throwing q))) := by
  obtain ⟨mk, methM, cM, hnamed, hmethM, -, -, -, -, -, -, hsigM⟩ := Cond.codeWith_spec hcode
  have hstatic : methM.isStatic = true := Cond.static_spec hnamed hmethM hstat
  obtain ⟨kP, hkP, -⟩ := className_of_methodNamed hnamed
  have hinitP : kP.init = .initialized := Cond.initialized_spec (findClass_of_methodNamed hnamed) hkP hinit
  obtain ⟨vm₁, X₁, hstep₁⟩ := X.invokestatic hexec hown hlink hnamed hmethM hstatic hkP hinitP hy (g := g) hg (argsL := argsL) (rest := rest) (hlen _ hsigM) hstack hdg
  rcases hK m meth c ⟨T.setVm vm₁, locs, cells, slots⟩ { g with stack := rest } (.invokestatic index) mk argsL.toArray X₁ hg hsize hdg hW (X₁.named hnamed) (hpre vm₁ X₁.warmed) with ⟨v, B, X', hpost, hsteps⟩ | ⟨q, B, X', hpost, hsteps⟩
  · exact Or.inl ⟨v, vm₁, B, X₁.warmed, X', hpost, fun target h => hstep₁ _ fun acts => by rw [doInvoke_state]; exact hsteps.trans h⟩
  · exact Or.inr ⟨q, vm₁, B, X₁.warmed, X', hpost, hstep₁ _ fun acts => by rw [doInvoke_state]; exact hsteps⟩
theorem vx_callVW (X : Stand p l e R s m args below meth c T locs cells slots) (hexec : p.tables.exec = Jvm.exec) {own C : String} {index : Nat} {y : MethodName} {bytes : ByteArray} {maxL : Nat} {ret : Option FieldType} {hh : List (Nat × Nat × Nat × Nat)}
    (hown : s.vm.findClass own = some m.cls) (hlink : (Cond.methodLink own index y).before args s = true) (hinst : (Cond.instanceMethod y).before args s = true) (hsel : (Cond.selects C y y).before args s = true)
    (hcode : (Cond.codeWith y bytes maxL ret hh).before args s = true) (hy : y.cls ≠ "java/lang/invoke/MethodHandle" ∧ y.cls ≠ "java/lang/invoke/VarHandle")
    {W9 : Nat} {Pre : Pt → Array Value → Prop} {Post : Pt → Array Value → Option Value → Pt → Prop} (hK : Back l R p e below s args y 3 W9 Pre Post)
    {b : Addr} {cellB : Cell} (hcell : T.heap[b]? = some cellB) (hobj : cellB.vm.isStatics = false) (hcls : s.vm.findClass C = some cellB.cls)
    {g : JFrame} (hg : g.method = m) (hsize : g.locals.size = c.maxLocals) {argsL rest : List Value} (hlen : ∀ sig, parseMethodDescriptor y.desc = some sig → argsL.length = sig.parameters.length)
    (hstack : g.stack = argsL.reverse ++ .ref b :: rest) (hW : 2 * g.monitorRoom + (rest.map fun v => v.category).sum ≤ W9) (hdg : decode c.code g.pc = .ok (.invokevirtual index, 3))
    (hpre : ∀ vm₁, s.WarmedH vm₁ → Pre ⟨T.setVm vm₁, locs, cells, slots⟩ (Value.ref b :: argsL).toArray) :
    ∃ (v : Option Value) (vm₁ : Vm) (B : Pt), s.WarmedH vm₁ ∧ Stand p l e R s m args below meth c B.U B.locs B.cells B.slots ∧ Post ⟨T.setVm vm₁, locs, cells, slots⟩ (Value.ref b :: argsL).toArray v B ∧
      ∀ target, Steps p.tables e below (B.U.setTop { g with pc := g.pc + 3, stack := v.toList ++ rest }) target → Steps p.tables e below (T.setTop g) target := by
  obtain ⟨mk, methM, hnamed, hmethM, hstM, habM⟩ := Cond.instanceMethod_spec hinst
  obtain ⟨m8, methM', cM, hn8, hmethM', -, -, -, -, -, -, hsigM⟩ := Cond.codeWith_spec hcode
  cases Option.some.inj (hn8.symm.trans hnamed)
  cases hmethM.symm.trans hmethM'
  obtain ⟨c2, r2, m2, q1, q2, q3, q4, kP, hkP, hkPi⟩ := Cond.selects_spec hsel
  cases hcls.symm.trans q1
  cases (State.methodFound?_of_named hnamed hy).symm.trans q2
  cases hnamed.symm.trans q3
  have hselP : selectMethod e.platform s.vm cellB.cls mk = .method mk := by rw [Launch.admits_selectMethod X.admits]; exact q4
  obtain ⟨vm₁, X₁, hstep₁⟩ := X.invokevirtual hexec hown hlink hnamed hmethM hstM hkP hkPi hy (a := b) (cell := cellB) hcell
    (fun z h => by rw [h] at hobj; cases hobj) hselP hmethM habM hkP hkPi (g := g) hg (argsL := argsL) (rest := rest) (hlen _ hsigM) hstack hdg
  obtain ⟨v, B, X', hpost, hsteps⟩ := hK m meth c ⟨T.setVm vm₁, locs, cells, slots⟩ { g with stack := rest } (.invokevirtual index) mk (Value.ref b :: argsL).toArray X₁ hg hsize hdg hW (X₁.named hnamed) (hpre vm₁ X₁.warmed)
  exact ⟨v, vm₁, B, X₁.warmed, X', hpost, fun target h => hstep₁ _ fun acts => by rw [doInvoke_state]; exact hsteps.trans h⟩
abbrev vx_CVW (R : Room) (s : State) (args : Array Value) (own C : String) (index : Nat) (y : MethodName) (bytes : ByteArray) (maxL : Nat) (ret : Option FieldType) (hh : List (Nat × Nat × Nat × Nat)) (ws : List Cond) (rm : Room) (mc ms n : Nat) : Prop :=
  (rm.cells = mc ∧ rm.slots = ms ∧ rm.frames + 1 ≤ R.frames ∧ 8 + (maxL + 11) + rm.locals ≤ R.locals ∧ (∀ w ∈ ws, ∀ (a' : Array Value) (U : State), s.WarmedH U.vm → w.before a' U = true) ∧ Cond.codeWith y bytes maxL ret hh ∈ ws) ∧
  (Cond.codeWith y bytes maxL ret hh).before args s = true ∧ (Cond.initialized y.cls).before args s = true ∧ (y.cls ≠ "java/lang/invoke/MethodHandle" ∧ y.cls ≠ "java/lang/invoke/VarHandle") ∧
  (∀ sig, parseMethodDescriptor y.desc = some sig → n = sig.parameters.length) ∧ (Cond.methodLink own index y).before args s = true ∧ (Cond.instanceMethod y).before args s = true ∧ (Cond.selects C y y).before args s = true
theorem vx_cwVW {own C : String} {index maxL mc ms : Nat} {y : MethodName} {bytes : ByteArray} {ret : Option FieldType} {hh : List (Nat × Nat × Nat × Nat)} {Ts ws ws' : List Cond} {rm : Room} (n : Nat) (ht : ∀ w ∈ Ts, w.before args s = true) (hT : GoodIn Ts (wsV own index C y ws)) (hw : ws = Cond.codeWith y bytes maxL ret hh :: ws') (hrc : rm.cells = mc) (hrs : rm.slots = ms)
    (hd : y.cls = C ∧ y.cls ≠ "java/lang/invoke/MethodHandle" ∧ y.cls ≠ "java/lang/invoke/VarHandle" ∧ (parseMethodDescriptor y.desc).map (fun d => d.parameters.length) = some n) (hR : rm.frames + 1 ≤ R.frames ∧ 8 + (maxL + 11) + rm.locals ≤ R.locals) :
    vx_CVW R s args own C index y bytes maxL ret hh ws rm mc ms n := by
  obtain ⟨hC, hd⟩ := hd
  subst hC
  have ok : ∀ w ∈ wsV own index y.cls y ws, w.before args s = true := fun w h => ht w (hT w h).1
  have hG : GoodIn Ts ws := fun w h => hT w (by unfold wsV; exact List.mem_append_right _ h)
  have hc : Cond.codeWith y bytes maxL ret hh ∈ ws := by rw [hw]; exact List.mem_cons_self
  refine ⟨⟨hrc, hrs, hR.1, hR.2, pay_in ht hG, hc⟩, ht _ (hG _ hc).1, ok _ (by simp [wsV]), ⟨hd.1, hd.2.1⟩, fun sig h => ?_, ok _ (by simp [wsV]), ok _ (by simp [wsV]), ok _ (by simp [wsV])⟩
  have h2 := hd.2.2
  rw [h] at h2
  exact (Option.some.inj h2).symm
theorem vx_runVW {y : MethodName} {bytes cc : ByteArray} {maxL nL mc ms n index : Nat} {ret : Option FieldType} {hh : List (Nat × Nat × Nat × Nat)} {ws : List Cond} {rm : Room} {Pc : Array Value → State → Prop} {Qc : Array Value → State → Outcome → State → Prop} {free : Addr → Prop} {Ts : List Cond} {own C : String} {b : Addr} {As rest : List Value} {g : JFrame}
    (S : CallFix p m c cc nL s args Ts own) (hM : Met l y ws rm Pc Qc mc ms free) (cw : vx_CVW R s args own C index y bytes maxL ret hh ws rm mc ms n) (hp : PreV s H C b Pc As)
    (hg : g.method = m) (hn : As.length = n) (hsize : g.locals.size = nL) (hstack : g.stack = As.reverse ++ .ref b :: rest) (hW : 2 * g.monitorRoom + (rest.map fun v => v.category).sum ≤ 8) (hdg : decode cc g.pc = .ok (.invokevirtual index, 3)) (hf : cells + mc ≤ R.cells ∧ slots + ms ≤ R.slots) :
    va_Run p l e R s m args below meth c H locs cells slots mc ms g rest (Qc (Value.ref b :: As).toArray) free := by
  obtain ⟨⟨hrc, hrs, hfr, hlo, hws, hcw⟩, hcode, hini, hy, hlen, hl, hin, hse⟩ := cw
  have hK : Back l R p e below s args y 3 8 (PreOf R mc ms Pc) (PostOf Qc mc ms free) := va_backW (hh := hh) (bytes := bytes) (maxL := maxL) (ret := ret) hM hp.1 hrc hrs hfr hlo hws hcw (fun a' U hW => word_at hW (Or.inl (by first | rfl | simp [Cond.onTables, Cond.keeps, Cond.steady])) hini)
  obtain ⟨hx, hb, hml, ho, -⟩ := S
  obtain ⟨-, ⟨cellB, hcB, hoB, hclB⟩, hPc⟩ := hp
  intro T hT X
  obtain ⟨v, vm₁, ⟨U', l2, c2, s2⟩, hW₁, X', ⟨g', mk, t, L, e1, e2, hq, h1, hL, h2, h3⟩, st⟩ := vx_callVW X hx (C := C) (hh := hh) (bytes := bytes) (maxL := maxL) (ret := ret) ho hl hin hse hcode hy hK (by rw [hT]; exact hcB) hoB hclB hg (hsize.trans hml.symm) (argsL := As) (rest := rest) (fun sig h => hn.trans (hlen sig h)) hstack hW (by rw [hb]; exact hdg)
    (fun vm₁ hW₁ => ⟨hf.1, hf.2, hPc (T.setVm vm₁) hT hW₁⟩)
  dsimp only [Pt.U, Pt.locs, Pt.cells, Pt.slots] at X' e1 e2 h1 h2 h3 st
  subst h1; subst h2; subst h3
  exact ⟨v, (T.setVm vm₁).calling g' mk (Value.ref b :: As).toArray, t, U', L, hT, X', hL, e1, e2, hq, st⟩
section
variable {y : MethodName} {bytes cc : ByteArray} {maxL nL mc ms n index : Nat} {ret : Option FieldType} {ws : List Cond} {rm : Room} {Pc : Array Value → State → Prop} {Qc : Array Value → State → Outcome → State → Prop} {XC : String → State → State → Prop} {free : Addr → Prop} {Ts : List Cond} {own C : String} {b : Addr} {As rest : List Value} {g : JFrame}
theorem vx_runVX {hh : List (Nat × Nat × Nat × Nat)} (S : CallFix p m c cc nL s args Ts own) (hM : vx_Met l y ws rm Pc Qc XC mc ms free) (cw : vx_CVW R s args own C index y bytes maxL ret hh ws rm mc ms n) (hp : PreV s H C b Pc As)
    (hg : g.method = m) (hn : As.length = n) (hsize : g.locals.size = nL) (hstack : g.stack = As.reverse ++ .ref b :: rest) (hW : 2 * g.monitorRoom + (rest.map fun v => v.category).sum ≤ 8) (hdg : decode cc g.pc = .ok (.invokevirtual index, 3)) (hf : cells + mc ≤ R.cells ∧ slots + ms ≤ R.slots) :
    vx_Run p l e R s m args below meth c H locs cells slots mc ms g rest (Qc (Value.ref b :: As).toArray) XC free := by
  obtain ⟨⟨hrc, hrs, hfr, hlo, hws, hcw⟩, hcode, hini, hy, hlen, hl, hin, hse⟩ := cw
  have hK : vx_Back l R p e below s args y 3 8 (PreOf R mc ms Pc) (PostOf Qc mc ms free) (vx_Post XC mc ms free) := vx_backW (hh := hh) (bytes := bytes) (maxL := maxL) (ret := ret) hM hp.1 hrc hrs hfr hlo hws hcw (fun a' U hW => word_at hW (Or.inl (by first | rfl | simp [Cond.onTables, Cond.keeps, Cond.steady])) hini)
  obtain ⟨hx, hb, hml, ho, -⟩ := S
  obtain ⟨-, ⟨cellB, hcB, hoB, hclB⟩, hPc⟩ := hp
  intro T hT X
  rcases vx_callVX X hx (C := C) (hh := hh) (bytes := bytes) (maxL := maxL) (ret := ret) ho hl hin hse hcode hy hK (by rw [hT]; exact hcB) hoB hclB hg (hsize.trans hml.symm) (argsL := As) (rest := rest) (fun sig h => hn.trans (hlen sig h)) hstack hW (by rw [hb]; exact hdg)
    (fun vm₁ hW₁ => ⟨hf.1, hf.2, hPc (T.setVm vm₁) hT hW₁⟩) with ⟨v, vm₁, ⟨U', l2, c2, s2⟩, hW₁, X', ⟨g', mk, t, L, e1, e2, hq, h1, hL, h2, h3⟩, st⟩ | ⟨q, vm₁, ⟨U', l2, c2, s2⟩, hW₁, X', ⟨g', mk, t, L, E, ce, e1, e2, hq, hce, hcv, hcl, h1, hL, h2, h3⟩, st⟩
  · dsimp only [Pt.U, Pt.locs, Pt.cells, Pt.slots] at X' e1 e2 h1 h2 h3 st
    subst h1; subst h2; subst h3
    exact Or.inl ⟨v, (T.setVm vm₁).calling g' mk (Value.ref b :: As).toArray, t, U', L, hT, X', hL, e1, e2, hq, st⟩
  · dsimp only [Pt.U, Pt.locs, Pt.cells, Pt.slots] at X' e1 e2 h1 h2 h3 st hcl
    subst h1; subst h2; subst h3
    exact Or.inr ⟨q, (T.setVm vm₁).calling g' mk (Value.ref b :: As).toArray, t, U', L, E, ce, hT, X', hL, e1, e2, hq, hce, hcv, vx_cls hW₁ hcl, st⟩
theorem vx_runSX {hh : List (Nat × Nat × Nat × Nat)} (S : CallFix p m c cc nL s args Ts own) (hM : vx_Met l y ws rm Pc Qc XC mc ms free) (cw : vx_CSW R s args own index y bytes maxL ret hh ws rm mc ms n) (hp : PreS s H Pc As)
    (hg : g.method = m) (hn : As.length = n) (hsize : g.locals.size = nL) (hstack : g.stack = As.reverse ++ rest) (hW : 2 * g.monitorRoom + (rest.map fun v => v.category).sum ≤ 8) (hdg : decode cc g.pc = .ok (.invokestatic index, 3)) (hf : cells + mc ≤ R.cells ∧ slots + ms ≤ R.slots) :
    vx_Run p l e R s m args below meth c H locs cells slots mc ms g rest (Qc As.toArray) XC free := by
  obtain ⟨⟨hrc, hrs, hfr, hlo, hws, hcw⟩, hcode, hini, hy, hlen, hl, hstt⟩ := cw
  have hK : vx_Back l R p e below s args y 3 8 (PreOf R mc ms Pc) (PostOf Qc mc ms free) (vx_Post XC mc ms free) := vx_backW (hh := hh) (bytes := bytes) (maxL := maxL) (ret := ret) hM hp.1 hrc hrs hfr hlo hws hcw (fun a' U hW => word_at hW (Or.inl (by first | rfl | simp [Cond.onTables, Cond.keeps, Cond.steady])) hini)
  obtain ⟨hx, hb, hml, ho, -⟩ := S
  intro T hT X
  rcases vx_callSX X hx (hh := hh) (bytes := bytes) (maxL := maxL) (ret := ret) ho hl hstt hini hcode hy hK hg (hsize.trans hml.symm) (argsL := As) (rest := rest) (fun sig h => hn.trans (hlen sig h)) hstack hW (by rw [hb]; exact hdg)
    (fun vm₁ hW₁ => ⟨hf.1, hf.2, hp.2 (T.setVm vm₁) hT hW₁⟩) with ⟨v, vm₁, ⟨U', l2, c2, s2⟩, hW₁, X', ⟨g', mk, t, L, e1, e2, hq, h1, hL, h2, h3⟩, st⟩ | ⟨q, vm₁, ⟨U', l2, c2, s2⟩, hW₁, X', ⟨g', mk, t, L, E, ce, e1, e2, hq, hce, hcv, hcl, h1, hL, h2, h3⟩, st⟩
  · dsimp only [Pt.U, Pt.locs, Pt.cells, Pt.slots] at X' e1 e2 h1 h2 h3 st
    subst h1; subst h2; subst h3
    exact Or.inl ⟨v, (T.setVm vm₁).calling g' mk As.toArray, t, U', L, hT, X', hL, e1, e2, hq, st⟩
  · dsimp only [Pt.U, Pt.locs, Pt.cells, Pt.slots] at X' e1 e2 h1 h2 h3 st hcl
    subst h1; subst h2; subst h3
    exact Or.inr ⟨q, (T.setVm vm₁).calling g' mk As.toArray, t, U', L, E, ce, hT, X', hL, e1, e2, hq, hce, hcv, vx_cls hW₁ hcl, st⟩
end
end VXH
theorem vx_ofWH {l : Launch} {y : MethodName} {ws ws' : List Cond} {rm : Room} {Pc : Array Value → State → Prop} {Qc : Array Value → State → Outcome → State → Prop} {XC : String → State → State → Prop} {mc ms : Nat} {free : Addr → Prop} {cc : ByteArray} {maxL : Nat} {ret : Option FieldType} {hh : List (Nat × Nat × Nat × Nat)}
    (hy : plainName y.cls = true) (hw : ws = Cond.codeWith y cc maxL ret hh :: ws')
    (body : ∀ p e s m args below meth c s₁, BodyLoose p l y (headSpec ws rm) cc maxL ret e s m args below meth c s₁ → c.maxLocals = maxL → Pc args s →
      W p l e (headSpec ws rm).room s m args below meth c s.heap [] 0 0 (vx_MQ below Qc XC args s mc ms free) (entryFrame m args maxL)) : vx_Met l y ws rm Pc Qc XC mc ms free := by
  refine MetFree.of_bodyS (code := cc) (maxLocals := maxL) (ret := ret) hy ?_ ?_
  · intro args s m h hn
    obtain ⟨m9, meth, c, hn9, h1, h2, h3, h4, -, h5, h6, -⟩ := Cond.codeWith_spec (atoms_spec (ws := ws) h _ (by rw [hw]; exact List.mem_cons_self))
    cases hn.symm.trans hn9
    exact ⟨meth, c, h1, h2, h3, h4, h5, h6⟩
  · intro p e s m args below meth c s₁ B hml hP _
    have hh0 : s₁.heap = s.heap := by rw [B.state]; rfl
    obtain ⟨t, a1, o, b1, b2, b3⟩ := body p e s m args below meth c s₁ B hml hP s₁ hh0 (Stand.of_body B)
    exact ⟨t, o, a1, b1, b2, b3⟩
/-! ===== END ===== -/
end
section
def RX0 : String := "StenoChords$Entries"
def TX0 : u_T := fun k => match k with
  | 0 => ("StenoChords$Entries", "rows", "[J", true)
  | 1 => ("StenoChords$Entries", "words", "[I", true)
  | 2 => ("StenoChords$Entries", "picks", "[I", true)
  | _ => ("StenoChords$Entries", "size", "I", false)
def tyX0 : Nat → FieldType := fun k => match k with
  | 0 => .array .long
  | 1 => .array .int
  | 2 => .array .int
  | _ => .int
abbrev wsX00 : List Cond := u_ws RX0 TX0 4
theorem nmX0 : ∀ a, a < 4 → ∀ b, b < 4 → a ≠ b → (TX0 a).2.1 ≠ (TX0 b).2.1 := by decide +kernel
theorem tyX0_ok : ∀ k, k < 4 → parseFieldDescriptor (TX0 k).2.2.1 = some (tyX0 k) := by decide +kernel
abbrev cX0_init : ByteArray := prog_2_method_1_code
def yX0_init : MethodName := ⟨RX0, "<init>", "()V"⟩
abbrev cX0_size : ByteArray := prog_2_method_2_code
def yX0_size : MethodName := ⟨RX0, "size", "()I"⟩
abbrev cX0_has : ByteArray := prog_2_method_3_code
def yX0_has : MethodName := ⟨RX0, "has", "(I)Z"⟩
abbrev cX0_isFull : ByteArray := prog_2_method_4_code
def yX0_isFull : MethodName := ⟨RX0, "isFull", "()Z"⟩
abbrev cX0_rowOf : ByteArray := prog_2_method_5_code
def yX0_rowOf : MethodName := ⟨RX0, "rowOf", "(I)J"⟩
abbrev cX0_wordOf : ByteArray := prog_2_method_6_code
def yX0_wordOf : MethodName := ⟨RX0, "wordOf", "(I)I"⟩
abbrev cX0_picksOf : ByteArray := prog_2_method_7_code
def yX0_picksOf : MethodName := ⟨RX0, "picksOf", "(I)I"⟩
abbrev cX0_hasBoth : ByteArray := prog_2_method_8_code
def yX0_hasBoth : MethodName := ⟨RX0, "hasBoth", "(JI)Z"⟩
abbrev cX0_leaderOf : ByteArray := prog_2_method_9_code
def yX0_leaderOf : MethodName := ⟨RX0, "leaderOf", "(J)I"⟩
abbrev cX0_rivals : ByteArray := prog_2_method_10_code
def yX0_rivals : MethodName := ⟨RX0, "rivals", "(J)I"⟩
abbrev cX0_longerThan : ByteArray := prog_2_method_11_code
def yX0_longerThan : MethodName := ⟨RX0, "longerThan", "(JI)I"⟩
abbrev cX0_longestAt : ByteArray := prog_2_method_12_code
def yX0_longestAt : MethodName := ⟨RX0, "longestAt", "(LStenoChords$Row;II)I"⟩
abbrev cX0_pickOnce : ByteArray := prog_2_method_13_code
def yX0_pickOnce : MethodName := ⟨RX0, "pickOnce", "(I)V"⟩
abbrev cX0_put : ByteArray := prog_2_method_14_code
def yX0_put : MethodName := ⟨RX0, "put", "(JI)V"⟩
abbrev cX0_put_ : ByteArray := prog_2_method_15_code
def yX0_put_ : MethodName := ⟨RX0, "put", "(JII)V"⟩
abbrev cX0_takeAway : ByteArray := prog_2_method_16_code
def yX0_takeAway : MethodName := ⟨RX0, "takeAway", "(I)V"⟩
abbrev cX0_become : ByteArray := prog_2_method_17_code
def yX0_become : MethodName := ⟨RX0, "become", "(LStenoChords$Entries;)V"⟩
def RX1 : String := "StenoChords$InputText"
def TX1 : u_T := fun k => match k with
  | _ => ("StenoChords$InputText", "codes", "LStenoChords$Row;", true)
def tyX1 : Nat → FieldType := fun k => match k with
  | _ => .object "StenoChords$Row"
abbrev wsX10 : List Cond := u_ws RX1 TX1 1
theorem nmX1 : ∀ a, a < 1 → ∀ b, b < 1 → a ≠ b → (TX1 a).2.1 ≠ (TX1 b).2.1 := by decide +kernel
theorem tyX1_ok : ∀ k, k < 1 → parseFieldDescriptor (TX1 k).2.2.1 = some (tyX1 k) := by decide +kernel
abbrev cX1_init : ByteArray := prog_3_method_1_code
def yX1_init : MethodName := ⟨RX1, "<init>", "()V"⟩
abbrev cX1_length : ByteArray := prog_3_method_2_code
def yX1_length : MethodName := ⟨RX1, "length", "()I"⟩
abbrev cX1_isFull : ByteArray := prog_3_method_3_code
def yX1_isFull : MethodName := ⟨RX1, "isFull", "()Z"⟩
abbrev cX1_codeAt : ByteArray := prog_3_method_4_code
def yX1_codeAt : MethodName := ⟨RX1, "codeAt", "(I)I"⟩
abbrev cX1_put : ByteArray := prog_3_method_5_code
def yX1_put : MethodName := ⟨RX1, "put", "(I)V"⟩
abbrev cX1_wipe : ByteArray := prog_3_method_6_code
def yX1_wipe : MethodName := ⟨RX1, "wipe", "()V"⟩
abbrev cX1_firstFault : ByteArray := prog_3_method_7_code
def yX1_firstFault : MethodName := ⟨RX1, "firstFault", "()I"⟩
abbrev cX1_tellStrokes : ByteArray := prog_3_method_8_code
def yX1_tellStrokes : MethodName := ⟨RX1, "tellStrokes", "(LStenoChords$Row;)Z"⟩
abbrev cX1_standBehind : ByteArray := prog_3_method_9_code
def yX1_standBehind : MethodName := ⟨RX1, "standBehind", "(II)I"⟩
def RX2 : String := "StenoChords$Reading"
def TX2 : u_T := fun k => match k with
  | 0 => ("StenoChords$Reading", "places", "LStenoChords$Row;", true)
  | 1 => ("StenoChords$Reading", "lengths", "LStenoChords$Row;", true)
  | _ => ("StenoChords$Reading", "leaders", "LStenoChords$Row;", true)
def tyX2 : Nat → FieldType := fun k => match k with
  | 0 => .object "StenoChords$Row"
  | 1 => .object "StenoChords$Row"
  | _ => .object "StenoChords$Row"
abbrev wsX20 : List Cond := u_ws RX2 TX2 3
theorem nmX2 : ∀ a, a < 3 → ∀ b, b < 3 → a ≠ b → (TX2 a).2.1 ≠ (TX2 b).2.1 := by decide +kernel
theorem tyX2_ok : ∀ k, k < 3 → parseFieldDescriptor (TX2 k).2.2.1 = some (tyX2 k) := by decide +kernel
abbrev cX2_init : ByteArray := prog_4_method_1_code
def yX2_init : MethodName := ⟨RX2, "<init>", "()V"⟩
abbrev cX2_size : ByteArray := prog_4_method_2_code
def yX2_size : MethodName := ⟨RX2, "size", "()I"⟩
abbrev cX2_has : ByteArray := prog_4_method_3_code
def yX2_has : MethodName := ⟨RX2, "has", "(I)Z"⟩
abbrev cX2_placeAt : ByteArray := prog_4_method_4_code
def yX2_placeAt : MethodName := ⟨RX2, "placeAt", "(I)I"⟩
abbrev cX2_lengthAt : ByteArray := prog_4_method_5_code
def yX2_lengthAt : MethodName := ⟨RX2, "lengthAt", "(I)I"⟩
abbrev cX2_leaderAt : ByteArray := prog_4_method_6_code
def yX2_leaderAt : MethodName := ⟨RX2, "leaderAt", "(I)I"⟩
abbrev cX2_itemsOf : ByteArray := prog_4_method_7_code
def yX2_itemsOf : MethodName := ⟨RX2, "itemsOf", "(I)I"⟩
abbrev cX2_dropFrom : ByteArray := prog_4_method_8_code
def yX2_dropFrom : MethodName := ⟨RX2, "dropFrom", "(I)V"⟩
abbrev cX2_readOn : ByteArray := prog_4_method_9_code
def yX2_readOn : MethodName := ⟨RX2, "readOn", "(LStenoChords$Row;LStenoChords$State;)V"⟩
def RX3 : String := "StenoChords$Row"
def TX3 : u_T := fun k => match k with
  | 0 => ("StenoChords$Row", "cells", "[I", true)
  | _ => ("StenoChords$Row", "length", "I", false)
def tyX3 : Nat → FieldType := fun k => match k with
  | 0 => .array .int
  | _ => .int
abbrev wsX30 : List Cond := u_ws RX3 TX3 2
theorem nmX3 : ∀ a, a < 2 → ∀ b, b < 2 → a ≠ b → (TX3 a).2.1 ≠ (TX3 b).2.1 := by decide +kernel
theorem tyX3_ok : ∀ k, k < 2 → parseFieldDescriptor (TX3 k).2.2.1 = some (tyX3 k) := by decide +kernel
abbrev cX3_init : ByteArray := prog_5_method_1_code
def yX3_init : MethodName := ⟨RX3, "<init>", "(I)V"⟩
abbrev cX3_length : ByteArray := prog_5_method_2_code
def yX3_length : MethodName := ⟨RX3, "length", "()I"⟩
abbrev cX3_has : ByteArray := prog_5_method_3_code
def yX3_has : MethodName := ⟨RX3, "has", "(I)Z"⟩
abbrev cX3_isFull : ByteArray := prog_5_method_4_code
def yX3_isFull : MethodName := ⟨RX3, "isFull", "()Z"⟩
abbrev cX3_at : ByteArray := prog_5_method_5_code
def yX3_at : MethodName := ⟨RX3, "at", "(I)I"⟩
abbrev cX3_put : ByteArray := prog_5_method_6_code
def yX3_put : MethodName := ⟨RX3, "put", "(I)V"⟩
abbrev cX3_shorten : ByteArray := prog_5_method_7_code
def yX3_shorten : MethodName := ⟨RX3, "shorten", "(I)V"⟩
abbrev cX3_packed : ByteArray := prog_5_method_8_code
def yX3_packed : MethodName := ⟨RX3, "packed", "(II)J"⟩
abbrev cX3_become : ByteArray := prog_5_method_9_code
def yX3_become : MethodName := ⟨RX3, "become", "(LStenoChords$Row;)V"⟩
def RX4 : String := "StenoChords$SavedStates"
def TX4 : u_T := fun k => match k with
  | 0 => ("StenoChords$SavedStates", "ring", "[LStenoChords$State;", true)
  | 1 => ("StenoChords$SavedStates", "oldest", "I", false)
  | _ => ("StenoChords$SavedStates", "size", "I", false)
def tyX4 : Nat → FieldType := fun k => match k with
  | 0 => .array (.object "StenoChords$State")
  | 1 => .int
  | _ => .int
abbrev wsX40 : List Cond := u_ws RX4 TX4 3
theorem nmX4 : ∀ a, a < 3 → ∀ b, b < 3 → a ≠ b → (TX4 a).2.1 ≠ (TX4 b).2.1 := by decide +kernel
theorem tyX4_ok : ∀ k, k < 3 → parseFieldDescriptor (TX4 k).2.2.1 = some (tyX4 k) := by decide +kernel
abbrev cX4_init : ByteArray := prog_6_method_1_code
def yX4_init : MethodName := ⟨RX4, "<init>", "()V"⟩
abbrev cX4_size : ByteArray := prog_6_method_2_code
def yX4_size : MethodName := ⟨RX4, "size", "()I"⟩
abbrev cX4_push : ByteArray := prog_6_method_3_code
def yX4_push : MethodName := ⟨RX4, "push", "(LStenoChords$State;)V"⟩
abbrev cX4_popInto : ByteArray := prog_6_method_4_code
def yX4_popInto : MethodName := ⟨RX4, "popInto", "(LStenoChords$State;)V"⟩
abbrev cX4_slotBehindOldest : ByteArray := prog_6_method_5_code
def yX4_slotBehindOldest : MethodName := ⟨RX4, "slotBehindOldest", "(I)LStenoChords$State;"⟩
def RX5 : String := "StenoChords$State"
def TX5 : u_T := fun k => match k with
  | 0 => ("StenoChords$State", "paper", "LStenoChords$Row;", true)
  | 1 => ("StenoChords$State", "entries", "LStenoChords$Entries;", true)
  | 2 => ("StenoChords$State", "eatsItems", "I", false)
  | 3 => ("StenoChords$State", "longestRead", "I", false)
  | 4 => ("StenoChords$State", "struck", "I", false)
  | 5 => ("StenoChords$State", "eaten", "I", false)
  | 6 => ("StenoChords$State", "asterisks", "I", false)
  | _ => ("StenoChords$State", "keys", "I", false)
def tyX5 : Nat → FieldType := fun k => match k with
  | 0 => .object "StenoChords$Row"
  | 1 => .object "StenoChords$Entries"
  | 2 => .int
  | 3 => .int
  | 4 => .int
  | 5 => .int
  | 6 => .int
  | _ => .int
abbrev wsX50 : List Cond := u_ws RX5 TX5 8
theorem nmX5 : ∀ a, a < 8 → ∀ b, b < 8 → a ≠ b → (TX5 a).2.1 ≠ (TX5 b).2.1 := by decide +kernel
theorem tyX5_ok : ∀ k, k < 8 → parseFieldDescriptor (TX5 k).2.2.1 = some (tyX5 k) := by decide +kernel
abbrev cX5_init : ByteArray := prog_7_method_1_code
def yX5_init : MethodName := ⟨RX5, "<init>", "()V"⟩
abbrev cX5_become : ByteArray := prog_7_method_2_code
def yX5_become : MethodName := ⟨RX5, "become", "(LStenoChords$State;)V"⟩
def RX6 : String := "StenoChords"
def TX6 : u_T := fun k => match k with
  | 0 => ("StenoChords", "now", "LStenoChords$State;", true)
  | 1 => ("StenoChords", "snapshot", "LStenoChords$State;", true)
  | 2 => ("StenoChords", "saved", "LStenoChords$SavedStates;", true)
  | 3 => ("StenoChords", "buffer", "LStenoChords$InputText;", true)
  | 4 => ("StenoChords", "reading", "LStenoChords$Reading;", true)
  | 5 => ("StenoChords", "otherPaper", "LStenoChords$Row;", true)
  | 6 => ("StenoChords", "otherReading", "LStenoChords$Reading;", true)
  | 7 => ("StenoChords", "told", "LStenoChords$Row;", true)
  | 8 => ("StenoChords", "fewest", "LStenoChords$Row;", true)
  | _ => ("StenoChords", "snapshotTaken", "Z", false)
def tyX6 : Nat → FieldType := fun k => match k with
  | 0 => .object "StenoChords$State"
  | 1 => .object "StenoChords$State"
  | 2 => .object "StenoChords$SavedStates"
  | 3 => .object "StenoChords$InputText"
  | 4 => .object "StenoChords$Reading"
  | 5 => .object "StenoChords$Row"
  | 6 => .object "StenoChords$Reading"
  | 7 => .object "StenoChords$Row"
  | 8 => .object "StenoChords$Row"
  | _ => .boolean
abbrev wsX60 : List Cond := u_ws RX6 TX6 10
theorem nmX6 : ∀ a, a < 10 → ∀ b, b < 10 → a ≠ b → (TX6 a).2.1 ≠ (TX6 b).2.1 := by decide +kernel
theorem tyX6_ok : ∀ k, k < 10 → parseFieldDescriptor (TX6 k).2.2.1 = some (tyX6 k) := by decide +kernel
abbrev cX6_init : ByteArray := prog_1_method_1_code
def yX6_init : MethodName := ⟨RX6, "<init>", "()V"⟩
abbrev cX6_strike : ByteArray := prog_1_method_2_code
def yX6_strike : MethodName := ⟨RX6, "strike", "(I)I"⟩
abbrev cX6_play : ByteArray := prog_1_method_3_code
def yX6_play : MethodName := ⟨RX6, "play", "()I"⟩
abbrev cX6_tear : ByteArray := prog_1_method_4_code
def yX6_tear : MethodName := ⟨RX6, "tear", "()I"⟩
abbrev cX6_pick : ByteArray := prog_1_method_5_code
def yX6_pick : MethodName := ⟨RX6, "pick", "(II)I"⟩
abbrev cX6_define : ByteArray := prog_1_method_6_code
def yX6_define : MethodName := ⟨RX6, "define", "(I)I"⟩
abbrev cX6_remove : ByteArray := prog_1_method_7_code
def yX6_remove : MethodName := ⟨RX6, "remove", "(I)I"⟩
abbrev cX6_set : ByteArray := prog_1_method_8_code
def yX6_set : MethodName := ⟨RX6, "set", "(II)I"⟩
abbrev cX6_append : ByteArray := prog_1_method_9_code
def yX6_append : MethodName := ⟨RX6, "append", "(I)I"⟩
abbrev cX6_clearBuffer : ByteArray := prog_1_method_10_code
def yX6_clearBuffer : MethodName := ⟨RX6, "clearBuffer", "()I"⟩
abbrev cX6_firstError : ByteArray := prog_1_method_11_code
def yX6_firstError : MethodName := ⟨RX6, "firstError", "()I"⟩
abbrev cX6_keep : ByteArray := prog_1_method_12_code
def yX6_keep : MethodName := ⟨RX6, "keep", "()I"⟩
abbrev cX6_goBack : ByteArray := prog_1_method_13_code
def yX6_goBack : MethodName := ⟨RX6, "goBack", "()I"⟩
abbrev cX6_undo : ByteArray := prog_1_method_14_code
def yX6_undo : MethodName := ⟨RX6, "undo", "()I"⟩
abbrev cX6_stroke : ByteArray := prog_1_method_15_code
def yX6_stroke : MethodName := ⟨RX6, "stroke", "(I)I"⟩
abbrev cX6_item : ByteArray := prog_1_method_16_code
def yX6_item : MethodName := ⟨RX6, "item", "(II)I"⟩
abbrev cX6_entry : ByteArray := prog_1_method_17_code
def yX6_entry : MethodName := ⟨RX6, "entry", "(II)I"⟩
abbrev cX6_count : ByteArray := prog_1_method_18_code
def yX6_count : MethodName := ⟨RX6, "count", "(I)I"⟩
abbrev cX6_setting : ByteArray := prog_1_method_19_code
def yX6_setting : MethodName := ⟨RX6, "setting", "(I)I"⟩
abbrev cX6_ifStruck : ByteArray := prog_1_method_20_code
def yX6_ifStruck : MethodName := ⟨RX6, "ifStruck", "(II)I"⟩
abbrev cX6_begun : ByteArray := prog_1_method_21_code
def yX6_begun : MethodName := ⟨RX6, "begun", "(I)I"⟩
abbrev cX6_shortest : ByteArray := prog_1_method_22_code
def yX6_shortest : MethodName := ⟨RX6, "shortest", "(I)I"⟩
abbrev cX6_behind : ByteArray := prog_1_method_23_code
def yX6_behind : MethodName := ⟨RX6, "behind", "(II)I"⟩
abbrev cX6_clashes : ByteArray := prog_1_method_24_code
def yX6_clashes : MethodName := ⟨RX6, "clashes", "()I"⟩
abbrev cX6_least : ByteArray := prog_1_method_25_code
def yX6_least : MethodName := ⟨RX6, "least", "()I"⟩
abbrev cX6_readShare : ByteArray := prog_1_method_26_code
def yX6_readShare : MethodName := ⟨RX6, "readShare", "()D"⟩
abbrev cX6_meanKeys : ByteArray := prog_1_method_27_code
def yX6_meanKeys : MethodName := ⟨RX6, "meanKeys", "()F"⟩
abbrev cX6_digest : ByteArray := prog_1_method_28_code
def yX6_digest : MethodName := ⟨RX6, "digest", "()J"⟩
abbrev cX6_canStrike : ByteArray := prog_1_method_29_code
def yX6_canStrike : MethodName := ⟨RX6, "canStrike", "(I)Z"⟩
abbrev cX6_putOrEat : ByteArray := prog_1_method_30_code
def yX6_putOrEat : MethodName := ⟨RX6, "putOrEat", "(I)V"⟩
abbrev cX6_eat : ByteArray := prog_1_method_31_code
def yX6_eat : MethodName := ⟨RX6, "eat", "()V"⟩
abbrev cX6_readPaper : ByteArray := prog_1_method_32_code
def yX6_readPaper : MethodName := ⟨RX6, "readPaper", "()V"⟩
abbrev cX6_strokeOf : ByteArray := prog_1_method_33_code
def yX6_strokeOf : MethodName := ⟨RX6, "strokeOf", "(JI)I"⟩
abbrev cX6_strokesOf : ByteArray := prog_1_method_34_code
def yX6_strokesOf : MethodName := ⟨RX6, "strokesOf", "(J)I"⟩
abbrev cX6_canBeRow : ByteArray := prog_1_method_35_code
def yX6_canBeRow : MethodName := ⟨RX6, "canBeRow", "(LStenoChords$Row;)Z"⟩
abbrev cX6_rowOfItem : ByteArray := prog_1_method_36_code
def yX6_rowOfItem : MethodName := ⟨RX6, "rowOfItem", "(I)J"⟩
abbrev cX6_canBeSet : ByteArray := prog_1_method_37_code
def yX6_canBeSet : MethodName := ⟨RX6, "canBeSet", "(II)Z"⟩
abbrev cX6_settingNumber : ByteArray := prog_1_method_38_code
def yX6_settingNumber : MethodName := ⟨RX6, "settingNumber", "(I)I"⟩
abbrev cX6_itemNumber : ByteArray := prog_1_method_39_code
def yX6_itemNumber : MethodName := ⟨RX6, "itemNumber", "(II)I"⟩
abbrev cX6_entryNumber : ByteArray := prog_1_method_40_code
def yX6_entryNumber : MethodName := ⟨RX6, "entryNumber", "(II)I"⟩
abbrev cX6_countNumber : ByteArray := prog_1_method_41_code
def yX6_countNumber : MethodName := ⟨RX6, "countNumber", "(I)I"⟩
abbrev cX6_itemsStrokeByStroke : ByteArray := prog_1_method_42_code
def yX6_itemsStrokeByStroke : MethodName := ⟨RX6, "itemsStrokeByStroke", "()I"⟩
abbrev cX6_rawItems : ByteArray := prog_1_method_43_code
def yX6_rawItems : MethodName := ⟨RX6, "rawItems", "()I"⟩
abbrev cX6_canTell : ByteArray := prog_1_method_44_code
def yX6_canTell : MethodName := ⟨RX6, "canTell", "(II)Z"⟩
abbrev cX6_isShorter : ByteArray := prog_1_method_45_code
def yX6_isShorter : MethodName := ⟨RX6, "isShorter", "(II)Z"⟩
abbrev cX6_readBehind : ByteArray := prog_1_method_46_code
def yX6_readBehind : MethodName := ⟨RX6, "readBehind", "(II)I"⟩
abbrev cX6_putRow : ByteArray := prog_1_method_47_code
def yX6_putRow : MethodName := ⟨RX6, "putRow", "(J)V"⟩
abbrev cX6_fewestUpTo : ByteArray := prog_1_method_48_code
def yX6_fewestUpTo : MethodName := ⟨RX6, "fewestUpTo", "(I)I"⟩
abbrev cX6_mix : ByteArray := prog_1_method_49_code
def yX6_mix : MethodName := ⟨RX6, "mix", "(JJ)J"⟩
abbrev cX6_mixNumbers : ByteArray := prog_1_method_50_code
def yX6_mixNumbers : MethodName := ⟨RX6, "mixNumbers", "(J)J"⟩
abbrev cX6_mixItems : ByteArray := prog_1_method_51_code
def yX6_mixItems : MethodName := ⟨RX6, "mixItems", "(J)J"⟩
abbrev cX6_mixEntries : ByteArray := prog_1_method_52_code
def yX6_mixEntries : MethodName := ⟨RX6, "mixEntries", "(J)J"⟩
abbrev cX6_mixWhatWouldBe : ByteArray := prog_1_method_53_code
def yX6_mixWhatWouldBe : MethodName := ⟨RX6, "mixWhatWouldBe", "(J)J"⟩
abbrev cX6_bitsOfShare : ByteArray := prog_1_method_54_code
def yX6_bitsOfShare : MethodName := ⟨RX6, "bitsOfShare", "(D)J"⟩
abbrev cX6_bitsOfMean : ByteArray := prog_1_method_55_code
def yX6_bitsOfMean : MethodName := ⟨RX6, "bitsOfMean", "(F)I"⟩
def RX7 : String := "StenoChordsModel"
def TX7 : u_T := fun k => match k with
  | 0 => ("StenoChordsModel", "thrown", "I", false)
  | 1 => ("StenoChordsModel", "s", "[I", true)
  | 2 => ("StenoChordsModel", "saved", "I", false)
  | 3 => ("StenoChordsModel", "isKept", "Z", false)
  | 4 => ("StenoChordsModel", "text", "[I", true)
  | 5 => ("StenoChordsModel", "length", "I", false)
  | 6 => ("StenoChordsModel", "at", "I", false)
  | 7 => ("StenoChordsModel", "told", "[I", true)
  | 8 => ("StenoChordsModel", "tells", "I", false)
  | 9 => ("StenoChordsModel", "sheet", "[I", true)
  | 10 => ("StenoChordsModel", "many", "I", false)
  | 11 => ("StenoChordsModel", "starts", "[I", true)
  | 12 => ("StenoChordsModel", "sizes", "[I", true)
  | 13 => ("StenoChordsModel", "stands", "[I", true)
  | 14 => ("StenoChordsModel", "items", "I", false)
  | 15 => ("StenoChordsModel", "fewest", "[I", true)
  | _ => ("StenoChordsModel", "hash", "J", false)
def tyX7 : Nat → FieldType := fun k => match k with
  | 0 => .int
  | 1 => .array .int
  | 2 => .int
  | 3 => .boolean
  | 4 => .array .int
  | 5 => .int
  | 6 => .int
  | 7 => .array .int
  | 8 => .int
  | 9 => .array .int
  | 10 => .int
  | 11 => .array .int
  | 12 => .array .int
  | 13 => .array .int
  | 14 => .int
  | 15 => .array .int
  | _ => .long
abbrev wsX70 : List Cond := u_ws RX7 TX7 17
theorem nmX7 : ∀ a, a < 17 → ∀ b, b < 17 → a ≠ b → (TX7 a).2.1 ≠ (TX7 b).2.1 := by decide +kernel
theorem tyX7_ok : ∀ k, k < 17 → parseFieldDescriptor (TX7 k).2.2.1 = some (tyX7 k) := by decide +kernel
abbrev cX7_init : ByteArray := prog_9_method_1_code
def yX7_init : MethodName := ⟨RX7, "<init>", "()V"⟩
abbrev cX7_thrown : ByteArray := prog_9_method_2_code
def yX7_thrown : MethodName := ⟨RX7, "thrown", "()I"⟩
abbrev cX7_in : ByteArray := prog_9_method_3_code
def yX7_in : MethodName := ⟨RX7, "in", "(III)Z"⟩
abbrev cX7_holds : ByteArray := prog_9_method_4_code
def yX7_holds : MethodName := ⟨RX7, "holds", "(I)Z"⟩
abbrev cX7_keysOf : ByteArray := prog_9_method_5_code
def yX7_keysOf : MethodName := ⟨RX7, "keysOf", "(I)I"⟩
abbrev cX7_isEntry : ByteArray := prog_9_method_6_code
def yX7_isEntry : MethodName := ⟨RX7, "isEntry", "(I)Z"⟩
abbrev cX7_of : ByteArray := prog_9_method_7_code
def yX7_of : MethodName := ⟨RX7, "of", "(II)I"⟩
abbrev cX7_lay : ByteArray := prog_9_method_8_code
def yX7_lay : MethodName := ⟨RX7, "lay", "(III)V"⟩
abbrev cX7_areRivals : ByteArray := prog_9_method_9_code
def yX7_areRivals : MethodName := ⟨RX7, "areRivals", "(II)Z"⟩
abbrev cX7_leads : ByteArray := prog_9_method_10_code
def yX7_leads : MethodName := ⟨RX7, "leads", "(I)Z"⟩
abbrev cX7_keysOfEntry : ByteArray := prog_9_method_11_code
def yX7_keysOfEntry : MethodName := ⟨RX7, "keysOfEntry", "(I)I"⟩
abbrev cX7_isRow : ByteArray := prog_9_method_12_code
def yX7_isRow : MethodName := ⟨RX7, "isRow", "(II)Z"⟩
abbrev cX7_entryAt : ByteArray := prog_9_method_13_code
def yX7_entryAt : MethodName := ⟨RX7, "entryAt", "(I)I"⟩
abbrev cX7_reads : ByteArray := prog_9_method_14_code
def yX7_reads : MethodName := ⟨RX7, "reads", "()V"⟩
abbrev cX7_readsPaper : ByteArray := prog_9_method_15_code
def yX7_readsPaper : MethodName := ⟨RX7, "readsPaper", "()V"⟩
abbrev cX7_wordOf : ByteArray := prog_9_method_16_code
def yX7_wordOf : MethodName := ⟨RX7, "wordOf", "(I)I"⟩
abbrev cX7_canStrike : ByteArray := prog_9_method_17_code
def yX7_canStrike : MethodName := ⟨RX7, "canStrike", "(I)Z"⟩
abbrev cX7_strikes : ByteArray := prog_9_method_18_code
def yX7_strikes : MethodName := ⟨RX7, "strikes", "(I)V"⟩
abbrev cX7_strike : ByteArray := prog_9_method_19_code
def yX7_strike : MethodName := ⟨RX7, "strike", "(I)I"⟩
abbrev cX7_play : ByteArray := prog_9_method_20_code
def yX7_play : MethodName := ⟨RX7, "play", "()I"⟩
abbrev cX7_tear : ByteArray := prog_9_method_21_code
def yX7_tear : MethodName := ⟨RX7, "tear", "()I"⟩
abbrev cX7_pick : ByteArray := prog_9_method_22_code
def yX7_pick : MethodName := ⟨RX7, "pick", "(II)I"⟩
abbrev cX7_copies : ByteArray := prog_9_method_23_code
def yX7_copies : MethodName := ⟨RX7, "copies", "(II)V"⟩
abbrev cX7_save : ByteArray := prog_9_method_24_code
def yX7_save : MethodName := ⟨RX7, "save", "()V"⟩
abbrev cX7_hasAsterisk : ByteArray := prog_9_method_25_code
def yX7_hasAsterisk : MethodName := ⟨RX7, "hasAsterisk", "()Z"⟩
abbrev cX7_isThere : ByteArray := prog_9_method_26_code
def yX7_isThere : MethodName := ⟨RX7, "isThere", "(I)Z"⟩
abbrev cX7_define : ByteArray := prog_9_method_27_code
def yX7_define : MethodName := ⟨RX7, "define", "(I)I"⟩
abbrev cX7_remove : ByteArray := prog_9_method_28_code
def yX7_remove : MethodName := ⟨RX7, "remove", "(I)I"⟩
abbrev cX7_set : ByteArray := prog_9_method_29_code
def yX7_set : MethodName := ⟨RX7, "set", "(II)I"⟩
abbrev cX7_append : ByteArray := prog_9_method_30_code
def yX7_append : MethodName := ⟨RX7, "append", "(I)I"⟩
abbrev cX7_clearBuffer : ByteArray := prog_9_method_31_code
def yX7_clearBuffer : MethodName := ⟨RX7, "clearBuffer", "()I"⟩
abbrev cX7_keyOf : ByteArray := prog_9_method_32_code
def yX7_keyOf : MethodName := ⟨RX7, "keyOf", "(I)I"⟩
abbrev cX7_readsStroke : ByteArray := prog_9_method_33_code
def yX7_readsStroke : MethodName := ⟨RX7, "readsStroke", "()I"⟩
abbrev cX7_areStrokes : ByteArray := prog_9_method_34_code
def yX7_areStrokes : MethodName := ⟨RX7, "areStrokes", "()Z"⟩
abbrev cX7_firstError : ByteArray := prog_9_method_35_code
def yX7_firstError : MethodName := ⟨RX7, "firstError", "()I"⟩
abbrev cX7_keep : ByteArray := prog_9_method_36_code
def yX7_keep : MethodName := ⟨RX7, "keep", "()I"⟩
abbrev cX7_goBack : ByteArray := prog_9_method_37_code
def yX7_goBack : MethodName := ⟨RX7, "goBack", "()I"⟩
abbrev cX7_undo : ByteArray := prog_9_method_38_code
def yX7_undo : MethodName := ⟨RX7, "undo", "()I"⟩
abbrev cX7_stroke : ByteArray := prog_9_method_39_code
def yX7_stroke : MethodName := ⟨RX7, "stroke", "(I)I"⟩
abbrev cX7_ofItem : ByteArray := prog_9_method_40_code
def yX7_ofItem : MethodName := ⟨RX7, "ofItem", "(II)I"⟩
abbrev cX7_item : ByteArray := prog_9_method_41_code
def yX7_item : MethodName := ⟨RX7, "item", "(II)I"⟩
abbrev cX7_standing : ByteArray := prog_9_method_42_code
def yX7_standing : MethodName := ⟨RX7, "standing", "(I)I"⟩
abbrev cX7_ofEntry : ByteArray := prog_9_method_43_code
def yX7_ofEntry : MethodName := ⟨RX7, "ofEntry", "(II)I"⟩
abbrev cX7_entry : ByteArray := prog_9_method_44_code
def yX7_entry : MethodName := ⟨RX7, "entry", "(II)I"⟩
abbrev cX7_counted : ByteArray := prog_9_method_45_code
def yX7_counted : MethodName := ⟨RX7, "counted", "(I)I"⟩
abbrev cX7_count : ByteArray := prog_9_method_46_code
def yX7_count : MethodName := ⟨RX7, "count", "(I)I"⟩
abbrev cX7_setting : ByteArray := prog_9_method_47_code
def yX7_setting : MethodName := ⟨RX7, "setting", "(I)I"⟩
abbrev cX7_struck : ByteArray := prog_9_method_48_code
def yX7_struck : MethodName := ⟨RX7, "struck", "(II)I"⟩
abbrev cX7_ifStruck : ByteArray := prog_9_method_49_code
def yX7_ifStruck : MethodName := ⟨RX7, "ifStruck", "(II)I"⟩
abbrev cX7_begins : ByteArray := prog_9_method_50_code
def yX7_begins : MethodName := ⟨RX7, "begins", "(I)I"⟩
abbrev cX7_begun : ByteArray := prog_9_method_51_code
def yX7_begun : MethodName := ⟨RX7, "begun", "(I)I"⟩
abbrev cX7_shortestFor : ByteArray := prog_9_method_52_code
def yX7_shortestFor : MethodName := ⟨RX7, "shortestFor", "(I)I"⟩
abbrev cX7_shortest : ByteArray := prog_9_method_53_code
def yX7_shortest : MethodName := ⟨RX7, "shortest", "(I)I"⟩
abbrev cX7_pairOf : ByteArray := prog_9_method_54_code
def yX7_pairOf : MethodName := ⟨RX7, "pairOf", "(II)I"⟩
abbrev cX7_behind : ByteArray := prog_9_method_55_code
def yX7_behind : MethodName := ⟨RX7, "behind", "(II)I"⟩
abbrev cX7_clashesOf : ByteArray := prog_9_method_56_code
def yX7_clashesOf : MethodName := ⟨RX7, "clashesOf", "()I"⟩
abbrev cX7_clashes : ByteArray := prog_9_method_57_code
def yX7_clashes : MethodName := ⟨RX7, "clashes", "()I"⟩
abbrev cX7_leastOf : ByteArray := prog_9_method_58_code
def yX7_leastOf : MethodName := ⟨RX7, "leastOf", "()I"⟩
abbrev cX7_least : ByteArray := prog_9_method_59_code
def yX7_least : MethodName := ⟨RX7, "least", "()I"⟩
abbrev cX7_share : ByteArray := prog_9_method_60_code
def yX7_share : MethodName := ⟨RX7, "share", "()D"⟩
abbrev cX7_readShare : ByteArray := prog_9_method_61_code
def yX7_readShare : MethodName := ⟨RX7, "readShare", "()D"⟩
abbrev cX7_mean : ByteArray := prog_9_method_62_code
def yX7_mean : MethodName := ⟨RX7, "mean", "()F"⟩
abbrev cX7_meanKeys : ByteArray := prog_9_method_63_code
def yX7_meanKeys : MethodName := ⟨RX7, "meanKeys", "()F"⟩
abbrev cX7_mix : ByteArray := prog_9_method_64_code
def yX7_mix : MethodName := ⟨RX7, "mix", "(J)V"⟩
abbrev cX7_bits : ByteArray := prog_9_method_65_code
def yX7_bits : MethodName := ⟨RX7, "bits", "(DJJ)J"⟩
abbrev cX7_digest : ByteArray := prog_9_method_66_code
def yX7_digest : MethodName := ⟨RX7, "digest", "()J"⟩
def RJ11 : String := "java/lang/Character"
def TJ11 : u_T := fun k => match k with
  | _ => ("", "", "", false)
def tyJ11 : Nat → FieldType := fun k => match k with
  | _ => .int
abbrev wsJ110 : List Cond := u_ws RJ11 TJ11 0
theorem nmJ11 : ∀ a, a < 0 → ∀ b, b < 0 → a ≠ b → (TJ11 a).2.1 ≠ (TJ11 b).2.1 := by decide +kernel
theorem tyJ11_ok : ∀ k, k < 0 → parseFieldDescriptor (TJ11 k).2.2.1 = some (tyJ11 k) := by decide +kernel
abbrev cJ11_isValidCodePoint_9a6ad : ByteArray := prog_10_method_11_code
def yJ11_isValidCodePoint_9a6ad : MethodName := ⟨RJ11, "isValidCodePoint", "(I)Z"⟩
abbrev cJ11_highSurrogate_5068e : ByteArray := prog_10_method_28_code
def yJ11_highSurrogate_5068e : MethodName := ⟨RJ11, "highSurrogate", "(I)C"⟩
abbrev cJ11_lowSurrogate_5068e : ByteArray := prog_10_method_29_code
def yJ11_lowSurrogate_5068e : MethodName := ⟨RJ11, "lowSurrogate", "(I)C"⟩
def RJ6 : String := "java/lang/Integer"
def TJ6 : u_T := fun k => match k with
  | _ => ("", "", "", false)
def tyJ6 : Nat → FieldType := fun k => match k with
  | _ => .int
abbrev wsJ60 : List Cond := u_ws RJ6 TJ6 0
theorem nmJ6 : ∀ a, a < 0 → ∀ b, b < 0 → a ≠ b → (TJ6 a).2.1 ≠ (TJ6 b).2.1 := by decide +kernel
theorem tyJ6_ok : ∀ k, k < 0 → parseFieldDescriptor (TJ6 k).2.2.1 = some (tyJ6 k) := by decide +kernel
abbrev cJ6_bitCount_0f7a4 : ByteArray := prog_15_method_49_code
def yJ6_bitCount_0f7a4 : MethodName := ⟨RJ6, "bitCount", "(I)I"⟩
def RJ13 : String := "java/lang/Long"
def TJ13 : u_T := fun k => match k with
  | _ => ("", "", "", false)
def tyJ13 : Nat → FieldType := fun k => match k with
  | _ => .int
abbrev wsJ130 : List Cond := u_ws RJ13 TJ13 0
theorem nmJ13 : ∀ a, a < 0 → ∀ b, b < 0 → a ≠ b → (TJ13 a).2.1 ≠ (TJ13 b).2.1 := by decide +kernel
theorem tyJ13_ok : ∀ k, k < 0 → parseFieldDescriptor (TJ13 k).2.2.1 = some (tyJ13 k) := by decide +kernel
abbrev cJ13_bitCount_95d88 : ByteArray := prog_16_method_50_code
def yJ13_bitCount_95d88 : MethodName := ⟨RJ13, "bitCount", "(J)I"⟩
def RJ9 : String := "java/lang/Math"
def TJ9 : u_T := fun k => match k with
  | _ => ("", "", "", false)
def tyJ9 : Nat → FieldType := fun k => match k with
  | _ => .int
abbrev wsJ90 : List Cond := u_ws RJ9 TJ9 0
theorem nmJ9 : ∀ a, a < 0 → ∀ b, b < 0 → a ≠ b → (TJ9 a).2.1 ≠ (TJ9 b).2.1 := by decide +kernel
theorem tyJ9_ok : ∀ k, k < 0 → parseFieldDescriptor (TJ9 k).2.2.1 = some (tyJ9 k) := by decide +kernel
abbrev cJ9_floorMod_7cf53 : ByteArray := prog_17_method_50_code
def yJ9_floorMod_7cf53 : MethodName := ⟨RJ9, "floorMod", "(II)I"⟩
abbrev cJ9_max_7cf53 : ByteArray := prog_17_method_65_code
def yJ9_max_7cf53 : MethodName := ⟨RJ9, "max", "(II)I"⟩
abbrev cJ9_min_7cf53 : ByteArray := prog_17_method_69_code
def yJ9_min_7cf53 : MethodName := ⟨RJ9, "min", "(II)I"⟩
def RJ0 : String := "java/lang/String"
def TJ0 : u_T := fun k => match k with
  | _ => ("", "", "", false)
def tyJ0 : Nat → FieldType := fun k => match k with
  | _ => .int
abbrev wsJ00 : List Cond := u_ws RJ0 TJ0 0
theorem nmJ0 : ∀ a, a < 0 → ∀ b, b < 0 → a ≠ b → (TJ0 a).2.1 ≠ (TJ0 b).2.1 := by decide +kernel
theorem tyJ0_ok : ∀ k, k < 0 → parseFieldDescriptor (TJ0 k).2.2.1 = some (tyJ0 k) := by decide +kernel
abbrev cJ0_length_8abf5 : ByteArray := prog_19_method_54_code
def yJ0_length_8abf5 : MethodName := ⟨RJ0, "length", "()I"⟩
abbrev cJ0_indexOf_0f7a4 : ByteArray := prog_19_method_79_code
def yJ0_indexOf_0f7a4 : MethodName := ⟨RJ0, "indexOf", "(I)I"⟩
abbrev cJ0_indexOf_7cf53 : ByteArray := prog_19_method_80_code
def yJ0_indexOf_7cf53 : MethodName := ⟨RJ0, "indexOf", "(II)I"⟩
abbrev cJ0_coder_7d493 : ByteArray := prog_19_method_152_code
def yJ0_coder_7d493 : MethodName := ⟨RJ0, "coder", "()B"⟩
abbrev cJ0_isLatin1_aae02 : ByteArray := prog_19_method_154_code
def yJ0_isLatin1_aae02 : MethodName := ⟨RJ0, "isLatin1", "()Z"⟩
abbrev cJ0_checkBoundsBeginEnd_23922 : ByteArray := prog_19_method_158_code
def yJ0_checkBoundsBeginEnd_23922 : MethodName := ⟨RJ0, "checkBoundsBeginEnd", "(III)V"⟩
def RJ1 : String := "java/lang/StringLatin1"
def TJ1 : u_T := fun k => match k with
  | _ => ("", "", "", false)
def tyJ1 : Nat → FieldType := fun k => match k with
  | _ => .int
abbrev wsJ10 : List Cond := u_ws RJ1 TJ1 0
theorem nmJ1 : ∀ a, a < 0 → ∀ b, b < 0 → a ≠ b → (TJ1 a).2.1 ≠ (TJ1 b).2.1 := by decide +kernel
theorem tyJ1_ok : ∀ k, k < 0 → parseFieldDescriptor (TJ1 k).2.2.1 = some (tyJ1 k) := by decide +kernel
abbrev cJ1_canEncode_9a6ad : ByteArray := prog_20_method_4_code
def yJ1_canEncode_9a6ad : MethodName := ⟨RJ1, "canEncode", "(I)Z"⟩
abbrev cJ1_indexOf_4cfef : ByteArray := prog_20_method_22_code
def yJ1_indexOf_4cfef : MethodName := ⟨RJ1, "indexOf", "([BIII)I"⟩
abbrev cJ1_indexOfChar_4cfef : ByteArray := prog_20_method_23_code
def yJ1_indexOfChar_4cfef : MethodName := ⟨RJ1, "indexOfChar", "([BIII)I"⟩
def RJ2 : String := "java/lang/StringUTF16"
def TJ2 : u_T := fun k => match k with
  | _ => ("", "", "", false)
def tyJ2 : Nat → FieldType := fun k => match k with
  | _ => .int
abbrev wsJ20 : List Cond := u_ws RJ2 TJ2 0
theorem nmJ2 : ∀ a, a < 0 → ∀ b, b < 0 → a ≠ b → (TJ2 a).2.1 ≠ (TJ2 b).2.1 := by decide +kernel
theorem tyJ2_ok : ∀ k, k < 0 → parseFieldDescriptor (TJ2 k).2.2.1 = some (tyJ2 k) := by decide +kernel
abbrev cJ2_getChar_3b067 : ByteArray := prog_21_method_5_code
def yJ2_getChar_3b067 : MethodName := ⟨RJ2, "getChar", "([BI)C"⟩
abbrev cJ2_length_9d52b : ByteArray := prog_21_method_6_code
def yJ2_length_9d52b : MethodName := ⟨RJ2, "length", "([B)I"⟩
abbrev cJ2_indexOf_4cfef : ByteArray := prog_21_method_40_code
def yJ2_indexOf_4cfef : MethodName := ⟨RJ2, "indexOf", "([BIII)I"⟩
abbrev cJ2_indexOfChar_4cfef : ByteArray := prog_21_method_47_code
def yJ2_indexOfChar_4cfef : MethodName := ⟨RJ2, "indexOfChar", "([BIII)I"⟩
abbrev cJ2_indexOfCharUnsafe_4cfef : ByteArray := prog_21_method_48_code
def yJ2_indexOfCharUnsafe_4cfef : MethodName := ⟨RJ2, "indexOfCharUnsafe", "([BIII)I"⟩
abbrev cJ2_indexOfSupplementary_4cfef : ByteArray := prog_21_method_49_code
def yJ2_indexOfSupplementary_4cfef : MethodName := ⟨RJ2, "indexOfSupplementary", "([BIII)I"⟩
abbrev cJ2_checkBoundsBeginEnd_d044e : ByteArray := prog_21_method_93_code
def yJ2_checkBoundsBeginEnd_d044e : MethodName := ⟨RJ2, "checkBoundsBeginEnd", "(II[B)V"⟩
def RJ3 : String := "jdk/internal/util/Preconditions"
def TJ3 : u_T := fun k => match k with
  | _ => ("", "", "", false)
def tyJ3 : Nat → FieldType := fun k => match k with
  | _ => .int
abbrev wsJ30 : List Cond := u_ws RJ3 TJ3 0
theorem nmJ3 : ∀ a, a < 0 → ∀ b, b < 0 → a ≠ b → (TJ3 a).2.1 ≠ (TJ3 b).2.1 := by decide +kernel
theorem tyJ3_ok : ∀ k, k < 0 → parseFieldDescriptor (TJ3 k).2.2.1 = some (tyJ3 k) := by decide +kernel
abbrev cJ3_checkFromToIndex_8c36e : ByteArray := prog_23_method_12_code
def yJ3_checkFromToIndex_8c36e : MethodName := ⟨RJ3, "checkFromToIndex", "(IIILjava/util/function/BiFunction;)I"⟩
def RL : String := "StenoChordsLaw"
abbrev cL_strike : ByteArray := method_3_code
def yL_strike : MethodName := ⟨RL, "strike", "(LStenoChords;I[J)I"⟩
abbrev cL_play : ByteArray := method_4_code
def yL_play : MethodName := ⟨RL, "play", "(LStenoChords;[J)I"⟩
abbrev cL_pick : ByteArray := method_5_code
def yL_pick : MethodName := ⟨RL, "pick", "(LStenoChords;II[J)I"⟩
abbrev cL_define : ByteArray := method_6_code
def yL_define : MethodName := ⟨RL, "define", "(LStenoChords;I[J)I"⟩
abbrev cL_remove : ByteArray := method_7_code
def yL_remove : MethodName := ⟨RL, "remove", "(LStenoChords;I[J)I"⟩
abbrev cL_set : ByteArray := method_8_code
def yL_set : MethodName := ⟨RL, "set", "(LStenoChords;II[J)I"⟩
abbrev cL_append : ByteArray := method_9_code
def yL_append : MethodName := ⟨RL, "append", "(LStenoChords;I[J)I"⟩
abbrev cL_goBack : ByteArray := method_10_code
def yL_goBack : MethodName := ⟨RL, "goBack", "(LStenoChords;[J)I"⟩
abbrev cL_undo : ByteArray := method_11_code
def yL_undo : MethodName := ⟨RL, "undo", "(LStenoChords;[J)I"⟩
abbrev cL_stroke : ByteArray := method_12_code
def yL_stroke : MethodName := ⟨RL, "stroke", "(LStenoChords;I[J)I"⟩
abbrev cL_item : ByteArray := method_13_code
def yL_item : MethodName := ⟨RL, "item", "(LStenoChords;II[J)I"⟩
abbrev cL_entry : ByteArray := method_14_code
def yL_entry : MethodName := ⟨RL, "entry", "(LStenoChords;II[J)I"⟩
abbrev cL_count : ByteArray := method_15_code
def yL_count : MethodName := ⟨RL, "count", "(LStenoChords;I[J)I"⟩
abbrev cL_setting : ByteArray := method_16_code
def yL_setting : MethodName := ⟨RL, "setting", "(LStenoChords;I[J)I"⟩
abbrev cL_ifStruck : ByteArray := method_17_code
def yL_ifStruck : MethodName := ⟨RL, "ifStruck", "(LStenoChords;II[J)I"⟩
abbrev cL_begun : ByteArray := method_18_code
def yL_begun : MethodName := ⟨RL, "begun", "(LStenoChords;I[J)I"⟩
abbrev cL_shortest : ByteArray := method_19_code
def yL_shortest : MethodName := ⟨RL, "shortest", "(LStenoChords;I[J)I"⟩
abbrev cL_behind : ByteArray := method_20_code
def yL_behind : MethodName := ⟨RL, "behind", "(LStenoChords;II[J)I"⟩
abbrev cL_law : ByteArray := code
def yL_law : MethodName := ⟨RL, "law", "([I)Z"⟩
abbrev vwCl : List vw_C := [(RX0, TX0, 4), (RX1, TX1, 1), (RX2, TX2, 3), (RX3, TX3, 2), (RX4, TX4, 3), (RX5, TX5, 8), (RX6, TX6, 10), (RX7, TX7, 17)]
end
section
theorem dX0_init_0 : decode cX0_init 0 = .ok (.aload_n 0, 1) := by decide +kernel
theorem dX0_init_1 : decode cX0_init 1 = .ok (.invokespecial 3, 3) := by decide +kernel
theorem dX0_init_4 : decode cX0_init 4 = .ok (.aload_n 0, 1) := by decide +kernel
theorem dX0_init_5 : decode cX0_init 5 = .ok (.bipush 24, 2) := by decide +kernel
theorem dX0_init_7 : decode cX0_init 7 = .ok (.newarray .long, 2) := by decide +kernel
theorem dX0_init_9 : decode cX0_init 9 = .ok (.putfield 9, 3) := by decide +kernel
theorem dX0_init_12 : decode cX0_init 12 = .ok (.aload_n 0, 1) := by decide +kernel
theorem dX0_init_13 : decode cX0_init 13 = .ok (.bipush 24, 2) := by decide +kernel
theorem dX0_init_15 : decode cX0_init 15 = .ok (.newarray .int, 2) := by decide +kernel
theorem dX0_init_17 : decode cX0_init 17 = .ok (.putfield 15, 3) := by decide +kernel
theorem dX0_init_20 : decode cX0_init 20 = .ok (.aload_n 0, 1) := by decide +kernel
theorem dX0_init_21 : decode cX0_init 21 = .ok (.bipush 24, 2) := by decide +kernel
theorem dX0_init_23 : decode cX0_init 23 = .ok (.newarray .int, 2) := by decide +kernel
theorem dX0_init_25 : decode cX0_init 25 = .ok (.putfield 19, 3) := by decide +kernel
theorem dX0_init_28 : decode cX0_init 28 = .ok (.return_, 1) := by decide +kernel
theorem dX0_size_0 : decode cX0_size 0 = .ok (.aload_n 0, 1) := by decide +kernel
theorem dX0_size_1 : decode cX0_size 1 = .ok (.getfield 22, 3) := by decide +kernel
theorem dX0_size_4 : decode cX0_size 4 = .ok (.ireturn, 1) := by decide +kernel
theorem dX0_has_0 : decode cX0_has 0 = .ok (.iload_n 1, 1) := by decide +kernel
theorem dX0_has_1 : decode cX0_has 1 = .ok (.ifCond .lt 21, 3) := by decide +kernel
theorem dX0_has_4 : decode cX0_has 4 = .ok (.iload_n 1, 1) := by decide +kernel
theorem dX0_has_5 : decode cX0_has 5 = .ok (.aload_n 0, 1) := by decide +kernel
theorem dX0_has_6 : decode cX0_has 6 = .ok (.getfield 22, 3) := by decide +kernel
theorem dX0_has_9 : decode cX0_has 9 = .ok (.if_icmp .ge 13, 3) := by decide +kernel
theorem dX0_has_12 : decode cX0_has 12 = .ok (.iload_n 1, 1) := by decide +kernel
theorem dX0_has_13 : decode cX0_has 13 = .ok (.bipush 24, 2) := by decide +kernel
theorem dX0_has_15 : decode cX0_has 15 = .ok (.if_icmp .ge 7, 3) := by decide +kernel
theorem dX0_has_18 : decode cX0_has 18 = .ok (.iconst 1, 1) := by decide +kernel
theorem dX0_has_19 : decode cX0_has 19 = .ok (.goto 4, 3) := by decide +kernel
theorem dX0_has_22 : decode cX0_has 22 = .ok (.iconst 0, 1) := by decide +kernel
theorem dX0_has_23 : decode cX0_has 23 = .ok (.ireturn, 1) := by decide +kernel
theorem dX0_isFull_0 : decode cX0_isFull 0 = .ok (.aload_n 0, 1) := by decide +kernel
theorem dX0_isFull_1 : decode cX0_isFull 1 = .ok (.getfield 22, 3) := by decide +kernel
theorem dX0_isFull_4 : decode cX0_isFull 4 = .ok (.bipush 24, 2) := by decide +kernel
theorem dX0_isFull_6 : decode cX0_isFull 6 = .ok (.if_icmp .lt 7, 3) := by decide +kernel
theorem dX0_isFull_9 : decode cX0_isFull 9 = .ok (.iconst 1, 1) := by decide +kernel
theorem dX0_isFull_10 : decode cX0_isFull 10 = .ok (.goto 4, 3) := by decide +kernel
theorem dX0_isFull_13 : decode cX0_isFull 13 = .ok (.iconst 0, 1) := by decide +kernel
theorem dX0_isFull_14 : decode cX0_isFull 14 = .ok (.ireturn, 1) := by decide +kernel
theorem dX0_rowOf_0 : decode cX0_rowOf 0 = .ok (.aload_n 0, 1) := by decide +kernel
theorem dX0_rowOf_1 : decode cX0_rowOf 1 = .ok (.iload_n 1, 1) := by decide +kernel
theorem dX0_rowOf_2 : decode cX0_rowOf 2 = .ok (.invokevirtual 26, 3) := by decide +kernel
theorem dX0_rowOf_5 : decode cX0_rowOf 5 = .ok (.ifCond .eq 12, 3) := by decide +kernel
theorem dX0_rowOf_8 : decode cX0_rowOf 8 = .ok (.aload_n 0, 1) := by decide +kernel
theorem dX0_rowOf_9 : decode cX0_rowOf 9 = .ok (.getfield 9, 3) := by decide +kernel
theorem dX0_rowOf_12 : decode cX0_rowOf 12 = .ok (.iload_n 1, 1) := by decide +kernel
theorem dX0_rowOf_13 : decode cX0_rowOf 13 = .ok (.laload, 1) := by decide +kernel
theorem dX0_rowOf_14 : decode cX0_rowOf 14 = .ok (.goto 4, 3) := by decide +kernel
theorem dX0_rowOf_17 : decode cX0_rowOf 17 = .ok (.lconst 0, 1) := by decide +kernel
theorem dX0_rowOf_18 : decode cX0_rowOf 18 = .ok (.lreturn, 1) := by decide +kernel
theorem dX0_wordOf_0 : decode cX0_wordOf 0 = .ok (.aload_n 0, 1) := by decide +kernel
theorem dX0_wordOf_1 : decode cX0_wordOf 1 = .ok (.iload_n 1, 1) := by decide +kernel
theorem dX0_wordOf_2 : decode cX0_wordOf 2 = .ok (.invokevirtual 26, 3) := by decide +kernel
theorem dX0_wordOf_5 : decode cX0_wordOf 5 = .ok (.ifCond .eq 12, 3) := by decide +kernel
theorem dX0_wordOf_8 : decode cX0_wordOf 8 = .ok (.aload_n 0, 1) := by decide +kernel
theorem dX0_wordOf_9 : decode cX0_wordOf 9 = .ok (.getfield 15, 3) := by decide +kernel
theorem dX0_wordOf_12 : decode cX0_wordOf 12 = .ok (.iload_n 1, 1) := by decide +kernel
theorem dX0_wordOf_13 : decode cX0_wordOf 13 = .ok (.iaload, 1) := by decide +kernel
theorem dX0_wordOf_14 : decode cX0_wordOf 14 = .ok (.goto 4, 3) := by decide +kernel
theorem dX0_wordOf_17 : decode cX0_wordOf 17 = .ok (.iconst (-1), 1) := by decide +kernel
theorem dX0_wordOf_18 : decode cX0_wordOf 18 = .ok (.ireturn, 1) := by decide +kernel
theorem dX0_picksOf_0 : decode cX0_picksOf 0 = .ok (.aload_n 0, 1) := by decide +kernel
theorem dX0_picksOf_1 : decode cX0_picksOf 1 = .ok (.iload_n 1, 1) := by decide +kernel
theorem dX0_picksOf_2 : decode cX0_picksOf 2 = .ok (.invokevirtual 26, 3) := by decide +kernel
theorem dX0_picksOf_5 : decode cX0_picksOf 5 = .ok (.ifCond .eq 12, 3) := by decide +kernel
theorem dX0_picksOf_8 : decode cX0_picksOf 8 = .ok (.aload_n 0, 1) := by decide +kernel
theorem dX0_picksOf_9 : decode cX0_picksOf 9 = .ok (.getfield 19, 3) := by decide +kernel
theorem dX0_picksOf_12 : decode cX0_picksOf 12 = .ok (.iload_n 1, 1) := by decide +kernel
theorem dX0_picksOf_13 : decode cX0_picksOf 13 = .ok (.iaload, 1) := by decide +kernel
theorem dX0_picksOf_14 : decode cX0_picksOf 14 = .ok (.goto 4, 3) := by decide +kernel
theorem dX0_picksOf_17 : decode cX0_picksOf 17 = .ok (.iconst 0, 1) := by decide +kernel
theorem dX0_picksOf_18 : decode cX0_picksOf 18 = .ok (.ireturn, 1) := by decide +kernel
theorem dX0_hasBoth_0 : decode cX0_hasBoth 0 = .ok (.iconst 0, 1) := by decide +kernel
theorem dX0_hasBoth_1 : decode cX0_hasBoth 1 = .ok (.istore 4, 2) := by decide +kernel
theorem dX0_hasBoth_3 : decode cX0_hasBoth 3 = .ok (.iload 4, 2) := by decide +kernel
theorem dX0_hasBoth_5 : decode cX0_hasBoth 5 = .ok (.aload_n 0, 1) := by decide +kernel
theorem dX0_hasBoth_6 : decode cX0_hasBoth 6 = .ok (.getfield 22, 3) := by decide +kernel
theorem dX0_hasBoth_9 : decode cX0_hasBoth 9 = .ok (.if_icmp .ge 32, 3) := by decide +kernel
theorem dX0_hasBoth_12 : decode cX0_hasBoth 12 = .ok (.aload_n 0, 1) := by decide +kernel
theorem dX0_hasBoth_13 : decode cX0_hasBoth 13 = .ok (.iload 4, 2) := by decide +kernel
theorem dX0_hasBoth_15 : decode cX0_hasBoth 15 = .ok (.invokevirtual 30, 3) := by decide +kernel
theorem dX0_hasBoth_18 : decode cX0_hasBoth 18 = .ok (.lload_n 1, 1) := by decide +kernel
theorem dX0_hasBoth_19 : decode cX0_hasBoth 19 = .ok (.lcmp, 1) := by decide +kernel
theorem dX0_hasBoth_20 : decode cX0_hasBoth 20 = .ok (.ifCond .ne 15, 3) := by decide +kernel
theorem dX0_hasBoth_23 : decode cX0_hasBoth 23 = .ok (.aload_n 0, 1) := by decide +kernel
theorem dX0_hasBoth_24 : decode cX0_hasBoth 24 = .ok (.iload 4, 2) := by decide +kernel
theorem dX0_hasBoth_26 : decode cX0_hasBoth 26 = .ok (.invokevirtual 34, 3) := by decide +kernel
theorem dX0_hasBoth_29 : decode cX0_hasBoth 29 = .ok (.iload_n 3, 1) := by decide +kernel
theorem dX0_hasBoth_30 : decode cX0_hasBoth 30 = .ok (.if_icmp .ne 5, 3) := by decide +kernel
theorem dX0_hasBoth_33 : decode cX0_hasBoth 33 = .ok (.iconst 1, 1) := by decide +kernel
theorem dX0_hasBoth_34 : decode cX0_hasBoth 34 = .ok (.ireturn, 1) := by decide +kernel
theorem dX0_hasBoth_35 : decode cX0_hasBoth 35 = .ok (.iinc 4 1, 3) := by decide +kernel
theorem dX0_hasBoth_38 : decode cX0_hasBoth 38 = .ok (.goto (-35), 3) := by decide +kernel
theorem dX0_hasBoth_41 : decode cX0_hasBoth 41 = .ok (.iconst 0, 1) := by decide +kernel
theorem dX0_hasBoth_42 : decode cX0_hasBoth 42 = .ok (.ireturn, 1) := by decide +kernel
theorem dX0_leaderOf_0 : decode cX0_leaderOf 0 = .ok (.iconst (-1), 1) := by decide +kernel
theorem dX0_leaderOf_1 : decode cX0_leaderOf 1 = .ok (.istore_n 3, 1) := by decide +kernel
theorem dX0_leaderOf_2 : decode cX0_leaderOf 2 = .ok (.iconst (-1), 1) := by decide +kernel
theorem dX0_leaderOf_3 : decode cX0_leaderOf 3 = .ok (.istore 4, 2) := by decide +kernel
theorem dX0_leaderOf_5 : decode cX0_leaderOf 5 = .ok (.iconst 0, 1) := by decide +kernel
theorem dX0_leaderOf_6 : decode cX0_leaderOf 6 = .ok (.istore 5, 2) := by decide +kernel
theorem dX0_leaderOf_8 : decode cX0_leaderOf 8 = .ok (.iload 5, 2) := by decide +kernel
theorem dX0_leaderOf_10 : decode cX0_leaderOf 10 = .ok (.aload_n 0, 1) := by decide +kernel
theorem dX0_leaderOf_11 : decode cX0_leaderOf 11 = .ok (.getfield 22, 3) := by decide +kernel
theorem dX0_leaderOf_14 : decode cX0_leaderOf 14 = .ok (.if_icmp .ge 52, 3) := by decide +kernel
theorem dX0_leaderOf_17 : decode cX0_leaderOf 17 = .ok (.iload 5, 2) := by decide +kernel
theorem dX0_leaderOf_19 : decode cX0_leaderOf 19 = .ok (.bipush 24, 2) := by decide +kernel
theorem dX0_leaderOf_21 : decode cX0_leaderOf 21 = .ok (.if_icmp .ge 45, 3) := by decide +kernel
theorem dX0_leaderOf_24 : decode cX0_leaderOf 24 = .ok (.aload_n 0, 1) := by decide +kernel
theorem dX0_leaderOf_25 : decode cX0_leaderOf 25 = .ok (.getfield 9, 3) := by decide +kernel
theorem dX0_leaderOf_28 : decode cX0_leaderOf 28 = .ok (.iload 5, 2) := by decide +kernel
theorem dX0_leaderOf_30 : decode cX0_leaderOf 30 = .ok (.laload, 1) := by decide +kernel
theorem dX0_leaderOf_31 : decode cX0_leaderOf 31 = .ok (.lload_n 1, 1) := by decide +kernel
theorem dX0_leaderOf_32 : decode cX0_leaderOf 32 = .ok (.lcmp, 1) := by decide +kernel
theorem dX0_leaderOf_33 : decode cX0_leaderOf 33 = .ok (.ifCond .ne 27, 3) := by decide +kernel
theorem dX0_leaderOf_36 : decode cX0_leaderOf 36 = .ok (.aload_n 0, 1) := by decide +kernel
theorem dX0_leaderOf_37 : decode cX0_leaderOf 37 = .ok (.getfield 19, 3) := by decide +kernel
theorem dX0_leaderOf_40 : decode cX0_leaderOf 40 = .ok (.iload 5, 2) := by decide +kernel
theorem dX0_leaderOf_42 : decode cX0_leaderOf 42 = .ok (.iaload, 1) := by decide +kernel
theorem dX0_leaderOf_43 : decode cX0_leaderOf 43 = .ok (.iload 4, 2) := by decide +kernel
theorem dX0_leaderOf_45 : decode cX0_leaderOf 45 = .ok (.if_icmp .le 15, 3) := by decide +kernel
theorem dX0_leaderOf_48 : decode cX0_leaderOf 48 = .ok (.iload 5, 2) := by decide +kernel
theorem dX0_leaderOf_50 : decode cX0_leaderOf 50 = .ok (.istore_n 3, 1) := by decide +kernel
theorem dX0_leaderOf_51 : decode cX0_leaderOf 51 = .ok (.aload_n 0, 1) := by decide +kernel
theorem dX0_leaderOf_52 : decode cX0_leaderOf 52 = .ok (.getfield 19, 3) := by decide +kernel
theorem dX0_leaderOf_55 : decode cX0_leaderOf 55 = .ok (.iload 5, 2) := by decide +kernel
theorem dX0_leaderOf_57 : decode cX0_leaderOf 57 = .ok (.iaload, 1) := by decide +kernel
theorem dX0_leaderOf_58 : decode cX0_leaderOf 58 = .ok (.istore 4, 2) := by decide +kernel
theorem dX0_leaderOf_60 : decode cX0_leaderOf 60 = .ok (.iinc 5 1, 3) := by decide +kernel
theorem dX0_leaderOf_63 : decode cX0_leaderOf 63 = .ok (.goto (-55), 3) := by decide +kernel
theorem dX0_leaderOf_66 : decode cX0_leaderOf 66 = .ok (.iload_n 3, 1) := by decide +kernel
theorem dX0_leaderOf_67 : decode cX0_leaderOf 67 = .ok (.ireturn, 1) := by decide +kernel
theorem dX0_rivals_0 : decode cX0_rivals 0 = .ok (.iconst 0, 1) := by decide +kernel
theorem dX0_rivals_1 : decode cX0_rivals 1 = .ok (.istore_n 3, 1) := by decide +kernel
theorem dX0_rivals_2 : decode cX0_rivals 2 = .ok (.iconst 0, 1) := by decide +kernel
theorem dX0_rivals_3 : decode cX0_rivals 3 = .ok (.istore 4, 2) := by decide +kernel
theorem dX0_rivals_5 : decode cX0_rivals 5 = .ok (.iload 4, 2) := by decide +kernel
theorem dX0_rivals_7 : decode cX0_rivals 7 = .ok (.aload_n 0, 1) := by decide +kernel
theorem dX0_rivals_8 : decode cX0_rivals 8 = .ok (.getfield 22, 3) := by decide +kernel
theorem dX0_rivals_11 : decode cX0_rivals 11 = .ok (.if_icmp .ge 23, 3) := by decide +kernel
theorem dX0_rivals_14 : decode cX0_rivals 14 = .ok (.aload_n 0, 1) := by decide +kernel
theorem dX0_rivals_15 : decode cX0_rivals 15 = .ok (.iload 4, 2) := by decide +kernel
theorem dX0_rivals_17 : decode cX0_rivals 17 = .ok (.invokevirtual 30, 3) := by decide +kernel
theorem dX0_rivals_20 : decode cX0_rivals 20 = .ok (.lload_n 1, 1) := by decide +kernel
theorem dX0_rivals_21 : decode cX0_rivals 21 = .ok (.lcmp, 1) := by decide +kernel
theorem dX0_rivals_22 : decode cX0_rivals 22 = .ok (.ifCond .ne 6, 3) := by decide +kernel
theorem dX0_rivals_25 : decode cX0_rivals 25 = .ok (.iinc 3 1, 3) := by decide +kernel
theorem dX0_rivals_28 : decode cX0_rivals 28 = .ok (.iinc 4 1, 3) := by decide +kernel
theorem dX0_rivals_31 : decode cX0_rivals 31 = .ok (.goto (-26), 3) := by decide +kernel
theorem dX0_rivals_34 : decode cX0_rivals 34 = .ok (.iload_n 3, 1) := by decide +kernel
theorem dX0_rivals_35 : decode cX0_rivals 35 = .ok (.ireturn, 1) := by decide +kernel
theorem dX0_longerThan_0 : decode cX0_longerThan 0 = .ok (.lconst 1, 1) := by decide +kernel
theorem dX0_longerThan_1 : decode cX0_longerThan 1 = .ok (.bipush 10, 2) := by decide +kernel
theorem dX0_longerThan_3 : decode cX0_longerThan 3 = .ok (.iload_n 3, 1) := by decide +kernel
theorem dX0_longerThan_4 : decode cX0_longerThan 4 = .ok (.imul, 1) := by decide +kernel
theorem dX0_longerThan_5 : decode cX0_longerThan 5 = .ok (.lshl, 1) := by decide +kernel
theorem dX0_longerThan_6 : decode cX0_longerThan 6 = .ok (.lconst 1, 1) := by decide +kernel
theorem dX0_longerThan_7 : decode cX0_longerThan 7 = .ok (.lsub, 1) := by decide +kernel
theorem dX0_longerThan_8 : decode cX0_longerThan 8 = .ok (.lstore 4, 2) := by decide +kernel
theorem dX0_longerThan_10 : decode cX0_longerThan 10 = .ok (.iconst 0, 1) := by decide +kernel
theorem dX0_longerThan_11 : decode cX0_longerThan 11 = .ok (.istore 6, 2) := by decide +kernel
theorem dX0_longerThan_13 : decode cX0_longerThan 13 = .ok (.iconst 0, 1) := by decide +kernel
theorem dX0_longerThan_14 : decode cX0_longerThan 14 = .ok (.istore 7, 2) := by decide +kernel
theorem dX0_longerThan_16 : decode cX0_longerThan 16 = .ok (.iload 7, 2) := by decide +kernel
theorem dX0_longerThan_18 : decode cX0_longerThan 18 = .ok (.aload_n 0, 1) := by decide +kernel
theorem dX0_longerThan_19 : decode cX0_longerThan 19 = .ok (.getfield 22, 3) := by decide +kernel
theorem dX0_longerThan_22 : decode cX0_longerThan 22 = .ok (.if_icmp .ge 37, 3) := by decide +kernel
theorem dX0_longerThan_25 : decode cX0_longerThan 25 = .ok (.aload_n 0, 1) := by decide +kernel
theorem dX0_longerThan_26 : decode cX0_longerThan 26 = .ok (.iload 7, 2) := by decide +kernel
theorem dX0_longerThan_28 : decode cX0_longerThan 28 = .ok (.invokevirtual 30, 3) := by decide +kernel
theorem dX0_longerThan_31 : decode cX0_longerThan 31 = .ok (.lstore 8, 2) := by decide +kernel
theorem dX0_longerThan_33 : decode cX0_longerThan 33 = .ok (.lload 8, 2) := by decide +kernel
theorem dX0_longerThan_35 : decode cX0_longerThan 35 = .ok (.lload 4, 2) := by decide +kernel
theorem dX0_longerThan_37 : decode cX0_longerThan 37 = .ok (.land, 1) := by decide +kernel
theorem dX0_longerThan_38 : decode cX0_longerThan 38 = .ok (.lload_n 1, 1) := by decide +kernel
theorem dX0_longerThan_39 : decode cX0_longerThan 39 = .ok (.lcmp, 1) := by decide +kernel
theorem dX0_longerThan_40 : decode cX0_longerThan 40 = .ok (.ifCond .ne 13, 3) := by decide +kernel
theorem dX0_longerThan_43 : decode cX0_longerThan 43 = .ok (.lload 8, 2) := by decide +kernel
theorem dX0_longerThan_45 : decode cX0_longerThan 45 = .ok (.lload_n 1, 1) := by decide +kernel
theorem dX0_longerThan_46 : decode cX0_longerThan 46 = .ok (.lcmp, 1) := by decide +kernel
theorem dX0_longerThan_47 : decode cX0_longerThan 47 = .ok (.ifCond .eq 6, 3) := by decide +kernel
theorem dX0_longerThan_50 : decode cX0_longerThan 50 = .ok (.iinc 6 1, 3) := by decide +kernel
theorem dX0_longerThan_53 : decode cX0_longerThan 53 = .ok (.iinc 7 1, 3) := by decide +kernel
theorem dX0_longerThan_56 : decode cX0_longerThan 56 = .ok (.goto (-40), 3) := by decide +kernel
theorem dX0_longerThan_59 : decode cX0_longerThan 59 = .ok (.iload 6, 2) := by decide +kernel
theorem dX0_longerThan_61 : decode cX0_longerThan 61 = .ok (.ireturn, 1) := by decide +kernel
theorem dX0_longestAt_0 : decode cX0_longestAt 0 = .ok (.iload_n 3, 1) := by decide +kernel
theorem dX0_longestAt_1 : decode cX0_longestAt 1 = .ok (.aload_n 1, 1) := by decide +kernel
theorem dX0_longestAt_2 : decode cX0_longestAt 2 = .ok (.invokevirtual 38, 3) := by decide +kernel
theorem dX0_longestAt_5 : decode cX0_longestAt 5 = .ok (.iload_n 2, 1) := by decide +kernel
theorem dX0_longestAt_6 : decode cX0_longestAt 6 = .ok (.isub, 1) := by decide +kernel
theorem dX0_longestAt_7 : decode cX0_longestAt 7 = .ok (.invokestatic 44, 3) := by decide +kernel
theorem dX0_longestAt_10 : decode cX0_longestAt 10 = .ok (.istore 4, 2) := by decide +kernel
theorem dX0_longestAt_12 : decode cX0_longestAt 12 = .ok (.iload 4, 2) := by decide +kernel
theorem dX0_longestAt_14 : decode cX0_longestAt 14 = .ok (.ifCond .le 27, 3) := by decide +kernel
theorem dX0_longestAt_17 : decode cX0_longestAt 17 = .ok (.aload_n 0, 1) := by decide +kernel
theorem dX0_longestAt_18 : decode cX0_longestAt 18 = .ok (.aload_n 1, 1) := by decide +kernel
theorem dX0_longestAt_19 : decode cX0_longestAt 19 = .ok (.iload_n 2, 1) := by decide +kernel
theorem dX0_longestAt_20 : decode cX0_longestAt 20 = .ok (.iload 4, 2) := by decide +kernel
theorem dX0_longestAt_22 : decode cX0_longestAt 22 = .ok (.invokevirtual 50, 3) := by decide +kernel
theorem dX0_longestAt_25 : decode cX0_longestAt 25 = .ok (.invokevirtual 54, 3) := by decide +kernel
theorem dX0_longestAt_28 : decode cX0_longestAt 28 = .ok (.iconst (-1), 1) := by decide +kernel
theorem dX0_longestAt_29 : decode cX0_longestAt 29 = .ok (.if_icmp .eq 6, 3) := by decide +kernel
theorem dX0_longestAt_32 : decode cX0_longestAt 32 = .ok (.iload 4, 2) := by decide +kernel
theorem dX0_longestAt_34 : decode cX0_longestAt 34 = .ok (.ireturn, 1) := by decide +kernel
theorem dX0_longestAt_35 : decode cX0_longestAt 35 = .ok (.iinc 4 (-1), 3) := by decide +kernel
theorem dX0_longestAt_38 : decode cX0_longestAt 38 = .ok (.goto (-26), 3) := by decide +kernel
theorem dX0_longestAt_41 : decode cX0_longestAt 41 = .ok (.iconst 0, 1) := by decide +kernel
theorem dX0_longestAt_42 : decode cX0_longestAt 42 = .ok (.ireturn, 1) := by decide +kernel
theorem dX0_pickOnce_0 : decode cX0_pickOnce 0 = .ok (.aload_n 0, 1) := by decide +kernel
theorem dX0_pickOnce_1 : decode cX0_pickOnce 1 = .ok (.iload_n 1, 1) := by decide +kernel
theorem dX0_pickOnce_2 : decode cX0_pickOnce 2 = .ok (.invokevirtual 26, 3) := by decide +kernel
theorem dX0_pickOnce_5 : decode cX0_pickOnce 5 = .ok (.ifCond .eq 13, 3) := by decide +kernel
theorem dX0_pickOnce_8 : decode cX0_pickOnce 8 = .ok (.aload_n 0, 1) := by decide +kernel
theorem dX0_pickOnce_9 : decode cX0_pickOnce 9 = .ok (.getfield 19, 3) := by decide +kernel
theorem dX0_pickOnce_12 : decode cX0_pickOnce 12 = .ok (.iload_n 1, 1) := by decide +kernel
theorem dX0_pickOnce_13 : decode cX0_pickOnce 13 = .ok (.dup2, 1) := by decide +kernel
theorem dX0_pickOnce_14 : decode cX0_pickOnce 14 = .ok (.iaload, 1) := by decide +kernel
theorem dX0_pickOnce_15 : decode cX0_pickOnce 15 = .ok (.iconst 1, 1) := by decide +kernel
theorem dX0_pickOnce_16 : decode cX0_pickOnce 16 = .ok (.iadd, 1) := by decide +kernel
theorem dX0_pickOnce_17 : decode cX0_pickOnce 17 = .ok (.iastore, 1) := by decide +kernel
theorem dX0_pickOnce_18 : decode cX0_pickOnce 18 = .ok (.return_, 1) := by decide +kernel
theorem dX0_put_0 : decode cX0_put 0 = .ok (.aload_n 0, 1) := by decide +kernel
theorem dX0_put_1 : decode cX0_put 1 = .ok (.lload_n 1, 1) := by decide +kernel
theorem dX0_put_2 : decode cX0_put 2 = .ok (.iload_n 3, 1) := by decide +kernel
theorem dX0_put_3 : decode cX0_put 3 = .ok (.iconst 0, 1) := by decide +kernel
theorem dX0_put_4 : decode cX0_put 4 = .ok (.invokevirtual 58, 3) := by decide +kernel
theorem dX0_put_7 : decode cX0_put 7 = .ok (.return_, 1) := by decide +kernel
theorem dX0_put__0 : decode cX0_put_ 0 = .ok (.aload_n 0, 1) := by decide +kernel
theorem dX0_put__1 : decode cX0_put_ 1 = .ok (.getfield 22, 3) := by decide +kernel
theorem dX0_put__4 : decode cX0_put_ 4 = .ok (.ifCond .lt 53, 3) := by decide +kernel
theorem dX0_put__7 : decode cX0_put_ 7 = .ok (.aload_n 0, 1) := by decide +kernel
theorem dX0_put__8 : decode cX0_put_ 8 = .ok (.getfield 22, 3) := by decide +kernel
theorem dX0_put__11 : decode cX0_put_ 11 = .ok (.bipush 24, 2) := by decide +kernel
theorem dX0_put__13 : decode cX0_put_ 13 = .ok (.if_icmp .ge 44, 3) := by decide +kernel
theorem dX0_put__16 : decode cX0_put_ 16 = .ok (.aload_n 0, 1) := by decide +kernel
theorem dX0_put__17 : decode cX0_put_ 17 = .ok (.getfield 9, 3) := by decide +kernel
theorem dX0_put__20 : decode cX0_put_ 20 = .ok (.aload_n 0, 1) := by decide +kernel
theorem dX0_put__21 : decode cX0_put_ 21 = .ok (.getfield 22, 3) := by decide +kernel
theorem dX0_put__24 : decode cX0_put_ 24 = .ok (.lload_n 1, 1) := by decide +kernel
theorem dX0_put__25 : decode cX0_put_ 25 = .ok (.lastore, 1) := by decide +kernel
theorem dX0_put__26 : decode cX0_put_ 26 = .ok (.aload_n 0, 1) := by decide +kernel
theorem dX0_put__27 : decode cX0_put_ 27 = .ok (.getfield 15, 3) := by decide +kernel
theorem dX0_put__30 : decode cX0_put_ 30 = .ok (.aload_n 0, 1) := by decide +kernel
theorem dX0_put__31 : decode cX0_put_ 31 = .ok (.getfield 22, 3) := by decide +kernel
theorem dX0_put__34 : decode cX0_put_ 34 = .ok (.iload_n 3, 1) := by decide +kernel
theorem dX0_put__35 : decode cX0_put_ 35 = .ok (.iastore, 1) := by decide +kernel
theorem dX0_put__36 : decode cX0_put_ 36 = .ok (.aload_n 0, 1) := by decide +kernel
theorem dX0_put__37 : decode cX0_put_ 37 = .ok (.getfield 19, 3) := by decide +kernel
theorem dX0_put__40 : decode cX0_put_ 40 = .ok (.aload_n 0, 1) := by decide +kernel
theorem dX0_put__41 : decode cX0_put_ 41 = .ok (.getfield 22, 3) := by decide +kernel
theorem dX0_put__44 : decode cX0_put_ 44 = .ok (.iload 4, 2) := by decide +kernel
theorem dX0_put__46 : decode cX0_put_ 46 = .ok (.iastore, 1) := by decide +kernel
theorem dX0_put__47 : decode cX0_put_ 47 = .ok (.aload_n 0, 1) := by decide +kernel
theorem dX0_put__48 : decode cX0_put_ 48 = .ok (.dup, 1) := by decide +kernel
theorem dX0_put__49 : decode cX0_put_ 49 = .ok (.getfield 22, 3) := by decide +kernel
theorem dX0_put__52 : decode cX0_put_ 52 = .ok (.iconst 1, 1) := by decide +kernel
theorem dX0_put__53 : decode cX0_put_ 53 = .ok (.iadd, 1) := by decide +kernel
theorem dX0_put__54 : decode cX0_put_ 54 = .ok (.putfield 22, 3) := by decide +kernel
theorem dX0_put__57 : decode cX0_put_ 57 = .ok (.return_, 1) := by decide +kernel
theorem dX0_takeAway_0 : decode cX0_takeAway 0 = .ok (.aload_n 0, 1) := by decide +kernel
theorem dX0_takeAway_1 : decode cX0_takeAway 1 = .ok (.iload_n 1, 1) := by decide +kernel
theorem dX0_takeAway_2 : decode cX0_takeAway 2 = .ok (.invokevirtual 26, 3) := by decide +kernel
theorem dX0_takeAway_5 : decode cX0_takeAway 5 = .ok (.ifCond .ne 4, 3) := by decide +kernel
theorem dX0_takeAway_8 : decode cX0_takeAway 8 = .ok (.return_, 1) := by decide +kernel
theorem dX0_takeAway_9 : decode cX0_takeAway 9 = .ok (.iload_n 1, 1) := by decide +kernel
theorem dX0_takeAway_10 : decode cX0_takeAway 10 = .ok (.iconst 1, 1) := by decide +kernel
theorem dX0_takeAway_11 : decode cX0_takeAway 11 = .ok (.iadd, 1) := by decide +kernel
theorem dX0_takeAway_12 : decode cX0_takeAway 12 = .ok (.istore_n 2, 1) := by decide +kernel
theorem dX0_takeAway_13 : decode cX0_takeAway 13 = .ok (.iload_n 2, 1) := by decide +kernel
theorem dX0_takeAway_14 : decode cX0_takeAway 14 = .ok (.aload_n 0, 1) := by decide +kernel
theorem dX0_takeAway_15 : decode cX0_takeAway 15 = .ok (.getfield 22, 3) := by decide +kernel
theorem dX0_takeAway_18 : decode cX0_takeAway 18 = .ok (.if_icmp .ge 57, 3) := by decide +kernel
theorem dX0_takeAway_21 : decode cX0_takeAway 21 = .ok (.iload_n 2, 1) := by decide +kernel
theorem dX0_takeAway_22 : decode cX0_takeAway 22 = .ok (.bipush 24, 2) := by decide +kernel
theorem dX0_takeAway_24 : decode cX0_takeAway 24 = .ok (.if_icmp .ge 51, 3) := by decide +kernel
theorem dX0_takeAway_27 : decode cX0_takeAway 27 = .ok (.aload_n 0, 1) := by decide +kernel
theorem dX0_takeAway_28 : decode cX0_takeAway 28 = .ok (.getfield 9, 3) := by decide +kernel
theorem dX0_takeAway_31 : decode cX0_takeAway 31 = .ok (.iload_n 2, 1) := by decide +kernel
theorem dX0_takeAway_32 : decode cX0_takeAway 32 = .ok (.iconst 1, 1) := by decide +kernel
theorem dX0_takeAway_33 : decode cX0_takeAway 33 = .ok (.isub, 1) := by decide +kernel
theorem dX0_takeAway_34 : decode cX0_takeAway 34 = .ok (.aload_n 0, 1) := by decide +kernel
theorem dX0_takeAway_35 : decode cX0_takeAway 35 = .ok (.getfield 9, 3) := by decide +kernel
theorem dX0_takeAway_38 : decode cX0_takeAway 38 = .ok (.iload_n 2, 1) := by decide +kernel
theorem dX0_takeAway_39 : decode cX0_takeAway 39 = .ok (.laload, 1) := by decide +kernel
theorem dX0_takeAway_40 : decode cX0_takeAway 40 = .ok (.lastore, 1) := by decide +kernel
theorem dX0_takeAway_41 : decode cX0_takeAway 41 = .ok (.aload_n 0, 1) := by decide +kernel
theorem dX0_takeAway_42 : decode cX0_takeAway 42 = .ok (.getfield 15, 3) := by decide +kernel
theorem dX0_takeAway_45 : decode cX0_takeAway 45 = .ok (.iload_n 2, 1) := by decide +kernel
theorem dX0_takeAway_46 : decode cX0_takeAway 46 = .ok (.iconst 1, 1) := by decide +kernel
theorem dX0_takeAway_47 : decode cX0_takeAway 47 = .ok (.isub, 1) := by decide +kernel
theorem dX0_takeAway_48 : decode cX0_takeAway 48 = .ok (.aload_n 0, 1) := by decide +kernel
theorem dX0_takeAway_49 : decode cX0_takeAway 49 = .ok (.getfield 15, 3) := by decide +kernel
theorem dX0_takeAway_52 : decode cX0_takeAway 52 = .ok (.iload_n 2, 1) := by decide +kernel
theorem dX0_takeAway_53 : decode cX0_takeAway 53 = .ok (.iaload, 1) := by decide +kernel
theorem dX0_takeAway_54 : decode cX0_takeAway 54 = .ok (.iastore, 1) := by decide +kernel
theorem dX0_takeAway_55 : decode cX0_takeAway 55 = .ok (.aload_n 0, 1) := by decide +kernel
theorem dX0_takeAway_56 : decode cX0_takeAway 56 = .ok (.getfield 19, 3) := by decide +kernel
theorem dX0_takeAway_59 : decode cX0_takeAway 59 = .ok (.iload_n 2, 1) := by decide +kernel
theorem dX0_takeAway_60 : decode cX0_takeAway 60 = .ok (.iconst 1, 1) := by decide +kernel
theorem dX0_takeAway_61 : decode cX0_takeAway 61 = .ok (.isub, 1) := by decide +kernel
theorem dX0_takeAway_62 : decode cX0_takeAway 62 = .ok (.aload_n 0, 1) := by decide +kernel
theorem dX0_takeAway_63 : decode cX0_takeAway 63 = .ok (.getfield 19, 3) := by decide +kernel
theorem dX0_takeAway_66 : decode cX0_takeAway 66 = .ok (.iload_n 2, 1) := by decide +kernel
theorem dX0_takeAway_67 : decode cX0_takeAway 67 = .ok (.iaload, 1) := by decide +kernel
theorem dX0_takeAway_68 : decode cX0_takeAway 68 = .ok (.iastore, 1) := by decide +kernel
theorem dX0_takeAway_69 : decode cX0_takeAway 69 = .ok (.iinc 2 1, 3) := by decide +kernel
theorem dX0_takeAway_72 : decode cX0_takeAway 72 = .ok (.goto (-59), 3) := by decide +kernel
theorem dX0_takeAway_75 : decode cX0_takeAway 75 = .ok (.aload_n 0, 1) := by decide +kernel
theorem dX0_takeAway_76 : decode cX0_takeAway 76 = .ok (.dup, 1) := by decide +kernel
theorem dX0_takeAway_77 : decode cX0_takeAway 77 = .ok (.getfield 22, 3) := by decide +kernel
theorem dX0_takeAway_80 : decode cX0_takeAway 80 = .ok (.iconst 1, 1) := by decide +kernel
theorem dX0_takeAway_81 : decode cX0_takeAway 81 = .ok (.isub, 1) := by decide +kernel
theorem dX0_takeAway_82 : decode cX0_takeAway 82 = .ok (.putfield 22, 3) := by decide +kernel
theorem dX0_takeAway_85 : decode cX0_takeAway 85 = .ok (.return_, 1) := by decide +kernel
theorem dX0_become_0 : decode cX0_become 0 = .ok (.aload_n 0, 1) := by decide +kernel
theorem dX0_become_1 : decode cX0_become 1 = .ok (.iconst 0, 1) := by decide +kernel
theorem dX0_become_2 : decode cX0_become 2 = .ok (.putfield 22, 3) := by decide +kernel
theorem dX0_become_5 : decode cX0_become 5 = .ok (.iconst 0, 1) := by decide +kernel
theorem dX0_become_6 : decode cX0_become 6 = .ok (.istore_n 2, 1) := by decide +kernel
theorem dX0_become_7 : decode cX0_become 7 = .ok (.iload_n 2, 1) := by decide +kernel
theorem dX0_become_8 : decode cX0_become 8 = .ok (.aload_n 1, 1) := by decide +kernel
theorem dX0_become_9 : decode cX0_become 9 = .ok (.getfield 22, 3) := by decide +kernel
theorem dX0_become_12 : decode cX0_become 12 = .ok (.if_icmp .ge 28, 3) := by decide +kernel
theorem dX0_become_15 : decode cX0_become 15 = .ok (.aload_n 0, 1) := by decide +kernel
theorem dX0_become_16 : decode cX0_become 16 = .ok (.aload_n 1, 1) := by decide +kernel
theorem dX0_become_17 : decode cX0_become 17 = .ok (.iload_n 2, 1) := by decide +kernel
theorem dX0_become_18 : decode cX0_become 18 = .ok (.invokevirtual 30, 3) := by decide +kernel
theorem dX0_become_21 : decode cX0_become 21 = .ok (.aload_n 1, 1) := by decide +kernel
theorem dX0_become_22 : decode cX0_become 22 = .ok (.iload_n 2, 1) := by decide +kernel
theorem dX0_become_23 : decode cX0_become 23 = .ok (.invokevirtual 34, 3) := by decide +kernel
theorem dX0_become_26 : decode cX0_become 26 = .ok (.aload_n 1, 1) := by decide +kernel
theorem dX0_become_27 : decode cX0_become 27 = .ok (.iload_n 2, 1) := by decide +kernel
theorem dX0_become_28 : decode cX0_become 28 = .ok (.invokevirtual 62, 3) := by decide +kernel
theorem dX0_become_31 : decode cX0_become 31 = .ok (.invokevirtual 58, 3) := by decide +kernel
theorem dX0_become_34 : decode cX0_become 34 = .ok (.iinc 2 1, 3) := by decide +kernel
theorem dX0_become_37 : decode cX0_become 37 = .ok (.goto (-30), 3) := by decide +kernel
theorem dX0_become_40 : decode cX0_become 40 = .ok (.return_, 1) := by decide +kernel
theorem dX1_init_0 : decode cX1_init 0 = .ok (.aload_n 0, 1) := by decide +kernel
theorem dX1_init_1 : decode cX1_init 1 = .ok (.invokespecial 3, 3) := by decide +kernel
theorem dX1_init_4 : decode cX1_init 4 = .ok (.aload_n 0, 1) := by decide +kernel
theorem dX1_init_5 : decode cX1_init 5 = .ok (.new 9, 3) := by decide +kernel
theorem dX1_init_8 : decode cX1_init 8 = .ok (.dup, 1) := by decide +kernel
theorem dX1_init_9 : decode cX1_init 9 = .ok (.bipush 60, 2) := by decide +kernel
theorem dX1_init_11 : decode cX1_init 11 = .ok (.invokespecial 11, 3) := by decide +kernel
theorem dX1_init_14 : decode cX1_init 14 = .ok (.putfield 14, 3) := by decide +kernel
theorem dX1_init_17 : decode cX1_init 17 = .ok (.return_, 1) := by decide +kernel
theorem dX1_length_0 : decode cX1_length 0 = .ok (.aload_n 0, 1) := by decide +kernel
theorem dX1_length_1 : decode cX1_length 1 = .ok (.getfield 14, 3) := by decide +kernel
theorem dX1_length_4 : decode cX1_length 4 = .ok (.invokevirtual 20, 3) := by decide +kernel
theorem dX1_length_7 : decode cX1_length 7 = .ok (.ireturn, 1) := by decide +kernel
theorem dX1_isFull_0 : decode cX1_isFull 0 = .ok (.aload_n 0, 1) := by decide +kernel
theorem dX1_isFull_1 : decode cX1_isFull 1 = .ok (.getfield 14, 3) := by decide +kernel
theorem dX1_isFull_4 : decode cX1_isFull 4 = .ok (.invokevirtual 24, 3) := by decide +kernel
theorem dX1_isFull_7 : decode cX1_isFull 7 = .ok (.ireturn, 1) := by decide +kernel
theorem dX1_codeAt_0 : decode cX1_codeAt 0 = .ok (.aload_n 0, 1) := by decide +kernel
theorem dX1_codeAt_1 : decode cX1_codeAt 1 = .ok (.getfield 14, 3) := by decide +kernel
theorem dX1_codeAt_4 : decode cX1_codeAt 4 = .ok (.iload_n 1, 1) := by decide +kernel
theorem dX1_codeAt_5 : decode cX1_codeAt 5 = .ok (.invokevirtual 28, 3) := by decide +kernel
theorem dX1_codeAt_8 : decode cX1_codeAt 8 = .ok (.ireturn, 1) := by decide +kernel
theorem dX1_put_0 : decode cX1_put 0 = .ok (.aload_n 0, 1) := by decide +kernel
theorem dX1_put_1 : decode cX1_put 1 = .ok (.getfield 14, 3) := by decide +kernel
theorem dX1_put_4 : decode cX1_put 4 = .ok (.iload_n 1, 1) := by decide +kernel
theorem dX1_put_5 : decode cX1_put 5 = .ok (.invokevirtual 32, 3) := by decide +kernel
theorem dX1_put_8 : decode cX1_put 8 = .ok (.return_, 1) := by decide +kernel
theorem dX1_wipe_0 : decode cX1_wipe 0 = .ok (.aload_n 0, 1) := by decide +kernel
theorem dX1_wipe_1 : decode cX1_wipe 1 = .ok (.getfield 14, 3) := by decide +kernel
theorem dX1_wipe_4 : decode cX1_wipe 4 = .ok (.iconst 0, 1) := by decide +kernel
theorem dX1_wipe_5 : decode cX1_wipe 5 = .ok (.invokevirtual 35, 3) := by decide +kernel
theorem dX1_wipe_8 : decode cX1_wipe 8 = .ok (.return_, 1) := by decide +kernel
theorem dX1_firstFault_0 : decode cX1_firstFault 0 = .ok (.iconst (-1), 1) := by decide +kernel
theorem dX1_firstFault_1 : decode cX1_firstFault 1 = .ok (.istore_n 1, 1) := by decide +kernel
theorem dX1_firstFault_2 : decode cX1_firstFault 2 = .ok (.iconst 0, 1) := by decide +kernel
theorem dX1_firstFault_3 : decode cX1_firstFault 3 = .ok (.istore_n 2, 1) := by decide +kernel
theorem dX1_firstFault_4 : decode cX1_firstFault 4 = .ok (.iload_n 2, 1) := by decide +kernel
theorem dX1_firstFault_5 : decode cX1_firstFault 5 = .ok (.aload_n 0, 1) := by decide +kernel
theorem dX1_firstFault_6 : decode cX1_firstFault 6 = .ok (.getfield 14, 3) := by decide +kernel
theorem dX1_firstFault_9 : decode cX1_firstFault 9 = .ok (.invokevirtual 20, 3) := by decide +kernel
theorem dX1_firstFault_12 : decode cX1_firstFault 12 = .ok (.if_icmp .ge 30, 3) := by decide +kernel
theorem dX1_firstFault_15 : decode cX1_firstFault 15 = .ok (.iload_n 1, 1) := by decide +kernel
theorem dX1_firstFault_16 : decode cX1_firstFault 16 = .ok (.aload_n 0, 1) := by decide +kernel
theorem dX1_firstFault_17 : decode cX1_firstFault 17 = .ok (.getfield 14, 3) := by decide +kernel
theorem dX1_firstFault_20 : decode cX1_firstFault 20 = .ok (.iload_n 2, 1) := by decide +kernel
theorem dX1_firstFault_21 : decode cX1_firstFault 21 = .ok (.invokevirtual 28, 3) := by decide +kernel
theorem dX1_firstFault_24 : decode cX1_firstFault 24 = .ok (.invokestatic 38, 3) := by decide +kernel
theorem dX1_firstFault_27 : decode cX1_firstFault 27 = .ok (.istore_n 1, 1) := by decide +kernel
theorem dX1_firstFault_28 : decode cX1_firstFault 28 = .ok (.iload_n 1, 1) := by decide +kernel
theorem dX1_firstFault_29 : decode cX1_firstFault 29 = .ok (.bipush (-2), 2) := by decide +kernel
theorem dX1_firstFault_31 : decode cX1_firstFault 31 = .ok (.if_icmp .ne 5, 3) := by decide +kernel
theorem dX1_firstFault_34 : decode cX1_firstFault 34 = .ok (.iload_n 2, 1) := by decide +kernel
theorem dX1_firstFault_35 : decode cX1_firstFault 35 = .ok (.ireturn, 1) := by decide +kernel
theorem dX1_firstFault_36 : decode cX1_firstFault 36 = .ok (.iinc 2 1, 3) := by decide +kernel
theorem dX1_firstFault_39 : decode cX1_firstFault 39 = .ok (.goto (-35), 3) := by decide +kernel
theorem dX1_firstFault_42 : decode cX1_firstFault 42 = .ok (.aload_n 0, 1) := by decide +kernel
theorem dX1_firstFault_43 : decode cX1_firstFault 43 = .ok (.getfield 14, 3) := by decide +kernel
theorem dX1_firstFault_46 : decode cX1_firstFault 46 = .ok (.invokevirtual 20, 3) := by decide +kernel
theorem dX1_firstFault_49 : decode cX1_firstFault 49 = .ok (.ireturn, 1) := by decide +kernel
theorem dX1_tellStrokes_0 : decode cX1_tellStrokes 0 = .ok (.aload_n 1, 1) := by decide +kernel
theorem dX1_tellStrokes_1 : decode cX1_tellStrokes 1 = .ok (.iconst 0, 1) := by decide +kernel
theorem dX1_tellStrokes_2 : decode cX1_tellStrokes 2 = .ok (.invokevirtual 35, 3) := by decide +kernel
theorem dX1_tellStrokes_5 : decode cX1_tellStrokes 5 = .ok (.iconst (-1), 1) := by decide +kernel
theorem dX1_tellStrokes_6 : decode cX1_tellStrokes 6 = .ok (.istore_n 2, 1) := by decide +kernel
theorem dX1_tellStrokes_7 : decode cX1_tellStrokes 7 = .ok (.iconst 0, 1) := by decide +kernel
theorem dX1_tellStrokes_8 : decode cX1_tellStrokes 8 = .ok (.istore_n 3, 1) := by decide +kernel
theorem dX1_tellStrokes_9 : decode cX1_tellStrokes 9 = .ok (.iconst 0, 1) := by decide +kernel
theorem dX1_tellStrokes_10 : decode cX1_tellStrokes 10 = .ok (.istore 4, 2) := by decide +kernel
theorem dX1_tellStrokes_12 : decode cX1_tellStrokes 12 = .ok (.iload 4, 2) := by decide +kernel
theorem dX1_tellStrokes_14 : decode cX1_tellStrokes 14 = .ok (.aload_n 0, 1) := by decide +kernel
theorem dX1_tellStrokes_15 : decode cX1_tellStrokes 15 = .ok (.getfield 14, 3) := by decide +kernel
theorem dX1_tellStrokes_18 : decode cX1_tellStrokes 18 = .ok (.invokevirtual 20, 3) := by decide +kernel
theorem dX1_tellStrokes_21 : decode cX1_tellStrokes 21 = .ok (.if_icmp .ge 58, 3) := by decide +kernel
theorem dX1_tellStrokes_24 : decode cX1_tellStrokes 24 = .ok (.iload_n 2, 1) := by decide +kernel
theorem dX1_tellStrokes_25 : decode cX1_tellStrokes 25 = .ok (.aload_n 0, 1) := by decide +kernel
theorem dX1_tellStrokes_26 : decode cX1_tellStrokes 26 = .ok (.getfield 14, 3) := by decide +kernel
theorem dX1_tellStrokes_29 : decode cX1_tellStrokes 29 = .ok (.iload 4, 2) := by decide +kernel
theorem dX1_tellStrokes_31 : decode cX1_tellStrokes 31 = .ok (.invokevirtual 28, 3) := by decide +kernel
theorem dX1_tellStrokes_34 : decode cX1_tellStrokes 34 = .ok (.invokestatic 38, 3) := by decide +kernel
theorem dX1_tellStrokes_37 : decode cX1_tellStrokes 37 = .ok (.istore_n 2, 1) := by decide +kernel
theorem dX1_tellStrokes_38 : decode cX1_tellStrokes 38 = .ok (.iload_n 2, 1) := by decide +kernel
theorem dX1_tellStrokes_39 : decode cX1_tellStrokes 39 = .ok (.bipush (-2), 2) := by decide +kernel
theorem dX1_tellStrokes_41 : decode cX1_tellStrokes 41 = .ok (.if_icmp .ne 5, 3) := by decide +kernel
theorem dX1_tellStrokes_44 : decode cX1_tellStrokes 44 = .ok (.iconst 0, 1) := by decide +kernel
theorem dX1_tellStrokes_45 : decode cX1_tellStrokes 45 = .ok (.ireturn, 1) := by decide +kernel
theorem dX1_tellStrokes_46 : decode cX1_tellStrokes 46 = .ok (.iload_n 2, 1) := by decide +kernel
theorem dX1_tellStrokes_47 : decode cX1_tellStrokes 47 = .ok (.iconst (-1), 1) := by decide +kernel
theorem dX1_tellStrokes_48 : decode cX1_tellStrokes 48 = .ok (.if_icmp .ne 13, 3) := by decide +kernel
theorem dX1_tellStrokes_51 : decode cX1_tellStrokes 51 = .ok (.aload_n 1, 1) := by decide +kernel
theorem dX1_tellStrokes_52 : decode cX1_tellStrokes 52 = .ok (.iload_n 3, 1) := by decide +kernel
theorem dX1_tellStrokes_53 : decode cX1_tellStrokes 53 = .ok (.invokevirtual 32, 3) := by decide +kernel
theorem dX1_tellStrokes_56 : decode cX1_tellStrokes 56 = .ok (.iconst 0, 1) := by decide +kernel
theorem dX1_tellStrokes_57 : decode cX1_tellStrokes 57 = .ok (.istore_n 3, 1) := by decide +kernel
theorem dX1_tellStrokes_58 : decode cX1_tellStrokes 58 = .ok (.goto 15, 3) := by decide +kernel
theorem dX1_tellStrokes_61 : decode cX1_tellStrokes 61 = .ok (.iload_n 2, 1) := by decide +kernel
theorem dX1_tellStrokes_62 : decode cX1_tellStrokes 62 = .ok (.bipush 10, 2) := by decide +kernel
theorem dX1_tellStrokes_64 : decode cX1_tellStrokes 64 = .ok (.if_icmp .eq 9, 3) := by decide +kernel
theorem dX1_tellStrokes_67 : decode cX1_tellStrokes 67 = .ok (.iload_n 3, 1) := by decide +kernel
theorem dX1_tellStrokes_68 : decode cX1_tellStrokes 68 = .ok (.iconst 1, 1) := by decide +kernel
theorem dX1_tellStrokes_69 : decode cX1_tellStrokes 69 = .ok (.iload_n 2, 1) := by decide +kernel
theorem dX1_tellStrokes_70 : decode cX1_tellStrokes 70 = .ok (.ishl, 1) := by decide +kernel
theorem dX1_tellStrokes_71 : decode cX1_tellStrokes 71 = .ok (.ior, 1) := by decide +kernel
theorem dX1_tellStrokes_72 : decode cX1_tellStrokes 72 = .ok (.istore_n 3, 1) := by decide +kernel
theorem dX1_tellStrokes_73 : decode cX1_tellStrokes 73 = .ok (.iinc 4 1, 3) := by decide +kernel
theorem dX1_tellStrokes_76 : decode cX1_tellStrokes 76 = .ok (.goto (-64), 3) := by decide +kernel
theorem dX1_tellStrokes_79 : decode cX1_tellStrokes 79 = .ok (.aload_n 1, 1) := by decide +kernel
theorem dX1_tellStrokes_80 : decode cX1_tellStrokes 80 = .ok (.iload_n 3, 1) := by decide +kernel
theorem dX1_tellStrokes_81 : decode cX1_tellStrokes 81 = .ok (.invokevirtual 32, 3) := by decide +kernel
theorem dX1_tellStrokes_84 : decode cX1_tellStrokes 84 = .ok (.iload_n 2, 1) := by decide +kernel
theorem dX1_tellStrokes_85 : decode cX1_tellStrokes 85 = .ok (.iconst (-1), 1) := by decide +kernel
theorem dX1_tellStrokes_86 : decode cX1_tellStrokes 86 = .ok (.if_icmp .eq 7, 3) := by decide +kernel
theorem dX1_tellStrokes_89 : decode cX1_tellStrokes 89 = .ok (.iconst 1, 1) := by decide +kernel
theorem dX1_tellStrokes_90 : decode cX1_tellStrokes 90 = .ok (.goto 4, 3) := by decide +kernel
theorem dX1_tellStrokes_93 : decode cX1_tellStrokes 93 = .ok (.iconst 0, 1) := by decide +kernel
theorem dX1_tellStrokes_94 : decode cX1_tellStrokes 94 = .ok (.ireturn, 1) := by decide +kernel
theorem dX1_standBehind_0 : decode cX1_standBehind 0 = .ok (.iload_n 1, 1) := by decide +kernel
theorem dX1_standBehind_1 : decode cX1_standBehind 1 = .ok (.bipush 47, 2) := by decide +kernel
theorem dX1_standBehind_3 : decode cX1_standBehind 3 = .ok (.if_icmp .ne 15, 3) := by decide +kernel
theorem dX1_standBehind_6 : decode cX1_standBehind 6 = .ok (.iload_n 0, 1) := by decide +kernel
theorem dX1_standBehind_7 : decode cX1_standBehind 7 = .ok (.iconst (-1), 1) := by decide +kernel
theorem dX1_standBehind_8 : decode cX1_standBehind 8 = .ok (.if_icmp .ne 8, 3) := by decide +kernel
theorem dX1_standBehind_11 : decode cX1_standBehind 11 = .ok (.bipush (-2), 2) := by decide +kernel
theorem dX1_standBehind_13 : decode cX1_standBehind 13 = .ok (.goto 4, 3) := by decide +kernel
theorem dX1_standBehind_16 : decode cX1_standBehind 16 = .ok (.iconst (-1), 1) := by decide +kernel
theorem dX1_standBehind_17 : decode cX1_standBehind 17 = .ok (.ireturn, 1) := by decide +kernel
theorem dX1_standBehind_18 : decode cX1_standBehind 18 = .ok (.iload_n 1, 1) := by decide +kernel
theorem dX1_standBehind_19 : decode cX1_standBehind 19 = .ok (.bipush 42, 2) := by decide +kernel
theorem dX1_standBehind_21 : decode cX1_standBehind 21 = .ok (.if_icmp .ne 16, 3) := by decide +kernel
theorem dX1_standBehind_24 : decode cX1_standBehind 24 = .ok (.iload_n 0, 1) := by decide +kernel
theorem dX1_standBehind_25 : decode cX1_standBehind 25 = .ok (.iconst (-1), 1) := by decide +kernel
theorem dX1_standBehind_26 : decode cX1_standBehind 26 = .ok (.if_icmp .ne 8, 3) := by decide +kernel
theorem dX1_standBehind_29 : decode cX1_standBehind 29 = .ok (.bipush 10, 2) := by decide +kernel
theorem dX1_standBehind_31 : decode cX1_standBehind 31 = .ok (.goto 5, 3) := by decide +kernel
theorem dX1_standBehind_34 : decode cX1_standBehind 34 = .ok (.bipush (-2), 2) := by decide +kernel
theorem dX1_standBehind_36 : decode cX1_standBehind 36 = .ok (.ireturn, 1) := by decide +kernel
theorem dX1_standBehind_37 : decode cX1_standBehind 37 = .ok (.ldc 42, 2) := by decide +kernel
theorem dX1_standBehind_39 : decode cX1_standBehind 39 = .ok (.iload_n 1, 1) := by decide +kernel
theorem dX1_standBehind_40 : decode cX1_standBehind 40 = .ok (.i2c, 1) := by decide +kernel
theorem dX1_standBehind_41 : decode cX1_standBehind 41 = .ok (.invokevirtual 44, 3) := by decide +kernel
theorem dX1_standBehind_44 : decode cX1_standBehind 44 = .ok (.istore_n 2, 1) := by decide +kernel
theorem dX1_standBehind_45 : decode cX1_standBehind 45 = .ok (.iload_n 2, 1) := by decide +kernel
theorem dX1_standBehind_46 : decode cX1_standBehind 46 = .ok (.iload_n 0, 1) := by decide +kernel
theorem dX1_standBehind_47 : decode cX1_standBehind 47 = .ok (.if_icmp .le 7, 3) := by decide +kernel
theorem dX1_standBehind_50 : decode cX1_standBehind 50 = .ok (.iload_n 2, 1) := by decide +kernel
theorem dX1_standBehind_51 : decode cX1_standBehind 51 = .ok (.goto 5, 3) := by decide +kernel
theorem dX1_standBehind_54 : decode cX1_standBehind 54 = .ok (.bipush (-2), 2) := by decide +kernel
theorem dX1_standBehind_56 : decode cX1_standBehind 56 = .ok (.ireturn, 1) := by decide +kernel
theorem dX2_init_0 : decode cX2_init 0 = .ok (.aload_n 0, 1) := by decide +kernel
theorem dX2_init_1 : decode cX2_init 1 = .ok (.invokespecial 3, 3) := by decide +kernel
theorem dX2_init_4 : decode cX2_init 4 = .ok (.aload_n 0, 1) := by decide +kernel
theorem dX2_init_5 : decode cX2_init 5 = .ok (.new 9, 3) := by decide +kernel
theorem dX2_init_8 : decode cX2_init 8 = .ok (.dup, 1) := by decide +kernel
theorem dX2_init_9 : decode cX2_init 9 = .ok (.bipush 61, 2) := by decide +kernel
theorem dX2_init_11 : decode cX2_init 11 = .ok (.invokespecial 11, 3) := by decide +kernel
theorem dX2_init_14 : decode cX2_init 14 = .ok (.putfield 14, 3) := by decide +kernel
theorem dX2_init_17 : decode cX2_init 17 = .ok (.aload_n 0, 1) := by decide +kernel
theorem dX2_init_18 : decode cX2_init 18 = .ok (.new 9, 3) := by decide +kernel
theorem dX2_init_21 : decode cX2_init 21 = .ok (.dup, 1) := by decide +kernel
theorem dX2_init_22 : decode cX2_init 22 = .ok (.bipush 61, 2) := by decide +kernel
theorem dX2_init_24 : decode cX2_init 24 = .ok (.invokespecial 11, 3) := by decide +kernel
theorem dX2_init_27 : decode cX2_init 27 = .ok (.putfield 20, 3) := by decide +kernel
theorem dX2_init_30 : decode cX2_init 30 = .ok (.aload_n 0, 1) := by decide +kernel
theorem dX2_init_31 : decode cX2_init 31 = .ok (.new 9, 3) := by decide +kernel
theorem dX2_init_34 : decode cX2_init 34 = .ok (.dup, 1) := by decide +kernel
theorem dX2_init_35 : decode cX2_init 35 = .ok (.bipush 61, 2) := by decide +kernel
theorem dX2_init_37 : decode cX2_init 37 = .ok (.invokespecial 11, 3) := by decide +kernel
theorem dX2_init_40 : decode cX2_init 40 = .ok (.putfield 23, 3) := by decide +kernel
theorem dX2_init_43 : decode cX2_init 43 = .ok (.return_, 1) := by decide +kernel
theorem dX2_size_0 : decode cX2_size 0 = .ok (.aload_n 0, 1) := by decide +kernel
theorem dX2_size_1 : decode cX2_size 1 = .ok (.getfield 14, 3) := by decide +kernel
theorem dX2_size_4 : decode cX2_size 4 = .ok (.invokevirtual 26, 3) := by decide +kernel
theorem dX2_size_7 : decode cX2_size 7 = .ok (.ireturn, 1) := by decide +kernel
theorem dX2_has_0 : decode cX2_has 0 = .ok (.aload_n 0, 1) := by decide +kernel
theorem dX2_has_1 : decode cX2_has 1 = .ok (.getfield 14, 3) := by decide +kernel
theorem dX2_has_4 : decode cX2_has 4 = .ok (.iload_n 1, 1) := by decide +kernel
theorem dX2_has_5 : decode cX2_has 5 = .ok (.invokevirtual 30, 3) := by decide +kernel
theorem dX2_has_8 : decode cX2_has 8 = .ok (.ireturn, 1) := by decide +kernel
theorem dX2_placeAt_0 : decode cX2_placeAt 0 = .ok (.aload_n 0, 1) := by decide +kernel
theorem dX2_placeAt_1 : decode cX2_placeAt 1 = .ok (.getfield 14, 3) := by decide +kernel
theorem dX2_placeAt_4 : decode cX2_placeAt 4 = .ok (.iload_n 1, 1) := by decide +kernel
theorem dX2_placeAt_5 : decode cX2_placeAt 5 = .ok (.invokevirtual 34, 3) := by decide +kernel
theorem dX2_placeAt_8 : decode cX2_placeAt 8 = .ok (.ireturn, 1) := by decide +kernel
theorem dX2_lengthAt_0 : decode cX2_lengthAt 0 = .ok (.aload_n 0, 1) := by decide +kernel
theorem dX2_lengthAt_1 : decode cX2_lengthAt 1 = .ok (.getfield 20, 3) := by decide +kernel
theorem dX2_lengthAt_4 : decode cX2_lengthAt 4 = .ok (.iload_n 1, 1) := by decide +kernel
theorem dX2_lengthAt_5 : decode cX2_lengthAt 5 = .ok (.invokevirtual 34, 3) := by decide +kernel
theorem dX2_lengthAt_8 : decode cX2_lengthAt 8 = .ok (.ireturn, 1) := by decide +kernel
theorem dX2_leaderAt_0 : decode cX2_leaderAt 0 = .ok (.aload_n 0, 1) := by decide +kernel
theorem dX2_leaderAt_1 : decode cX2_leaderAt 1 = .ok (.getfield 23, 3) := by decide +kernel
theorem dX2_leaderAt_4 : decode cX2_leaderAt 4 = .ok (.iload_n 1, 1) := by decide +kernel
theorem dX2_leaderAt_5 : decode cX2_leaderAt 5 = .ok (.invokevirtual 34, 3) := by decide +kernel
theorem dX2_leaderAt_8 : decode cX2_leaderAt 8 = .ok (.ireturn, 1) := by decide +kernel
theorem dX2_itemsOf_0 : decode cX2_itemsOf 0 = .ok (.iconst 0, 1) := by decide +kernel
theorem dX2_itemsOf_1 : decode cX2_itemsOf 1 = .ok (.istore_n 2, 1) := by decide +kernel
theorem dX2_itemsOf_2 : decode cX2_itemsOf 2 = .ok (.iconst 0, 1) := by decide +kernel
theorem dX2_itemsOf_3 : decode cX2_itemsOf 3 = .ok (.istore_n 3, 1) := by decide +kernel
theorem dX2_itemsOf_4 : decode cX2_itemsOf 4 = .ok (.iload_n 3, 1) := by decide +kernel
theorem dX2_itemsOf_5 : decode cX2_itemsOf 5 = .ok (.aload_n 0, 1) := by decide +kernel
theorem dX2_itemsOf_6 : decode cX2_itemsOf 6 = .ok (.getfield 23, 3) := by decide +kernel
theorem dX2_itemsOf_9 : decode cX2_itemsOf 9 = .ok (.invokevirtual 26, 3) := by decide +kernel
theorem dX2_itemsOf_12 : decode cX2_itemsOf 12 = .ok (.if_icmp .ge 24, 3) := by decide +kernel
theorem dX2_itemsOf_15 : decode cX2_itemsOf 15 = .ok (.aload_n 0, 1) := by decide +kernel
theorem dX2_itemsOf_16 : decode cX2_itemsOf 16 = .ok (.getfield 23, 3) := by decide +kernel
theorem dX2_itemsOf_19 : decode cX2_itemsOf 19 = .ok (.iload_n 3, 1) := by decide +kernel
theorem dX2_itemsOf_20 : decode cX2_itemsOf 20 = .ok (.invokevirtual 34, 3) := by decide +kernel
theorem dX2_itemsOf_23 : decode cX2_itemsOf 23 = .ok (.iload_n 1, 1) := by decide +kernel
theorem dX2_itemsOf_24 : decode cX2_itemsOf 24 = .ok (.if_icmp .ne 6, 3) := by decide +kernel
theorem dX2_itemsOf_27 : decode cX2_itemsOf 27 = .ok (.iinc 2 1, 3) := by decide +kernel
theorem dX2_itemsOf_30 : decode cX2_itemsOf 30 = .ok (.iinc 3 1, 3) := by decide +kernel
theorem dX2_itemsOf_33 : decode cX2_itemsOf 33 = .ok (.goto (-29), 3) := by decide +kernel
theorem dX2_itemsOf_36 : decode cX2_itemsOf 36 = .ok (.iload_n 2, 1) := by decide +kernel
theorem dX2_itemsOf_37 : decode cX2_itemsOf 37 = .ok (.ireturn, 1) := by decide +kernel
theorem dX2_dropFrom_0 : decode cX2_dropFrom 0 = .ok (.aload_n 0, 1) := by decide +kernel
theorem dX2_dropFrom_1 : decode cX2_dropFrom 1 = .ok (.invokevirtual 38, 3) := by decide +kernel
theorem dX2_dropFrom_4 : decode cX2_dropFrom 4 = .ok (.iconst 1, 1) := by decide +kernel
theorem dX2_dropFrom_5 : decode cX2_dropFrom 5 = .ok (.isub, 1) := by decide +kernel
theorem dX2_dropFrom_6 : decode cX2_dropFrom 6 = .ok (.istore_n 2, 1) := by decide +kernel
theorem dX2_dropFrom_7 : decode cX2_dropFrom 7 = .ok (.iload_n 2, 1) := by decide +kernel
theorem dX2_dropFrom_8 : decode cX2_dropFrom 8 = .ok (.ifCond .lt 45, 3) := by decide +kernel
theorem dX2_dropFrom_11 : decode cX2_dropFrom 11 = .ok (.aload_n 0, 1) := by decide +kernel
theorem dX2_dropFrom_12 : decode cX2_dropFrom 12 = .ok (.getfield 14, 3) := by decide +kernel
theorem dX2_dropFrom_15 : decode cX2_dropFrom 15 = .ok (.iload_n 2, 1) := by decide +kernel
theorem dX2_dropFrom_16 : decode cX2_dropFrom 16 = .ok (.invokevirtual 34, 3) := by decide +kernel
theorem dX2_dropFrom_19 : decode cX2_dropFrom 19 = .ok (.iload_n 1, 1) := by decide +kernel
theorem dX2_dropFrom_20 : decode cX2_dropFrom 20 = .ok (.if_icmp .lt 33, 3) := by decide +kernel
theorem dX2_dropFrom_23 : decode cX2_dropFrom 23 = .ok (.aload_n 0, 1) := by decide +kernel
theorem dX2_dropFrom_24 : decode cX2_dropFrom 24 = .ok (.getfield 14, 3) := by decide +kernel
theorem dX2_dropFrom_27 : decode cX2_dropFrom 27 = .ok (.iload_n 2, 1) := by decide +kernel
theorem dX2_dropFrom_28 : decode cX2_dropFrom 28 = .ok (.invokevirtual 41, 3) := by decide +kernel
theorem dX2_dropFrom_31 : decode cX2_dropFrom 31 = .ok (.aload_n 0, 1) := by decide +kernel
theorem dX2_dropFrom_32 : decode cX2_dropFrom 32 = .ok (.getfield 20, 3) := by decide +kernel
theorem dX2_dropFrom_35 : decode cX2_dropFrom 35 = .ok (.iload_n 2, 1) := by decide +kernel
theorem dX2_dropFrom_36 : decode cX2_dropFrom 36 = .ok (.invokevirtual 41, 3) := by decide +kernel
theorem dX2_dropFrom_39 : decode cX2_dropFrom 39 = .ok (.aload_n 0, 1) := by decide +kernel
theorem dX2_dropFrom_40 : decode cX2_dropFrom 40 = .ok (.getfield 23, 3) := by decide +kernel
theorem dX2_dropFrom_43 : decode cX2_dropFrom 43 = .ok (.iload_n 2, 1) := by decide +kernel
theorem dX2_dropFrom_44 : decode cX2_dropFrom 44 = .ok (.invokevirtual 41, 3) := by decide +kernel
theorem dX2_dropFrom_47 : decode cX2_dropFrom 47 = .ok (.iinc 2 (-1), 3) := by decide +kernel
theorem dX2_dropFrom_50 : decode cX2_dropFrom 50 = .ok (.goto (-43), 3) := by decide +kernel
theorem dX2_dropFrom_53 : decode cX2_dropFrom 53 = .ok (.return_, 1) := by decide +kernel
theorem dX2_readOn_0 : decode cX2_readOn 0 = .ok (.aload_n 0, 1) := by decide +kernel
theorem dX2_readOn_1 : decode cX2_readOn 1 = .ok (.invokevirtual 38, 3) := by decide +kernel
theorem dX2_readOn_4 : decode cX2_readOn 4 = .ok (.iconst 1, 1) := by decide +kernel
theorem dX2_readOn_5 : decode cX2_readOn 5 = .ok (.isub, 1) := by decide +kernel
theorem dX2_readOn_6 : decode cX2_readOn 6 = .ok (.istore_n 3, 1) := by decide +kernel
theorem dX2_readOn_7 : decode cX2_readOn 7 = .ok (.iload_n 3, 1) := by decide +kernel
theorem dX2_readOn_8 : decode cX2_readOn 8 = .ok (.ifCond .ge 7, 3) := by decide +kernel
theorem dX2_readOn_11 : decode cX2_readOn 11 = .ok (.iconst 0, 1) := by decide +kernel
theorem dX2_readOn_12 : decode cX2_readOn 12 = .ok (.goto 20, 3) := by decide +kernel
theorem dX2_readOn_15 : decode cX2_readOn 15 = .ok (.aload_n 0, 1) := by decide +kernel
theorem dX2_readOn_16 : decode cX2_readOn 16 = .ok (.getfield 14, 3) := by decide +kernel
theorem dX2_readOn_19 : decode cX2_readOn 19 = .ok (.iload_n 3, 1) := by decide +kernel
theorem dX2_readOn_20 : decode cX2_readOn 20 = .ok (.invokevirtual 34, 3) := by decide +kernel
theorem dX2_readOn_23 : decode cX2_readOn 23 = .ok (.aload_n 0, 1) := by decide +kernel
theorem dX2_readOn_24 : decode cX2_readOn 24 = .ok (.getfield 20, 3) := by decide +kernel
theorem dX2_readOn_27 : decode cX2_readOn 27 = .ok (.iload_n 3, 1) := by decide +kernel
theorem dX2_readOn_28 : decode cX2_readOn 28 = .ok (.invokevirtual 34, 3) := by decide +kernel
theorem dX2_readOn_31 : decode cX2_readOn 31 = .ok (.iadd, 1) := by decide +kernel
theorem dX2_readOn_32 : decode cX2_readOn 32 = .ok (.istore 4, 2) := by decide +kernel
theorem dX2_readOn_34 : decode cX2_readOn 34 = .ok (.iload 4, 2) := by decide +kernel
theorem dX2_readOn_36 : decode cX2_readOn 36 = .ok (.istore 5, 2) := by decide +kernel
theorem dX2_readOn_38 : decode cX2_readOn 38 = .ok (.iload 5, 2) := by decide +kernel
theorem dX2_readOn_40 : decode cX2_readOn 40 = .ok (.aload_n 1, 1) := by decide +kernel
theorem dX2_readOn_41 : decode cX2_readOn 41 = .ok (.invokevirtual 26, 3) := by decide +kernel
theorem dX2_readOn_44 : decode cX2_readOn 44 = .ok (.if_icmp .ge 87, 3) := by decide +kernel
theorem dX2_readOn_47 : decode cX2_readOn 47 = .ok (.iload 5, 2) := by decide +kernel
theorem dX2_readOn_49 : decode cX2_readOn 49 = .ok (.iload 4, 2) := by decide +kernel
theorem dX2_readOn_51 : decode cX2_readOn 51 = .ok (.if_icmp .ne 74, 3) := by decide +kernel
theorem dX2_readOn_54 : decode cX2_readOn 54 = .ok (.aload_n 2, 1) := by decide +kernel
theorem dX2_readOn_55 : decode cX2_readOn 55 = .ok (.getfield 44, 3) := by decide +kernel
theorem dX2_readOn_58 : decode cX2_readOn 58 = .ok (.aload_n 1, 1) := by decide +kernel
theorem dX2_readOn_59 : decode cX2_readOn 59 = .ok (.iload 5, 2) := by decide +kernel
theorem dX2_readOn_61 : decode cX2_readOn 61 = .ok (.aload_n 2, 1) := by decide +kernel
theorem dX2_readOn_62 : decode cX2_readOn 62 = .ok (.getfield 50, 3) := by decide +kernel
theorem dX2_readOn_65 : decode cX2_readOn 65 = .ok (.invokevirtual 54, 3) := by decide +kernel
theorem dX2_readOn_68 : decode cX2_readOn 68 = .ok (.istore 6, 2) := by decide +kernel
theorem dX2_readOn_70 : decode cX2_readOn 70 = .ok (.iconst 1, 1) := by decide +kernel
theorem dX2_readOn_71 : decode cX2_readOn 71 = .ok (.iload 6, 2) := by decide +kernel
theorem dX2_readOn_73 : decode cX2_readOn 73 = .ok (.invokestatic 60, 3) := by decide +kernel
theorem dX2_readOn_76 : decode cX2_readOn 76 = .ok (.istore 6, 2) := by decide +kernel
theorem dX2_readOn_78 : decode cX2_readOn 78 = .ok (.aload_n 0, 1) := by decide +kernel
theorem dX2_readOn_79 : decode cX2_readOn 79 = .ok (.getfield 14, 3) := by decide +kernel
theorem dX2_readOn_82 : decode cX2_readOn 82 = .ok (.iload 5, 2) := by decide +kernel
theorem dX2_readOn_84 : decode cX2_readOn 84 = .ok (.invokevirtual 66, 3) := by decide +kernel
theorem dX2_readOn_87 : decode cX2_readOn 87 = .ok (.aload_n 0, 1) := by decide +kernel
theorem dX2_readOn_88 : decode cX2_readOn 88 = .ok (.getfield 20, 3) := by decide +kernel
theorem dX2_readOn_91 : decode cX2_readOn 91 = .ok (.iload 6, 2) := by decide +kernel
theorem dX2_readOn_93 : decode cX2_readOn 93 = .ok (.invokevirtual 66, 3) := by decide +kernel
theorem dX2_readOn_96 : decode cX2_readOn 96 = .ok (.aload_n 0, 1) := by decide +kernel
theorem dX2_readOn_97 : decode cX2_readOn 97 = .ok (.getfield 23, 3) := by decide +kernel
theorem dX2_readOn_100 : decode cX2_readOn 100 = .ok (.aload_n 2, 1) := by decide +kernel
theorem dX2_readOn_101 : decode cX2_readOn 101 = .ok (.getfield 44, 3) := by decide +kernel
theorem dX2_readOn_104 : decode cX2_readOn 104 = .ok (.aload_n 1, 1) := by decide +kernel
theorem dX2_readOn_105 : decode cX2_readOn 105 = .ok (.iload 5, 2) := by decide +kernel
theorem dX2_readOn_107 : decode cX2_readOn 107 = .ok (.iload 6, 2) := by decide +kernel
theorem dX2_readOn_109 : decode cX2_readOn 109 = .ok (.invokevirtual 69, 3) := by decide +kernel
theorem dX2_readOn_112 : decode cX2_readOn 112 = .ok (.invokevirtual 73, 3) := by decide +kernel
theorem dX2_readOn_115 : decode cX2_readOn 115 = .ok (.invokevirtual 66, 3) := by decide +kernel
theorem dX2_readOn_118 : decode cX2_readOn 118 = .ok (.iload 5, 2) := by decide +kernel
theorem dX2_readOn_120 : decode cX2_readOn 120 = .ok (.iload 6, 2) := by decide +kernel
theorem dX2_readOn_122 : decode cX2_readOn 122 = .ok (.iadd, 1) := by decide +kernel
theorem dX2_readOn_123 : decode cX2_readOn 123 = .ok (.istore 4, 2) := by decide +kernel
theorem dX2_readOn_125 : decode cX2_readOn 125 = .ok (.iinc 5 1, 3) := by decide +kernel
theorem dX2_readOn_128 : decode cX2_readOn 128 = .ok (.goto (-90), 3) := by decide +kernel
theorem dX2_readOn_131 : decode cX2_readOn 131 = .ok (.return_, 1) := by decide +kernel
theorem dX3_init_0 : decode cX3_init 0 = .ok (.aload_n 0, 1) := by decide +kernel
theorem dX3_init_1 : decode cX3_init 1 = .ok (.invokespecial 3, 3) := by decide +kernel
theorem dX3_init_4 : decode cX3_init 4 = .ok (.aload_n 0, 1) := by decide +kernel
theorem dX3_init_5 : decode cX3_init 5 = .ok (.iload_n 1, 1) := by decide +kernel
theorem dX3_init_6 : decode cX3_init 6 = .ok (.iconst 0, 1) := by decide +kernel
theorem dX3_init_7 : decode cX3_init 7 = .ok (.invokestatic 9, 3) := by decide +kernel
theorem dX3_init_10 : decode cX3_init 10 = .ok (.newarray .int, 2) := by decide +kernel
theorem dX3_init_12 : decode cX3_init 12 = .ok (.putfield 15, 3) := by decide +kernel
theorem dX3_init_15 : decode cX3_init 15 = .ok (.return_, 1) := by decide +kernel
theorem dX3_length_0 : decode cX3_length 0 = .ok (.aload_n 0, 1) := by decide +kernel
theorem dX3_length_1 : decode cX3_length 1 = .ok (.getfield 21, 3) := by decide +kernel
theorem dX3_length_4 : decode cX3_length 4 = .ok (.ireturn, 1) := by decide +kernel
theorem dX3_has_0 : decode cX3_has 0 = .ok (.iload_n 1, 1) := by decide +kernel
theorem dX3_has_1 : decode cX3_has 1 = .ok (.ifCond .lt 24, 3) := by decide +kernel
theorem dX3_has_4 : decode cX3_has 4 = .ok (.iload_n 1, 1) := by decide +kernel
theorem dX3_has_5 : decode cX3_has 5 = .ok (.aload_n 0, 1) := by decide +kernel
theorem dX3_has_6 : decode cX3_has 6 = .ok (.getfield 21, 3) := by decide +kernel
theorem dX3_has_9 : decode cX3_has 9 = .ok (.if_icmp .ge 16, 3) := by decide +kernel
theorem dX3_has_12 : decode cX3_has 12 = .ok (.iload_n 1, 1) := by decide +kernel
theorem dX3_has_13 : decode cX3_has 13 = .ok (.aload_n 0, 1) := by decide +kernel
theorem dX3_has_14 : decode cX3_has 14 = .ok (.getfield 15, 3) := by decide +kernel
theorem dX3_has_17 : decode cX3_has 17 = .ok (.arraylength, 1) := by decide +kernel
theorem dX3_has_18 : decode cX3_has 18 = .ok (.if_icmp .ge 7, 3) := by decide +kernel
theorem dX3_has_21 : decode cX3_has 21 = .ok (.iconst 1, 1) := by decide +kernel
theorem dX3_has_22 : decode cX3_has 22 = .ok (.goto 4, 3) := by decide +kernel
theorem dX3_has_25 : decode cX3_has 25 = .ok (.iconst 0, 1) := by decide +kernel
theorem dX3_has_26 : decode cX3_has 26 = .ok (.ireturn, 1) := by decide +kernel
theorem dX3_isFull_0 : decode cX3_isFull 0 = .ok (.aload_n 0, 1) := by decide +kernel
theorem dX3_isFull_1 : decode cX3_isFull 1 = .ok (.getfield 21, 3) := by decide +kernel
theorem dX3_isFull_4 : decode cX3_isFull 4 = .ok (.aload_n 0, 1) := by decide +kernel
theorem dX3_isFull_5 : decode cX3_isFull 5 = .ok (.getfield 15, 3) := by decide +kernel
theorem dX3_isFull_8 : decode cX3_isFull 8 = .ok (.arraylength, 1) := by decide +kernel
theorem dX3_isFull_9 : decode cX3_isFull 9 = .ok (.if_icmp .lt 7, 3) := by decide +kernel
theorem dX3_isFull_12 : decode cX3_isFull 12 = .ok (.iconst 1, 1) := by decide +kernel
theorem dX3_isFull_13 : decode cX3_isFull 13 = .ok (.goto 4, 3) := by decide +kernel
theorem dX3_isFull_16 : decode cX3_isFull 16 = .ok (.iconst 0, 1) := by decide +kernel
theorem dX3_isFull_17 : decode cX3_isFull 17 = .ok (.ireturn, 1) := by decide +kernel
theorem dX3_at_0 : decode cX3_at 0 = .ok (.aload_n 0, 1) := by decide +kernel
theorem dX3_at_1 : decode cX3_at 1 = .ok (.iload_n 1, 1) := by decide +kernel
theorem dX3_at_2 : decode cX3_at 2 = .ok (.invokevirtual 25, 3) := by decide +kernel
theorem dX3_at_5 : decode cX3_at 5 = .ok (.ifCond .eq 12, 3) := by decide +kernel
theorem dX3_at_8 : decode cX3_at 8 = .ok (.aload_n 0, 1) := by decide +kernel
theorem dX3_at_9 : decode cX3_at 9 = .ok (.getfield 15, 3) := by decide +kernel
theorem dX3_at_12 : decode cX3_at 12 = .ok (.iload_n 1, 1) := by decide +kernel
theorem dX3_at_13 : decode cX3_at 13 = .ok (.iaload, 1) := by decide +kernel
theorem dX3_at_14 : decode cX3_at 14 = .ok (.goto 4, 3) := by decide +kernel
theorem dX3_at_17 : decode cX3_at 17 = .ok (.iconst (-1), 1) := by decide +kernel
theorem dX3_at_18 : decode cX3_at 18 = .ok (.ireturn, 1) := by decide +kernel
theorem dX3_put_0 : decode cX3_put 0 = .ok (.aload_n 0, 1) := by decide +kernel
theorem dX3_put_1 : decode cX3_put 1 = .ok (.getfield 21, 3) := by decide +kernel
theorem dX3_put_4 : decode cX3_put 4 = .ok (.ifCond .lt 35, 3) := by decide +kernel
theorem dX3_put_7 : decode cX3_put 7 = .ok (.aload_n 0, 1) := by decide +kernel
theorem dX3_put_8 : decode cX3_put 8 = .ok (.getfield 21, 3) := by decide +kernel
theorem dX3_put_11 : decode cX3_put 11 = .ok (.aload_n 0, 1) := by decide +kernel
theorem dX3_put_12 : decode cX3_put 12 = .ok (.getfield 15, 3) := by decide +kernel
theorem dX3_put_15 : decode cX3_put 15 = .ok (.arraylength, 1) := by decide +kernel
theorem dX3_put_16 : decode cX3_put 16 = .ok (.if_icmp .ge 23, 3) := by decide +kernel
theorem dX3_put_19 : decode cX3_put 19 = .ok (.aload_n 0, 1) := by decide +kernel
theorem dX3_put_20 : decode cX3_put 20 = .ok (.getfield 15, 3) := by decide +kernel
theorem dX3_put_23 : decode cX3_put 23 = .ok (.aload_n 0, 1) := by decide +kernel
theorem dX3_put_24 : decode cX3_put 24 = .ok (.getfield 21, 3) := by decide +kernel
theorem dX3_put_27 : decode cX3_put 27 = .ok (.iload_n 1, 1) := by decide +kernel
theorem dX3_put_28 : decode cX3_put 28 = .ok (.iastore, 1) := by decide +kernel
theorem dX3_put_29 : decode cX3_put 29 = .ok (.aload_n 0, 1) := by decide +kernel
theorem dX3_put_30 : decode cX3_put 30 = .ok (.dup, 1) := by decide +kernel
theorem dX3_put_31 : decode cX3_put 31 = .ok (.getfield 21, 3) := by decide +kernel
theorem dX3_put_34 : decode cX3_put 34 = .ok (.iconst 1, 1) := by decide +kernel
theorem dX3_put_35 : decode cX3_put 35 = .ok (.iadd, 1) := by decide +kernel
theorem dX3_put_36 : decode cX3_put 36 = .ok (.putfield 21, 3) := by decide +kernel
theorem dX3_put_39 : decode cX3_put 39 = .ok (.return_, 1) := by decide +kernel
theorem dX3_shorten_0 : decode cX3_shorten 0 = .ok (.iload_n 1, 1) := by decide +kernel
theorem dX3_shorten_1 : decode cX3_shorten 1 = .ok (.ifCond .lt 16, 3) := by decide +kernel
theorem dX3_shorten_4 : decode cX3_shorten 4 = .ok (.iload_n 1, 1) := by decide +kernel
theorem dX3_shorten_5 : decode cX3_shorten 5 = .ok (.aload_n 0, 1) := by decide +kernel
theorem dX3_shorten_6 : decode cX3_shorten 6 = .ok (.getfield 21, 3) := by decide +kernel
theorem dX3_shorten_9 : decode cX3_shorten 9 = .ok (.if_icmp .ge 8, 3) := by decide +kernel
theorem dX3_shorten_12 : decode cX3_shorten 12 = .ok (.aload_n 0, 1) := by decide +kernel
theorem dX3_shorten_13 : decode cX3_shorten 13 = .ok (.iload_n 1, 1) := by decide +kernel
theorem dX3_shorten_14 : decode cX3_shorten 14 = .ok (.putfield 21, 3) := by decide +kernel
theorem dX3_shorten_17 : decode cX3_shorten 17 = .ok (.return_, 1) := by decide +kernel
theorem dX3_packed_0 : decode cX3_packed 0 = .ok (.lconst 0, 1) := by decide +kernel
theorem dX3_packed_1 : decode cX3_packed 1 = .ok (.lstore_n 3, 1) := by decide +kernel
theorem dX3_packed_2 : decode cX3_packed 2 = .ok (.iconst 0, 1) := by decide +kernel
theorem dX3_packed_3 : decode cX3_packed 3 = .ok (.istore 5, 2) := by decide +kernel
theorem dX3_packed_5 : decode cX3_packed 5 = .ok (.iload 5, 2) := by decide +kernel
theorem dX3_packed_7 : decode cX3_packed 7 = .ok (.iload_n 2, 1) := by decide +kernel
theorem dX3_packed_8 : decode cX3_packed 8 = .ok (.if_icmp .ge 56, 3) := by decide +kernel
theorem dX3_packed_11 : decode cX3_packed 11 = .ok (.iload_n 1, 1) := by decide +kernel
theorem dX3_packed_12 : decode cX3_packed 12 = .ok (.iload 5, 2) := by decide +kernel
theorem dX3_packed_14 : decode cX3_packed 14 = .ok (.iadd, 1) := by decide +kernel
theorem dX3_packed_15 : decode cX3_packed 15 = .ok (.istore 6, 2) := by decide +kernel
theorem dX3_packed_17 : decode cX3_packed 17 = .ok (.iload 6, 2) := by decide +kernel
theorem dX3_packed_19 : decode cX3_packed 19 = .ok (.ifCond .lt 39, 3) := by decide +kernel
theorem dX3_packed_22 : decode cX3_packed 22 = .ok (.iload 6, 2) := by decide +kernel
theorem dX3_packed_24 : decode cX3_packed 24 = .ok (.aload_n 0, 1) := by decide +kernel
theorem dX3_packed_25 : decode cX3_packed 25 = .ok (.getfield 21, 3) := by decide +kernel
theorem dX3_packed_28 : decode cX3_packed 28 = .ok (.if_icmp .ge 30, 3) := by decide +kernel
theorem dX3_packed_31 : decode cX3_packed 31 = .ok (.iload 6, 2) := by decide +kernel
theorem dX3_packed_33 : decode cX3_packed 33 = .ok (.aload_n 0, 1) := by decide +kernel
theorem dX3_packed_34 : decode cX3_packed 34 = .ok (.getfield 15, 3) := by decide +kernel
theorem dX3_packed_37 : decode cX3_packed 37 = .ok (.arraylength, 1) := by decide +kernel
theorem dX3_packed_38 : decode cX3_packed 38 = .ok (.if_icmp .ge 20, 3) := by decide +kernel
theorem dX3_packed_41 : decode cX3_packed 41 = .ok (.lload_n 3, 1) := by decide +kernel
theorem dX3_packed_42 : decode cX3_packed 42 = .ok (.aload_n 0, 1) := by decide +kernel
theorem dX3_packed_43 : decode cX3_packed 43 = .ok (.getfield 15, 3) := by decide +kernel
theorem dX3_packed_46 : decode cX3_packed 46 = .ok (.iload 6, 2) := by decide +kernel
theorem dX3_packed_48 : decode cX3_packed 48 = .ok (.iaload, 1) := by decide +kernel
theorem dX3_packed_49 : decode cX3_packed 49 = .ok (.i2l, 1) := by decide +kernel
theorem dX3_packed_50 : decode cX3_packed 50 = .ok (.bipush 10, 2) := by decide +kernel
theorem dX3_packed_52 : decode cX3_packed 52 = .ok (.iload 5, 2) := by decide +kernel
theorem dX3_packed_54 : decode cX3_packed 54 = .ok (.imul, 1) := by decide +kernel
theorem dX3_packed_55 : decode cX3_packed 55 = .ok (.lshl, 1) := by decide +kernel
theorem dX3_packed_56 : decode cX3_packed 56 = .ok (.lor, 1) := by decide +kernel
theorem dX3_packed_57 : decode cX3_packed 57 = .ok (.lstore_n 3, 1) := by decide +kernel
theorem dX3_packed_58 : decode cX3_packed 58 = .ok (.iinc 5 1, 3) := by decide +kernel
theorem dX3_packed_61 : decode cX3_packed 61 = .ok (.goto (-56), 3) := by decide +kernel
theorem dX3_packed_64 : decode cX3_packed 64 = .ok (.lload_n 3, 1) := by decide +kernel
theorem dX3_packed_65 : decode cX3_packed 65 = .ok (.lreturn, 1) := by decide +kernel
theorem dX3_become_0 : decode cX3_become 0 = .ok (.aload_n 0, 1) := by decide +kernel
theorem dX3_become_1 : decode cX3_become 1 = .ok (.iconst 0, 1) := by decide +kernel
theorem dX3_become_2 : decode cX3_become 2 = .ok (.putfield 21, 3) := by decide +kernel
theorem dX3_become_5 : decode cX3_become 5 = .ok (.iconst 0, 1) := by decide +kernel
theorem dX3_become_6 : decode cX3_become 6 = .ok (.istore_n 2, 1) := by decide +kernel
theorem dX3_become_7 : decode cX3_become 7 = .ok (.iload_n 2, 1) := by decide +kernel
theorem dX3_become_8 : decode cX3_become 8 = .ok (.aload_n 1, 1) := by decide +kernel
theorem dX3_become_9 : decode cX3_become 9 = .ok (.getfield 21, 3) := by decide +kernel
theorem dX3_become_12 : decode cX3_become 12 = .ok (.if_icmp .ge 18, 3) := by decide +kernel
theorem dX3_become_15 : decode cX3_become 15 = .ok (.aload_n 0, 1) := by decide +kernel
theorem dX3_become_16 : decode cX3_become 16 = .ok (.aload_n 1, 1) := by decide +kernel
theorem dX3_become_17 : decode cX3_become 17 = .ok (.iload_n 2, 1) := by decide +kernel
theorem dX3_become_18 : decode cX3_become 18 = .ok (.invokevirtual 29, 3) := by decide +kernel
theorem dX3_become_21 : decode cX3_become 21 = .ok (.invokevirtual 33, 3) := by decide +kernel
theorem dX3_become_24 : decode cX3_become 24 = .ok (.iinc 2 1, 3) := by decide +kernel
theorem dX3_become_27 : decode cX3_become 27 = .ok (.goto (-20), 3) := by decide +kernel
theorem dX3_become_30 : decode cX3_become 30 = .ok (.return_, 1) := by decide +kernel
theorem dX4_init_0 : decode cX4_init 0 = .ok (.aload_n 0, 1) := by decide +kernel
theorem dX4_init_1 : decode cX4_init 1 = .ok (.invokespecial 3, 3) := by decide +kernel
theorem dX4_init_4 : decode cX4_init 4 = .ok (.aload_n 0, 1) := by decide +kernel
theorem dX4_init_5 : decode cX4_init 5 = .ok (.bipush 6, 2) := by decide +kernel
theorem dX4_init_7 : decode cX4_init 7 = .ok (.anewarray 9, 3) := by decide +kernel
theorem dX4_init_10 : decode cX4_init 10 = .ok (.putfield 11, 3) := by decide +kernel
theorem dX4_init_13 : decode cX4_init 13 = .ok (.iconst 0, 1) := by decide +kernel
theorem dX4_init_14 : decode cX4_init 14 = .ok (.istore_n 1, 1) := by decide +kernel
theorem dX4_init_15 : decode cX4_init 15 = .ok (.iload_n 1, 1) := by decide +kernel
theorem dX4_init_16 : decode cX4_init 16 = .ok (.aload_n 0, 1) := by decide +kernel
theorem dX4_init_17 : decode cX4_init 17 = .ok (.getfield 11, 3) := by decide +kernel
theorem dX4_init_20 : decode cX4_init 20 = .ok (.arraylength, 1) := by decide +kernel
theorem dX4_init_21 : decode cX4_init 21 = .ok (.if_icmp .ge 22, 3) := by decide +kernel
theorem dX4_init_24 : decode cX4_init 24 = .ok (.aload_n 0, 1) := by decide +kernel
theorem dX4_init_25 : decode cX4_init 25 = .ok (.getfield 11, 3) := by decide +kernel
theorem dX4_init_28 : decode cX4_init 28 = .ok (.iload_n 1, 1) := by decide +kernel
theorem dX4_init_29 : decode cX4_init 29 = .ok (.new 9, 3) := by decide +kernel
theorem dX4_init_32 : decode cX4_init 32 = .ok (.dup, 1) := by decide +kernel
theorem dX4_init_33 : decode cX4_init 33 = .ok (.invokespecial 17, 3) := by decide +kernel
theorem dX4_init_36 : decode cX4_init 36 = .ok (.aastore, 1) := by decide +kernel
theorem dX4_init_37 : decode cX4_init 37 = .ok (.iinc 1 1, 3) := by decide +kernel
theorem dX4_init_40 : decode cX4_init 40 = .ok (.goto (-25), 3) := by decide +kernel
theorem dX4_init_43 : decode cX4_init 43 = .ok (.return_, 1) := by decide +kernel
theorem dX4_size_0 : decode cX4_size 0 = .ok (.aload_n 0, 1) := by decide +kernel
theorem dX4_size_1 : decode cX4_size 1 = .ok (.getfield 18, 3) := by decide +kernel
theorem dX4_size_4 : decode cX4_size 4 = .ok (.ireturn, 1) := by decide +kernel
theorem dX4_push_0 : decode cX4_push 0 = .ok (.aload_n 0, 1) := by decide +kernel
theorem dX4_push_1 : decode cX4_push 1 = .ok (.aload_n 0, 1) := by decide +kernel
theorem dX4_push_2 : decode cX4_push 2 = .ok (.getfield 18, 3) := by decide +kernel
theorem dX4_push_5 : decode cX4_push 5 = .ok (.invokevirtual 22, 3) := by decide +kernel
theorem dX4_push_8 : decode cX4_push 8 = .ok (.astore_n 2, 1) := by decide +kernel
theorem dX4_push_9 : decode cX4_push 9 = .ok (.aload_n 2, 1) := by decide +kernel
theorem dX4_push_10 : decode cX4_push 10 = .ok (.ifnull 8, 3) := by decide +kernel
theorem dX4_push_13 : decode cX4_push 13 = .ok (.aload_n 2, 1) := by decide +kernel
theorem dX4_push_14 : decode cX4_push 14 = .ok (.aload_n 1, 1) := by decide +kernel
theorem dX4_push_15 : decode cX4_push 15 = .ok (.invokevirtual 26, 3) := by decide +kernel
theorem dX4_push_18 : decode cX4_push 18 = .ok (.aload_n 0, 1) := by decide +kernel
theorem dX4_push_19 : decode cX4_push 19 = .ok (.getfield 18, 3) := by decide +kernel
theorem dX4_push_22 : decode cX4_push 22 = .ok (.bipush 6, 2) := by decide +kernel
theorem dX4_push_24 : decode cX4_push 24 = .ok (.if_icmp .ge 16, 3) := by decide +kernel
theorem dX4_push_27 : decode cX4_push 27 = .ok (.aload_n 0, 1) := by decide +kernel
theorem dX4_push_28 : decode cX4_push 28 = .ok (.dup, 1) := by decide +kernel
theorem dX4_push_29 : decode cX4_push 29 = .ok (.getfield 18, 3) := by decide +kernel
theorem dX4_push_32 : decode cX4_push 32 = .ok (.iconst 1, 1) := by decide +kernel
theorem dX4_push_33 : decode cX4_push 33 = .ok (.iadd, 1) := by decide +kernel
theorem dX4_push_34 : decode cX4_push 34 = .ok (.putfield 18, 3) := by decide +kernel
theorem dX4_push_37 : decode cX4_push 37 = .ok (.goto 18, 3) := by decide +kernel
theorem dX4_push_40 : decode cX4_push 40 = .ok (.aload_n 0, 1) := by decide +kernel
theorem dX4_push_41 : decode cX4_push 41 = .ok (.aload_n 0, 1) := by decide +kernel
theorem dX4_push_42 : decode cX4_push 42 = .ok (.getfield 30, 3) := by decide +kernel
theorem dX4_push_45 : decode cX4_push 45 = .ok (.iconst 1, 1) := by decide +kernel
theorem dX4_push_46 : decode cX4_push 46 = .ok (.iadd, 1) := by decide +kernel
theorem dX4_push_47 : decode cX4_push 47 = .ok (.bipush 6, 2) := by decide +kernel
theorem dX4_push_49 : decode cX4_push 49 = .ok (.invokestatic 33, 3) := by decide +kernel
theorem dX4_push_52 : decode cX4_push 52 = .ok (.putfield 30, 3) := by decide +kernel
theorem dX4_push_55 : decode cX4_push 55 = .ok (.return_, 1) := by decide +kernel
theorem dX4_popInto_0 : decode cX4_popInto 0 = .ok (.aload_n 0, 1) := by decide +kernel
theorem dX4_popInto_1 : decode cX4_popInto 1 = .ok (.getfield 18, 3) := by decide +kernel
theorem dX4_popInto_4 : decode cX4_popInto 4 = .ok (.ifCond .le 31, 3) := by decide +kernel
theorem dX4_popInto_7 : decode cX4_popInto 7 = .ok (.aload_n 0, 1) := by decide +kernel
theorem dX4_popInto_8 : decode cX4_popInto 8 = .ok (.dup, 1) := by decide +kernel
theorem dX4_popInto_9 : decode cX4_popInto 9 = .ok (.getfield 18, 3) := by decide +kernel
theorem dX4_popInto_12 : decode cX4_popInto 12 = .ok (.iconst 1, 1) := by decide +kernel
theorem dX4_popInto_13 : decode cX4_popInto 13 = .ok (.isub, 1) := by decide +kernel
theorem dX4_popInto_14 : decode cX4_popInto 14 = .ok (.putfield 18, 3) := by decide +kernel
theorem dX4_popInto_17 : decode cX4_popInto 17 = .ok (.aload_n 0, 1) := by decide +kernel
theorem dX4_popInto_18 : decode cX4_popInto 18 = .ok (.aload_n 0, 1) := by decide +kernel
theorem dX4_popInto_19 : decode cX4_popInto 19 = .ok (.getfield 18, 3) := by decide +kernel
theorem dX4_popInto_22 : decode cX4_popInto 22 = .ok (.invokevirtual 22, 3) := by decide +kernel
theorem dX4_popInto_25 : decode cX4_popInto 25 = .ok (.astore_n 2, 1) := by decide +kernel
theorem dX4_popInto_26 : decode cX4_popInto 26 = .ok (.aload_n 2, 1) := by decide +kernel
theorem dX4_popInto_27 : decode cX4_popInto 27 = .ok (.ifnull 8, 3) := by decide +kernel
theorem dX4_popInto_30 : decode cX4_popInto 30 = .ok (.aload_n 1, 1) := by decide +kernel
theorem dX4_popInto_31 : decode cX4_popInto 31 = .ok (.aload_n 2, 1) := by decide +kernel
theorem dX4_popInto_32 : decode cX4_popInto 32 = .ok (.invokevirtual 26, 3) := by decide +kernel
theorem dX4_popInto_35 : decode cX4_popInto 35 = .ok (.return_, 1) := by decide +kernel
theorem dX4_slotBehindOldest_0 : decode cX4_slotBehindOldest 0 = .ok (.aload_n 0, 1) := by decide +kernel
theorem dX4_slotBehindOldest_1 : decode cX4_slotBehindOldest 1 = .ok (.getfield 30, 3) := by decide +kernel
theorem dX4_slotBehindOldest_4 : decode cX4_slotBehindOldest 4 = .ok (.iload_n 1, 1) := by decide +kernel
theorem dX4_slotBehindOldest_5 : decode cX4_slotBehindOldest 5 = .ok (.iadd, 1) := by decide +kernel
theorem dX4_slotBehindOldest_6 : decode cX4_slotBehindOldest 6 = .ok (.bipush 6, 2) := by decide +kernel
theorem dX4_slotBehindOldest_8 : decode cX4_slotBehindOldest 8 = .ok (.invokestatic 33, 3) := by decide +kernel
theorem dX4_slotBehindOldest_11 : decode cX4_slotBehindOldest 11 = .ok (.istore_n 2, 1) := by decide +kernel
theorem dX4_slotBehindOldest_12 : decode cX4_slotBehindOldest 12 = .ok (.iload_n 2, 1) := by decide +kernel
theorem dX4_slotBehindOldest_13 : decode cX4_slotBehindOldest 13 = .ok (.ifCond .lt 21, 3) := by decide +kernel
theorem dX4_slotBehindOldest_16 : decode cX4_slotBehindOldest 16 = .ok (.iload_n 2, 1) := by decide +kernel
theorem dX4_slotBehindOldest_17 : decode cX4_slotBehindOldest 17 = .ok (.aload_n 0, 1) := by decide +kernel
theorem dX4_slotBehindOldest_18 : decode cX4_slotBehindOldest 18 = .ok (.getfield 11, 3) := by decide +kernel
theorem dX4_slotBehindOldest_21 : decode cX4_slotBehindOldest 21 = .ok (.arraylength, 1) := by decide +kernel
theorem dX4_slotBehindOldest_22 : decode cX4_slotBehindOldest 22 = .ok (.if_icmp .ge 12, 3) := by decide +kernel
theorem dX4_slotBehindOldest_25 : decode cX4_slotBehindOldest 25 = .ok (.aload_n 0, 1) := by decide +kernel
theorem dX4_slotBehindOldest_26 : decode cX4_slotBehindOldest 26 = .ok (.getfield 11, 3) := by decide +kernel
theorem dX4_slotBehindOldest_29 : decode cX4_slotBehindOldest 29 = .ok (.iload_n 2, 1) := by decide +kernel
theorem dX4_slotBehindOldest_30 : decode cX4_slotBehindOldest 30 = .ok (.aaload, 1) := by decide +kernel
theorem dX4_slotBehindOldest_31 : decode cX4_slotBehindOldest 31 = .ok (.goto 4, 3) := by decide +kernel
theorem dX4_slotBehindOldest_34 : decode cX4_slotBehindOldest 34 = .ok (.aconst_null, 1) := by decide +kernel
theorem dX4_slotBehindOldest_35 : decode cX4_slotBehindOldest 35 = .ok (.areturn, 1) := by decide +kernel
theorem dX5_init_0 : decode cX5_init 0 = .ok (.aload_n 0, 1) := by decide +kernel
theorem dX5_init_1 : decode cX5_init 1 = .ok (.invokespecial 3, 3) := by decide +kernel
theorem dX5_init_4 : decode cX5_init 4 = .ok (.aload_n 0, 1) := by decide +kernel
theorem dX5_init_5 : decode cX5_init 5 = .ok (.new 9, 3) := by decide +kernel
theorem dX5_init_8 : decode cX5_init 8 = .ok (.dup, 1) := by decide +kernel
theorem dX5_init_9 : decode cX5_init 9 = .ok (.bipush 60, 2) := by decide +kernel
theorem dX5_init_11 : decode cX5_init 11 = .ok (.invokespecial 11, 3) := by decide +kernel
theorem dX5_init_14 : decode cX5_init 14 = .ok (.putfield 14, 3) := by decide +kernel
theorem dX5_init_17 : decode cX5_init 17 = .ok (.aload_n 0, 1) := by decide +kernel
theorem dX5_init_18 : decode cX5_init 18 = .ok (.new 20, 3) := by decide +kernel
theorem dX5_init_21 : decode cX5_init 21 = .ok (.dup, 1) := by decide +kernel
theorem dX5_init_22 : decode cX5_init 22 = .ok (.invokespecial 22, 3) := by decide +kernel
theorem dX5_init_25 : decode cX5_init 25 = .ok (.putfield 23, 3) := by decide +kernel
theorem dX5_init_28 : decode cX5_init 28 = .ok (.aload_n 0, 1) := by decide +kernel
theorem dX5_init_29 : decode cX5_init 29 = .ok (.iconst 4, 1) := by decide +kernel
theorem dX5_init_30 : decode cX5_init 30 = .ok (.putfield 27, 3) := by decide +kernel
theorem dX5_init_33 : decode cX5_init 33 = .ok (.return_, 1) := by decide +kernel
theorem dX5_become_0 : decode cX5_become 0 = .ok (.aload_n 0, 1) := by decide +kernel
theorem dX5_become_1 : decode cX5_become 1 = .ok (.getfield 14, 3) := by decide +kernel
theorem dX5_become_4 : decode cX5_become 4 = .ok (.aload_n 1, 1) := by decide +kernel
theorem dX5_become_5 : decode cX5_become 5 = .ok (.getfield 14, 3) := by decide +kernel
theorem dX5_become_8 : decode cX5_become 8 = .ok (.invokevirtual 31, 3) := by decide +kernel
theorem dX5_become_11 : decode cX5_become 11 = .ok (.aload_n 0, 1) := by decide +kernel
theorem dX5_become_12 : decode cX5_become 12 = .ok (.getfield 23, 3) := by decide +kernel
theorem dX5_become_15 : decode cX5_become 15 = .ok (.aload_n 1, 1) := by decide +kernel
theorem dX5_become_16 : decode cX5_become 16 = .ok (.getfield 23, 3) := by decide +kernel
theorem dX5_become_19 : decode cX5_become 19 = .ok (.invokevirtual 35, 3) := by decide +kernel
theorem dX5_become_22 : decode cX5_become 22 = .ok (.aload_n 0, 1) := by decide +kernel
theorem dX5_become_23 : decode cX5_become 23 = .ok (.aload_n 1, 1) := by decide +kernel
theorem dX5_become_24 : decode cX5_become 24 = .ok (.getfield 38, 3) := by decide +kernel
theorem dX5_become_27 : decode cX5_become 27 = .ok (.putfield 38, 3) := by decide +kernel
theorem dX5_become_30 : decode cX5_become 30 = .ok (.aload_n 0, 1) := by decide +kernel
theorem dX5_become_31 : decode cX5_become 31 = .ok (.aload_n 1, 1) := by decide +kernel
theorem dX5_become_32 : decode cX5_become 32 = .ok (.getfield 27, 3) := by decide +kernel
theorem dX5_become_35 : decode cX5_become 35 = .ok (.putfield 27, 3) := by decide +kernel
theorem dX5_become_38 : decode cX5_become 38 = .ok (.aload_n 0, 1) := by decide +kernel
theorem dX5_become_39 : decode cX5_become 39 = .ok (.aload_n 1, 1) := by decide +kernel
theorem dX5_become_40 : decode cX5_become 40 = .ok (.getfield 41, 3) := by decide +kernel
theorem dX5_become_43 : decode cX5_become 43 = .ok (.putfield 41, 3) := by decide +kernel
theorem dX5_become_46 : decode cX5_become 46 = .ok (.aload_n 0, 1) := by decide +kernel
theorem dX5_become_47 : decode cX5_become 47 = .ok (.aload_n 1, 1) := by decide +kernel
theorem dX5_become_48 : decode cX5_become 48 = .ok (.getfield 44, 3) := by decide +kernel
theorem dX5_become_51 : decode cX5_become 51 = .ok (.putfield 44, 3) := by decide +kernel
theorem dX5_become_54 : decode cX5_become 54 = .ok (.aload_n 0, 1) := by decide +kernel
theorem dX5_become_55 : decode cX5_become 55 = .ok (.aload_n 1, 1) := by decide +kernel
theorem dX5_become_56 : decode cX5_become 56 = .ok (.getfield 47, 3) := by decide +kernel
theorem dX5_become_59 : decode cX5_become 59 = .ok (.putfield 47, 3) := by decide +kernel
theorem dX5_become_62 : decode cX5_become 62 = .ok (.aload_n 0, 1) := by decide +kernel
theorem dX5_become_63 : decode cX5_become 63 = .ok (.aload_n 1, 1) := by decide +kernel
theorem dX5_become_64 : decode cX5_become 64 = .ok (.getfield 50, 3) := by decide +kernel
theorem dX5_become_67 : decode cX5_become 67 = .ok (.putfield 50, 3) := by decide +kernel
theorem dX5_become_70 : decode cX5_become 70 = .ok (.return_, 1) := by decide +kernel
end
section
theorem dX6_init_0 : decode cX6_init 0 = .ok (.aload_n 0, 1) := by decide +kernel
theorem dX6_init_1 : decode cX6_init 1 = .ok (.invokespecial 1, 3) := by decide +kernel
theorem dX6_init_4 : decode cX6_init 4 = .ok (.aload_n 0, 1) := by decide +kernel
theorem dX6_init_5 : decode cX6_init 5 = .ok (.new 7, 3) := by decide +kernel
theorem dX6_init_8 : decode cX6_init 8 = .ok (.dup, 1) := by decide +kernel
theorem dX6_init_9 : decode cX6_init 9 = .ok (.invokespecial 9, 3) := by decide +kernel
theorem dX6_init_12 : decode cX6_init 12 = .ok (.putfield 10, 3) := by decide +kernel
theorem dX6_init_15 : decode cX6_init 15 = .ok (.aload_n 0, 1) := by decide +kernel
theorem dX6_init_16 : decode cX6_init 16 = .ok (.new 7, 3) := by decide +kernel
theorem dX6_init_19 : decode cX6_init 19 = .ok (.dup, 1) := by decide +kernel
theorem dX6_init_20 : decode cX6_init 20 = .ok (.invokespecial 9, 3) := by decide +kernel
theorem dX6_init_23 : decode cX6_init 23 = .ok (.putfield 16, 3) := by decide +kernel
theorem dX6_init_26 : decode cX6_init 26 = .ok (.aload_n 0, 1) := by decide +kernel
theorem dX6_init_27 : decode cX6_init 27 = .ok (.new 19, 3) := by decide +kernel
theorem dX6_init_30 : decode cX6_init 30 = .ok (.dup, 1) := by decide +kernel
theorem dX6_init_31 : decode cX6_init 31 = .ok (.invokespecial 21, 3) := by decide +kernel
theorem dX6_init_34 : decode cX6_init 34 = .ok (.putfield 22, 3) := by decide +kernel
theorem dX6_init_37 : decode cX6_init 37 = .ok (.aload_n 0, 1) := by decide +kernel
theorem dX6_init_38 : decode cX6_init 38 = .ok (.new 26, 3) := by decide +kernel
theorem dX6_init_41 : decode cX6_init 41 = .ok (.dup, 1) := by decide +kernel
theorem dX6_init_42 : decode cX6_init 42 = .ok (.invokespecial 28, 3) := by decide +kernel
theorem dX6_init_45 : decode cX6_init 45 = .ok (.putfield 29, 3) := by decide +kernel
theorem dX6_init_48 : decode cX6_init 48 = .ok (.aload_n 0, 1) := by decide +kernel
theorem dX6_init_49 : decode cX6_init 49 = .ok (.new 33, 3) := by decide +kernel
theorem dX6_init_52 : decode cX6_init 52 = .ok (.dup, 1) := by decide +kernel
theorem dX6_init_53 : decode cX6_init 53 = .ok (.invokespecial 35, 3) := by decide +kernel
theorem dX6_init_56 : decode cX6_init 56 = .ok (.putfield 36, 3) := by decide +kernel
theorem dX6_init_59 : decode cX6_init 59 = .ok (.aload_n 0, 1) := by decide +kernel
theorem dX6_init_60 : decode cX6_init 60 = .ok (.new 40, 3) := by decide +kernel
theorem dX6_init_63 : decode cX6_init 63 = .ok (.dup, 1) := by decide +kernel
theorem dX6_init_64 : decode cX6_init 64 = .ok (.bipush 61, 2) := by decide +kernel
theorem dX6_init_66 : decode cX6_init 66 = .ok (.invokespecial 42, 3) := by decide +kernel
theorem dX6_init_69 : decode cX6_init 69 = .ok (.putfield 45, 3) := by decide +kernel
theorem dX6_init_72 : decode cX6_init 72 = .ok (.aload_n 0, 1) := by decide +kernel
theorem dX6_init_73 : decode cX6_init 73 = .ok (.new 33, 3) := by decide +kernel
theorem dX6_init_76 : decode cX6_init 76 = .ok (.dup, 1) := by decide +kernel
theorem dX6_init_77 : decode cX6_init 77 = .ok (.invokespecial 35, 3) := by decide +kernel
theorem dX6_init_80 : decode cX6_init 80 = .ok (.putfield 49, 3) := by decide +kernel
theorem dX6_init_83 : decode cX6_init 83 = .ok (.aload_n 0, 1) := by decide +kernel
theorem dX6_init_84 : decode cX6_init 84 = .ok (.new 40, 3) := by decide +kernel
theorem dX6_init_87 : decode cX6_init 87 = .ok (.dup, 1) := by decide +kernel
theorem dX6_init_88 : decode cX6_init 88 = .ok (.bipush 60, 2) := by decide +kernel
theorem dX6_init_90 : decode cX6_init 90 = .ok (.invokespecial 42, 3) := by decide +kernel
theorem dX6_init_93 : decode cX6_init 93 = .ok (.putfield 52, 3) := by decide +kernel
theorem dX6_init_96 : decode cX6_init 96 = .ok (.aload_n 0, 1) := by decide +kernel
theorem dX6_init_97 : decode cX6_init 97 = .ok (.new 40, 3) := by decide +kernel
theorem dX6_init_100 : decode cX6_init 100 = .ok (.dup, 1) := by decide +kernel
theorem dX6_init_101 : decode cX6_init 101 = .ok (.bipush 61, 2) := by decide +kernel
theorem dX6_init_103 : decode cX6_init 103 = .ok (.invokespecial 42, 3) := by decide +kernel
theorem dX6_init_106 : decode cX6_init 106 = .ok (.putfield 55, 3) := by decide +kernel
theorem dX6_init_109 : decode cX6_init 109 = .ok (.return_, 1) := by decide +kernel
theorem dX6_strike_0 : decode cX6_strike 0 = .ok (.iload_n 1, 1) := by decide +kernel
theorem dX6_strike_1 : decode cX6_strike 1 = .ok (.ifCond .lt 10, 3) := by decide +kernel
theorem dX6_strike_4 : decode cX6_strike 4 = .ok (.iload_n 1, 1) := by decide +kernel
theorem dX6_strike_5 : decode cX6_strike 5 = .ok (.sipush 1023, 3) := by decide +kernel
theorem dX6_strike_8 : decode cX6_strike 8 = .ok (.if_icmp .le 13, 3) := by decide +kernel
theorem dX6_strike_11 : decode cX6_strike 11 = .ok (.new 58, 3) := by decide +kernel
theorem dX6_strike_14 : decode cX6_strike 14 = .ok (.dup, 1) := by decide +kernel
theorem dX6_strike_15 : decode cX6_strike 15 = .ok (.ldc 60, 2) := by decide +kernel
theorem dX6_strike_17 : decode cX6_strike 17 = .ok (.invokespecial 62, 3) := by decide +kernel
theorem dX6_strike_20 : decode cX6_strike 20 = .ok (.athrow, 1) := by decide +kernel
theorem dX6_strike_21 : decode cX6_strike 21 = .ok (.aload_n 0, 1) := by decide +kernel
theorem dX6_strike_22 : decode cX6_strike 22 = .ok (.iload_n 1, 1) := by decide +kernel
theorem dX6_strike_23 : decode cX6_strike 23 = .ok (.invokevirtual 65, 3) := by decide +kernel
theorem dX6_strike_26 : decode cX6_strike 26 = .ok (.ifCond .ne 13, 3) := by decide +kernel
theorem dX6_strike_29 : decode cX6_strike 29 = .ok (.new 69, 3) := by decide +kernel
theorem dX6_strike_32 : decode cX6_strike 32 = .ok (.dup, 1) := by decide +kernel
theorem dX6_strike_33 : decode cX6_strike 33 = .ok (.ldc 71, 2) := by decide +kernel
theorem dX6_strike_35 : decode cX6_strike 35 = .ok (.invokespecial 73, 3) := by decide +kernel
theorem dX6_strike_38 : decode cX6_strike 38 = .ok (.athrow, 1) := by decide +kernel
theorem dX6_strike_39 : decode cX6_strike 39 = .ok (.aload_n 0, 1) := by decide +kernel
theorem dX6_strike_40 : decode cX6_strike 40 = .ok (.getfield 22, 3) := by decide +kernel
theorem dX6_strike_43 : decode cX6_strike 43 = .ok (.aload_n 0, 1) := by decide +kernel
theorem dX6_strike_44 : decode cX6_strike 44 = .ok (.getfield 10, 3) := by decide +kernel
theorem dX6_strike_47 : decode cX6_strike 47 = .ok (.invokevirtual 74, 3) := by decide +kernel
theorem dX6_strike_50 : decode cX6_strike 50 = .ok (.aload_n 0, 1) := by decide +kernel
theorem dX6_strike_51 : decode cX6_strike 51 = .ok (.iload_n 1, 1) := by decide +kernel
theorem dX6_strike_52 : decode cX6_strike 52 = .ok (.invokevirtual 78, 3) := by decide +kernel
theorem dX6_strike_55 : decode cX6_strike 55 = .ok (.aload_n 0, 1) := by decide +kernel
theorem dX6_strike_56 : decode cX6_strike 56 = .ok (.invokevirtual 81, 3) := by decide +kernel
theorem dX6_strike_59 : decode cX6_strike 59 = .ok (.aload_n 0, 1) := by decide +kernel
theorem dX6_strike_60 : decode cX6_strike 60 = .ok (.getfield 36, 3) := by decide +kernel
theorem dX6_strike_63 : decode cX6_strike 63 = .ok (.invokevirtual 84, 3) := by decide +kernel
theorem dX6_strike_66 : decode cX6_strike 66 = .ok (.ireturn, 1) := by decide +kernel
theorem dX6_play_0 : decode cX6_play 0 = .ok (.aload_n 0, 1) := by decide +kernel
theorem dX6_play_1 : decode cX6_play 1 = .ok (.getfield 29, 3) := by decide +kernel
theorem dX6_play_4 : decode cX6_play 4 = .ok (.aload_n 0, 1) := by decide +kernel
theorem dX6_play_5 : decode cX6_play 5 = .ok (.getfield 52, 3) := by decide +kernel
theorem dX6_play_8 : decode cX6_play 8 = .ok (.invokevirtual 88, 3) := by decide +kernel
theorem dX6_play_11 : decode cX6_play 11 = .ok (.ifCond .ne 13, 3) := by decide +kernel
theorem dX6_play_14 : decode cX6_play 14 = .ok (.new 58, 3) := by decide +kernel
theorem dX6_play_17 : decode cX6_play 17 = .ok (.dup, 1) := by decide +kernel
theorem dX6_play_18 : decode cX6_play 18 = .ok (.ldc 92, 2) := by decide +kernel
theorem dX6_play_20 : decode cX6_play 20 = .ok (.invokespecial 62, 3) := by decide +kernel
theorem dX6_play_23 : decode cX6_play 23 = .ok (.athrow, 1) := by decide +kernel
theorem dX6_play_24 : decode cX6_play 24 = .ok (.aload_n 0, 1) := by decide +kernel
theorem dX6_play_25 : decode cX6_play 25 = .ok (.getfield 22, 3) := by decide +kernel
theorem dX6_play_28 : decode cX6_play 28 = .ok (.aload_n 0, 1) := by decide +kernel
theorem dX6_play_29 : decode cX6_play 29 = .ok (.getfield 10, 3) := by decide +kernel
theorem dX6_play_32 : decode cX6_play 32 = .ok (.invokevirtual 74, 3) := by decide +kernel
theorem dX6_play_35 : decode cX6_play 35 = .ok (.iconst 0, 1) := by decide +kernel
theorem dX6_play_36 : decode cX6_play 36 = .ok (.istore_n 1, 1) := by decide +kernel
theorem dX6_play_37 : decode cX6_play 37 = .ok (.iload_n 1, 1) := by decide +kernel
theorem dX6_play_38 : decode cX6_play 38 = .ok (.aload_n 0, 1) := by decide +kernel
theorem dX6_play_39 : decode cX6_play 39 = .ok (.getfield 52, 3) := by decide +kernel
theorem dX6_play_42 : decode cX6_play 42 = .ok (.invokevirtual 94, 3) := by decide +kernel
theorem dX6_play_45 : decode cX6_play 45 = .ok (.if_icmp .ge 36, 3) := by decide +kernel
theorem dX6_play_48 : decode cX6_play 48 = .ok (.aload_n 0, 1) := by decide +kernel
theorem dX6_play_49 : decode cX6_play 49 = .ok (.aload_n 0, 1) := by decide +kernel
theorem dX6_play_50 : decode cX6_play 50 = .ok (.getfield 52, 3) := by decide +kernel
theorem dX6_play_53 : decode cX6_play 53 = .ok (.iload_n 1, 1) := by decide +kernel
theorem dX6_play_54 : decode cX6_play 54 = .ok (.invokevirtual 97, 3) := by decide +kernel
theorem dX6_play_57 : decode cX6_play 57 = .ok (.invokevirtual 65, 3) := by decide +kernel
theorem dX6_play_60 : decode cX6_play 60 = .ok (.ifCond .eq 21, 3) := by decide +kernel
theorem dX6_play_63 : decode cX6_play 63 = .ok (.aload_n 0, 1) := by decide +kernel
theorem dX6_play_64 : decode cX6_play 64 = .ok (.aload_n 0, 1) := by decide +kernel
theorem dX6_play_65 : decode cX6_play 65 = .ok (.getfield 52, 3) := by decide +kernel
theorem dX6_play_68 : decode cX6_play 68 = .ok (.iload_n 1, 1) := by decide +kernel
theorem dX6_play_69 : decode cX6_play 69 = .ok (.invokevirtual 97, 3) := by decide +kernel
theorem dX6_play_72 : decode cX6_play 72 = .ok (.invokevirtual 78, 3) := by decide +kernel
theorem dX6_play_75 : decode cX6_play 75 = .ok (.iinc 1 1, 3) := by decide +kernel
theorem dX6_play_78 : decode cX6_play 78 = .ok (.goto (-41), 3) := by decide +kernel
theorem dX6_play_81 : decode cX6_play 81 = .ok (.aload_n 0, 1) := by decide +kernel
theorem dX6_play_82 : decode cX6_play 82 = .ok (.getfield 29, 3) := by decide +kernel
theorem dX6_play_85 : decode cX6_play 85 = .ok (.invokevirtual 101, 3) := by decide +kernel
theorem dX6_play_88 : decode cX6_play 88 = .ok (.iload_n 1, 1) := by decide +kernel
theorem dX6_play_89 : decode cX6_play 89 = .ok (.ireturn, 1) := by decide +kernel
theorem dX6_tear_0 : decode cX6_tear 0 = .ok (.aload_n 0, 1) := by decide +kernel
theorem dX6_tear_1 : decode cX6_tear 1 = .ok (.getfield 22, 3) := by decide +kernel
theorem dX6_tear_4 : decode cX6_tear 4 = .ok (.aload_n 0, 1) := by decide +kernel
theorem dX6_tear_5 : decode cX6_tear 5 = .ok (.getfield 10, 3) := by decide +kernel
theorem dX6_tear_8 : decode cX6_tear 8 = .ok (.invokevirtual 74, 3) := by decide +kernel
theorem dX6_tear_11 : decode cX6_tear 11 = .ok (.aload_n 0, 1) := by decide +kernel
theorem dX6_tear_12 : decode cX6_tear 12 = .ok (.getfield 10, 3) := by decide +kernel
theorem dX6_tear_15 : decode cX6_tear 15 = .ok (.getfield 104, 3) := by decide +kernel
theorem dX6_tear_18 : decode cX6_tear 18 = .ok (.invokevirtual 94, 3) := by decide +kernel
theorem dX6_tear_21 : decode cX6_tear 21 = .ok (.istore_n 1, 1) := by decide +kernel
theorem dX6_tear_22 : decode cX6_tear 22 = .ok (.aload_n 0, 1) := by decide +kernel
theorem dX6_tear_23 : decode cX6_tear 23 = .ok (.getfield 10, 3) := by decide +kernel
theorem dX6_tear_26 : decode cX6_tear 26 = .ok (.getfield 104, 3) := by decide +kernel
theorem dX6_tear_29 : decode cX6_tear 29 = .ok (.iconst 0, 1) := by decide +kernel
theorem dX6_tear_30 : decode cX6_tear 30 = .ok (.invokevirtual 107, 3) := by decide +kernel
theorem dX6_tear_33 : decode cX6_tear 33 = .ok (.iload_n 1, 1) := by decide +kernel
theorem dX6_tear_34 : decode cX6_tear 34 = .ok (.ireturn, 1) := by decide +kernel
theorem dX6_pick_0 : decode cX6_pick 0 = .ok (.aload_n 0, 1) := by decide +kernel
theorem dX6_pick_1 : decode cX6_pick 1 = .ok (.invokevirtual 81, 3) := by decide +kernel
theorem dX6_pick_4 : decode cX6_pick 4 = .ok (.aload_n 0, 1) := by decide +kernel
theorem dX6_pick_5 : decode cX6_pick 5 = .ok (.getfield 36, 3) := by decide +kernel
theorem dX6_pick_8 : decode cX6_pick 8 = .ok (.iload_n 1, 1) := by decide +kernel
theorem dX6_pick_9 : decode cX6_pick 9 = .ok (.invokevirtual 110, 3) := by decide +kernel
theorem dX6_pick_12 : decode cX6_pick 12 = .ok (.ifCond .eq 17, 3) := by decide +kernel
theorem dX6_pick_15 : decode cX6_pick 15 = .ok (.aload_n 0, 1) := by decide +kernel
theorem dX6_pick_16 : decode cX6_pick 16 = .ok (.getfield 10, 3) := by decide +kernel
theorem dX6_pick_19 : decode cX6_pick 19 = .ok (.getfield 113, 3) := by decide +kernel
theorem dX6_pick_22 : decode cX6_pick 22 = .ok (.iload_n 2, 1) := by decide +kernel
theorem dX6_pick_23 : decode cX6_pick 23 = .ok (.invokevirtual 117, 3) := by decide +kernel
theorem dX6_pick_26 : decode cX6_pick 26 = .ok (.ifCond .ne 13, 3) := by decide +kernel
theorem dX6_pick_29 : decode cX6_pick 29 = .ok (.new 120, 3) := by decide +kernel
theorem dX6_pick_32 : decode cX6_pick 32 = .ok (.dup, 1) := by decide +kernel
theorem dX6_pick_33 : decode cX6_pick 33 = .ok (.ldc 122, 2) := by decide +kernel
theorem dX6_pick_35 : decode cX6_pick 35 = .ok (.invokespecial 124, 3) := by decide +kernel
theorem dX6_pick_38 : decode cX6_pick 38 = .ok (.athrow, 1) := by decide +kernel
theorem dX6_pick_39 : decode cX6_pick 39 = .ok (.aload_n 0, 1) := by decide +kernel
theorem dX6_pick_40 : decode cX6_pick 40 = .ok (.iload_n 1, 1) := by decide +kernel
theorem dX6_pick_41 : decode cX6_pick 41 = .ok (.invokevirtual 125, 3) := by decide +kernel
theorem dX6_pick_44 : decode cX6_pick 44 = .ok (.aload_n 0, 1) := by decide +kernel
theorem dX6_pick_45 : decode cX6_pick 45 = .ok (.getfield 10, 3) := by decide +kernel
theorem dX6_pick_48 : decode cX6_pick 48 = .ok (.getfield 113, 3) := by decide +kernel
theorem dX6_pick_51 : decode cX6_pick 51 = .ok (.iload_n 2, 1) := by decide +kernel
theorem dX6_pick_52 : decode cX6_pick 52 = .ok (.invokevirtual 129, 3) := by decide +kernel
theorem dX6_pick_55 : decode cX6_pick 55 = .ok (.lcmp, 1) := by decide +kernel
theorem dX6_pick_56 : decode cX6_pick 56 = .ok (.ifCond .eq 13, 3) := by decide +kernel
theorem dX6_pick_59 : decode cX6_pick 59 = .ok (.new 69, 3) := by decide +kernel
theorem dX6_pick_62 : decode cX6_pick 62 = .ok (.dup, 1) := by decide +kernel
theorem dX6_pick_63 : decode cX6_pick 63 = .ok (.ldc 132, 2) := by decide +kernel
theorem dX6_pick_65 : decode cX6_pick 65 = .ok (.invokespecial 73, 3) := by decide +kernel
theorem dX6_pick_68 : decode cX6_pick 68 = .ok (.athrow, 1) := by decide +kernel
theorem dX6_pick_69 : decode cX6_pick 69 = .ok (.aload_n 0, 1) := by decide +kernel
theorem dX6_pick_70 : decode cX6_pick 70 = .ok (.getfield 22, 3) := by decide +kernel
theorem dX6_pick_73 : decode cX6_pick 73 = .ok (.aload_n 0, 1) := by decide +kernel
theorem dX6_pick_74 : decode cX6_pick 74 = .ok (.getfield 10, 3) := by decide +kernel
theorem dX6_pick_77 : decode cX6_pick 77 = .ok (.invokevirtual 74, 3) := by decide +kernel
theorem dX6_pick_80 : decode cX6_pick 80 = .ok (.aload_n 0, 1) := by decide +kernel
theorem dX6_pick_81 : decode cX6_pick 81 = .ok (.getfield 10, 3) := by decide +kernel
theorem dX6_pick_84 : decode cX6_pick 84 = .ok (.getfield 113, 3) := by decide +kernel
theorem dX6_pick_87 : decode cX6_pick 87 = .ok (.iload_n 2, 1) := by decide +kernel
theorem dX6_pick_88 : decode cX6_pick 88 = .ok (.invokevirtual 134, 3) := by decide +kernel
theorem dX6_pick_91 : decode cX6_pick 91 = .ok (.aload_n 0, 1) := by decide +kernel
theorem dX6_pick_92 : decode cX6_pick 92 = .ok (.getfield 10, 3) := by decide +kernel
theorem dX6_pick_95 : decode cX6_pick 95 = .ok (.getfield 113, 3) := by decide +kernel
theorem dX6_pick_98 : decode cX6_pick 98 = .ok (.iload_n 2, 1) := by decide +kernel
theorem dX6_pick_99 : decode cX6_pick 99 = .ok (.invokevirtual 137, 3) := by decide +kernel
theorem dX6_pick_102 : decode cX6_pick 102 = .ok (.ireturn, 1) := by decide +kernel
theorem dX6_define_0 : decode cX6_define 0 = .ok (.iload_n 1, 1) := by decide +kernel
theorem dX6_define_1 : decode cX6_define 1 = .ok (.ifCond .lt 9, 3) := by decide +kernel
theorem dX6_define_4 : decode cX6_define 4 = .ok (.iload_n 1, 1) := by decide +kernel
theorem dX6_define_5 : decode cX6_define 5 = .ok (.bipush 99, 2) := by decide +kernel
theorem dX6_define_7 : decode cX6_define 7 = .ok (.if_icmp .le 13, 3) := by decide +kernel
theorem dX6_define_10 : decode cX6_define 10 = .ok (.new 58, 3) := by decide +kernel
theorem dX6_define_13 : decode cX6_define 13 = .ok (.dup, 1) := by decide +kernel
theorem dX6_define_14 : decode cX6_define 14 = .ok (.ldc 140, 2) := by decide +kernel
theorem dX6_define_16 : decode cX6_define 16 = .ok (.invokespecial 62, 3) := by decide +kernel
theorem dX6_define_19 : decode cX6_define 19 = .ok (.athrow, 1) := by decide +kernel
theorem dX6_define_20 : decode cX6_define 20 = .ok (.aload_n 0, 1) := by decide +kernel
theorem dX6_define_21 : decode cX6_define 21 = .ok (.getfield 29, 3) := by decide +kernel
theorem dX6_define_24 : decode cX6_define 24 = .ok (.aload_n 0, 1) := by decide +kernel
theorem dX6_define_25 : decode cX6_define 25 = .ok (.getfield 52, 3) := by decide +kernel
theorem dX6_define_28 : decode cX6_define 28 = .ok (.invokevirtual 88, 3) := by decide +kernel
theorem dX6_define_31 : decode cX6_define 31 = .ok (.ifCond .eq 13, 3) := by decide +kernel
theorem dX6_define_34 : decode cX6_define 34 = .ok (.aload_n 0, 1) := by decide +kernel
theorem dX6_define_35 : decode cX6_define 35 = .ok (.getfield 52, 3) := by decide +kernel
theorem dX6_define_38 : decode cX6_define 38 = .ok (.invokestatic 142, 3) := by decide +kernel
theorem dX6_define_41 : decode cX6_define 41 = .ok (.ifCond .ne 13, 3) := by decide +kernel
theorem dX6_define_44 : decode cX6_define 44 = .ok (.new 58, 3) := by decide +kernel
theorem dX6_define_47 : decode cX6_define 47 = .ok (.dup, 1) := by decide +kernel
theorem dX6_define_48 : decode cX6_define 48 = .ok (.ldc 145, 2) := by decide +kernel
theorem dX6_define_50 : decode cX6_define 50 = .ok (.invokespecial 62, 3) := by decide +kernel
theorem dX6_define_53 : decode cX6_define 53 = .ok (.athrow, 1) := by decide +kernel
theorem dX6_define_54 : decode cX6_define 54 = .ok (.aload_n 0, 1) := by decide +kernel
theorem dX6_define_55 : decode cX6_define 55 = .ok (.getfield 52, 3) := by decide +kernel
theorem dX6_define_58 : decode cX6_define 58 = .ok (.iconst 0, 1) := by decide +kernel
theorem dX6_define_59 : decode cX6_define 59 = .ok (.aload_n 0, 1) := by decide +kernel
theorem dX6_define_60 : decode cX6_define 60 = .ok (.getfield 52, 3) := by decide +kernel
theorem dX6_define_63 : decode cX6_define 63 = .ok (.invokevirtual 94, 3) := by decide +kernel
theorem dX6_define_66 : decode cX6_define 66 = .ok (.invokevirtual 147, 3) := by decide +kernel
theorem dX6_define_69 : decode cX6_define 69 = .ok (.lstore_n 2, 1) := by decide +kernel
theorem dX6_define_70 : decode cX6_define 70 = .ok (.aload_n 0, 1) := by decide +kernel
theorem dX6_define_71 : decode cX6_define 71 = .ok (.getfield 10, 3) := by decide +kernel
theorem dX6_define_74 : decode cX6_define 74 = .ok (.getfield 113, 3) := by decide +kernel
theorem dX6_define_77 : decode cX6_define 77 = .ok (.invokevirtual 151, 3) := by decide +kernel
theorem dX6_define_80 : decode cX6_define 80 = .ok (.ifCond .ne 18, 3) := by decide +kernel
theorem dX6_define_83 : decode cX6_define 83 = .ok (.aload_n 0, 1) := by decide +kernel
theorem dX6_define_84 : decode cX6_define 84 = .ok (.getfield 10, 3) := by decide +kernel
theorem dX6_define_87 : decode cX6_define 87 = .ok (.getfield 113, 3) := by decide +kernel
theorem dX6_define_90 : decode cX6_define 90 = .ok (.lload_n 2, 1) := by decide +kernel
theorem dX6_define_91 : decode cX6_define 91 = .ok (.iload_n 1, 1) := by decide +kernel
theorem dX6_define_92 : decode cX6_define 92 = .ok (.invokevirtual 155, 3) := by decide +kernel
theorem dX6_define_95 : decode cX6_define 95 = .ok (.ifCond .eq 13, 3) := by decide +kernel
theorem dX6_define_98 : decode cX6_define 98 = .ok (.new 69, 3) := by decide +kernel
theorem dX6_define_101 : decode cX6_define 101 = .ok (.dup, 1) := by decide +kernel
theorem dX6_define_102 : decode cX6_define 102 = .ok (.ldc 159, 2) := by decide +kernel
theorem dX6_define_104 : decode cX6_define 104 = .ok (.invokespecial 73, 3) := by decide +kernel
theorem dX6_define_107 : decode cX6_define 107 = .ok (.athrow, 1) := by decide +kernel
theorem dX6_define_108 : decode cX6_define 108 = .ok (.aload_n 0, 1) := by decide +kernel
theorem dX6_define_109 : decode cX6_define 109 = .ok (.getfield 22, 3) := by decide +kernel
theorem dX6_define_112 : decode cX6_define 112 = .ok (.aload_n 0, 1) := by decide +kernel
theorem dX6_define_113 : decode cX6_define 113 = .ok (.getfield 10, 3) := by decide +kernel
theorem dX6_define_116 : decode cX6_define 116 = .ok (.invokevirtual 74, 3) := by decide +kernel
theorem dX6_define_119 : decode cX6_define 119 = .ok (.aload_n 0, 1) := by decide +kernel
theorem dX6_define_120 : decode cX6_define 120 = .ok (.getfield 10, 3) := by decide +kernel
theorem dX6_define_123 : decode cX6_define 123 = .ok (.getfield 113, 3) := by decide +kernel
theorem dX6_define_126 : decode cX6_define 126 = .ok (.lload_n 2, 1) := by decide +kernel
theorem dX6_define_127 : decode cX6_define 127 = .ok (.iload_n 1, 1) := by decide +kernel
theorem dX6_define_128 : decode cX6_define 128 = .ok (.invokevirtual 161, 3) := by decide +kernel
theorem dX6_define_131 : decode cX6_define 131 = .ok (.aload_n 0, 1) := by decide +kernel
theorem dX6_define_132 : decode cX6_define 132 = .ok (.getfield 29, 3) := by decide +kernel
theorem dX6_define_135 : decode cX6_define 135 = .ok (.invokevirtual 101, 3) := by decide +kernel
theorem dX6_define_138 : decode cX6_define 138 = .ok (.aload_n 0, 1) := by decide +kernel
theorem dX6_define_139 : decode cX6_define 139 = .ok (.getfield 10, 3) := by decide +kernel
theorem dX6_define_142 : decode cX6_define 142 = .ok (.getfield 113, 3) := by decide +kernel
theorem dX6_define_145 : decode cX6_define 145 = .ok (.invokevirtual 165, 3) := by decide +kernel
theorem dX6_define_148 : decode cX6_define 148 = .ok (.iconst 1, 1) := by decide +kernel
theorem dX6_define_149 : decode cX6_define 149 = .ok (.isub, 1) := by decide +kernel
theorem dX6_define_150 : decode cX6_define 150 = .ok (.ireturn, 1) := by decide +kernel
theorem dX6_remove_0 : decode cX6_remove 0 = .ok (.aload_n 0, 1) := by decide +kernel
theorem dX6_remove_1 : decode cX6_remove 1 = .ok (.getfield 10, 3) := by decide +kernel
theorem dX6_remove_4 : decode cX6_remove 4 = .ok (.getfield 113, 3) := by decide +kernel
theorem dX6_remove_7 : decode cX6_remove 7 = .ok (.iload_n 1, 1) := by decide +kernel
theorem dX6_remove_8 : decode cX6_remove 8 = .ok (.invokevirtual 117, 3) := by decide +kernel
theorem dX6_remove_11 : decode cX6_remove 11 = .ok (.ifCond .ne 13, 3) := by decide +kernel
theorem dX6_remove_14 : decode cX6_remove 14 = .ok (.new 120, 3) := by decide +kernel
theorem dX6_remove_17 : decode cX6_remove 17 = .ok (.dup, 1) := by decide +kernel
theorem dX6_remove_18 : decode cX6_remove 18 = .ok (.ldc 166, 2) := by decide +kernel
theorem dX6_remove_20 : decode cX6_remove 20 = .ok (.invokespecial 124, 3) := by decide +kernel
theorem dX6_remove_23 : decode cX6_remove 23 = .ok (.athrow, 1) := by decide +kernel
theorem dX6_remove_24 : decode cX6_remove 24 = .ok (.aload_n 0, 1) := by decide +kernel
theorem dX6_remove_25 : decode cX6_remove 25 = .ok (.getfield 22, 3) := by decide +kernel
theorem dX6_remove_28 : decode cX6_remove 28 = .ok (.aload_n 0, 1) := by decide +kernel
theorem dX6_remove_29 : decode cX6_remove 29 = .ok (.getfield 10, 3) := by decide +kernel
theorem dX6_remove_32 : decode cX6_remove 32 = .ok (.invokevirtual 74, 3) := by decide +kernel
theorem dX6_remove_35 : decode cX6_remove 35 = .ok (.aload_n 0, 1) := by decide +kernel
theorem dX6_remove_36 : decode cX6_remove 36 = .ok (.getfield 10, 3) := by decide +kernel
theorem dX6_remove_39 : decode cX6_remove 39 = .ok (.getfield 113, 3) := by decide +kernel
theorem dX6_remove_42 : decode cX6_remove 42 = .ok (.iload_n 1, 1) := by decide +kernel
theorem dX6_remove_43 : decode cX6_remove 43 = .ok (.invokevirtual 168, 3) := by decide +kernel
theorem dX6_remove_46 : decode cX6_remove 46 = .ok (.aload_n 0, 1) := by decide +kernel
theorem dX6_remove_47 : decode cX6_remove 47 = .ok (.getfield 10, 3) := by decide +kernel
theorem dX6_remove_50 : decode cX6_remove 50 = .ok (.getfield 113, 3) := by decide +kernel
theorem dX6_remove_53 : decode cX6_remove 53 = .ok (.invokevirtual 165, 3) := by decide +kernel
theorem dX6_remove_56 : decode cX6_remove 56 = .ok (.ireturn, 1) := by decide +kernel
theorem dX6_set_0 : decode cX6_set 0 = .ok (.iload_n 1, 1) := by decide +kernel
theorem dX6_set_1 : decode cX6_set 1 = .ok (.ifCond .lt 8, 3) := by decide +kernel
theorem dX6_set_4 : decode cX6_set 4 = .ok (.iload_n 1, 1) := by decide +kernel
theorem dX6_set_5 : decode cX6_set 5 = .ok (.iconst 2, 1) := by decide +kernel
theorem dX6_set_6 : decode cX6_set 6 = .ok (.if_icmp .lt 13, 3) := by decide +kernel
theorem dX6_set_9 : decode cX6_set 9 = .ok (.new 120, 3) := by decide +kernel
theorem dX6_set_12 : decode cX6_set 12 = .ok (.dup, 1) := by decide +kernel
theorem dX6_set_13 : decode cX6_set 13 = .ok (.ldc 171, 2) := by decide +kernel
theorem dX6_set_15 : decode cX6_set 15 = .ok (.invokespecial 124, 3) := by decide +kernel
theorem dX6_set_18 : decode cX6_set 18 = .ok (.athrow, 1) := by decide +kernel
theorem dX6_set_19 : decode cX6_set 19 = .ok (.iload_n 1, 1) := by decide +kernel
theorem dX6_set_20 : decode cX6_set 20 = .ok (.iload_n 2, 1) := by decide +kernel
theorem dX6_set_21 : decode cX6_set 21 = .ok (.invokestatic 173, 3) := by decide +kernel
theorem dX6_set_24 : decode cX6_set 24 = .ok (.ifCond .ne 13, 3) := by decide +kernel
theorem dX6_set_27 : decode cX6_set 27 = .ok (.new 58, 3) := by decide +kernel
theorem dX6_set_30 : decode cX6_set 30 = .ok (.dup, 1) := by decide +kernel
theorem dX6_set_31 : decode cX6_set 31 = .ok (.ldc 177, 2) := by decide +kernel
theorem dX6_set_33 : decode cX6_set 33 = .ok (.invokespecial 62, 3) := by decide +kernel
theorem dX6_set_36 : decode cX6_set 36 = .ok (.athrow, 1) := by decide +kernel
theorem dX6_set_37 : decode cX6_set 37 = .ok (.aload_n 0, 1) := by decide +kernel
theorem dX6_set_38 : decode cX6_set 38 = .ok (.getfield 22, 3) := by decide +kernel
theorem dX6_set_41 : decode cX6_set 41 = .ok (.aload_n 0, 1) := by decide +kernel
theorem dX6_set_42 : decode cX6_set 42 = .ok (.getfield 10, 3) := by decide +kernel
theorem dX6_set_45 : decode cX6_set 45 = .ok (.invokevirtual 74, 3) := by decide +kernel
theorem dX6_set_48 : decode cX6_set 48 = .ok (.aload_n 0, 1) := by decide +kernel
theorem dX6_set_49 : decode cX6_set 49 = .ok (.iload_n 1, 1) := by decide +kernel
theorem dX6_set_50 : decode cX6_set 50 = .ok (.invokevirtual 179, 3) := by decide +kernel
theorem dX6_set_53 : decode cX6_set 53 = .ok (.istore_n 3, 1) := by decide +kernel
theorem dX6_set_54 : decode cX6_set 54 = .ok (.iload_n 1, 1) := by decide +kernel
theorem dX6_set_55 : decode cX6_set 55 = .ok (.ifCond .ne 14, 3) := by decide +kernel
theorem dX6_set_58 : decode cX6_set 58 = .ok (.aload_n 0, 1) := by decide +kernel
theorem dX6_set_59 : decode cX6_set 59 = .ok (.getfield 10, 3) := by decide +kernel
theorem dX6_set_62 : decode cX6_set 62 = .ok (.iload_n 2, 1) := by decide +kernel
theorem dX6_set_63 : decode cX6_set 63 = .ok (.putfield 182, 3) := by decide +kernel
theorem dX6_set_66 : decode cX6_set 66 = .ok (.goto 11, 3) := by decide +kernel
theorem dX6_set_69 : decode cX6_set 69 = .ok (.aload_n 0, 1) := by decide +kernel
theorem dX6_set_70 : decode cX6_set 70 = .ok (.getfield 10, 3) := by decide +kernel
theorem dX6_set_73 : decode cX6_set 73 = .ok (.iload_n 2, 1) := by decide +kernel
theorem dX6_set_74 : decode cX6_set 74 = .ok (.putfield 186, 3) := by decide +kernel
theorem dX6_set_77 : decode cX6_set 77 = .ok (.iload_n 3, 1) := by decide +kernel
theorem dX6_set_78 : decode cX6_set 78 = .ok (.ireturn, 1) := by decide +kernel
theorem dX6_append_0 : decode cX6_append 0 = .ok (.iload_n 1, 1) := by decide +kernel
theorem dX6_append_1 : decode cX6_append 1 = .ok (.bipush 33, 2) := by decide +kernel
theorem dX6_append_3 : decode cX6_append 3 = .ok (.if_icmp .lt 9, 3) := by decide +kernel
theorem dX6_append_6 : decode cX6_append 6 = .ok (.iload_n 1, 1) := by decide +kernel
theorem dX6_append_7 : decode cX6_append 7 = .ok (.bipush 126, 2) := by decide +kernel
theorem dX6_append_9 : decode cX6_append 9 = .ok (.if_icmp .le 13, 3) := by decide +kernel
theorem dX6_append_12 : decode cX6_append 12 = .ok (.new 58, 3) := by decide +kernel
theorem dX6_append_15 : decode cX6_append 15 = .ok (.dup, 1) := by decide +kernel
theorem dX6_append_16 : decode cX6_append 16 = .ok (.ldc 189, 2) := by decide +kernel
theorem dX6_append_18 : decode cX6_append 18 = .ok (.invokespecial 62, 3) := by decide +kernel
theorem dX6_append_21 : decode cX6_append 21 = .ok (.athrow, 1) := by decide +kernel
theorem dX6_append_22 : decode cX6_append 22 = .ok (.aload_n 0, 1) := by decide +kernel
theorem dX6_append_23 : decode cX6_append 23 = .ok (.getfield 29, 3) := by decide +kernel
theorem dX6_append_26 : decode cX6_append 26 = .ok (.invokevirtual 191, 3) := by decide +kernel
theorem dX6_append_29 : decode cX6_append 29 = .ok (.ifCond .eq 13, 3) := by decide +kernel
theorem dX6_append_32 : decode cX6_append 32 = .ok (.new 69, 3) := by decide +kernel
theorem dX6_append_35 : decode cX6_append 35 = .ok (.dup, 1) := by decide +kernel
theorem dX6_append_36 : decode cX6_append 36 = .ok (.ldc 192, 2) := by decide +kernel
theorem dX6_append_38 : decode cX6_append 38 = .ok (.invokespecial 73, 3) := by decide +kernel
theorem dX6_append_41 : decode cX6_append 41 = .ok (.athrow, 1) := by decide +kernel
theorem dX6_append_42 : decode cX6_append 42 = .ok (.aload_n 0, 1) := by decide +kernel
theorem dX6_append_43 : decode cX6_append 43 = .ok (.getfield 29, 3) := by decide +kernel
theorem dX6_append_46 : decode cX6_append 46 = .ok (.iload_n 1, 1) := by decide +kernel
theorem dX6_append_47 : decode cX6_append 47 = .ok (.invokevirtual 194, 3) := by decide +kernel
theorem dX6_append_50 : decode cX6_append 50 = .ok (.aload_n 0, 1) := by decide +kernel
theorem dX6_append_51 : decode cX6_append 51 = .ok (.getfield 29, 3) := by decide +kernel
theorem dX6_append_54 : decode cX6_append 54 = .ok (.invokevirtual 196, 3) := by decide +kernel
theorem dX6_append_57 : decode cX6_append 57 = .ok (.ireturn, 1) := by decide +kernel
theorem dX6_clearBuffer_0 : decode cX6_clearBuffer 0 = .ok (.aload_n 0, 1) := by decide +kernel
theorem dX6_clearBuffer_1 : decode cX6_clearBuffer 1 = .ok (.getfield 29, 3) := by decide +kernel
theorem dX6_clearBuffer_4 : decode cX6_clearBuffer 4 = .ok (.invokevirtual 196, 3) := by decide +kernel
theorem dX6_clearBuffer_7 : decode cX6_clearBuffer 7 = .ok (.istore_n 1, 1) := by decide +kernel
theorem dX6_clearBuffer_8 : decode cX6_clearBuffer 8 = .ok (.aload_n 0, 1) := by decide +kernel
theorem dX6_clearBuffer_9 : decode cX6_clearBuffer 9 = .ok (.getfield 29, 3) := by decide +kernel
theorem dX6_clearBuffer_12 : decode cX6_clearBuffer 12 = .ok (.invokevirtual 101, 3) := by decide +kernel
theorem dX6_clearBuffer_15 : decode cX6_clearBuffer 15 = .ok (.iload_n 1, 1) := by decide +kernel
theorem dX6_clearBuffer_16 : decode cX6_clearBuffer 16 = .ok (.ireturn, 1) := by decide +kernel
theorem dX6_firstError_0 : decode cX6_firstError 0 = .ok (.aload_n 0, 1) := by decide +kernel
theorem dX6_firstError_1 : decode cX6_firstError 1 = .ok (.getfield 29, 3) := by decide +kernel
theorem dX6_firstError_4 : decode cX6_firstError 4 = .ok (.invokevirtual 197, 3) := by decide +kernel
theorem dX6_firstError_7 : decode cX6_firstError 7 = .ok (.ireturn, 1) := by decide +kernel
theorem dX6_keep_0 : decode cX6_keep 0 = .ok (.aload_n 0, 1) := by decide +kernel
theorem dX6_keep_1 : decode cX6_keep 1 = .ok (.getfield 16, 3) := by decide +kernel
theorem dX6_keep_4 : decode cX6_keep 4 = .ok (.aload_n 0, 1) := by decide +kernel
theorem dX6_keep_5 : decode cX6_keep 5 = .ok (.getfield 10, 3) := by decide +kernel
theorem dX6_keep_8 : decode cX6_keep 8 = .ok (.invokevirtual 200, 3) := by decide +kernel
theorem dX6_keep_11 : decode cX6_keep 11 = .ok (.aload_n 0, 1) := by decide +kernel
theorem dX6_keep_12 : decode cX6_keep 12 = .ok (.iconst 1, 1) := by decide +kernel
theorem dX6_keep_13 : decode cX6_keep 13 = .ok (.putfield 203, 3) := by decide +kernel
theorem dX6_keep_16 : decode cX6_keep 16 = .ok (.aload_n 0, 1) := by decide +kernel
theorem dX6_keep_17 : decode cX6_keep 17 = .ok (.getfield 10, 3) := by decide +kernel
theorem dX6_keep_20 : decode cX6_keep 20 = .ok (.getfield 104, 3) := by decide +kernel
theorem dX6_keep_23 : decode cX6_keep 23 = .ok (.invokevirtual 94, 3) := by decide +kernel
theorem dX6_keep_26 : decode cX6_keep 26 = .ok (.ireturn, 1) := by decide +kernel
theorem dX6_goBack_0 : decode cX6_goBack 0 = .ok (.aload_n 0, 1) := by decide +kernel
theorem dX6_goBack_1 : decode cX6_goBack 1 = .ok (.getfield 203, 3) := by decide +kernel
theorem dX6_goBack_4 : decode cX6_goBack 4 = .ok (.ifCond .ne 13, 3) := by decide +kernel
theorem dX6_goBack_7 : decode cX6_goBack 7 = .ok (.new 69, 3) := by decide +kernel
theorem dX6_goBack_10 : decode cX6_goBack 10 = .ok (.dup, 1) := by decide +kernel
theorem dX6_goBack_11 : decode cX6_goBack 11 = .ok (.ldc 207, 2) := by decide +kernel
theorem dX6_goBack_13 : decode cX6_goBack 13 = .ok (.invokespecial 73, 3) := by decide +kernel
theorem dX6_goBack_16 : decode cX6_goBack 16 = .ok (.athrow, 1) := by decide +kernel
theorem dX6_goBack_17 : decode cX6_goBack 17 = .ok (.aload_n 0, 1) := by decide +kernel
theorem dX6_goBack_18 : decode cX6_goBack 18 = .ok (.getfield 22, 3) := by decide +kernel
theorem dX6_goBack_21 : decode cX6_goBack 21 = .ok (.aload_n 0, 1) := by decide +kernel
theorem dX6_goBack_22 : decode cX6_goBack 22 = .ok (.getfield 10, 3) := by decide +kernel
theorem dX6_goBack_25 : decode cX6_goBack 25 = .ok (.invokevirtual 74, 3) := by decide +kernel
theorem dX6_goBack_28 : decode cX6_goBack 28 = .ok (.aload_n 0, 1) := by decide +kernel
theorem dX6_goBack_29 : decode cX6_goBack 29 = .ok (.getfield 10, 3) := by decide +kernel
theorem dX6_goBack_32 : decode cX6_goBack 32 = .ok (.aload_n 0, 1) := by decide +kernel
theorem dX6_goBack_33 : decode cX6_goBack 33 = .ok (.getfield 16, 3) := by decide +kernel
theorem dX6_goBack_36 : decode cX6_goBack 36 = .ok (.invokevirtual 200, 3) := by decide +kernel
theorem dX6_goBack_39 : decode cX6_goBack 39 = .ok (.aload_n 0, 1) := by decide +kernel
theorem dX6_goBack_40 : decode cX6_goBack 40 = .ok (.getfield 10, 3) := by decide +kernel
theorem dX6_goBack_43 : decode cX6_goBack 43 = .ok (.getfield 104, 3) := by decide +kernel
theorem dX6_goBack_46 : decode cX6_goBack 46 = .ok (.invokevirtual 94, 3) := by decide +kernel
theorem dX6_goBack_49 : decode cX6_goBack 49 = .ok (.ireturn, 1) := by decide +kernel
theorem dX6_undo_0 : decode cX6_undo 0 = .ok (.aload_n 0, 1) := by decide +kernel
theorem dX6_undo_1 : decode cX6_undo 1 = .ok (.getfield 22, 3) := by decide +kernel
theorem dX6_undo_4 : decode cX6_undo 4 = .ok (.invokevirtual 209, 3) := by decide +kernel
theorem dX6_undo_7 : decode cX6_undo 7 = .ok (.ifCond .ne 13, 3) := by decide +kernel
theorem dX6_undo_10 : decode cX6_undo 10 = .ok (.new 69, 3) := by decide +kernel
theorem dX6_undo_13 : decode cX6_undo 13 = .ok (.dup, 1) := by decide +kernel
theorem dX6_undo_14 : decode cX6_undo 14 = .ok (.ldc 210, 2) := by decide +kernel
theorem dX6_undo_16 : decode cX6_undo 16 = .ok (.invokespecial 73, 3) := by decide +kernel
theorem dX6_undo_19 : decode cX6_undo 19 = .ok (.athrow, 1) := by decide +kernel
theorem dX6_undo_20 : decode cX6_undo 20 = .ok (.aload_n 0, 1) := by decide +kernel
theorem dX6_undo_21 : decode cX6_undo 21 = .ok (.getfield 22, 3) := by decide +kernel
theorem dX6_undo_24 : decode cX6_undo 24 = .ok (.aload_n 0, 1) := by decide +kernel
theorem dX6_undo_25 : decode cX6_undo 25 = .ok (.getfield 10, 3) := by decide +kernel
theorem dX6_undo_28 : decode cX6_undo 28 = .ok (.invokevirtual 212, 3) := by decide +kernel
theorem dX6_undo_31 : decode cX6_undo 31 = .ok (.aload_n 0, 1) := by decide +kernel
theorem dX6_undo_32 : decode cX6_undo 32 = .ok (.getfield 22, 3) := by decide +kernel
theorem dX6_undo_35 : decode cX6_undo 35 = .ok (.invokevirtual 209, 3) := by decide +kernel
theorem dX6_undo_38 : decode cX6_undo 38 = .ok (.ireturn, 1) := by decide +kernel
theorem dX6_stroke_0 : decode cX6_stroke 0 = .ok (.aload_n 0, 1) := by decide +kernel
theorem dX6_stroke_1 : decode cX6_stroke 1 = .ok (.getfield 10, 3) := by decide +kernel
theorem dX6_stroke_4 : decode cX6_stroke 4 = .ok (.getfield 104, 3) := by decide +kernel
theorem dX6_stroke_7 : decode cX6_stroke 7 = .ok (.iload_n 1, 1) := by decide +kernel
theorem dX6_stroke_8 : decode cX6_stroke 8 = .ok (.invokevirtual 215, 3) := by decide +kernel
theorem dX6_stroke_11 : decode cX6_stroke 11 = .ok (.ifCond .ne 13, 3) := by decide +kernel
theorem dX6_stroke_14 : decode cX6_stroke 14 = .ok (.new 120, 3) := by decide +kernel
theorem dX6_stroke_17 : decode cX6_stroke 17 = .ok (.dup, 1) := by decide +kernel
theorem dX6_stroke_18 : decode cX6_stroke 18 = .ok (.ldc 216, 2) := by decide +kernel
theorem dX6_stroke_20 : decode cX6_stroke 20 = .ok (.invokespecial 124, 3) := by decide +kernel
theorem dX6_stroke_23 : decode cX6_stroke 23 = .ok (.athrow, 1) := by decide +kernel
theorem dX6_stroke_24 : decode cX6_stroke 24 = .ok (.aload_n 0, 1) := by decide +kernel
theorem dX6_stroke_25 : decode cX6_stroke 25 = .ok (.getfield 10, 3) := by decide +kernel
theorem dX6_stroke_28 : decode cX6_stroke 28 = .ok (.getfield 104, 3) := by decide +kernel
theorem dX6_stroke_31 : decode cX6_stroke 31 = .ok (.iload_n 1, 1) := by decide +kernel
theorem dX6_stroke_32 : decode cX6_stroke 32 = .ok (.invokevirtual 97, 3) := by decide +kernel
theorem dX6_stroke_35 : decode cX6_stroke 35 = .ok (.ireturn, 1) := by decide +kernel
theorem dX6_item_0 : decode cX6_item 0 = .ok (.aload_n 0, 1) := by decide +kernel
theorem dX6_item_1 : decode cX6_item 1 = .ok (.invokevirtual 81, 3) := by decide +kernel
theorem dX6_item_4 : decode cX6_item 4 = .ok (.aload_n 0, 1) := by decide +kernel
theorem dX6_item_5 : decode cX6_item 5 = .ok (.getfield 36, 3) := by decide +kernel
theorem dX6_item_8 : decode cX6_item 8 = .ok (.iload_n 1, 1) := by decide +kernel
theorem dX6_item_9 : decode cX6_item 9 = .ok (.invokevirtual 110, 3) := by decide +kernel
theorem dX6_item_12 : decode cX6_item 12 = .ok (.ifCond .ne 13, 3) := by decide +kernel
theorem dX6_item_15 : decode cX6_item 15 = .ok (.new 120, 3) := by decide +kernel
theorem dX6_item_18 : decode cX6_item 18 = .ok (.dup, 1) := by decide +kernel
theorem dX6_item_19 : decode cX6_item 19 = .ok (.ldc 218, 2) := by decide +kernel
theorem dX6_item_21 : decode cX6_item 21 = .ok (.invokespecial 124, 3) := by decide +kernel
theorem dX6_item_24 : decode cX6_item 24 = .ok (.athrow, 1) := by decide +kernel
theorem dX6_item_25 : decode cX6_item 25 = .ok (.iload_n 2, 1) := by decide +kernel
theorem dX6_item_26 : decode cX6_item 26 = .ok (.ifCond .lt 8, 3) := by decide +kernel
theorem dX6_item_29 : decode cX6_item 29 = .ok (.iload_n 2, 1) := by decide +kernel
theorem dX6_item_30 : decode cX6_item 30 = .ok (.iconst 5, 1) := by decide +kernel
theorem dX6_item_31 : decode cX6_item 31 = .ok (.if_icmp .lt 13, 3) := by decide +kernel
theorem dX6_item_34 : decode cX6_item 34 = .ok (.new 58, 3) := by decide +kernel
theorem dX6_item_37 : decode cX6_item 37 = .ok (.dup, 1) := by decide +kernel
theorem dX6_item_38 : decode cX6_item 38 = .ok (.ldc 220, 2) := by decide +kernel
theorem dX6_item_40 : decode cX6_item 40 = .ok (.invokespecial 62, 3) := by decide +kernel
theorem dX6_item_43 : decode cX6_item 43 = .ok (.athrow, 1) := by decide +kernel
theorem dX6_item_44 : decode cX6_item 44 = .ok (.aload_n 0, 1) := by decide +kernel
theorem dX6_item_45 : decode cX6_item 45 = .ok (.iload_n 1, 1) := by decide +kernel
theorem dX6_item_46 : decode cX6_item 46 = .ok (.iload_n 2, 1) := by decide +kernel
theorem dX6_item_47 : decode cX6_item 47 = .ok (.invokevirtual 222, 3) := by decide +kernel
theorem dX6_item_50 : decode cX6_item 50 = .ok (.ireturn, 1) := by decide +kernel
theorem dX6_entry_0 : decode cX6_entry 0 = .ok (.aload_n 0, 1) := by decide +kernel
theorem dX6_entry_1 : decode cX6_entry 1 = .ok (.getfield 10, 3) := by decide +kernel
theorem dX6_entry_4 : decode cX6_entry 4 = .ok (.getfield 113, 3) := by decide +kernel
theorem dX6_entry_7 : decode cX6_entry 7 = .ok (.iload_n 1, 1) := by decide +kernel
theorem dX6_entry_8 : decode cX6_entry 8 = .ok (.invokevirtual 117, 3) := by decide +kernel
theorem dX6_entry_11 : decode cX6_entry 11 = .ok (.ifCond .ne 13, 3) := by decide +kernel
theorem dX6_entry_14 : decode cX6_entry 14 = .ok (.new 120, 3) := by decide +kernel
theorem dX6_entry_17 : decode cX6_entry 17 = .ok (.dup, 1) := by decide +kernel
theorem dX6_entry_18 : decode cX6_entry 18 = .ok (.ldc 166, 2) := by decide +kernel
theorem dX6_entry_20 : decode cX6_entry 20 = .ok (.invokespecial 124, 3) := by decide +kernel
theorem dX6_entry_23 : decode cX6_entry 23 = .ok (.athrow, 1) := by decide +kernel
theorem dX6_entry_24 : decode cX6_entry 24 = .ok (.iload_n 2, 1) := by decide +kernel
theorem dX6_entry_25 : decode cX6_entry 25 = .ok (.ifCond .lt 9, 3) := by decide +kernel
theorem dX6_entry_28 : decode cX6_entry 28 = .ok (.iload_n 2, 1) := by decide +kernel
theorem dX6_entry_29 : decode cX6_entry 29 = .ok (.bipush 10, 2) := by decide +kernel
theorem dX6_entry_31 : decode cX6_entry 31 = .ok (.if_icmp .lt 13, 3) := by decide +kernel
theorem dX6_entry_34 : decode cX6_entry 34 = .ok (.new 58, 3) := by decide +kernel
theorem dX6_entry_37 : decode cX6_entry 37 = .ok (.dup, 1) := by decide +kernel
theorem dX6_entry_38 : decode cX6_entry 38 = .ok (.ldc 226, 2) := by decide +kernel
theorem dX6_entry_40 : decode cX6_entry 40 = .ok (.invokespecial 62, 3) := by decide +kernel
theorem dX6_entry_43 : decode cX6_entry 43 = .ok (.athrow, 1) := by decide +kernel
theorem dX6_entry_44 : decode cX6_entry 44 = .ok (.aload_n 0, 1) := by decide +kernel
theorem dX6_entry_45 : decode cX6_entry 45 = .ok (.invokevirtual 81, 3) := by decide +kernel
theorem dX6_entry_48 : decode cX6_entry 48 = .ok (.aload_n 0, 1) := by decide +kernel
theorem dX6_entry_49 : decode cX6_entry 49 = .ok (.iload_n 1, 1) := by decide +kernel
theorem dX6_entry_50 : decode cX6_entry 50 = .ok (.iload_n 2, 1) := by decide +kernel
theorem dX6_entry_51 : decode cX6_entry 51 = .ok (.invokevirtual 228, 3) := by decide +kernel
theorem dX6_entry_54 : decode cX6_entry 54 = .ok (.ireturn, 1) := by decide +kernel
theorem dX6_count_0 : decode cX6_count 0 = .ok (.iload_n 1, 1) := by decide +kernel
theorem dX6_count_1 : decode cX6_count 1 = .ok (.ifCond .lt 9, 3) := by decide +kernel
theorem dX6_count_4 : decode cX6_count 4 = .ok (.iload_n 1, 1) := by decide +kernel
theorem dX6_count_5 : decode cX6_count 5 = .ok (.bipush 10, 2) := by decide +kernel
theorem dX6_count_7 : decode cX6_count 7 = .ok (.if_icmp .lt 13, 3) := by decide +kernel
theorem dX6_count_10 : decode cX6_count 10 = .ok (.new 58, 3) := by decide +kernel
theorem dX6_count_13 : decode cX6_count 13 = .ok (.dup, 1) := by decide +kernel
theorem dX6_count_14 : decode cX6_count 14 = .ok (.ldc 231, 2) := by decide +kernel
theorem dX6_count_16 : decode cX6_count 16 = .ok (.invokespecial 62, 3) := by decide +kernel
theorem dX6_count_19 : decode cX6_count 19 = .ok (.athrow, 1) := by decide +kernel
theorem dX6_count_20 : decode cX6_count 20 = .ok (.aload_n 0, 1) := by decide +kernel
theorem dX6_count_21 : decode cX6_count 21 = .ok (.invokevirtual 81, 3) := by decide +kernel
theorem dX6_count_24 : decode cX6_count 24 = .ok (.aload_n 0, 1) := by decide +kernel
theorem dX6_count_25 : decode cX6_count 25 = .ok (.iload_n 1, 1) := by decide +kernel
theorem dX6_count_26 : decode cX6_count 26 = .ok (.invokevirtual 233, 3) := by decide +kernel
theorem dX6_count_29 : decode cX6_count 29 = .ok (.ireturn, 1) := by decide +kernel
theorem dX6_setting_0 : decode cX6_setting 0 = .ok (.iload_n 1, 1) := by decide +kernel
theorem dX6_setting_1 : decode cX6_setting 1 = .ok (.ifCond .lt 8, 3) := by decide +kernel
theorem dX6_setting_4 : decode cX6_setting 4 = .ok (.iload_n 1, 1) := by decide +kernel
theorem dX6_setting_5 : decode cX6_setting 5 = .ok (.iconst 2, 1) := by decide +kernel
theorem dX6_setting_6 : decode cX6_setting 6 = .ok (.if_icmp .lt 13, 3) := by decide +kernel
theorem dX6_setting_9 : decode cX6_setting 9 = .ok (.new 120, 3) := by decide +kernel
theorem dX6_setting_12 : decode cX6_setting 12 = .ok (.dup, 1) := by decide +kernel
theorem dX6_setting_13 : decode cX6_setting 13 = .ok (.ldc 171, 2) := by decide +kernel
theorem dX6_setting_15 : decode cX6_setting 15 = .ok (.invokespecial 124, 3) := by decide +kernel
theorem dX6_setting_18 : decode cX6_setting 18 = .ok (.athrow, 1) := by decide +kernel
theorem dX6_setting_19 : decode cX6_setting 19 = .ok (.aload_n 0, 1) := by decide +kernel
theorem dX6_setting_20 : decode cX6_setting 20 = .ok (.iload_n 1, 1) := by decide +kernel
theorem dX6_setting_21 : decode cX6_setting 21 = .ok (.invokevirtual 179, 3) := by decide +kernel
theorem dX6_setting_24 : decode cX6_setting 24 = .ok (.ireturn, 1) := by decide +kernel
theorem dX6_ifStruck_0 : decode cX6_ifStruck 0 = .ok (.iload_n 1, 1) := by decide +kernel
theorem dX6_ifStruck_1 : decode cX6_ifStruck 1 = .ok (.ifCond .le 10, 3) := by decide +kernel
theorem dX6_ifStruck_4 : decode cX6_ifStruck 4 = .ok (.iload_n 1, 1) := by decide +kernel
theorem dX6_ifStruck_5 : decode cX6_ifStruck 5 = .ok (.sipush 1023, 3) := by decide +kernel
theorem dX6_ifStruck_8 : decode cX6_ifStruck 8 = .ok (.if_icmp .le 13, 3) := by decide +kernel
theorem dX6_ifStruck_11 : decode cX6_ifStruck 11 = .ok (.new 58, 3) := by decide +kernel
theorem dX6_ifStruck_14 : decode cX6_ifStruck 14 = .ok (.dup, 1) := by decide +kernel
theorem dX6_ifStruck_15 : decode cX6_ifStruck 15 = .ok (.ldc 60, 2) := by decide +kernel
theorem dX6_ifStruck_17 : decode cX6_ifStruck 17 = .ok (.invokespecial 62, 3) := by decide +kernel
theorem dX6_ifStruck_20 : decode cX6_ifStruck 20 = .ok (.athrow, 1) := by decide +kernel
theorem dX6_ifStruck_21 : decode cX6_ifStruck 21 = .ok (.iload_n 2, 1) := by decide +kernel
theorem dX6_ifStruck_22 : decode cX6_ifStruck 22 = .ok (.ifCond .lt 8, 3) := by decide +kernel
theorem dX6_ifStruck_25 : decode cX6_ifStruck 25 = .ok (.iload_n 2, 1) := by decide +kernel
theorem dX6_ifStruck_26 : decode cX6_ifStruck 26 = .ok (.iconst 3, 1) := by decide +kernel
theorem dX6_ifStruck_27 : decode cX6_ifStruck 27 = .ok (.if_icmp .lt 13, 3) := by decide +kernel
theorem dX6_ifStruck_30 : decode cX6_ifStruck 30 = .ok (.new 58, 3) := by decide +kernel
theorem dX6_ifStruck_33 : decode cX6_ifStruck 33 = .ok (.dup, 1) := by decide +kernel
theorem dX6_ifStruck_34 : decode cX6_ifStruck 34 = .ok (.ldc 231, 2) := by decide +kernel
theorem dX6_ifStruck_36 : decode cX6_ifStruck 36 = .ok (.invokespecial 62, 3) := by decide +kernel
theorem dX6_ifStruck_39 : decode cX6_ifStruck 39 = .ok (.athrow, 1) := by decide +kernel
theorem dX6_ifStruck_40 : decode cX6_ifStruck 40 = .ok (.aload_n 0, 1) := by decide +kernel
theorem dX6_ifStruck_41 : decode cX6_ifStruck 41 = .ok (.getfield 45, 3) := by decide +kernel
theorem dX6_ifStruck_44 : decode cX6_ifStruck 44 = .ok (.aload_n 0, 1) := by decide +kernel
theorem dX6_ifStruck_45 : decode cX6_ifStruck 45 = .ok (.getfield 10, 3) := by decide +kernel
theorem dX6_ifStruck_48 : decode cX6_ifStruck 48 = .ok (.getfield 104, 3) := by decide +kernel
theorem dX6_ifStruck_51 : decode cX6_ifStruck 51 = .ok (.invokevirtual 236, 3) := by decide +kernel
theorem dX6_ifStruck_54 : decode cX6_ifStruck 54 = .ok (.aload_n 0, 1) := by decide +kernel
theorem dX6_ifStruck_55 : decode cX6_ifStruck 55 = .ok (.getfield 45, 3) := by decide +kernel
theorem dX6_ifStruck_58 : decode cX6_ifStruck 58 = .ok (.iload_n 1, 1) := by decide +kernel
theorem dX6_ifStruck_59 : decode cX6_ifStruck 59 = .ok (.invokevirtual 239, 3) := by decide +kernel
theorem dX6_ifStruck_62 : decode cX6_ifStruck 62 = .ok (.aload_n 0, 1) := by decide +kernel
theorem dX6_ifStruck_63 : decode cX6_ifStruck 63 = .ok (.getfield 49, 3) := by decide +kernel
theorem dX6_ifStruck_66 : decode cX6_ifStruck 66 = .ok (.iconst 0, 1) := by decide +kernel
theorem dX6_ifStruck_67 : decode cX6_ifStruck 67 = .ok (.invokevirtual 240, 3) := by decide +kernel
theorem dX6_ifStruck_70 : decode cX6_ifStruck 70 = .ok (.aload_n 0, 1) := by decide +kernel
theorem dX6_ifStruck_71 : decode cX6_ifStruck 71 = .ok (.getfield 49, 3) := by decide +kernel
theorem dX6_ifStruck_74 : decode cX6_ifStruck 74 = .ok (.aload_n 0, 1) := by decide +kernel
theorem dX6_ifStruck_75 : decode cX6_ifStruck 75 = .ok (.getfield 45, 3) := by decide +kernel
theorem dX6_ifStruck_78 : decode cX6_ifStruck 78 = .ok (.aload_n 0, 1) := by decide +kernel
theorem dX6_ifStruck_79 : decode cX6_ifStruck 79 = .ok (.getfield 10, 3) := by decide +kernel
theorem dX6_ifStruck_82 : decode cX6_ifStruck 82 = .ok (.invokevirtual 243, 3) := by decide +kernel
theorem dX6_ifStruck_85 : decode cX6_ifStruck 85 = .ok (.aload_n 0, 1) := by decide +kernel
theorem dX6_ifStruck_86 : decode cX6_ifStruck 86 = .ok (.getfield 49, 3) := by decide +kernel
theorem dX6_ifStruck_89 : decode cX6_ifStruck 89 = .ok (.invokevirtual 84, 3) := by decide +kernel
theorem dX6_ifStruck_92 : decode cX6_ifStruck 92 = .ok (.iconst 1, 1) := by decide +kernel
theorem dX6_ifStruck_93 : decode cX6_ifStruck 93 = .ok (.isub, 1) := by decide +kernel
theorem dX6_ifStruck_94 : decode cX6_ifStruck 94 = .ok (.istore_n 3, 1) := by decide +kernel
theorem dX6_ifStruck_95 : decode cX6_ifStruck 95 = .ok (.iload_n 2, 1) := by decide +kernel
theorem dX6_ifStruck_96 : decode cX6_ifStruck 96 = .ok (.lookupswitch 56 #[(0, 28), (1, 47)], 28) := by decide +kernel
theorem dX6_ifStruck_124 : decode cX6_ifStruck 124 = .ok (.aload_n 0, 1) := by decide +kernel
theorem dX6_ifStruck_125 : decode cX6_ifStruck 125 = .ok (.getfield 10, 3) := by decide +kernel
theorem dX6_ifStruck_128 : decode cX6_ifStruck 128 = .ok (.getfield 113, 3) := by decide +kernel
theorem dX6_ifStruck_131 : decode cX6_ifStruck 131 = .ok (.aload_n 0, 1) := by decide +kernel
theorem dX6_ifStruck_132 : decode cX6_ifStruck 132 = .ok (.getfield 49, 3) := by decide +kernel
theorem dX6_ifStruck_135 : decode cX6_ifStruck 135 = .ok (.iload_n 3, 1) := by decide +kernel
theorem dX6_ifStruck_136 : decode cX6_ifStruck 136 = .ok (.invokevirtual 247, 3) := by decide +kernel
theorem dX6_ifStruck_139 : decode cX6_ifStruck 139 = .ok (.invokevirtual 250, 3) := by decide +kernel
theorem dX6_ifStruck_142 : decode cX6_ifStruck 142 = .ok (.ireturn, 1) := by decide +kernel
theorem dX6_ifStruck_143 : decode cX6_ifStruck 143 = .ok (.aload_n 0, 1) := by decide +kernel
theorem dX6_ifStruck_144 : decode cX6_ifStruck 144 = .ok (.getfield 49, 3) := by decide +kernel
theorem dX6_ifStruck_147 : decode cX6_ifStruck 147 = .ok (.iload_n 3, 1) := by decide +kernel
theorem dX6_ifStruck_148 : decode cX6_ifStruck 148 = .ok (.invokevirtual 253, 3) := by decide +kernel
theorem dX6_ifStruck_151 : decode cX6_ifStruck 151 = .ok (.ireturn, 1) := by decide +kernel
theorem dX6_ifStruck_152 : decode cX6_ifStruck 152 = .ok (.aload_n 0, 1) := by decide +kernel
theorem dX6_ifStruck_153 : decode cX6_ifStruck 153 = .ok (.getfield 49, 3) := by decide +kernel
theorem dX6_ifStruck_156 : decode cX6_ifStruck 156 = .ok (.invokevirtual 84, 3) := by decide +kernel
theorem dX6_ifStruck_159 : decode cX6_ifStruck 159 = .ok (.ireturn, 1) := by decide +kernel
theorem dX6_begun_0 : decode cX6_begun 0 = .ok (.iload_n 1, 1) := by decide +kernel
theorem dX6_begun_1 : decode cX6_begun 1 = .ok (.iconst 1, 1) := by decide +kernel
theorem dX6_begun_2 : decode cX6_begun 2 = .ok (.if_icmp .lt 8, 3) := by decide +kernel
theorem dX6_begun_5 : decode cX6_begun 5 = .ok (.iload_n 1, 1) := by decide +kernel
theorem dX6_begun_6 : decode cX6_begun 6 = .ok (.iconst 4, 1) := by decide +kernel
theorem dX6_begun_7 : decode cX6_begun 7 = .ok (.if_icmp .lt 14, 3) := by decide +kernel
theorem dX6_begun_10 : decode cX6_begun 10 = .ok (.new 58, 3) := by decide +kernel
theorem dX6_begun_13 : decode cX6_begun 13 = .ok (.dup, 1) := by decide +kernel
theorem dX6_begun_14 : decode cX6_begun 14 = .ok (.ldc_w 256, 3) := by decide +kernel
theorem dX6_begun_17 : decode cX6_begun 17 = .ok (.invokespecial 62, 3) := by decide +kernel
theorem dX6_begun_20 : decode cX6_begun 20 = .ok (.athrow, 1) := by decide +kernel
theorem dX6_begun_21 : decode cX6_begun 21 = .ok (.aload_n 0, 1) := by decide +kernel
theorem dX6_begun_22 : decode cX6_begun 22 = .ok (.getfield 10, 3) := by decide +kernel
theorem dX6_begun_25 : decode cX6_begun 25 = .ok (.getfield 104, 3) := by decide +kernel
theorem dX6_begun_28 : decode cX6_begun 28 = .ok (.invokevirtual 94, 3) := by decide +kernel
theorem dX6_begun_31 : decode cX6_begun 31 = .ok (.iload_n 1, 1) := by decide +kernel
theorem dX6_begun_32 : decode cX6_begun 32 = .ok (.isub, 1) := by decide +kernel
theorem dX6_begun_33 : decode cX6_begun 33 = .ok (.istore_n 2, 1) := by decide +kernel
theorem dX6_begun_34 : decode cX6_begun 34 = .ok (.iload_n 2, 1) := by decide +kernel
theorem dX6_begun_35 : decode cX6_begun 35 = .ok (.ifCond .ge 5, 3) := by decide +kernel
theorem dX6_begun_38 : decode cX6_begun 38 = .ok (.iconst 0, 1) := by decide +kernel
theorem dX6_begun_39 : decode cX6_begun 39 = .ok (.ireturn, 1) := by decide +kernel
theorem dX6_begun_40 : decode cX6_begun 40 = .ok (.aload_n 0, 1) := by decide +kernel
theorem dX6_begun_41 : decode cX6_begun 41 = .ok (.getfield 10, 3) := by decide +kernel
theorem dX6_begun_44 : decode cX6_begun 44 = .ok (.getfield 113, 3) := by decide +kernel
theorem dX6_begun_47 : decode cX6_begun 47 = .ok (.aload_n 0, 1) := by decide +kernel
theorem dX6_begun_48 : decode cX6_begun 48 = .ok (.getfield 10, 3) := by decide +kernel
theorem dX6_begun_51 : decode cX6_begun 51 = .ok (.getfield 104, 3) := by decide +kernel
theorem dX6_begun_54 : decode cX6_begun 54 = .ok (.iload_n 2, 1) := by decide +kernel
theorem dX6_begun_55 : decode cX6_begun 55 = .ok (.iload_n 1, 1) := by decide +kernel
theorem dX6_begun_56 : decode cX6_begun 56 = .ok (.invokevirtual 147, 3) := by decide +kernel
theorem dX6_begun_59 : decode cX6_begun 59 = .ok (.iload_n 1, 1) := by decide +kernel
theorem dX6_begun_60 : decode cX6_begun 60 = .ok (.invokevirtual 258, 3) := by decide +kernel
theorem dX6_begun_63 : decode cX6_begun 63 = .ok (.ireturn, 1) := by decide +kernel
theorem dX6_shortest_0 : decode cX6_shortest 0 = .ok (.iload_n 1, 1) := by decide +kernel
theorem dX6_shortest_1 : decode cX6_shortest 1 = .ok (.ifCond .lt 9, 3) := by decide +kernel
theorem dX6_shortest_4 : decode cX6_shortest 4 = .ok (.iload_n 1, 1) := by decide +kernel
theorem dX6_shortest_5 : decode cX6_shortest 5 = .ok (.bipush 99, 2) := by decide +kernel
theorem dX6_shortest_7 : decode cX6_shortest 7 = .ok (.if_icmp .le 13, 3) := by decide +kernel
theorem dX6_shortest_10 : decode cX6_shortest 10 = .ok (.new 58, 3) := by decide +kernel
theorem dX6_shortest_13 : decode cX6_shortest 13 = .ok (.dup, 1) := by decide +kernel
theorem dX6_shortest_14 : decode cX6_shortest 14 = .ok (.ldc 140, 2) := by decide +kernel
theorem dX6_shortest_16 : decode cX6_shortest 16 = .ok (.invokespecial 62, 3) := by decide +kernel
theorem dX6_shortest_19 : decode cX6_shortest 19 = .ok (.athrow, 1) := by decide +kernel
theorem dX6_shortest_20 : decode cX6_shortest 20 = .ok (.iconst (-1), 1) := by decide +kernel
theorem dX6_shortest_21 : decode cX6_shortest 21 = .ok (.istore_n 2, 1) := by decide +kernel
theorem dX6_shortest_22 : decode cX6_shortest 22 = .ok (.iconst 0, 1) := by decide +kernel
theorem dX6_shortest_23 : decode cX6_shortest 23 = .ok (.istore_n 3, 1) := by decide +kernel
theorem dX6_shortest_24 : decode cX6_shortest 24 = .ok (.iload_n 3, 1) := by decide +kernel
theorem dX6_shortest_25 : decode cX6_shortest 25 = .ok (.aload_n 0, 1) := by decide +kernel
theorem dX6_shortest_26 : decode cX6_shortest 26 = .ok (.getfield 10, 3) := by decide +kernel
theorem dX6_shortest_29 : decode cX6_shortest 29 = .ok (.getfield 113, 3) := by decide +kernel
theorem dX6_shortest_32 : decode cX6_shortest 32 = .ok (.invokevirtual 165, 3) := by decide +kernel
theorem dX6_shortest_35 : decode cX6_shortest 35 = .ok (.if_icmp .ge 34, 3) := by decide +kernel
theorem dX6_shortest_38 : decode cX6_shortest 38 = .ok (.aload_n 0, 1) := by decide +kernel
theorem dX6_shortest_39 : decode cX6_shortest 39 = .ok (.iload_n 3, 1) := by decide +kernel
theorem dX6_shortest_40 : decode cX6_shortest 40 = .ok (.iload_n 1, 1) := by decide +kernel
theorem dX6_shortest_41 : decode cX6_shortest 41 = .ok (.invokevirtual 262, 3) := by decide +kernel
theorem dX6_shortest_44 : decode cX6_shortest 44 = .ok (.ifCond .eq 19, 3) := by decide +kernel
theorem dX6_shortest_47 : decode cX6_shortest 47 = .ok (.iload_n 2, 1) := by decide +kernel
theorem dX6_shortest_48 : decode cX6_shortest 48 = .ok (.iconst (-1), 1) := by decide +kernel
theorem dX6_shortest_49 : decode cX6_shortest 49 = .ok (.if_icmp .eq 12, 3) := by decide +kernel
theorem dX6_shortest_52 : decode cX6_shortest 52 = .ok (.aload_n 0, 1) := by decide +kernel
theorem dX6_shortest_53 : decode cX6_shortest 53 = .ok (.iload_n 3, 1) := by decide +kernel
theorem dX6_shortest_54 : decode cX6_shortest 54 = .ok (.iload_n 2, 1) := by decide +kernel
theorem dX6_shortest_55 : decode cX6_shortest 55 = .ok (.invokevirtual 265, 3) := by decide +kernel
theorem dX6_shortest_58 : decode cX6_shortest 58 = .ok (.ifCond .eq 5, 3) := by decide +kernel
theorem dX6_shortest_61 : decode cX6_shortest 61 = .ok (.iload_n 3, 1) := by decide +kernel
theorem dX6_shortest_62 : decode cX6_shortest 62 = .ok (.istore_n 2, 1) := by decide +kernel
theorem dX6_shortest_63 : decode cX6_shortest 63 = .ok (.iinc 3 1, 3) := by decide +kernel
theorem dX6_shortest_66 : decode cX6_shortest 66 = .ok (.goto (-42), 3) := by decide +kernel
theorem dX6_shortest_69 : decode cX6_shortest 69 = .ok (.iload_n 2, 1) := by decide +kernel
theorem dX6_shortest_70 : decode cX6_shortest 70 = .ok (.ireturn, 1) := by decide +kernel
theorem dX6_behind_0 : decode cX6_behind 0 = .ok (.aload_n 0, 1) := by decide +kernel
theorem dX6_behind_1 : decode cX6_behind 1 = .ok (.getfield 10, 3) := by decide +kernel
theorem dX6_behind_4 : decode cX6_behind 4 = .ok (.getfield 113, 3) := by decide +kernel
theorem dX6_behind_7 : decode cX6_behind 7 = .ok (.iload_n 1, 1) := by decide +kernel
theorem dX6_behind_8 : decode cX6_behind 8 = .ok (.invokevirtual 117, 3) := by decide +kernel
theorem dX6_behind_11 : decode cX6_behind 11 = .ok (.ifCond .eq 17, 3) := by decide +kernel
theorem dX6_behind_14 : decode cX6_behind 14 = .ok (.aload_n 0, 1) := by decide +kernel
theorem dX6_behind_15 : decode cX6_behind 15 = .ok (.getfield 10, 3) := by decide +kernel
theorem dX6_behind_18 : decode cX6_behind 18 = .ok (.getfield 113, 3) := by decide +kernel
theorem dX6_behind_21 : decode cX6_behind 21 = .ok (.iload_n 2, 1) := by decide +kernel
theorem dX6_behind_22 : decode cX6_behind 22 = .ok (.invokevirtual 117, 3) := by decide +kernel
theorem dX6_behind_25 : decode cX6_behind 25 = .ok (.ifCond .ne 13, 3) := by decide +kernel
theorem dX6_behind_28 : decode cX6_behind 28 = .ok (.new 120, 3) := by decide +kernel
theorem dX6_behind_31 : decode cX6_behind 31 = .ok (.dup, 1) := by decide +kernel
theorem dX6_behind_32 : decode cX6_behind 32 = .ok (.ldc 166, 2) := by decide +kernel
theorem dX6_behind_34 : decode cX6_behind 34 = .ok (.invokespecial 124, 3) := by decide +kernel
theorem dX6_behind_37 : decode cX6_behind 37 = .ok (.athrow, 1) := by decide +kernel
theorem dX6_behind_38 : decode cX6_behind 38 = .ok (.aload_n 0, 1) := by decide +kernel
theorem dX6_behind_39 : decode cX6_behind 39 = .ok (.iload_n 1, 1) := by decide +kernel
theorem dX6_behind_40 : decode cX6_behind 40 = .ok (.iload_n 2, 1) := by decide +kernel
theorem dX6_behind_41 : decode cX6_behind 41 = .ok (.invokevirtual 268, 3) := by decide +kernel
theorem dX6_behind_44 : decode cX6_behind 44 = .ok (.ireturn, 1) := by decide +kernel
theorem dX6_clashes_0 : decode cX6_clashes 0 = .ok (.iconst 0, 1) := by decide +kernel
theorem dX6_clashes_1 : decode cX6_clashes 1 = .ok (.istore_n 1, 1) := by decide +kernel
theorem dX6_clashes_2 : decode cX6_clashes 2 = .ok (.iconst 0, 1) := by decide +kernel
theorem dX6_clashes_3 : decode cX6_clashes 3 = .ok (.istore_n 2, 1) := by decide +kernel
theorem dX6_clashes_4 : decode cX6_clashes 4 = .ok (.iload_n 2, 1) := by decide +kernel
theorem dX6_clashes_5 : decode cX6_clashes 5 = .ok (.aload_n 0, 1) := by decide +kernel
theorem dX6_clashes_6 : decode cX6_clashes 6 = .ok (.getfield 10, 3) := by decide +kernel
theorem dX6_clashes_9 : decode cX6_clashes 9 = .ok (.getfield 113, 3) := by decide +kernel
theorem dX6_clashes_12 : decode cX6_clashes 12 = .ok (.invokevirtual 165, 3) := by decide +kernel
theorem dX6_clashes_15 : decode cX6_clashes 15 = .ok (.if_icmp .ge 43, 3) := by decide +kernel
theorem dX6_clashes_18 : decode cX6_clashes 18 = .ok (.iconst 0, 1) := by decide +kernel
theorem dX6_clashes_19 : decode cX6_clashes 19 = .ok (.istore_n 3, 1) := by decide +kernel
theorem dX6_clashes_20 : decode cX6_clashes 20 = .ok (.iload_n 3, 1) := by decide +kernel
theorem dX6_clashes_21 : decode cX6_clashes 21 = .ok (.aload_n 0, 1) := by decide +kernel
theorem dX6_clashes_22 : decode cX6_clashes 22 = .ok (.getfield 10, 3) := by decide +kernel
theorem dX6_clashes_25 : decode cX6_clashes 25 = .ok (.getfield 113, 3) := by decide +kernel
theorem dX6_clashes_28 : decode cX6_clashes 28 = .ok (.invokevirtual 165, 3) := by decide +kernel
theorem dX6_clashes_31 : decode cX6_clashes 31 = .ok (.if_icmp .ge 21, 3) := by decide +kernel
theorem dX6_clashes_34 : decode cX6_clashes 34 = .ok (.aload_n 0, 1) := by decide +kernel
theorem dX6_clashes_35 : decode cX6_clashes 35 = .ok (.iload_n 2, 1) := by decide +kernel
theorem dX6_clashes_36 : decode cX6_clashes 36 = .ok (.iload_n 3, 1) := by decide +kernel
theorem dX6_clashes_37 : decode cX6_clashes 37 = .ok (.invokevirtual 268, 3) := by decide +kernel
theorem dX6_clashes_40 : decode cX6_clashes 40 = .ok (.ifCond .eq 6, 3) := by decide +kernel
theorem dX6_clashes_43 : decode cX6_clashes 43 = .ok (.iinc 1 1, 3) := by decide +kernel
theorem dX6_clashes_46 : decode cX6_clashes 46 = .ok (.iinc 3 1, 3) := by decide +kernel
theorem dX6_clashes_49 : decode cX6_clashes 49 = .ok (.goto (-29), 3) := by decide +kernel
theorem dX6_clashes_52 : decode cX6_clashes 52 = .ok (.iinc 2 1, 3) := by decide +kernel
theorem dX6_clashes_55 : decode cX6_clashes 55 = .ok (.goto (-51), 3) := by decide +kernel
theorem dX6_clashes_58 : decode cX6_clashes 58 = .ok (.iload_n 1, 1) := by decide +kernel
theorem dX6_clashes_59 : decode cX6_clashes 59 = .ok (.ireturn, 1) := by decide +kernel
theorem dX6_least_0 : decode cX6_least 0 = .ok (.aload_n 0, 1) := by decide +kernel
theorem dX6_least_1 : decode cX6_least 1 = .ok (.getfield 55, 3) := by decide +kernel
theorem dX6_least_4 : decode cX6_least 4 = .ok (.iconst 0, 1) := by decide +kernel
theorem dX6_least_5 : decode cX6_least 5 = .ok (.invokevirtual 107, 3) := by decide +kernel
theorem dX6_least_8 : decode cX6_least 8 = .ok (.aload_n 0, 1) := by decide +kernel
theorem dX6_least_9 : decode cX6_least 9 = .ok (.getfield 55, 3) := by decide +kernel
theorem dX6_least_12 : decode cX6_least 12 = .ok (.iconst 0, 1) := by decide +kernel
theorem dX6_least_13 : decode cX6_least 13 = .ok (.invokevirtual 239, 3) := by decide +kernel
theorem dX6_least_16 : decode cX6_least 16 = .ok (.iconst 1, 1) := by decide +kernel
theorem dX6_least_17 : decode cX6_least 17 = .ok (.istore_n 1, 1) := by decide +kernel
theorem dX6_least_18 : decode cX6_least 18 = .ok (.iload_n 1, 1) := by decide +kernel
theorem dX6_least_19 : decode cX6_least 19 = .ok (.aload_n 0, 1) := by decide +kernel
theorem dX6_least_20 : decode cX6_least 20 = .ok (.getfield 10, 3) := by decide +kernel
theorem dX6_least_23 : decode cX6_least 23 = .ok (.getfield 104, 3) := by decide +kernel
theorem dX6_least_26 : decode cX6_least 26 = .ok (.invokevirtual 94, 3) := by decide +kernel
theorem dX6_least_29 : decode cX6_least 29 = .ok (.if_icmp .gt 21, 3) := by decide +kernel
theorem dX6_least_32 : decode cX6_least 32 = .ok (.aload_n 0, 1) := by decide +kernel
theorem dX6_least_33 : decode cX6_least 33 = .ok (.getfield 55, 3) := by decide +kernel
theorem dX6_least_36 : decode cX6_least 36 = .ok (.aload_n 0, 1) := by decide +kernel
theorem dX6_least_37 : decode cX6_least 37 = .ok (.iload_n 1, 1) := by decide +kernel
theorem dX6_least_38 : decode cX6_least 38 = .ok (.invokevirtual 271, 3) := by decide +kernel
theorem dX6_least_41 : decode cX6_least 41 = .ok (.invokevirtual 239, 3) := by decide +kernel
theorem dX6_least_44 : decode cX6_least 44 = .ok (.iinc 1 1, 3) := by decide +kernel
theorem dX6_least_47 : decode cX6_least 47 = .ok (.goto (-29), 3) := by decide +kernel
theorem dX6_least_50 : decode cX6_least 50 = .ok (.aload_n 0, 1) := by decide +kernel
theorem dX6_least_51 : decode cX6_least 51 = .ok (.getfield 55, 3) := by decide +kernel
theorem dX6_least_54 : decode cX6_least 54 = .ok (.aload_n 0, 1) := by decide +kernel
theorem dX6_least_55 : decode cX6_least 55 = .ok (.getfield 10, 3) := by decide +kernel
theorem dX6_least_58 : decode cX6_least 58 = .ok (.getfield 104, 3) := by decide +kernel
theorem dX6_least_61 : decode cX6_least 61 = .ok (.invokevirtual 94, 3) := by decide +kernel
theorem dX6_least_64 : decode cX6_least 64 = .ok (.invokevirtual 97, 3) := by decide +kernel
theorem dX6_least_67 : decode cX6_least 67 = .ok (.ireturn, 1) := by decide +kernel
theorem dX6_readShare_0 : decode cX6_readShare 0 = .ok (.aload_n 0, 1) := by decide +kernel
theorem dX6_readShare_1 : decode cX6_readShare 1 = .ok (.getfield 10, 3) := by decide +kernel
theorem dX6_readShare_4 : decode cX6_readShare 4 = .ok (.getfield 104, 3) := by decide +kernel
theorem dX6_readShare_7 : decode cX6_readShare 7 = .ok (.invokevirtual 94, 3) := by decide +kernel
theorem dX6_readShare_10 : decode cX6_readShare 10 = .ok (.istore_n 1, 1) := by decide +kernel
theorem dX6_readShare_11 : decode cX6_readShare 11 = .ok (.iload_n 1, 1) := by decide +kernel
theorem dX6_readShare_12 : decode cX6_readShare 12 = .ok (.ifCond .ne 5, 3) := by decide +kernel
theorem dX6_readShare_15 : decode cX6_readShare 15 = .ok (.dconst 1, 1) := by decide +kernel
theorem dX6_readShare_16 : decode cX6_readShare 16 = .ok (.dreturn, 1) := by decide +kernel
theorem dX6_readShare_17 : decode cX6_readShare 17 = .ok (.aload_n 0, 1) := by decide +kernel
theorem dX6_readShare_18 : decode cX6_readShare 18 = .ok (.invokevirtual 81, 3) := by decide +kernel
theorem dX6_readShare_21 : decode cX6_readShare 21 = .ok (.iload_n 1, 1) := by decide +kernel
theorem dX6_readShare_22 : decode cX6_readShare 22 = .ok (.aload_n 0, 1) := by decide +kernel
theorem dX6_readShare_23 : decode cX6_readShare 23 = .ok (.invokevirtual 274, 3) := by decide +kernel
theorem dX6_readShare_26 : decode cX6_readShare 26 = .ok (.isub, 1) := by decide +kernel
theorem dX6_readShare_27 : decode cX6_readShare 27 = .ok (.i2d, 1) := by decide +kernel
theorem dX6_readShare_28 : decode cX6_readShare 28 = .ok (.iload_n 1, 1) := by decide +kernel
theorem dX6_readShare_29 : decode cX6_readShare 29 = .ok (.i2d, 1) := by decide +kernel
theorem dX6_readShare_30 : decode cX6_readShare 30 = .ok (.ddiv, 1) := by decide +kernel
theorem dX6_readShare_31 : decode cX6_readShare 31 = .ok (.dreturn, 1) := by decide +kernel
theorem dX6_meanKeys_0 : decode cX6_meanKeys 0 = .ok (.aload_n 0, 1) := by decide +kernel
theorem dX6_meanKeys_1 : decode cX6_meanKeys 1 = .ok (.getfield 10, 3) := by decide +kernel
theorem dX6_meanKeys_4 : decode cX6_meanKeys 4 = .ok (.getfield 277, 3) := by decide +kernel
theorem dX6_meanKeys_7 : decode cX6_meanKeys 7 = .ok (.ifCond .ne 5, 3) := by decide +kernel
theorem dX6_meanKeys_10 : decode cX6_meanKeys 10 = .ok (.fconst 0, 1) := by decide +kernel
theorem dX6_meanKeys_11 : decode cX6_meanKeys 11 = .ok (.freturn, 1) := by decide +kernel
theorem dX6_meanKeys_12 : decode cX6_meanKeys 12 = .ok (.aload_n 0, 1) := by decide +kernel
theorem dX6_meanKeys_13 : decode cX6_meanKeys 13 = .ok (.getfield 10, 3) := by decide +kernel
theorem dX6_meanKeys_16 : decode cX6_meanKeys 16 = .ok (.getfield 280, 3) := by decide +kernel
theorem dX6_meanKeys_19 : decode cX6_meanKeys 19 = .ok (.i2f, 1) := by decide +kernel
theorem dX6_meanKeys_20 : decode cX6_meanKeys 20 = .ok (.aload_n 0, 1) := by decide +kernel
theorem dX6_meanKeys_21 : decode cX6_meanKeys 21 = .ok (.getfield 10, 3) := by decide +kernel
theorem dX6_meanKeys_24 : decode cX6_meanKeys 24 = .ok (.getfield 277, 3) := by decide +kernel
theorem dX6_meanKeys_27 : decode cX6_meanKeys 27 = .ok (.i2f, 1) := by decide +kernel
theorem dX6_meanKeys_28 : decode cX6_meanKeys 28 = .ok (.fdiv, 1) := by decide +kernel
theorem dX6_meanKeys_29 : decode cX6_meanKeys 29 = .ok (.freturn, 1) := by decide +kernel
theorem dX6_digest_0 : decode cX6_digest 0 = .ok (.aload_n 0, 1) := by decide +kernel
theorem dX6_digest_1 : decode cX6_digest 1 = .ok (.invokevirtual 81, 3) := by decide +kernel
theorem dX6_digest_4 : decode cX6_digest 4 = .ok (.aload_n 0, 1) := by decide +kernel
theorem dX6_digest_5 : decode cX6_digest 5 = .ok (.ldc2_w 283, 3) := by decide +kernel
theorem dX6_digest_8 : decode cX6_digest 8 = .ok (.invokevirtual 285, 3) := by decide +kernel
theorem dX6_digest_11 : decode cX6_digest 11 = .ok (.lstore_n 1, 1) := by decide +kernel
theorem dX6_digest_12 : decode cX6_digest 12 = .ok (.aload_n 0, 1) := by decide +kernel
theorem dX6_digest_13 : decode cX6_digest 13 = .ok (.lload_n 1, 1) := by decide +kernel
theorem dX6_digest_14 : decode cX6_digest 14 = .ok (.invokevirtual 289, 3) := by decide +kernel
theorem dX6_digest_17 : decode cX6_digest 17 = .ok (.lstore_n 1, 1) := by decide +kernel
theorem dX6_digest_18 : decode cX6_digest 18 = .ok (.aload_n 0, 1) := by decide +kernel
theorem dX6_digest_19 : decode cX6_digest 19 = .ok (.lload_n 1, 1) := by decide +kernel
theorem dX6_digest_20 : decode cX6_digest 20 = .ok (.invokevirtual 292, 3) := by decide +kernel
theorem dX6_digest_23 : decode cX6_digest 23 = .ok (.lstore_n 1, 1) := by decide +kernel
theorem dX6_digest_24 : decode cX6_digest 24 = .ok (.aload_n 0, 1) := by decide +kernel
theorem dX6_digest_25 : decode cX6_digest 25 = .ok (.lload_n 1, 1) := by decide +kernel
theorem dX6_digest_26 : decode cX6_digest 26 = .ok (.invokevirtual 295, 3) := by decide +kernel
theorem dX6_digest_29 : decode cX6_digest 29 = .ok (.lstore_n 1, 1) := by decide +kernel
theorem dX6_digest_30 : decode cX6_digest 30 = .ok (.lload_n 1, 1) := by decide +kernel
theorem dX6_digest_31 : decode cX6_digest 31 = .ok (.aload_n 0, 1) := by decide +kernel
theorem dX6_digest_32 : decode cX6_digest 32 = .ok (.invokevirtual 298, 3) := by decide +kernel
theorem dX6_digest_35 : decode cX6_digest 35 = .ok (.invokestatic 302, 3) := by decide +kernel
theorem dX6_digest_38 : decode cX6_digest 38 = .ok (.invokestatic 306, 3) := by decide +kernel
theorem dX6_digest_41 : decode cX6_digest 41 = .ok (.lstore_n 1, 1) := by decide +kernel
theorem dX6_digest_42 : decode cX6_digest 42 = .ok (.lload_n 1, 1) := by decide +kernel
theorem dX6_digest_43 : decode cX6_digest 43 = .ok (.aload_n 0, 1) := by decide +kernel
theorem dX6_digest_44 : decode cX6_digest 44 = .ok (.invokevirtual 310, 3) := by decide +kernel
theorem dX6_digest_47 : decode cX6_digest 47 = .ok (.invokestatic 314, 3) := by decide +kernel
theorem dX6_digest_50 : decode cX6_digest 50 = .ok (.i2l, 1) := by decide +kernel
theorem dX6_digest_51 : decode cX6_digest 51 = .ok (.invokestatic 306, 3) := by decide +kernel
theorem dX6_digest_54 : decode cX6_digest 54 = .ok (.lstore_n 1, 1) := by decide +kernel
theorem dX6_digest_55 : decode cX6_digest 55 = .ok (.lload_n 1, 1) := by decide +kernel
theorem dX6_digest_56 : decode cX6_digest 56 = .ok (.aload_n 0, 1) := by decide +kernel
theorem dX6_digest_57 : decode cX6_digest 57 = .ok (.getfield 203, 3) := by decide +kernel
theorem dX6_digest_60 : decode cX6_digest 60 = .ok (.ifCond .eq 7, 3) := by decide +kernel
theorem dX6_digest_63 : decode cX6_digest 63 = .ok (.lconst 1, 1) := by decide +kernel
theorem dX6_digest_64 : decode cX6_digest 64 = .ok (.goto 4, 3) := by decide +kernel
theorem dX6_digest_67 : decode cX6_digest 67 = .ok (.lconst 0, 1) := by decide +kernel
theorem dX6_digest_68 : decode cX6_digest 68 = .ok (.invokestatic 306, 3) := by decide +kernel
theorem dX6_digest_71 : decode cX6_digest 71 = .ok (.lstore_n 1, 1) := by decide +kernel
theorem dX6_digest_72 : decode cX6_digest 72 = .ok (.lload_n 1, 1) := by decide +kernel
theorem dX6_digest_73 : decode cX6_digest 73 = .ok (.aload_n 0, 1) := by decide +kernel
theorem dX6_digest_74 : decode cX6_digest 74 = .ok (.getfield 29, 3) := by decide +kernel
theorem dX6_digest_77 : decode cX6_digest 77 = .ok (.invokevirtual 196, 3) := by decide +kernel
theorem dX6_digest_80 : decode cX6_digest 80 = .ok (.i2l, 1) := by decide +kernel
theorem dX6_digest_81 : decode cX6_digest 81 = .ok (.invokestatic 306, 3) := by decide +kernel
theorem dX6_digest_84 : decode cX6_digest 84 = .ok (.lstore_n 1, 1) := by decide +kernel
theorem dX6_digest_85 : decode cX6_digest 85 = .ok (.iconst 0, 1) := by decide +kernel
theorem dX6_digest_86 : decode cX6_digest 86 = .ok (.istore_n 3, 1) := by decide +kernel
theorem dX6_digest_87 : decode cX6_digest 87 = .ok (.iload_n 3, 1) := by decide +kernel
theorem dX6_digest_88 : decode cX6_digest 88 = .ok (.aload_n 0, 1) := by decide +kernel
theorem dX6_digest_89 : decode cX6_digest 89 = .ok (.getfield 29, 3) := by decide +kernel
theorem dX6_digest_92 : decode cX6_digest 92 = .ok (.invokevirtual 196, 3) := by decide +kernel
theorem dX6_digest_95 : decode cX6_digest 95 = .ok (.if_icmp .ge 23, 3) := by decide +kernel
theorem dX6_digest_98 : decode cX6_digest 98 = .ok (.lload_n 1, 1) := by decide +kernel
theorem dX6_digest_99 : decode cX6_digest 99 = .ok (.aload_n 0, 1) := by decide +kernel
theorem dX6_digest_100 : decode cX6_digest 100 = .ok (.getfield 29, 3) := by decide +kernel
theorem dX6_digest_103 : decode cX6_digest 103 = .ok (.iload_n 3, 1) := by decide +kernel
theorem dX6_digest_104 : decode cX6_digest 104 = .ok (.invokevirtual 318, 3) := by decide +kernel
theorem dX6_digest_107 : decode cX6_digest 107 = .ok (.i2l, 1) := by decide +kernel
theorem dX6_digest_108 : decode cX6_digest 108 = .ok (.invokestatic 306, 3) := by decide +kernel
theorem dX6_digest_111 : decode cX6_digest 111 = .ok (.lstore_n 1, 1) := by decide +kernel
theorem dX6_digest_112 : decode cX6_digest 112 = .ok (.iinc 3 1, 3) := by decide +kernel
theorem dX6_digest_115 : decode cX6_digest 115 = .ok (.goto (-28), 3) := by decide +kernel
theorem dX6_digest_118 : decode cX6_digest 118 = .ok (.lload_n 1, 1) := by decide +kernel
theorem dX6_digest_119 : decode cX6_digest 119 = .ok (.lreturn, 1) := by decide +kernel
theorem dX6_canStrike_0 : decode cX6_canStrike 0 = .ok (.iload_n 1, 1) := by decide +kernel
theorem dX6_canStrike_1 : decode cX6_canStrike 1 = .ok (.ifCond .ne 24, 3) := by decide +kernel
theorem dX6_canStrike_4 : decode cX6_canStrike 4 = .ok (.aload_n 0, 1) := by decide +kernel
theorem dX6_canStrike_5 : decode cX6_canStrike 5 = .ok (.getfield 10, 3) := by decide +kernel
theorem dX6_canStrike_8 : decode cX6_canStrike 8 = .ok (.getfield 104, 3) := by decide +kernel
theorem dX6_canStrike_11 : decode cX6_canStrike 11 = .ok (.invokevirtual 94, 3) := by decide +kernel
theorem dX6_canStrike_14 : decode cX6_canStrike 14 = .ok (.ifCond .le 7, 3) := by decide +kernel
theorem dX6_canStrike_17 : decode cX6_canStrike 17 = .ok (.iconst 1, 1) := by decide +kernel
theorem dX6_canStrike_18 : decode cX6_canStrike 18 = .ok (.goto 25, 3) := by decide +kernel
theorem dX6_canStrike_21 : decode cX6_canStrike 21 = .ok (.iconst 0, 1) := by decide +kernel
theorem dX6_canStrike_22 : decode cX6_canStrike 22 = .ok (.goto 21, 3) := by decide +kernel
theorem dX6_canStrike_25 : decode cX6_canStrike 25 = .ok (.aload_n 0, 1) := by decide +kernel
theorem dX6_canStrike_26 : decode cX6_canStrike 26 = .ok (.getfield 10, 3) := by decide +kernel
theorem dX6_canStrike_29 : decode cX6_canStrike 29 = .ok (.getfield 104, 3) := by decide +kernel
theorem dX6_canStrike_32 : decode cX6_canStrike 32 = .ok (.invokevirtual 321, 3) := by decide +kernel
theorem dX6_canStrike_35 : decode cX6_canStrike 35 = .ok (.ifCond .ne 7, 3) := by decide +kernel
theorem dX6_canStrike_38 : decode cX6_canStrike 38 = .ok (.iconst 1, 1) := by decide +kernel
theorem dX6_canStrike_39 : decode cX6_canStrike 39 = .ok (.goto 4, 3) := by decide +kernel
theorem dX6_canStrike_42 : decode cX6_canStrike 42 = .ok (.iconst 0, 1) := by decide +kernel
theorem dX6_canStrike_43 : decode cX6_canStrike 43 = .ok (.ireturn, 1) := by decide +kernel
theorem dX6_putOrEat_0 : decode cX6_putOrEat 0 = .ok (.iload_n 1, 1) := by decide +kernel
theorem dX6_putOrEat_1 : decode cX6_putOrEat 1 = .ok (.ifCond .ne 10, 3) := by decide +kernel
theorem dX6_putOrEat_4 : decode cX6_putOrEat 4 = .ok (.aload_n 0, 1) := by decide +kernel
theorem dX6_putOrEat_5 : decode cX6_putOrEat 5 = .ok (.invokevirtual 322, 3) := by decide +kernel
theorem dX6_putOrEat_8 : decode cX6_putOrEat 8 = .ok (.goto 43, 3) := by decide +kernel
theorem dX6_putOrEat_11 : decode cX6_putOrEat 11 = .ok (.aload_n 0, 1) := by decide +kernel
theorem dX6_putOrEat_12 : decode cX6_putOrEat 12 = .ok (.getfield 10, 3) := by decide +kernel
theorem dX6_putOrEat_15 : decode cX6_putOrEat 15 = .ok (.getfield 104, 3) := by decide +kernel
theorem dX6_putOrEat_18 : decode cX6_putOrEat 18 = .ok (.iload_n 1, 1) := by decide +kernel
theorem dX6_putOrEat_19 : decode cX6_putOrEat 19 = .ok (.invokevirtual 239, 3) := by decide +kernel
theorem dX6_putOrEat_22 : decode cX6_putOrEat 22 = .ok (.aload_n 0, 1) := by decide +kernel
theorem dX6_putOrEat_23 : decode cX6_putOrEat 23 = .ok (.getfield 10, 3) := by decide +kernel
theorem dX6_putOrEat_26 : decode cX6_putOrEat 26 = .ok (.dup, 1) := by decide +kernel
theorem dX6_putOrEat_27 : decode cX6_putOrEat 27 = .ok (.getfield 277, 3) := by decide +kernel
theorem dX6_putOrEat_30 : decode cX6_putOrEat 30 = .ok (.iconst 1, 1) := by decide +kernel
theorem dX6_putOrEat_31 : decode cX6_putOrEat 31 = .ok (.iadd, 1) := by decide +kernel
theorem dX6_putOrEat_32 : decode cX6_putOrEat 32 = .ok (.putfield 277, 3) := by decide +kernel
theorem dX6_putOrEat_35 : decode cX6_putOrEat 35 = .ok (.aload_n 0, 1) := by decide +kernel
theorem dX6_putOrEat_36 : decode cX6_putOrEat 36 = .ok (.getfield 10, 3) := by decide +kernel
theorem dX6_putOrEat_39 : decode cX6_putOrEat 39 = .ok (.dup, 1) := by decide +kernel
theorem dX6_putOrEat_40 : decode cX6_putOrEat 40 = .ok (.getfield 280, 3) := by decide +kernel
theorem dX6_putOrEat_43 : decode cX6_putOrEat 43 = .ok (.iload_n 1, 1) := by decide +kernel
theorem dX6_putOrEat_44 : decode cX6_putOrEat 44 = .ok (.invokestatic 325, 3) := by decide +kernel
theorem dX6_putOrEat_47 : decode cX6_putOrEat 47 = .ok (.iadd, 1) := by decide +kernel
theorem dX6_putOrEat_48 : decode cX6_putOrEat 48 = .ok (.putfield 280, 3) := by decide +kernel
theorem dX6_putOrEat_51 : decode cX6_putOrEat 51 = .ok (.return_, 1) := by decide +kernel
theorem dX6_eat_0 : decode cX6_eat 0 = .ok (.aload_n 0, 1) := by decide +kernel
theorem dX6_eat_1 : decode cX6_eat 1 = .ok (.getfield 10, 3) := by decide +kernel
theorem dX6_eat_4 : decode cX6_eat 4 = .ok (.getfield 104, 3) := by decide +kernel
theorem dX6_eat_7 : decode cX6_eat 7 = .ok (.invokevirtual 94, 3) := by decide +kernel
theorem dX6_eat_10 : decode cX6_eat 10 = .ok (.iconst 1, 1) := by decide +kernel
theorem dX6_eat_11 : decode cX6_eat 11 = .ok (.isub, 1) := by decide +kernel
theorem dX6_eat_12 : decode cX6_eat 12 = .ok (.istore_n 1, 1) := by decide +kernel
theorem dX6_eat_13 : decode cX6_eat 13 = .ok (.aload_n 0, 1) := by decide +kernel
theorem dX6_eat_14 : decode cX6_eat 14 = .ok (.getfield 10, 3) := by decide +kernel
theorem dX6_eat_17 : decode cX6_eat 17 = .ok (.getfield 182, 3) := by decide +kernel
theorem dX6_eat_20 : decode cX6_eat 20 = .ok (.iconst 1, 1) := by decide +kernel
theorem dX6_eat_21 : decode cX6_eat 21 = .ok (.if_icmp .ne 24, 3) := by decide +kernel
theorem dX6_eat_24 : decode cX6_eat 24 = .ok (.aload_n 0, 1) := by decide +kernel
theorem dX6_eat_25 : decode cX6_eat 25 = .ok (.invokevirtual 81, 3) := by decide +kernel
theorem dX6_eat_28 : decode cX6_eat 28 = .ok (.aload_n 0, 1) := by decide +kernel
theorem dX6_eat_29 : decode cX6_eat 29 = .ok (.getfield 36, 3) := by decide +kernel
theorem dX6_eat_32 : decode cX6_eat 32 = .ok (.aload_n 0, 1) := by decide +kernel
theorem dX6_eat_33 : decode cX6_eat 33 = .ok (.getfield 36, 3) := by decide +kernel
theorem dX6_eat_36 : decode cX6_eat 36 = .ok (.invokevirtual 84, 3) := by decide +kernel
theorem dX6_eat_39 : decode cX6_eat 39 = .ok (.iconst 1, 1) := by decide +kernel
theorem dX6_eat_40 : decode cX6_eat 40 = .ok (.isub, 1) := by decide +kernel
theorem dX6_eat_41 : decode cX6_eat 41 = .ok (.invokevirtual 330, 3) := by decide +kernel
theorem dX6_eat_44 : decode cX6_eat 44 = .ok (.istore_n 1, 1) := by decide +kernel
theorem dX6_eat_45 : decode cX6_eat 45 = .ok (.aload_n 0, 1) := by decide +kernel
theorem dX6_eat_46 : decode cX6_eat 46 = .ok (.getfield 10, 3) := by decide +kernel
theorem dX6_eat_49 : decode cX6_eat 49 = .ok (.dup, 1) := by decide +kernel
theorem dX6_eat_50 : decode cX6_eat 50 = .ok (.getfield 333, 3) := by decide +kernel
theorem dX6_eat_53 : decode cX6_eat 53 = .ok (.aload_n 0, 1) := by decide +kernel
theorem dX6_eat_54 : decode cX6_eat 54 = .ok (.getfield 10, 3) := by decide +kernel
theorem dX6_eat_57 : decode cX6_eat 57 = .ok (.getfield 104, 3) := by decide +kernel
theorem dX6_eat_60 : decode cX6_eat 60 = .ok (.invokevirtual 94, 3) := by decide +kernel
theorem dX6_eat_63 : decode cX6_eat 63 = .ok (.iload_n 1, 1) := by decide +kernel
theorem dX6_eat_64 : decode cX6_eat 64 = .ok (.isub, 1) := by decide +kernel
theorem dX6_eat_65 : decode cX6_eat 65 = .ok (.iadd, 1) := by decide +kernel
theorem dX6_eat_66 : decode cX6_eat 66 = .ok (.putfield 333, 3) := by decide +kernel
theorem dX6_eat_69 : decode cX6_eat 69 = .ok (.aload_n 0, 1) := by decide +kernel
theorem dX6_eat_70 : decode cX6_eat 70 = .ok (.getfield 10, 3) := by decide +kernel
theorem dX6_eat_73 : decode cX6_eat 73 = .ok (.dup, 1) := by decide +kernel
theorem dX6_eat_74 : decode cX6_eat 74 = .ok (.getfield 336, 3) := by decide +kernel
theorem dX6_eat_77 : decode cX6_eat 77 = .ok (.iconst 1, 1) := by decide +kernel
theorem dX6_eat_78 : decode cX6_eat 78 = .ok (.iadd, 1) := by decide +kernel
theorem dX6_eat_79 : decode cX6_eat 79 = .ok (.putfield 336, 3) := by decide +kernel
theorem dX6_eat_82 : decode cX6_eat 82 = .ok (.aload_n 0, 1) := by decide +kernel
theorem dX6_eat_83 : decode cX6_eat 83 = .ok (.getfield 10, 3) := by decide +kernel
theorem dX6_eat_86 : decode cX6_eat 86 = .ok (.getfield 104, 3) := by decide +kernel
theorem dX6_eat_89 : decode cX6_eat 89 = .ok (.iload_n 1, 1) := by decide +kernel
theorem dX6_eat_90 : decode cX6_eat 90 = .ok (.invokevirtual 107, 3) := by decide +kernel
theorem dX6_eat_93 : decode cX6_eat 93 = .ok (.return_, 1) := by decide +kernel
theorem dX6_readPaper_0 : decode cX6_readPaper 0 = .ok (.aload_n 0, 1) := by decide +kernel
theorem dX6_readPaper_1 : decode cX6_readPaper 1 = .ok (.getfield 36, 3) := by decide +kernel
theorem dX6_readPaper_4 : decode cX6_readPaper 4 = .ok (.iconst 0, 1) := by decide +kernel
theorem dX6_readPaper_5 : decode cX6_readPaper 5 = .ok (.invokevirtual 240, 3) := by decide +kernel
theorem dX6_readPaper_8 : decode cX6_readPaper 8 = .ok (.aload_n 0, 1) := by decide +kernel
theorem dX6_readPaper_9 : decode cX6_readPaper 9 = .ok (.getfield 36, 3) := by decide +kernel
theorem dX6_readPaper_12 : decode cX6_readPaper 12 = .ok (.aload_n 0, 1) := by decide +kernel
theorem dX6_readPaper_13 : decode cX6_readPaper 13 = .ok (.getfield 10, 3) := by decide +kernel
theorem dX6_readPaper_16 : decode cX6_readPaper 16 = .ok (.getfield 104, 3) := by decide +kernel
theorem dX6_readPaper_19 : decode cX6_readPaper 19 = .ok (.aload_n 0, 1) := by decide +kernel
theorem dX6_readPaper_20 : decode cX6_readPaper 20 = .ok (.getfield 10, 3) := by decide +kernel
theorem dX6_readPaper_23 : decode cX6_readPaper 23 = .ok (.invokevirtual 243, 3) := by decide +kernel
theorem dX6_readPaper_26 : decode cX6_readPaper 26 = .ok (.return_, 1) := by decide +kernel
theorem dX6_strokeOf_0 : decode cX6_strokeOf 0 = .ok (.lload_n 0, 1) := by decide +kernel
theorem dX6_strokeOf_1 : decode cX6_strokeOf 1 = .ok (.bipush 10, 2) := by decide +kernel
theorem dX6_strokeOf_3 : decode cX6_strokeOf 3 = .ok (.iload_n 2, 1) := by decide +kernel
theorem dX6_strokeOf_4 : decode cX6_strokeOf 4 = .ok (.imul, 1) := by decide +kernel
theorem dX6_strokeOf_5 : decode cX6_strokeOf 5 = .ok (.lshr, 1) := by decide +kernel
theorem dX6_strokeOf_6 : decode cX6_strokeOf 6 = .ok (.l2i, 1) := by decide +kernel
theorem dX6_strokeOf_7 : decode cX6_strokeOf 7 = .ok (.sipush 1023, 3) := by decide +kernel
theorem dX6_strokeOf_10 : decode cX6_strokeOf 10 = .ok (.iand, 1) := by decide +kernel
theorem dX6_strokeOf_11 : decode cX6_strokeOf 11 = .ok (.ireturn, 1) := by decide +kernel
theorem dX6_strokesOf_0 : decode cX6_strokesOf 0 = .ok (.iconst 0, 1) := by decide +kernel
theorem dX6_strokesOf_1 : decode cX6_strokesOf 1 = .ok (.istore_n 2, 1) := by decide +kernel
theorem dX6_strokesOf_2 : decode cX6_strokesOf 2 = .ok (.iconst 0, 1) := by decide +kernel
theorem dX6_strokesOf_3 : decode cX6_strokesOf 3 = .ok (.istore_n 3, 1) := by decide +kernel
theorem dX6_strokesOf_4 : decode cX6_strokesOf 4 = .ok (.iload_n 3, 1) := by decide +kernel
theorem dX6_strokesOf_5 : decode cX6_strokesOf 5 = .ok (.iconst 4, 1) := by decide +kernel
theorem dX6_strokesOf_6 : decode cX6_strokesOf 6 = .ok (.if_icmp .ge 20, 3) := by decide +kernel
theorem dX6_strokesOf_9 : decode cX6_strokesOf 9 = .ok (.lload_n 0, 1) := by decide +kernel
theorem dX6_strokesOf_10 : decode cX6_strokesOf 10 = .ok (.iload_n 3, 1) := by decide +kernel
theorem dX6_strokesOf_11 : decode cX6_strokesOf 11 = .ok (.invokestatic 339, 3) := by decide +kernel
theorem dX6_strokesOf_14 : decode cX6_strokesOf 14 = .ok (.ifCond .eq 6, 3) := by decide +kernel
theorem dX6_strokesOf_17 : decode cX6_strokesOf 17 = .ok (.iinc 2 1, 3) := by decide +kernel
theorem dX6_strokesOf_20 : decode cX6_strokesOf 20 = .ok (.iinc 3 1, 3) := by decide +kernel
theorem dX6_strokesOf_23 : decode cX6_strokesOf 23 = .ok (.goto (-19), 3) := by decide +kernel
theorem dX6_strokesOf_26 : decode cX6_strokesOf 26 = .ok (.iload_n 2, 1) := by decide +kernel
theorem dX6_strokesOf_27 : decode cX6_strokesOf 27 = .ok (.ireturn, 1) := by decide +kernel
theorem dX6_canBeRow_0 : decode cX6_canBeRow 0 = .ok (.iconst 0, 1) := by decide +kernel
theorem dX6_canBeRow_1 : decode cX6_canBeRow 1 = .ok (.istore_n 1, 1) := by decide +kernel
theorem dX6_canBeRow_2 : decode cX6_canBeRow 2 = .ok (.iload_n 1, 1) := by decide +kernel
theorem dX6_canBeRow_3 : decode cX6_canBeRow 3 = .ok (.aload_n 0, 1) := by decide +kernel
theorem dX6_canBeRow_4 : decode cX6_canBeRow 4 = .ok (.invokevirtual 94, 3) := by decide +kernel
theorem dX6_canBeRow_7 : decode cX6_canBeRow 7 = .ok (.if_icmp .ge 19, 3) := by decide +kernel
theorem dX6_canBeRow_10 : decode cX6_canBeRow 10 = .ok (.aload_n 0, 1) := by decide +kernel
theorem dX6_canBeRow_11 : decode cX6_canBeRow 11 = .ok (.iload_n 1, 1) := by decide +kernel
theorem dX6_canBeRow_12 : decode cX6_canBeRow 12 = .ok (.invokevirtual 97, 3) := by decide +kernel
theorem dX6_canBeRow_15 : decode cX6_canBeRow 15 = .ok (.ifCond .ne 5, 3) := by decide +kernel
theorem dX6_canBeRow_18 : decode cX6_canBeRow 18 = .ok (.iconst 0, 1) := by decide +kernel
theorem dX6_canBeRow_19 : decode cX6_canBeRow 19 = .ok (.ireturn, 1) := by decide +kernel
theorem dX6_canBeRow_20 : decode cX6_canBeRow 20 = .ok (.iinc 1 1, 3) := by decide +kernel
theorem dX6_canBeRow_23 : decode cX6_canBeRow 23 = .ok (.goto (-21), 3) := by decide +kernel
theorem dX6_canBeRow_26 : decode cX6_canBeRow 26 = .ok (.aload_n 0, 1) := by decide +kernel
theorem dX6_canBeRow_27 : decode cX6_canBeRow 27 = .ok (.invokevirtual 94, 3) := by decide +kernel
theorem dX6_canBeRow_30 : decode cX6_canBeRow 30 = .ok (.iconst 1, 1) := by decide +kernel
theorem dX6_canBeRow_31 : decode cX6_canBeRow 31 = .ok (.if_icmp .lt 15, 3) := by decide +kernel
theorem dX6_canBeRow_34 : decode cX6_canBeRow 34 = .ok (.aload_n 0, 1) := by decide +kernel
theorem dX6_canBeRow_35 : decode cX6_canBeRow 35 = .ok (.invokevirtual 94, 3) := by decide +kernel
theorem dX6_canBeRow_38 : decode cX6_canBeRow 38 = .ok (.iconst 4, 1) := by decide +kernel
theorem dX6_canBeRow_39 : decode cX6_canBeRow 39 = .ok (.if_icmp .gt 7, 3) := by decide +kernel
theorem dX6_canBeRow_42 : decode cX6_canBeRow 42 = .ok (.iconst 1, 1) := by decide +kernel
theorem dX6_canBeRow_43 : decode cX6_canBeRow 43 = .ok (.goto 4, 3) := by decide +kernel
theorem dX6_canBeRow_46 : decode cX6_canBeRow 46 = .ok (.iconst 0, 1) := by decide +kernel
theorem dX6_canBeRow_47 : decode cX6_canBeRow 47 = .ok (.ireturn, 1) := by decide +kernel
theorem dX6_rowOfItem_0 : decode cX6_rowOfItem 0 = .ok (.aload_n 0, 1) := by decide +kernel
theorem dX6_rowOfItem_1 : decode cX6_rowOfItem 1 = .ok (.getfield 10, 3) := by decide +kernel
theorem dX6_rowOfItem_4 : decode cX6_rowOfItem 4 = .ok (.getfield 104, 3) := by decide +kernel
theorem dX6_rowOfItem_7 : decode cX6_rowOfItem 7 = .ok (.aload_n 0, 1) := by decide +kernel
theorem dX6_rowOfItem_8 : decode cX6_rowOfItem 8 = .ok (.getfield 36, 3) := by decide +kernel
theorem dX6_rowOfItem_11 : decode cX6_rowOfItem 11 = .ok (.iload_n 1, 1) := by decide +kernel
theorem dX6_rowOfItem_12 : decode cX6_rowOfItem 12 = .ok (.invokevirtual 330, 3) := by decide +kernel
theorem dX6_rowOfItem_15 : decode cX6_rowOfItem 15 = .ok (.aload_n 0, 1) := by decide +kernel
theorem dX6_rowOfItem_16 : decode cX6_rowOfItem 16 = .ok (.getfield 36, 3) := by decide +kernel
theorem dX6_rowOfItem_19 : decode cX6_rowOfItem 19 = .ok (.iload_n 1, 1) := by decide +kernel
theorem dX6_rowOfItem_20 : decode cX6_rowOfItem 20 = .ok (.invokevirtual 253, 3) := by decide +kernel
theorem dX6_rowOfItem_23 : decode cX6_rowOfItem 23 = .ok (.invokevirtual 147, 3) := by decide +kernel
theorem dX6_rowOfItem_26 : decode cX6_rowOfItem 26 = .ok (.lreturn, 1) := by decide +kernel
theorem dX6_canBeSet_0 : decode cX6_canBeSet 0 = .ok (.iload_n 0, 1) := by decide +kernel
theorem dX6_canBeSet_1 : decode cX6_canBeSet 1 = .ok (.ifCond .ne 18, 3) := by decide +kernel
theorem dX6_canBeSet_4 : decode cX6_canBeSet 4 = .ok (.iload_n 1, 1) := by decide +kernel
theorem dX6_canBeSet_5 : decode cX6_canBeSet 5 = .ok (.ifCond .eq 8, 3) := by decide +kernel
theorem dX6_canBeSet_8 : decode cX6_canBeSet 8 = .ok (.iload_n 1, 1) := by decide +kernel
theorem dX6_canBeSet_9 : decode cX6_canBeSet 9 = .ok (.iconst 1, 1) := by decide +kernel
theorem dX6_canBeSet_10 : decode cX6_canBeSet 10 = .ok (.if_icmp .ne 7, 3) := by decide +kernel
theorem dX6_canBeSet_13 : decode cX6_canBeSet 13 = .ok (.iconst 1, 1) := by decide +kernel
theorem dX6_canBeSet_14 : decode cX6_canBeSet 14 = .ok (.goto 4, 3) := by decide +kernel
theorem dX6_canBeSet_17 : decode cX6_canBeSet 17 = .ok (.iconst 0, 1) := by decide +kernel
theorem dX6_canBeSet_18 : decode cX6_canBeSet 18 = .ok (.ireturn, 1) := by decide +kernel
theorem dX6_canBeSet_19 : decode cX6_canBeSet 19 = .ok (.iload_n 1, 1) := by decide +kernel
theorem dX6_canBeSet_20 : decode cX6_canBeSet 20 = .ok (.iconst 1, 1) := by decide +kernel
theorem dX6_canBeSet_21 : decode cX6_canBeSet 21 = .ok (.if_icmp .lt 12, 3) := by decide +kernel
theorem dX6_canBeSet_24 : decode cX6_canBeSet 24 = .ok (.iload_n 1, 1) := by decide +kernel
theorem dX6_canBeSet_25 : decode cX6_canBeSet 25 = .ok (.iconst 4, 1) := by decide +kernel
theorem dX6_canBeSet_26 : decode cX6_canBeSet 26 = .ok (.if_icmp .gt 7, 3) := by decide +kernel
theorem dX6_canBeSet_29 : decode cX6_canBeSet 29 = .ok (.iconst 1, 1) := by decide +kernel
theorem dX6_canBeSet_30 : decode cX6_canBeSet 30 = .ok (.goto 4, 3) := by decide +kernel
theorem dX6_canBeSet_33 : decode cX6_canBeSet 33 = .ok (.iconst 0, 1) := by decide +kernel
theorem dX6_canBeSet_34 : decode cX6_canBeSet 34 = .ok (.ireturn, 1) := by decide +kernel
theorem dX6_settingNumber_0 : decode cX6_settingNumber 0 = .ok (.iload_n 1, 1) := by decide +kernel
theorem dX6_settingNumber_1 : decode cX6_settingNumber 1 = .ok (.ifCond .ne 13, 3) := by decide +kernel
theorem dX6_settingNumber_4 : decode cX6_settingNumber 4 = .ok (.aload_n 0, 1) := by decide +kernel
theorem dX6_settingNumber_5 : decode cX6_settingNumber 5 = .ok (.getfield 10, 3) := by decide +kernel
theorem dX6_settingNumber_8 : decode cX6_settingNumber 8 = .ok (.getfield 182, 3) := by decide +kernel
theorem dX6_settingNumber_11 : decode cX6_settingNumber 11 = .ok (.goto 10, 3) := by decide +kernel
theorem dX6_settingNumber_14 : decode cX6_settingNumber 14 = .ok (.aload_n 0, 1) := by decide +kernel
theorem dX6_settingNumber_15 : decode cX6_settingNumber 15 = .ok (.getfield 10, 3) := by decide +kernel
theorem dX6_settingNumber_18 : decode cX6_settingNumber 18 = .ok (.getfield 186, 3) := by decide +kernel
theorem dX6_settingNumber_21 : decode cX6_settingNumber 21 = .ok (.ireturn, 1) := by decide +kernel
theorem dX6_itemNumber_0 : decode cX6_itemNumber 0 = .ok (.iload_n 2, 1) := by decide +kernel
theorem dX6_itemNumber_1 : decode cX6_itemNumber 1 = .ok (.tableswitch 77 0 3 #[31, 50, 59, 68], 31) := by decide +kernel
theorem dX6_itemNumber_32 : decode cX6_itemNumber 32 = .ok (.aload_n 0, 1) := by decide +kernel
theorem dX6_itemNumber_33 : decode cX6_itemNumber 33 = .ok (.getfield 10, 3) := by decide +kernel
theorem dX6_itemNumber_36 : decode cX6_itemNumber 36 = .ok (.getfield 113, 3) := by decide +kernel
theorem dX6_itemNumber_39 : decode cX6_itemNumber 39 = .ok (.aload_n 0, 1) := by decide +kernel
theorem dX6_itemNumber_40 : decode cX6_itemNumber 40 = .ok (.getfield 36, 3) := by decide +kernel
theorem dX6_itemNumber_43 : decode cX6_itemNumber 43 = .ok (.iload_n 1, 1) := by decide +kernel
theorem dX6_itemNumber_44 : decode cX6_itemNumber 44 = .ok (.invokevirtual 247, 3) := by decide +kernel
theorem dX6_itemNumber_47 : decode cX6_itemNumber 47 = .ok (.invokevirtual 250, 3) := by decide +kernel
theorem dX6_itemNumber_50 : decode cX6_itemNumber 50 = .ok (.ireturn, 1) := by decide +kernel
theorem dX6_itemNumber_51 : decode cX6_itemNumber 51 = .ok (.aload_n 0, 1) := by decide +kernel
theorem dX6_itemNumber_52 : decode cX6_itemNumber 52 = .ok (.getfield 36, 3) := by decide +kernel
theorem dX6_itemNumber_55 : decode cX6_itemNumber 55 = .ok (.iload_n 1, 1) := by decide +kernel
theorem dX6_itemNumber_56 : decode cX6_itemNumber 56 = .ok (.invokevirtual 330, 3) := by decide +kernel
theorem dX6_itemNumber_59 : decode cX6_itemNumber 59 = .ok (.ireturn, 1) := by decide +kernel
theorem dX6_itemNumber_60 : decode cX6_itemNumber 60 = .ok (.aload_n 0, 1) := by decide +kernel
theorem dX6_itemNumber_61 : decode cX6_itemNumber 61 = .ok (.getfield 36, 3) := by decide +kernel
theorem dX6_itemNumber_64 : decode cX6_itemNumber 64 = .ok (.iload_n 1, 1) := by decide +kernel
theorem dX6_itemNumber_65 : decode cX6_itemNumber 65 = .ok (.invokevirtual 253, 3) := by decide +kernel
theorem dX6_itemNumber_68 : decode cX6_itemNumber 68 = .ok (.ireturn, 1) := by decide +kernel
theorem dX6_itemNumber_69 : decode cX6_itemNumber 69 = .ok (.aload_n 0, 1) := by decide +kernel
theorem dX6_itemNumber_70 : decode cX6_itemNumber 70 = .ok (.getfield 36, 3) := by decide +kernel
theorem dX6_itemNumber_73 : decode cX6_itemNumber 73 = .ok (.iload_n 1, 1) := by decide +kernel
theorem dX6_itemNumber_74 : decode cX6_itemNumber 74 = .ok (.invokevirtual 247, 3) := by decide +kernel
theorem dX6_itemNumber_77 : decode cX6_itemNumber 77 = .ok (.ireturn, 1) := by decide +kernel
theorem dX6_itemNumber_78 : decode cX6_itemNumber 78 = .ok (.aload_n 0, 1) := by decide +kernel
theorem dX6_itemNumber_79 : decode cX6_itemNumber 79 = .ok (.getfield 10, 3) := by decide +kernel
theorem dX6_itemNumber_82 : decode cX6_itemNumber 82 = .ok (.getfield 113, 3) := by decide +kernel
theorem dX6_itemNumber_85 : decode cX6_itemNumber 85 = .ok (.aload_n 0, 1) := by decide +kernel
theorem dX6_itemNumber_86 : decode cX6_itemNumber 86 = .ok (.iload_n 1, 1) := by decide +kernel
theorem dX6_itemNumber_87 : decode cX6_itemNumber 87 = .ok (.invokevirtual 125, 3) := by decide +kernel
theorem dX6_itemNumber_90 : decode cX6_itemNumber 90 = .ok (.invokevirtual 342, 3) := by decide +kernel
theorem dX6_itemNumber_93 : decode cX6_itemNumber 93 = .ok (.ireturn, 1) := by decide +kernel
theorem dX6_entryNumber_0 : decode cX6_entryNumber 0 = .ok (.aload_n 0, 1) := by decide +kernel
theorem dX6_entryNumber_1 : decode cX6_entryNumber 1 = .ok (.getfield 10, 3) := by decide +kernel
theorem dX6_entryNumber_4 : decode cX6_entryNumber 4 = .ok (.getfield 113, 3) := by decide +kernel
theorem dX6_entryNumber_7 : decode cX6_entryNumber 7 = .ok (.iload_n 1, 1) := by decide +kernel
theorem dX6_entryNumber_8 : decode cX6_entryNumber 8 = .ok (.invokevirtual 129, 3) := by decide +kernel
theorem dX6_entryNumber_11 : decode cX6_entryNumber 11 = .ok (.lstore_n 3, 1) := by decide +kernel
theorem dX6_entryNumber_12 : decode cX6_entryNumber 12 = .ok (.iload_n 2, 1) := by decide +kernel
theorem dX6_entryNumber_13 : decode cX6_entryNumber 13 = .ok (.tableswitch 119 0 9 #[55, 67, 119, 119, 119, 119, 72, 84, 105, 114], 55) := by decide +kernel
theorem dX6_entryNumber_68 : decode cX6_entryNumber 68 = .ok (.aload_n 0, 1) := by decide +kernel
theorem dX6_entryNumber_69 : decode cX6_entryNumber 69 = .ok (.getfield 10, 3) := by decide +kernel
theorem dX6_entryNumber_72 : decode cX6_entryNumber 72 = .ok (.getfield 113, 3) := by decide +kernel
theorem dX6_entryNumber_75 : decode cX6_entryNumber 75 = .ok (.iload_n 1, 1) := by decide +kernel
theorem dX6_entryNumber_76 : decode cX6_entryNumber 76 = .ok (.invokevirtual 250, 3) := by decide +kernel
theorem dX6_entryNumber_79 : decode cX6_entryNumber 79 = .ok (.ireturn, 1) := by decide +kernel
theorem dX6_entryNumber_80 : decode cX6_entryNumber 80 = .ok (.lload_n 3, 1) := by decide +kernel
theorem dX6_entryNumber_81 : decode cX6_entryNumber 81 = .ok (.invokestatic 346, 3) := by decide +kernel
theorem dX6_entryNumber_84 : decode cX6_entryNumber 84 = .ok (.ireturn, 1) := by decide +kernel
theorem dX6_entryNumber_85 : decode cX6_entryNumber 85 = .ok (.aload_n 0, 1) := by decide +kernel
theorem dX6_entryNumber_86 : decode cX6_entryNumber 86 = .ok (.getfield 10, 3) := by decide +kernel
theorem dX6_entryNumber_89 : decode cX6_entryNumber 89 = .ok (.getfield 113, 3) := by decide +kernel
theorem dX6_entryNumber_92 : decode cX6_entryNumber 92 = .ok (.iload_n 1, 1) := by decide +kernel
theorem dX6_entryNumber_93 : decode cX6_entryNumber 93 = .ok (.invokevirtual 137, 3) := by decide +kernel
theorem dX6_entryNumber_96 : decode cX6_entryNumber 96 = .ok (.ireturn, 1) := by decide +kernel
theorem dX6_entryNumber_97 : decode cX6_entryNumber 97 = .ok (.aload_n 0, 1) := by decide +kernel
theorem dX6_entryNumber_98 : decode cX6_entryNumber 98 = .ok (.getfield 10, 3) := by decide +kernel
theorem dX6_entryNumber_101 : decode cX6_entryNumber 101 = .ok (.getfield 113, 3) := by decide +kernel
theorem dX6_entryNumber_104 : decode cX6_entryNumber 104 = .ok (.lload_n 3, 1) := by decide +kernel
theorem dX6_entryNumber_105 : decode cX6_entryNumber 105 = .ok (.invokevirtual 349, 3) := by decide +kernel
theorem dX6_entryNumber_108 : decode cX6_entryNumber 108 = .ok (.iload_n 1, 1) := by decide +kernel
theorem dX6_entryNumber_109 : decode cX6_entryNumber 109 = .ok (.if_icmp .ne 7, 3) := by decide +kernel
theorem dX6_entryNumber_112 : decode cX6_entryNumber 112 = .ok (.iconst 1, 1) := by decide +kernel
theorem dX6_entryNumber_113 : decode cX6_entryNumber 113 = .ok (.goto 4, 3) := by decide +kernel
theorem dX6_entryNumber_116 : decode cX6_entryNumber 116 = .ok (.iconst 0, 1) := by decide +kernel
theorem dX6_entryNumber_117 : decode cX6_entryNumber 117 = .ok (.ireturn, 1) := by decide +kernel
theorem dX6_entryNumber_118 : decode cX6_entryNumber 118 = .ok (.aload_n 0, 1) := by decide +kernel
theorem dX6_entryNumber_119 : decode cX6_entryNumber 119 = .ok (.getfield 36, 3) := by decide +kernel
theorem dX6_entryNumber_122 : decode cX6_entryNumber 122 = .ok (.iload_n 1, 1) := by decide +kernel
theorem dX6_entryNumber_123 : decode cX6_entryNumber 123 = .ok (.invokevirtual 352, 3) := by decide +kernel
theorem dX6_entryNumber_126 : decode cX6_entryNumber 126 = .ok (.ireturn, 1) := by decide +kernel
theorem dX6_entryNumber_127 : decode cX6_entryNumber 127 = .ok (.lload_n 3, 1) := by decide +kernel
theorem dX6_entryNumber_128 : decode cX6_entryNumber 128 = .ok (.invokestatic 355, 3) := by decide +kernel
theorem dX6_entryNumber_131 : decode cX6_entryNumber 131 = .ok (.ireturn, 1) := by decide +kernel
theorem dX6_entryNumber_132 : decode cX6_entryNumber 132 = .ok (.lload_n 3, 1) := by decide +kernel
theorem dX6_entryNumber_133 : decode cX6_entryNumber 133 = .ok (.iload_n 2, 1) := by decide +kernel
theorem dX6_entryNumber_134 : decode cX6_entryNumber 134 = .ok (.iconst 2, 1) := by decide +kernel
theorem dX6_entryNumber_135 : decode cX6_entryNumber 135 = .ok (.isub, 1) := by decide +kernel
theorem dX6_entryNumber_136 : decode cX6_entryNumber 136 = .ok (.invokestatic 339, 3) := by decide +kernel
theorem dX6_entryNumber_139 : decode cX6_entryNumber 139 = .ok (.istore 5, 2) := by decide +kernel
theorem dX6_entryNumber_141 : decode cX6_entryNumber 141 = .ok (.iload 5, 2) := by decide +kernel
theorem dX6_entryNumber_143 : decode cX6_entryNumber 143 = .ok (.ifCond .ne 7, 3) := by decide +kernel
theorem dX6_entryNumber_146 : decode cX6_entryNumber 146 = .ok (.iconst (-1), 1) := by decide +kernel
theorem dX6_entryNumber_147 : decode cX6_entryNumber 147 = .ok (.goto 5, 3) := by decide +kernel
theorem dX6_entryNumber_150 : decode cX6_entryNumber 150 = .ok (.iload 5, 2) := by decide +kernel
theorem dX6_entryNumber_152 : decode cX6_entryNumber 152 = .ok (.ireturn, 1) := by decide +kernel
theorem dX6_countNumber_0 : decode cX6_countNumber 0 = .ok (.iload_n 1, 1) := by decide +kernel
theorem dX6_countNumber_1 : decode cX6_countNumber 1 = .ok (.tableswitch 123 0 8 #[51, 62, 67, 75, 80, 91, 99, 107, 115], 51) := by decide +kernel
theorem dX6_countNumber_52 : decode cX6_countNumber 52 = .ok (.aload_n 0, 1) := by decide +kernel
theorem dX6_countNumber_53 : decode cX6_countNumber 53 = .ok (.getfield 10, 3) := by decide +kernel
theorem dX6_countNumber_56 : decode cX6_countNumber 56 = .ok (.getfield 104, 3) := by decide +kernel
theorem dX6_countNumber_59 : decode cX6_countNumber 59 = .ok (.invokevirtual 94, 3) := by decide +kernel
theorem dX6_countNumber_62 : decode cX6_countNumber 62 = .ok (.ireturn, 1) := by decide +kernel
theorem dX6_countNumber_63 : decode cX6_countNumber 63 = .ok (.aload_n 0, 1) := by decide +kernel
theorem dX6_countNumber_64 : decode cX6_countNumber 64 = .ok (.invokevirtual 359, 3) := by decide +kernel
theorem dX6_countNumber_67 : decode cX6_countNumber 67 = .ok (.ireturn, 1) := by decide +kernel
theorem dX6_countNumber_68 : decode cX6_countNumber 68 = .ok (.aload_n 0, 1) := by decide +kernel
theorem dX6_countNumber_69 : decode cX6_countNumber 69 = .ok (.getfield 36, 3) := by decide +kernel
theorem dX6_countNumber_72 : decode cX6_countNumber 72 = .ok (.invokevirtual 84, 3) := by decide +kernel
theorem dX6_countNumber_75 : decode cX6_countNumber 75 = .ok (.ireturn, 1) := by decide +kernel
theorem dX6_countNumber_76 : decode cX6_countNumber 76 = .ok (.aload_n 0, 1) := by decide +kernel
theorem dX6_countNumber_77 : decode cX6_countNumber 77 = .ok (.invokevirtual 274, 3) := by decide +kernel
theorem dX6_countNumber_80 : decode cX6_countNumber 80 = .ok (.ireturn, 1) := by decide +kernel
theorem dX6_countNumber_81 : decode cX6_countNumber 81 = .ok (.aload_n 0, 1) := by decide +kernel
theorem dX6_countNumber_82 : decode cX6_countNumber 82 = .ok (.getfield 10, 3) := by decide +kernel
theorem dX6_countNumber_85 : decode cX6_countNumber 85 = .ok (.getfield 113, 3) := by decide +kernel
theorem dX6_countNumber_88 : decode cX6_countNumber 88 = .ok (.invokevirtual 165, 3) := by decide +kernel
theorem dX6_countNumber_91 : decode cX6_countNumber 91 = .ok (.ireturn, 1) := by decide +kernel
theorem dX6_countNumber_92 : decode cX6_countNumber 92 = .ok (.aload_n 0, 1) := by decide +kernel
theorem dX6_countNumber_93 : decode cX6_countNumber 93 = .ok (.getfield 10, 3) := by decide +kernel
theorem dX6_countNumber_96 : decode cX6_countNumber 96 = .ok (.getfield 277, 3) := by decide +kernel
theorem dX6_countNumber_99 : decode cX6_countNumber 99 = .ok (.ireturn, 1) := by decide +kernel
theorem dX6_countNumber_100 : decode cX6_countNumber 100 = .ok (.aload_n 0, 1) := by decide +kernel
theorem dX6_countNumber_101 : decode cX6_countNumber 101 = .ok (.getfield 10, 3) := by decide +kernel
theorem dX6_countNumber_104 : decode cX6_countNumber 104 = .ok (.getfield 333, 3) := by decide +kernel
theorem dX6_countNumber_107 : decode cX6_countNumber 107 = .ok (.ireturn, 1) := by decide +kernel
theorem dX6_countNumber_108 : decode cX6_countNumber 108 = .ok (.aload_n 0, 1) := by decide +kernel
theorem dX6_countNumber_109 : decode cX6_countNumber 109 = .ok (.getfield 10, 3) := by decide +kernel
theorem dX6_countNumber_112 : decode cX6_countNumber 112 = .ok (.getfield 336, 3) := by decide +kernel
theorem dX6_countNumber_115 : decode cX6_countNumber 115 = .ok (.ireturn, 1) := by decide +kernel
theorem dX6_countNumber_116 : decode cX6_countNumber 116 = .ok (.aload_n 0, 1) := by decide +kernel
theorem dX6_countNumber_117 : decode cX6_countNumber 117 = .ok (.getfield 10, 3) := by decide +kernel
theorem dX6_countNumber_120 : decode cX6_countNumber 120 = .ok (.getfield 280, 3) := by decide +kernel
theorem dX6_countNumber_123 : decode cX6_countNumber 123 = .ok (.ireturn, 1) := by decide +kernel
theorem dX6_countNumber_124 : decode cX6_countNumber 124 = .ok (.aload_n 0, 1) := by decide +kernel
theorem dX6_countNumber_125 : decode cX6_countNumber 125 = .ok (.getfield 22, 3) := by decide +kernel
theorem dX6_countNumber_128 : decode cX6_countNumber 128 = .ok (.invokevirtual 209, 3) := by decide +kernel
theorem dX6_countNumber_131 : decode cX6_countNumber 131 = .ok (.ireturn, 1) := by decide +kernel
theorem dX6_itemsStrokeByStroke_0 : decode cX6_itemsStrokeByStroke 0 = .ok (.aload_n 0, 1) := by decide +kernel
theorem dX6_itemsStrokeByStroke_1 : decode cX6_itemsStrokeByStroke 1 = .ok (.getfield 45, 3) := by decide +kernel
theorem dX6_itemsStrokeByStroke_4 : decode cX6_itemsStrokeByStroke 4 = .ok (.iconst 0, 1) := by decide +kernel
theorem dX6_itemsStrokeByStroke_5 : decode cX6_itemsStrokeByStroke 5 = .ok (.invokevirtual 107, 3) := by decide +kernel
theorem dX6_itemsStrokeByStroke_8 : decode cX6_itemsStrokeByStroke 8 = .ok (.aload_n 0, 1) := by decide +kernel
theorem dX6_itemsStrokeByStroke_9 : decode cX6_itemsStrokeByStroke 9 = .ok (.getfield 49, 3) := by decide +kernel
theorem dX6_itemsStrokeByStroke_12 : decode cX6_itemsStrokeByStroke 12 = .ok (.iconst 0, 1) := by decide +kernel
theorem dX6_itemsStrokeByStroke_13 : decode cX6_itemsStrokeByStroke 13 = .ok (.invokevirtual 240, 3) := by decide +kernel
theorem dX6_itemsStrokeByStroke_16 : decode cX6_itemsStrokeByStroke 16 = .ok (.iconst 0, 1) := by decide +kernel
theorem dX6_itemsStrokeByStroke_17 : decode cX6_itemsStrokeByStroke 17 = .ok (.istore_n 1, 1) := by decide +kernel
theorem dX6_itemsStrokeByStroke_18 : decode cX6_itemsStrokeByStroke 18 = .ok (.iload_n 1, 1) := by decide +kernel
theorem dX6_itemsStrokeByStroke_19 : decode cX6_itemsStrokeByStroke 19 = .ok (.aload_n 0, 1) := by decide +kernel
theorem dX6_itemsStrokeByStroke_20 : decode cX6_itemsStrokeByStroke 20 = .ok (.getfield 10, 3) := by decide +kernel
theorem dX6_itemsStrokeByStroke_23 : decode cX6_itemsStrokeByStroke 23 = .ok (.getfield 104, 3) := by decide +kernel
theorem dX6_itemsStrokeByStroke_26 : decode cX6_itemsStrokeByStroke 26 = .ok (.invokevirtual 94, 3) := by decide +kernel
theorem dX6_itemsStrokeByStroke_29 : decode cX6_itemsStrokeByStroke 29 = .ok (.if_icmp .ge 52, 3) := by decide +kernel
theorem dX6_itemsStrokeByStroke_32 : decode cX6_itemsStrokeByStroke 32 = .ok (.aload_n 0, 1) := by decide +kernel
theorem dX6_itemsStrokeByStroke_33 : decode cX6_itemsStrokeByStroke 33 = .ok (.getfield 45, 3) := by decide +kernel
theorem dX6_itemsStrokeByStroke_36 : decode cX6_itemsStrokeByStroke 36 = .ok (.aload_n 0, 1) := by decide +kernel
theorem dX6_itemsStrokeByStroke_37 : decode cX6_itemsStrokeByStroke 37 = .ok (.getfield 10, 3) := by decide +kernel
theorem dX6_itemsStrokeByStroke_40 : decode cX6_itemsStrokeByStroke 40 = .ok (.getfield 104, 3) := by decide +kernel
theorem dX6_itemsStrokeByStroke_43 : decode cX6_itemsStrokeByStroke 43 = .ok (.iload_n 1, 1) := by decide +kernel
theorem dX6_itemsStrokeByStroke_44 : decode cX6_itemsStrokeByStroke 44 = .ok (.invokevirtual 97, 3) := by decide +kernel
theorem dX6_itemsStrokeByStroke_47 : decode cX6_itemsStrokeByStroke 47 = .ok (.invokevirtual 239, 3) := by decide +kernel
theorem dX6_itemsStrokeByStroke_50 : decode cX6_itemsStrokeByStroke 50 = .ok (.aload_n 0, 1) := by decide +kernel
theorem dX6_itemsStrokeByStroke_51 : decode cX6_itemsStrokeByStroke 51 = .ok (.getfield 49, 3) := by decide +kernel
theorem dX6_itemsStrokeByStroke_54 : decode cX6_itemsStrokeByStroke 54 = .ok (.iload_n 1, 1) := by decide +kernel
theorem dX6_itemsStrokeByStroke_55 : decode cX6_itemsStrokeByStroke 55 = .ok (.iconst 3, 1) := by decide +kernel
theorem dX6_itemsStrokeByStroke_56 : decode cX6_itemsStrokeByStroke 56 = .ok (.isub, 1) := by decide +kernel
theorem dX6_itemsStrokeByStroke_57 : decode cX6_itemsStrokeByStroke 57 = .ok (.invokevirtual 240, 3) := by decide +kernel
theorem dX6_itemsStrokeByStroke_60 : decode cX6_itemsStrokeByStroke 60 = .ok (.aload_n 0, 1) := by decide +kernel
theorem dX6_itemsStrokeByStroke_61 : decode cX6_itemsStrokeByStroke 61 = .ok (.getfield 49, 3) := by decide +kernel
theorem dX6_itemsStrokeByStroke_64 : decode cX6_itemsStrokeByStroke 64 = .ok (.aload_n 0, 1) := by decide +kernel
theorem dX6_itemsStrokeByStroke_65 : decode cX6_itemsStrokeByStroke 65 = .ok (.getfield 45, 3) := by decide +kernel
theorem dX6_itemsStrokeByStroke_68 : decode cX6_itemsStrokeByStroke 68 = .ok (.aload_n 0, 1) := by decide +kernel
theorem dX6_itemsStrokeByStroke_69 : decode cX6_itemsStrokeByStroke 69 = .ok (.getfield 10, 3) := by decide +kernel
theorem dX6_itemsStrokeByStroke_72 : decode cX6_itemsStrokeByStroke 72 = .ok (.invokevirtual 243, 3) := by decide +kernel
theorem dX6_itemsStrokeByStroke_75 : decode cX6_itemsStrokeByStroke 75 = .ok (.iinc 1 1, 3) := by decide +kernel
theorem dX6_itemsStrokeByStroke_78 : decode cX6_itemsStrokeByStroke 78 = .ok (.goto (-60), 3) := by decide +kernel
theorem dX6_itemsStrokeByStroke_81 : decode cX6_itemsStrokeByStroke 81 = .ok (.aload_n 0, 1) := by decide +kernel
theorem dX6_itemsStrokeByStroke_82 : decode cX6_itemsStrokeByStroke 82 = .ok (.getfield 49, 3) := by decide +kernel
theorem dX6_itemsStrokeByStroke_85 : decode cX6_itemsStrokeByStroke 85 = .ok (.invokevirtual 84, 3) := by decide +kernel
theorem dX6_itemsStrokeByStroke_88 : decode cX6_itemsStrokeByStroke 88 = .ok (.ireturn, 1) := by decide +kernel
theorem dX6_rawItems_0 : decode cX6_rawItems 0 = .ok (.aload_n 0, 1) := by decide +kernel
theorem dX6_rawItems_1 : decode cX6_rawItems 1 = .ok (.getfield 36, 3) := by decide +kernel
theorem dX6_rawItems_4 : decode cX6_rawItems 4 = .ok (.iconst (-1), 1) := by decide +kernel
theorem dX6_rawItems_5 : decode cX6_rawItems 5 = .ok (.invokevirtual 352, 3) := by decide +kernel
theorem dX6_rawItems_8 : decode cX6_rawItems 8 = .ok (.ireturn, 1) := by decide +kernel
theorem dX6_canTell_0 : decode cX6_canTell 0 = .ok (.aload_n 0, 1) := by decide +kernel
theorem dX6_canTell_1 : decode cX6_canTell 1 = .ok (.getfield 10, 3) := by decide +kernel
theorem dX6_canTell_4 : decode cX6_canTell 4 = .ok (.getfield 113, 3) := by decide +kernel
theorem dX6_canTell_7 : decode cX6_canTell 7 = .ok (.iload_n 1, 1) := by decide +kernel
theorem dX6_canTell_8 : decode cX6_canTell 8 = .ok (.invokevirtual 129, 3) := by decide +kernel
theorem dX6_canTell_11 : decode cX6_canTell 11 = .ok (.lstore_n 3, 1) := by decide +kernel
theorem dX6_canTell_12 : decode cX6_canTell 12 = .ok (.aload_n 0, 1) := by decide +kernel
theorem dX6_canTell_13 : decode cX6_canTell 13 = .ok (.getfield 10, 3) := by decide +kernel
theorem dX6_canTell_16 : decode cX6_canTell 16 = .ok (.getfield 113, 3) := by decide +kernel
theorem dX6_canTell_19 : decode cX6_canTell 19 = .ok (.iload_n 1, 1) := by decide +kernel
theorem dX6_canTell_20 : decode cX6_canTell 20 = .ok (.invokevirtual 250, 3) := by decide +kernel
theorem dX6_canTell_23 : decode cX6_canTell 23 = .ok (.iload_n 2, 1) := by decide +kernel
theorem dX6_canTell_24 : decode cX6_canTell 24 = .ok (.if_icmp .ne 36, 3) := by decide +kernel
theorem dX6_canTell_27 : decode cX6_canTell 27 = .ok (.lload_n 3, 1) := by decide +kernel
theorem dX6_canTell_28 : decode cX6_canTell 28 = .ok (.invokestatic 346, 3) := by decide +kernel
theorem dX6_canTell_31 : decode cX6_canTell 31 = .ok (.aload_n 0, 1) := by decide +kernel
theorem dX6_canTell_32 : decode cX6_canTell 32 = .ok (.getfield 10, 3) := by decide +kernel
theorem dX6_canTell_35 : decode cX6_canTell 35 = .ok (.getfield 186, 3) := by decide +kernel
theorem dX6_canTell_38 : decode cX6_canTell 38 = .ok (.if_icmp .gt 22, 3) := by decide +kernel
theorem dX6_canTell_41 : decode cX6_canTell 41 = .ok (.aload_n 0, 1) := by decide +kernel
theorem dX6_canTell_42 : decode cX6_canTell 42 = .ok (.getfield 10, 3) := by decide +kernel
theorem dX6_canTell_45 : decode cX6_canTell 45 = .ok (.getfield 113, 3) := by decide +kernel
theorem dX6_canTell_48 : decode cX6_canTell 48 = .ok (.lload_n 3, 1) := by decide +kernel
theorem dX6_canTell_49 : decode cX6_canTell 49 = .ok (.invokevirtual 349, 3) := by decide +kernel
theorem dX6_canTell_52 : decode cX6_canTell 52 = .ok (.iload_n 1, 1) := by decide +kernel
theorem dX6_canTell_53 : decode cX6_canTell 53 = .ok (.if_icmp .ne 7, 3) := by decide +kernel
theorem dX6_canTell_56 : decode cX6_canTell 56 = .ok (.iconst 1, 1) := by decide +kernel
theorem dX6_canTell_57 : decode cX6_canTell 57 = .ok (.goto 4, 3) := by decide +kernel
theorem dX6_canTell_60 : decode cX6_canTell 60 = .ok (.iconst 0, 1) := by decide +kernel
theorem dX6_canTell_61 : decode cX6_canTell 61 = .ok (.ireturn, 1) := by decide +kernel
theorem dX6_isShorter_0 : decode cX6_isShorter 0 = .ok (.aload_n 0, 1) := by decide +kernel
theorem dX6_isShorter_1 : decode cX6_isShorter 1 = .ok (.getfield 10, 3) := by decide +kernel
theorem dX6_isShorter_4 : decode cX6_isShorter 4 = .ok (.getfield 113, 3) := by decide +kernel
theorem dX6_isShorter_7 : decode cX6_isShorter 7 = .ok (.iload_n 1, 1) := by decide +kernel
theorem dX6_isShorter_8 : decode cX6_isShorter 8 = .ok (.invokevirtual 129, 3) := by decide +kernel
theorem dX6_isShorter_11 : decode cX6_isShorter 11 = .ok (.lstore_n 3, 1) := by decide +kernel
theorem dX6_isShorter_12 : decode cX6_isShorter 12 = .ok (.aload_n 0, 1) := by decide +kernel
theorem dX6_isShorter_13 : decode cX6_isShorter 13 = .ok (.getfield 10, 3) := by decide +kernel
theorem dX6_isShorter_16 : decode cX6_isShorter 16 = .ok (.getfield 113, 3) := by decide +kernel
theorem dX6_isShorter_19 : decode cX6_isShorter 19 = .ok (.iload_n 2, 1) := by decide +kernel
theorem dX6_isShorter_20 : decode cX6_isShorter 20 = .ok (.invokevirtual 129, 3) := by decide +kernel
theorem dX6_isShorter_23 : decode cX6_isShorter 23 = .ok (.lstore 5, 2) := by decide +kernel
theorem dX6_isShorter_25 : decode cX6_isShorter 25 = .ok (.lload_n 3, 1) := by decide +kernel
theorem dX6_isShorter_26 : decode cX6_isShorter 26 = .ok (.invokestatic 346, 3) := by decide +kernel
theorem dX6_isShorter_29 : decode cX6_isShorter 29 = .ok (.istore 7, 2) := by decide +kernel
theorem dX6_isShorter_31 : decode cX6_isShorter 31 = .ok (.lload 5, 2) := by decide +kernel
theorem dX6_isShorter_33 : decode cX6_isShorter 33 = .ok (.invokestatic 346, 3) := by decide +kernel
theorem dX6_isShorter_36 : decode cX6_isShorter 36 = .ok (.istore 8, 2) := by decide +kernel
theorem dX6_isShorter_38 : decode cX6_isShorter 38 = .ok (.iload 7, 2) := by decide +kernel
theorem dX6_isShorter_40 : decode cX6_isShorter 40 = .ok (.iload 8, 2) := by decide +kernel
theorem dX6_isShorter_42 : decode cX6_isShorter 42 = .ok (.if_icmp .eq 16, 3) := by decide +kernel
theorem dX6_isShorter_45 : decode cX6_isShorter 45 = .ok (.iload 7, 2) := by decide +kernel
theorem dX6_isShorter_47 : decode cX6_isShorter 47 = .ok (.iload 8, 2) := by decide +kernel
theorem dX6_isShorter_49 : decode cX6_isShorter 49 = .ok (.if_icmp .ge 7, 3) := by decide +kernel
theorem dX6_isShorter_52 : decode cX6_isShorter 52 = .ok (.iconst 1, 1) := by decide +kernel
theorem dX6_isShorter_53 : decode cX6_isShorter 53 = .ok (.goto 4, 3) := by decide +kernel
theorem dX6_isShorter_56 : decode cX6_isShorter 56 = .ok (.iconst 0, 1) := by decide +kernel
theorem dX6_isShorter_57 : decode cX6_isShorter 57 = .ok (.ireturn, 1) := by decide +kernel
theorem dX6_isShorter_58 : decode cX6_isShorter 58 = .ok (.lload_n 3, 1) := by decide +kernel
theorem dX6_isShorter_59 : decode cX6_isShorter 59 = .ok (.invokestatic 355, 3) := by decide +kernel
theorem dX6_isShorter_62 : decode cX6_isShorter 62 = .ok (.lload 5, 2) := by decide +kernel
theorem dX6_isShorter_64 : decode cX6_isShorter 64 = .ok (.invokestatic 355, 3) := by decide +kernel
theorem dX6_isShorter_67 : decode cX6_isShorter 67 = .ok (.if_icmp .ge 7, 3) := by decide +kernel
theorem dX6_isShorter_70 : decode cX6_isShorter 70 = .ok (.iconst 1, 1) := by decide +kernel
theorem dX6_isShorter_71 : decode cX6_isShorter 71 = .ok (.goto 4, 3) := by decide +kernel
theorem dX6_isShorter_74 : decode cX6_isShorter 74 = .ok (.iconst 0, 1) := by decide +kernel
theorem dX6_isShorter_75 : decode cX6_isShorter 75 = .ok (.ireturn, 1) := by decide +kernel
theorem dX6_readBehind_0 : decode cX6_readBehind 0 = .ok (.aload_n 0, 1) := by decide +kernel
theorem dX6_readBehind_1 : decode cX6_readBehind 1 = .ok (.getfield 45, 3) := by decide +kernel
theorem dX6_readBehind_4 : decode cX6_readBehind 4 = .ok (.iconst 0, 1) := by decide +kernel
theorem dX6_readBehind_5 : decode cX6_readBehind 5 = .ok (.invokevirtual 107, 3) := by decide +kernel
theorem dX6_readBehind_8 : decode cX6_readBehind 8 = .ok (.aload_n 0, 1) := by decide +kernel
theorem dX6_readBehind_9 : decode cX6_readBehind 9 = .ok (.aload_n 0, 1) := by decide +kernel
theorem dX6_readBehind_10 : decode cX6_readBehind 10 = .ok (.getfield 10, 3) := by decide +kernel
theorem dX6_readBehind_13 : decode cX6_readBehind 13 = .ok (.getfield 113, 3) := by decide +kernel
theorem dX6_readBehind_16 : decode cX6_readBehind 16 = .ok (.iload_n 1, 1) := by decide +kernel
theorem dX6_readBehind_17 : decode cX6_readBehind 17 = .ok (.invokevirtual 129, 3) := by decide +kernel
theorem dX6_readBehind_20 : decode cX6_readBehind 20 = .ok (.invokevirtual 362, 3) := by decide +kernel
theorem dX6_readBehind_23 : decode cX6_readBehind 23 = .ok (.aload_n 0, 1) := by decide +kernel
theorem dX6_readBehind_24 : decode cX6_readBehind 24 = .ok (.getfield 45, 3) := by decide +kernel
theorem dX6_readBehind_27 : decode cX6_readBehind 27 = .ok (.invokevirtual 94, 3) := by decide +kernel
theorem dX6_readBehind_30 : decode cX6_readBehind 30 = .ok (.istore_n 3, 1) := by decide +kernel
theorem dX6_readBehind_31 : decode cX6_readBehind 31 = .ok (.aload_n 0, 1) := by decide +kernel
theorem dX6_readBehind_32 : decode cX6_readBehind 32 = .ok (.aload_n 0, 1) := by decide +kernel
theorem dX6_readBehind_33 : decode cX6_readBehind 33 = .ok (.getfield 10, 3) := by decide +kernel
theorem dX6_readBehind_36 : decode cX6_readBehind 36 = .ok (.getfield 113, 3) := by decide +kernel
theorem dX6_readBehind_39 : decode cX6_readBehind 39 = .ok (.iload_n 2, 1) := by decide +kernel
theorem dX6_readBehind_40 : decode cX6_readBehind 40 = .ok (.invokevirtual 129, 3) := by decide +kernel
theorem dX6_readBehind_43 : decode cX6_readBehind 43 = .ok (.invokevirtual 362, 3) := by decide +kernel
theorem dX6_readBehind_46 : decode cX6_readBehind 46 = .ok (.aload_n 0, 1) := by decide +kernel
theorem dX6_readBehind_47 : decode cX6_readBehind 47 = .ok (.getfield 45, 3) := by decide +kernel
theorem dX6_readBehind_50 : decode cX6_readBehind 50 = .ok (.invokevirtual 94, 3) := by decide +kernel
theorem dX6_readBehind_53 : decode cX6_readBehind 53 = .ok (.istore 4, 2) := by decide +kernel
theorem dX6_readBehind_55 : decode cX6_readBehind 55 = .ok (.aload_n 0, 1) := by decide +kernel
theorem dX6_readBehind_56 : decode cX6_readBehind 56 = .ok (.getfield 10, 3) := by decide +kernel
theorem dX6_readBehind_59 : decode cX6_readBehind 59 = .ok (.getfield 113, 3) := by decide +kernel
theorem dX6_readBehind_62 : decode cX6_readBehind 62 = .ok (.aload_n 0, 1) := by decide +kernel
theorem dX6_readBehind_63 : decode cX6_readBehind 63 = .ok (.getfield 45, 3) := by decide +kernel
theorem dX6_readBehind_66 : decode cX6_readBehind 66 = .ok (.iconst 0, 1) := by decide +kernel
theorem dX6_readBehind_67 : decode cX6_readBehind 67 = .ok (.aload_n 0, 1) := by decide +kernel
theorem dX6_readBehind_68 : decode cX6_readBehind 68 = .ok (.getfield 10, 3) := by decide +kernel
theorem dX6_readBehind_71 : decode cX6_readBehind 71 = .ok (.getfield 186, 3) := by decide +kernel
theorem dX6_readBehind_74 : decode cX6_readBehind 74 = .ok (.invokevirtual 366, 3) := by decide +kernel
theorem dX6_readBehind_77 : decode cX6_readBehind 77 = .ok (.istore 5, 2) := by decide +kernel
theorem dX6_readBehind_79 : decode cX6_readBehind 79 = .ok (.iload 5, 2) := by decide +kernel
theorem dX6_readBehind_81 : decode cX6_readBehind 81 = .ok (.iload 4, 2) := by decide +kernel
theorem dX6_readBehind_83 : decode cX6_readBehind 83 = .ok (.if_icmp .ne 5, 3) := by decide +kernel
theorem dX6_readBehind_86 : decode cX6_readBehind 86 = .ok (.iconst 1, 1) := by decide +kernel
theorem dX6_readBehind_87 : decode cX6_readBehind 87 = .ok (.ireturn, 1) := by decide +kernel
theorem dX6_readBehind_88 : decode cX6_readBehind 88 = .ok (.iload 5, 2) := by decide +kernel
theorem dX6_readBehind_90 : decode cX6_readBehind 90 = .ok (.iload_n 3, 1) := by decide +kernel
theorem dX6_readBehind_91 : decode cX6_readBehind 91 = .ok (.if_icmp .eq 5, 3) := by decide +kernel
theorem dX6_readBehind_94 : decode cX6_readBehind 94 = .ok (.iconst 2, 1) := by decide +kernel
theorem dX6_readBehind_95 : decode cX6_readBehind 95 = .ok (.ireturn, 1) := by decide +kernel
theorem dX6_readBehind_96 : decode cX6_readBehind 96 = .ok (.aload_n 0, 1) := by decide +kernel
theorem dX6_readBehind_97 : decode cX6_readBehind 97 = .ok (.getfield 10, 3) := by decide +kernel
theorem dX6_readBehind_100 : decode cX6_readBehind 100 = .ok (.getfield 113, 3) := by decide +kernel
theorem dX6_readBehind_103 : decode cX6_readBehind 103 = .ok (.aload_n 0, 1) := by decide +kernel
theorem dX6_readBehind_104 : decode cX6_readBehind 104 = .ok (.getfield 45, 3) := by decide +kernel
theorem dX6_readBehind_107 : decode cX6_readBehind 107 = .ok (.iload_n 3, 1) := by decide +kernel
theorem dX6_readBehind_108 : decode cX6_readBehind 108 = .ok (.aload_n 0, 1) := by decide +kernel
theorem dX6_readBehind_109 : decode cX6_readBehind 109 = .ok (.getfield 10, 3) := by decide +kernel
theorem dX6_readBehind_112 : decode cX6_readBehind 112 = .ok (.getfield 186, 3) := by decide +kernel
theorem dX6_readBehind_115 : decode cX6_readBehind 115 = .ok (.invokevirtual 366, 3) := by decide +kernel
theorem dX6_readBehind_118 : decode cX6_readBehind 118 = .ok (.istore 6, 2) := by decide +kernel
theorem dX6_readBehind_120 : decode cX6_readBehind 120 = .ok (.iload 6, 2) := by decide +kernel
theorem dX6_readBehind_122 : decode cX6_readBehind 122 = .ok (.iload 4, 2) := by decide +kernel
theorem dX6_readBehind_124 : decode cX6_readBehind 124 = .ok (.iload_n 3, 1) := by decide +kernel
theorem dX6_readBehind_125 : decode cX6_readBehind 125 = .ok (.isub, 1) := by decide +kernel
theorem dX6_readBehind_126 : decode cX6_readBehind 126 = .ok (.if_icmp .ne 7, 3) := by decide +kernel
theorem dX6_readBehind_129 : decode cX6_readBehind 129 = .ok (.iconst 0, 1) := by decide +kernel
theorem dX6_readBehind_130 : decode cX6_readBehind 130 = .ok (.goto 4, 3) := by decide +kernel
theorem dX6_readBehind_133 : decode cX6_readBehind 133 = .ok (.iconst 2, 1) := by decide +kernel
theorem dX6_readBehind_134 : decode cX6_readBehind 134 = .ok (.ireturn, 1) := by decide +kernel
theorem dX6_putRow_0 : decode cX6_putRow 0 = .ok (.lload_n 1, 1) := by decide +kernel
theorem dX6_putRow_1 : decode cX6_putRow 1 = .ok (.invokestatic 346, 3) := by decide +kernel
theorem dX6_putRow_4 : decode cX6_putRow 4 = .ok (.istore_n 3, 1) := by decide +kernel
theorem dX6_putRow_5 : decode cX6_putRow 5 = .ok (.iconst 0, 1) := by decide +kernel
theorem dX6_putRow_6 : decode cX6_putRow 6 = .ok (.istore 4, 2) := by decide +kernel
theorem dX6_putRow_8 : decode cX6_putRow 8 = .ok (.iload 4, 2) := by decide +kernel
theorem dX6_putRow_10 : decode cX6_putRow 10 = .ok (.iload_n 3, 1) := by decide +kernel
theorem dX6_putRow_11 : decode cX6_putRow 11 = .ok (.if_icmp .ge 22, 3) := by decide +kernel
theorem dX6_putRow_14 : decode cX6_putRow 14 = .ok (.aload_n 0, 1) := by decide +kernel
theorem dX6_putRow_15 : decode cX6_putRow 15 = .ok (.getfield 45, 3) := by decide +kernel
theorem dX6_putRow_18 : decode cX6_putRow 18 = .ok (.lload_n 1, 1) := by decide +kernel
theorem dX6_putRow_19 : decode cX6_putRow 19 = .ok (.iload 4, 2) := by decide +kernel
theorem dX6_putRow_21 : decode cX6_putRow 21 = .ok (.invokestatic 339, 3) := by decide +kernel
theorem dX6_putRow_24 : decode cX6_putRow 24 = .ok (.invokevirtual 239, 3) := by decide +kernel
theorem dX6_putRow_27 : decode cX6_putRow 27 = .ok (.iinc 4 1, 3) := by decide +kernel
theorem dX6_putRow_30 : decode cX6_putRow 30 = .ok (.goto (-22), 3) := by decide +kernel
theorem dX6_putRow_33 : decode cX6_putRow 33 = .ok (.return_, 1) := by decide +kernel
theorem dX6_fewestUpTo_0 : decode cX6_fewestUpTo 0 = .ok (.aload_n 0, 1) := by decide +kernel
theorem dX6_fewestUpTo_1 : decode cX6_fewestUpTo 1 = .ok (.getfield 55, 3) := by decide +kernel
theorem dX6_fewestUpTo_4 : decode cX6_fewestUpTo 4 = .ok (.iload_n 1, 1) := by decide +kernel
theorem dX6_fewestUpTo_5 : decode cX6_fewestUpTo 5 = .ok (.iconst 1, 1) := by decide +kernel
theorem dX6_fewestUpTo_6 : decode cX6_fewestUpTo 6 = .ok (.isub, 1) := by decide +kernel
theorem dX6_fewestUpTo_7 : decode cX6_fewestUpTo 7 = .ok (.invokevirtual 97, 3) := by decide +kernel
theorem dX6_fewestUpTo_10 : decode cX6_fewestUpTo 10 = .ok (.iconst 1, 1) := by decide +kernel
theorem dX6_fewestUpTo_11 : decode cX6_fewestUpTo 11 = .ok (.iadd, 1) := by decide +kernel
theorem dX6_fewestUpTo_12 : decode cX6_fewestUpTo 12 = .ok (.istore_n 2, 1) := by decide +kernel
theorem dX6_fewestUpTo_13 : decode cX6_fewestUpTo 13 = .ok (.aload_n 0, 1) := by decide +kernel
theorem dX6_fewestUpTo_14 : decode cX6_fewestUpTo 14 = .ok (.getfield 10, 3) := by decide +kernel
theorem dX6_fewestUpTo_17 : decode cX6_fewestUpTo 17 = .ok (.getfield 186, 3) := by decide +kernel
theorem dX6_fewestUpTo_20 : decode cX6_fewestUpTo 20 = .ok (.iload_n 1, 1) := by decide +kernel
theorem dX6_fewestUpTo_21 : decode cX6_fewestUpTo 21 = .ok (.invokestatic 370, 3) := by decide +kernel
theorem dX6_fewestUpTo_24 : decode cX6_fewestUpTo 24 = .ok (.istore_n 3, 1) := by decide +kernel
theorem dX6_fewestUpTo_25 : decode cX6_fewestUpTo 25 = .ok (.iconst 2, 1) := by decide +kernel
theorem dX6_fewestUpTo_26 : decode cX6_fewestUpTo 26 = .ok (.istore 4, 2) := by decide +kernel
theorem dX6_fewestUpTo_28 : decode cX6_fewestUpTo 28 = .ok (.iload 4, 2) := by decide +kernel
theorem dX6_fewestUpTo_30 : decode cX6_fewestUpTo 30 = .ok (.iload_n 3, 1) := by decide +kernel
theorem dX6_fewestUpTo_31 : decode cX6_fewestUpTo 31 = .ok (.if_icmp .gt 59, 3) := by decide +kernel
theorem dX6_fewestUpTo_34 : decode cX6_fewestUpTo 34 = .ok (.iload_n 1, 1) := by decide +kernel
theorem dX6_fewestUpTo_35 : decode cX6_fewestUpTo 35 = .ok (.iload 4, 2) := by decide +kernel
theorem dX6_fewestUpTo_37 : decode cX6_fewestUpTo 37 = .ok (.isub, 1) := by decide +kernel
theorem dX6_fewestUpTo_38 : decode cX6_fewestUpTo 38 = .ok (.istore 5, 2) := by decide +kernel
theorem dX6_fewestUpTo_40 : decode cX6_fewestUpTo 40 = .ok (.aload_n 0, 1) := by decide +kernel
theorem dX6_fewestUpTo_41 : decode cX6_fewestUpTo 41 = .ok (.getfield 10, 3) := by decide +kernel
theorem dX6_fewestUpTo_44 : decode cX6_fewestUpTo 44 = .ok (.getfield 113, 3) := by decide +kernel
theorem dX6_fewestUpTo_47 : decode cX6_fewestUpTo 47 = .ok (.aload_n 0, 1) := by decide +kernel
theorem dX6_fewestUpTo_48 : decode cX6_fewestUpTo 48 = .ok (.getfield 10, 3) := by decide +kernel
theorem dX6_fewestUpTo_51 : decode cX6_fewestUpTo 51 = .ok (.getfield 104, 3) := by decide +kernel
theorem dX6_fewestUpTo_54 : decode cX6_fewestUpTo 54 = .ok (.iload 5, 2) := by decide +kernel
theorem dX6_fewestUpTo_56 : decode cX6_fewestUpTo 56 = .ok (.iload 4, 2) := by decide +kernel
theorem dX6_fewestUpTo_58 : decode cX6_fewestUpTo 58 = .ok (.invokevirtual 147, 3) := by decide +kernel
theorem dX6_fewestUpTo_61 : decode cX6_fewestUpTo 61 = .ok (.invokevirtual 349, 3) := by decide +kernel
theorem dX6_fewestUpTo_64 : decode cX6_fewestUpTo 64 = .ok (.iconst (-1), 1) := by decide +kernel
theorem dX6_fewestUpTo_65 : decode cX6_fewestUpTo 65 = .ok (.if_icmp .eq 19, 3) := by decide +kernel
theorem dX6_fewestUpTo_68 : decode cX6_fewestUpTo 68 = .ok (.iload_n 2, 1) := by decide +kernel
theorem dX6_fewestUpTo_69 : decode cX6_fewestUpTo 69 = .ok (.aload_n 0, 1) := by decide +kernel
theorem dX6_fewestUpTo_70 : decode cX6_fewestUpTo 70 = .ok (.getfield 55, 3) := by decide +kernel
theorem dX6_fewestUpTo_73 : decode cX6_fewestUpTo 73 = .ok (.iload 5, 2) := by decide +kernel
theorem dX6_fewestUpTo_75 : decode cX6_fewestUpTo 75 = .ok (.invokevirtual 97, 3) := by decide +kernel
theorem dX6_fewestUpTo_78 : decode cX6_fewestUpTo 78 = .ok (.iconst 1, 1) := by decide +kernel
theorem dX6_fewestUpTo_79 : decode cX6_fewestUpTo 79 = .ok (.iadd, 1) := by decide +kernel
theorem dX6_fewestUpTo_80 : decode cX6_fewestUpTo 80 = .ok (.invokestatic 370, 3) := by decide +kernel
theorem dX6_fewestUpTo_83 : decode cX6_fewestUpTo 83 = .ok (.istore_n 2, 1) := by decide +kernel
theorem dX6_fewestUpTo_84 : decode cX6_fewestUpTo 84 = .ok (.iinc 4 1, 3) := by decide +kernel
theorem dX6_fewestUpTo_87 : decode cX6_fewestUpTo 87 = .ok (.goto (-59), 3) := by decide +kernel
theorem dX6_fewestUpTo_90 : decode cX6_fewestUpTo 90 = .ok (.iload_n 2, 1) := by decide +kernel
theorem dX6_fewestUpTo_91 : decode cX6_fewestUpTo 91 = .ok (.ireturn, 1) := by decide +kernel
theorem dX6_mix_0 : decode cX6_mix 0 = .ok (.ldc2_w 375, 3) := by decide +kernel
theorem dX6_mix_3 : decode cX6_mix 3 = .ok (.lload_n 0, 1) := by decide +kernel
theorem dX6_mix_4 : decode cX6_mix 4 = .ok (.lmul, 1) := by decide +kernel
theorem dX6_mix_5 : decode cX6_mix 5 = .ok (.lload_n 2, 1) := by decide +kernel
theorem dX6_mix_6 : decode cX6_mix 6 = .ok (.ladd, 1) := by decide +kernel
theorem dX6_mix_7 : decode cX6_mix 7 = .ok (.lreturn, 1) := by decide +kernel
theorem dX6_mixNumbers_0 : decode cX6_mixNumbers 0 = .ok (.lload_n 1, 1) := by decide +kernel
theorem dX6_mixNumbers_1 : decode cX6_mixNumbers 1 = .ok (.lstore_n 3, 1) := by decide +kernel
theorem dX6_mixNumbers_2 : decode cX6_mixNumbers 2 = .ok (.iconst 0, 1) := by decide +kernel
theorem dX6_mixNumbers_3 : decode cX6_mixNumbers 3 = .ok (.istore 5, 2) := by decide +kernel
theorem dX6_mixNumbers_5 : decode cX6_mixNumbers 5 = .ok (.iload 5, 2) := by decide +kernel
theorem dX6_mixNumbers_7 : decode cX6_mixNumbers 7 = .ok (.bipush 10, 2) := by decide +kernel
theorem dX6_mixNumbers_9 : decode cX6_mixNumbers 9 = .ok (.if_icmp .ge 21, 3) := by decide +kernel
theorem dX6_mixNumbers_12 : decode cX6_mixNumbers 12 = .ok (.lload_n 3, 1) := by decide +kernel
theorem dX6_mixNumbers_13 : decode cX6_mixNumbers 13 = .ok (.aload_n 0, 1) := by decide +kernel
theorem dX6_mixNumbers_14 : decode cX6_mixNumbers 14 = .ok (.iload 5, 2) := by decide +kernel
theorem dX6_mixNumbers_16 : decode cX6_mixNumbers 16 = .ok (.invokevirtual 233, 3) := by decide +kernel
theorem dX6_mixNumbers_19 : decode cX6_mixNumbers 19 = .ok (.i2l, 1) := by decide +kernel
theorem dX6_mixNumbers_20 : decode cX6_mixNumbers 20 = .ok (.invokestatic 306, 3) := by decide +kernel
theorem dX6_mixNumbers_23 : decode cX6_mixNumbers 23 = .ok (.lstore_n 3, 1) := by decide +kernel
theorem dX6_mixNumbers_24 : decode cX6_mixNumbers 24 = .ok (.iinc 5 1, 3) := by decide +kernel
theorem dX6_mixNumbers_27 : decode cX6_mixNumbers 27 = .ok (.goto (-22), 3) := by decide +kernel
theorem dX6_mixNumbers_30 : decode cX6_mixNumbers 30 = .ok (.iconst 0, 1) := by decide +kernel
theorem dX6_mixNumbers_31 : decode cX6_mixNumbers 31 = .ok (.istore 5, 2) := by decide +kernel
theorem dX6_mixNumbers_33 : decode cX6_mixNumbers 33 = .ok (.iload 5, 2) := by decide +kernel
theorem dX6_mixNumbers_35 : decode cX6_mixNumbers 35 = .ok (.iconst 2, 1) := by decide +kernel
theorem dX6_mixNumbers_36 : decode cX6_mixNumbers 36 = .ok (.if_icmp .ge 21, 3) := by decide +kernel
theorem dX6_mixNumbers_39 : decode cX6_mixNumbers 39 = .ok (.lload_n 3, 1) := by decide +kernel
theorem dX6_mixNumbers_40 : decode cX6_mixNumbers 40 = .ok (.aload_n 0, 1) := by decide +kernel
theorem dX6_mixNumbers_41 : decode cX6_mixNumbers 41 = .ok (.iload 5, 2) := by decide +kernel
theorem dX6_mixNumbers_43 : decode cX6_mixNumbers 43 = .ok (.invokevirtual 179, 3) := by decide +kernel
theorem dX6_mixNumbers_46 : decode cX6_mixNumbers 46 = .ok (.i2l, 1) := by decide +kernel
theorem dX6_mixNumbers_47 : decode cX6_mixNumbers 47 = .ok (.invokestatic 306, 3) := by decide +kernel
theorem dX6_mixNumbers_50 : decode cX6_mixNumbers 50 = .ok (.lstore_n 3, 1) := by decide +kernel
theorem dX6_mixNumbers_51 : decode cX6_mixNumbers 51 = .ok (.iinc 5 1, 3) := by decide +kernel
theorem dX6_mixNumbers_54 : decode cX6_mixNumbers 54 = .ok (.goto (-21), 3) := by decide +kernel
theorem dX6_mixNumbers_57 : decode cX6_mixNumbers 57 = .ok (.iconst 0, 1) := by decide +kernel
theorem dX6_mixNumbers_58 : decode cX6_mixNumbers 58 = .ok (.istore 5, 2) := by decide +kernel
theorem dX6_mixNumbers_60 : decode cX6_mixNumbers 60 = .ok (.iload 5, 2) := by decide +kernel
theorem dX6_mixNumbers_62 : decode cX6_mixNumbers 62 = .ok (.aload_n 0, 1) := by decide +kernel
theorem dX6_mixNumbers_63 : decode cX6_mixNumbers 63 = .ok (.getfield 10, 3) := by decide +kernel
theorem dX6_mixNumbers_66 : decode cX6_mixNumbers 66 = .ok (.getfield 104, 3) := by decide +kernel
theorem dX6_mixNumbers_69 : decode cX6_mixNumbers 69 = .ok (.invokevirtual 94, 3) := by decide +kernel
theorem dX6_mixNumbers_72 : decode cX6_mixNumbers 72 = .ok (.if_icmp .ge 27, 3) := by decide +kernel
theorem dX6_mixNumbers_75 : decode cX6_mixNumbers 75 = .ok (.lload_n 3, 1) := by decide +kernel
theorem dX6_mixNumbers_76 : decode cX6_mixNumbers 76 = .ok (.aload_n 0, 1) := by decide +kernel
theorem dX6_mixNumbers_77 : decode cX6_mixNumbers 77 = .ok (.getfield 10, 3) := by decide +kernel
theorem dX6_mixNumbers_80 : decode cX6_mixNumbers 80 = .ok (.getfield 104, 3) := by decide +kernel
theorem dX6_mixNumbers_83 : decode cX6_mixNumbers 83 = .ok (.iload 5, 2) := by decide +kernel
theorem dX6_mixNumbers_85 : decode cX6_mixNumbers 85 = .ok (.invokevirtual 97, 3) := by decide +kernel
theorem dX6_mixNumbers_88 : decode cX6_mixNumbers 88 = .ok (.i2l, 1) := by decide +kernel
theorem dX6_mixNumbers_89 : decode cX6_mixNumbers 89 = .ok (.invokestatic 306, 3) := by decide +kernel
theorem dX6_mixNumbers_92 : decode cX6_mixNumbers 92 = .ok (.lstore_n 3, 1) := by decide +kernel
theorem dX6_mixNumbers_93 : decode cX6_mixNumbers 93 = .ok (.iinc 5 1, 3) := by decide +kernel
theorem dX6_mixNumbers_96 : decode cX6_mixNumbers 96 = .ok (.goto (-36), 3) := by decide +kernel
theorem dX6_mixNumbers_99 : decode cX6_mixNumbers 99 = .ok (.lload_n 3, 1) := by decide +kernel
theorem dX6_mixNumbers_100 : decode cX6_mixNumbers 100 = .ok (.lreturn, 1) := by decide +kernel
theorem dX6_mixItems_0 : decode cX6_mixItems 0 = .ok (.lload_n 1, 1) := by decide +kernel
theorem dX6_mixItems_1 : decode cX6_mixItems 1 = .ok (.lstore_n 3, 1) := by decide +kernel
theorem dX6_mixItems_2 : decode cX6_mixItems 2 = .ok (.iconst 0, 1) := by decide +kernel
theorem dX6_mixItems_3 : decode cX6_mixItems 3 = .ok (.istore 5, 2) := by decide +kernel
theorem dX6_mixItems_5 : decode cX6_mixItems 5 = .ok (.iload 5, 2) := by decide +kernel
theorem dX6_mixItems_7 : decode cX6_mixItems 7 = .ok (.aload_n 0, 1) := by decide +kernel
theorem dX6_mixItems_8 : decode cX6_mixItems 8 = .ok (.getfield 36, 3) := by decide +kernel
theorem dX6_mixItems_11 : decode cX6_mixItems 11 = .ok (.invokevirtual 84, 3) := by decide +kernel
theorem dX6_mixItems_14 : decode cX6_mixItems 14 = .ok (.if_icmp .ge 38, 3) := by decide +kernel
theorem dX6_mixItems_17 : decode cX6_mixItems 17 = .ok (.iconst 0, 1) := by decide +kernel
theorem dX6_mixItems_18 : decode cX6_mixItems 18 = .ok (.istore 6, 2) := by decide +kernel
theorem dX6_mixItems_20 : decode cX6_mixItems 20 = .ok (.iload 6, 2) := by decide +kernel
theorem dX6_mixItems_22 : decode cX6_mixItems 22 = .ok (.iconst 5, 1) := by decide +kernel
theorem dX6_mixItems_23 : decode cX6_mixItems 23 = .ok (.if_icmp .ge 23, 3) := by decide +kernel
theorem dX6_mixItems_26 : decode cX6_mixItems 26 = .ok (.lload_n 3, 1) := by decide +kernel
theorem dX6_mixItems_27 : decode cX6_mixItems 27 = .ok (.aload_n 0, 1) := by decide +kernel
theorem dX6_mixItems_28 : decode cX6_mixItems 28 = .ok (.iload 5, 2) := by decide +kernel
theorem dX6_mixItems_30 : decode cX6_mixItems 30 = .ok (.iload 6, 2) := by decide +kernel
theorem dX6_mixItems_32 : decode cX6_mixItems 32 = .ok (.invokevirtual 222, 3) := by decide +kernel
theorem dX6_mixItems_35 : decode cX6_mixItems 35 = .ok (.i2l, 1) := by decide +kernel
theorem dX6_mixItems_36 : decode cX6_mixItems 36 = .ok (.invokestatic 306, 3) := by decide +kernel
theorem dX6_mixItems_39 : decode cX6_mixItems 39 = .ok (.lstore_n 3, 1) := by decide +kernel
theorem dX6_mixItems_40 : decode cX6_mixItems 40 = .ok (.iinc 6 1, 3) := by decide +kernel
theorem dX6_mixItems_43 : decode cX6_mixItems 43 = .ok (.goto (-23), 3) := by decide +kernel
theorem dX6_mixItems_46 : decode cX6_mixItems 46 = .ok (.iinc 5 1, 3) := by decide +kernel
theorem dX6_mixItems_49 : decode cX6_mixItems 49 = .ok (.goto (-44), 3) := by decide +kernel
theorem dX6_mixItems_52 : decode cX6_mixItems 52 = .ok (.lload_n 3, 1) := by decide +kernel
theorem dX6_mixItems_53 : decode cX6_mixItems 53 = .ok (.lreturn, 1) := by decide +kernel
theorem dX6_mixEntries_0 : decode cX6_mixEntries 0 = .ok (.lload_n 1, 1) := by decide +kernel
theorem dX6_mixEntries_1 : decode cX6_mixEntries 1 = .ok (.lstore_n 3, 1) := by decide +kernel
theorem dX6_mixEntries_2 : decode cX6_mixEntries 2 = .ok (.iconst 0, 1) := by decide +kernel
theorem dX6_mixEntries_3 : decode cX6_mixEntries 3 = .ok (.istore 5, 2) := by decide +kernel
theorem dX6_mixEntries_5 : decode cX6_mixEntries 5 = .ok (.iload 5, 2) := by decide +kernel
theorem dX6_mixEntries_7 : decode cX6_mixEntries 7 = .ok (.aload_n 0, 1) := by decide +kernel
theorem dX6_mixEntries_8 : decode cX6_mixEntries 8 = .ok (.getfield 10, 3) := by decide +kernel
theorem dX6_mixEntries_11 : decode cX6_mixEntries 11 = .ok (.getfield 113, 3) := by decide +kernel
theorem dX6_mixEntries_14 : decode cX6_mixEntries 14 = .ok (.invokevirtual 165, 3) := by decide +kernel
theorem dX6_mixEntries_17 : decode cX6_mixEntries 17 = .ok (.if_icmp .ge 39, 3) := by decide +kernel
theorem dX6_mixEntries_20 : decode cX6_mixEntries 20 = .ok (.iconst 0, 1) := by decide +kernel
theorem dX6_mixEntries_21 : decode cX6_mixEntries 21 = .ok (.istore 6, 2) := by decide +kernel
theorem dX6_mixEntries_23 : decode cX6_mixEntries 23 = .ok (.iload 6, 2) := by decide +kernel
theorem dX6_mixEntries_25 : decode cX6_mixEntries 25 = .ok (.bipush 10, 2) := by decide +kernel
theorem dX6_mixEntries_27 : decode cX6_mixEntries 27 = .ok (.if_icmp .ge 23, 3) := by decide +kernel
theorem dX6_mixEntries_30 : decode cX6_mixEntries 30 = .ok (.lload_n 3, 1) := by decide +kernel
theorem dX6_mixEntries_31 : decode cX6_mixEntries 31 = .ok (.aload_n 0, 1) := by decide +kernel
theorem dX6_mixEntries_32 : decode cX6_mixEntries 32 = .ok (.iload 5, 2) := by decide +kernel
theorem dX6_mixEntries_34 : decode cX6_mixEntries 34 = .ok (.iload 6, 2) := by decide +kernel
theorem dX6_mixEntries_36 : decode cX6_mixEntries 36 = .ok (.invokevirtual 228, 3) := by decide +kernel
theorem dX6_mixEntries_39 : decode cX6_mixEntries 39 = .ok (.i2l, 1) := by decide +kernel
theorem dX6_mixEntries_40 : decode cX6_mixEntries 40 = .ok (.invokestatic 306, 3) := by decide +kernel
theorem dX6_mixEntries_43 : decode cX6_mixEntries 43 = .ok (.lstore_n 3, 1) := by decide +kernel
theorem dX6_mixEntries_44 : decode cX6_mixEntries 44 = .ok (.iinc 6 1, 3) := by decide +kernel
theorem dX6_mixEntries_47 : decode cX6_mixEntries 47 = .ok (.goto (-24), 3) := by decide +kernel
theorem dX6_mixEntries_50 : decode cX6_mixEntries 50 = .ok (.iinc 5 1, 3) := by decide +kernel
theorem dX6_mixEntries_53 : decode cX6_mixEntries 53 = .ok (.goto (-48), 3) := by decide +kernel
theorem dX6_mixEntries_56 : decode cX6_mixEntries 56 = .ok (.lload_n 3, 1) := by decide +kernel
theorem dX6_mixEntries_57 : decode cX6_mixEntries 57 = .ok (.lreturn, 1) := by decide +kernel
theorem dX6_mixWhatWouldBe_0 : decode cX6_mixWhatWouldBe 0 = .ok (.lload_n 1, 1) := by decide +kernel
theorem dX6_mixWhatWouldBe_1 : decode cX6_mixWhatWouldBe 1 = .ok (.lstore_n 3, 1) := by decide +kernel
theorem dX6_mixWhatWouldBe_2 : decode cX6_mixWhatWouldBe 2 = .ok (.iconst 1, 1) := by decide +kernel
theorem dX6_mixWhatWouldBe_3 : decode cX6_mixWhatWouldBe 3 = .ok (.istore 5, 2) := by decide +kernel
theorem dX6_mixWhatWouldBe_5 : decode cX6_mixWhatWouldBe 5 = .ok (.iload 5, 2) := by decide +kernel
theorem dX6_mixWhatWouldBe_7 : decode cX6_mixWhatWouldBe 7 = .ok (.iconst 4, 1) := by decide +kernel
theorem dX6_mixWhatWouldBe_8 : decode cX6_mixWhatWouldBe 8 = .ok (.if_icmp .ge 21, 3) := by decide +kernel
theorem dX6_mixWhatWouldBe_11 : decode cX6_mixWhatWouldBe 11 = .ok (.lload_n 3, 1) := by decide +kernel
theorem dX6_mixWhatWouldBe_12 : decode cX6_mixWhatWouldBe 12 = .ok (.aload_n 0, 1) := by decide +kernel
theorem dX6_mixWhatWouldBe_13 : decode cX6_mixWhatWouldBe 13 = .ok (.iload 5, 2) := by decide +kernel
theorem dX6_mixWhatWouldBe_15 : decode cX6_mixWhatWouldBe 15 = .ok (.invokevirtual 377, 3) := by decide +kernel
theorem dX6_mixWhatWouldBe_18 : decode cX6_mixWhatWouldBe 18 = .ok (.i2l, 1) := by decide +kernel
theorem dX6_mixWhatWouldBe_19 : decode cX6_mixWhatWouldBe 19 = .ok (.invokestatic 306, 3) := by decide +kernel
theorem dX6_mixWhatWouldBe_22 : decode cX6_mixWhatWouldBe 22 = .ok (.lstore_n 3, 1) := by decide +kernel
theorem dX6_mixWhatWouldBe_23 : decode cX6_mixWhatWouldBe 23 = .ok (.iinc 5 1, 3) := by decide +kernel
theorem dX6_mixWhatWouldBe_26 : decode cX6_mixWhatWouldBe 26 = .ok (.goto (-21), 3) := by decide +kernel
theorem dX6_mixWhatWouldBe_29 : decode cX6_mixWhatWouldBe 29 = .ok (.iconst 0, 1) := by decide +kernel
theorem dX6_mixWhatWouldBe_30 : decode cX6_mixWhatWouldBe 30 = .ok (.istore 5, 2) := by decide +kernel
theorem dX6_mixWhatWouldBe_32 : decode cX6_mixWhatWouldBe 32 = .ok (.iload 5, 2) := by decide +kernel
theorem dX6_mixWhatWouldBe_34 : decode cX6_mixWhatWouldBe 34 = .ok (.iconst 3, 1) := by decide +kernel
theorem dX6_mixWhatWouldBe_35 : decode cX6_mixWhatWouldBe 35 = .ok (.if_icmp .ge 22, 3) := by decide +kernel
theorem dX6_mixWhatWouldBe_38 : decode cX6_mixWhatWouldBe 38 = .ok (.lload_n 3, 1) := by decide +kernel
theorem dX6_mixWhatWouldBe_39 : decode cX6_mixWhatWouldBe 39 = .ok (.aload_n 0, 1) := by decide +kernel
theorem dX6_mixWhatWouldBe_40 : decode cX6_mixWhatWouldBe 40 = .ok (.iconst 1, 1) := by decide +kernel
theorem dX6_mixWhatWouldBe_41 : decode cX6_mixWhatWouldBe 41 = .ok (.iload 5, 2) := by decide +kernel
theorem dX6_mixWhatWouldBe_43 : decode cX6_mixWhatWouldBe 43 = .ok (.invokevirtual 380, 3) := by decide +kernel
theorem dX6_mixWhatWouldBe_46 : decode cX6_mixWhatWouldBe 46 = .ok (.i2l, 1) := by decide +kernel
theorem dX6_mixWhatWouldBe_47 : decode cX6_mixWhatWouldBe 47 = .ok (.invokestatic 306, 3) := by decide +kernel
theorem dX6_mixWhatWouldBe_50 : decode cX6_mixWhatWouldBe 50 = .ok (.lstore_n 3, 1) := by decide +kernel
theorem dX6_mixWhatWouldBe_51 : decode cX6_mixWhatWouldBe 51 = .ok (.iinc 5 1, 3) := by decide +kernel
theorem dX6_mixWhatWouldBe_54 : decode cX6_mixWhatWouldBe 54 = .ok (.goto (-22), 3) := by decide +kernel
theorem dX6_mixWhatWouldBe_57 : decode cX6_mixWhatWouldBe 57 = .ok (.iconst 0, 1) := by decide +kernel
theorem dX6_mixWhatWouldBe_58 : decode cX6_mixWhatWouldBe 58 = .ok (.istore 5, 2) := by decide +kernel
theorem dX6_mixWhatWouldBe_60 : decode cX6_mixWhatWouldBe 60 = .ok (.iload 5, 2) := by decide +kernel
theorem dX6_mixWhatWouldBe_62 : decode cX6_mixWhatWouldBe 62 = .ok (.bipush 10, 2) := by decide +kernel
theorem dX6_mixWhatWouldBe_64 : decode cX6_mixWhatWouldBe 64 = .ok (.if_icmp .ge 21, 3) := by decide +kernel
theorem dX6_mixWhatWouldBe_67 : decode cX6_mixWhatWouldBe 67 = .ok (.lload_n 3, 1) := by decide +kernel
theorem dX6_mixWhatWouldBe_68 : decode cX6_mixWhatWouldBe 68 = .ok (.aload_n 0, 1) := by decide +kernel
theorem dX6_mixWhatWouldBe_69 : decode cX6_mixWhatWouldBe 69 = .ok (.iload 5, 2) := by decide +kernel
theorem dX6_mixWhatWouldBe_71 : decode cX6_mixWhatWouldBe 71 = .ok (.invokevirtual 383, 3) := by decide +kernel
theorem dX6_mixWhatWouldBe_74 : decode cX6_mixWhatWouldBe 74 = .ok (.i2l, 1) := by decide +kernel
theorem dX6_mixWhatWouldBe_75 : decode cX6_mixWhatWouldBe 75 = .ok (.invokestatic 306, 3) := by decide +kernel
theorem dX6_mixWhatWouldBe_78 : decode cX6_mixWhatWouldBe 78 = .ok (.lstore_n 3, 1) := by decide +kernel
theorem dX6_mixWhatWouldBe_79 : decode cX6_mixWhatWouldBe 79 = .ok (.iinc 5 1, 3) := by decide +kernel
theorem dX6_mixWhatWouldBe_82 : decode cX6_mixWhatWouldBe 82 = .ok (.goto (-22), 3) := by decide +kernel
theorem dX6_mixWhatWouldBe_85 : decode cX6_mixWhatWouldBe 85 = .ok (.lload_n 3, 1) := by decide +kernel
theorem dX6_mixWhatWouldBe_86 : decode cX6_mixWhatWouldBe 86 = .ok (.aload_n 0, 1) := by decide +kernel
theorem dX6_mixWhatWouldBe_87 : decode cX6_mixWhatWouldBe 87 = .ok (.invokevirtual 386, 3) := by decide +kernel
theorem dX6_mixWhatWouldBe_90 : decode cX6_mixWhatWouldBe 90 = .ok (.i2l, 1) := by decide +kernel
theorem dX6_mixWhatWouldBe_91 : decode cX6_mixWhatWouldBe 91 = .ok (.invokestatic 306, 3) := by decide +kernel
theorem dX6_mixWhatWouldBe_94 : decode cX6_mixWhatWouldBe 94 = .ok (.aload_n 0, 1) := by decide +kernel
theorem dX6_mixWhatWouldBe_95 : decode cX6_mixWhatWouldBe 95 = .ok (.invokevirtual 389, 3) := by decide +kernel
theorem dX6_mixWhatWouldBe_98 : decode cX6_mixWhatWouldBe 98 = .ok (.i2l, 1) := by decide +kernel
theorem dX6_mixWhatWouldBe_99 : decode cX6_mixWhatWouldBe 99 = .ok (.invokestatic 306, 3) := by decide +kernel
theorem dX6_mixWhatWouldBe_102 : decode cX6_mixWhatWouldBe 102 = .ok (.lreturn, 1) := by decide +kernel
theorem dX6_bitsOfShare_0 : decode cX6_bitsOfShare 0 = .ok (.dload_n 0, 1) := by decide +kernel
theorem dX6_bitsOfShare_1 : decode cX6_bitsOfShare 1 = .ok (.dconst 0, 1) := by decide +kernel
theorem dX6_bitsOfShare_2 : decode cX6_bitsOfShare 2 = .ok (.dcmp .g, 1) := by decide +kernel
theorem dX6_bitsOfShare_3 : decode cX6_bitsOfShare 3 = .ok (.ifCond .gt 5, 3) := by decide +kernel
theorem dX6_bitsOfShare_6 : decode cX6_bitsOfShare 6 = .ok (.lconst 0, 1) := by decide +kernel
theorem dX6_bitsOfShare_7 : decode cX6_bitsOfShare 7 = .ok (.lreturn, 1) := by decide +kernel
theorem dX6_bitsOfShare_8 : decode cX6_bitsOfShare 8 = .ok (.dload_n 0, 1) := by decide +kernel
theorem dX6_bitsOfShare_9 : decode cX6_bitsOfShare 9 = .ok (.dstore_n 2, 1) := by decide +kernel
theorem dX6_bitsOfShare_10 : decode cX6_bitsOfShare 10 = .ok (.ldc2_w 392, 3) := by decide +kernel
theorem dX6_bitsOfShare_13 : decode cX6_bitsOfShare 13 = .ok (.lstore 4, 2) := by decide +kernel
theorem dX6_bitsOfShare_15 : decode cX6_bitsOfShare 15 = .ok (.iconst 0, 1) := by decide +kernel
theorem dX6_bitsOfShare_16 : decode cX6_bitsOfShare 16 = .ok (.istore 6, 2) := by decide +kernel
theorem dX6_bitsOfShare_18 : decode cX6_bitsOfShare 18 = .ok (.iload 6, 2) := by decide +kernel
theorem dX6_bitsOfShare_20 : decode cX6_bitsOfShare 20 = .ok (.bipush 6, 2) := by decide +kernel
theorem dX6_bitsOfShare_22 : decode cX6_bitsOfShare 22 = .ok (.if_icmp .ge 27, 3) := by decide +kernel
theorem dX6_bitsOfShare_25 : decode cX6_bitsOfShare 25 = .ok (.dload_n 2, 1) := by decide +kernel
theorem dX6_bitsOfShare_26 : decode cX6_bitsOfShare 26 = .ok (.dconst 1, 1) := by decide +kernel
theorem dX6_bitsOfShare_27 : decode cX6_bitsOfShare 27 = .ok (.dcmp .g, 1) := by decide +kernel
theorem dX6_bitsOfShare_28 : decode cX6_bitsOfShare 28 = .ok (.ifCond .ge 21, 3) := by decide +kernel
theorem dX6_bitsOfShare_31 : decode cX6_bitsOfShare 31 = .ok (.dload_n 2, 1) := by decide +kernel
theorem dX6_bitsOfShare_32 : decode cX6_bitsOfShare 32 = .ok (.ldc2_w 394, 3) := by decide +kernel
theorem dX6_bitsOfShare_35 : decode cX6_bitsOfShare 35 = .ok (.dmul, 1) := by decide +kernel
theorem dX6_bitsOfShare_36 : decode cX6_bitsOfShare 36 = .ok (.dstore_n 2, 1) := by decide +kernel
theorem dX6_bitsOfShare_37 : decode cX6_bitsOfShare 37 = .ok (.lload 4, 2) := by decide +kernel
theorem dX6_bitsOfShare_39 : decode cX6_bitsOfShare 39 = .ok (.lconst 1, 1) := by decide +kernel
theorem dX6_bitsOfShare_40 : decode cX6_bitsOfShare 40 = .ok (.lsub, 1) := by decide +kernel
theorem dX6_bitsOfShare_41 : decode cX6_bitsOfShare 41 = .ok (.lstore 4, 2) := by decide +kernel
theorem dX6_bitsOfShare_43 : decode cX6_bitsOfShare 43 = .ok (.iinc 6 1, 3) := by decide +kernel
theorem dX6_bitsOfShare_46 : decode cX6_bitsOfShare 46 = .ok (.goto (-28), 3) := by decide +kernel
theorem dX6_bitsOfShare_49 : decode cX6_bitsOfShare 49 = .ok (.lload 4, 2) := by decide +kernel
theorem dX6_bitsOfShare_51 : decode cX6_bitsOfShare 51 = .ok (.bipush 52, 2) := by decide +kernel
theorem dX6_bitsOfShare_53 : decode cX6_bitsOfShare 53 = .ok (.lshl, 1) := by decide +kernel
theorem dX6_bitsOfShare_54 : decode cX6_bitsOfShare 54 = .ok (.dload_n 2, 1) := by decide +kernel
theorem dX6_bitsOfShare_55 : decode cX6_bitsOfShare 55 = .ok (.dconst 1, 1) := by decide +kernel
theorem dX6_bitsOfShare_56 : decode cX6_bitsOfShare 56 = .ok (.dsub, 1) := by decide +kernel
theorem dX6_bitsOfShare_57 : decode cX6_bitsOfShare 57 = .ok (.ldc2_w 396, 3) := by decide +kernel
theorem dX6_bitsOfShare_60 : decode cX6_bitsOfShare 60 = .ok (.dmul, 1) := by decide +kernel
theorem dX6_bitsOfShare_61 : decode cX6_bitsOfShare 61 = .ok (.d2l, 1) := by decide +kernel
theorem dX6_bitsOfShare_62 : decode cX6_bitsOfShare 62 = .ok (.ladd, 1) := by decide +kernel
theorem dX6_bitsOfShare_63 : decode cX6_bitsOfShare 63 = .ok (.lreturn, 1) := by decide +kernel
theorem dX6_bitsOfMean_0 : decode cX6_bitsOfMean 0 = .ok (.fload_n 0, 1) := by decide +kernel
theorem dX6_bitsOfMean_1 : decode cX6_bitsOfMean 1 = .ok (.fconst 0, 1) := by decide +kernel
theorem dX6_bitsOfMean_2 : decode cX6_bitsOfMean 2 = .ok (.fcmp .g, 1) := by decide +kernel
theorem dX6_bitsOfMean_3 : decode cX6_bitsOfMean 3 = .ok (.ifCond .gt 5, 3) := by decide +kernel
theorem dX6_bitsOfMean_6 : decode cX6_bitsOfMean 6 = .ok (.iconst 0, 1) := by decide +kernel
theorem dX6_bitsOfMean_7 : decode cX6_bitsOfMean 7 = .ok (.ireturn, 1) := by decide +kernel
theorem dX6_bitsOfMean_8 : decode cX6_bitsOfMean 8 = .ok (.fload_n 0, 1) := by decide +kernel
theorem dX6_bitsOfMean_9 : decode cX6_bitsOfMean 9 = .ok (.fstore_n 1, 1) := by decide +kernel
theorem dX6_bitsOfMean_10 : decode cX6_bitsOfMean 10 = .ok (.bipush 127, 2) := by decide +kernel
theorem dX6_bitsOfMean_12 : decode cX6_bitsOfMean 12 = .ok (.istore_n 2, 1) := by decide +kernel
theorem dX6_bitsOfMean_13 : decode cX6_bitsOfMean 13 = .ok (.iconst 0, 1) := by decide +kernel
theorem dX6_bitsOfMean_14 : decode cX6_bitsOfMean 14 = .ok (.istore_n 3, 1) := by decide +kernel
theorem dX6_bitsOfMean_15 : decode cX6_bitsOfMean 15 = .ok (.iload_n 3, 1) := by decide +kernel
theorem dX6_bitsOfMean_16 : decode cX6_bitsOfMean 16 = .ok (.iconst 3, 1) := by decide +kernel
theorem dX6_bitsOfMean_17 : decode cX6_bitsOfMean 17 = .ok (.if_icmp .ge 22, 3) := by decide +kernel
theorem dX6_bitsOfMean_20 : decode cX6_bitsOfMean 20 = .ok (.fload_n 1, 1) := by decide +kernel
theorem dX6_bitsOfMean_21 : decode cX6_bitsOfMean 21 = .ok (.fconst 2, 1) := by decide +kernel
theorem dX6_bitsOfMean_22 : decode cX6_bitsOfMean 22 = .ok (.fcmp .l, 1) := by decide +kernel
theorem dX6_bitsOfMean_23 : decode cX6_bitsOfMean 23 = .ok (.ifCond .lt 16, 3) := by decide +kernel
theorem dX6_bitsOfMean_26 : decode cX6_bitsOfMean 26 = .ok (.fload_n 1, 1) := by decide +kernel
theorem dX6_bitsOfMean_27 : decode cX6_bitsOfMean 27 = .ok (.fconst 2, 1) := by decide +kernel
theorem dX6_bitsOfMean_28 : decode cX6_bitsOfMean 28 = .ok (.fdiv, 1) := by decide +kernel
theorem dX6_bitsOfMean_29 : decode cX6_bitsOfMean 29 = .ok (.fstore_n 1, 1) := by decide +kernel
theorem dX6_bitsOfMean_30 : decode cX6_bitsOfMean 30 = .ok (.iinc 2 1, 3) := by decide +kernel
theorem dX6_bitsOfMean_33 : decode cX6_bitsOfMean 33 = .ok (.iinc 3 1, 3) := by decide +kernel
theorem dX6_bitsOfMean_36 : decode cX6_bitsOfMean 36 = .ok (.goto (-21), 3) := by decide +kernel
theorem dX6_bitsOfMean_39 : decode cX6_bitsOfMean 39 = .ok (.iload_n 2, 1) := by decide +kernel
theorem dX6_bitsOfMean_40 : decode cX6_bitsOfMean 40 = .ok (.bipush 23, 2) := by decide +kernel
theorem dX6_bitsOfMean_42 : decode cX6_bitsOfMean 42 = .ok (.ishl, 1) := by decide +kernel
theorem dX6_bitsOfMean_43 : decode cX6_bitsOfMean 43 = .ok (.fload_n 1, 1) := by decide +kernel
theorem dX6_bitsOfMean_44 : decode cX6_bitsOfMean 44 = .ok (.fconst 1, 1) := by decide +kernel
theorem dX6_bitsOfMean_45 : decode cX6_bitsOfMean 45 = .ok (.fsub, 1) := by decide +kernel
theorem dX6_bitsOfMean_46 : decode cX6_bitsOfMean 46 = .ok (.ldc_w 398, 3) := by decide +kernel
theorem dX6_bitsOfMean_49 : decode cX6_bitsOfMean 49 = .ok (.fmul, 1) := by decide +kernel
theorem dX6_bitsOfMean_50 : decode cX6_bitsOfMean 50 = .ok (.f2i, 1) := by decide +kernel
theorem dX6_bitsOfMean_51 : decode cX6_bitsOfMean 51 = .ok (.iadd, 1) := by decide +kernel
theorem dX6_bitsOfMean_52 : decode cX6_bitsOfMean 52 = .ok (.ireturn, 1) := by decide +kernel
end
section
theorem dX7_init_0 : decode cX7_init 0 = .ok (.aload_n 0, 1) := by decide +kernel
theorem dX7_init_1 : decode cX7_init 1 = .ok (.invokespecial 1, 3) := by decide +kernel
theorem dX7_init_4 : decode cX7_init 4 = .ok (.aload_n 0, 1) := by decide +kernel
theorem dX7_init_5 : decode cX7_init 5 = .ok (.sipush 1888, 3) := by decide +kernel
theorem dX7_init_8 : decode cX7_init 8 = .ok (.newarray .int, 2) := by decide +kernel
theorem dX7_init_10 : decode cX7_init 10 = .ok (.putfield 7, 3) := by decide +kernel
theorem dX7_init_13 : decode cX7_init 13 = .ok (.aload_n 0, 1) := by decide +kernel
theorem dX7_init_14 : decode cX7_init 14 = .ok (.bipush 60, 2) := by decide +kernel
theorem dX7_init_16 : decode cX7_init 16 = .ok (.newarray .int, 2) := by decide +kernel
theorem dX7_init_18 : decode cX7_init 18 = .ok (.putfield 13, 3) := by decide +kernel
theorem dX7_init_21 : decode cX7_init 21 = .ok (.aload_n 0, 1) := by decide +kernel
theorem dX7_init_22 : decode cX7_init 22 = .ok (.bipush 31, 2) := by decide +kernel
theorem dX7_init_24 : decode cX7_init 24 = .ok (.newarray .int, 2) := by decide +kernel
theorem dX7_init_26 : decode cX7_init 26 = .ok (.putfield 16, 3) := by decide +kernel
theorem dX7_init_29 : decode cX7_init 29 = .ok (.aload_n 0, 1) := by decide +kernel
theorem dX7_init_30 : decode cX7_init 30 = .ok (.bipush 61, 2) := by decide +kernel
theorem dX7_init_32 : decode cX7_init 32 = .ok (.newarray .int, 2) := by decide +kernel
theorem dX7_init_34 : decode cX7_init 34 = .ok (.putfield 19, 3) := by decide +kernel
theorem dX7_init_37 : decode cX7_init 37 = .ok (.aload_n 0, 1) := by decide +kernel
theorem dX7_init_38 : decode cX7_init 38 = .ok (.bipush 61, 2) := by decide +kernel
theorem dX7_init_40 : decode cX7_init 40 = .ok (.newarray .int, 2) := by decide +kernel
theorem dX7_init_42 : decode cX7_init 42 = .ok (.putfield 22, 3) := by decide +kernel
theorem dX7_init_45 : decode cX7_init 45 = .ok (.aload_n 0, 1) := by decide +kernel
theorem dX7_init_46 : decode cX7_init 46 = .ok (.bipush 61, 2) := by decide +kernel
theorem dX7_init_48 : decode cX7_init 48 = .ok (.newarray .int, 2) := by decide +kernel
theorem dX7_init_50 : decode cX7_init 50 = .ok (.putfield 25, 3) := by decide +kernel
theorem dX7_init_53 : decode cX7_init 53 = .ok (.aload_n 0, 1) := by decide +kernel
theorem dX7_init_54 : decode cX7_init 54 = .ok (.bipush 61, 2) := by decide +kernel
theorem dX7_init_56 : decode cX7_init 56 = .ok (.newarray .int, 2) := by decide +kernel
theorem dX7_init_58 : decode cX7_init 58 = .ok (.putfield 28, 3) := by decide +kernel
theorem dX7_init_61 : decode cX7_init 61 = .ok (.aload_n 0, 1) := by decide +kernel
theorem dX7_init_62 : decode cX7_init 62 = .ok (.bipush 62, 2) := by decide +kernel
theorem dX7_init_64 : decode cX7_init 64 = .ok (.newarray .int, 2) := by decide +kernel
theorem dX7_init_66 : decode cX7_init 66 = .ok (.putfield 31, 3) := by decide +kernel
theorem dX7_init_69 : decode cX7_init 69 = .ok (.aload_n 0, 1) := by decide +kernel
theorem dX7_init_70 : decode cX7_init 70 = .ok (.getfield 7, 3) := by decide +kernel
theorem dX7_init_73 : decode cX7_init 73 = .ok (.iconst 3, 1) := by decide +kernel
theorem dX7_init_74 : decode cX7_init 74 = .ok (.iconst 4, 1) := by decide +kernel
theorem dX7_init_75 : decode cX7_init 75 = .ok (.iastore, 1) := by decide +kernel
theorem dX7_init_76 : decode cX7_init 76 = .ok (.return_, 1) := by decide +kernel
theorem dX7_thrown_0 : decode cX7_thrown 0 = .ok (.aload_n 0, 1) := by decide +kernel
theorem dX7_thrown_1 : decode cX7_thrown 1 = .ok (.getfield 34, 3) := by decide +kernel
theorem dX7_thrown_4 : decode cX7_thrown 4 = .ok (.ireturn, 1) := by decide +kernel
theorem dX7_in_0 : decode cX7_in 0 = .ok (.iload_n 0, 1) := by decide +kernel
theorem dX7_in_1 : decode cX7_in 1 = .ok (.iload_n 1, 1) := by decide +kernel
theorem dX7_in_2 : decode cX7_in 2 = .ok (.if_icmp .lt 12, 3) := by decide +kernel
theorem dX7_in_5 : decode cX7_in 5 = .ok (.iload_n 0, 1) := by decide +kernel
theorem dX7_in_6 : decode cX7_in 6 = .ok (.iload_n 2, 1) := by decide +kernel
theorem dX7_in_7 : decode cX7_in 7 = .ok (.if_icmp .gt 7, 3) := by decide +kernel
theorem dX7_in_10 : decode cX7_in 10 = .ok (.iconst 1, 1) := by decide +kernel
theorem dX7_in_11 : decode cX7_in 11 = .ok (.goto 4, 3) := by decide +kernel
theorem dX7_in_14 : decode cX7_in 14 = .ok (.iconst 0, 1) := by decide +kernel
theorem dX7_in_15 : decode cX7_in 15 = .ok (.ireturn, 1) := by decide +kernel
theorem dX7_holds_0 : decode cX7_holds 0 = .ok (.aload_n 0, 1) := by decide +kernel
theorem dX7_holds_1 : decode cX7_holds 1 = .ok (.iload_n 1, 1) := by decide +kernel
theorem dX7_holds_2 : decode cX7_holds 2 = .ok (.putfield 34, 3) := by decide +kernel
theorem dX7_holds_5 : decode cX7_holds 5 = .ok (.iload_n 1, 1) := by decide +kernel
theorem dX7_holds_6 : decode cX7_holds 6 = .ok (.ifCond .ne 7, 3) := by decide +kernel
theorem dX7_holds_9 : decode cX7_holds 9 = .ok (.iconst 1, 1) := by decide +kernel
theorem dX7_holds_10 : decode cX7_holds 10 = .ok (.goto 4, 3) := by decide +kernel
theorem dX7_holds_13 : decode cX7_holds 13 = .ok (.iconst 0, 1) := by decide +kernel
theorem dX7_holds_14 : decode cX7_holds 14 = .ok (.ireturn, 1) := by decide +kernel
theorem dX7_keysOf_0 : decode cX7_keysOf 0 = .ok (.iconst 0, 1) := by decide +kernel
theorem dX7_keysOf_1 : decode cX7_keysOf 1 = .ok (.istore_n 1, 1) := by decide +kernel
theorem dX7_keysOf_2 : decode cX7_keysOf 2 = .ok (.iconst 0, 1) := by decide +kernel
theorem dX7_keysOf_3 : decode cX7_keysOf 3 = .ok (.istore_n 2, 1) := by decide +kernel
theorem dX7_keysOf_4 : decode cX7_keysOf 4 = .ok (.iload_n 2, 1) := by decide +kernel
theorem dX7_keysOf_5 : decode cX7_keysOf 5 = .ok (.bipush 10, 2) := by decide +kernel
theorem dX7_keysOf_7 : decode cX7_keysOf 7 = .ok (.if_icmp .ge 17, 3) := by decide +kernel
theorem dX7_keysOf_10 : decode cX7_keysOf 10 = .ok (.iload_n 1, 1) := by decide +kernel
theorem dX7_keysOf_11 : decode cX7_keysOf 11 = .ok (.iload_n 0, 1) := by decide +kernel
theorem dX7_keysOf_12 : decode cX7_keysOf 12 = .ok (.iload_n 2, 1) := by decide +kernel
theorem dX7_keysOf_13 : decode cX7_keysOf 13 = .ok (.ishr, 1) := by decide +kernel
theorem dX7_keysOf_14 : decode cX7_keysOf 14 = .ok (.iconst 1, 1) := by decide +kernel
theorem dX7_keysOf_15 : decode cX7_keysOf 15 = .ok (.iand, 1) := by decide +kernel
theorem dX7_keysOf_16 : decode cX7_keysOf 16 = .ok (.iadd, 1) := by decide +kernel
theorem dX7_keysOf_17 : decode cX7_keysOf 17 = .ok (.istore_n 1, 1) := by decide +kernel
theorem dX7_keysOf_18 : decode cX7_keysOf 18 = .ok (.iinc 2 1, 3) := by decide +kernel
theorem dX7_keysOf_21 : decode cX7_keysOf 21 = .ok (.goto (-17), 3) := by decide +kernel
theorem dX7_keysOf_24 : decode cX7_keysOf 24 = .ok (.iload_n 1, 1) := by decide +kernel
theorem dX7_keysOf_25 : decode cX7_keysOf 25 = .ok (.ireturn, 1) := by decide +kernel
theorem dX7_isEntry_0 : decode cX7_isEntry 0 = .ok (.iload_n 1, 1) := by decide +kernel
theorem dX7_isEntry_1 : decode cX7_isEntry 1 = .ok (.iconst 0, 1) := by decide +kernel
theorem dX7_isEntry_2 : decode cX7_isEntry 2 = .ok (.aload_n 0, 1) := by decide +kernel
theorem dX7_isEntry_3 : decode cX7_isEntry 3 = .ok (.getfield 7, 3) := by decide +kernel
theorem dX7_isEntry_6 : decode cX7_isEntry 6 = .ok (.iconst 1, 1) := by decide +kernel
theorem dX7_isEntry_7 : decode cX7_isEntry 7 = .ok (.iaload, 1) := by decide +kernel
theorem dX7_isEntry_8 : decode cX7_isEntry 8 = .ok (.iconst 1, 1) := by decide +kernel
theorem dX7_isEntry_9 : decode cX7_isEntry 9 = .ok (.isub, 1) := by decide +kernel
theorem dX7_isEntry_10 : decode cX7_isEntry 10 = .ok (.invokestatic 38, 3) := by decide +kernel
theorem dX7_isEntry_13 : decode cX7_isEntry 13 = .ok (.ireturn, 1) := by decide +kernel
theorem dX7_of_0 : decode cX7_of 0 = .ok (.aload_n 0, 1) := by decide +kernel
theorem dX7_of_1 : decode cX7_of 1 = .ok (.getfield 7, 3) := by decide +kernel
theorem dX7_of_4 : decode cX7_of 4 = .ok (.bipush 68, 2) := by decide +kernel
theorem dX7_of_6 : decode cX7_of 6 = .ok (.bipush 7, 2) := by decide +kernel
theorem dX7_of_8 : decode cX7_of 8 = .ok (.iload_n 1, 1) := by decide +kernel
theorem dX7_of_9 : decode cX7_of 9 = .ok (.imul, 1) := by decide +kernel
theorem dX7_of_10 : decode cX7_of 10 = .ok (.iadd, 1) := by decide +kernel
theorem dX7_of_11 : decode cX7_of 11 = .ok (.iload_n 2, 1) := by decide +kernel
theorem dX7_of_12 : decode cX7_of 12 = .ok (.iadd, 1) := by decide +kernel
theorem dX7_of_13 : decode cX7_of 13 = .ok (.iaload, 1) := by decide +kernel
theorem dX7_of_14 : decode cX7_of 14 = .ok (.ireturn, 1) := by decide +kernel
theorem dX7_lay_0 : decode cX7_lay 0 = .ok (.aload_n 0, 1) := by decide +kernel
theorem dX7_lay_1 : decode cX7_lay 1 = .ok (.getfield 7, 3) := by decide +kernel
theorem dX7_lay_4 : decode cX7_lay 4 = .ok (.bipush 68, 2) := by decide +kernel
theorem dX7_lay_6 : decode cX7_lay 6 = .ok (.bipush 7, 2) := by decide +kernel
theorem dX7_lay_8 : decode cX7_lay 8 = .ok (.iload_n 1, 1) := by decide +kernel
theorem dX7_lay_9 : decode cX7_lay 9 = .ok (.imul, 1) := by decide +kernel
theorem dX7_lay_10 : decode cX7_lay 10 = .ok (.iadd, 1) := by decide +kernel
theorem dX7_lay_11 : decode cX7_lay 11 = .ok (.iload_n 2, 1) := by decide +kernel
theorem dX7_lay_12 : decode cX7_lay 12 = .ok (.iadd, 1) := by decide +kernel
theorem dX7_lay_13 : decode cX7_lay 13 = .ok (.iload_n 3, 1) := by decide +kernel
theorem dX7_lay_14 : decode cX7_lay 14 = .ok (.iastore, 1) := by decide +kernel
theorem dX7_lay_15 : decode cX7_lay 15 = .ok (.return_, 1) := by decide +kernel
theorem dX7_areRivals_0 : decode cX7_areRivals 0 = .ok (.aload_n 0, 1) := by decide +kernel
theorem dX7_areRivals_1 : decode cX7_areRivals 1 = .ok (.iload_n 1, 1) := by decide +kernel
theorem dX7_areRivals_2 : decode cX7_areRivals 2 = .ok (.iconst 0, 1) := by decide +kernel
theorem dX7_areRivals_3 : decode cX7_areRivals 3 = .ok (.invokevirtual 42, 3) := by decide +kernel
theorem dX7_areRivals_6 : decode cX7_areRivals 6 = .ok (.aload_n 0, 1) := by decide +kernel
theorem dX7_areRivals_7 : decode cX7_areRivals 7 = .ok (.iload_n 2, 1) := by decide +kernel
theorem dX7_areRivals_8 : decode cX7_areRivals 8 = .ok (.iconst 0, 1) := by decide +kernel
theorem dX7_areRivals_9 : decode cX7_areRivals 9 = .ok (.invokevirtual 42, 3) := by decide +kernel
theorem dX7_areRivals_12 : decode cX7_areRivals 12 = .ok (.if_icmp .ne 7, 3) := by decide +kernel
theorem dX7_areRivals_15 : decode cX7_areRivals 15 = .ok (.iconst 1, 1) := by decide +kernel
theorem dX7_areRivals_16 : decode cX7_areRivals 16 = .ok (.goto 4, 3) := by decide +kernel
theorem dX7_areRivals_19 : decode cX7_areRivals 19 = .ok (.iconst 0, 1) := by decide +kernel
theorem dX7_areRivals_20 : decode cX7_areRivals 20 = .ok (.istore_n 3, 1) := by decide +kernel
theorem dX7_areRivals_21 : decode cX7_areRivals 21 = .ok (.iconst 0, 1) := by decide +kernel
theorem dX7_areRivals_22 : decode cX7_areRivals 22 = .ok (.istore 4, 2) := by decide +kernel
theorem dX7_areRivals_24 : decode cX7_areRivals 24 = .ok (.iload 4, 2) := by decide +kernel
theorem dX7_areRivals_26 : decode cX7_areRivals 26 = .ok (.aload_n 0, 1) := by decide +kernel
theorem dX7_areRivals_27 : decode cX7_areRivals 27 = .ok (.iload_n 1, 1) := by decide +kernel
theorem dX7_areRivals_28 : decode cX7_areRivals 28 = .ok (.iconst 0, 1) := by decide +kernel
theorem dX7_areRivals_29 : decode cX7_areRivals 29 = .ok (.invokevirtual 42, 3) := by decide +kernel
theorem dX7_areRivals_32 : decode cX7_areRivals 32 = .ok (.if_icmp .ge 40, 3) := by decide +kernel
theorem dX7_areRivals_35 : decode cX7_areRivals 35 = .ok (.iload_n 3, 1) := by decide +kernel
theorem dX7_areRivals_36 : decode cX7_areRivals 36 = .ok (.ifCond .eq 36, 3) := by decide +kernel
theorem dX7_areRivals_39 : decode cX7_areRivals 39 = .ok (.aload_n 0, 1) := by decide +kernel
theorem dX7_areRivals_40 : decode cX7_areRivals 40 = .ok (.iload_n 1, 1) := by decide +kernel
theorem dX7_areRivals_41 : decode cX7_areRivals 41 = .ok (.iconst 1, 1) := by decide +kernel
theorem dX7_areRivals_42 : decode cX7_areRivals 42 = .ok (.iload 4, 2) := by decide +kernel
theorem dX7_areRivals_44 : decode cX7_areRivals 44 = .ok (.iadd, 1) := by decide +kernel
theorem dX7_areRivals_45 : decode cX7_areRivals 45 = .ok (.invokevirtual 42, 3) := by decide +kernel
theorem dX7_areRivals_48 : decode cX7_areRivals 48 = .ok (.aload_n 0, 1) := by decide +kernel
theorem dX7_areRivals_49 : decode cX7_areRivals 49 = .ok (.iload_n 2, 1) := by decide +kernel
theorem dX7_areRivals_50 : decode cX7_areRivals 50 = .ok (.iconst 1, 1) := by decide +kernel
theorem dX7_areRivals_51 : decode cX7_areRivals 51 = .ok (.iload 4, 2) := by decide +kernel
theorem dX7_areRivals_53 : decode cX7_areRivals 53 = .ok (.iadd, 1) := by decide +kernel
theorem dX7_areRivals_54 : decode cX7_areRivals 54 = .ok (.invokevirtual 42, 3) := by decide +kernel
theorem dX7_areRivals_57 : decode cX7_areRivals 57 = .ok (.if_icmp .ne 7, 3) := by decide +kernel
theorem dX7_areRivals_60 : decode cX7_areRivals 60 = .ok (.iconst 1, 1) := by decide +kernel
theorem dX7_areRivals_61 : decode cX7_areRivals 61 = .ok (.goto 4, 3) := by decide +kernel
theorem dX7_areRivals_64 : decode cX7_areRivals 64 = .ok (.iconst 0, 1) := by decide +kernel
theorem dX7_areRivals_65 : decode cX7_areRivals 65 = .ok (.istore_n 3, 1) := by decide +kernel
theorem dX7_areRivals_66 : decode cX7_areRivals 66 = .ok (.iinc 4 1, 3) := by decide +kernel
theorem dX7_areRivals_69 : decode cX7_areRivals 69 = .ok (.goto (-45), 3) := by decide +kernel
theorem dX7_areRivals_72 : decode cX7_areRivals 72 = .ok (.iload_n 3, 1) := by decide +kernel
theorem dX7_areRivals_73 : decode cX7_areRivals 73 = .ok (.ireturn, 1) := by decide +kernel
theorem dX7_leads_0 : decode cX7_leads 0 = .ok (.iconst 1, 1) := by decide +kernel
theorem dX7_leads_1 : decode cX7_leads 1 = .ok (.istore_n 2, 1) := by decide +kernel
theorem dX7_leads_2 : decode cX7_leads 2 = .ok (.iconst 0, 1) := by decide +kernel
theorem dX7_leads_3 : decode cX7_leads 3 = .ok (.istore_n 3, 1) := by decide +kernel
theorem dX7_leads_4 : decode cX7_leads 4 = .ok (.iload_n 3, 1) := by decide +kernel
theorem dX7_leads_5 : decode cX7_leads 5 = .ok (.aload_n 0, 1) := by decide +kernel
theorem dX7_leads_6 : decode cX7_leads 6 = .ok (.getfield 7, 3) := by decide +kernel
theorem dX7_leads_9 : decode cX7_leads 9 = .ok (.iconst 1, 1) := by decide +kernel
theorem dX7_leads_10 : decode cX7_leads 10 = .ok (.iaload, 1) := by decide +kernel
theorem dX7_leads_11 : decode cX7_leads 11 = .ok (.if_icmp .ge 60, 3) := by decide +kernel
theorem dX7_leads_14 : decode cX7_leads 14 = .ok (.aload_n 0, 1) := by decide +kernel
theorem dX7_leads_15 : decode cX7_leads 15 = .ok (.iload_n 3, 1) := by decide +kernel
theorem dX7_leads_16 : decode cX7_leads 16 = .ok (.bipush 6, 2) := by decide +kernel
theorem dX7_leads_18 : decode cX7_leads 18 = .ok (.invokevirtual 42, 3) := by decide +kernel
theorem dX7_leads_21 : decode cX7_leads 21 = .ok (.aload_n 0, 1) := by decide +kernel
theorem dX7_leads_22 : decode cX7_leads 22 = .ok (.iload_n 1, 1) := by decide +kernel
theorem dX7_leads_23 : decode cX7_leads 23 = .ok (.bipush 6, 2) := by decide +kernel
theorem dX7_leads_25 : decode cX7_leads 25 = .ok (.invokevirtual 42, 3) := by decide +kernel
theorem dX7_leads_28 : decode cX7_leads 28 = .ok (.isub, 1) := by decide +kernel
theorem dX7_leads_29 : decode cX7_leads 29 = .ok (.istore 4, 2) := by decide +kernel
theorem dX7_leads_31 : decode cX7_leads 31 = .ok (.iload_n 2, 1) := by decide +kernel
theorem dX7_leads_32 : decode cX7_leads 32 = .ok (.ifCond .eq 31, 3) := by decide +kernel
theorem dX7_leads_35 : decode cX7_leads 35 = .ok (.iload 4, 2) := by decide +kernel
theorem dX7_leads_37 : decode cX7_leads 37 = .ok (.ifCond .gt 13, 3) := by decide +kernel
theorem dX7_leads_40 : decode cX7_leads 40 = .ok (.iload 4, 2) := by decide +kernel
theorem dX7_leads_42 : decode cX7_leads 42 = .ok (.ifCond .ne 17, 3) := by decide +kernel
theorem dX7_leads_45 : decode cX7_leads 45 = .ok (.iload_n 3, 1) := by decide +kernel
theorem dX7_leads_46 : decode cX7_leads 46 = .ok (.iload_n 1, 1) := by decide +kernel
theorem dX7_leads_47 : decode cX7_leads 47 = .ok (.if_icmp .ge 12, 3) := by decide +kernel
theorem dX7_leads_50 : decode cX7_leads 50 = .ok (.aload_n 0, 1) := by decide +kernel
theorem dX7_leads_51 : decode cX7_leads 51 = .ok (.iload_n 3, 1) := by decide +kernel
theorem dX7_leads_52 : decode cX7_leads 52 = .ok (.iload_n 1, 1) := by decide +kernel
theorem dX7_leads_53 : decode cX7_leads 53 = .ok (.invokevirtual 46, 3) := by decide +kernel
theorem dX7_leads_56 : decode cX7_leads 56 = .ok (.ifCond .ne 7, 3) := by decide +kernel
theorem dX7_leads_59 : decode cX7_leads 59 = .ok (.iconst 1, 1) := by decide +kernel
theorem dX7_leads_60 : decode cX7_leads 60 = .ok (.goto 4, 3) := by decide +kernel
theorem dX7_leads_63 : decode cX7_leads 63 = .ok (.iconst 0, 1) := by decide +kernel
theorem dX7_leads_64 : decode cX7_leads 64 = .ok (.istore_n 2, 1) := by decide +kernel
theorem dX7_leads_65 : decode cX7_leads 65 = .ok (.iinc 3 1, 3) := by decide +kernel
theorem dX7_leads_68 : decode cX7_leads 68 = .ok (.goto (-64), 3) := by decide +kernel
theorem dX7_leads_71 : decode cX7_leads 71 = .ok (.iload_n 2, 1) := by decide +kernel
theorem dX7_leads_72 : decode cX7_leads 72 = .ok (.ireturn, 1) := by decide +kernel
theorem dX7_keysOfEntry_0 : decode cX7_keysOfEntry 0 = .ok (.iconst 0, 1) := by decide +kernel
theorem dX7_keysOfEntry_1 : decode cX7_keysOfEntry 1 = .ok (.istore_n 2, 1) := by decide +kernel
theorem dX7_keysOfEntry_2 : decode cX7_keysOfEntry 2 = .ok (.iconst 0, 1) := by decide +kernel
theorem dX7_keysOfEntry_3 : decode cX7_keysOfEntry 3 = .ok (.istore_n 3, 1) := by decide +kernel
theorem dX7_keysOfEntry_4 : decode cX7_keysOfEntry 4 = .ok (.iload_n 3, 1) := by decide +kernel
theorem dX7_keysOfEntry_5 : decode cX7_keysOfEntry 5 = .ok (.aload_n 0, 1) := by decide +kernel
theorem dX7_keysOfEntry_6 : decode cX7_keysOfEntry 6 = .ok (.iload_n 1, 1) := by decide +kernel
theorem dX7_keysOfEntry_7 : decode cX7_keysOfEntry 7 = .ok (.iconst 0, 1) := by decide +kernel
theorem dX7_keysOfEntry_8 : decode cX7_keysOfEntry 8 = .ok (.invokevirtual 42, 3) := by decide +kernel
theorem dX7_keysOfEntry_11 : decode cX7_keysOfEntry 11 = .ok (.if_icmp .ge 23, 3) := by decide +kernel
theorem dX7_keysOfEntry_14 : decode cX7_keysOfEntry 14 = .ok (.iload_n 2, 1) := by decide +kernel
theorem dX7_keysOfEntry_15 : decode cX7_keysOfEntry 15 = .ok (.aload_n 0, 1) := by decide +kernel
theorem dX7_keysOfEntry_16 : decode cX7_keysOfEntry 16 = .ok (.iload_n 1, 1) := by decide +kernel
theorem dX7_keysOfEntry_17 : decode cX7_keysOfEntry 17 = .ok (.iconst 1, 1) := by decide +kernel
theorem dX7_keysOfEntry_18 : decode cX7_keysOfEntry 18 = .ok (.iload_n 3, 1) := by decide +kernel
theorem dX7_keysOfEntry_19 : decode cX7_keysOfEntry 19 = .ok (.iadd, 1) := by decide +kernel
theorem dX7_keysOfEntry_20 : decode cX7_keysOfEntry 20 = .ok (.invokevirtual 42, 3) := by decide +kernel
theorem dX7_keysOfEntry_23 : decode cX7_keysOfEntry 23 = .ok (.invokestatic 50, 3) := by decide +kernel
theorem dX7_keysOfEntry_26 : decode cX7_keysOfEntry 26 = .ok (.iadd, 1) := by decide +kernel
theorem dX7_keysOfEntry_27 : decode cX7_keysOfEntry 27 = .ok (.istore_n 2, 1) := by decide +kernel
theorem dX7_keysOfEntry_28 : decode cX7_keysOfEntry 28 = .ok (.iinc 3 1, 3) := by decide +kernel
theorem dX7_keysOfEntry_31 : decode cX7_keysOfEntry 31 = .ok (.goto (-27), 3) := by decide +kernel
theorem dX7_keysOfEntry_34 : decode cX7_keysOfEntry 34 = .ok (.iload_n 2, 1) := by decide +kernel
theorem dX7_keysOfEntry_35 : decode cX7_keysOfEntry 35 = .ok (.ireturn, 1) := by decide +kernel
theorem dX7_isRow_0 : decode cX7_isRow 0 = .ok (.aload_n 0, 1) := by decide +kernel
theorem dX7_isRow_1 : decode cX7_isRow 1 = .ok (.iload_n 1, 1) := by decide +kernel
theorem dX7_isRow_2 : decode cX7_isRow 2 = .ok (.iconst 0, 1) := by decide +kernel
theorem dX7_isRow_3 : decode cX7_isRow 3 = .ok (.invokevirtual 42, 3) := by decide +kernel
theorem dX7_isRow_6 : decode cX7_isRow 6 = .ok (.istore_n 3, 1) := by decide +kernel
theorem dX7_isRow_7 : decode cX7_isRow 7 = .ok (.iload_n 2, 1) := by decide +kernel
theorem dX7_isRow_8 : decode cX7_isRow 8 = .ok (.iload_n 3, 1) := by decide +kernel
theorem dX7_isRow_9 : decode cX7_isRow 9 = .ok (.iadd, 1) := by decide +kernel
theorem dX7_isRow_10 : decode cX7_isRow 10 = .ok (.aload_n 0, 1) := by decide +kernel
theorem dX7_isRow_11 : decode cX7_isRow 11 = .ok (.getfield 54, 3) := by decide +kernel
theorem dX7_isRow_14 : decode cX7_isRow 14 = .ok (.if_icmp .gt 7, 3) := by decide +kernel
theorem dX7_isRow_17 : decode cX7_isRow 17 = .ok (.iconst 1, 1) := by decide +kernel
theorem dX7_isRow_18 : decode cX7_isRow 18 = .ok (.goto 4, 3) := by decide +kernel
theorem dX7_isRow_21 : decode cX7_isRow 21 = .ok (.iconst 0, 1) := by decide +kernel
theorem dX7_isRow_22 : decode cX7_isRow 22 = .ok (.istore 4, 2) := by decide +kernel
theorem dX7_isRow_24 : decode cX7_isRow 24 = .ok (.iconst 0, 1) := by decide +kernel
theorem dX7_isRow_25 : decode cX7_isRow 25 = .ok (.istore 5, 2) := by decide +kernel
theorem dX7_isRow_27 : decode cX7_isRow 27 = .ok (.iload 5, 2) := by decide +kernel
theorem dX7_isRow_29 : decode cX7_isRow 29 = .ok (.iload_n 3, 1) := by decide +kernel
theorem dX7_isRow_30 : decode cX7_isRow 30 = .ok (.if_icmp .ge 42, 3) := by decide +kernel
theorem dX7_isRow_33 : decode cX7_isRow 33 = .ok (.iload 4, 2) := by decide +kernel
theorem dX7_isRow_35 : decode cX7_isRow 35 = .ok (.ifCond .eq 37, 3) := by decide +kernel
theorem dX7_isRow_38 : decode cX7_isRow 38 = .ok (.aload_n 0, 1) := by decide +kernel
theorem dX7_isRow_39 : decode cX7_isRow 39 = .ok (.getfield 19, 3) := by decide +kernel
theorem dX7_isRow_42 : decode cX7_isRow 42 = .ok (.iload_n 2, 1) := by decide +kernel
theorem dX7_isRow_43 : decode cX7_isRow 43 = .ok (.iload 5, 2) := by decide +kernel
theorem dX7_isRow_45 : decode cX7_isRow 45 = .ok (.iadd, 1) := by decide +kernel
theorem dX7_isRow_46 : decode cX7_isRow 46 = .ok (.iaload, 1) := by decide +kernel
theorem dX7_isRow_47 : decode cX7_isRow 47 = .ok (.aload_n 0, 1) := by decide +kernel
theorem dX7_isRow_48 : decode cX7_isRow 48 = .ok (.iload_n 1, 1) := by decide +kernel
theorem dX7_isRow_49 : decode cX7_isRow 49 = .ok (.iconst 1, 1) := by decide +kernel
theorem dX7_isRow_50 : decode cX7_isRow 50 = .ok (.iload 5, 2) := by decide +kernel
theorem dX7_isRow_52 : decode cX7_isRow 52 = .ok (.iadd, 1) := by decide +kernel
theorem dX7_isRow_53 : decode cX7_isRow 53 = .ok (.invokevirtual 42, 3) := by decide +kernel
theorem dX7_isRow_56 : decode cX7_isRow 56 = .ok (.if_icmp .ne 7, 3) := by decide +kernel
theorem dX7_isRow_59 : decode cX7_isRow 59 = .ok (.iconst 1, 1) := by decide +kernel
theorem dX7_isRow_60 : decode cX7_isRow 60 = .ok (.goto 4, 3) := by decide +kernel
theorem dX7_isRow_63 : decode cX7_isRow 63 = .ok (.iconst 0, 1) := by decide +kernel
theorem dX7_isRow_64 : decode cX7_isRow 64 = .ok (.istore 4, 2) := by decide +kernel
theorem dX7_isRow_66 : decode cX7_isRow 66 = .ok (.iinc 5 1, 3) := by decide +kernel
theorem dX7_isRow_69 : decode cX7_isRow 69 = .ok (.goto (-42), 3) := by decide +kernel
theorem dX7_isRow_72 : decode cX7_isRow 72 = .ok (.iload 4, 2) := by decide +kernel
theorem dX7_isRow_74 : decode cX7_isRow 74 = .ok (.ireturn, 1) := by decide +kernel
theorem dX7_entryAt_0 : decode cX7_entryAt 0 = .ok (.iconst (-1), 1) := by decide +kernel
theorem dX7_entryAt_1 : decode cX7_entryAt 1 = .ok (.istore_n 2, 1) := by decide +kernel
theorem dX7_entryAt_2 : decode cX7_entryAt 2 = .ok (.iconst 0, 1) := by decide +kernel
theorem dX7_entryAt_3 : decode cX7_entryAt 3 = .ok (.istore_n 3, 1) := by decide +kernel
theorem dX7_entryAt_4 : decode cX7_entryAt 4 = .ok (.iload_n 3, 1) := by decide +kernel
theorem dX7_entryAt_5 : decode cX7_entryAt 5 = .ok (.aload_n 0, 1) := by decide +kernel
theorem dX7_entryAt_6 : decode cX7_entryAt 6 = .ok (.getfield 7, 3) := by decide +kernel
theorem dX7_entryAt_9 : decode cX7_entryAt 9 = .ok (.iconst 1, 1) := by decide +kernel
theorem dX7_entryAt_10 : decode cX7_entryAt 10 = .ok (.iaload, 1) := by decide +kernel
theorem dX7_entryAt_11 : decode cX7_entryAt 11 = .ok (.if_icmp .ge 72, 3) := by decide +kernel
theorem dX7_entryAt_14 : decode cX7_entryAt 14 = .ok (.iload_n 2, 1) := by decide +kernel
theorem dX7_entryAt_15 : decode cX7_entryAt 15 = .ok (.iconst (-1), 1) := by decide +kernel
theorem dX7_entryAt_16 : decode cX7_entryAt 16 = .ok (.if_icmp .ne 7, 3) := by decide +kernel
theorem dX7_entryAt_19 : decode cX7_entryAt 19 = .ok (.iconst 1, 1) := by decide +kernel
theorem dX7_entryAt_20 : decode cX7_entryAt 20 = .ok (.goto 16, 3) := by decide +kernel
theorem dX7_entryAt_23 : decode cX7_entryAt 23 = .ok (.aload_n 0, 1) := by decide +kernel
theorem dX7_entryAt_24 : decode cX7_entryAt 24 = .ok (.iload_n 3, 1) := by decide +kernel
theorem dX7_entryAt_25 : decode cX7_entryAt 25 = .ok (.iconst 0, 1) := by decide +kernel
theorem dX7_entryAt_26 : decode cX7_entryAt 26 = .ok (.invokevirtual 42, 3) := by decide +kernel
theorem dX7_entryAt_29 : decode cX7_entryAt 29 = .ok (.aload_n 0, 1) := by decide +kernel
theorem dX7_entryAt_30 : decode cX7_entryAt 30 = .ok (.iload_n 2, 1) := by decide +kernel
theorem dX7_entryAt_31 : decode cX7_entryAt 31 = .ok (.iconst 0, 1) := by decide +kernel
theorem dX7_entryAt_32 : decode cX7_entryAt 32 = .ok (.invokevirtual 42, 3) := by decide +kernel
theorem dX7_entryAt_35 : decode cX7_entryAt 35 = .ok (.isub, 1) := by decide +kernel
theorem dX7_entryAt_36 : decode cX7_entryAt 36 = .ok (.istore 4, 2) := by decide +kernel
theorem dX7_entryAt_38 : decode cX7_entryAt 38 = .ok (.iload 4, 2) := by decide +kernel
theorem dX7_entryAt_40 : decode cX7_entryAt 40 = .ok (.ifCond .le 37, 3) := by decide +kernel
theorem dX7_entryAt_43 : decode cX7_entryAt 43 = .ok (.aload_n 0, 1) := by decide +kernel
theorem dX7_entryAt_44 : decode cX7_entryAt 44 = .ok (.iload_n 3, 1) := by decide +kernel
theorem dX7_entryAt_45 : decode cX7_entryAt 45 = .ok (.iconst 0, 1) := by decide +kernel
theorem dX7_entryAt_46 : decode cX7_entryAt 46 = .ok (.invokevirtual 42, 3) := by decide +kernel
theorem dX7_entryAt_49 : decode cX7_entryAt 49 = .ok (.aload_n 0, 1) := by decide +kernel
theorem dX7_entryAt_50 : decode cX7_entryAt 50 = .ok (.getfield 7, 3) := by decide +kernel
theorem dX7_entryAt_53 : decode cX7_entryAt 53 = .ok (.iconst 3, 1) := by decide +kernel
theorem dX7_entryAt_54 : decode cX7_entryAt 54 = .ok (.iaload, 1) := by decide +kernel
theorem dX7_entryAt_55 : decode cX7_entryAt 55 = .ok (.if_icmp .gt 22, 3) := by decide +kernel
theorem dX7_entryAt_58 : decode cX7_entryAt 58 = .ok (.aload_n 0, 1) := by decide +kernel
theorem dX7_entryAt_59 : decode cX7_entryAt 59 = .ok (.iload_n 3, 1) := by decide +kernel
theorem dX7_entryAt_60 : decode cX7_entryAt 60 = .ok (.iload_n 1, 1) := by decide +kernel
theorem dX7_entryAt_61 : decode cX7_entryAt 61 = .ok (.invokevirtual 57, 3) := by decide +kernel
theorem dX7_entryAt_64 : decode cX7_entryAt 64 = .ok (.ifCond .eq 13, 3) := by decide +kernel
theorem dX7_entryAt_67 : decode cX7_entryAt 67 = .ok (.aload_n 0, 1) := by decide +kernel
theorem dX7_entryAt_68 : decode cX7_entryAt 68 = .ok (.iload_n 3, 1) := by decide +kernel
theorem dX7_entryAt_69 : decode cX7_entryAt 69 = .ok (.invokevirtual 60, 3) := by decide +kernel
theorem dX7_entryAt_72 : decode cX7_entryAt 72 = .ok (.ifCond .eq 5, 3) := by decide +kernel
theorem dX7_entryAt_75 : decode cX7_entryAt 75 = .ok (.iload_n 3, 1) := by decide +kernel
theorem dX7_entryAt_76 : decode cX7_entryAt 76 = .ok (.istore_n 2, 1) := by decide +kernel
theorem dX7_entryAt_77 : decode cX7_entryAt 77 = .ok (.iinc 3 1, 3) := by decide +kernel
theorem dX7_entryAt_80 : decode cX7_entryAt 80 = .ok (.goto (-76), 3) := by decide +kernel
theorem dX7_entryAt_83 : decode cX7_entryAt 83 = .ok (.iload_n 2, 1) := by decide +kernel
theorem dX7_entryAt_84 : decode cX7_entryAt 84 = .ok (.ireturn, 1) := by decide +kernel
theorem dX7_reads_0 : decode cX7_reads 0 = .ok (.aload_n 0, 1) := by decide +kernel
theorem dX7_reads_1 : decode cX7_reads 1 = .ok (.iconst 0, 1) := by decide +kernel
theorem dX7_reads_2 : decode cX7_reads 2 = .ok (.putfield 64, 3) := by decide +kernel
theorem dX7_reads_5 : decode cX7_reads 5 = .ok (.iconst 0, 1) := by decide +kernel
theorem dX7_reads_6 : decode cX7_reads 6 = .ok (.istore_n 1, 1) := by decide +kernel
theorem dX7_reads_7 : decode cX7_reads 7 = .ok (.iload_n 1, 1) := by decide +kernel
theorem dX7_reads_8 : decode cX7_reads 8 = .ok (.aload_n 0, 1) := by decide +kernel
theorem dX7_reads_9 : decode cX7_reads 9 = .ok (.getfield 54, 3) := by decide +kernel
theorem dX7_reads_12 : decode cX7_reads 12 = .ok (.if_icmp .ge 78, 3) := by decide +kernel
theorem dX7_reads_15 : decode cX7_reads 15 = .ok (.aload_n 0, 1) := by decide +kernel
theorem dX7_reads_16 : decode cX7_reads 16 = .ok (.iload_n 1, 1) := by decide +kernel
theorem dX7_reads_17 : decode cX7_reads 17 = .ok (.invokevirtual 67, 3) := by decide +kernel
theorem dX7_reads_20 : decode cX7_reads 20 = .ok (.istore_n 2, 1) := by decide +kernel
theorem dX7_reads_21 : decode cX7_reads 21 = .ok (.aload_n 0, 1) := by decide +kernel
theorem dX7_reads_22 : decode cX7_reads 22 = .ok (.getfield 22, 3) := by decide +kernel
theorem dX7_reads_25 : decode cX7_reads 25 = .ok (.aload_n 0, 1) := by decide +kernel
theorem dX7_reads_26 : decode cX7_reads 26 = .ok (.getfield 64, 3) := by decide +kernel
theorem dX7_reads_29 : decode cX7_reads 29 = .ok (.iload_n 1, 1) := by decide +kernel
theorem dX7_reads_30 : decode cX7_reads 30 = .ok (.iastore, 1) := by decide +kernel
theorem dX7_reads_31 : decode cX7_reads 31 = .ok (.aload_n 0, 1) := by decide +kernel
theorem dX7_reads_32 : decode cX7_reads 32 = .ok (.getfield 28, 3) := by decide +kernel
theorem dX7_reads_35 : decode cX7_reads 35 = .ok (.aload_n 0, 1) := by decide +kernel
theorem dX7_reads_36 : decode cX7_reads 36 = .ok (.getfield 64, 3) := by decide +kernel
theorem dX7_reads_39 : decode cX7_reads 39 = .ok (.iload_n 2, 1) := by decide +kernel
theorem dX7_reads_40 : decode cX7_reads 40 = .ok (.iastore, 1) := by decide +kernel
theorem dX7_reads_41 : decode cX7_reads 41 = .ok (.aload_n 0, 1) := by decide +kernel
theorem dX7_reads_42 : decode cX7_reads 42 = .ok (.getfield 25, 3) := by decide +kernel
theorem dX7_reads_45 : decode cX7_reads 45 = .ok (.aload_n 0, 1) := by decide +kernel
theorem dX7_reads_46 : decode cX7_reads 46 = .ok (.getfield 64, 3) := by decide +kernel
theorem dX7_reads_49 : decode cX7_reads 49 = .ok (.iload_n 2, 1) := by decide +kernel
theorem dX7_reads_50 : decode cX7_reads 50 = .ok (.iconst (-1), 1) := by decide +kernel
theorem dX7_reads_51 : decode cX7_reads 51 = .ok (.if_icmp .ne 7, 3) := by decide +kernel
theorem dX7_reads_54 : decode cX7_reads 54 = .ok (.iconst 1, 1) := by decide +kernel
theorem dX7_reads_55 : decode cX7_reads 55 = .ok (.goto 9, 3) := by decide +kernel
theorem dX7_reads_58 : decode cX7_reads 58 = .ok (.aload_n 0, 1) := by decide +kernel
theorem dX7_reads_59 : decode cX7_reads 59 = .ok (.iload_n 2, 1) := by decide +kernel
theorem dX7_reads_60 : decode cX7_reads 60 = .ok (.iconst 0, 1) := by decide +kernel
theorem dX7_reads_61 : decode cX7_reads 61 = .ok (.invokevirtual 42, 3) := by decide +kernel
theorem dX7_reads_64 : decode cX7_reads 64 = .ok (.iastore, 1) := by decide +kernel
theorem dX7_reads_65 : decode cX7_reads 65 = .ok (.iload_n 1, 1) := by decide +kernel
theorem dX7_reads_66 : decode cX7_reads 66 = .ok (.aload_n 0, 1) := by decide +kernel
theorem dX7_reads_67 : decode cX7_reads 67 = .ok (.getfield 25, 3) := by decide +kernel
theorem dX7_reads_70 : decode cX7_reads 70 = .ok (.aload_n 0, 1) := by decide +kernel
theorem dX7_reads_71 : decode cX7_reads 71 = .ok (.getfield 64, 3) := by decide +kernel
theorem dX7_reads_74 : decode cX7_reads 74 = .ok (.iaload, 1) := by decide +kernel
theorem dX7_reads_75 : decode cX7_reads 75 = .ok (.iadd, 1) := by decide +kernel
theorem dX7_reads_76 : decode cX7_reads 76 = .ok (.istore_n 1, 1) := by decide +kernel
theorem dX7_reads_77 : decode cX7_reads 77 = .ok (.aload_n 0, 1) := by decide +kernel
theorem dX7_reads_78 : decode cX7_reads 78 = .ok (.dup, 1) := by decide +kernel
theorem dX7_reads_79 : decode cX7_reads 79 = .ok (.getfield 64, 3) := by decide +kernel
theorem dX7_reads_82 : decode cX7_reads 82 = .ok (.iconst 1, 1) := by decide +kernel
theorem dX7_reads_83 : decode cX7_reads 83 = .ok (.iadd, 1) := by decide +kernel
theorem dX7_reads_84 : decode cX7_reads 84 = .ok (.putfield 64, 3) := by decide +kernel
theorem dX7_reads_87 : decode cX7_reads 87 = .ok (.goto (-80), 3) := by decide +kernel
theorem dX7_reads_90 : decode cX7_reads 90 = .ok (.return_, 1) := by decide +kernel
theorem dX7_readsPaper_0 : decode cX7_readsPaper 0 = .ok (.aload_n 0, 1) := by decide +kernel
theorem dX7_readsPaper_1 : decode cX7_readsPaper 1 = .ok (.aload_n 0, 1) := by decide +kernel
theorem dX7_readsPaper_2 : decode cX7_readsPaper 2 = .ok (.getfield 7, 3) := by decide +kernel
theorem dX7_readsPaper_5 : decode cX7_readsPaper 5 = .ok (.iconst 0, 1) := by decide +kernel
theorem dX7_readsPaper_6 : decode cX7_readsPaper 6 = .ok (.iaload, 1) := by decide +kernel
theorem dX7_readsPaper_7 : decode cX7_readsPaper 7 = .ok (.putfield 54, 3) := by decide +kernel
theorem dX7_readsPaper_10 : decode cX7_readsPaper 10 = .ok (.iconst 0, 1) := by decide +kernel
theorem dX7_readsPaper_11 : decode cX7_readsPaper 11 = .ok (.istore_n 1, 1) := by decide +kernel
theorem dX7_readsPaper_12 : decode cX7_readsPaper 12 = .ok (.iload_n 1, 1) := by decide +kernel
theorem dX7_readsPaper_13 : decode cX7_readsPaper 13 = .ok (.aload_n 0, 1) := by decide +kernel
theorem dX7_readsPaper_14 : decode cX7_readsPaper 14 = .ok (.getfield 54, 3) := by decide +kernel
theorem dX7_readsPaper_17 : decode cX7_readsPaper 17 = .ok (.if_icmp .ge 24, 3) := by decide +kernel
theorem dX7_readsPaper_20 : decode cX7_readsPaper 20 = .ok (.aload_n 0, 1) := by decide +kernel
theorem dX7_readsPaper_21 : decode cX7_readsPaper 21 = .ok (.getfield 19, 3) := by decide +kernel
theorem dX7_readsPaper_24 : decode cX7_readsPaper 24 = .ok (.iload_n 1, 1) := by decide +kernel
theorem dX7_readsPaper_25 : decode cX7_readsPaper 25 = .ok (.aload_n 0, 1) := by decide +kernel
theorem dX7_readsPaper_26 : decode cX7_readsPaper 26 = .ok (.getfield 7, 3) := by decide +kernel
theorem dX7_readsPaper_29 : decode cX7_readsPaper 29 = .ok (.bipush 8, 2) := by decide +kernel
theorem dX7_readsPaper_31 : decode cX7_readsPaper 31 = .ok (.iload_n 1, 1) := by decide +kernel
theorem dX7_readsPaper_32 : decode cX7_readsPaper 32 = .ok (.iadd, 1) := by decide +kernel
theorem dX7_readsPaper_33 : decode cX7_readsPaper 33 = .ok (.iaload, 1) := by decide +kernel
theorem dX7_readsPaper_34 : decode cX7_readsPaper 34 = .ok (.iastore, 1) := by decide +kernel
theorem dX7_readsPaper_35 : decode cX7_readsPaper 35 = .ok (.iinc 1 1, 3) := by decide +kernel
theorem dX7_readsPaper_38 : decode cX7_readsPaper 38 = .ok (.goto (-26), 3) := by decide +kernel
theorem dX7_readsPaper_41 : decode cX7_readsPaper 41 = .ok (.aload_n 0, 1) := by decide +kernel
theorem dX7_readsPaper_42 : decode cX7_readsPaper 42 = .ok (.invokevirtual 70, 3) := by decide +kernel
theorem dX7_readsPaper_45 : decode cX7_readsPaper 45 = .ok (.return_, 1) := by decide +kernel
theorem dX7_wordOf_0 : decode cX7_wordOf 0 = .ok (.aload_n 0, 1) := by decide +kernel
theorem dX7_wordOf_1 : decode cX7_wordOf 1 = .ok (.getfield 28, 3) := by decide +kernel
theorem dX7_wordOf_4 : decode cX7_wordOf 4 = .ok (.iload_n 1, 1) := by decide +kernel
theorem dX7_wordOf_5 : decode cX7_wordOf 5 = .ok (.iaload, 1) := by decide +kernel
theorem dX7_wordOf_6 : decode cX7_wordOf 6 = .ok (.iconst (-1), 1) := by decide +kernel
theorem dX7_wordOf_7 : decode cX7_wordOf 7 = .ok (.if_icmp .ne 7, 3) := by decide +kernel
theorem dX7_wordOf_10 : decode cX7_wordOf 10 = .ok (.iconst (-1), 1) := by decide +kernel
theorem dX7_wordOf_11 : decode cX7_wordOf 11 = .ok (.goto 14, 3) := by decide +kernel
theorem dX7_wordOf_14 : decode cX7_wordOf 14 = .ok (.aload_n 0, 1) := by decide +kernel
theorem dX7_wordOf_15 : decode cX7_wordOf 15 = .ok (.aload_n 0, 1) := by decide +kernel
theorem dX7_wordOf_16 : decode cX7_wordOf 16 = .ok (.getfield 28, 3) := by decide +kernel
theorem dX7_wordOf_19 : decode cX7_wordOf 19 = .ok (.iload_n 1, 1) := by decide +kernel
theorem dX7_wordOf_20 : decode cX7_wordOf 20 = .ok (.iaload, 1) := by decide +kernel
theorem dX7_wordOf_21 : decode cX7_wordOf 21 = .ok (.iconst 5, 1) := by decide +kernel
theorem dX7_wordOf_22 : decode cX7_wordOf 22 = .ok (.invokevirtual 42, 3) := by decide +kernel
theorem dX7_wordOf_25 : decode cX7_wordOf 25 = .ok (.ireturn, 1) := by decide +kernel
theorem dX7_canStrike_0 : decode cX7_canStrike 0 = .ok (.iload_n 1, 1) := by decide +kernel
theorem dX7_canStrike_1 : decode cX7_canStrike 1 = .ok (.ifCond .ne 20, 3) := by decide +kernel
theorem dX7_canStrike_4 : decode cX7_canStrike 4 = .ok (.aload_n 0, 1) := by decide +kernel
theorem dX7_canStrike_5 : decode cX7_canStrike 5 = .ok (.getfield 7, 3) := by decide +kernel
theorem dX7_canStrike_8 : decode cX7_canStrike 8 = .ok (.iconst 0, 1) := by decide +kernel
theorem dX7_canStrike_9 : decode cX7_canStrike 9 = .ok (.iaload, 1) := by decide +kernel
theorem dX7_canStrike_10 : decode cX7_canStrike 10 = .ok (.ifCond .le 7, 3) := by decide +kernel
theorem dX7_canStrike_13 : decode cX7_canStrike 13 = .ok (.iconst 1, 1) := by decide +kernel
theorem dX7_canStrike_14 : decode cX7_canStrike 14 = .ok (.goto 23, 3) := by decide +kernel
theorem dX7_canStrike_17 : decode cX7_canStrike 17 = .ok (.iconst 0, 1) := by decide +kernel
theorem dX7_canStrike_18 : decode cX7_canStrike 18 = .ok (.goto 19, 3) := by decide +kernel
theorem dX7_canStrike_21 : decode cX7_canStrike 21 = .ok (.aload_n 0, 1) := by decide +kernel
theorem dX7_canStrike_22 : decode cX7_canStrike 22 = .ok (.getfield 7, 3) := by decide +kernel
theorem dX7_canStrike_25 : decode cX7_canStrike 25 = .ok (.iconst 0, 1) := by decide +kernel
theorem dX7_canStrike_26 : decode cX7_canStrike 26 = .ok (.iaload, 1) := by decide +kernel
theorem dX7_canStrike_27 : decode cX7_canStrike 27 = .ok (.bipush 60, 2) := by decide +kernel
theorem dX7_canStrike_29 : decode cX7_canStrike 29 = .ok (.if_icmp .ge 7, 3) := by decide +kernel
theorem dX7_canStrike_32 : decode cX7_canStrike 32 = .ok (.iconst 1, 1) := by decide +kernel
theorem dX7_canStrike_33 : decode cX7_canStrike 33 = .ok (.goto 4, 3) := by decide +kernel
theorem dX7_canStrike_36 : decode cX7_canStrike 36 = .ok (.iconst 0, 1) := by decide +kernel
theorem dX7_canStrike_37 : decode cX7_canStrike 37 = .ok (.ireturn, 1) := by decide +kernel
theorem dX7_strikes_0 : decode cX7_strikes 0 = .ok (.iload_n 1, 1) := by decide +kernel
theorem dX7_strikes_1 : decode cX7_strikes 1 = .ok (.ifCond .le 53, 3) := by decide +kernel
theorem dX7_strikes_4 : decode cX7_strikes 4 = .ok (.aload_n 0, 1) := by decide +kernel
theorem dX7_strikes_5 : decode cX7_strikes 5 = .ok (.getfield 7, 3) := by decide +kernel
theorem dX7_strikes_8 : decode cX7_strikes 8 = .ok (.bipush 8, 2) := by decide +kernel
theorem dX7_strikes_10 : decode cX7_strikes 10 = .ok (.aload_n 0, 1) := by decide +kernel
theorem dX7_strikes_11 : decode cX7_strikes 11 = .ok (.getfield 7, 3) := by decide +kernel
theorem dX7_strikes_14 : decode cX7_strikes 14 = .ok (.iconst 0, 1) := by decide +kernel
theorem dX7_strikes_15 : decode cX7_strikes 15 = .ok (.iaload, 1) := by decide +kernel
theorem dX7_strikes_16 : decode cX7_strikes 16 = .ok (.iadd, 1) := by decide +kernel
theorem dX7_strikes_17 : decode cX7_strikes 17 = .ok (.iload_n 1, 1) := by decide +kernel
theorem dX7_strikes_18 : decode cX7_strikes 18 = .ok (.iastore, 1) := by decide +kernel
theorem dX7_strikes_19 : decode cX7_strikes 19 = .ok (.aload_n 0, 1) := by decide +kernel
theorem dX7_strikes_20 : decode cX7_strikes 20 = .ok (.getfield 7, 3) := by decide +kernel
theorem dX7_strikes_23 : decode cX7_strikes 23 = .ok (.iconst 0, 1) := by decide +kernel
theorem dX7_strikes_24 : decode cX7_strikes 24 = .ok (.dup2, 1) := by decide +kernel
theorem dX7_strikes_25 : decode cX7_strikes 25 = .ok (.iaload, 1) := by decide +kernel
theorem dX7_strikes_26 : decode cX7_strikes 26 = .ok (.iconst 1, 1) := by decide +kernel
theorem dX7_strikes_27 : decode cX7_strikes 27 = .ok (.iadd, 1) := by decide +kernel
theorem dX7_strikes_28 : decode cX7_strikes 28 = .ok (.iastore, 1) := by decide +kernel
theorem dX7_strikes_29 : decode cX7_strikes 29 = .ok (.aload_n 0, 1) := by decide +kernel
theorem dX7_strikes_30 : decode cX7_strikes 30 = .ok (.getfield 7, 3) := by decide +kernel
theorem dX7_strikes_33 : decode cX7_strikes 33 = .ok (.iconst 4, 1) := by decide +kernel
theorem dX7_strikes_34 : decode cX7_strikes 34 = .ok (.dup2, 1) := by decide +kernel
theorem dX7_strikes_35 : decode cX7_strikes 35 = .ok (.iaload, 1) := by decide +kernel
theorem dX7_strikes_36 : decode cX7_strikes 36 = .ok (.iconst 1, 1) := by decide +kernel
theorem dX7_strikes_37 : decode cX7_strikes 37 = .ok (.iadd, 1) := by decide +kernel
theorem dX7_strikes_38 : decode cX7_strikes 38 = .ok (.iastore, 1) := by decide +kernel
theorem dX7_strikes_39 : decode cX7_strikes 39 = .ok (.aload_n 0, 1) := by decide +kernel
theorem dX7_strikes_40 : decode cX7_strikes 40 = .ok (.getfield 7, 3) := by decide +kernel
theorem dX7_strikes_43 : decode cX7_strikes 43 = .ok (.bipush 7, 2) := by decide +kernel
theorem dX7_strikes_45 : decode cX7_strikes 45 = .ok (.dup2, 1) := by decide +kernel
theorem dX7_strikes_46 : decode cX7_strikes 46 = .ok (.iaload, 1) := by decide +kernel
theorem dX7_strikes_47 : decode cX7_strikes 47 = .ok (.iload_n 1, 1) := by decide +kernel
theorem dX7_strikes_48 : decode cX7_strikes 48 = .ok (.invokestatic 50, 3) := by decide +kernel
theorem dX7_strikes_51 : decode cX7_strikes 51 = .ok (.iadd, 1) := by decide +kernel
theorem dX7_strikes_52 : decode cX7_strikes 52 = .ok (.iastore, 1) := by decide +kernel
theorem dX7_strikes_53 : decode cX7_strikes 53 = .ok (.return_, 1) := by decide +kernel
theorem dX7_strikes_54 : decode cX7_strikes 54 = .ok (.aload_n 0, 1) := by decide +kernel
theorem dX7_strikes_55 : decode cX7_strikes 55 = .ok (.invokevirtual 73, 3) := by decide +kernel
theorem dX7_strikes_58 : decode cX7_strikes 58 = .ok (.aload_n 0, 1) := by decide +kernel
theorem dX7_strikes_59 : decode cX7_strikes 59 = .ok (.getfield 7, 3) := by decide +kernel
theorem dX7_strikes_62 : decode cX7_strikes 62 = .ok (.iconst 2, 1) := by decide +kernel
theorem dX7_strikes_63 : decode cX7_strikes 63 = .ok (.iaload, 1) := by decide +kernel
theorem dX7_strikes_64 : decode cX7_strikes 64 = .ok (.ifCond .ne 7, 3) := by decide +kernel
theorem dX7_strikes_67 : decode cX7_strikes 67 = .ok (.iconst 1, 1) := by decide +kernel
theorem dX7_strikes_68 : decode cX7_strikes 68 = .ok (.goto 14, 3) := by decide +kernel
theorem dX7_strikes_71 : decode cX7_strikes 71 = .ok (.aload_n 0, 1) := by decide +kernel
theorem dX7_strikes_72 : decode cX7_strikes 72 = .ok (.getfield 25, 3) := by decide +kernel
theorem dX7_strikes_75 : decode cX7_strikes 75 = .ok (.aload_n 0, 1) := by decide +kernel
theorem dX7_strikes_76 : decode cX7_strikes 76 = .ok (.getfield 64, 3) := by decide +kernel
theorem dX7_strikes_79 : decode cX7_strikes 79 = .ok (.iconst 1, 1) := by decide +kernel
theorem dX7_strikes_80 : decode cX7_strikes 80 = .ok (.isub, 1) := by decide +kernel
theorem dX7_strikes_81 : decode cX7_strikes 81 = .ok (.iaload, 1) := by decide +kernel
theorem dX7_strikes_82 : decode cX7_strikes 82 = .ok (.istore_n 2, 1) := by decide +kernel
theorem dX7_strikes_83 : decode cX7_strikes 83 = .ok (.aload_n 0, 1) := by decide +kernel
theorem dX7_strikes_84 : decode cX7_strikes 84 = .ok (.getfield 7, 3) := by decide +kernel
theorem dX7_strikes_87 : decode cX7_strikes 87 = .ok (.iconst 0, 1) := by decide +kernel
theorem dX7_strikes_88 : decode cX7_strikes 88 = .ok (.dup2, 1) := by decide +kernel
theorem dX7_strikes_89 : decode cX7_strikes 89 = .ok (.iaload, 1) := by decide +kernel
theorem dX7_strikes_90 : decode cX7_strikes 90 = .ok (.iload_n 2, 1) := by decide +kernel
theorem dX7_strikes_91 : decode cX7_strikes 91 = .ok (.isub, 1) := by decide +kernel
theorem dX7_strikes_92 : decode cX7_strikes 92 = .ok (.iastore, 1) := by decide +kernel
theorem dX7_strikes_93 : decode cX7_strikes 93 = .ok (.aload_n 0, 1) := by decide +kernel
theorem dX7_strikes_94 : decode cX7_strikes 94 = .ok (.getfield 7, 3) := by decide +kernel
theorem dX7_strikes_97 : decode cX7_strikes 97 = .ok (.iconst 5, 1) := by decide +kernel
theorem dX7_strikes_98 : decode cX7_strikes 98 = .ok (.dup2, 1) := by decide +kernel
theorem dX7_strikes_99 : decode cX7_strikes 99 = .ok (.iaload, 1) := by decide +kernel
theorem dX7_strikes_100 : decode cX7_strikes 100 = .ok (.iload_n 2, 1) := by decide +kernel
theorem dX7_strikes_101 : decode cX7_strikes 101 = .ok (.iadd, 1) := by decide +kernel
theorem dX7_strikes_102 : decode cX7_strikes 102 = .ok (.iastore, 1) := by decide +kernel
theorem dX7_strikes_103 : decode cX7_strikes 103 = .ok (.aload_n 0, 1) := by decide +kernel
theorem dX7_strikes_104 : decode cX7_strikes 104 = .ok (.getfield 7, 3) := by decide +kernel
theorem dX7_strikes_107 : decode cX7_strikes 107 = .ok (.bipush 6, 2) := by decide +kernel
theorem dX7_strikes_109 : decode cX7_strikes 109 = .ok (.dup2, 1) := by decide +kernel
theorem dX7_strikes_110 : decode cX7_strikes 110 = .ok (.iaload, 1) := by decide +kernel
theorem dX7_strikes_111 : decode cX7_strikes 111 = .ok (.iconst 1, 1) := by decide +kernel
theorem dX7_strikes_112 : decode cX7_strikes 112 = .ok (.iadd, 1) := by decide +kernel
theorem dX7_strikes_113 : decode cX7_strikes 113 = .ok (.iastore, 1) := by decide +kernel
theorem dX7_strikes_114 : decode cX7_strikes 114 = .ok (.return_, 1) := by decide +kernel
theorem dX7_strike_0 : decode cX7_strike 0 = .ok (.aload_n 0, 1) := by decide +kernel
theorem dX7_strike_1 : decode cX7_strike 1 = .ok (.iload_n 1, 1) := by decide +kernel
theorem dX7_strike_2 : decode cX7_strike 2 = .ok (.iconst 0, 1) := by decide +kernel
theorem dX7_strike_3 : decode cX7_strike 3 = .ok (.sipush 1023, 3) := by decide +kernel
theorem dX7_strike_6 : decode cX7_strike 6 = .ok (.invokestatic 38, 3) := by decide +kernel
theorem dX7_strike_9 : decode cX7_strike 9 = .ok (.ifCond .ne 7, 3) := by decide +kernel
theorem dX7_strike_12 : decode cX7_strike 12 = .ok (.iconst 1, 1) := by decide +kernel
theorem dX7_strike_13 : decode cX7_strike 13 = .ok (.goto 16, 3) := by decide +kernel
theorem dX7_strike_16 : decode cX7_strike 16 = .ok (.aload_n 0, 1) := by decide +kernel
theorem dX7_strike_17 : decode cX7_strike 17 = .ok (.iload_n 1, 1) := by decide +kernel
theorem dX7_strike_18 : decode cX7_strike 18 = .ok (.invokevirtual 76, 3) := by decide +kernel
theorem dX7_strike_21 : decode cX7_strike 21 = .ok (.ifCond .ne 7, 3) := by decide +kernel
theorem dX7_strike_24 : decode cX7_strike 24 = .ok (.iconst 2, 1) := by decide +kernel
theorem dX7_strike_25 : decode cX7_strike 25 = .ok (.goto 4, 3) := by decide +kernel
theorem dX7_strike_28 : decode cX7_strike 28 = .ok (.iconst 0, 1) := by decide +kernel
theorem dX7_strike_29 : decode cX7_strike 29 = .ok (.invokevirtual 79, 3) := by decide +kernel
theorem dX7_strike_32 : decode cX7_strike 32 = .ok (.ifCond .ne 5, 3) := by decide +kernel
theorem dX7_strike_35 : decode cX7_strike 35 = .ok (.iconst 0, 1) := by decide +kernel
theorem dX7_strike_36 : decode cX7_strike 36 = .ok (.ireturn, 1) := by decide +kernel
theorem dX7_strike_37 : decode cX7_strike 37 = .ok (.aload_n 0, 1) := by decide +kernel
theorem dX7_strike_38 : decode cX7_strike 38 = .ok (.invokevirtual 82, 3) := by decide +kernel
theorem dX7_strike_41 : decode cX7_strike 41 = .ok (.aload_n 0, 1) := by decide +kernel
theorem dX7_strike_42 : decode cX7_strike 42 = .ok (.iload_n 1, 1) := by decide +kernel
theorem dX7_strike_43 : decode cX7_strike 43 = .ok (.invokevirtual 85, 3) := by decide +kernel
theorem dX7_strike_46 : decode cX7_strike 46 = .ok (.aload_n 0, 1) := by decide +kernel
theorem dX7_strike_47 : decode cX7_strike 47 = .ok (.invokevirtual 73, 3) := by decide +kernel
theorem dX7_strike_50 : decode cX7_strike 50 = .ok (.aload_n 0, 1) := by decide +kernel
theorem dX7_strike_51 : decode cX7_strike 51 = .ok (.getfield 64, 3) := by decide +kernel
theorem dX7_strike_54 : decode cX7_strike 54 = .ok (.ireturn, 1) := by decide +kernel
theorem dX7_play_0 : decode cX7_play 0 = .ok (.aload_n 0, 1) := by decide +kernel
theorem dX7_play_1 : decode cX7_play 1 = .ok (.aload_n 0, 1) := by decide +kernel
theorem dX7_play_2 : decode cX7_play 2 = .ok (.invokevirtual 89, 3) := by decide +kernel
theorem dX7_play_5 : decode cX7_play 5 = .ok (.ifCond .eq 7, 3) := by decide +kernel
theorem dX7_play_8 : decode cX7_play 8 = .ok (.iconst 0, 1) := by decide +kernel
theorem dX7_play_9 : decode cX7_play 9 = .ok (.goto 4, 3) := by decide +kernel
theorem dX7_play_12 : decode cX7_play 12 = .ok (.iconst 1, 1) := by decide +kernel
theorem dX7_play_13 : decode cX7_play 13 = .ok (.invokevirtual 79, 3) := by decide +kernel
theorem dX7_play_16 : decode cX7_play 16 = .ok (.ifCond .ne 5, 3) := by decide +kernel
theorem dX7_play_19 : decode cX7_play 19 = .ok (.iconst 0, 1) := by decide +kernel
theorem dX7_play_20 : decode cX7_play 20 = .ok (.ireturn, 1) := by decide +kernel
theorem dX7_play_21 : decode cX7_play 21 = .ok (.aload_n 0, 1) := by decide +kernel
theorem dX7_play_22 : decode cX7_play 22 = .ok (.invokevirtual 82, 3) := by decide +kernel
theorem dX7_play_25 : decode cX7_play 25 = .ok (.iconst 0, 1) := by decide +kernel
theorem dX7_play_26 : decode cX7_play 26 = .ok (.istore_n 1, 1) := by decide +kernel
theorem dX7_play_27 : decode cX7_play 27 = .ok (.iload_n 1, 1) := by decide +kernel
theorem dX7_play_28 : decode cX7_play 28 = .ok (.aload_n 0, 1) := by decide +kernel
theorem dX7_play_29 : decode cX7_play 29 = .ok (.getfield 93, 3) := by decide +kernel
theorem dX7_play_32 : decode cX7_play 32 = .ok (.if_icmp .ge 32, 3) := by decide +kernel
theorem dX7_play_35 : decode cX7_play 35 = .ok (.aload_n 0, 1) := by decide +kernel
theorem dX7_play_36 : decode cX7_play 36 = .ok (.aload_n 0, 1) := by decide +kernel
theorem dX7_play_37 : decode cX7_play 37 = .ok (.getfield 16, 3) := by decide +kernel
theorem dX7_play_40 : decode cX7_play 40 = .ok (.iload_n 1, 1) := by decide +kernel
theorem dX7_play_41 : decode cX7_play 41 = .ok (.iaload, 1) := by decide +kernel
theorem dX7_play_42 : decode cX7_play 42 = .ok (.invokevirtual 76, 3) := by decide +kernel
theorem dX7_play_45 : decode cX7_play 45 = .ok (.ifCond .eq 19, 3) := by decide +kernel
theorem dX7_play_48 : decode cX7_play 48 = .ok (.aload_n 0, 1) := by decide +kernel
theorem dX7_play_49 : decode cX7_play 49 = .ok (.aload_n 0, 1) := by decide +kernel
theorem dX7_play_50 : decode cX7_play 50 = .ok (.getfield 16, 3) := by decide +kernel
theorem dX7_play_53 : decode cX7_play 53 = .ok (.iload_n 1, 1) := by decide +kernel
theorem dX7_play_54 : decode cX7_play 54 = .ok (.iaload, 1) := by decide +kernel
theorem dX7_play_55 : decode cX7_play 55 = .ok (.invokevirtual 85, 3) := by decide +kernel
theorem dX7_play_58 : decode cX7_play 58 = .ok (.iinc 1 1, 3) := by decide +kernel
theorem dX7_play_61 : decode cX7_play 61 = .ok (.goto (-34), 3) := by decide +kernel
theorem dX7_play_64 : decode cX7_play 64 = .ok (.aload_n 0, 1) := by decide +kernel
theorem dX7_play_65 : decode cX7_play 65 = .ok (.iconst 0, 1) := by decide +kernel
theorem dX7_play_66 : decode cX7_play 66 = .ok (.putfield 96, 3) := by decide +kernel
theorem dX7_play_69 : decode cX7_play 69 = .ok (.iload_n 1, 1) := by decide +kernel
theorem dX7_play_70 : decode cX7_play 70 = .ok (.ireturn, 1) := by decide +kernel
theorem dX7_tear_0 : decode cX7_tear 0 = .ok (.aload_n 0, 1) := by decide +kernel
theorem dX7_tear_1 : decode cX7_tear 1 = .ok (.iconst 0, 1) := by decide +kernel
theorem dX7_tear_2 : decode cX7_tear 2 = .ok (.putfield 34, 3) := by decide +kernel
theorem dX7_tear_5 : decode cX7_tear 5 = .ok (.aload_n 0, 1) := by decide +kernel
theorem dX7_tear_6 : decode cX7_tear 6 = .ok (.invokevirtual 82, 3) := by decide +kernel
theorem dX7_tear_9 : decode cX7_tear 9 = .ok (.aload_n 0, 1) := by decide +kernel
theorem dX7_tear_10 : decode cX7_tear 10 = .ok (.getfield 7, 3) := by decide +kernel
theorem dX7_tear_13 : decode cX7_tear 13 = .ok (.iconst 0, 1) := by decide +kernel
theorem dX7_tear_14 : decode cX7_tear 14 = .ok (.iaload, 1) := by decide +kernel
theorem dX7_tear_15 : decode cX7_tear 15 = .ok (.istore_n 1, 1) := by decide +kernel
theorem dX7_tear_16 : decode cX7_tear 16 = .ok (.aload_n 0, 1) := by decide +kernel
theorem dX7_tear_17 : decode cX7_tear 17 = .ok (.getfield 7, 3) := by decide +kernel
theorem dX7_tear_20 : decode cX7_tear 20 = .ok (.iconst 0, 1) := by decide +kernel
theorem dX7_tear_21 : decode cX7_tear 21 = .ok (.iconst 0, 1) := by decide +kernel
theorem dX7_tear_22 : decode cX7_tear 22 = .ok (.iastore, 1) := by decide +kernel
theorem dX7_tear_23 : decode cX7_tear 23 = .ok (.iload_n 1, 1) := by decide +kernel
theorem dX7_tear_24 : decode cX7_tear 24 = .ok (.ireturn, 1) := by decide +kernel
theorem dX7_pick_0 : decode cX7_pick 0 = .ok (.aload_n 0, 1) := by decide +kernel
theorem dX7_pick_1 : decode cX7_pick 1 = .ok (.invokevirtual 73, 3) := by decide +kernel
theorem dX7_pick_4 : decode cX7_pick 4 = .ok (.iload_n 1, 1) := by decide +kernel
theorem dX7_pick_5 : decode cX7_pick 5 = .ok (.iconst 0, 1) := by decide +kernel
theorem dX7_pick_6 : decode cX7_pick 6 = .ok (.aload_n 0, 1) := by decide +kernel
theorem dX7_pick_7 : decode cX7_pick 7 = .ok (.getfield 64, 3) := by decide +kernel
theorem dX7_pick_10 : decode cX7_pick 10 = .ok (.iconst 1, 1) := by decide +kernel
theorem dX7_pick_11 : decode cX7_pick 11 = .ok (.isub, 1) := by decide +kernel
theorem dX7_pick_12 : decode cX7_pick 12 = .ok (.invokestatic 38, 3) := by decide +kernel
theorem dX7_pick_15 : decode cX7_pick 15 = .ok (.ifCond .eq 15, 3) := by decide +kernel
theorem dX7_pick_18 : decode cX7_pick 18 = .ok (.aload_n 0, 1) := by decide +kernel
theorem dX7_pick_19 : decode cX7_pick 19 = .ok (.iload_n 2, 1) := by decide +kernel
theorem dX7_pick_20 : decode cX7_pick 20 = .ok (.invokevirtual 99, 3) := by decide +kernel
theorem dX7_pick_23 : decode cX7_pick 23 = .ok (.ifCond .eq 7, 3) := by decide +kernel
theorem dX7_pick_26 : decode cX7_pick 26 = .ok (.iconst 1, 1) := by decide +kernel
theorem dX7_pick_27 : decode cX7_pick 27 = .ok (.goto 4, 3) := by decide +kernel
theorem dX7_pick_30 : decode cX7_pick 30 = .ok (.iconst 0, 1) := by decide +kernel
theorem dX7_pick_31 : decode cX7_pick 31 = .ok (.istore_n 3, 1) := by decide +kernel
theorem dX7_pick_32 : decode cX7_pick 32 = .ok (.iload_n 3, 1) := by decide +kernel
theorem dX7_pick_33 : decode cX7_pick 33 = .ok (.ifCond .eq 36, 3) := by decide +kernel
theorem dX7_pick_36 : decode cX7_pick 36 = .ok (.aload_n 0, 1) := by decide +kernel
theorem dX7_pick_37 : decode cX7_pick 37 = .ok (.getfield 25, 3) := by decide +kernel
theorem dX7_pick_40 : decode cX7_pick 40 = .ok (.iload_n 1, 1) := by decide +kernel
theorem dX7_pick_41 : decode cX7_pick 41 = .ok (.iaload, 1) := by decide +kernel
theorem dX7_pick_42 : decode cX7_pick 42 = .ok (.aload_n 0, 1) := by decide +kernel
theorem dX7_pick_43 : decode cX7_pick 43 = .ok (.iload_n 2, 1) := by decide +kernel
theorem dX7_pick_44 : decode cX7_pick 44 = .ok (.iconst 0, 1) := by decide +kernel
theorem dX7_pick_45 : decode cX7_pick 45 = .ok (.invokevirtual 42, 3) := by decide +kernel
theorem dX7_pick_48 : decode cX7_pick 48 = .ok (.if_icmp .ne 21, 3) := by decide +kernel
theorem dX7_pick_51 : decode cX7_pick 51 = .ok (.aload_n 0, 1) := by decide +kernel
theorem dX7_pick_52 : decode cX7_pick 52 = .ok (.iload_n 2, 1) := by decide +kernel
theorem dX7_pick_53 : decode cX7_pick 53 = .ok (.aload_n 0, 1) := by decide +kernel
theorem dX7_pick_54 : decode cX7_pick 54 = .ok (.getfield 22, 3) := by decide +kernel
theorem dX7_pick_57 : decode cX7_pick 57 = .ok (.iload_n 1, 1) := by decide +kernel
theorem dX7_pick_58 : decode cX7_pick 58 = .ok (.iaload, 1) := by decide +kernel
theorem dX7_pick_59 : decode cX7_pick 59 = .ok (.invokevirtual 57, 3) := by decide +kernel
theorem dX7_pick_62 : decode cX7_pick 62 = .ok (.ifCond .eq 7, 3) := by decide +kernel
theorem dX7_pick_65 : decode cX7_pick 65 = .ok (.iconst 1, 1) := by decide +kernel
theorem dX7_pick_66 : decode cX7_pick 66 = .ok (.goto 4, 3) := by decide +kernel
theorem dX7_pick_69 : decode cX7_pick 69 = .ok (.iconst 0, 1) := by decide +kernel
theorem dX7_pick_70 : decode cX7_pick 70 = .ok (.istore 4, 2) := by decide +kernel
theorem dX7_pick_72 : decode cX7_pick 72 = .ok (.aload_n 0, 1) := by decide +kernel
theorem dX7_pick_73 : decode cX7_pick 73 = .ok (.iload_n 3, 1) := by decide +kernel
theorem dX7_pick_74 : decode cX7_pick 74 = .ok (.ifCond .ne 7, 3) := by decide +kernel
theorem dX7_pick_77 : decode cX7_pick 77 = .ok (.iconst 1, 1) := by decide +kernel
theorem dX7_pick_78 : decode cX7_pick 78 = .ok (.goto 13, 3) := by decide +kernel
theorem dX7_pick_81 : decode cX7_pick 81 = .ok (.iload 4, 2) := by decide +kernel
theorem dX7_pick_83 : decode cX7_pick 83 = .ok (.ifCond .ne 7, 3) := by decide +kernel
theorem dX7_pick_86 : decode cX7_pick 86 = .ok (.iconst 2, 1) := by decide +kernel
theorem dX7_pick_87 : decode cX7_pick 87 = .ok (.goto 4, 3) := by decide +kernel
theorem dX7_pick_90 : decode cX7_pick 90 = .ok (.iconst 0, 1) := by decide +kernel
theorem dX7_pick_91 : decode cX7_pick 91 = .ok (.invokevirtual 79, 3) := by decide +kernel
theorem dX7_pick_94 : decode cX7_pick 94 = .ok (.ifCond .ne 5, 3) := by decide +kernel
theorem dX7_pick_97 : decode cX7_pick 97 = .ok (.iconst 0, 1) := by decide +kernel
theorem dX7_pick_98 : decode cX7_pick 98 = .ok (.ireturn, 1) := by decide +kernel
theorem dX7_pick_99 : decode cX7_pick 99 = .ok (.aload_n 0, 1) := by decide +kernel
theorem dX7_pick_100 : decode cX7_pick 100 = .ok (.invokevirtual 82, 3) := by decide +kernel
theorem dX7_pick_103 : decode cX7_pick 103 = .ok (.aload_n 0, 1) := by decide +kernel
theorem dX7_pick_104 : decode cX7_pick 104 = .ok (.iload_n 2, 1) := by decide +kernel
theorem dX7_pick_105 : decode cX7_pick 105 = .ok (.bipush 6, 2) := by decide +kernel
theorem dX7_pick_107 : decode cX7_pick 107 = .ok (.aload_n 0, 1) := by decide +kernel
theorem dX7_pick_108 : decode cX7_pick 108 = .ok (.iload_n 2, 1) := by decide +kernel
theorem dX7_pick_109 : decode cX7_pick 109 = .ok (.bipush 6, 2) := by decide +kernel
theorem dX7_pick_111 : decode cX7_pick 111 = .ok (.invokevirtual 42, 3) := by decide +kernel
theorem dX7_pick_114 : decode cX7_pick 114 = .ok (.iconst 1, 1) := by decide +kernel
theorem dX7_pick_115 : decode cX7_pick 115 = .ok (.iadd, 1) := by decide +kernel
theorem dX7_pick_116 : decode cX7_pick 116 = .ok (.invokevirtual 102, 3) := by decide +kernel
theorem dX7_pick_119 : decode cX7_pick 119 = .ok (.aload_n 0, 1) := by decide +kernel
theorem dX7_pick_120 : decode cX7_pick 120 = .ok (.iload_n 2, 1) := by decide +kernel
theorem dX7_pick_121 : decode cX7_pick 121 = .ok (.bipush 6, 2) := by decide +kernel
theorem dX7_pick_123 : decode cX7_pick 123 = .ok (.invokevirtual 42, 3) := by decide +kernel
theorem dX7_pick_126 : decode cX7_pick 126 = .ok (.ireturn, 1) := by decide +kernel
theorem dX7_copies_0 : decode cX7_copies 0 = .ok (.iconst 0, 1) := by decide +kernel
theorem dX7_copies_1 : decode cX7_copies 1 = .ok (.istore_n 3, 1) := by decide +kernel
theorem dX7_copies_2 : decode cX7_copies 2 = .ok (.iload_n 3, 1) := by decide +kernel
theorem dX7_copies_3 : decode cX7_copies 3 = .ok (.sipush 236, 3) := by decide +kernel
theorem dX7_copies_6 : decode cX7_copies 6 = .ok (.if_icmp .ge 33, 3) := by decide +kernel
theorem dX7_copies_9 : decode cX7_copies 9 = .ok (.aload_n 0, 1) := by decide +kernel
theorem dX7_copies_10 : decode cX7_copies 10 = .ok (.getfield 7, 3) := by decide +kernel
theorem dX7_copies_13 : decode cX7_copies 13 = .ok (.sipush 236, 3) := by decide +kernel
theorem dX7_copies_16 : decode cX7_copies 16 = .ok (.iload_n 2, 1) := by decide +kernel
theorem dX7_copies_17 : decode cX7_copies 17 = .ok (.imul, 1) := by decide +kernel
theorem dX7_copies_18 : decode cX7_copies 18 = .ok (.iload_n 3, 1) := by decide +kernel
theorem dX7_copies_19 : decode cX7_copies 19 = .ok (.iadd, 1) := by decide +kernel
theorem dX7_copies_20 : decode cX7_copies 20 = .ok (.aload_n 0, 1) := by decide +kernel
theorem dX7_copies_21 : decode cX7_copies 21 = .ok (.getfield 7, 3) := by decide +kernel
theorem dX7_copies_24 : decode cX7_copies 24 = .ok (.sipush 236, 3) := by decide +kernel
theorem dX7_copies_27 : decode cX7_copies 27 = .ok (.iload_n 1, 1) := by decide +kernel
theorem dX7_copies_28 : decode cX7_copies 28 = .ok (.imul, 1) := by decide +kernel
theorem dX7_copies_29 : decode cX7_copies 29 = .ok (.iload_n 3, 1) := by decide +kernel
theorem dX7_copies_30 : decode cX7_copies 30 = .ok (.iadd, 1) := by decide +kernel
theorem dX7_copies_31 : decode cX7_copies 31 = .ok (.iaload, 1) := by decide +kernel
theorem dX7_copies_32 : decode cX7_copies 32 = .ok (.iastore, 1) := by decide +kernel
theorem dX7_copies_33 : decode cX7_copies 33 = .ok (.iinc 3 1, 3) := by decide +kernel
theorem dX7_copies_36 : decode cX7_copies 36 = .ok (.goto (-34), 3) := by decide +kernel
theorem dX7_copies_39 : decode cX7_copies 39 = .ok (.return_, 1) := by decide +kernel
theorem dX7_save_0 : decode cX7_save 0 = .ok (.iconst 1, 1) := by decide +kernel
theorem dX7_save_1 : decode cX7_save 1 = .ok (.istore_n 1, 1) := by decide +kernel
theorem dX7_save_2 : decode cX7_save 2 = .ok (.iload_n 1, 1) := by decide +kernel
theorem dX7_save_3 : decode cX7_save 3 = .ok (.bipush 6, 2) := by decide +kernel
theorem dX7_save_5 : decode cX7_save 5 = .ok (.if_icmp .ge 26, 3) := by decide +kernel
theorem dX7_save_8 : decode cX7_save 8 = .ok (.aload_n 0, 1) := by decide +kernel
theorem dX7_save_9 : decode cX7_save 9 = .ok (.getfield 106, 3) := by decide +kernel
theorem dX7_save_12 : decode cX7_save 12 = .ok (.bipush 6, 2) := by decide +kernel
theorem dX7_save_14 : decode cX7_save 14 = .ok (.if_icmp .ne 17, 3) := by decide +kernel
theorem dX7_save_17 : decode cX7_save 17 = .ok (.aload_n 0, 1) := by decide +kernel
theorem dX7_save_18 : decode cX7_save 18 = .ok (.iload_n 1, 1) := by decide +kernel
theorem dX7_save_19 : decode cX7_save 19 = .ok (.iconst 1, 1) := by decide +kernel
theorem dX7_save_20 : decode cX7_save 20 = .ok (.iadd, 1) := by decide +kernel
theorem dX7_save_21 : decode cX7_save 21 = .ok (.iload_n 1, 1) := by decide +kernel
theorem dX7_save_22 : decode cX7_save 22 = .ok (.invokevirtual 109, 3) := by decide +kernel
theorem dX7_save_25 : decode cX7_save 25 = .ok (.iinc 1 1, 3) := by decide +kernel
theorem dX7_save_28 : decode cX7_save 28 = .ok (.goto (-26), 3) := by decide +kernel
theorem dX7_save_31 : decode cX7_save 31 = .ok (.aload_n 0, 1) := by decide +kernel
theorem dX7_save_32 : decode cX7_save 32 = .ok (.dup, 1) := by decide +kernel
theorem dX7_save_33 : decode cX7_save 33 = .ok (.getfield 106, 3) := by decide +kernel
theorem dX7_save_36 : decode cX7_save 36 = .ok (.aload_n 0, 1) := by decide +kernel
theorem dX7_save_37 : decode cX7_save 37 = .ok (.getfield 106, 3) := by decide +kernel
theorem dX7_save_40 : decode cX7_save 40 = .ok (.bipush 6, 2) := by decide +kernel
theorem dX7_save_42 : decode cX7_save 42 = .ok (.if_icmp .ge 7, 3) := by decide +kernel
theorem dX7_save_45 : decode cX7_save 45 = .ok (.iconst 1, 1) := by decide +kernel
theorem dX7_save_46 : decode cX7_save 46 = .ok (.goto 4, 3) := by decide +kernel
theorem dX7_save_49 : decode cX7_save 49 = .ok (.iconst 0, 1) := by decide +kernel
theorem dX7_save_50 : decode cX7_save 50 = .ok (.iadd, 1) := by decide +kernel
theorem dX7_save_51 : decode cX7_save 51 = .ok (.putfield 106, 3) := by decide +kernel
theorem dX7_save_54 : decode cX7_save 54 = .ok (.aload_n 0, 1) := by decide +kernel
theorem dX7_save_55 : decode cX7_save 55 = .ok (.iconst 0, 1) := by decide +kernel
theorem dX7_save_56 : decode cX7_save 56 = .ok (.aload_n 0, 1) := by decide +kernel
theorem dX7_save_57 : decode cX7_save 57 = .ok (.getfield 106, 3) := by decide +kernel
theorem dX7_save_60 : decode cX7_save 60 = .ok (.invokevirtual 109, 3) := by decide +kernel
theorem dX7_save_63 : decode cX7_save 63 = .ok (.return_, 1) := by decide +kernel
theorem dX7_hasAsterisk_0 : decode cX7_hasAsterisk 0 = .ok (.iconst 0, 1) := by decide +kernel
theorem dX7_hasAsterisk_1 : decode cX7_hasAsterisk 1 = .ok (.istore_n 1, 1) := by decide +kernel
theorem dX7_hasAsterisk_2 : decode cX7_hasAsterisk 2 = .ok (.iconst 0, 1) := by decide +kernel
theorem dX7_hasAsterisk_3 : decode cX7_hasAsterisk 3 = .ok (.istore_n 2, 1) := by decide +kernel
theorem dX7_hasAsterisk_4 : decode cX7_hasAsterisk 4 = .ok (.iload_n 2, 1) := by decide +kernel
theorem dX7_hasAsterisk_5 : decode cX7_hasAsterisk 5 = .ok (.aload_n 0, 1) := by decide +kernel
theorem dX7_hasAsterisk_6 : decode cX7_hasAsterisk 6 = .ok (.getfield 93, 3) := by decide +kernel
theorem dX7_hasAsterisk_9 : decode cX7_hasAsterisk 9 = .ok (.if_icmp .ge 28, 3) := by decide +kernel
theorem dX7_hasAsterisk_12 : decode cX7_hasAsterisk 12 = .ok (.iload_n 1, 1) := by decide +kernel
theorem dX7_hasAsterisk_13 : decode cX7_hasAsterisk 13 = .ok (.ifCond .ne 12, 3) := by decide +kernel
theorem dX7_hasAsterisk_16 : decode cX7_hasAsterisk 16 = .ok (.aload_n 0, 1) := by decide +kernel
theorem dX7_hasAsterisk_17 : decode cX7_hasAsterisk 17 = .ok (.getfield 16, 3) := by decide +kernel
theorem dX7_hasAsterisk_20 : decode cX7_hasAsterisk 20 = .ok (.iload_n 2, 1) := by decide +kernel
theorem dX7_hasAsterisk_21 : decode cX7_hasAsterisk 21 = .ok (.iaload, 1) := by decide +kernel
theorem dX7_hasAsterisk_22 : decode cX7_hasAsterisk 22 = .ok (.ifCond .ne 7, 3) := by decide +kernel
theorem dX7_hasAsterisk_25 : decode cX7_hasAsterisk 25 = .ok (.iconst 1, 1) := by decide +kernel
theorem dX7_hasAsterisk_26 : decode cX7_hasAsterisk 26 = .ok (.goto 4, 3) := by decide +kernel
theorem dX7_hasAsterisk_29 : decode cX7_hasAsterisk 29 = .ok (.iconst 0, 1) := by decide +kernel
theorem dX7_hasAsterisk_30 : decode cX7_hasAsterisk 30 = .ok (.istore_n 1, 1) := by decide +kernel
theorem dX7_hasAsterisk_31 : decode cX7_hasAsterisk 31 = .ok (.iinc 2 1, 3) := by decide +kernel
theorem dX7_hasAsterisk_34 : decode cX7_hasAsterisk 34 = .ok (.goto (-30), 3) := by decide +kernel
theorem dX7_hasAsterisk_37 : decode cX7_hasAsterisk 37 = .ok (.iload_n 1, 1) := by decide +kernel
theorem dX7_hasAsterisk_38 : decode cX7_hasAsterisk 38 = .ok (.ireturn, 1) := by decide +kernel
theorem dX7_isThere_0 : decode cX7_isThere 0 = .ok (.iconst 0, 1) := by decide +kernel
theorem dX7_isThere_1 : decode cX7_isThere 1 = .ok (.istore_n 2, 1) := by decide +kernel
theorem dX7_isThere_2 : decode cX7_isThere 2 = .ok (.iconst 0, 1) := by decide +kernel
theorem dX7_isThere_3 : decode cX7_isThere 3 = .ok (.istore_n 3, 1) := by decide +kernel
theorem dX7_isThere_4 : decode cX7_isThere 4 = .ok (.iload_n 3, 1) := by decide +kernel
theorem dX7_isThere_5 : decode cX7_isThere 5 = .ok (.aload_n 0, 1) := by decide +kernel
theorem dX7_isThere_6 : decode cX7_isThere 6 = .ok (.getfield 7, 3) := by decide +kernel
theorem dX7_isThere_9 : decode cX7_isThere 9 = .ok (.iconst 1, 1) := by decide +kernel
theorem dX7_isThere_10 : decode cX7_isThere 10 = .ok (.iaload, 1) := by decide +kernel
theorem dX7_isThere_11 : decode cX7_isThere 11 = .ok (.if_icmp .ge 103, 3) := by decide +kernel
theorem dX7_isThere_14 : decode cX7_isThere 14 = .ok (.aload_n 0, 1) := by decide +kernel
theorem dX7_isThere_15 : decode cX7_isThere 15 = .ok (.iload_n 3, 1) := by decide +kernel
theorem dX7_isThere_16 : decode cX7_isThere 16 = .ok (.iconst 0, 1) := by decide +kernel
theorem dX7_isThere_17 : decode cX7_isThere 17 = .ok (.invokevirtual 42, 3) := by decide +kernel
theorem dX7_isThere_20 : decode cX7_isThere 20 = .ok (.aload_n 0, 1) := by decide +kernel
theorem dX7_isThere_21 : decode cX7_isThere 21 = .ok (.getfield 93, 3) := by decide +kernel
theorem dX7_isThere_24 : decode cX7_isThere 24 = .ok (.if_icmp .ne 17, 3) := by decide +kernel
theorem dX7_isThere_27 : decode cX7_isThere 27 = .ok (.aload_n 0, 1) := by decide +kernel
theorem dX7_isThere_28 : decode cX7_isThere 28 = .ok (.iload_n 3, 1) := by decide +kernel
theorem dX7_isThere_29 : decode cX7_isThere 29 = .ok (.iconst 5, 1) := by decide +kernel
theorem dX7_isThere_30 : decode cX7_isThere 30 = .ok (.invokevirtual 42, 3) := by decide +kernel
theorem dX7_isThere_33 : decode cX7_isThere 33 = .ok (.iload_n 1, 1) := by decide +kernel
theorem dX7_isThere_34 : decode cX7_isThere 34 = .ok (.if_icmp .ne 7, 3) := by decide +kernel
theorem dX7_isThere_37 : decode cX7_isThere 37 = .ok (.iconst 1, 1) := by decide +kernel
theorem dX7_isThere_38 : decode cX7_isThere 38 = .ok (.goto 4, 3) := by decide +kernel
theorem dX7_isThere_41 : decode cX7_isThere 41 = .ok (.iconst 0, 1) := by decide +kernel
theorem dX7_isThere_42 : decode cX7_isThere 42 = .ok (.istore 4, 2) := by decide +kernel
theorem dX7_isThere_44 : decode cX7_isThere 44 = .ok (.iconst 0, 1) := by decide +kernel
theorem dX7_isThere_45 : decode cX7_isThere 45 = .ok (.istore 5, 2) := by decide +kernel
theorem dX7_isThere_47 : decode cX7_isThere 47 = .ok (.iload 5, 2) := by decide +kernel
theorem dX7_isThere_49 : decode cX7_isThere 49 = .ok (.aload_n 0, 1) := by decide +kernel
theorem dX7_isThere_50 : decode cX7_isThere 50 = .ok (.getfield 93, 3) := by decide +kernel
theorem dX7_isThere_53 : decode cX7_isThere 53 = .ok (.if_icmp .ge 40, 3) := by decide +kernel
theorem dX7_isThere_56 : decode cX7_isThere 56 = .ok (.iload 4, 2) := by decide +kernel
theorem dX7_isThere_58 : decode cX7_isThere 58 = .ok (.ifCond .eq 35, 3) := by decide +kernel
theorem dX7_isThere_61 : decode cX7_isThere 61 = .ok (.aload_n 0, 1) := by decide +kernel
theorem dX7_isThere_62 : decode cX7_isThere 62 = .ok (.iload_n 3, 1) := by decide +kernel
theorem dX7_isThere_63 : decode cX7_isThere 63 = .ok (.iconst 1, 1) := by decide +kernel
theorem dX7_isThere_64 : decode cX7_isThere 64 = .ok (.iload 5, 2) := by decide +kernel
theorem dX7_isThere_66 : decode cX7_isThere 66 = .ok (.iadd, 1) := by decide +kernel
theorem dX7_isThere_67 : decode cX7_isThere 67 = .ok (.invokevirtual 42, 3) := by decide +kernel
theorem dX7_isThere_70 : decode cX7_isThere 70 = .ok (.aload_n 0, 1) := by decide +kernel
theorem dX7_isThere_71 : decode cX7_isThere 71 = .ok (.getfield 16, 3) := by decide +kernel
theorem dX7_isThere_74 : decode cX7_isThere 74 = .ok (.iload 5, 2) := by decide +kernel
theorem dX7_isThere_76 : decode cX7_isThere 76 = .ok (.iaload, 1) := by decide +kernel
theorem dX7_isThere_77 : decode cX7_isThere 77 = .ok (.if_icmp .ne 7, 3) := by decide +kernel
theorem dX7_isThere_80 : decode cX7_isThere 80 = .ok (.iconst 1, 1) := by decide +kernel
theorem dX7_isThere_81 : decode cX7_isThere 81 = .ok (.goto 4, 3) := by decide +kernel
theorem dX7_isThere_84 : decode cX7_isThere 84 = .ok (.iconst 0, 1) := by decide +kernel
theorem dX7_isThere_85 : decode cX7_isThere 85 = .ok (.istore 4, 2) := by decide +kernel
theorem dX7_isThere_87 : decode cX7_isThere 87 = .ok (.iinc 5 1, 3) := by decide +kernel
theorem dX7_isThere_90 : decode cX7_isThere 90 = .ok (.goto (-43), 3) := by decide +kernel
theorem dX7_isThere_93 : decode cX7_isThere 93 = .ok (.iload_n 2, 1) := by decide +kernel
theorem dX7_isThere_94 : decode cX7_isThere 94 = .ok (.ifCond .ne 8, 3) := by decide +kernel
theorem dX7_isThere_97 : decode cX7_isThere 97 = .ok (.iload 4, 2) := by decide +kernel
theorem dX7_isThere_99 : decode cX7_isThere 99 = .ok (.ifCond .eq 7, 3) := by decide +kernel
theorem dX7_isThere_102 : decode cX7_isThere 102 = .ok (.iconst 1, 1) := by decide +kernel
theorem dX7_isThere_103 : decode cX7_isThere 103 = .ok (.goto 4, 3) := by decide +kernel
theorem dX7_isThere_106 : decode cX7_isThere 106 = .ok (.iconst 0, 1) := by decide +kernel
theorem dX7_isThere_107 : decode cX7_isThere 107 = .ok (.istore_n 2, 1) := by decide +kernel
theorem dX7_isThere_108 : decode cX7_isThere 108 = .ok (.iinc 3 1, 3) := by decide +kernel
theorem dX7_isThere_111 : decode cX7_isThere 111 = .ok (.goto (-107), 3) := by decide +kernel
theorem dX7_isThere_114 : decode cX7_isThere 114 = .ok (.iload_n 2, 1) := by decide +kernel
theorem dX7_isThere_115 : decode cX7_isThere 115 = .ok (.ireturn, 1) := by decide +kernel
theorem dX7_define_0 : decode cX7_define 0 = .ok (.iload_n 1, 1) := by decide +kernel
theorem dX7_define_1 : decode cX7_define 1 = .ok (.iconst 0, 1) := by decide +kernel
theorem dX7_define_2 : decode cX7_define 2 = .ok (.bipush 99, 2) := by decide +kernel
theorem dX7_define_4 : decode cX7_define 4 = .ok (.invokestatic 38, 3) := by decide +kernel
theorem dX7_define_7 : decode cX7_define 7 = .ok (.ifCond .eq 29, 3) := by decide +kernel
theorem dX7_define_10 : decode cX7_define 10 = .ok (.aload_n 0, 1) := by decide +kernel
theorem dX7_define_11 : decode cX7_define 11 = .ok (.invokevirtual 89, 3) := by decide +kernel
theorem dX7_define_14 : decode cX7_define 14 = .ok (.ifCond .eq 22, 3) := by decide +kernel
theorem dX7_define_17 : decode cX7_define 17 = .ok (.aload_n 0, 1) := by decide +kernel
theorem dX7_define_18 : decode cX7_define 18 = .ok (.getfield 93, 3) := by decide +kernel
theorem dX7_define_21 : decode cX7_define 21 = .ok (.iconst 4, 1) := by decide +kernel
theorem dX7_define_22 : decode cX7_define 22 = .ok (.if_icmp .gt 14, 3) := by decide +kernel
theorem dX7_define_25 : decode cX7_define 25 = .ok (.aload_n 0, 1) := by decide +kernel
theorem dX7_define_26 : decode cX7_define 26 = .ok (.invokevirtual 113, 3) := by decide +kernel
theorem dX7_define_29 : decode cX7_define 29 = .ok (.ifCond .ne 7, 3) := by decide +kernel
theorem dX7_define_32 : decode cX7_define 32 = .ok (.iconst 1, 1) := by decide +kernel
theorem dX7_define_33 : decode cX7_define 33 = .ok (.goto 4, 3) := by decide +kernel
theorem dX7_define_36 : decode cX7_define 36 = .ok (.iconst 0, 1) := by decide +kernel
theorem dX7_define_37 : decode cX7_define 37 = .ok (.istore_n 2, 1) := by decide +kernel
theorem dX7_define_38 : decode cX7_define 38 = .ok (.aload_n 0, 1) := by decide +kernel
theorem dX7_define_39 : decode cX7_define 39 = .ok (.iload_n 2, 1) := by decide +kernel
theorem dX7_define_40 : decode cX7_define 40 = .ok (.ifCond .ne 7, 3) := by decide +kernel
theorem dX7_define_43 : decode cX7_define 43 = .ok (.iconst 1, 1) := by decide +kernel
theorem dX7_define_44 : decode cX7_define 44 = .ok (.goto 27, 3) := by decide +kernel
theorem dX7_define_47 : decode cX7_define 47 = .ok (.aload_n 0, 1) := by decide +kernel
theorem dX7_define_48 : decode cX7_define 48 = .ok (.getfield 7, 3) := by decide +kernel
theorem dX7_define_51 : decode cX7_define 51 = .ok (.iconst 1, 1) := by decide +kernel
theorem dX7_define_52 : decode cX7_define 52 = .ok (.iaload, 1) := by decide +kernel
theorem dX7_define_53 : decode cX7_define 53 = .ok (.bipush 24, 2) := by decide +kernel
theorem dX7_define_55 : decode cX7_define 55 = .ok (.if_icmp .eq 11, 3) := by decide +kernel
theorem dX7_define_58 : decode cX7_define 58 = .ok (.aload_n 0, 1) := by decide +kernel
theorem dX7_define_59 : decode cX7_define 59 = .ok (.iload_n 1, 1) := by decide +kernel
theorem dX7_define_60 : decode cX7_define 60 = .ok (.invokevirtual 116, 3) := by decide +kernel
theorem dX7_define_63 : decode cX7_define 63 = .ok (.ifCond .eq 7, 3) := by decide +kernel
theorem dX7_define_66 : decode cX7_define 66 = .ok (.iconst 2, 1) := by decide +kernel
theorem dX7_define_67 : decode cX7_define 67 = .ok (.goto 4, 3) := by decide +kernel
theorem dX7_define_70 : decode cX7_define 70 = .ok (.iconst 0, 1) := by decide +kernel
theorem dX7_define_71 : decode cX7_define 71 = .ok (.invokevirtual 79, 3) := by decide +kernel
theorem dX7_define_74 : decode cX7_define 74 = .ok (.ifCond .ne 5, 3) := by decide +kernel
theorem dX7_define_77 : decode cX7_define 77 = .ok (.iconst 0, 1) := by decide +kernel
theorem dX7_define_78 : decode cX7_define 78 = .ok (.ireturn, 1) := by decide +kernel
theorem dX7_define_79 : decode cX7_define 79 = .ok (.aload_n 0, 1) := by decide +kernel
theorem dX7_define_80 : decode cX7_define 80 = .ok (.invokevirtual 82, 3) := by decide +kernel
theorem dX7_define_83 : decode cX7_define 83 = .ok (.aload_n 0, 1) := by decide +kernel
theorem dX7_define_84 : decode cX7_define 84 = .ok (.getfield 7, 3) := by decide +kernel
theorem dX7_define_87 : decode cX7_define 87 = .ok (.iconst 1, 1) := by decide +kernel
theorem dX7_define_88 : decode cX7_define 88 = .ok (.iaload, 1) := by decide +kernel
theorem dX7_define_89 : decode cX7_define 89 = .ok (.istore_n 3, 1) := by decide +kernel
theorem dX7_define_90 : decode cX7_define 90 = .ok (.aload_n 0, 1) := by decide +kernel
theorem dX7_define_91 : decode cX7_define 91 = .ok (.iload_n 3, 1) := by decide +kernel
theorem dX7_define_92 : decode cX7_define 92 = .ok (.iconst 0, 1) := by decide +kernel
theorem dX7_define_93 : decode cX7_define 93 = .ok (.aload_n 0, 1) := by decide +kernel
theorem dX7_define_94 : decode cX7_define 94 = .ok (.getfield 93, 3) := by decide +kernel
theorem dX7_define_97 : decode cX7_define 97 = .ok (.invokevirtual 102, 3) := by decide +kernel
theorem dX7_define_100 : decode cX7_define 100 = .ok (.iconst 0, 1) := by decide +kernel
theorem dX7_define_101 : decode cX7_define 101 = .ok (.istore 4, 2) := by decide +kernel
theorem dX7_define_103 : decode cX7_define 103 = .ok (.iload 4, 2) := by decide +kernel
theorem dX7_define_105 : decode cX7_define 105 = .ok (.iconst 4, 1) := by decide +kernel
theorem dX7_define_106 : decode cX7_define 106 = .ok (.if_icmp .ge 38, 3) := by decide +kernel
theorem dX7_define_109 : decode cX7_define 109 = .ok (.aload_n 0, 1) := by decide +kernel
theorem dX7_define_110 : decode cX7_define 110 = .ok (.iload_n 3, 1) := by decide +kernel
theorem dX7_define_111 : decode cX7_define 111 = .ok (.iconst 1, 1) := by decide +kernel
theorem dX7_define_112 : decode cX7_define 112 = .ok (.iload 4, 2) := by decide +kernel
theorem dX7_define_114 : decode cX7_define 114 = .ok (.iadd, 1) := by decide +kernel
theorem dX7_define_115 : decode cX7_define 115 = .ok (.iload 4, 2) := by decide +kernel
theorem dX7_define_117 : decode cX7_define 117 = .ok (.aload_n 0, 1) := by decide +kernel
theorem dX7_define_118 : decode cX7_define 118 = .ok (.getfield 93, 3) := by decide +kernel
theorem dX7_define_121 : decode cX7_define 121 = .ok (.if_icmp .ge 13, 3) := by decide +kernel
theorem dX7_define_124 : decode cX7_define 124 = .ok (.aload_n 0, 1) := by decide +kernel
theorem dX7_define_125 : decode cX7_define 125 = .ok (.getfield 16, 3) := by decide +kernel
theorem dX7_define_128 : decode cX7_define 128 = .ok (.iload 4, 2) := by decide +kernel
theorem dX7_define_130 : decode cX7_define 130 = .ok (.iaload, 1) := by decide +kernel
theorem dX7_define_131 : decode cX7_define 131 = .ok (.goto 4, 3) := by decide +kernel
theorem dX7_define_134 : decode cX7_define 134 = .ok (.iconst (-1), 1) := by decide +kernel
theorem dX7_define_135 : decode cX7_define 135 = .ok (.invokevirtual 102, 3) := by decide +kernel
theorem dX7_define_138 : decode cX7_define 138 = .ok (.iinc 4 1, 3) := by decide +kernel
theorem dX7_define_141 : decode cX7_define 141 = .ok (.goto (-38), 3) := by decide +kernel
theorem dX7_define_144 : decode cX7_define 144 = .ok (.aload_n 0, 1) := by decide +kernel
theorem dX7_define_145 : decode cX7_define 145 = .ok (.iload_n 3, 1) := by decide +kernel
theorem dX7_define_146 : decode cX7_define 146 = .ok (.iconst 5, 1) := by decide +kernel
theorem dX7_define_147 : decode cX7_define 147 = .ok (.iload_n 1, 1) := by decide +kernel
theorem dX7_define_148 : decode cX7_define 148 = .ok (.invokevirtual 102, 3) := by decide +kernel
theorem dX7_define_151 : decode cX7_define 151 = .ok (.aload_n 0, 1) := by decide +kernel
theorem dX7_define_152 : decode cX7_define 152 = .ok (.iload_n 3, 1) := by decide +kernel
theorem dX7_define_153 : decode cX7_define 153 = .ok (.bipush 6, 2) := by decide +kernel
theorem dX7_define_155 : decode cX7_define 155 = .ok (.iconst 0, 1) := by decide +kernel
theorem dX7_define_156 : decode cX7_define 156 = .ok (.invokevirtual 102, 3) := by decide +kernel
theorem dX7_define_159 : decode cX7_define 159 = .ok (.aload_n 0, 1) := by decide +kernel
theorem dX7_define_160 : decode cX7_define 160 = .ok (.getfield 7, 3) := by decide +kernel
theorem dX7_define_163 : decode cX7_define 163 = .ok (.iconst 1, 1) := by decide +kernel
theorem dX7_define_164 : decode cX7_define 164 = .ok (.dup2, 1) := by decide +kernel
theorem dX7_define_165 : decode cX7_define 165 = .ok (.iaload, 1) := by decide +kernel
theorem dX7_define_166 : decode cX7_define 166 = .ok (.iconst 1, 1) := by decide +kernel
theorem dX7_define_167 : decode cX7_define 167 = .ok (.iadd, 1) := by decide +kernel
theorem dX7_define_168 : decode cX7_define 168 = .ok (.iastore, 1) := by decide +kernel
theorem dX7_define_169 : decode cX7_define 169 = .ok (.aload_n 0, 1) := by decide +kernel
theorem dX7_define_170 : decode cX7_define 170 = .ok (.iconst 0, 1) := by decide +kernel
theorem dX7_define_171 : decode cX7_define 171 = .ok (.putfield 96, 3) := by decide +kernel
theorem dX7_define_174 : decode cX7_define 174 = .ok (.iload_n 3, 1) := by decide +kernel
theorem dX7_define_175 : decode cX7_define 175 = .ok (.ireturn, 1) := by decide +kernel
theorem dX7_remove_0 : decode cX7_remove 0 = .ok (.aload_n 0, 1) := by decide +kernel
theorem dX7_remove_1 : decode cX7_remove 1 = .ok (.aload_n 0, 1) := by decide +kernel
theorem dX7_remove_2 : decode cX7_remove 2 = .ok (.iload_n 1, 1) := by decide +kernel
theorem dX7_remove_3 : decode cX7_remove 3 = .ok (.invokevirtual 99, 3) := by decide +kernel
theorem dX7_remove_6 : decode cX7_remove 6 = .ok (.ifCond .eq 7, 3) := by decide +kernel
theorem dX7_remove_9 : decode cX7_remove 9 = .ok (.iconst 0, 1) := by decide +kernel
theorem dX7_remove_10 : decode cX7_remove 10 = .ok (.goto 4, 3) := by decide +kernel
theorem dX7_remove_13 : decode cX7_remove 13 = .ok (.iconst 1, 1) := by decide +kernel
theorem dX7_remove_14 : decode cX7_remove 14 = .ok (.invokevirtual 79, 3) := by decide +kernel
theorem dX7_remove_17 : decode cX7_remove 17 = .ok (.ifCond .ne 5, 3) := by decide +kernel
theorem dX7_remove_20 : decode cX7_remove 20 = .ok (.iconst 0, 1) := by decide +kernel
theorem dX7_remove_21 : decode cX7_remove 21 = .ok (.ireturn, 1) := by decide +kernel
theorem dX7_remove_22 : decode cX7_remove 22 = .ok (.aload_n 0, 1) := by decide +kernel
theorem dX7_remove_23 : decode cX7_remove 23 = .ok (.invokevirtual 82, 3) := by decide +kernel
theorem dX7_remove_26 : decode cX7_remove 26 = .ok (.aload_n 0, 1) := by decide +kernel
theorem dX7_remove_27 : decode cX7_remove 27 = .ok (.getfield 7, 3) := by decide +kernel
theorem dX7_remove_30 : decode cX7_remove 30 = .ok (.iconst 1, 1) := by decide +kernel
theorem dX7_remove_31 : decode cX7_remove 31 = .ok (.dup2, 1) := by decide +kernel
theorem dX7_remove_32 : decode cX7_remove 32 = .ok (.iaload, 1) := by decide +kernel
theorem dX7_remove_33 : decode cX7_remove 33 = .ok (.iconst 1, 1) := by decide +kernel
theorem dX7_remove_34 : decode cX7_remove 34 = .ok (.isub, 1) := by decide +kernel
theorem dX7_remove_35 : decode cX7_remove 35 = .ok (.iastore, 1) := by decide +kernel
theorem dX7_remove_36 : decode cX7_remove 36 = .ok (.bipush 7, 2) := by decide +kernel
theorem dX7_remove_38 : decode cX7_remove 38 = .ok (.iload_n 1, 1) := by decide +kernel
theorem dX7_remove_39 : decode cX7_remove 39 = .ok (.imul, 1) := by decide +kernel
theorem dX7_remove_40 : decode cX7_remove 40 = .ok (.istore_n 2, 1) := by decide +kernel
theorem dX7_remove_41 : decode cX7_remove 41 = .ok (.iload_n 2, 1) := by decide +kernel
theorem dX7_remove_42 : decode cX7_remove 42 = .ok (.bipush 7, 2) := by decide +kernel
theorem dX7_remove_44 : decode cX7_remove 44 = .ok (.aload_n 0, 1) := by decide +kernel
theorem dX7_remove_45 : decode cX7_remove 45 = .ok (.getfield 7, 3) := by decide +kernel
theorem dX7_remove_48 : decode cX7_remove 48 = .ok (.iconst 1, 1) := by decide +kernel
theorem dX7_remove_49 : decode cX7_remove 49 = .ok (.iaload, 1) := by decide +kernel
theorem dX7_remove_50 : decode cX7_remove 50 = .ok (.imul, 1) := by decide +kernel
theorem dX7_remove_51 : decode cX7_remove 51 = .ok (.if_icmp .ge 30, 3) := by decide +kernel
theorem dX7_remove_54 : decode cX7_remove 54 = .ok (.aload_n 0, 1) := by decide +kernel
theorem dX7_remove_55 : decode cX7_remove 55 = .ok (.getfield 7, 3) := by decide +kernel
theorem dX7_remove_58 : decode cX7_remove 58 = .ok (.bipush 68, 2) := by decide +kernel
theorem dX7_remove_60 : decode cX7_remove 60 = .ok (.iload_n 2, 1) := by decide +kernel
theorem dX7_remove_61 : decode cX7_remove 61 = .ok (.iadd, 1) := by decide +kernel
theorem dX7_remove_62 : decode cX7_remove 62 = .ok (.aload_n 0, 1) := by decide +kernel
theorem dX7_remove_63 : decode cX7_remove 63 = .ok (.getfield 7, 3) := by decide +kernel
theorem dX7_remove_66 : decode cX7_remove 66 = .ok (.bipush 68, 2) := by decide +kernel
theorem dX7_remove_68 : decode cX7_remove 68 = .ok (.iload_n 2, 1) := by decide +kernel
theorem dX7_remove_69 : decode cX7_remove 69 = .ok (.iadd, 1) := by decide +kernel
theorem dX7_remove_70 : decode cX7_remove 70 = .ok (.bipush 7, 2) := by decide +kernel
theorem dX7_remove_72 : decode cX7_remove 72 = .ok (.iadd, 1) := by decide +kernel
theorem dX7_remove_73 : decode cX7_remove 73 = .ok (.iaload, 1) := by decide +kernel
theorem dX7_remove_74 : decode cX7_remove 74 = .ok (.iastore, 1) := by decide +kernel
theorem dX7_remove_75 : decode cX7_remove 75 = .ok (.iinc 2 1, 3) := by decide +kernel
theorem dX7_remove_78 : decode cX7_remove 78 = .ok (.goto (-37), 3) := by decide +kernel
theorem dX7_remove_81 : decode cX7_remove 81 = .ok (.aload_n 0, 1) := by decide +kernel
theorem dX7_remove_82 : decode cX7_remove 82 = .ok (.getfield 7, 3) := by decide +kernel
theorem dX7_remove_85 : decode cX7_remove 85 = .ok (.iconst 1, 1) := by decide +kernel
theorem dX7_remove_86 : decode cX7_remove 86 = .ok (.iaload, 1) := by decide +kernel
theorem dX7_remove_87 : decode cX7_remove 87 = .ok (.ireturn, 1) := by decide +kernel
theorem dX7_set_0 : decode cX7_set 0 = .ok (.aload_n 0, 1) := by decide +kernel
theorem dX7_set_1 : decode cX7_set 1 = .ok (.iload_n 1, 1) := by decide +kernel
theorem dX7_set_2 : decode cX7_set 2 = .ok (.iconst 0, 1) := by decide +kernel
theorem dX7_set_3 : decode cX7_set 3 = .ok (.iconst 1, 1) := by decide +kernel
theorem dX7_set_4 : decode cX7_set 4 = .ok (.invokestatic 38, 3) := by decide +kernel
theorem dX7_set_7 : decode cX7_set 7 = .ok (.ifCond .ne 7, 3) := by decide +kernel
theorem dX7_set_10 : decode cX7_set 10 = .ok (.iconst 1, 1) := by decide +kernel
theorem dX7_set_11 : decode cX7_set 11 = .ok (.goto 25, 3) := by decide +kernel
theorem dX7_set_14 : decode cX7_set 14 = .ok (.iload_n 2, 1) := by decide +kernel
theorem dX7_set_15 : decode cX7_set 15 = .ok (.iload_n 1, 1) := by decide +kernel
theorem dX7_set_16 : decode cX7_set 16 = .ok (.iload_n 1, 1) := by decide +kernel
theorem dX7_set_17 : decode cX7_set 17 = .ok (.ifCond .ne 7, 3) := by decide +kernel
theorem dX7_set_20 : decode cX7_set 20 = .ok (.iconst 1, 1) := by decide +kernel
theorem dX7_set_21 : decode cX7_set 21 = .ok (.goto 4, 3) := by decide +kernel
theorem dX7_set_24 : decode cX7_set 24 = .ok (.iconst 4, 1) := by decide +kernel
theorem dX7_set_25 : decode cX7_set 25 = .ok (.invokestatic 38, 3) := by decide +kernel
theorem dX7_set_28 : decode cX7_set 28 = .ok (.ifCond .ne 7, 3) := by decide +kernel
theorem dX7_set_31 : decode cX7_set 31 = .ok (.iconst 2, 1) := by decide +kernel
theorem dX7_set_32 : decode cX7_set 32 = .ok (.goto 4, 3) := by decide +kernel
theorem dX7_set_35 : decode cX7_set 35 = .ok (.iconst 0, 1) := by decide +kernel
theorem dX7_set_36 : decode cX7_set 36 = .ok (.invokevirtual 79, 3) := by decide +kernel
theorem dX7_set_39 : decode cX7_set 39 = .ok (.ifCond .ne 5, 3) := by decide +kernel
theorem dX7_set_42 : decode cX7_set 42 = .ok (.iconst 0, 1) := by decide +kernel
theorem dX7_set_43 : decode cX7_set 43 = .ok (.ireturn, 1) := by decide +kernel
theorem dX7_set_44 : decode cX7_set 44 = .ok (.aload_n 0, 1) := by decide +kernel
theorem dX7_set_45 : decode cX7_set 45 = .ok (.invokevirtual 82, 3) := by decide +kernel
theorem dX7_set_48 : decode cX7_set 48 = .ok (.aload_n 0, 1) := by decide +kernel
theorem dX7_set_49 : decode cX7_set 49 = .ok (.getfield 7, 3) := by decide +kernel
theorem dX7_set_52 : decode cX7_set 52 = .ok (.iconst 2, 1) := by decide +kernel
theorem dX7_set_53 : decode cX7_set 53 = .ok (.iload_n 1, 1) := by decide +kernel
theorem dX7_set_54 : decode cX7_set 54 = .ok (.iadd, 1) := by decide +kernel
theorem dX7_set_55 : decode cX7_set 55 = .ok (.iaload, 1) := by decide +kernel
theorem dX7_set_56 : decode cX7_set 56 = .ok (.istore_n 3, 1) := by decide +kernel
theorem dX7_set_57 : decode cX7_set 57 = .ok (.aload_n 0, 1) := by decide +kernel
theorem dX7_set_58 : decode cX7_set 58 = .ok (.getfield 7, 3) := by decide +kernel
theorem dX7_set_61 : decode cX7_set 61 = .ok (.iconst 2, 1) := by decide +kernel
theorem dX7_set_62 : decode cX7_set 62 = .ok (.iload_n 1, 1) := by decide +kernel
theorem dX7_set_63 : decode cX7_set 63 = .ok (.iadd, 1) := by decide +kernel
theorem dX7_set_64 : decode cX7_set 64 = .ok (.iload_n 2, 1) := by decide +kernel
theorem dX7_set_65 : decode cX7_set 65 = .ok (.iastore, 1) := by decide +kernel
theorem dX7_set_66 : decode cX7_set 66 = .ok (.iload_n 3, 1) := by decide +kernel
theorem dX7_set_67 : decode cX7_set 67 = .ok (.ireturn, 1) := by decide +kernel
theorem dX7_append_0 : decode cX7_append 0 = .ok (.aload_n 0, 1) := by decide +kernel
theorem dX7_append_1 : decode cX7_append 1 = .ok (.iload_n 1, 1) := by decide +kernel
theorem dX7_append_2 : decode cX7_append 2 = .ok (.bipush 33, 2) := by decide +kernel
theorem dX7_append_4 : decode cX7_append 4 = .ok (.bipush 126, 2) := by decide +kernel
theorem dX7_append_6 : decode cX7_append 6 = .ok (.invokestatic 38, 3) := by decide +kernel
theorem dX7_append_9 : decode cX7_append 9 = .ok (.ifCond .ne 7, 3) := by decide +kernel
theorem dX7_append_12 : decode cX7_append 12 = .ok (.iconst 1, 1) := by decide +kernel
theorem dX7_append_13 : decode cX7_append 13 = .ok (.goto 17, 3) := by decide +kernel
theorem dX7_append_16 : decode cX7_append 16 = .ok (.aload_n 0, 1) := by decide +kernel
theorem dX7_append_17 : decode cX7_append 17 = .ok (.getfield 96, 3) := by decide +kernel
theorem dX7_append_20 : decode cX7_append 20 = .ok (.bipush 60, 2) := by decide +kernel
theorem dX7_append_22 : decode cX7_append 22 = .ok (.if_icmp .ne 7, 3) := by decide +kernel
theorem dX7_append_25 : decode cX7_append 25 = .ok (.iconst 2, 1) := by decide +kernel
theorem dX7_append_26 : decode cX7_append 26 = .ok (.goto 4, 3) := by decide +kernel
theorem dX7_append_29 : decode cX7_append 29 = .ok (.iconst 0, 1) := by decide +kernel
theorem dX7_append_30 : decode cX7_append 30 = .ok (.invokevirtual 79, 3) := by decide +kernel
theorem dX7_append_33 : decode cX7_append 33 = .ok (.ifCond .ne 5, 3) := by decide +kernel
theorem dX7_append_36 : decode cX7_append 36 = .ok (.iconst 0, 1) := by decide +kernel
theorem dX7_append_37 : decode cX7_append 37 = .ok (.ireturn, 1) := by decide +kernel
theorem dX7_append_38 : decode cX7_append 38 = .ok (.aload_n 0, 1) := by decide +kernel
theorem dX7_append_39 : decode cX7_append 39 = .ok (.getfield 13, 3) := by decide +kernel
theorem dX7_append_42 : decode cX7_append 42 = .ok (.aload_n 0, 1) := by decide +kernel
theorem dX7_append_43 : decode cX7_append 43 = .ok (.getfield 96, 3) := by decide +kernel
theorem dX7_append_46 : decode cX7_append 46 = .ok (.iload_n 1, 1) := by decide +kernel
theorem dX7_append_47 : decode cX7_append 47 = .ok (.iastore, 1) := by decide +kernel
theorem dX7_append_48 : decode cX7_append 48 = .ok (.aload_n 0, 1) := by decide +kernel
theorem dX7_append_49 : decode cX7_append 49 = .ok (.dup, 1) := by decide +kernel
theorem dX7_append_50 : decode cX7_append 50 = .ok (.getfield 96, 3) := by decide +kernel
theorem dX7_append_53 : decode cX7_append 53 = .ok (.iconst 1, 1) := by decide +kernel
theorem dX7_append_54 : decode cX7_append 54 = .ok (.iadd, 1) := by decide +kernel
theorem dX7_append_55 : decode cX7_append 55 = .ok (.putfield 96, 3) := by decide +kernel
theorem dX7_append_58 : decode cX7_append 58 = .ok (.aload_n 0, 1) := by decide +kernel
theorem dX7_append_59 : decode cX7_append 59 = .ok (.getfield 96, 3) := by decide +kernel
theorem dX7_append_62 : decode cX7_append 62 = .ok (.ireturn, 1) := by decide +kernel
theorem dX7_clearBuffer_0 : decode cX7_clearBuffer 0 = .ok (.aload_n 0, 1) := by decide +kernel
theorem dX7_clearBuffer_1 : decode cX7_clearBuffer 1 = .ok (.iconst 0, 1) := by decide +kernel
theorem dX7_clearBuffer_2 : decode cX7_clearBuffer 2 = .ok (.putfield 34, 3) := by decide +kernel
theorem dX7_clearBuffer_5 : decode cX7_clearBuffer 5 = .ok (.aload_n 0, 1) := by decide +kernel
theorem dX7_clearBuffer_6 : decode cX7_clearBuffer 6 = .ok (.getfield 96, 3) := by decide +kernel
theorem dX7_clearBuffer_9 : decode cX7_clearBuffer 9 = .ok (.istore_n 1, 1) := by decide +kernel
theorem dX7_clearBuffer_10 : decode cX7_clearBuffer 10 = .ok (.aload_n 0, 1) := by decide +kernel
theorem dX7_clearBuffer_11 : decode cX7_clearBuffer 11 = .ok (.iconst 0, 1) := by decide +kernel
theorem dX7_clearBuffer_12 : decode cX7_clearBuffer 12 = .ok (.putfield 96, 3) := by decide +kernel
theorem dX7_clearBuffer_15 : decode cX7_clearBuffer 15 = .ok (.iload_n 1, 1) := by decide +kernel
theorem dX7_clearBuffer_16 : decode cX7_clearBuffer 16 = .ok (.ireturn, 1) := by decide +kernel
theorem dX7_keyOf_0 : decode cX7_keyOf 0 = .ok (.iload_n 0, 1) := by decide +kernel
theorem dX7_keyOf_1 : decode cX7_keyOf 1 = .ok (.tableswitch 119 97 116 #[103, 119, 119, 116, 107, 119, 119, 119, 119, 119, 99, 113, 119, 119, 105, 101, 119, 110, 95, 97], 95) := by decide +kernel
theorem dX7_keyOf_96 : decode cX7_keyOf 96 = .ok (.iconst 0, 1) := by decide +kernel
theorem dX7_keyOf_97 : decode cX7_keyOf 97 = .ok (.ireturn, 1) := by decide +kernel
theorem dX7_keyOf_98 : decode cX7_keyOf 98 = .ok (.iconst 1, 1) := by decide +kernel
theorem dX7_keyOf_99 : decode cX7_keyOf 99 = .ok (.ireturn, 1) := by decide +kernel
theorem dX7_keyOf_100 : decode cX7_keyOf 100 = .ok (.iconst 2, 1) := by decide +kernel
theorem dX7_keyOf_101 : decode cX7_keyOf 101 = .ok (.ireturn, 1) := by decide +kernel
theorem dX7_keyOf_102 : decode cX7_keyOf 102 = .ok (.iconst 3, 1) := by decide +kernel
theorem dX7_keyOf_103 : decode cX7_keyOf 103 = .ok (.ireturn, 1) := by decide +kernel
theorem dX7_keyOf_104 : decode cX7_keyOf 104 = .ok (.iconst 4, 1) := by decide +kernel
theorem dX7_keyOf_105 : decode cX7_keyOf 105 = .ok (.ireturn, 1) := by decide +kernel
theorem dX7_keyOf_106 : decode cX7_keyOf 106 = .ok (.iconst 5, 1) := by decide +kernel
theorem dX7_keyOf_107 : decode cX7_keyOf 107 = .ok (.ireturn, 1) := by decide +kernel
theorem dX7_keyOf_108 : decode cX7_keyOf 108 = .ok (.bipush 6, 2) := by decide +kernel
theorem dX7_keyOf_110 : decode cX7_keyOf 110 = .ok (.ireturn, 1) := by decide +kernel
theorem dX7_keyOf_111 : decode cX7_keyOf 111 = .ok (.bipush 7, 2) := by decide +kernel
theorem dX7_keyOf_113 : decode cX7_keyOf 113 = .ok (.ireturn, 1) := by decide +kernel
theorem dX7_keyOf_114 : decode cX7_keyOf 114 = .ok (.bipush 8, 2) := by decide +kernel
theorem dX7_keyOf_116 : decode cX7_keyOf 116 = .ok (.ireturn, 1) := by decide +kernel
theorem dX7_keyOf_117 : decode cX7_keyOf 117 = .ok (.bipush 9, 2) := by decide +kernel
theorem dX7_keyOf_119 : decode cX7_keyOf 119 = .ok (.ireturn, 1) := by decide +kernel
theorem dX7_keyOf_120 : decode cX7_keyOf 120 = .ok (.iconst (-1), 1) := by decide +kernel
theorem dX7_keyOf_121 : decode cX7_keyOf 121 = .ok (.ireturn, 1) := by decide +kernel
theorem dX7_readsStroke_0 : decode cX7_readsStroke 0 = .ok (.aload_n 0, 1) := by decide +kernel
theorem dX7_readsStroke_1 : decode cX7_readsStroke 1 = .ok (.getfield 119, 3) := by decide +kernel
theorem dX7_readsStroke_4 : decode cX7_readsStroke 4 = .ok (.aload_n 0, 1) := by decide +kernel
theorem dX7_readsStroke_5 : decode cX7_readsStroke 5 = .ok (.getfield 96, 3) := by decide +kernel
theorem dX7_readsStroke_8 : decode cX7_readsStroke 8 = .ok (.if_icmp .ge 29, 3) := by decide +kernel
theorem dX7_readsStroke_11 : decode cX7_readsStroke 11 = .ok (.aload_n 0, 1) := by decide +kernel
theorem dX7_readsStroke_12 : decode cX7_readsStroke 12 = .ok (.getfield 13, 3) := by decide +kernel
theorem dX7_readsStroke_15 : decode cX7_readsStroke 15 = .ok (.aload_n 0, 1) := by decide +kernel
theorem dX7_readsStroke_16 : decode cX7_readsStroke 16 = .ok (.getfield 119, 3) := by decide +kernel
theorem dX7_readsStroke_19 : decode cX7_readsStroke 19 = .ok (.iaload, 1) := by decide +kernel
theorem dX7_readsStroke_20 : decode cX7_readsStroke 20 = .ok (.bipush 42, 2) := by decide +kernel
theorem dX7_readsStroke_22 : decode cX7_readsStroke 22 = .ok (.if_icmp .ne 15, 3) := by decide +kernel
theorem dX7_readsStroke_25 : decode cX7_readsStroke 25 = .ok (.aload_n 0, 1) := by decide +kernel
theorem dX7_readsStroke_26 : decode cX7_readsStroke 26 = .ok (.dup, 1) := by decide +kernel
theorem dX7_readsStroke_27 : decode cX7_readsStroke 27 = .ok (.getfield 119, 3) := by decide +kernel
theorem dX7_readsStroke_30 : decode cX7_readsStroke 30 = .ok (.iconst 1, 1) := by decide +kernel
theorem dX7_readsStroke_31 : decode cX7_readsStroke 31 = .ok (.iadd, 1) := by decide +kernel
theorem dX7_readsStroke_32 : decode cX7_readsStroke 32 = .ok (.putfield 119, 3) := by decide +kernel
theorem dX7_readsStroke_35 : decode cX7_readsStroke 35 = .ok (.iconst 0, 1) := by decide +kernel
theorem dX7_readsStroke_36 : decode cX7_readsStroke 36 = .ok (.ireturn, 1) := by decide +kernel
theorem dX7_readsStroke_37 : decode cX7_readsStroke 37 = .ok (.iconst 0, 1) := by decide +kernel
theorem dX7_readsStroke_38 : decode cX7_readsStroke 38 = .ok (.istore_n 1, 1) := by decide +kernel
theorem dX7_readsStroke_39 : decode cX7_readsStroke 39 = .ok (.aload_n 0, 1) := by decide +kernel
theorem dX7_readsStroke_40 : decode cX7_readsStroke 40 = .ok (.getfield 119, 3) := by decide +kernel
theorem dX7_readsStroke_43 : decode cX7_readsStroke 43 = .ok (.aload_n 0, 1) := by decide +kernel
theorem dX7_readsStroke_44 : decode cX7_readsStroke 44 = .ok (.getfield 96, 3) := by decide +kernel
theorem dX7_readsStroke_47 : decode cX7_readsStroke 47 = .ok (.if_icmp .ge 66, 3) := by decide +kernel
theorem dX7_readsStroke_50 : decode cX7_readsStroke 50 = .ok (.aload_n 0, 1) := by decide +kernel
theorem dX7_readsStroke_51 : decode cX7_readsStroke 51 = .ok (.getfield 13, 3) := by decide +kernel
theorem dX7_readsStroke_54 : decode cX7_readsStroke 54 = .ok (.aload_n 0, 1) := by decide +kernel
theorem dX7_readsStroke_55 : decode cX7_readsStroke 55 = .ok (.getfield 119, 3) := by decide +kernel
theorem dX7_readsStroke_58 : decode cX7_readsStroke 58 = .ok (.iaload, 1) := by decide +kernel
theorem dX7_readsStroke_59 : decode cX7_readsStroke 59 = .ok (.invokestatic 122, 3) := by decide +kernel
theorem dX7_readsStroke_62 : decode cX7_readsStroke 62 = .ok (.iconst (-1), 1) := by decide +kernel
theorem dX7_readsStroke_63 : decode cX7_readsStroke 63 = .ok (.if_icmp .eq 50, 3) := by decide +kernel
theorem dX7_readsStroke_66 : decode cX7_readsStroke 66 = .ok (.iload_n 1, 1) := by decide +kernel
theorem dX7_readsStroke_67 : decode cX7_readsStroke 67 = .ok (.aload_n 0, 1) := by decide +kernel
theorem dX7_readsStroke_68 : decode cX7_readsStroke 68 = .ok (.getfield 13, 3) := by decide +kernel
theorem dX7_readsStroke_71 : decode cX7_readsStroke 71 = .ok (.aload_n 0, 1) := by decide +kernel
theorem dX7_readsStroke_72 : decode cX7_readsStroke 72 = .ok (.getfield 119, 3) := by decide +kernel
theorem dX7_readsStroke_75 : decode cX7_readsStroke 75 = .ok (.iaload, 1) := by decide +kernel
theorem dX7_readsStroke_76 : decode cX7_readsStroke 76 = .ok (.invokestatic 122, 3) := by decide +kernel
theorem dX7_readsStroke_79 : decode cX7_readsStroke 79 = .ok (.ishr, 1) := by decide +kernel
theorem dX7_readsStroke_80 : decode cX7_readsStroke 80 = .ok (.ifCond .ne 33, 3) := by decide +kernel
theorem dX7_readsStroke_83 : decode cX7_readsStroke 83 = .ok (.iload_n 1, 1) := by decide +kernel
theorem dX7_readsStroke_84 : decode cX7_readsStroke 84 = .ok (.iconst 1, 1) := by decide +kernel
theorem dX7_readsStroke_85 : decode cX7_readsStroke 85 = .ok (.aload_n 0, 1) := by decide +kernel
theorem dX7_readsStroke_86 : decode cX7_readsStroke 86 = .ok (.getfield 13, 3) := by decide +kernel
theorem dX7_readsStroke_89 : decode cX7_readsStroke 89 = .ok (.aload_n 0, 1) := by decide +kernel
theorem dX7_readsStroke_90 : decode cX7_readsStroke 90 = .ok (.getfield 119, 3) := by decide +kernel
theorem dX7_readsStroke_93 : decode cX7_readsStroke 93 = .ok (.iaload, 1) := by decide +kernel
theorem dX7_readsStroke_94 : decode cX7_readsStroke 94 = .ok (.invokestatic 122, 3) := by decide +kernel
theorem dX7_readsStroke_97 : decode cX7_readsStroke 97 = .ok (.ishl, 1) := by decide +kernel
theorem dX7_readsStroke_98 : decode cX7_readsStroke 98 = .ok (.iadd, 1) := by decide +kernel
theorem dX7_readsStroke_99 : decode cX7_readsStroke 99 = .ok (.istore_n 1, 1) := by decide +kernel
theorem dX7_readsStroke_100 : decode cX7_readsStroke 100 = .ok (.aload_n 0, 1) := by decide +kernel
theorem dX7_readsStroke_101 : decode cX7_readsStroke 101 = .ok (.dup, 1) := by decide +kernel
theorem dX7_readsStroke_102 : decode cX7_readsStroke 102 = .ok (.getfield 119, 3) := by decide +kernel
theorem dX7_readsStroke_105 : decode cX7_readsStroke 105 = .ok (.iconst 1, 1) := by decide +kernel
theorem dX7_readsStroke_106 : decode cX7_readsStroke 106 = .ok (.iadd, 1) := by decide +kernel
theorem dX7_readsStroke_107 : decode cX7_readsStroke 107 = .ok (.putfield 119, 3) := by decide +kernel
theorem dX7_readsStroke_110 : decode cX7_readsStroke 110 = .ok (.goto (-71), 3) := by decide +kernel
theorem dX7_readsStroke_113 : decode cX7_readsStroke 113 = .ok (.iload_n 1, 1) := by decide +kernel
theorem dX7_readsStroke_114 : decode cX7_readsStroke 114 = .ok (.ifCond .ne 7, 3) := by decide +kernel
theorem dX7_readsStroke_117 : decode cX7_readsStroke 117 = .ok (.iconst (-1), 1) := by decide +kernel
theorem dX7_readsStroke_118 : decode cX7_readsStroke 118 = .ok (.goto 4, 3) := by decide +kernel
theorem dX7_readsStroke_121 : decode cX7_readsStroke 121 = .ok (.iload_n 1, 1) := by decide +kernel
theorem dX7_readsStroke_122 : decode cX7_readsStroke 122 = .ok (.ireturn, 1) := by decide +kernel
theorem dX7_areStrokes_0 : decode cX7_areStrokes 0 = .ok (.aload_n 0, 1) := by decide +kernel
theorem dX7_areStrokes_1 : decode cX7_areStrokes 1 = .ok (.iconst 0, 1) := by decide +kernel
theorem dX7_areStrokes_2 : decode cX7_areStrokes 2 = .ok (.putfield 119, 3) := by decide +kernel
theorem dX7_areStrokes_5 : decode cX7_areStrokes 5 = .ok (.aload_n 0, 1) := by decide +kernel
theorem dX7_areStrokes_6 : decode cX7_areStrokes 6 = .ok (.iconst 0, 1) := by decide +kernel
theorem dX7_areStrokes_7 : decode cX7_areStrokes 7 = .ok (.putfield 93, 3) := by decide +kernel
theorem dX7_areStrokes_10 : decode cX7_areStrokes 10 = .ok (.aload_n 0, 1) := by decide +kernel
theorem dX7_areStrokes_11 : decode cX7_areStrokes 11 = .ok (.invokevirtual 125, 3) := by decide +kernel
theorem dX7_areStrokes_14 : decode cX7_areStrokes 14 = .ok (.istore_n 1, 1) := by decide +kernel
theorem dX7_areStrokes_15 : decode cX7_areStrokes 15 = .ok (.iload_n 1, 1) := by decide +kernel
theorem dX7_areStrokes_16 : decode cX7_areStrokes 16 = .ok (.iconst (-1), 1) := by decide +kernel
theorem dX7_areStrokes_17 : decode cX7_areStrokes 17 = .ok (.if_icmp .eq 70, 3) := by decide +kernel
theorem dX7_areStrokes_20 : decode cX7_areStrokes 20 = .ok (.aload_n 0, 1) := by decide +kernel
theorem dX7_areStrokes_21 : decode cX7_areStrokes 21 = .ok (.getfield 16, 3) := by decide +kernel
theorem dX7_areStrokes_24 : decode cX7_areStrokes 24 = .ok (.aload_n 0, 1) := by decide +kernel
theorem dX7_areStrokes_25 : decode cX7_areStrokes 25 = .ok (.getfield 93, 3) := by decide +kernel
theorem dX7_areStrokes_28 : decode cX7_areStrokes 28 = .ok (.iload_n 1, 1) := by decide +kernel
theorem dX7_areStrokes_29 : decode cX7_areStrokes 29 = .ok (.iastore, 1) := by decide +kernel
theorem dX7_areStrokes_30 : decode cX7_areStrokes 30 = .ok (.aload_n 0, 1) := by decide +kernel
theorem dX7_areStrokes_31 : decode cX7_areStrokes 31 = .ok (.dup, 1) := by decide +kernel
theorem dX7_areStrokes_32 : decode cX7_areStrokes 32 = .ok (.getfield 93, 3) := by decide +kernel
theorem dX7_areStrokes_35 : decode cX7_areStrokes 35 = .ok (.iconst 1, 1) := by decide +kernel
theorem dX7_areStrokes_36 : decode cX7_areStrokes 36 = .ok (.iadd, 1) := by decide +kernel
theorem dX7_areStrokes_37 : decode cX7_areStrokes 37 = .ok (.putfield 93, 3) := by decide +kernel
theorem dX7_areStrokes_40 : decode cX7_areStrokes 40 = .ok (.aload_n 0, 1) := by decide +kernel
theorem dX7_areStrokes_41 : decode cX7_areStrokes 41 = .ok (.getfield 119, 3) := by decide +kernel
theorem dX7_areStrokes_44 : decode cX7_areStrokes 44 = .ok (.aload_n 0, 1) := by decide +kernel
theorem dX7_areStrokes_45 : decode cX7_areStrokes 45 = .ok (.getfield 96, 3) := by decide +kernel
theorem dX7_areStrokes_48 : decode cX7_areStrokes 48 = .ok (.if_icmp .ne 5, 3) := by decide +kernel
theorem dX7_areStrokes_51 : decode cX7_areStrokes 51 = .ok (.iconst 1, 1) := by decide +kernel
theorem dX7_areStrokes_52 : decode cX7_areStrokes 52 = .ok (.ireturn, 1) := by decide +kernel
theorem dX7_areStrokes_53 : decode cX7_areStrokes 53 = .ok (.aload_n 0, 1) := by decide +kernel
theorem dX7_areStrokes_54 : decode cX7_areStrokes 54 = .ok (.getfield 13, 3) := by decide +kernel
theorem dX7_areStrokes_57 : decode cX7_areStrokes 57 = .ok (.aload_n 0, 1) := by decide +kernel
theorem dX7_areStrokes_58 : decode cX7_areStrokes 58 = .ok (.getfield 119, 3) := by decide +kernel
theorem dX7_areStrokes_61 : decode cX7_areStrokes 61 = .ok (.iaload, 1) := by decide +kernel
theorem dX7_areStrokes_62 : decode cX7_areStrokes 62 = .ok (.bipush 47, 2) := by decide +kernel
theorem dX7_areStrokes_64 : decode cX7_areStrokes 64 = .ok (.if_icmp .eq 5, 3) := by decide +kernel
theorem dX7_areStrokes_67 : decode cX7_areStrokes 67 = .ok (.iconst 0, 1) := by decide +kernel
theorem dX7_areStrokes_68 : decode cX7_areStrokes 68 = .ok (.ireturn, 1) := by decide +kernel
theorem dX7_areStrokes_69 : decode cX7_areStrokes 69 = .ok (.aload_n 0, 1) := by decide +kernel
theorem dX7_areStrokes_70 : decode cX7_areStrokes 70 = .ok (.dup, 1) := by decide +kernel
theorem dX7_areStrokes_71 : decode cX7_areStrokes 71 = .ok (.getfield 119, 3) := by decide +kernel
theorem dX7_areStrokes_74 : decode cX7_areStrokes 74 = .ok (.iconst 1, 1) := by decide +kernel
theorem dX7_areStrokes_75 : decode cX7_areStrokes 75 = .ok (.iadd, 1) := by decide +kernel
theorem dX7_areStrokes_76 : decode cX7_areStrokes 76 = .ok (.putfield 119, 3) := by decide +kernel
theorem dX7_areStrokes_79 : decode cX7_areStrokes 79 = .ok (.aload_n 0, 1) := by decide +kernel
theorem dX7_areStrokes_80 : decode cX7_areStrokes 80 = .ok (.invokevirtual 125, 3) := by decide +kernel
theorem dX7_areStrokes_83 : decode cX7_areStrokes 83 = .ok (.istore_n 1, 1) := by decide +kernel
theorem dX7_areStrokes_84 : decode cX7_areStrokes 84 = .ok (.goto (-69), 3) := by decide +kernel
theorem dX7_areStrokes_87 : decode cX7_areStrokes 87 = .ok (.iconst 0, 1) := by decide +kernel
theorem dX7_areStrokes_88 : decode cX7_areStrokes 88 = .ok (.ireturn, 1) := by decide +kernel
theorem dX7_firstError_0 : decode cX7_firstError 0 = .ok (.aload_n 0, 1) := by decide +kernel
theorem dX7_firstError_1 : decode cX7_firstError 1 = .ok (.iconst 0, 1) := by decide +kernel
theorem dX7_firstError_2 : decode cX7_firstError 2 = .ok (.putfield 34, 3) := by decide +kernel
theorem dX7_firstError_5 : decode cX7_firstError 5 = .ok (.aload_n 0, 1) := by decide +kernel
theorem dX7_firstError_6 : decode cX7_firstError 6 = .ok (.invokevirtual 89, 3) := by decide +kernel
theorem dX7_firstError_9 : decode cX7_firstError 9 = .ok (.pop, 1) := by decide +kernel
theorem dX7_firstError_10 : decode cX7_firstError 10 = .ok (.aload_n 0, 1) := by decide +kernel
theorem dX7_firstError_11 : decode cX7_firstError 11 = .ok (.getfield 119, 3) := by decide +kernel
theorem dX7_firstError_14 : decode cX7_firstError 14 = .ok (.ireturn, 1) := by decide +kernel
theorem dX7_keep_0 : decode cX7_keep 0 = .ok (.aload_n 0, 1) := by decide +kernel
theorem dX7_keep_1 : decode cX7_keep 1 = .ok (.iconst 0, 1) := by decide +kernel
theorem dX7_keep_2 : decode cX7_keep 2 = .ok (.putfield 34, 3) := by decide +kernel
theorem dX7_keep_5 : decode cX7_keep 5 = .ok (.aload_n 0, 1) := by decide +kernel
theorem dX7_keep_6 : decode cX7_keep 6 = .ok (.iconst 0, 1) := by decide +kernel
theorem dX7_keep_7 : decode cX7_keep 7 = .ok (.bipush 7, 2) := by decide +kernel
theorem dX7_keep_9 : decode cX7_keep 9 = .ok (.invokevirtual 109, 3) := by decide +kernel
theorem dX7_keep_12 : decode cX7_keep 12 = .ok (.aload_n 0, 1) := by decide +kernel
theorem dX7_keep_13 : decode cX7_keep 13 = .ok (.iconst 1, 1) := by decide +kernel
theorem dX7_keep_14 : decode cX7_keep 14 = .ok (.putfield 129, 3) := by decide +kernel
theorem dX7_keep_17 : decode cX7_keep 17 = .ok (.aload_n 0, 1) := by decide +kernel
theorem dX7_keep_18 : decode cX7_keep 18 = .ok (.getfield 7, 3) := by decide +kernel
theorem dX7_keep_21 : decode cX7_keep 21 = .ok (.iconst 0, 1) := by decide +kernel
theorem dX7_keep_22 : decode cX7_keep 22 = .ok (.iaload, 1) := by decide +kernel
theorem dX7_keep_23 : decode cX7_keep 23 = .ok (.ireturn, 1) := by decide +kernel
theorem dX7_goBack_0 : decode cX7_goBack 0 = .ok (.aload_n 0, 1) := by decide +kernel
theorem dX7_goBack_1 : decode cX7_goBack 1 = .ok (.aload_n 0, 1) := by decide +kernel
theorem dX7_goBack_2 : decode cX7_goBack 2 = .ok (.getfield 129, 3) := by decide +kernel
theorem dX7_goBack_5 : decode cX7_goBack 5 = .ok (.ifCond .eq 7, 3) := by decide +kernel
theorem dX7_goBack_8 : decode cX7_goBack 8 = .ok (.iconst 0, 1) := by decide +kernel
theorem dX7_goBack_9 : decode cX7_goBack 9 = .ok (.goto 4, 3) := by decide +kernel
theorem dX7_goBack_12 : decode cX7_goBack 12 = .ok (.iconst 1, 1) := by decide +kernel
theorem dX7_goBack_13 : decode cX7_goBack 13 = .ok (.invokevirtual 79, 3) := by decide +kernel
theorem dX7_goBack_16 : decode cX7_goBack 16 = .ok (.ifCond .ne 5, 3) := by decide +kernel
theorem dX7_goBack_19 : decode cX7_goBack 19 = .ok (.iconst 0, 1) := by decide +kernel
theorem dX7_goBack_20 : decode cX7_goBack 20 = .ok (.ireturn, 1) := by decide +kernel
theorem dX7_goBack_21 : decode cX7_goBack 21 = .ok (.aload_n 0, 1) := by decide +kernel
theorem dX7_goBack_22 : decode cX7_goBack 22 = .ok (.invokevirtual 82, 3) := by decide +kernel
theorem dX7_goBack_25 : decode cX7_goBack 25 = .ok (.aload_n 0, 1) := by decide +kernel
theorem dX7_goBack_26 : decode cX7_goBack 26 = .ok (.bipush 7, 2) := by decide +kernel
theorem dX7_goBack_28 : decode cX7_goBack 28 = .ok (.iconst 0, 1) := by decide +kernel
theorem dX7_goBack_29 : decode cX7_goBack 29 = .ok (.invokevirtual 109, 3) := by decide +kernel
theorem dX7_goBack_32 : decode cX7_goBack 32 = .ok (.aload_n 0, 1) := by decide +kernel
theorem dX7_goBack_33 : decode cX7_goBack 33 = .ok (.getfield 7, 3) := by decide +kernel
theorem dX7_goBack_36 : decode cX7_goBack 36 = .ok (.iconst 0, 1) := by decide +kernel
theorem dX7_goBack_37 : decode cX7_goBack 37 = .ok (.iaload, 1) := by decide +kernel
theorem dX7_goBack_38 : decode cX7_goBack 38 = .ok (.ireturn, 1) := by decide +kernel
theorem dX7_undo_0 : decode cX7_undo 0 = .ok (.aload_n 0, 1) := by decide +kernel
theorem dX7_undo_1 : decode cX7_undo 1 = .ok (.aload_n 0, 1) := by decide +kernel
theorem dX7_undo_2 : decode cX7_undo 2 = .ok (.getfield 106, 3) := by decide +kernel
theorem dX7_undo_5 : decode cX7_undo 5 = .ok (.ifCond .le 7, 3) := by decide +kernel
theorem dX7_undo_8 : decode cX7_undo 8 = .ok (.iconst 0, 1) := by decide +kernel
theorem dX7_undo_9 : decode cX7_undo 9 = .ok (.goto 4, 3) := by decide +kernel
theorem dX7_undo_12 : decode cX7_undo 12 = .ok (.iconst 1, 1) := by decide +kernel
theorem dX7_undo_13 : decode cX7_undo 13 = .ok (.invokevirtual 79, 3) := by decide +kernel
theorem dX7_undo_16 : decode cX7_undo 16 = .ok (.ifCond .ne 5, 3) := by decide +kernel
theorem dX7_undo_19 : decode cX7_undo 19 = .ok (.iconst 0, 1) := by decide +kernel
theorem dX7_undo_20 : decode cX7_undo 20 = .ok (.ireturn, 1) := by decide +kernel
theorem dX7_undo_21 : decode cX7_undo 21 = .ok (.aload_n 0, 1) := by decide +kernel
theorem dX7_undo_22 : decode cX7_undo 22 = .ok (.aload_n 0, 1) := by decide +kernel
theorem dX7_undo_23 : decode cX7_undo 23 = .ok (.getfield 106, 3) := by decide +kernel
theorem dX7_undo_26 : decode cX7_undo 26 = .ok (.iconst 0, 1) := by decide +kernel
theorem dX7_undo_27 : decode cX7_undo 27 = .ok (.invokevirtual 109, 3) := by decide +kernel
theorem dX7_undo_30 : decode cX7_undo 30 = .ok (.aload_n 0, 1) := by decide +kernel
theorem dX7_undo_31 : decode cX7_undo 31 = .ok (.dup, 1) := by decide +kernel
theorem dX7_undo_32 : decode cX7_undo 32 = .ok (.getfield 106, 3) := by decide +kernel
theorem dX7_undo_35 : decode cX7_undo 35 = .ok (.iconst 1, 1) := by decide +kernel
theorem dX7_undo_36 : decode cX7_undo 36 = .ok (.isub, 1) := by decide +kernel
theorem dX7_undo_37 : decode cX7_undo 37 = .ok (.putfield 106, 3) := by decide +kernel
theorem dX7_undo_40 : decode cX7_undo 40 = .ok (.aload_n 0, 1) := by decide +kernel
theorem dX7_undo_41 : decode cX7_undo 41 = .ok (.getfield 106, 3) := by decide +kernel
theorem dX7_undo_44 : decode cX7_undo 44 = .ok (.ireturn, 1) := by decide +kernel
theorem dX7_stroke_0 : decode cX7_stroke 0 = .ok (.aload_n 0, 1) := by decide +kernel
theorem dX7_stroke_1 : decode cX7_stroke 1 = .ok (.iload_n 1, 1) := by decide +kernel
theorem dX7_stroke_2 : decode cX7_stroke 2 = .ok (.iconst 0, 1) := by decide +kernel
theorem dX7_stroke_3 : decode cX7_stroke 3 = .ok (.aload_n 0, 1) := by decide +kernel
theorem dX7_stroke_4 : decode cX7_stroke 4 = .ok (.getfield 7, 3) := by decide +kernel
theorem dX7_stroke_7 : decode cX7_stroke 7 = .ok (.iconst 0, 1) := by decide +kernel
theorem dX7_stroke_8 : decode cX7_stroke 8 = .ok (.iaload, 1) := by decide +kernel
theorem dX7_stroke_9 : decode cX7_stroke 9 = .ok (.iconst 1, 1) := by decide +kernel
theorem dX7_stroke_10 : decode cX7_stroke 10 = .ok (.isub, 1) := by decide +kernel
theorem dX7_stroke_11 : decode cX7_stroke 11 = .ok (.invokestatic 38, 3) := by decide +kernel
theorem dX7_stroke_14 : decode cX7_stroke 14 = .ok (.ifCond .eq 7, 3) := by decide +kernel
theorem dX7_stroke_17 : decode cX7_stroke 17 = .ok (.iconst 0, 1) := by decide +kernel
theorem dX7_stroke_18 : decode cX7_stroke 18 = .ok (.goto 4, 3) := by decide +kernel
theorem dX7_stroke_21 : decode cX7_stroke 21 = .ok (.iconst 1, 1) := by decide +kernel
theorem dX7_stroke_22 : decode cX7_stroke 22 = .ok (.invokevirtual 79, 3) := by decide +kernel
theorem dX7_stroke_25 : decode cX7_stroke 25 = .ok (.ifCond .eq 15, 3) := by decide +kernel
theorem dX7_stroke_28 : decode cX7_stroke 28 = .ok (.aload_n 0, 1) := by decide +kernel
theorem dX7_stroke_29 : decode cX7_stroke 29 = .ok (.getfield 7, 3) := by decide +kernel
theorem dX7_stroke_32 : decode cX7_stroke 32 = .ok (.bipush 8, 2) := by decide +kernel
theorem dX7_stroke_34 : decode cX7_stroke 34 = .ok (.iload_n 1, 1) := by decide +kernel
theorem dX7_stroke_35 : decode cX7_stroke 35 = .ok (.iadd, 1) := by decide +kernel
theorem dX7_stroke_36 : decode cX7_stroke 36 = .ok (.iaload, 1) := by decide +kernel
theorem dX7_stroke_37 : decode cX7_stroke 37 = .ok (.goto 4, 3) := by decide +kernel
theorem dX7_stroke_40 : decode cX7_stroke 40 = .ok (.iconst 0, 1) := by decide +kernel
theorem dX7_stroke_41 : decode cX7_stroke 41 = .ok (.ireturn, 1) := by decide +kernel
theorem dX7_ofItem_0 : decode cX7_ofItem 0 = .ok (.iload_n 2, 1) := by decide +kernel
theorem dX7_ofItem_1 : decode cX7_ofItem 1 = .ok (.tableswitch 58 0 3 #[31, 37, 44, 51], 31) := by decide +kernel
theorem dX7_ofItem_32 : decode cX7_ofItem 32 = .ok (.aload_n 0, 1) := by decide +kernel
theorem dX7_ofItem_33 : decode cX7_ofItem 33 = .ok (.iload_n 1, 1) := by decide +kernel
theorem dX7_ofItem_34 : decode cX7_ofItem 34 = .ok (.invokevirtual 133, 3) := by decide +kernel
theorem dX7_ofItem_37 : decode cX7_ofItem 37 = .ok (.ireturn, 1) := by decide +kernel
theorem dX7_ofItem_38 : decode cX7_ofItem 38 = .ok (.aload_n 0, 1) := by decide +kernel
theorem dX7_ofItem_39 : decode cX7_ofItem 39 = .ok (.getfield 22, 3) := by decide +kernel
theorem dX7_ofItem_42 : decode cX7_ofItem 42 = .ok (.iload_n 1, 1) := by decide +kernel
theorem dX7_ofItem_43 : decode cX7_ofItem 43 = .ok (.iaload, 1) := by decide +kernel
theorem dX7_ofItem_44 : decode cX7_ofItem 44 = .ok (.ireturn, 1) := by decide +kernel
theorem dX7_ofItem_45 : decode cX7_ofItem 45 = .ok (.aload_n 0, 1) := by decide +kernel
theorem dX7_ofItem_46 : decode cX7_ofItem 46 = .ok (.getfield 25, 3) := by decide +kernel
theorem dX7_ofItem_49 : decode cX7_ofItem 49 = .ok (.iload_n 1, 1) := by decide +kernel
theorem dX7_ofItem_50 : decode cX7_ofItem 50 = .ok (.iaload, 1) := by decide +kernel
theorem dX7_ofItem_51 : decode cX7_ofItem 51 = .ok (.ireturn, 1) := by decide +kernel
theorem dX7_ofItem_52 : decode cX7_ofItem 52 = .ok (.aload_n 0, 1) := by decide +kernel
theorem dX7_ofItem_53 : decode cX7_ofItem 53 = .ok (.getfield 28, 3) := by decide +kernel
theorem dX7_ofItem_56 : decode cX7_ofItem 56 = .ok (.iload_n 1, 1) := by decide +kernel
theorem dX7_ofItem_57 : decode cX7_ofItem 57 = .ok (.iaload, 1) := by decide +kernel
theorem dX7_ofItem_58 : decode cX7_ofItem 58 = .ok (.ireturn, 1) := by decide +kernel
theorem dX7_ofItem_59 : decode cX7_ofItem 59 = .ok (.iconst 0, 1) := by decide +kernel
theorem dX7_ofItem_60 : decode cX7_ofItem 60 = .ok (.istore_n 3, 1) := by decide +kernel
theorem dX7_ofItem_61 : decode cX7_ofItem 61 = .ok (.iconst 0, 1) := by decide +kernel
theorem dX7_ofItem_62 : decode cX7_ofItem 62 = .ok (.istore 4, 2) := by decide +kernel
theorem dX7_ofItem_64 : decode cX7_ofItem 64 = .ok (.iload 4, 2) := by decide +kernel
theorem dX7_ofItem_66 : decode cX7_ofItem 66 = .ok (.aload_n 0, 1) := by decide +kernel
theorem dX7_ofItem_67 : decode cX7_ofItem 67 = .ok (.getfield 7, 3) := by decide +kernel
theorem dX7_ofItem_70 : decode cX7_ofItem 70 = .ok (.iconst 1, 1) := by decide +kernel
theorem dX7_ofItem_71 : decode cX7_ofItem 71 = .ok (.iaload, 1) := by decide +kernel
theorem dX7_ofItem_72 : decode cX7_ofItem 72 = .ok (.if_icmp .ge 42, 3) := by decide +kernel
theorem dX7_ofItem_75 : decode cX7_ofItem 75 = .ok (.iload_n 3, 1) := by decide +kernel
theorem dX7_ofItem_76 : decode cX7_ofItem 76 = .ok (.aload_n 0, 1) := by decide +kernel
theorem dX7_ofItem_77 : decode cX7_ofItem 77 = .ok (.getfield 28, 3) := by decide +kernel
theorem dX7_ofItem_80 : decode cX7_ofItem 80 = .ok (.iload_n 1, 1) := by decide +kernel
theorem dX7_ofItem_81 : decode cX7_ofItem 81 = .ok (.iaload, 1) := by decide +kernel
theorem dX7_ofItem_82 : decode cX7_ofItem 82 = .ok (.iconst (-1), 1) := by decide +kernel
theorem dX7_ofItem_83 : decode cX7_ofItem 83 = .ok (.if_icmp .eq 22, 3) := by decide +kernel
theorem dX7_ofItem_86 : decode cX7_ofItem 86 = .ok (.aload_n 0, 1) := by decide +kernel
theorem dX7_ofItem_87 : decode cX7_ofItem 87 = .ok (.iload 4, 2) := by decide +kernel
theorem dX7_ofItem_89 : decode cX7_ofItem 89 = .ok (.aload_n 0, 1) := by decide +kernel
theorem dX7_ofItem_90 : decode cX7_ofItem 90 = .ok (.getfield 28, 3) := by decide +kernel
theorem dX7_ofItem_93 : decode cX7_ofItem 93 = .ok (.iload_n 1, 1) := by decide +kernel
theorem dX7_ofItem_94 : decode cX7_ofItem 94 = .ok (.iaload, 1) := by decide +kernel
theorem dX7_ofItem_95 : decode cX7_ofItem 95 = .ok (.invokevirtual 46, 3) := by decide +kernel
theorem dX7_ofItem_98 : decode cX7_ofItem 98 = .ok (.ifCond .eq 7, 3) := by decide +kernel
theorem dX7_ofItem_101 : decode cX7_ofItem 101 = .ok (.iconst 1, 1) := by decide +kernel
theorem dX7_ofItem_102 : decode cX7_ofItem 102 = .ok (.goto 4, 3) := by decide +kernel
theorem dX7_ofItem_105 : decode cX7_ofItem 105 = .ok (.iconst 0, 1) := by decide +kernel
theorem dX7_ofItem_106 : decode cX7_ofItem 106 = .ok (.iadd, 1) := by decide +kernel
theorem dX7_ofItem_107 : decode cX7_ofItem 107 = .ok (.istore_n 3, 1) := by decide +kernel
theorem dX7_ofItem_108 : decode cX7_ofItem 108 = .ok (.iinc 4 1, 3) := by decide +kernel
theorem dX7_ofItem_111 : decode cX7_ofItem 111 = .ok (.goto (-47), 3) := by decide +kernel
theorem dX7_ofItem_114 : decode cX7_ofItem 114 = .ok (.iload_n 3, 1) := by decide +kernel
theorem dX7_ofItem_115 : decode cX7_ofItem 115 = .ok (.ireturn, 1) := by decide +kernel
theorem dX7_item_0 : decode cX7_item 0 = .ok (.aload_n 0, 1) := by decide +kernel
theorem dX7_item_1 : decode cX7_item 1 = .ok (.invokevirtual 73, 3) := by decide +kernel
theorem dX7_item_4 : decode cX7_item 4 = .ok (.aload_n 0, 1) := by decide +kernel
theorem dX7_item_5 : decode cX7_item 5 = .ok (.iload_n 1, 1) := by decide +kernel
theorem dX7_item_6 : decode cX7_item 6 = .ok (.iconst 0, 1) := by decide +kernel
theorem dX7_item_7 : decode cX7_item 7 = .ok (.aload_n 0, 1) := by decide +kernel
theorem dX7_item_8 : decode cX7_item 8 = .ok (.getfield 64, 3) := by decide +kernel
theorem dX7_item_11 : decode cX7_item 11 = .ok (.iconst 1, 1) := by decide +kernel
theorem dX7_item_12 : decode cX7_item 12 = .ok (.isub, 1) := by decide +kernel
theorem dX7_item_13 : decode cX7_item 13 = .ok (.invokestatic 38, 3) := by decide +kernel
theorem dX7_item_16 : decode cX7_item 16 = .ok (.ifCond .ne 7, 3) := by decide +kernel
theorem dX7_item_19 : decode cX7_item 19 = .ok (.iconst 1, 1) := by decide +kernel
theorem dX7_item_20 : decode cX7_item 20 = .ok (.goto 17, 3) := by decide +kernel
theorem dX7_item_23 : decode cX7_item 23 = .ok (.iload_n 2, 1) := by decide +kernel
theorem dX7_item_24 : decode cX7_item 24 = .ok (.iconst 0, 1) := by decide +kernel
theorem dX7_item_25 : decode cX7_item 25 = .ok (.iconst 4, 1) := by decide +kernel
theorem dX7_item_26 : decode cX7_item 26 = .ok (.invokestatic 38, 3) := by decide +kernel
theorem dX7_item_29 : decode cX7_item 29 = .ok (.ifCond .ne 7, 3) := by decide +kernel
theorem dX7_item_32 : decode cX7_item 32 = .ok (.iconst 2, 1) := by decide +kernel
theorem dX7_item_33 : decode cX7_item 33 = .ok (.goto 4, 3) := by decide +kernel
theorem dX7_item_36 : decode cX7_item 36 = .ok (.iconst 0, 1) := by decide +kernel
theorem dX7_item_37 : decode cX7_item 37 = .ok (.invokevirtual 79, 3) := by decide +kernel
theorem dX7_item_40 : decode cX7_item 40 = .ok (.ifCond .eq 12, 3) := by decide +kernel
theorem dX7_item_43 : decode cX7_item 43 = .ok (.aload_n 0, 1) := by decide +kernel
theorem dX7_item_44 : decode cX7_item 44 = .ok (.iload_n 1, 1) := by decide +kernel
theorem dX7_item_45 : decode cX7_item 45 = .ok (.iload_n 2, 1) := by decide +kernel
theorem dX7_item_46 : decode cX7_item 46 = .ok (.invokevirtual 136, 3) := by decide +kernel
theorem dX7_item_49 : decode cX7_item 49 = .ok (.goto 4, 3) := by decide +kernel
theorem dX7_item_52 : decode cX7_item 52 = .ok (.iconst 0, 1) := by decide +kernel
theorem dX7_item_53 : decode cX7_item 53 = .ok (.ireturn, 1) := by decide +kernel
theorem dX7_standing_0 : decode cX7_standing 0 = .ok (.iconst 0, 1) := by decide +kernel
theorem dX7_standing_1 : decode cX7_standing 1 = .ok (.istore_n 2, 1) := by decide +kernel
theorem dX7_standing_2 : decode cX7_standing 2 = .ok (.iconst 0, 1) := by decide +kernel
theorem dX7_standing_3 : decode cX7_standing 3 = .ok (.istore_n 3, 1) := by decide +kernel
theorem dX7_standing_4 : decode cX7_standing 4 = .ok (.iload_n 3, 1) := by decide +kernel
theorem dX7_standing_5 : decode cX7_standing 5 = .ok (.aload_n 0, 1) := by decide +kernel
theorem dX7_standing_6 : decode cX7_standing 6 = .ok (.getfield 64, 3) := by decide +kernel
theorem dX7_standing_9 : decode cX7_standing 9 = .ok (.if_icmp .ge 27, 3) := by decide +kernel
theorem dX7_standing_12 : decode cX7_standing 12 = .ok (.iload_n 2, 1) := by decide +kernel
theorem dX7_standing_13 : decode cX7_standing 13 = .ok (.aload_n 0, 1) := by decide +kernel
theorem dX7_standing_14 : decode cX7_standing 14 = .ok (.getfield 28, 3) := by decide +kernel
theorem dX7_standing_17 : decode cX7_standing 17 = .ok (.iload_n 3, 1) := by decide +kernel
theorem dX7_standing_18 : decode cX7_standing 18 = .ok (.iaload, 1) := by decide +kernel
theorem dX7_standing_19 : decode cX7_standing 19 = .ok (.iload_n 1, 1) := by decide +kernel
theorem dX7_standing_20 : decode cX7_standing 20 = .ok (.if_icmp .ne 7, 3) := by decide +kernel
theorem dX7_standing_23 : decode cX7_standing 23 = .ok (.iconst 1, 1) := by decide +kernel
theorem dX7_standing_24 : decode cX7_standing 24 = .ok (.goto 4, 3) := by decide +kernel
theorem dX7_standing_27 : decode cX7_standing 27 = .ok (.iconst 0, 1) := by decide +kernel
theorem dX7_standing_28 : decode cX7_standing 28 = .ok (.iadd, 1) := by decide +kernel
theorem dX7_standing_29 : decode cX7_standing 29 = .ok (.istore_n 2, 1) := by decide +kernel
theorem dX7_standing_30 : decode cX7_standing 30 = .ok (.iinc 3 1, 3) := by decide +kernel
theorem dX7_standing_33 : decode cX7_standing 33 = .ok (.goto (-29), 3) := by decide +kernel
theorem dX7_standing_36 : decode cX7_standing 36 = .ok (.iload_n 2, 1) := by decide +kernel
theorem dX7_standing_37 : decode cX7_standing 37 = .ok (.ireturn, 1) := by decide +kernel
theorem dX7_ofEntry_0 : decode cX7_ofEntry 0 = .ok (.iload_n 2, 1) := by decide +kernel
theorem dX7_ofEntry_1 : decode cX7_ofEntry 1 = .ok (.tableswitch 103 0 9 #[55, 62, 103, 103, 103, 103, 69, 77, 91, 97], 55) := by decide +kernel
theorem dX7_ofEntry_56 : decode cX7_ofEntry 56 = .ok (.aload_n 0, 1) := by decide +kernel
theorem dX7_ofEntry_57 : decode cX7_ofEntry 57 = .ok (.iload_n 1, 1) := by decide +kernel
theorem dX7_ofEntry_58 : decode cX7_ofEntry 58 = .ok (.iconst 5, 1) := by decide +kernel
theorem dX7_ofEntry_59 : decode cX7_ofEntry 59 = .ok (.invokevirtual 42, 3) := by decide +kernel
theorem dX7_ofEntry_62 : decode cX7_ofEntry 62 = .ok (.ireturn, 1) := by decide +kernel
theorem dX7_ofEntry_63 : decode cX7_ofEntry 63 = .ok (.aload_n 0, 1) := by decide +kernel
theorem dX7_ofEntry_64 : decode cX7_ofEntry 64 = .ok (.iload_n 1, 1) := by decide +kernel
theorem dX7_ofEntry_65 : decode cX7_ofEntry 65 = .ok (.iconst 0, 1) := by decide +kernel
theorem dX7_ofEntry_66 : decode cX7_ofEntry 66 = .ok (.invokevirtual 42, 3) := by decide +kernel
theorem dX7_ofEntry_69 : decode cX7_ofEntry 69 = .ok (.ireturn, 1) := by decide +kernel
theorem dX7_ofEntry_70 : decode cX7_ofEntry 70 = .ok (.aload_n 0, 1) := by decide +kernel
theorem dX7_ofEntry_71 : decode cX7_ofEntry 71 = .ok (.iload_n 1, 1) := by decide +kernel
theorem dX7_ofEntry_72 : decode cX7_ofEntry 72 = .ok (.bipush 6, 2) := by decide +kernel
theorem dX7_ofEntry_74 : decode cX7_ofEntry 74 = .ok (.invokevirtual 42, 3) := by decide +kernel
theorem dX7_ofEntry_77 : decode cX7_ofEntry 77 = .ok (.ireturn, 1) := by decide +kernel
theorem dX7_ofEntry_78 : decode cX7_ofEntry 78 = .ok (.aload_n 0, 1) := by decide +kernel
theorem dX7_ofEntry_79 : decode cX7_ofEntry 79 = .ok (.iload_n 1, 1) := by decide +kernel
theorem dX7_ofEntry_80 : decode cX7_ofEntry 80 = .ok (.invokevirtual 60, 3) := by decide +kernel
theorem dX7_ofEntry_83 : decode cX7_ofEntry 83 = .ok (.ifCond .eq 7, 3) := by decide +kernel
theorem dX7_ofEntry_86 : decode cX7_ofEntry 86 = .ok (.iconst 1, 1) := by decide +kernel
theorem dX7_ofEntry_87 : decode cX7_ofEntry 87 = .ok (.goto 4, 3) := by decide +kernel
theorem dX7_ofEntry_90 : decode cX7_ofEntry 90 = .ok (.iconst 0, 1) := by decide +kernel
theorem dX7_ofEntry_91 : decode cX7_ofEntry 91 = .ok (.ireturn, 1) := by decide +kernel
theorem dX7_ofEntry_92 : decode cX7_ofEntry 92 = .ok (.aload_n 0, 1) := by decide +kernel
theorem dX7_ofEntry_93 : decode cX7_ofEntry 93 = .ok (.iload_n 1, 1) := by decide +kernel
theorem dX7_ofEntry_94 : decode cX7_ofEntry 94 = .ok (.invokevirtual 139, 3) := by decide +kernel
theorem dX7_ofEntry_97 : decode cX7_ofEntry 97 = .ok (.ireturn, 1) := by decide +kernel
theorem dX7_ofEntry_98 : decode cX7_ofEntry 98 = .ok (.aload_n 0, 1) := by decide +kernel
theorem dX7_ofEntry_99 : decode cX7_ofEntry 99 = .ok (.iload_n 1, 1) := by decide +kernel
theorem dX7_ofEntry_100 : decode cX7_ofEntry 100 = .ok (.invokevirtual 142, 3) := by decide +kernel
theorem dX7_ofEntry_103 : decode cX7_ofEntry 103 = .ok (.ireturn, 1) := by decide +kernel
theorem dX7_ofEntry_104 : decode cX7_ofEntry 104 = .ok (.aload_n 0, 1) := by decide +kernel
theorem dX7_ofEntry_105 : decode cX7_ofEntry 105 = .ok (.iload_n 1, 1) := by decide +kernel
theorem dX7_ofEntry_106 : decode cX7_ofEntry 106 = .ok (.iconst 1, 1) := by decide +kernel
theorem dX7_ofEntry_107 : decode cX7_ofEntry 107 = .ok (.iload_n 2, 1) := by decide +kernel
theorem dX7_ofEntry_108 : decode cX7_ofEntry 108 = .ok (.iadd, 1) := by decide +kernel
theorem dX7_ofEntry_109 : decode cX7_ofEntry 109 = .ok (.iconst 2, 1) := by decide +kernel
theorem dX7_ofEntry_110 : decode cX7_ofEntry 110 = .ok (.isub, 1) := by decide +kernel
theorem dX7_ofEntry_111 : decode cX7_ofEntry 111 = .ok (.invokevirtual 42, 3) := by decide +kernel
theorem dX7_ofEntry_114 : decode cX7_ofEntry 114 = .ok (.ireturn, 1) := by decide +kernel
theorem dX7_entry_0 : decode cX7_entry 0 = .ok (.aload_n 0, 1) := by decide +kernel
theorem dX7_entry_1 : decode cX7_entry 1 = .ok (.invokevirtual 73, 3) := by decide +kernel
theorem dX7_entry_4 : decode cX7_entry 4 = .ok (.aload_n 0, 1) := by decide +kernel
theorem dX7_entry_5 : decode cX7_entry 5 = .ok (.aload_n 0, 1) := by decide +kernel
theorem dX7_entry_6 : decode cX7_entry 6 = .ok (.iload_n 1, 1) := by decide +kernel
theorem dX7_entry_7 : decode cX7_entry 7 = .ok (.invokevirtual 99, 3) := by decide +kernel
theorem dX7_entry_10 : decode cX7_entry 10 = .ok (.ifCond .ne 7, 3) := by decide +kernel
theorem dX7_entry_13 : decode cX7_entry 13 = .ok (.iconst 1, 1) := by decide +kernel
theorem dX7_entry_14 : decode cX7_entry 14 = .ok (.goto 18, 3) := by decide +kernel
theorem dX7_entry_17 : decode cX7_entry 17 = .ok (.iload_n 2, 1) := by decide +kernel
theorem dX7_entry_18 : decode cX7_entry 18 = .ok (.iconst 0, 1) := by decide +kernel
theorem dX7_entry_19 : decode cX7_entry 19 = .ok (.bipush 9, 2) := by decide +kernel
theorem dX7_entry_21 : decode cX7_entry 21 = .ok (.invokestatic 38, 3) := by decide +kernel
theorem dX7_entry_24 : decode cX7_entry 24 = .ok (.ifCond .ne 7, 3) := by decide +kernel
theorem dX7_entry_27 : decode cX7_entry 27 = .ok (.iconst 2, 1) := by decide +kernel
theorem dX7_entry_28 : decode cX7_entry 28 = .ok (.goto 4, 3) := by decide +kernel
theorem dX7_entry_31 : decode cX7_entry 31 = .ok (.iconst 0, 1) := by decide +kernel
theorem dX7_entry_32 : decode cX7_entry 32 = .ok (.invokevirtual 79, 3) := by decide +kernel
theorem dX7_entry_35 : decode cX7_entry 35 = .ok (.ifCond .eq 12, 3) := by decide +kernel
theorem dX7_entry_38 : decode cX7_entry 38 = .ok (.aload_n 0, 1) := by decide +kernel
theorem dX7_entry_39 : decode cX7_entry 39 = .ok (.iload_n 1, 1) := by decide +kernel
theorem dX7_entry_40 : decode cX7_entry 40 = .ok (.iload_n 2, 1) := by decide +kernel
theorem dX7_entry_41 : decode cX7_entry 41 = .ok (.invokevirtual 145, 3) := by decide +kernel
theorem dX7_entry_44 : decode cX7_entry 44 = .ok (.goto 4, 3) := by decide +kernel
theorem dX7_entry_47 : decode cX7_entry 47 = .ok (.iconst 0, 1) := by decide +kernel
theorem dX7_entry_48 : decode cX7_entry 48 = .ok (.ireturn, 1) := by decide +kernel
theorem dX7_counted_0 : decode cX7_counted 0 = .ok (.iload_n 1, 1) := by decide +kernel
theorem dX7_counted_1 : decode cX7_counted 1 = .ok (.tableswitch 85 0 9 #[55, 62, 62, 67, 73, 85, 85, 85, 85, 80], 55) := by decide +kernel
theorem dX7_counted_56 : decode cX7_counted 56 = .ok (.aload_n 0, 1) := by decide +kernel
theorem dX7_counted_57 : decode cX7_counted 57 = .ok (.getfield 7, 3) := by decide +kernel
theorem dX7_counted_60 : decode cX7_counted 60 = .ok (.iconst 0, 1) := by decide +kernel
theorem dX7_counted_61 : decode cX7_counted 61 = .ok (.iaload, 1) := by decide +kernel
theorem dX7_counted_62 : decode cX7_counted 62 = .ok (.ireturn, 1) := by decide +kernel
theorem dX7_counted_63 : decode cX7_counted 63 = .ok (.aload_n 0, 1) := by decide +kernel
theorem dX7_counted_64 : decode cX7_counted 64 = .ok (.getfield 64, 3) := by decide +kernel
theorem dX7_counted_67 : decode cX7_counted 67 = .ok (.ireturn, 1) := by decide +kernel
theorem dX7_counted_68 : decode cX7_counted 68 = .ok (.aload_n 0, 1) := by decide +kernel
theorem dX7_counted_69 : decode cX7_counted 69 = .ok (.iconst (-1), 1) := by decide +kernel
theorem dX7_counted_70 : decode cX7_counted 70 = .ok (.invokevirtual 139, 3) := by decide +kernel
theorem dX7_counted_73 : decode cX7_counted 73 = .ok (.ireturn, 1) := by decide +kernel
theorem dX7_counted_74 : decode cX7_counted 74 = .ok (.aload_n 0, 1) := by decide +kernel
theorem dX7_counted_75 : decode cX7_counted 75 = .ok (.getfield 7, 3) := by decide +kernel
theorem dX7_counted_78 : decode cX7_counted 78 = .ok (.iconst 1, 1) := by decide +kernel
theorem dX7_counted_79 : decode cX7_counted 79 = .ok (.iaload, 1) := by decide +kernel
theorem dX7_counted_80 : decode cX7_counted 80 = .ok (.ireturn, 1) := by decide +kernel
theorem dX7_counted_81 : decode cX7_counted 81 = .ok (.aload_n 0, 1) := by decide +kernel
theorem dX7_counted_82 : decode cX7_counted 82 = .ok (.getfield 106, 3) := by decide +kernel
theorem dX7_counted_85 : decode cX7_counted 85 = .ok (.ireturn, 1) := by decide +kernel
theorem dX7_counted_86 : decode cX7_counted 86 = .ok (.aload_n 0, 1) := by decide +kernel
theorem dX7_counted_87 : decode cX7_counted 87 = .ok (.getfield 7, 3) := by decide +kernel
theorem dX7_counted_90 : decode cX7_counted 90 = .ok (.iconst 4, 1) := by decide +kernel
theorem dX7_counted_91 : decode cX7_counted 91 = .ok (.iload_n 1, 1) := by decide +kernel
theorem dX7_counted_92 : decode cX7_counted 92 = .ok (.iadd, 1) := by decide +kernel
theorem dX7_counted_93 : decode cX7_counted 93 = .ok (.iconst 5, 1) := by decide +kernel
theorem dX7_counted_94 : decode cX7_counted 94 = .ok (.isub, 1) := by decide +kernel
theorem dX7_counted_95 : decode cX7_counted 95 = .ok (.iaload, 1) := by decide +kernel
theorem dX7_counted_96 : decode cX7_counted 96 = .ok (.ireturn, 1) := by decide +kernel
theorem dX7_count_0 : decode cX7_count 0 = .ok (.aload_n 0, 1) := by decide +kernel
theorem dX7_count_1 : decode cX7_count 1 = .ok (.invokevirtual 73, 3) := by decide +kernel
theorem dX7_count_4 : decode cX7_count 4 = .ok (.aload_n 0, 1) := by decide +kernel
theorem dX7_count_5 : decode cX7_count 5 = .ok (.iload_n 1, 1) := by decide +kernel
theorem dX7_count_6 : decode cX7_count 6 = .ok (.iconst 0, 1) := by decide +kernel
theorem dX7_count_7 : decode cX7_count 7 = .ok (.bipush 9, 2) := by decide +kernel
theorem dX7_count_9 : decode cX7_count 9 = .ok (.invokestatic 38, 3) := by decide +kernel
theorem dX7_count_12 : decode cX7_count 12 = .ok (.ifCond .eq 7, 3) := by decide +kernel
theorem dX7_count_15 : decode cX7_count 15 = .ok (.iconst 0, 1) := by decide +kernel
theorem dX7_count_16 : decode cX7_count 16 = .ok (.goto 4, 3) := by decide +kernel
theorem dX7_count_19 : decode cX7_count 19 = .ok (.iconst 1, 1) := by decide +kernel
theorem dX7_count_20 : decode cX7_count 20 = .ok (.invokevirtual 79, 3) := by decide +kernel
theorem dX7_count_23 : decode cX7_count 23 = .ok (.ifCond .eq 11, 3) := by decide +kernel
theorem dX7_count_26 : decode cX7_count 26 = .ok (.aload_n 0, 1) := by decide +kernel
theorem dX7_count_27 : decode cX7_count 27 = .ok (.iload_n 1, 1) := by decide +kernel
theorem dX7_count_28 : decode cX7_count 28 = .ok (.invokevirtual 148, 3) := by decide +kernel
theorem dX7_count_31 : decode cX7_count 31 = .ok (.goto 4, 3) := by decide +kernel
theorem dX7_count_34 : decode cX7_count 34 = .ok (.iconst 0, 1) := by decide +kernel
theorem dX7_count_35 : decode cX7_count 35 = .ok (.ireturn, 1) := by decide +kernel
theorem dX7_setting_0 : decode cX7_setting 0 = .ok (.aload_n 0, 1) := by decide +kernel
theorem dX7_setting_1 : decode cX7_setting 1 = .ok (.iload_n 1, 1) := by decide +kernel
theorem dX7_setting_2 : decode cX7_setting 2 = .ok (.iconst 0, 1) := by decide +kernel
theorem dX7_setting_3 : decode cX7_setting 3 = .ok (.iconst 1, 1) := by decide +kernel
theorem dX7_setting_4 : decode cX7_setting 4 = .ok (.invokestatic 38, 3) := by decide +kernel
theorem dX7_setting_7 : decode cX7_setting 7 = .ok (.ifCond .eq 7, 3) := by decide +kernel
theorem dX7_setting_10 : decode cX7_setting 10 = .ok (.iconst 0, 1) := by decide +kernel
theorem dX7_setting_11 : decode cX7_setting 11 = .ok (.goto 4, 3) := by decide +kernel
theorem dX7_setting_14 : decode cX7_setting 14 = .ok (.iconst 1, 1) := by decide +kernel
theorem dX7_setting_15 : decode cX7_setting 15 = .ok (.invokevirtual 79, 3) := by decide +kernel
theorem dX7_setting_18 : decode cX7_setting 18 = .ok (.ifCond .eq 14, 3) := by decide +kernel
theorem dX7_setting_21 : decode cX7_setting 21 = .ok (.aload_n 0, 1) := by decide +kernel
theorem dX7_setting_22 : decode cX7_setting 22 = .ok (.getfield 7, 3) := by decide +kernel
theorem dX7_setting_25 : decode cX7_setting 25 = .ok (.iconst 2, 1) := by decide +kernel
theorem dX7_setting_26 : decode cX7_setting 26 = .ok (.iload_n 1, 1) := by decide +kernel
theorem dX7_setting_27 : decode cX7_setting 27 = .ok (.iadd, 1) := by decide +kernel
theorem dX7_setting_28 : decode cX7_setting 28 = .ok (.iaload, 1) := by decide +kernel
theorem dX7_setting_29 : decode cX7_setting 29 = .ok (.goto 4, 3) := by decide +kernel
theorem dX7_setting_32 : decode cX7_setting 32 = .ok (.iconst 0, 1) := by decide +kernel
theorem dX7_setting_33 : decode cX7_setting 33 = .ok (.ireturn, 1) := by decide +kernel
theorem dX7_struck_0 : decode cX7_struck 0 = .ok (.aload_n 0, 1) := by decide +kernel
theorem dX7_struck_1 : decode cX7_struck 1 = .ok (.invokevirtual 73, 3) := by decide +kernel
theorem dX7_struck_4 : decode cX7_struck 4 = .ok (.aload_n 0, 1) := by decide +kernel
theorem dX7_struck_5 : decode cX7_struck 5 = .ok (.getfield 19, 3) := by decide +kernel
theorem dX7_struck_8 : decode cX7_struck 8 = .ok (.aload_n 0, 1) := by decide +kernel
theorem dX7_struck_9 : decode cX7_struck 9 = .ok (.getfield 54, 3) := by decide +kernel
theorem dX7_struck_12 : decode cX7_struck 12 = .ok (.iload_n 1, 1) := by decide +kernel
theorem dX7_struck_13 : decode cX7_struck 13 = .ok (.iastore, 1) := by decide +kernel
theorem dX7_struck_14 : decode cX7_struck 14 = .ok (.aload_n 0, 1) := by decide +kernel
theorem dX7_struck_15 : decode cX7_struck 15 = .ok (.dup, 1) := by decide +kernel
theorem dX7_struck_16 : decode cX7_struck 16 = .ok (.getfield 54, 3) := by decide +kernel
theorem dX7_struck_19 : decode cX7_struck 19 = .ok (.iconst 1, 1) := by decide +kernel
theorem dX7_struck_20 : decode cX7_struck 20 = .ok (.iadd, 1) := by decide +kernel
theorem dX7_struck_21 : decode cX7_struck 21 = .ok (.putfield 54, 3) := by decide +kernel
theorem dX7_struck_24 : decode cX7_struck 24 = .ok (.aload_n 0, 1) := by decide +kernel
theorem dX7_struck_25 : decode cX7_struck 25 = .ok (.invokevirtual 70, 3) := by decide +kernel
theorem dX7_struck_28 : decode cX7_struck 28 = .ok (.iload_n 2, 1) := by decide +kernel
theorem dX7_struck_29 : decode cX7_struck 29 = .ok (.ifCond .ne 16, 3) := by decide +kernel
theorem dX7_struck_32 : decode cX7_struck 32 = .ok (.aload_n 0, 1) := by decide +kernel
theorem dX7_struck_33 : decode cX7_struck 33 = .ok (.aload_n 0, 1) := by decide +kernel
theorem dX7_struck_34 : decode cX7_struck 34 = .ok (.getfield 64, 3) := by decide +kernel
theorem dX7_struck_37 : decode cX7_struck 37 = .ok (.iconst 1, 1) := by decide +kernel
theorem dX7_struck_38 : decode cX7_struck 38 = .ok (.isub, 1) := by decide +kernel
theorem dX7_struck_39 : decode cX7_struck 39 = .ok (.invokevirtual 133, 3) := by decide +kernel
theorem dX7_struck_42 : decode cX7_struck 42 = .ok (.goto 26, 3) := by decide +kernel
theorem dX7_struck_45 : decode cX7_struck 45 = .ok (.iload_n 2, 1) := by decide +kernel
theorem dX7_struck_46 : decode cX7_struck 46 = .ok (.iconst 1, 1) := by decide +kernel
theorem dX7_struck_47 : decode cX7_struck 47 = .ok (.if_icmp .ne 17, 3) := by decide +kernel
theorem dX7_struck_50 : decode cX7_struck 50 = .ok (.aload_n 0, 1) := by decide +kernel
theorem dX7_struck_51 : decode cX7_struck 51 = .ok (.getfield 25, 3) := by decide +kernel
theorem dX7_struck_54 : decode cX7_struck 54 = .ok (.aload_n 0, 1) := by decide +kernel
theorem dX7_struck_55 : decode cX7_struck 55 = .ok (.getfield 64, 3) := by decide +kernel
theorem dX7_struck_58 : decode cX7_struck 58 = .ok (.iconst 1, 1) := by decide +kernel
theorem dX7_struck_59 : decode cX7_struck 59 = .ok (.isub, 1) := by decide +kernel
theorem dX7_struck_60 : decode cX7_struck 60 = .ok (.iaload, 1) := by decide +kernel
theorem dX7_struck_61 : decode cX7_struck 61 = .ok (.goto 7, 3) := by decide +kernel
theorem dX7_struck_64 : decode cX7_struck 64 = .ok (.aload_n 0, 1) := by decide +kernel
theorem dX7_struck_65 : decode cX7_struck 65 = .ok (.getfield 64, 3) := by decide +kernel
theorem dX7_struck_68 : decode cX7_struck 68 = .ok (.ireturn, 1) := by decide +kernel
theorem dX7_ifStruck_0 : decode cX7_ifStruck 0 = .ok (.aload_n 0, 1) := by decide +kernel
theorem dX7_ifStruck_1 : decode cX7_ifStruck 1 = .ok (.iload_n 1, 1) := by decide +kernel
theorem dX7_ifStruck_2 : decode cX7_ifStruck 2 = .ok (.iconst 1, 1) := by decide +kernel
theorem dX7_ifStruck_3 : decode cX7_ifStruck 3 = .ok (.sipush 1023, 3) := by decide +kernel
theorem dX7_ifStruck_6 : decode cX7_ifStruck 6 = .ok (.invokestatic 38, 3) := by decide +kernel
theorem dX7_ifStruck_9 : decode cX7_ifStruck 9 = .ok (.ifCond .eq 16, 3) := by decide +kernel
theorem dX7_ifStruck_12 : decode cX7_ifStruck 12 = .ok (.iload_n 2, 1) := by decide +kernel
theorem dX7_ifStruck_13 : decode cX7_ifStruck 13 = .ok (.iconst 0, 1) := by decide +kernel
theorem dX7_ifStruck_14 : decode cX7_ifStruck 14 = .ok (.iconst 2, 1) := by decide +kernel
theorem dX7_ifStruck_15 : decode cX7_ifStruck 15 = .ok (.invokestatic 38, 3) := by decide +kernel
theorem dX7_ifStruck_18 : decode cX7_ifStruck 18 = .ok (.ifCond .eq 7, 3) := by decide +kernel
theorem dX7_ifStruck_21 : decode cX7_ifStruck 21 = .ok (.iconst 0, 1) := by decide +kernel
theorem dX7_ifStruck_22 : decode cX7_ifStruck 22 = .ok (.goto 4, 3) := by decide +kernel
theorem dX7_ifStruck_25 : decode cX7_ifStruck 25 = .ok (.iconst 1, 1) := by decide +kernel
theorem dX7_ifStruck_26 : decode cX7_ifStruck 26 = .ok (.invokevirtual 79, 3) := by decide +kernel
theorem dX7_ifStruck_29 : decode cX7_ifStruck 29 = .ok (.ifCond .eq 12, 3) := by decide +kernel
theorem dX7_ifStruck_32 : decode cX7_ifStruck 32 = .ok (.aload_n 0, 1) := by decide +kernel
theorem dX7_ifStruck_33 : decode cX7_ifStruck 33 = .ok (.iload_n 1, 1) := by decide +kernel
theorem dX7_ifStruck_34 : decode cX7_ifStruck 34 = .ok (.iload_n 2, 1) := by decide +kernel
theorem dX7_ifStruck_35 : decode cX7_ifStruck 35 = .ok (.invokevirtual 151, 3) := by decide +kernel
theorem dX7_ifStruck_38 : decode cX7_ifStruck 38 = .ok (.goto 4, 3) := by decide +kernel
theorem dX7_ifStruck_41 : decode cX7_ifStruck 41 = .ok (.iconst 0, 1) := by decide +kernel
theorem dX7_ifStruck_42 : decode cX7_ifStruck 42 = .ok (.ireturn, 1) := by decide +kernel
theorem dX7_begins_0 : decode cX7_begins 0 = .ok (.aload_n 0, 1) := by decide +kernel
theorem dX7_begins_1 : decode cX7_begins 1 = .ok (.getfield 7, 3) := by decide +kernel
theorem dX7_begins_4 : decode cX7_begins 4 = .ok (.iconst 0, 1) := by decide +kernel
theorem dX7_begins_5 : decode cX7_begins 5 = .ok (.iaload, 1) := by decide +kernel
theorem dX7_begins_6 : decode cX7_begins 6 = .ok (.iload_n 1, 1) := by decide +kernel
theorem dX7_begins_7 : decode cX7_begins 7 = .ok (.isub, 1) := by decide +kernel
theorem dX7_begins_8 : decode cX7_begins 8 = .ok (.istore_n 2, 1) := by decide +kernel
theorem dX7_begins_9 : decode cX7_begins 9 = .ok (.iconst 0, 1) := by decide +kernel
theorem dX7_begins_10 : decode cX7_begins 10 = .ok (.istore_n 3, 1) := by decide +kernel
theorem dX7_begins_11 : decode cX7_begins 11 = .ok (.iconst 0, 1) := by decide +kernel
theorem dX7_begins_12 : decode cX7_begins 12 = .ok (.istore 4, 2) := by decide +kernel
theorem dX7_begins_14 : decode cX7_begins 14 = .ok (.iload 4, 2) := by decide +kernel
theorem dX7_begins_16 : decode cX7_begins 16 = .ok (.aload_n 0, 1) := by decide +kernel
theorem dX7_begins_17 : decode cX7_begins 17 = .ok (.getfield 7, 3) := by decide +kernel
theorem dX7_begins_20 : decode cX7_begins 20 = .ok (.iconst 1, 1) := by decide +kernel
theorem dX7_begins_21 : decode cX7_begins 21 = .ok (.iaload, 1) := by decide +kernel
theorem dX7_begins_22 : decode cX7_begins 22 = .ok (.if_icmp .ge 96, 3) := by decide +kernel
theorem dX7_begins_25 : decode cX7_begins 25 = .ok (.iload_n 2, 1) := by decide +kernel
theorem dX7_begins_26 : decode cX7_begins 26 = .ok (.ifCond .lt 92, 3) := by decide +kernel
theorem dX7_begins_29 : decode cX7_begins 29 = .ok (.aload_n 0, 1) := by decide +kernel
theorem dX7_begins_30 : decode cX7_begins 30 = .ok (.iload 4, 2) := by decide +kernel
theorem dX7_begins_32 : decode cX7_begins 32 = .ok (.iconst 0, 1) := by decide +kernel
theorem dX7_begins_33 : decode cX7_begins 33 = .ok (.invokevirtual 42, 3) := by decide +kernel
theorem dX7_begins_36 : decode cX7_begins 36 = .ok (.iload_n 1, 1) := by decide +kernel
theorem dX7_begins_37 : decode cX7_begins 37 = .ok (.if_icmp .le 7, 3) := by decide +kernel
theorem dX7_begins_40 : decode cX7_begins 40 = .ok (.iconst 1, 1) := by decide +kernel
theorem dX7_begins_41 : decode cX7_begins 41 = .ok (.goto 4, 3) := by decide +kernel
theorem dX7_begins_44 : decode cX7_begins 44 = .ok (.iconst 0, 1) := by decide +kernel
theorem dX7_begins_45 : decode cX7_begins 45 = .ok (.istore 5, 2) := by decide +kernel
theorem dX7_begins_47 : decode cX7_begins 47 = .ok (.iconst 0, 1) := by decide +kernel
theorem dX7_begins_48 : decode cX7_begins 48 = .ok (.istore 6, 2) := by decide +kernel
theorem dX7_begins_50 : decode cX7_begins 50 = .ok (.iload 6, 2) := by decide +kernel
theorem dX7_begins_52 : decode cX7_begins 52 = .ok (.iload_n 1, 1) := by decide +kernel
theorem dX7_begins_53 : decode cX7_begins 53 = .ok (.if_icmp .ge 46, 3) := by decide +kernel
theorem dX7_begins_56 : decode cX7_begins 56 = .ok (.iload 5, 2) := by decide +kernel
theorem dX7_begins_58 : decode cX7_begins 58 = .ok (.ifCond .eq 41, 3) := by decide +kernel
theorem dX7_begins_61 : decode cX7_begins 61 = .ok (.aload_n 0, 1) := by decide +kernel
theorem dX7_begins_62 : decode cX7_begins 62 = .ok (.iload 4, 2) := by decide +kernel
theorem dX7_begins_64 : decode cX7_begins 64 = .ok (.iconst 1, 1) := by decide +kernel
theorem dX7_begins_65 : decode cX7_begins 65 = .ok (.iload 6, 2) := by decide +kernel
theorem dX7_begins_67 : decode cX7_begins 67 = .ok (.iadd, 1) := by decide +kernel
theorem dX7_begins_68 : decode cX7_begins 68 = .ok (.invokevirtual 42, 3) := by decide +kernel
theorem dX7_begins_71 : decode cX7_begins 71 = .ok (.aload_n 0, 1) := by decide +kernel
theorem dX7_begins_72 : decode cX7_begins 72 = .ok (.getfield 7, 3) := by decide +kernel
theorem dX7_begins_75 : decode cX7_begins 75 = .ok (.bipush 8, 2) := by decide +kernel
theorem dX7_begins_77 : decode cX7_begins 77 = .ok (.iload_n 2, 1) := by decide +kernel
theorem dX7_begins_78 : decode cX7_begins 78 = .ok (.iadd, 1) := by decide +kernel
theorem dX7_begins_79 : decode cX7_begins 79 = .ok (.iload 6, 2) := by decide +kernel
theorem dX7_begins_81 : decode cX7_begins 81 = .ok (.iadd, 1) := by decide +kernel
theorem dX7_begins_82 : decode cX7_begins 82 = .ok (.iaload, 1) := by decide +kernel
theorem dX7_begins_83 : decode cX7_begins 83 = .ok (.if_icmp .ne 7, 3) := by decide +kernel
theorem dX7_begins_86 : decode cX7_begins 86 = .ok (.iconst 1, 1) := by decide +kernel
theorem dX7_begins_87 : decode cX7_begins 87 = .ok (.goto 4, 3) := by decide +kernel
theorem dX7_begins_90 : decode cX7_begins 90 = .ok (.iconst 0, 1) := by decide +kernel
theorem dX7_begins_91 : decode cX7_begins 91 = .ok (.istore 5, 2) := by decide +kernel
theorem dX7_begins_93 : decode cX7_begins 93 = .ok (.iinc 6 1, 3) := by decide +kernel
theorem dX7_begins_96 : decode cX7_begins 96 = .ok (.goto (-46), 3) := by decide +kernel
theorem dX7_begins_99 : decode cX7_begins 99 = .ok (.iload_n 3, 1) := by decide +kernel
theorem dX7_begins_100 : decode cX7_begins 100 = .ok (.iload 5, 2) := by decide +kernel
theorem dX7_begins_102 : decode cX7_begins 102 = .ok (.ifCond .eq 7, 3) := by decide +kernel
theorem dX7_begins_105 : decode cX7_begins 105 = .ok (.iconst 1, 1) := by decide +kernel
theorem dX7_begins_106 : decode cX7_begins 106 = .ok (.goto 4, 3) := by decide +kernel
theorem dX7_begins_109 : decode cX7_begins 109 = .ok (.iconst 0, 1) := by decide +kernel
theorem dX7_begins_110 : decode cX7_begins 110 = .ok (.iadd, 1) := by decide +kernel
theorem dX7_begins_111 : decode cX7_begins 111 = .ok (.istore_n 3, 1) := by decide +kernel
theorem dX7_begins_112 : decode cX7_begins 112 = .ok (.iinc 4 1, 3) := by decide +kernel
theorem dX7_begins_115 : decode cX7_begins 115 = .ok (.goto (-101), 3) := by decide +kernel
theorem dX7_begins_118 : decode cX7_begins 118 = .ok (.iload_n 3, 1) := by decide +kernel
theorem dX7_begins_119 : decode cX7_begins 119 = .ok (.ireturn, 1) := by decide +kernel
theorem dX7_begun_0 : decode cX7_begun 0 = .ok (.aload_n 0, 1) := by decide +kernel
theorem dX7_begun_1 : decode cX7_begun 1 = .ok (.iload_n 1, 1) := by decide +kernel
theorem dX7_begun_2 : decode cX7_begun 2 = .ok (.iconst 1, 1) := by decide +kernel
theorem dX7_begun_3 : decode cX7_begun 3 = .ok (.iconst 3, 1) := by decide +kernel
theorem dX7_begun_4 : decode cX7_begun 4 = .ok (.invokestatic 38, 3) := by decide +kernel
theorem dX7_begun_7 : decode cX7_begun 7 = .ok (.ifCond .eq 7, 3) := by decide +kernel
theorem dX7_begun_10 : decode cX7_begun 10 = .ok (.iconst 0, 1) := by decide +kernel
theorem dX7_begun_11 : decode cX7_begun 11 = .ok (.goto 4, 3) := by decide +kernel
theorem dX7_begun_14 : decode cX7_begun 14 = .ok (.iconst 1, 1) := by decide +kernel
theorem dX7_begun_15 : decode cX7_begun 15 = .ok (.invokevirtual 79, 3) := by decide +kernel
theorem dX7_begun_18 : decode cX7_begun 18 = .ok (.ifCond .eq 11, 3) := by decide +kernel
theorem dX7_begun_21 : decode cX7_begun 21 = .ok (.aload_n 0, 1) := by decide +kernel
theorem dX7_begun_22 : decode cX7_begun 22 = .ok (.iload_n 1, 1) := by decide +kernel
theorem dX7_begun_23 : decode cX7_begun 23 = .ok (.invokevirtual 154, 3) := by decide +kernel
theorem dX7_begun_26 : decode cX7_begun 26 = .ok (.goto 4, 3) := by decide +kernel
theorem dX7_begun_29 : decode cX7_begun 29 = .ok (.iconst 0, 1) := by decide +kernel
theorem dX7_begun_30 : decode cX7_begun 30 = .ok (.ireturn, 1) := by decide +kernel
theorem dX7_shortestFor_0 : decode cX7_shortestFor 0 = .ok (.iconst (-1), 1) := by decide +kernel
theorem dX7_shortestFor_1 : decode cX7_shortestFor 1 = .ok (.istore_n 2, 1) := by decide +kernel
theorem dX7_shortestFor_2 : decode cX7_shortestFor 2 = .ok (.iconst 0, 1) := by decide +kernel
theorem dX7_shortestFor_3 : decode cX7_shortestFor 3 = .ok (.istore_n 3, 1) := by decide +kernel
theorem dX7_shortestFor_4 : decode cX7_shortestFor 4 = .ok (.iload_n 3, 1) := by decide +kernel
theorem dX7_shortestFor_5 : decode cX7_shortestFor 5 = .ok (.aload_n 0, 1) := by decide +kernel
theorem dX7_shortestFor_6 : decode cX7_shortestFor 6 = .ok (.getfield 7, 3) := by decide +kernel
theorem dX7_shortestFor_9 : decode cX7_shortestFor 9 = .ok (.iconst 1, 1) := by decide +kernel
theorem dX7_shortestFor_10 : decode cX7_shortestFor 10 = .ok (.iaload, 1) := by decide +kernel
theorem dX7_shortestFor_11 : decode cX7_shortestFor 11 = .ok (.if_icmp .ge 104, 3) := by decide +kernel
theorem dX7_shortestFor_14 : decode cX7_shortestFor 14 = .ok (.iload_n 2, 1) := by decide +kernel
theorem dX7_shortestFor_15 : decode cX7_shortestFor 15 = .ok (.iconst (-1), 1) := by decide +kernel
theorem dX7_shortestFor_16 : decode cX7_shortestFor 16 = .ok (.if_icmp .ne 7, 3) := by decide +kernel
theorem dX7_shortestFor_19 : decode cX7_shortestFor 19 = .ok (.iconst 1, 1) := by decide +kernel
theorem dX7_shortestFor_20 : decode cX7_shortestFor 20 = .ok (.goto 31, 3) := by decide +kernel
theorem dX7_shortestFor_23 : decode cX7_shortestFor 23 = .ok (.bipush 100, 2) := by decide +kernel
theorem dX7_shortestFor_25 : decode cX7_shortestFor 25 = .ok (.aload_n 0, 1) := by decide +kernel
theorem dX7_shortestFor_26 : decode cX7_shortestFor 26 = .ok (.iload_n 2, 1) := by decide +kernel
theorem dX7_shortestFor_27 : decode cX7_shortestFor 27 = .ok (.iconst 0, 1) := by decide +kernel
theorem dX7_shortestFor_28 : decode cX7_shortestFor 28 = .ok (.invokevirtual 42, 3) := by decide +kernel
theorem dX7_shortestFor_31 : decode cX7_shortestFor 31 = .ok (.aload_n 0, 1) := by decide +kernel
theorem dX7_shortestFor_32 : decode cX7_shortestFor 32 = .ok (.iload_n 3, 1) := by decide +kernel
theorem dX7_shortestFor_33 : decode cX7_shortestFor 33 = .ok (.iconst 0, 1) := by decide +kernel
theorem dX7_shortestFor_34 : decode cX7_shortestFor 34 = .ok (.invokevirtual 42, 3) := by decide +kernel
theorem dX7_shortestFor_37 : decode cX7_shortestFor 37 = .ok (.isub, 1) := by decide +kernel
theorem dX7_shortestFor_38 : decode cX7_shortestFor 38 = .ok (.imul, 1) := by decide +kernel
theorem dX7_shortestFor_39 : decode cX7_shortestFor 39 = .ok (.aload_n 0, 1) := by decide +kernel
theorem dX7_shortestFor_40 : decode cX7_shortestFor 40 = .ok (.iload_n 2, 1) := by decide +kernel
theorem dX7_shortestFor_41 : decode cX7_shortestFor 41 = .ok (.invokevirtual 142, 3) := by decide +kernel
theorem dX7_shortestFor_44 : decode cX7_shortestFor 44 = .ok (.iadd, 1) := by decide +kernel
theorem dX7_shortestFor_45 : decode cX7_shortestFor 45 = .ok (.aload_n 0, 1) := by decide +kernel
theorem dX7_shortestFor_46 : decode cX7_shortestFor 46 = .ok (.iload_n 3, 1) := by decide +kernel
theorem dX7_shortestFor_47 : decode cX7_shortestFor 47 = .ok (.invokevirtual 142, 3) := by decide +kernel
theorem dX7_shortestFor_50 : decode cX7_shortestFor 50 = .ok (.isub, 1) := by decide +kernel
theorem dX7_shortestFor_51 : decode cX7_shortestFor 51 = .ok (.istore 4, 2) := by decide +kernel
theorem dX7_shortestFor_53 : decode cX7_shortestFor 53 = .ok (.aload_n 0, 1) := by decide +kernel
theorem dX7_shortestFor_54 : decode cX7_shortestFor 54 = .ok (.iload_n 3, 1) := by decide +kernel
theorem dX7_shortestFor_55 : decode cX7_shortestFor 55 = .ok (.iconst 5, 1) := by decide +kernel
theorem dX7_shortestFor_56 : decode cX7_shortestFor 56 = .ok (.invokevirtual 42, 3) := by decide +kernel
theorem dX7_shortestFor_59 : decode cX7_shortestFor 59 = .ok (.iload_n 1, 1) := by decide +kernel
theorem dX7_shortestFor_60 : decode cX7_shortestFor 60 = .ok (.if_icmp .ne 30, 3) := by decide +kernel
theorem dX7_shortestFor_63 : decode cX7_shortestFor 63 = .ok (.aload_n 0, 1) := by decide +kernel
theorem dX7_shortestFor_64 : decode cX7_shortestFor 64 = .ok (.iload_n 3, 1) := by decide +kernel
theorem dX7_shortestFor_65 : decode cX7_shortestFor 65 = .ok (.iconst 0, 1) := by decide +kernel
theorem dX7_shortestFor_66 : decode cX7_shortestFor 66 = .ok (.invokevirtual 42, 3) := by decide +kernel
theorem dX7_shortestFor_69 : decode cX7_shortestFor 69 = .ok (.aload_n 0, 1) := by decide +kernel
theorem dX7_shortestFor_70 : decode cX7_shortestFor 70 = .ok (.getfield 7, 3) := by decide +kernel
theorem dX7_shortestFor_73 : decode cX7_shortestFor 73 = .ok (.iconst 3, 1) := by decide +kernel
theorem dX7_shortestFor_74 : decode cX7_shortestFor 74 = .ok (.iaload, 1) := by decide +kernel
theorem dX7_shortestFor_75 : decode cX7_shortestFor 75 = .ok (.if_icmp .gt 15, 3) := by decide +kernel
theorem dX7_shortestFor_78 : decode cX7_shortestFor 78 = .ok (.aload_n 0, 1) := by decide +kernel
theorem dX7_shortestFor_79 : decode cX7_shortestFor 79 = .ok (.iload_n 3, 1) := by decide +kernel
theorem dX7_shortestFor_80 : decode cX7_shortestFor 80 = .ok (.invokevirtual 60, 3) := by decide +kernel
theorem dX7_shortestFor_83 : decode cX7_shortestFor 83 = .ok (.ifCond .eq 7, 3) := by decide +kernel
theorem dX7_shortestFor_86 : decode cX7_shortestFor 86 = .ok (.iconst 1, 1) := by decide +kernel
theorem dX7_shortestFor_87 : decode cX7_shortestFor 87 = .ok (.goto 4, 3) := by decide +kernel
theorem dX7_shortestFor_90 : decode cX7_shortestFor 90 = .ok (.iconst 0, 1) := by decide +kernel
theorem dX7_shortestFor_91 : decode cX7_shortestFor 91 = .ok (.istore 5, 2) := by decide +kernel
theorem dX7_shortestFor_93 : decode cX7_shortestFor 93 = .ok (.iload 5, 2) := by decide +kernel
theorem dX7_shortestFor_95 : decode cX7_shortestFor 95 = .ok (.ifCond .eq 12, 3) := by decide +kernel
theorem dX7_shortestFor_98 : decode cX7_shortestFor 98 = .ok (.iload 4, 2) := by decide +kernel
theorem dX7_shortestFor_100 : decode cX7_shortestFor 100 = .ok (.ifCond .le 7, 3) := by decide +kernel
theorem dX7_shortestFor_103 : decode cX7_shortestFor 103 = .ok (.iload_n 3, 1) := by decide +kernel
theorem dX7_shortestFor_104 : decode cX7_shortestFor 104 = .ok (.goto 4, 3) := by decide +kernel
theorem dX7_shortestFor_107 : decode cX7_shortestFor 107 = .ok (.iload_n 2, 1) := by decide +kernel
theorem dX7_shortestFor_108 : decode cX7_shortestFor 108 = .ok (.istore_n 2, 1) := by decide +kernel
theorem dX7_shortestFor_109 : decode cX7_shortestFor 109 = .ok (.iinc 3 1, 3) := by decide +kernel
theorem dX7_shortestFor_112 : decode cX7_shortestFor 112 = .ok (.goto (-108), 3) := by decide +kernel
theorem dX7_shortestFor_115 : decode cX7_shortestFor 115 = .ok (.iload_n 2, 1) := by decide +kernel
theorem dX7_shortestFor_116 : decode cX7_shortestFor 116 = .ok (.ireturn, 1) := by decide +kernel
theorem dX7_shortest_0 : decode cX7_shortest 0 = .ok (.aload_n 0, 1) := by decide +kernel
theorem dX7_shortest_1 : decode cX7_shortest 1 = .ok (.iload_n 1, 1) := by decide +kernel
theorem dX7_shortest_2 : decode cX7_shortest 2 = .ok (.iconst 0, 1) := by decide +kernel
theorem dX7_shortest_3 : decode cX7_shortest 3 = .ok (.bipush 99, 2) := by decide +kernel
theorem dX7_shortest_5 : decode cX7_shortest 5 = .ok (.invokestatic 38, 3) := by decide +kernel
theorem dX7_shortest_8 : decode cX7_shortest 8 = .ok (.ifCond .eq 7, 3) := by decide +kernel
theorem dX7_shortest_11 : decode cX7_shortest 11 = .ok (.iconst 0, 1) := by decide +kernel
theorem dX7_shortest_12 : decode cX7_shortest 12 = .ok (.goto 4, 3) := by decide +kernel
theorem dX7_shortest_15 : decode cX7_shortest 15 = .ok (.iconst 1, 1) := by decide +kernel
theorem dX7_shortest_16 : decode cX7_shortest 16 = .ok (.invokevirtual 79, 3) := by decide +kernel
theorem dX7_shortest_19 : decode cX7_shortest 19 = .ok (.ifCond .eq 11, 3) := by decide +kernel
theorem dX7_shortest_22 : decode cX7_shortest 22 = .ok (.aload_n 0, 1) := by decide +kernel
theorem dX7_shortest_23 : decode cX7_shortest 23 = .ok (.iload_n 1, 1) := by decide +kernel
theorem dX7_shortest_24 : decode cX7_shortest 24 = .ok (.invokevirtual 157, 3) := by decide +kernel
theorem dX7_shortest_27 : decode cX7_shortest 27 = .ok (.goto 4, 3) := by decide +kernel
theorem dX7_shortest_30 : decode cX7_shortest 30 = .ok (.iconst 0, 1) := by decide +kernel
theorem dX7_shortest_31 : decode cX7_shortest 31 = .ok (.ireturn, 1) := by decide +kernel
theorem dX7_pairOf_0 : decode cX7_pairOf 0 = .ok (.aload_n 0, 1) := by decide +kernel
theorem dX7_pairOf_1 : decode cX7_pairOf 1 = .ok (.iload_n 1, 1) := by decide +kernel
theorem dX7_pairOf_2 : decode cX7_pairOf 2 = .ok (.iconst 0, 1) := by decide +kernel
theorem dX7_pairOf_3 : decode cX7_pairOf 3 = .ok (.invokevirtual 42, 3) := by decide +kernel
theorem dX7_pairOf_6 : decode cX7_pairOf 6 = .ok (.istore_n 3, 1) := by decide +kernel
theorem dX7_pairOf_7 : decode cX7_pairOf 7 = .ok (.aload_n 0, 1) := by decide +kernel
theorem dX7_pairOf_8 : decode cX7_pairOf 8 = .ok (.iload_n 3, 1) := by decide +kernel
theorem dX7_pairOf_9 : decode cX7_pairOf 9 = .ok (.aload_n 0, 1) := by decide +kernel
theorem dX7_pairOf_10 : decode cX7_pairOf 10 = .ok (.iload_n 2, 1) := by decide +kernel
theorem dX7_pairOf_11 : decode cX7_pairOf 11 = .ok (.iconst 0, 1) := by decide +kernel
theorem dX7_pairOf_12 : decode cX7_pairOf 12 = .ok (.invokevirtual 42, 3) := by decide +kernel
theorem dX7_pairOf_15 : decode cX7_pairOf 15 = .ok (.iadd, 1) := by decide +kernel
theorem dX7_pairOf_16 : decode cX7_pairOf 16 = .ok (.putfield 54, 3) := by decide +kernel
theorem dX7_pairOf_19 : decode cX7_pairOf 19 = .ok (.iconst 0, 1) := by decide +kernel
theorem dX7_pairOf_20 : decode cX7_pairOf 20 = .ok (.istore 4, 2) := by decide +kernel
theorem dX7_pairOf_22 : decode cX7_pairOf 22 = .ok (.iload 4, 2) := by decide +kernel
theorem dX7_pairOf_24 : decode cX7_pairOf 24 = .ok (.aload_n 0, 1) := by decide +kernel
theorem dX7_pairOf_25 : decode cX7_pairOf 25 = .ok (.getfield 54, 3) := by decide +kernel
theorem dX7_pairOf_28 : decode cX7_pairOf 28 = .ok (.if_icmp .ge 45, 3) := by decide +kernel
theorem dX7_pairOf_31 : decode cX7_pairOf 31 = .ok (.aload_n 0, 1) := by decide +kernel
theorem dX7_pairOf_32 : decode cX7_pairOf 32 = .ok (.getfield 19, 3) := by decide +kernel
theorem dX7_pairOf_35 : decode cX7_pairOf 35 = .ok (.iload 4, 2) := by decide +kernel
theorem dX7_pairOf_37 : decode cX7_pairOf 37 = .ok (.iload 4, 2) := by decide +kernel
theorem dX7_pairOf_39 : decode cX7_pairOf 39 = .ok (.iload_n 3, 1) := by decide +kernel
theorem dX7_pairOf_40 : decode cX7_pairOf 40 = .ok (.if_icmp .ge 15, 3) := by decide +kernel
theorem dX7_pairOf_43 : decode cX7_pairOf 43 = .ok (.aload_n 0, 1) := by decide +kernel
theorem dX7_pairOf_44 : decode cX7_pairOf 44 = .ok (.iload_n 1, 1) := by decide +kernel
theorem dX7_pairOf_45 : decode cX7_pairOf 45 = .ok (.iconst 1, 1) := by decide +kernel
theorem dX7_pairOf_46 : decode cX7_pairOf 46 = .ok (.iload 4, 2) := by decide +kernel
theorem dX7_pairOf_48 : decode cX7_pairOf 48 = .ok (.iadd, 1) := by decide +kernel
theorem dX7_pairOf_49 : decode cX7_pairOf 49 = .ok (.invokevirtual 42, 3) := by decide +kernel
theorem dX7_pairOf_52 : decode cX7_pairOf 52 = .ok (.goto 14, 3) := by decide +kernel
theorem dX7_pairOf_55 : decode cX7_pairOf 55 = .ok (.aload_n 0, 1) := by decide +kernel
theorem dX7_pairOf_56 : decode cX7_pairOf 56 = .ok (.iload_n 2, 1) := by decide +kernel
theorem dX7_pairOf_57 : decode cX7_pairOf 57 = .ok (.iconst 1, 1) := by decide +kernel
theorem dX7_pairOf_58 : decode cX7_pairOf 58 = .ok (.iload 4, 2) := by decide +kernel
theorem dX7_pairOf_60 : decode cX7_pairOf 60 = .ok (.iadd, 1) := by decide +kernel
theorem dX7_pairOf_61 : decode cX7_pairOf 61 = .ok (.iload_n 3, 1) := by decide +kernel
theorem dX7_pairOf_62 : decode cX7_pairOf 62 = .ok (.isub, 1) := by decide +kernel
theorem dX7_pairOf_63 : decode cX7_pairOf 63 = .ok (.invokevirtual 42, 3) := by decide +kernel
theorem dX7_pairOf_66 : decode cX7_pairOf 66 = .ok (.iastore, 1) := by decide +kernel
theorem dX7_pairOf_67 : decode cX7_pairOf 67 = .ok (.iinc 4 1, 3) := by decide +kernel
theorem dX7_pairOf_70 : decode cX7_pairOf 70 = .ok (.goto (-48), 3) := by decide +kernel
theorem dX7_pairOf_73 : decode cX7_pairOf 73 = .ok (.aload_n 0, 1) := by decide +kernel
theorem dX7_pairOf_74 : decode cX7_pairOf 74 = .ok (.invokevirtual 70, 3) := by decide +kernel
theorem dX7_pairOf_77 : decode cX7_pairOf 77 = .ok (.aload_n 0, 1) := by decide +kernel
theorem dX7_pairOf_78 : decode cX7_pairOf 78 = .ok (.getfield 64, 3) := by decide +kernel
theorem dX7_pairOf_81 : decode cX7_pairOf 81 = .ok (.iconst 2, 1) := by decide +kernel
theorem dX7_pairOf_82 : decode cX7_pairOf 82 = .ok (.if_icmp .ne 37, 3) := by decide +kernel
theorem dX7_pairOf_85 : decode cX7_pairOf 85 = .ok (.aload_n 0, 1) := by decide +kernel
theorem dX7_pairOf_86 : decode cX7_pairOf 86 = .ok (.getfield 28, 3) := by decide +kernel
theorem dX7_pairOf_89 : decode cX7_pairOf 89 = .ok (.iconst 0, 1) := by decide +kernel
theorem dX7_pairOf_90 : decode cX7_pairOf 90 = .ok (.iaload, 1) := by decide +kernel
theorem dX7_pairOf_91 : decode cX7_pairOf 91 = .ok (.iconst (-1), 1) := by decide +kernel
theorem dX7_pairOf_92 : decode cX7_pairOf 92 = .ok (.if_icmp .eq 27, 3) := by decide +kernel
theorem dX7_pairOf_95 : decode cX7_pairOf 95 = .ok (.aload_n 0, 1) := by decide +kernel
theorem dX7_pairOf_96 : decode cX7_pairOf 96 = .ok (.getfield 28, 3) := by decide +kernel
theorem dX7_pairOf_99 : decode cX7_pairOf 99 = .ok (.iconst 1, 1) := by decide +kernel
theorem dX7_pairOf_100 : decode cX7_pairOf 100 = .ok (.iaload, 1) := by decide +kernel
theorem dX7_pairOf_101 : decode cX7_pairOf 101 = .ok (.iconst (-1), 1) := by decide +kernel
theorem dX7_pairOf_102 : decode cX7_pairOf 102 = .ok (.if_icmp .eq 17, 3) := by decide +kernel
theorem dX7_pairOf_105 : decode cX7_pairOf 105 = .ok (.aload_n 0, 1) := by decide +kernel
theorem dX7_pairOf_106 : decode cX7_pairOf 106 = .ok (.getfield 25, 3) := by decide +kernel
theorem dX7_pairOf_109 : decode cX7_pairOf 109 = .ok (.iconst 0, 1) := by decide +kernel
theorem dX7_pairOf_110 : decode cX7_pairOf 110 = .ok (.iaload, 1) := by decide +kernel
theorem dX7_pairOf_111 : decode cX7_pairOf 111 = .ok (.iload_n 3, 1) := by decide +kernel
theorem dX7_pairOf_112 : decode cX7_pairOf 112 = .ok (.if_icmp .ne 7, 3) := by decide +kernel
theorem dX7_pairOf_115 : decode cX7_pairOf 115 = .ok (.iconst 1, 1) := by decide +kernel
theorem dX7_pairOf_116 : decode cX7_pairOf 116 = .ok (.goto 4, 3) := by decide +kernel
theorem dX7_pairOf_119 : decode cX7_pairOf 119 = .ok (.iconst 0, 1) := by decide +kernel
theorem dX7_pairOf_120 : decode cX7_pairOf 120 = .ok (.istore 4, 2) := by decide +kernel
theorem dX7_pairOf_122 : decode cX7_pairOf 122 = .ok (.aload_n 0, 1) := by decide +kernel
theorem dX7_pairOf_123 : decode cX7_pairOf 123 = .ok (.getfield 64, 3) := by decide +kernel
theorem dX7_pairOf_126 : decode cX7_pairOf 126 = .ok (.iconst 1, 1) := by decide +kernel
theorem dX7_pairOf_127 : decode cX7_pairOf 127 = .ok (.if_icmp .ne 7, 3) := by decide +kernel
theorem dX7_pairOf_130 : decode cX7_pairOf 130 = .ok (.iconst 1, 1) := by decide +kernel
theorem dX7_pairOf_131 : decode cX7_pairOf 131 = .ok (.goto 13, 3) := by decide +kernel
theorem dX7_pairOf_134 : decode cX7_pairOf 134 = .ok (.iload 4, 2) := by decide +kernel
theorem dX7_pairOf_136 : decode cX7_pairOf 136 = .ok (.ifCond .eq 7, 3) := by decide +kernel
theorem dX7_pairOf_139 : decode cX7_pairOf 139 = .ok (.iconst 0, 1) := by decide +kernel
theorem dX7_pairOf_140 : decode cX7_pairOf 140 = .ok (.goto 4, 3) := by decide +kernel
theorem dX7_pairOf_143 : decode cX7_pairOf 143 = .ok (.iconst 2, 1) := by decide +kernel
theorem dX7_pairOf_144 : decode cX7_pairOf 144 = .ok (.ireturn, 1) := by decide +kernel
theorem dX7_behind_0 : decode cX7_behind 0 = .ok (.aload_n 0, 1) := by decide +kernel
theorem dX7_behind_1 : decode cX7_behind 1 = .ok (.aload_n 0, 1) := by decide +kernel
theorem dX7_behind_2 : decode cX7_behind 2 = .ok (.iload_n 1, 1) := by decide +kernel
theorem dX7_behind_3 : decode cX7_behind 3 = .ok (.invokevirtual 99, 3) := by decide +kernel
theorem dX7_behind_6 : decode cX7_behind 6 = .ok (.ifCond .eq 15, 3) := by decide +kernel
theorem dX7_behind_9 : decode cX7_behind 9 = .ok (.aload_n 0, 1) := by decide +kernel
theorem dX7_behind_10 : decode cX7_behind 10 = .ok (.iload_n 2, 1) := by decide +kernel
theorem dX7_behind_11 : decode cX7_behind 11 = .ok (.invokevirtual 99, 3) := by decide +kernel
theorem dX7_behind_14 : decode cX7_behind 14 = .ok (.ifCond .eq 7, 3) := by decide +kernel
theorem dX7_behind_17 : decode cX7_behind 17 = .ok (.iconst 0, 1) := by decide +kernel
theorem dX7_behind_18 : decode cX7_behind 18 = .ok (.goto 4, 3) := by decide +kernel
theorem dX7_behind_21 : decode cX7_behind 21 = .ok (.iconst 1, 1) := by decide +kernel
theorem dX7_behind_22 : decode cX7_behind 22 = .ok (.invokevirtual 79, 3) := by decide +kernel
theorem dX7_behind_25 : decode cX7_behind 25 = .ok (.ifCond .eq 12, 3) := by decide +kernel
theorem dX7_behind_28 : decode cX7_behind 28 = .ok (.aload_n 0, 1) := by decide +kernel
theorem dX7_behind_29 : decode cX7_behind 29 = .ok (.iload_n 1, 1) := by decide +kernel
theorem dX7_behind_30 : decode cX7_behind 30 = .ok (.iload_n 2, 1) := by decide +kernel
theorem dX7_behind_31 : decode cX7_behind 31 = .ok (.invokevirtual 160, 3) := by decide +kernel
theorem dX7_behind_34 : decode cX7_behind 34 = .ok (.goto 4, 3) := by decide +kernel
theorem dX7_behind_37 : decode cX7_behind 37 = .ok (.iconst 0, 1) := by decide +kernel
theorem dX7_behind_38 : decode cX7_behind 38 = .ok (.ireturn, 1) := by decide +kernel
theorem dX7_clashesOf_0 : decode cX7_clashesOf 0 = .ok (.iconst 0, 1) := by decide +kernel
theorem dX7_clashesOf_1 : decode cX7_clashesOf 1 = .ok (.istore_n 1, 1) := by decide +kernel
theorem dX7_clashesOf_2 : decode cX7_clashesOf 2 = .ok (.iconst 0, 1) := by decide +kernel
theorem dX7_clashesOf_3 : decode cX7_clashesOf 3 = .ok (.istore_n 2, 1) := by decide +kernel
theorem dX7_clashesOf_4 : decode cX7_clashesOf 4 = .ok (.iload_n 2, 1) := by decide +kernel
theorem dX7_clashesOf_5 : decode cX7_clashesOf 5 = .ok (.aload_n 0, 1) := by decide +kernel
theorem dX7_clashesOf_6 : decode cX7_clashesOf 6 = .ok (.getfield 7, 3) := by decide +kernel
theorem dX7_clashesOf_9 : decode cX7_clashesOf 9 = .ok (.iconst 1, 1) := by decide +kernel
theorem dX7_clashesOf_10 : decode cX7_clashesOf 10 = .ok (.iaload, 1) := by decide +kernel
theorem dX7_clashesOf_11 : decode cX7_clashesOf 11 = .ok (.aload_n 0, 1) := by decide +kernel
theorem dX7_clashesOf_12 : decode cX7_clashesOf 12 = .ok (.getfield 7, 3) := by decide +kernel
theorem dX7_clashesOf_15 : decode cX7_clashesOf 15 = .ok (.iconst 1, 1) := by decide +kernel
theorem dX7_clashesOf_16 : decode cX7_clashesOf 16 = .ok (.iaload, 1) := by decide +kernel
theorem dX7_clashesOf_17 : decode cX7_clashesOf 17 = .ok (.imul, 1) := by decide +kernel
theorem dX7_clashesOf_18 : decode cX7_clashesOf 18 = .ok (.if_icmp .ge 40, 3) := by decide +kernel
theorem dX7_clashesOf_21 : decode cX7_clashesOf 21 = .ok (.iload_n 1, 1) := by decide +kernel
theorem dX7_clashesOf_22 : decode cX7_clashesOf 22 = .ok (.aload_n 0, 1) := by decide +kernel
theorem dX7_clashesOf_23 : decode cX7_clashesOf 23 = .ok (.iload_n 2, 1) := by decide +kernel
theorem dX7_clashesOf_24 : decode cX7_clashesOf 24 = .ok (.aload_n 0, 1) := by decide +kernel
theorem dX7_clashesOf_25 : decode cX7_clashesOf 25 = .ok (.getfield 7, 3) := by decide +kernel
theorem dX7_clashesOf_28 : decode cX7_clashesOf 28 = .ok (.iconst 1, 1) := by decide +kernel
theorem dX7_clashesOf_29 : decode cX7_clashesOf 29 = .ok (.iaload, 1) := by decide +kernel
theorem dX7_clashesOf_30 : decode cX7_clashesOf 30 = .ok (.idiv, 1) := by decide +kernel
theorem dX7_clashesOf_31 : decode cX7_clashesOf 31 = .ok (.iload_n 2, 1) := by decide +kernel
theorem dX7_clashesOf_32 : decode cX7_clashesOf 32 = .ok (.aload_n 0, 1) := by decide +kernel
theorem dX7_clashesOf_33 : decode cX7_clashesOf 33 = .ok (.getfield 7, 3) := by decide +kernel
theorem dX7_clashesOf_36 : decode cX7_clashesOf 36 = .ok (.iconst 1, 1) := by decide +kernel
theorem dX7_clashesOf_37 : decode cX7_clashesOf 37 = .ok (.iaload, 1) := by decide +kernel
theorem dX7_clashesOf_38 : decode cX7_clashesOf 38 = .ok (.irem, 1) := by decide +kernel
theorem dX7_clashesOf_39 : decode cX7_clashesOf 39 = .ok (.invokevirtual 160, 3) := by decide +kernel
theorem dX7_clashesOf_42 : decode cX7_clashesOf 42 = .ok (.ifCond .ne 7, 3) := by decide +kernel
theorem dX7_clashesOf_45 : decode cX7_clashesOf 45 = .ok (.iconst 0, 1) := by decide +kernel
theorem dX7_clashesOf_46 : decode cX7_clashesOf 46 = .ok (.goto 4, 3) := by decide +kernel
theorem dX7_clashesOf_49 : decode cX7_clashesOf 49 = .ok (.iconst 1, 1) := by decide +kernel
theorem dX7_clashesOf_50 : decode cX7_clashesOf 50 = .ok (.iadd, 1) := by decide +kernel
theorem dX7_clashesOf_51 : decode cX7_clashesOf 51 = .ok (.istore_n 1, 1) := by decide +kernel
theorem dX7_clashesOf_52 : decode cX7_clashesOf 52 = .ok (.iinc 2 1, 3) := by decide +kernel
theorem dX7_clashesOf_55 : decode cX7_clashesOf 55 = .ok (.goto (-51), 3) := by decide +kernel
theorem dX7_clashesOf_58 : decode cX7_clashesOf 58 = .ok (.iload_n 1, 1) := by decide +kernel
theorem dX7_clashesOf_59 : decode cX7_clashesOf 59 = .ok (.ireturn, 1) := by decide +kernel
theorem dX7_clashes_0 : decode cX7_clashes 0 = .ok (.aload_n 0, 1) := by decide +kernel
theorem dX7_clashes_1 : decode cX7_clashes 1 = .ok (.iconst 0, 1) := by decide +kernel
theorem dX7_clashes_2 : decode cX7_clashes 2 = .ok (.putfield 34, 3) := by decide +kernel
theorem dX7_clashes_5 : decode cX7_clashes 5 = .ok (.aload_n 0, 1) := by decide +kernel
theorem dX7_clashes_6 : decode cX7_clashes 6 = .ok (.invokevirtual 163, 3) := by decide +kernel
theorem dX7_clashes_9 : decode cX7_clashes 9 = .ok (.ireturn, 1) := by decide +kernel
theorem dX7_leastOf_0 : decode cX7_leastOf 0 = .ok (.aload_n 0, 1) := by decide +kernel
theorem dX7_leastOf_1 : decode cX7_leastOf 1 = .ok (.invokevirtual 73, 3) := by decide +kernel
theorem dX7_leastOf_4 : decode cX7_leastOf 4 = .ok (.aload_n 0, 1) := by decide +kernel
theorem dX7_leastOf_5 : decode cX7_leastOf 5 = .ok (.getfield 31, 3) := by decide +kernel
theorem dX7_leastOf_8 : decode cX7_leastOf 8 = .ok (.aload_n 0, 1) := by decide +kernel
theorem dX7_leastOf_9 : decode cX7_leastOf 9 = .ok (.getfield 54, 3) := by decide +kernel
theorem dX7_leastOf_12 : decode cX7_leastOf 12 = .ok (.iconst 0, 1) := by decide +kernel
theorem dX7_leastOf_13 : decode cX7_leastOf 13 = .ok (.iastore, 1) := by decide +kernel
theorem dX7_leastOf_14 : decode cX7_leastOf 14 = .ok (.aload_n 0, 1) := by decide +kernel
theorem dX7_leastOf_15 : decode cX7_leastOf 15 = .ok (.getfield 54, 3) := by decide +kernel
theorem dX7_leastOf_18 : decode cX7_leastOf 18 = .ok (.iconst 1, 1) := by decide +kernel
theorem dX7_leastOf_19 : decode cX7_leastOf 19 = .ok (.isub, 1) := by decide +kernel
theorem dX7_leastOf_20 : decode cX7_leastOf 20 = .ok (.istore_n 1, 1) := by decide +kernel
theorem dX7_leastOf_21 : decode cX7_leastOf 21 = .ok (.iload_n 1, 1) := by decide +kernel
theorem dX7_leastOf_22 : decode cX7_leastOf 22 = .ok (.ifCond .lt 110, 3) := by decide +kernel
theorem dX7_leastOf_25 : decode cX7_leastOf 25 = .ok (.aload_n 0, 1) := by decide +kernel
theorem dX7_leastOf_26 : decode cX7_leastOf 26 = .ok (.getfield 31, 3) := by decide +kernel
theorem dX7_leastOf_29 : decode cX7_leastOf 29 = .ok (.iload_n 1, 1) := by decide +kernel
theorem dX7_leastOf_30 : decode cX7_leastOf 30 = .ok (.aload_n 0, 1) := by decide +kernel
theorem dX7_leastOf_31 : decode cX7_leastOf 31 = .ok (.getfield 31, 3) := by decide +kernel
theorem dX7_leastOf_34 : decode cX7_leastOf 34 = .ok (.iload_n 1, 1) := by decide +kernel
theorem dX7_leastOf_35 : decode cX7_leastOf 35 = .ok (.iconst 1, 1) := by decide +kernel
theorem dX7_leastOf_36 : decode cX7_leastOf 36 = .ok (.iadd, 1) := by decide +kernel
theorem dX7_leastOf_37 : decode cX7_leastOf 37 = .ok (.iaload, 1) := by decide +kernel
theorem dX7_leastOf_38 : decode cX7_leastOf 38 = .ok (.iconst 1, 1) := by decide +kernel
theorem dX7_leastOf_39 : decode cX7_leastOf 39 = .ok (.iadd, 1) := by decide +kernel
theorem dX7_leastOf_40 : decode cX7_leastOf 40 = .ok (.iastore, 1) := by decide +kernel
theorem dX7_leastOf_41 : decode cX7_leastOf 41 = .ok (.iconst 0, 1) := by decide +kernel
theorem dX7_leastOf_42 : decode cX7_leastOf 42 = .ok (.istore_n 2, 1) := by decide +kernel
theorem dX7_leastOf_43 : decode cX7_leastOf 43 = .ok (.iload_n 2, 1) := by decide +kernel
theorem dX7_leastOf_44 : decode cX7_leastOf 44 = .ok (.aload_n 0, 1) := by decide +kernel
theorem dX7_leastOf_45 : decode cX7_leastOf 45 = .ok (.getfield 7, 3) := by decide +kernel
theorem dX7_leastOf_48 : decode cX7_leastOf 48 = .ok (.iconst 1, 1) := by decide +kernel
theorem dX7_leastOf_49 : decode cX7_leastOf 49 = .ok (.iaload, 1) := by decide +kernel
theorem dX7_leastOf_50 : decode cX7_leastOf 50 = .ok (.if_icmp .ge 76, 3) := by decide +kernel
theorem dX7_leastOf_53 : decode cX7_leastOf 53 = .ok (.aload_n 0, 1) := by decide +kernel
theorem dX7_leastOf_54 : decode cX7_leastOf 54 = .ok (.iload_n 2, 1) := by decide +kernel
theorem dX7_leastOf_55 : decode cX7_leastOf 55 = .ok (.iconst 0, 1) := by decide +kernel
theorem dX7_leastOf_56 : decode cX7_leastOf 56 = .ok (.invokevirtual 42, 3) := by decide +kernel
theorem dX7_leastOf_59 : decode cX7_leastOf 59 = .ok (.aload_n 0, 1) := by decide +kernel
theorem dX7_leastOf_60 : decode cX7_leastOf 60 = .ok (.getfield 7, 3) := by decide +kernel
theorem dX7_leastOf_63 : decode cX7_leastOf 63 = .ok (.iconst 3, 1) := by decide +kernel
theorem dX7_leastOf_64 : decode cX7_leastOf 64 = .ok (.iaload, 1) := by decide +kernel
theorem dX7_leastOf_65 : decode cX7_leastOf 65 = .ok (.if_icmp .gt 55, 3) := by decide +kernel
theorem dX7_leastOf_68 : decode cX7_leastOf 68 = .ok (.aload_n 0, 1) := by decide +kernel
theorem dX7_leastOf_69 : decode cX7_leastOf 69 = .ok (.iload_n 2, 1) := by decide +kernel
theorem dX7_leastOf_70 : decode cX7_leastOf 70 = .ok (.iload_n 1, 1) := by decide +kernel
theorem dX7_leastOf_71 : decode cX7_leastOf 71 = .ok (.invokevirtual 57, 3) := by decide +kernel
theorem dX7_leastOf_74 : decode cX7_leastOf 74 = .ok (.ifCond .eq 46, 3) := by decide +kernel
theorem dX7_leastOf_77 : decode cX7_leastOf 77 = .ok (.aload_n 0, 1) := by decide +kernel
theorem dX7_leastOf_78 : decode cX7_leastOf 78 = .ok (.getfield 31, 3) := by decide +kernel
theorem dX7_leastOf_81 : decode cX7_leastOf 81 = .ok (.iload_n 1, 1) := by decide +kernel
theorem dX7_leastOf_82 : decode cX7_leastOf 82 = .ok (.aload_n 0, 1) := by decide +kernel
theorem dX7_leastOf_83 : decode cX7_leastOf 83 = .ok (.iload_n 2, 1) := by decide +kernel
theorem dX7_leastOf_84 : decode cX7_leastOf 84 = .ok (.iconst 0, 1) := by decide +kernel
theorem dX7_leastOf_85 : decode cX7_leastOf 85 = .ok (.invokevirtual 42, 3) := by decide +kernel
theorem dX7_leastOf_88 : decode cX7_leastOf 88 = .ok (.iadd, 1) := by decide +kernel
theorem dX7_leastOf_89 : decode cX7_leastOf 89 = .ok (.iaload, 1) := by decide +kernel
theorem dX7_leastOf_90 : decode cX7_leastOf 90 = .ok (.aload_n 0, 1) := by decide +kernel
theorem dX7_leastOf_91 : decode cX7_leastOf 91 = .ok (.getfield 31, 3) := by decide +kernel
theorem dX7_leastOf_94 : decode cX7_leastOf 94 = .ok (.iload_n 1, 1) := by decide +kernel
theorem dX7_leastOf_95 : decode cX7_leastOf 95 = .ok (.iaload, 1) := by decide +kernel
theorem dX7_leastOf_96 : decode cX7_leastOf 96 = .ok (.if_icmp .ge 24, 3) := by decide +kernel
theorem dX7_leastOf_99 : decode cX7_leastOf 99 = .ok (.aload_n 0, 1) := by decide +kernel
theorem dX7_leastOf_100 : decode cX7_leastOf 100 = .ok (.getfield 31, 3) := by decide +kernel
theorem dX7_leastOf_103 : decode cX7_leastOf 103 = .ok (.iload_n 1, 1) := by decide +kernel
theorem dX7_leastOf_104 : decode cX7_leastOf 104 = .ok (.aload_n 0, 1) := by decide +kernel
theorem dX7_leastOf_105 : decode cX7_leastOf 105 = .ok (.getfield 31, 3) := by decide +kernel
theorem dX7_leastOf_108 : decode cX7_leastOf 108 = .ok (.iload_n 1, 1) := by decide +kernel
theorem dX7_leastOf_109 : decode cX7_leastOf 109 = .ok (.aload_n 0, 1) := by decide +kernel
theorem dX7_leastOf_110 : decode cX7_leastOf 110 = .ok (.iload_n 2, 1) := by decide +kernel
theorem dX7_leastOf_111 : decode cX7_leastOf 111 = .ok (.iconst 0, 1) := by decide +kernel
theorem dX7_leastOf_112 : decode cX7_leastOf 112 = .ok (.invokevirtual 42, 3) := by decide +kernel
theorem dX7_leastOf_115 : decode cX7_leastOf 115 = .ok (.iadd, 1) := by decide +kernel
theorem dX7_leastOf_116 : decode cX7_leastOf 116 = .ok (.iaload, 1) := by decide +kernel
theorem dX7_leastOf_117 : decode cX7_leastOf 117 = .ok (.iconst 1, 1) := by decide +kernel
theorem dX7_leastOf_118 : decode cX7_leastOf 118 = .ok (.iadd, 1) := by decide +kernel
theorem dX7_leastOf_119 : decode cX7_leastOf 119 = .ok (.iastore, 1) := by decide +kernel
theorem dX7_leastOf_120 : decode cX7_leastOf 120 = .ok (.iinc 2 1, 3) := by decide +kernel
theorem dX7_leastOf_123 : decode cX7_leastOf 123 = .ok (.goto (-80), 3) := by decide +kernel
theorem dX7_leastOf_126 : decode cX7_leastOf 126 = .ok (.iinc 1 (-1), 3) := by decide +kernel
theorem dX7_leastOf_129 : decode cX7_leastOf 129 = .ok (.goto (-108), 3) := by decide +kernel
theorem dX7_leastOf_132 : decode cX7_leastOf 132 = .ok (.aload_n 0, 1) := by decide +kernel
theorem dX7_leastOf_133 : decode cX7_leastOf 133 = .ok (.getfield 31, 3) := by decide +kernel
theorem dX7_leastOf_136 : decode cX7_leastOf 136 = .ok (.iconst 0, 1) := by decide +kernel
theorem dX7_leastOf_137 : decode cX7_leastOf 137 = .ok (.iaload, 1) := by decide +kernel
theorem dX7_leastOf_138 : decode cX7_leastOf 138 = .ok (.ireturn, 1) := by decide +kernel
theorem dX7_least_0 : decode cX7_least 0 = .ok (.aload_n 0, 1) := by decide +kernel
theorem dX7_least_1 : decode cX7_least 1 = .ok (.iconst 0, 1) := by decide +kernel
theorem dX7_least_2 : decode cX7_least 2 = .ok (.putfield 34, 3) := by decide +kernel
theorem dX7_least_5 : decode cX7_least 5 = .ok (.aload_n 0, 1) := by decide +kernel
theorem dX7_least_6 : decode cX7_least 6 = .ok (.invokevirtual 166, 3) := by decide +kernel
theorem dX7_least_9 : decode cX7_least 9 = .ok (.ireturn, 1) := by decide +kernel
theorem dX7_share_0 : decode cX7_share 0 = .ok (.aload_n 0, 1) := by decide +kernel
theorem dX7_share_1 : decode cX7_share 1 = .ok (.invokevirtual 73, 3) := by decide +kernel
theorem dX7_share_4 : decode cX7_share 4 = .ok (.aload_n 0, 1) := by decide +kernel
theorem dX7_share_5 : decode cX7_share 5 = .ok (.getfield 54, 3) := by decide +kernel
theorem dX7_share_8 : decode cX7_share 8 = .ok (.ifCond .ne 7, 3) := by decide +kernel
theorem dX7_share_11 : decode cX7_share 11 = .ok (.dconst 1, 1) := by decide +kernel
theorem dX7_share_12 : decode cX7_share 12 = .ok (.goto 20, 3) := by decide +kernel
theorem dX7_share_15 : decode cX7_share 15 = .ok (.aload_n 0, 1) := by decide +kernel
theorem dX7_share_16 : decode cX7_share 16 = .ok (.getfield 54, 3) := by decide +kernel
theorem dX7_share_19 : decode cX7_share 19 = .ok (.aload_n 0, 1) := by decide +kernel
theorem dX7_share_20 : decode cX7_share 20 = .ok (.iconst (-1), 1) := by decide +kernel
theorem dX7_share_21 : decode cX7_share 21 = .ok (.invokevirtual 139, 3) := by decide +kernel
theorem dX7_share_24 : decode cX7_share 24 = .ok (.isub, 1) := by decide +kernel
theorem dX7_share_25 : decode cX7_share 25 = .ok (.i2d, 1) := by decide +kernel
theorem dX7_share_26 : decode cX7_share 26 = .ok (.aload_n 0, 1) := by decide +kernel
theorem dX7_share_27 : decode cX7_share 27 = .ok (.getfield 54, 3) := by decide +kernel
theorem dX7_share_30 : decode cX7_share 30 = .ok (.i2d, 1) := by decide +kernel
theorem dX7_share_31 : decode cX7_share 31 = .ok (.ddiv, 1) := by decide +kernel
theorem dX7_share_32 : decode cX7_share 32 = .ok (.dreturn, 1) := by decide +kernel
theorem dX7_readShare_0 : decode cX7_readShare 0 = .ok (.aload_n 0, 1) := by decide +kernel
theorem dX7_readShare_1 : decode cX7_readShare 1 = .ok (.iconst 0, 1) := by decide +kernel
theorem dX7_readShare_2 : decode cX7_readShare 2 = .ok (.putfield 34, 3) := by decide +kernel
theorem dX7_readShare_5 : decode cX7_readShare 5 = .ok (.aload_n 0, 1) := by decide +kernel
theorem dX7_readShare_6 : decode cX7_readShare 6 = .ok (.invokevirtual 169, 3) := by decide +kernel
theorem dX7_readShare_9 : decode cX7_readShare 9 = .ok (.dreturn, 1) := by decide +kernel
theorem dX7_mean_0 : decode cX7_mean 0 = .ok (.aload_n 0, 1) := by decide +kernel
theorem dX7_mean_1 : decode cX7_mean 1 = .ok (.getfield 7, 3) := by decide +kernel
theorem dX7_mean_4 : decode cX7_mean 4 = .ok (.iconst 4, 1) := by decide +kernel
theorem dX7_mean_5 : decode cX7_mean 5 = .ok (.iaload, 1) := by decide +kernel
theorem dX7_mean_6 : decode cX7_mean 6 = .ok (.ifCond .ne 7, 3) := by decide +kernel
theorem dX7_mean_9 : decode cX7_mean 9 = .ok (.fconst 0, 1) := by decide +kernel
theorem dX7_mean_10 : decode cX7_mean 10 = .ok (.goto 19, 3) := by decide +kernel
theorem dX7_mean_13 : decode cX7_mean 13 = .ok (.aload_n 0, 1) := by decide +kernel
theorem dX7_mean_14 : decode cX7_mean 14 = .ok (.getfield 7, 3) := by decide +kernel
theorem dX7_mean_17 : decode cX7_mean 17 = .ok (.bipush 7, 2) := by decide +kernel
theorem dX7_mean_19 : decode cX7_mean 19 = .ok (.iaload, 1) := by decide +kernel
theorem dX7_mean_20 : decode cX7_mean 20 = .ok (.i2f, 1) := by decide +kernel
theorem dX7_mean_21 : decode cX7_mean 21 = .ok (.aload_n 0, 1) := by decide +kernel
theorem dX7_mean_22 : decode cX7_mean 22 = .ok (.getfield 7, 3) := by decide +kernel
theorem dX7_mean_25 : decode cX7_mean 25 = .ok (.iconst 4, 1) := by decide +kernel
theorem dX7_mean_26 : decode cX7_mean 26 = .ok (.iaload, 1) := by decide +kernel
theorem dX7_mean_27 : decode cX7_mean 27 = .ok (.i2f, 1) := by decide +kernel
theorem dX7_mean_28 : decode cX7_mean 28 = .ok (.fdiv, 1) := by decide +kernel
theorem dX7_mean_29 : decode cX7_mean 29 = .ok (.freturn, 1) := by decide +kernel
theorem dX7_meanKeys_0 : decode cX7_meanKeys 0 = .ok (.aload_n 0, 1) := by decide +kernel
theorem dX7_meanKeys_1 : decode cX7_meanKeys 1 = .ok (.iconst 0, 1) := by decide +kernel
theorem dX7_meanKeys_2 : decode cX7_meanKeys 2 = .ok (.putfield 34, 3) := by decide +kernel
theorem dX7_meanKeys_5 : decode cX7_meanKeys 5 = .ok (.aload_n 0, 1) := by decide +kernel
theorem dX7_meanKeys_6 : decode cX7_meanKeys 6 = .ok (.invokevirtual 173, 3) := by decide +kernel
theorem dX7_meanKeys_9 : decode cX7_meanKeys 9 = .ok (.freturn, 1) := by decide +kernel
theorem dX7_mix_0 : decode cX7_mix 0 = .ok (.aload_n 0, 1) := by decide +kernel
theorem dX7_mix_1 : decode cX7_mix 1 = .ok (.ldc2_w 177, 3) := by decide +kernel
theorem dX7_mix_4 : decode cX7_mix 4 = .ok (.aload_n 0, 1) := by decide +kernel
theorem dX7_mix_5 : decode cX7_mix 5 = .ok (.getfield 179, 3) := by decide +kernel
theorem dX7_mix_8 : decode cX7_mix 8 = .ok (.lmul, 1) := by decide +kernel
theorem dX7_mix_9 : decode cX7_mix 9 = .ok (.lload_n 1, 1) := by decide +kernel
theorem dX7_mix_10 : decode cX7_mix 10 = .ok (.ladd, 1) := by decide +kernel
theorem dX7_mix_11 : decode cX7_mix 11 = .ok (.putfield 179, 3) := by decide +kernel
theorem dX7_mix_14 : decode cX7_mix 14 = .ok (.return_, 1) := by decide +kernel
theorem dX7_bits_0 : decode cX7_bits 0 = .ok (.dload_n 0, 1) := by decide +kernel
theorem dX7_bits_1 : decode cX7_bits 1 = .ok (.dconst 0, 1) := by decide +kernel
theorem dX7_bits_2 : decode cX7_bits 2 = .ok (.dcmp .l, 1) := by decide +kernel
theorem dX7_bits_3 : decode cX7_bits 3 = .ok (.ifCond .ne 5, 3) := by decide +kernel
theorem dX7_bits_6 : decode cX7_bits 6 = .ok (.lconst 0, 1) := by decide +kernel
theorem dX7_bits_7 : decode cX7_bits 7 = .ok (.lreturn, 1) := by decide +kernel
theorem dX7_bits_8 : decode cX7_bits 8 = .ok (.dload_n 0, 1) := by decide +kernel
theorem dX7_bits_9 : decode cX7_bits 9 = .ok (.dstore 6, 2) := by decide +kernel
theorem dX7_bits_11 : decode cX7_bits 11 = .ok (.lload 4, 2) := by decide +kernel
theorem dX7_bits_13 : decode cX7_bits 13 = .ok (.lstore 8, 2) := by decide +kernel
theorem dX7_bits_15 : decode cX7_bits 15 = .ok (.dload 6, 2) := by decide +kernel
theorem dX7_bits_17 : decode cX7_bits 17 = .ok (.ldc2_w 183, 3) := by decide +kernel
theorem dX7_bits_20 : decode cX7_bits 20 = .ok (.dcmp .l, 1) := by decide +kernel
theorem dX7_bits_21 : decode cX7_bits 21 = .ok (.ifCond .lt 20, 3) := by decide +kernel
theorem dX7_bits_24 : decode cX7_bits 24 = .ok (.dload 6, 2) := by decide +kernel
theorem dX7_bits_26 : decode cX7_bits 26 = .ok (.ldc2_w 183, 3) := by decide +kernel
theorem dX7_bits_29 : decode cX7_bits 29 = .ok (.ddiv, 1) := by decide +kernel
theorem dX7_bits_30 : decode cX7_bits 30 = .ok (.dstore 6, 2) := by decide +kernel
theorem dX7_bits_32 : decode cX7_bits 32 = .ok (.lload 8, 2) := by decide +kernel
theorem dX7_bits_34 : decode cX7_bits 34 = .ok (.lconst 1, 1) := by decide +kernel
theorem dX7_bits_35 : decode cX7_bits 35 = .ok (.ladd, 1) := by decide +kernel
theorem dX7_bits_36 : decode cX7_bits 36 = .ok (.lstore 8, 2) := by decide +kernel
theorem dX7_bits_38 : decode cX7_bits 38 = .ok (.goto (-23), 3) := by decide +kernel
theorem dX7_bits_41 : decode cX7_bits 41 = .ok (.dload 6, 2) := by decide +kernel
theorem dX7_bits_43 : decode cX7_bits 43 = .ok (.dconst 1, 1) := by decide +kernel
theorem dX7_bits_44 : decode cX7_bits 44 = .ok (.dcmp .g, 1) := by decide +kernel
theorem dX7_bits_45 : decode cX7_bits 45 = .ok (.ifCond .ge 20, 3) := by decide +kernel
theorem dX7_bits_48 : decode cX7_bits 48 = .ok (.dload 6, 2) := by decide +kernel
theorem dX7_bits_50 : decode cX7_bits 50 = .ok (.ldc2_w 183, 3) := by decide +kernel
theorem dX7_bits_53 : decode cX7_bits 53 = .ok (.dmul, 1) := by decide +kernel
theorem dX7_bits_54 : decode cX7_bits 54 = .ok (.dstore 6, 2) := by decide +kernel
theorem dX7_bits_56 : decode cX7_bits 56 = .ok (.lload 8, 2) := by decide +kernel
theorem dX7_bits_58 : decode cX7_bits 58 = .ok (.lconst 1, 1) := by decide +kernel
theorem dX7_bits_59 : decode cX7_bits 59 = .ok (.lsub, 1) := by decide +kernel
theorem dX7_bits_60 : decode cX7_bits 60 = .ok (.lstore 8, 2) := by decide +kernel
theorem dX7_bits_62 : decode cX7_bits 62 = .ok (.goto (-21), 3) := by decide +kernel
theorem dX7_bits_65 : decode cX7_bits 65 = .ok (.lload 8, 2) := by decide +kernel
theorem dX7_bits_67 : decode cX7_bits 67 = .ok (.lload_n 2, 1) := by decide +kernel
theorem dX7_bits_68 : decode cX7_bits 68 = .ok (.lmul, 1) := by decide +kernel
theorem dX7_bits_69 : decode cX7_bits 69 = .ok (.dload 6, 2) := by decide +kernel
theorem dX7_bits_71 : decode cX7_bits 71 = .ok (.dconst 1, 1) := by decide +kernel
theorem dX7_bits_72 : decode cX7_bits 72 = .ok (.dsub, 1) := by decide +kernel
theorem dX7_bits_73 : decode cX7_bits 73 = .ok (.lload_n 2, 1) := by decide +kernel
theorem dX7_bits_74 : decode cX7_bits 74 = .ok (.l2d, 1) := by decide +kernel
theorem dX7_bits_75 : decode cX7_bits 75 = .ok (.dmul, 1) := by decide +kernel
theorem dX7_bits_76 : decode cX7_bits 76 = .ok (.d2l, 1) := by decide +kernel
theorem dX7_bits_77 : decode cX7_bits 77 = .ok (.ladd, 1) := by decide +kernel
theorem dX7_bits_78 : decode cX7_bits 78 = .ok (.lreturn, 1) := by decide +kernel
theorem dX7_digest_0 : decode cX7_digest 0 = .ok (.aload_n 0, 1) := by decide +kernel
theorem dX7_digest_1 : decode cX7_digest 1 = .ok (.iconst 0, 1) := by decide +kernel
theorem dX7_digest_2 : decode cX7_digest 2 = .ok (.putfield 34, 3) := by decide +kernel
theorem dX7_digest_5 : decode cX7_digest 5 = .ok (.aload_n 0, 1) := by decide +kernel
theorem dX7_digest_6 : decode cX7_digest 6 = .ok (.ldc2_w 185, 3) := by decide +kernel
theorem dX7_digest_9 : decode cX7_digest 9 = .ok (.putfield 179, 3) := by decide +kernel
theorem dX7_digest_12 : decode cX7_digest 12 = .ok (.aload_n 0, 1) := by decide +kernel
theorem dX7_digest_13 : decode cX7_digest 13 = .ok (.invokevirtual 73, 3) := by decide +kernel
theorem dX7_digest_16 : decode cX7_digest 16 = .ok (.iconst 0, 1) := by decide +kernel
theorem dX7_digest_17 : decode cX7_digest 17 = .ok (.istore_n 1, 1) := by decide +kernel
theorem dX7_digest_18 : decode cX7_digest 18 = .ok (.iload_n 1, 1) := by decide +kernel
theorem dX7_digest_19 : decode cX7_digest 19 = .ok (.bipush 10, 2) := by decide +kernel
theorem dX7_digest_21 : decode cX7_digest 21 = .ok (.if_icmp .ge 19, 3) := by decide +kernel
theorem dX7_digest_24 : decode cX7_digest 24 = .ok (.aload_n 0, 1) := by decide +kernel
theorem dX7_digest_25 : decode cX7_digest 25 = .ok (.aload_n 0, 1) := by decide +kernel
theorem dX7_digest_26 : decode cX7_digest 26 = .ok (.iload_n 1, 1) := by decide +kernel
theorem dX7_digest_27 : decode cX7_digest 27 = .ok (.invokevirtual 148, 3) := by decide +kernel
theorem dX7_digest_30 : decode cX7_digest 30 = .ok (.i2l, 1) := by decide +kernel
theorem dX7_digest_31 : decode cX7_digest 31 = .ok (.invokevirtual 187, 3) := by decide +kernel
theorem dX7_digest_34 : decode cX7_digest 34 = .ok (.iinc 1 1, 3) := by decide +kernel
theorem dX7_digest_37 : decode cX7_digest 37 = .ok (.goto (-19), 3) := by decide +kernel
theorem dX7_digest_40 : decode cX7_digest 40 = .ok (.aload_n 0, 1) := by decide +kernel
theorem dX7_digest_41 : decode cX7_digest 41 = .ok (.aload_n 0, 1) := by decide +kernel
theorem dX7_digest_42 : decode cX7_digest 42 = .ok (.getfield 7, 3) := by decide +kernel
theorem dX7_digest_45 : decode cX7_digest 45 = .ok (.iconst 2, 1) := by decide +kernel
theorem dX7_digest_46 : decode cX7_digest 46 = .ok (.iaload, 1) := by decide +kernel
theorem dX7_digest_47 : decode cX7_digest 47 = .ok (.i2l, 1) := by decide +kernel
theorem dX7_digest_48 : decode cX7_digest 48 = .ok (.invokevirtual 187, 3) := by decide +kernel
theorem dX7_digest_51 : decode cX7_digest 51 = .ok (.aload_n 0, 1) := by decide +kernel
theorem dX7_digest_52 : decode cX7_digest 52 = .ok (.aload_n 0, 1) := by decide +kernel
theorem dX7_digest_53 : decode cX7_digest 53 = .ok (.getfield 7, 3) := by decide +kernel
theorem dX7_digest_56 : decode cX7_digest 56 = .ok (.iconst 3, 1) := by decide +kernel
theorem dX7_digest_57 : decode cX7_digest 57 = .ok (.iaload, 1) := by decide +kernel
theorem dX7_digest_58 : decode cX7_digest 58 = .ok (.i2l, 1) := by decide +kernel
theorem dX7_digest_59 : decode cX7_digest 59 = .ok (.invokevirtual 187, 3) := by decide +kernel
theorem dX7_digest_62 : decode cX7_digest 62 = .ok (.iconst 0, 1) := by decide +kernel
theorem dX7_digest_63 : decode cX7_digest 63 = .ok (.istore_n 1, 1) := by decide +kernel
theorem dX7_digest_64 : decode cX7_digest 64 = .ok (.iload_n 1, 1) := by decide +kernel
theorem dX7_digest_65 : decode cX7_digest 65 = .ok (.aload_n 0, 1) := by decide +kernel
theorem dX7_digest_66 : decode cX7_digest 66 = .ok (.getfield 7, 3) := by decide +kernel
theorem dX7_digest_69 : decode cX7_digest 69 = .ok (.iconst 0, 1) := by decide +kernel
theorem dX7_digest_70 : decode cX7_digest 70 = .ok (.iaload, 1) := by decide +kernel
theorem dX7_digest_71 : decode cX7_digest 71 = .ok (.if_icmp .ge 23, 3) := by decide +kernel
theorem dX7_digest_74 : decode cX7_digest 74 = .ok (.aload_n 0, 1) := by decide +kernel
theorem dX7_digest_75 : decode cX7_digest 75 = .ok (.aload_n 0, 1) := by decide +kernel
theorem dX7_digest_76 : decode cX7_digest 76 = .ok (.getfield 7, 3) := by decide +kernel
theorem dX7_digest_79 : decode cX7_digest 79 = .ok (.bipush 8, 2) := by decide +kernel
theorem dX7_digest_81 : decode cX7_digest 81 = .ok (.iload_n 1, 1) := by decide +kernel
theorem dX7_digest_82 : decode cX7_digest 82 = .ok (.iadd, 1) := by decide +kernel
theorem dX7_digest_83 : decode cX7_digest 83 = .ok (.iaload, 1) := by decide +kernel
theorem dX7_digest_84 : decode cX7_digest 84 = .ok (.i2l, 1) := by decide +kernel
theorem dX7_digest_85 : decode cX7_digest 85 = .ok (.invokevirtual 187, 3) := by decide +kernel
theorem dX7_digest_88 : decode cX7_digest 88 = .ok (.iinc 1 1, 3) := by decide +kernel
theorem dX7_digest_91 : decode cX7_digest 91 = .ok (.goto (-27), 3) := by decide +kernel
theorem dX7_digest_94 : decode cX7_digest 94 = .ok (.iconst 0, 1) := by decide +kernel
theorem dX7_digest_95 : decode cX7_digest 95 = .ok (.istore_n 1, 1) := by decide +kernel
theorem dX7_digest_96 : decode cX7_digest 96 = .ok (.iload_n 1, 1) := by decide +kernel
theorem dX7_digest_97 : decode cX7_digest 97 = .ok (.iconst 5, 1) := by decide +kernel
theorem dX7_digest_98 : decode cX7_digest 98 = .ok (.aload_n 0, 1) := by decide +kernel
theorem dX7_digest_99 : decode cX7_digest 99 = .ok (.getfield 64, 3) := by decide +kernel
theorem dX7_digest_102 : decode cX7_digest 102 = .ok (.imul, 1) := by decide +kernel
theorem dX7_digest_103 : decode cX7_digest 103 = .ok (.if_icmp .ge 24, 3) := by decide +kernel
theorem dX7_digest_106 : decode cX7_digest 106 = .ok (.aload_n 0, 1) := by decide +kernel
theorem dX7_digest_107 : decode cX7_digest 107 = .ok (.aload_n 0, 1) := by decide +kernel
theorem dX7_digest_108 : decode cX7_digest 108 = .ok (.iload_n 1, 1) := by decide +kernel
theorem dX7_digest_109 : decode cX7_digest 109 = .ok (.iconst 5, 1) := by decide +kernel
theorem dX7_digest_110 : decode cX7_digest 110 = .ok (.idiv, 1) := by decide +kernel
theorem dX7_digest_111 : decode cX7_digest 111 = .ok (.iload_n 1, 1) := by decide +kernel
theorem dX7_digest_112 : decode cX7_digest 112 = .ok (.iconst 5, 1) := by decide +kernel
theorem dX7_digest_113 : decode cX7_digest 113 = .ok (.irem, 1) := by decide +kernel
theorem dX7_digest_114 : decode cX7_digest 114 = .ok (.invokevirtual 136, 3) := by decide +kernel
theorem dX7_digest_117 : decode cX7_digest 117 = .ok (.i2l, 1) := by decide +kernel
theorem dX7_digest_118 : decode cX7_digest 118 = .ok (.invokevirtual 187, 3) := by decide +kernel
theorem dX7_digest_121 : decode cX7_digest 121 = .ok (.iinc 1 1, 3) := by decide +kernel
theorem dX7_digest_124 : decode cX7_digest 124 = .ok (.goto (-28), 3) := by decide +kernel
theorem dX7_digest_127 : decode cX7_digest 127 = .ok (.iconst 0, 1) := by decide +kernel
theorem dX7_digest_128 : decode cX7_digest 128 = .ok (.istore_n 1, 1) := by decide +kernel
theorem dX7_digest_129 : decode cX7_digest 129 = .ok (.iload_n 1, 1) := by decide +kernel
theorem dX7_digest_130 : decode cX7_digest 130 = .ok (.bipush 10, 2) := by decide +kernel
theorem dX7_digest_132 : decode cX7_digest 132 = .ok (.aload_n 0, 1) := by decide +kernel
theorem dX7_digest_133 : decode cX7_digest 133 = .ok (.getfield 7, 3) := by decide +kernel
theorem dX7_digest_136 : decode cX7_digest 136 = .ok (.iconst 1, 1) := by decide +kernel
theorem dX7_digest_137 : decode cX7_digest 137 = .ok (.iaload, 1) := by decide +kernel
theorem dX7_digest_138 : decode cX7_digest 138 = .ok (.imul, 1) := by decide +kernel
theorem dX7_digest_139 : decode cX7_digest 139 = .ok (.if_icmp .ge 26, 3) := by decide +kernel
theorem dX7_digest_142 : decode cX7_digest 142 = .ok (.aload_n 0, 1) := by decide +kernel
theorem dX7_digest_143 : decode cX7_digest 143 = .ok (.aload_n 0, 1) := by decide +kernel
theorem dX7_digest_144 : decode cX7_digest 144 = .ok (.iload_n 1, 1) := by decide +kernel
theorem dX7_digest_145 : decode cX7_digest 145 = .ok (.bipush 10, 2) := by decide +kernel
theorem dX7_digest_147 : decode cX7_digest 147 = .ok (.idiv, 1) := by decide +kernel
theorem dX7_digest_148 : decode cX7_digest 148 = .ok (.iload_n 1, 1) := by decide +kernel
theorem dX7_digest_149 : decode cX7_digest 149 = .ok (.bipush 10, 2) := by decide +kernel
theorem dX7_digest_151 : decode cX7_digest 151 = .ok (.irem, 1) := by decide +kernel
theorem dX7_digest_152 : decode cX7_digest 152 = .ok (.invokevirtual 145, 3) := by decide +kernel
theorem dX7_digest_155 : decode cX7_digest 155 = .ok (.i2l, 1) := by decide +kernel
theorem dX7_digest_156 : decode cX7_digest 156 = .ok (.invokevirtual 187, 3) := by decide +kernel
theorem dX7_digest_159 : decode cX7_digest 159 = .ok (.iinc 1 1, 3) := by decide +kernel
theorem dX7_digest_162 : decode cX7_digest 162 = .ok (.goto (-33), 3) := by decide +kernel
theorem dX7_digest_165 : decode cX7_digest 165 = .ok (.iconst 1, 1) := by decide +kernel
theorem dX7_digest_166 : decode cX7_digest 166 = .ok (.istore_n 1, 1) := by decide +kernel
theorem dX7_digest_167 : decode cX7_digest 167 = .ok (.iload_n 1, 1) := by decide +kernel
theorem dX7_digest_168 : decode cX7_digest 168 = .ok (.iconst 4, 1) := by decide +kernel
theorem dX7_digest_169 : decode cX7_digest 169 = .ok (.if_icmp .ge 19, 3) := by decide +kernel
theorem dX7_digest_172 : decode cX7_digest 172 = .ok (.aload_n 0, 1) := by decide +kernel
theorem dX7_digest_173 : decode cX7_digest 173 = .ok (.aload_n 0, 1) := by decide +kernel
theorem dX7_digest_174 : decode cX7_digest 174 = .ok (.iload_n 1, 1) := by decide +kernel
theorem dX7_digest_175 : decode cX7_digest 175 = .ok (.invokevirtual 154, 3) := by decide +kernel
theorem dX7_digest_178 : decode cX7_digest 178 = .ok (.i2l, 1) := by decide +kernel
theorem dX7_digest_179 : decode cX7_digest 179 = .ok (.invokevirtual 187, 3) := by decide +kernel
theorem dX7_digest_182 : decode cX7_digest 182 = .ok (.iinc 1 1, 3) := by decide +kernel
theorem dX7_digest_185 : decode cX7_digest 185 = .ok (.goto (-18), 3) := by decide +kernel
theorem dX7_digest_188 : decode cX7_digest 188 = .ok (.iconst 0, 1) := by decide +kernel
theorem dX7_digest_189 : decode cX7_digest 189 = .ok (.istore_n 1, 1) := by decide +kernel
theorem dX7_digest_190 : decode cX7_digest 190 = .ok (.iload_n 1, 1) := by decide +kernel
theorem dX7_digest_191 : decode cX7_digest 191 = .ok (.iconst 3, 1) := by decide +kernel
theorem dX7_digest_192 : decode cX7_digest 192 = .ok (.if_icmp .ge 20, 3) := by decide +kernel
theorem dX7_digest_195 : decode cX7_digest 195 = .ok (.aload_n 0, 1) := by decide +kernel
theorem dX7_digest_196 : decode cX7_digest 196 = .ok (.aload_n 0, 1) := by decide +kernel
theorem dX7_digest_197 : decode cX7_digest 197 = .ok (.iconst 1, 1) := by decide +kernel
theorem dX7_digest_198 : decode cX7_digest 198 = .ok (.iload_n 1, 1) := by decide +kernel
theorem dX7_digest_199 : decode cX7_digest 199 = .ok (.invokevirtual 151, 3) := by decide +kernel
theorem dX7_digest_202 : decode cX7_digest 202 = .ok (.i2l, 1) := by decide +kernel
theorem dX7_digest_203 : decode cX7_digest 203 = .ok (.invokevirtual 187, 3) := by decide +kernel
theorem dX7_digest_206 : decode cX7_digest 206 = .ok (.iinc 1 1, 3) := by decide +kernel
theorem dX7_digest_209 : decode cX7_digest 209 = .ok (.goto (-19), 3) := by decide +kernel
theorem dX7_digest_212 : decode cX7_digest 212 = .ok (.iconst 0, 1) := by decide +kernel
theorem dX7_digest_213 : decode cX7_digest 213 = .ok (.istore_n 1, 1) := by decide +kernel
theorem dX7_digest_214 : decode cX7_digest 214 = .ok (.iload_n 1, 1) := by decide +kernel
theorem dX7_digest_215 : decode cX7_digest 215 = .ok (.bipush 10, 2) := by decide +kernel
theorem dX7_digest_217 : decode cX7_digest 217 = .ok (.if_icmp .ge 19, 3) := by decide +kernel
theorem dX7_digest_220 : decode cX7_digest 220 = .ok (.aload_n 0, 1) := by decide +kernel
theorem dX7_digest_221 : decode cX7_digest 221 = .ok (.aload_n 0, 1) := by decide +kernel
theorem dX7_digest_222 : decode cX7_digest 222 = .ok (.iload_n 1, 1) := by decide +kernel
theorem dX7_digest_223 : decode cX7_digest 223 = .ok (.invokevirtual 157, 3) := by decide +kernel
theorem dX7_digest_226 : decode cX7_digest 226 = .ok (.i2l, 1) := by decide +kernel
theorem dX7_digest_227 : decode cX7_digest 227 = .ok (.invokevirtual 187, 3) := by decide +kernel
theorem dX7_digest_230 : decode cX7_digest 230 = .ok (.iinc 1 1, 3) := by decide +kernel
theorem dX7_digest_233 : decode cX7_digest 233 = .ok (.goto (-19), 3) := by decide +kernel
theorem dX7_digest_236 : decode cX7_digest 236 = .ok (.aload_n 0, 1) := by decide +kernel
theorem dX7_digest_237 : decode cX7_digest 237 = .ok (.aload_n 0, 1) := by decide +kernel
theorem dX7_digest_238 : decode cX7_digest 238 = .ok (.invokevirtual 163, 3) := by decide +kernel
theorem dX7_digest_241 : decode cX7_digest 241 = .ok (.i2l, 1) := by decide +kernel
theorem dX7_digest_242 : decode cX7_digest 242 = .ok (.invokevirtual 187, 3) := by decide +kernel
theorem dX7_digest_245 : decode cX7_digest 245 = .ok (.aload_n 0, 1) := by decide +kernel
theorem dX7_digest_246 : decode cX7_digest 246 = .ok (.aload_n 0, 1) := by decide +kernel
theorem dX7_digest_247 : decode cX7_digest 247 = .ok (.invokevirtual 166, 3) := by decide +kernel
theorem dX7_digest_250 : decode cX7_digest 250 = .ok (.i2l, 1) := by decide +kernel
theorem dX7_digest_251 : decode cX7_digest 251 = .ok (.invokevirtual 187, 3) := by decide +kernel
theorem dX7_digest_254 : decode cX7_digest 254 = .ok (.aload_n 0, 1) := by decide +kernel
theorem dX7_digest_255 : decode cX7_digest 255 = .ok (.aload_n 0, 1) := by decide +kernel
theorem dX7_digest_256 : decode cX7_digest 256 = .ok (.invokevirtual 169, 3) := by decide +kernel
theorem dX7_digest_259 : decode cX7_digest 259 = .ok (.ldc2_w 191, 3) := by decide +kernel
theorem dX7_digest_262 : decode cX7_digest 262 = .ok (.ldc2_w 193, 3) := by decide +kernel
theorem dX7_digest_265 : decode cX7_digest 265 = .ok (.invokestatic 195, 3) := by decide +kernel
theorem dX7_digest_268 : decode cX7_digest 268 = .ok (.invokevirtual 187, 3) := by decide +kernel
theorem dX7_digest_271 : decode cX7_digest 271 = .ok (.aload_n 0, 1) := by decide +kernel
theorem dX7_digest_272 : decode cX7_digest 272 = .ok (.aload_n 0, 1) := by decide +kernel
theorem dX7_digest_273 : decode cX7_digest 273 = .ok (.invokevirtual 173, 3) := by decide +kernel
theorem dX7_digest_276 : decode cX7_digest 276 = .ok (.f2d, 1) := by decide +kernel
theorem dX7_digest_277 : decode cX7_digest 277 = .ok (.ldc2_w 199, 3) := by decide +kernel
theorem dX7_digest_280 : decode cX7_digest 280 = .ok (.ldc2_w 201, 3) := by decide +kernel
theorem dX7_digest_283 : decode cX7_digest 283 = .ok (.invokestatic 195, 3) := by decide +kernel
theorem dX7_digest_286 : decode cX7_digest 286 = .ok (.invokevirtual 187, 3) := by decide +kernel
theorem dX7_digest_289 : decode cX7_digest 289 = .ok (.aload_n 0, 1) := by decide +kernel
theorem dX7_digest_290 : decode cX7_digest 290 = .ok (.aload_n 0, 1) := by decide +kernel
theorem dX7_digest_291 : decode cX7_digest 291 = .ok (.getfield 129, 3) := by decide +kernel
theorem dX7_digest_294 : decode cX7_digest 294 = .ok (.ifCond .eq 7, 3) := by decide +kernel
theorem dX7_digest_297 : decode cX7_digest 297 = .ok (.lconst 1, 1) := by decide +kernel
theorem dX7_digest_298 : decode cX7_digest 298 = .ok (.goto 4, 3) := by decide +kernel
theorem dX7_digest_301 : decode cX7_digest 301 = .ok (.lconst 0, 1) := by decide +kernel
theorem dX7_digest_302 : decode cX7_digest 302 = .ok (.invokevirtual 187, 3) := by decide +kernel
theorem dX7_digest_305 : decode cX7_digest 305 = .ok (.aload_n 0, 1) := by decide +kernel
theorem dX7_digest_306 : decode cX7_digest 306 = .ok (.aload_n 0, 1) := by decide +kernel
theorem dX7_digest_307 : decode cX7_digest 307 = .ok (.getfield 96, 3) := by decide +kernel
theorem dX7_digest_310 : decode cX7_digest 310 = .ok (.i2l, 1) := by decide +kernel
theorem dX7_digest_311 : decode cX7_digest 311 = .ok (.invokevirtual 187, 3) := by decide +kernel
theorem dX7_digest_314 : decode cX7_digest 314 = .ok (.iconst 0, 1) := by decide +kernel
theorem dX7_digest_315 : decode cX7_digest 315 = .ok (.istore_n 1, 1) := by decide +kernel
theorem dX7_digest_316 : decode cX7_digest 316 = .ok (.iload_n 1, 1) := by decide +kernel
theorem dX7_digest_317 : decode cX7_digest 317 = .ok (.aload_n 0, 1) := by decide +kernel
theorem dX7_digest_318 : decode cX7_digest 318 = .ok (.getfield 96, 3) := by decide +kernel
theorem dX7_digest_321 : decode cX7_digest 321 = .ok (.if_icmp .ge 20, 3) := by decide +kernel
theorem dX7_digest_324 : decode cX7_digest 324 = .ok (.aload_n 0, 1) := by decide +kernel
theorem dX7_digest_325 : decode cX7_digest 325 = .ok (.aload_n 0, 1) := by decide +kernel
theorem dX7_digest_326 : decode cX7_digest 326 = .ok (.getfield 13, 3) := by decide +kernel
theorem dX7_digest_329 : decode cX7_digest 329 = .ok (.iload_n 1, 1) := by decide +kernel
theorem dX7_digest_330 : decode cX7_digest 330 = .ok (.iaload, 1) := by decide +kernel
theorem dX7_digest_331 : decode cX7_digest 331 = .ok (.i2l, 1) := by decide +kernel
theorem dX7_digest_332 : decode cX7_digest 332 = .ok (.invokevirtual 187, 3) := by decide +kernel
theorem dX7_digest_335 : decode cX7_digest 335 = .ok (.iinc 1 1, 3) := by decide +kernel
theorem dX7_digest_338 : decode cX7_digest 338 = .ok (.goto (-22), 3) := by decide +kernel
theorem dX7_digest_341 : decode cX7_digest 341 = .ok (.aload_n 0, 1) := by decide +kernel
theorem dX7_digest_342 : decode cX7_digest 342 = .ok (.getfield 179, 3) := by decide +kernel
theorem dX7_digest_345 : decode cX7_digest 345 = .ok (.lreturn, 1) := by decide +kernel
end
section
theorem dJ11_isValidCodePoint_9a6ad_0 : decode cJ11_isValidCodePoint_9a6ad 0 = .ok (.iload_n 0, 1) := by decide +kernel
theorem dJ11_isValidCodePoint_9a6ad_1 : decode cJ11_isValidCodePoint_9a6ad 1 = .ok (.bipush 16, 2) := by decide +kernel
theorem dJ11_isValidCodePoint_9a6ad_3 : decode cJ11_isValidCodePoint_9a6ad 3 = .ok (.iushr, 1) := by decide +kernel
theorem dJ11_isValidCodePoint_9a6ad_4 : decode cJ11_isValidCodePoint_9a6ad 4 = .ok (.istore_n 1, 1) := by decide +kernel
theorem dJ11_isValidCodePoint_9a6ad_5 : decode cJ11_isValidCodePoint_9a6ad 5 = .ok (.iload_n 1, 1) := by decide +kernel
theorem dJ11_isValidCodePoint_9a6ad_6 : decode cJ11_isValidCodePoint_9a6ad 6 = .ok (.bipush 17, 2) := by decide +kernel
theorem dJ11_isValidCodePoint_9a6ad_8 : decode cJ11_isValidCodePoint_9a6ad 8 = .ok (.if_icmp .ge 7, 3) := by decide +kernel
theorem dJ11_isValidCodePoint_9a6ad_11 : decode cJ11_isValidCodePoint_9a6ad 11 = .ok (.iconst 1, 1) := by decide +kernel
theorem dJ11_isValidCodePoint_9a6ad_12 : decode cJ11_isValidCodePoint_9a6ad 12 = .ok (.goto 4, 3) := by decide +kernel
theorem dJ11_isValidCodePoint_9a6ad_15 : decode cJ11_isValidCodePoint_9a6ad 15 = .ok (.iconst 0, 1) := by decide +kernel
theorem dJ11_isValidCodePoint_9a6ad_16 : decode cJ11_isValidCodePoint_9a6ad 16 = .ok (.ireturn, 1) := by decide +kernel
theorem dJ11_highSurrogate_5068e_0 : decode cJ11_highSurrogate_5068e 0 = .ok (.iload_n 0, 1) := by decide +kernel
theorem dJ11_highSurrogate_5068e_1 : decode cJ11_highSurrogate_5068e 1 = .ok (.bipush 10, 2) := by decide +kernel
theorem dJ11_highSurrogate_5068e_3 : decode cJ11_highSurrogate_5068e 3 = .ok (.iushr, 1) := by decide +kernel
theorem dJ11_highSurrogate_5068e_4 : decode cJ11_highSurrogate_5068e 4 = .ok (.ldc 110, 2) := by decide +kernel
theorem dJ11_highSurrogate_5068e_6 : decode cJ11_highSurrogate_5068e 6 = .ok (.iadd, 1) := by decide +kernel
theorem dJ11_highSurrogate_5068e_7 : decode cJ11_highSurrogate_5068e 7 = .ok (.i2c, 1) := by decide +kernel
theorem dJ11_highSurrogate_5068e_8 : decode cJ11_highSurrogate_5068e 8 = .ok (.ireturn, 1) := by decide +kernel
theorem dJ11_lowSurrogate_5068e_0 : decode cJ11_lowSurrogate_5068e 0 = .ok (.iload_n 0, 1) := by decide +kernel
theorem dJ11_lowSurrogate_5068e_1 : decode cJ11_lowSurrogate_5068e 1 = .ok (.sipush 1023, 3) := by decide +kernel
theorem dJ11_lowSurrogate_5068e_4 : decode cJ11_lowSurrogate_5068e 4 = .ok (.iand, 1) := by decide +kernel
theorem dJ11_lowSurrogate_5068e_5 : decode cJ11_lowSurrogate_5068e 5 = .ok (.ldc 76, 2) := by decide +kernel
theorem dJ11_lowSurrogate_5068e_7 : decode cJ11_lowSurrogate_5068e 7 = .ok (.iadd, 1) := by decide +kernel
theorem dJ11_lowSurrogate_5068e_8 : decode cJ11_lowSurrogate_5068e 8 = .ok (.i2c, 1) := by decide +kernel
theorem dJ11_lowSurrogate_5068e_9 : decode cJ11_lowSurrogate_5068e 9 = .ok (.ireturn, 1) := by decide +kernel
theorem dJ6_bitCount_0f7a4_0 : decode cJ6_bitCount_0f7a4 0 = .ok (.iload_n 0, 1) := by decide +kernel
theorem dJ6_bitCount_0f7a4_1 : decode cJ6_bitCount_0f7a4 1 = .ok (.iload_n 0, 1) := by decide +kernel
theorem dJ6_bitCount_0f7a4_2 : decode cJ6_bitCount_0f7a4 2 = .ok (.iconst 1, 1) := by decide +kernel
theorem dJ6_bitCount_0f7a4_3 : decode cJ6_bitCount_0f7a4 3 = .ok (.iushr, 1) := by decide +kernel
theorem dJ6_bitCount_0f7a4_4 : decode cJ6_bitCount_0f7a4 4 = .ok (.ldc_w 265, 3) := by decide +kernel
theorem dJ6_bitCount_0f7a4_7 : decode cJ6_bitCount_0f7a4 7 = .ok (.iand, 1) := by decide +kernel
theorem dJ6_bitCount_0f7a4_8 : decode cJ6_bitCount_0f7a4 8 = .ok (.isub, 1) := by decide +kernel
theorem dJ6_bitCount_0f7a4_9 : decode cJ6_bitCount_0f7a4 9 = .ok (.istore_n 0, 1) := by decide +kernel
theorem dJ6_bitCount_0f7a4_10 : decode cJ6_bitCount_0f7a4 10 = .ok (.iload_n 0, 1) := by decide +kernel
theorem dJ6_bitCount_0f7a4_11 : decode cJ6_bitCount_0f7a4 11 = .ok (.ldc_w 266, 3) := by decide +kernel
theorem dJ6_bitCount_0f7a4_14 : decode cJ6_bitCount_0f7a4 14 = .ok (.iand, 1) := by decide +kernel
theorem dJ6_bitCount_0f7a4_15 : decode cJ6_bitCount_0f7a4 15 = .ok (.iload_n 0, 1) := by decide +kernel
theorem dJ6_bitCount_0f7a4_16 : decode cJ6_bitCount_0f7a4 16 = .ok (.iconst 2, 1) := by decide +kernel
theorem dJ6_bitCount_0f7a4_17 : decode cJ6_bitCount_0f7a4 17 = .ok (.iushr, 1) := by decide +kernel
theorem dJ6_bitCount_0f7a4_18 : decode cJ6_bitCount_0f7a4 18 = .ok (.ldc_w 266, 3) := by decide +kernel
theorem dJ6_bitCount_0f7a4_21 : decode cJ6_bitCount_0f7a4 21 = .ok (.iand, 1) := by decide +kernel
theorem dJ6_bitCount_0f7a4_22 : decode cJ6_bitCount_0f7a4 22 = .ok (.iadd, 1) := by decide +kernel
theorem dJ6_bitCount_0f7a4_23 : decode cJ6_bitCount_0f7a4 23 = .ok (.istore_n 0, 1) := by decide +kernel
theorem dJ6_bitCount_0f7a4_24 : decode cJ6_bitCount_0f7a4 24 = .ok (.iload_n 0, 1) := by decide +kernel
theorem dJ6_bitCount_0f7a4_25 : decode cJ6_bitCount_0f7a4 25 = .ok (.iload_n 0, 1) := by decide +kernel
theorem dJ6_bitCount_0f7a4_26 : decode cJ6_bitCount_0f7a4 26 = .ok (.iconst 4, 1) := by decide +kernel
theorem dJ6_bitCount_0f7a4_27 : decode cJ6_bitCount_0f7a4 27 = .ok (.iushr, 1) := by decide +kernel
theorem dJ6_bitCount_0f7a4_28 : decode cJ6_bitCount_0f7a4 28 = .ok (.iadd, 1) := by decide +kernel
theorem dJ6_bitCount_0f7a4_29 : decode cJ6_bitCount_0f7a4 29 = .ok (.ldc_w 267, 3) := by decide +kernel
theorem dJ6_bitCount_0f7a4_32 : decode cJ6_bitCount_0f7a4 32 = .ok (.iand, 1) := by decide +kernel
theorem dJ6_bitCount_0f7a4_33 : decode cJ6_bitCount_0f7a4 33 = .ok (.istore_n 0, 1) := by decide +kernel
theorem dJ6_bitCount_0f7a4_34 : decode cJ6_bitCount_0f7a4 34 = .ok (.iload_n 0, 1) := by decide +kernel
theorem dJ6_bitCount_0f7a4_35 : decode cJ6_bitCount_0f7a4 35 = .ok (.iload_n 0, 1) := by decide +kernel
theorem dJ6_bitCount_0f7a4_36 : decode cJ6_bitCount_0f7a4 36 = .ok (.bipush 8, 2) := by decide +kernel
theorem dJ6_bitCount_0f7a4_38 : decode cJ6_bitCount_0f7a4 38 = .ok (.iushr, 1) := by decide +kernel
theorem dJ6_bitCount_0f7a4_39 : decode cJ6_bitCount_0f7a4 39 = .ok (.iadd, 1) := by decide +kernel
theorem dJ6_bitCount_0f7a4_40 : decode cJ6_bitCount_0f7a4 40 = .ok (.istore_n 0, 1) := by decide +kernel
theorem dJ6_bitCount_0f7a4_41 : decode cJ6_bitCount_0f7a4 41 = .ok (.iload_n 0, 1) := by decide +kernel
theorem dJ6_bitCount_0f7a4_42 : decode cJ6_bitCount_0f7a4 42 = .ok (.iload_n 0, 1) := by decide +kernel
theorem dJ6_bitCount_0f7a4_43 : decode cJ6_bitCount_0f7a4 43 = .ok (.bipush 16, 2) := by decide +kernel
theorem dJ6_bitCount_0f7a4_45 : decode cJ6_bitCount_0f7a4 45 = .ok (.iushr, 1) := by decide +kernel
theorem dJ6_bitCount_0f7a4_46 : decode cJ6_bitCount_0f7a4 46 = .ok (.iadd, 1) := by decide +kernel
theorem dJ6_bitCount_0f7a4_47 : decode cJ6_bitCount_0f7a4 47 = .ok (.istore_n 0, 1) := by decide +kernel
theorem dJ6_bitCount_0f7a4_48 : decode cJ6_bitCount_0f7a4 48 = .ok (.iload_n 0, 1) := by decide +kernel
theorem dJ6_bitCount_0f7a4_49 : decode cJ6_bitCount_0f7a4 49 = .ok (.bipush 63, 2) := by decide +kernel
theorem dJ6_bitCount_0f7a4_51 : decode cJ6_bitCount_0f7a4 51 = .ok (.iand, 1) := by decide +kernel
theorem dJ6_bitCount_0f7a4_52 : decode cJ6_bitCount_0f7a4 52 = .ok (.ireturn, 1) := by decide +kernel
theorem dJ13_bitCount_95d88_0 : decode cJ13_bitCount_95d88 0 = .ok (.lload_n 0, 1) := by decide +kernel
theorem dJ13_bitCount_95d88_1 : decode cJ13_bitCount_95d88 1 = .ok (.lload_n 0, 1) := by decide +kernel
theorem dJ13_bitCount_95d88_2 : decode cJ13_bitCount_95d88 2 = .ok (.iconst 1, 1) := by decide +kernel
theorem dJ13_bitCount_95d88_3 : decode cJ13_bitCount_95d88 3 = .ok (.lushr, 1) := by decide +kernel
theorem dJ13_bitCount_95d88_4 : decode cJ13_bitCount_95d88 4 = .ok (.ldc2_w 314, 3) := by decide +kernel
theorem dJ13_bitCount_95d88_7 : decode cJ13_bitCount_95d88 7 = .ok (.land, 1) := by decide +kernel
theorem dJ13_bitCount_95d88_8 : decode cJ13_bitCount_95d88 8 = .ok (.lsub, 1) := by decide +kernel
theorem dJ13_bitCount_95d88_9 : decode cJ13_bitCount_95d88 9 = .ok (.lstore_n 0, 1) := by decide +kernel
theorem dJ13_bitCount_95d88_10 : decode cJ13_bitCount_95d88 10 = .ok (.lload_n 0, 1) := by decide +kernel
theorem dJ13_bitCount_95d88_11 : decode cJ13_bitCount_95d88 11 = .ok (.ldc2_w 316, 3) := by decide +kernel
theorem dJ13_bitCount_95d88_14 : decode cJ13_bitCount_95d88 14 = .ok (.land, 1) := by decide +kernel
theorem dJ13_bitCount_95d88_15 : decode cJ13_bitCount_95d88 15 = .ok (.lload_n 0, 1) := by decide +kernel
theorem dJ13_bitCount_95d88_16 : decode cJ13_bitCount_95d88 16 = .ok (.iconst 2, 1) := by decide +kernel
theorem dJ13_bitCount_95d88_17 : decode cJ13_bitCount_95d88 17 = .ok (.lushr, 1) := by decide +kernel
theorem dJ13_bitCount_95d88_18 : decode cJ13_bitCount_95d88 18 = .ok (.ldc2_w 316, 3) := by decide +kernel
theorem dJ13_bitCount_95d88_21 : decode cJ13_bitCount_95d88 21 = .ok (.land, 1) := by decide +kernel
theorem dJ13_bitCount_95d88_22 : decode cJ13_bitCount_95d88 22 = .ok (.ladd, 1) := by decide +kernel
theorem dJ13_bitCount_95d88_23 : decode cJ13_bitCount_95d88 23 = .ok (.lstore_n 0, 1) := by decide +kernel
theorem dJ13_bitCount_95d88_24 : decode cJ13_bitCount_95d88 24 = .ok (.lload_n 0, 1) := by decide +kernel
theorem dJ13_bitCount_95d88_25 : decode cJ13_bitCount_95d88 25 = .ok (.lload_n 0, 1) := by decide +kernel
theorem dJ13_bitCount_95d88_26 : decode cJ13_bitCount_95d88 26 = .ok (.iconst 4, 1) := by decide +kernel
theorem dJ13_bitCount_95d88_27 : decode cJ13_bitCount_95d88 27 = .ok (.lushr, 1) := by decide +kernel
theorem dJ13_bitCount_95d88_28 : decode cJ13_bitCount_95d88 28 = .ok (.ladd, 1) := by decide +kernel
theorem dJ13_bitCount_95d88_29 : decode cJ13_bitCount_95d88 29 = .ok (.ldc2_w 318, 3) := by decide +kernel
theorem dJ13_bitCount_95d88_32 : decode cJ13_bitCount_95d88 32 = .ok (.land, 1) := by decide +kernel
theorem dJ13_bitCount_95d88_33 : decode cJ13_bitCount_95d88 33 = .ok (.lstore_n 0, 1) := by decide +kernel
theorem dJ13_bitCount_95d88_34 : decode cJ13_bitCount_95d88 34 = .ok (.lload_n 0, 1) := by decide +kernel
theorem dJ13_bitCount_95d88_35 : decode cJ13_bitCount_95d88 35 = .ok (.lload_n 0, 1) := by decide +kernel
theorem dJ13_bitCount_95d88_36 : decode cJ13_bitCount_95d88 36 = .ok (.bipush 8, 2) := by decide +kernel
theorem dJ13_bitCount_95d88_38 : decode cJ13_bitCount_95d88 38 = .ok (.lushr, 1) := by decide +kernel
theorem dJ13_bitCount_95d88_39 : decode cJ13_bitCount_95d88 39 = .ok (.ladd, 1) := by decide +kernel
theorem dJ13_bitCount_95d88_40 : decode cJ13_bitCount_95d88 40 = .ok (.lstore_n 0, 1) := by decide +kernel
theorem dJ13_bitCount_95d88_41 : decode cJ13_bitCount_95d88 41 = .ok (.lload_n 0, 1) := by decide +kernel
theorem dJ13_bitCount_95d88_42 : decode cJ13_bitCount_95d88 42 = .ok (.lload_n 0, 1) := by decide +kernel
theorem dJ13_bitCount_95d88_43 : decode cJ13_bitCount_95d88 43 = .ok (.bipush 16, 2) := by decide +kernel
theorem dJ13_bitCount_95d88_45 : decode cJ13_bitCount_95d88 45 = .ok (.lushr, 1) := by decide +kernel
theorem dJ13_bitCount_95d88_46 : decode cJ13_bitCount_95d88 46 = .ok (.ladd, 1) := by decide +kernel
theorem dJ13_bitCount_95d88_47 : decode cJ13_bitCount_95d88 47 = .ok (.lstore_n 0, 1) := by decide +kernel
theorem dJ13_bitCount_95d88_48 : decode cJ13_bitCount_95d88 48 = .ok (.lload_n 0, 1) := by decide +kernel
theorem dJ13_bitCount_95d88_49 : decode cJ13_bitCount_95d88 49 = .ok (.lload_n 0, 1) := by decide +kernel
theorem dJ13_bitCount_95d88_50 : decode cJ13_bitCount_95d88 50 = .ok (.bipush 32, 2) := by decide +kernel
theorem dJ13_bitCount_95d88_52 : decode cJ13_bitCount_95d88 52 = .ok (.lushr, 1) := by decide +kernel
theorem dJ13_bitCount_95d88_53 : decode cJ13_bitCount_95d88 53 = .ok (.ladd, 1) := by decide +kernel
theorem dJ13_bitCount_95d88_54 : decode cJ13_bitCount_95d88 54 = .ok (.lstore_n 0, 1) := by decide +kernel
theorem dJ13_bitCount_95d88_55 : decode cJ13_bitCount_95d88 55 = .ok (.lload_n 0, 1) := by decide +kernel
theorem dJ13_bitCount_95d88_56 : decode cJ13_bitCount_95d88 56 = .ok (.l2i, 1) := by decide +kernel
theorem dJ13_bitCount_95d88_57 : decode cJ13_bitCount_95d88 57 = .ok (.bipush 127, 2) := by decide +kernel
theorem dJ13_bitCount_95d88_59 : decode cJ13_bitCount_95d88 59 = .ok (.iand, 1) := by decide +kernel
theorem dJ13_bitCount_95d88_60 : decode cJ13_bitCount_95d88 60 = .ok (.ireturn, 1) := by decide +kernel
theorem dJ9_floorMod_7cf53_0 : decode cJ9_floorMod_7cf53 0 = .ok (.iload_n 0, 1) := by decide +kernel
theorem dJ9_floorMod_7cf53_1 : decode cJ9_floorMod_7cf53 1 = .ok (.iload_n 1, 1) := by decide +kernel
theorem dJ9_floorMod_7cf53_2 : decode cJ9_floorMod_7cf53 2 = .ok (.irem, 1) := by decide +kernel
theorem dJ9_floorMod_7cf53_3 : decode cJ9_floorMod_7cf53 3 = .ok (.istore_n 2, 1) := by decide +kernel
theorem dJ9_floorMod_7cf53_4 : decode cJ9_floorMod_7cf53 4 = .ok (.iload_n 0, 1) := by decide +kernel
theorem dJ9_floorMod_7cf53_5 : decode cJ9_floorMod_7cf53 5 = .ok (.iload_n 1, 1) := by decide +kernel
theorem dJ9_floorMod_7cf53_6 : decode cJ9_floorMod_7cf53 6 = .ok (.ixor, 1) := by decide +kernel
theorem dJ9_floorMod_7cf53_7 : decode cJ9_floorMod_7cf53 7 = .ok (.ifCond .ge 11, 3) := by decide +kernel
theorem dJ9_floorMod_7cf53_10 : decode cJ9_floorMod_7cf53 10 = .ok (.iload_n 2, 1) := by decide +kernel
theorem dJ9_floorMod_7cf53_11 : decode cJ9_floorMod_7cf53 11 = .ok (.ifCond .eq 7, 3) := by decide +kernel
theorem dJ9_floorMod_7cf53_14 : decode cJ9_floorMod_7cf53 14 = .ok (.iload_n 2, 1) := by decide +kernel
theorem dJ9_floorMod_7cf53_15 : decode cJ9_floorMod_7cf53 15 = .ok (.iload_n 1, 1) := by decide +kernel
theorem dJ9_floorMod_7cf53_16 : decode cJ9_floorMod_7cf53 16 = .ok (.iadd, 1) := by decide +kernel
theorem dJ9_floorMod_7cf53_17 : decode cJ9_floorMod_7cf53 17 = .ok (.ireturn, 1) := by decide +kernel
theorem dJ9_floorMod_7cf53_18 : decode cJ9_floorMod_7cf53 18 = .ok (.iload_n 2, 1) := by decide +kernel
theorem dJ9_floorMod_7cf53_19 : decode cJ9_floorMod_7cf53 19 = .ok (.ireturn, 1) := by decide +kernel
theorem dJ9_max_7cf53_0 : decode cJ9_max_7cf53 0 = .ok (.iload_n 0, 1) := by decide +kernel
theorem dJ9_max_7cf53_1 : decode cJ9_max_7cf53 1 = .ok (.iload_n 1, 1) := by decide +kernel
theorem dJ9_max_7cf53_2 : decode cJ9_max_7cf53 2 = .ok (.if_icmp .lt 7, 3) := by decide +kernel
theorem dJ9_max_7cf53_5 : decode cJ9_max_7cf53 5 = .ok (.iload_n 0, 1) := by decide +kernel
theorem dJ9_max_7cf53_6 : decode cJ9_max_7cf53 6 = .ok (.goto 4, 3) := by decide +kernel
theorem dJ9_max_7cf53_9 : decode cJ9_max_7cf53 9 = .ok (.iload_n 1, 1) := by decide +kernel
theorem dJ9_max_7cf53_10 : decode cJ9_max_7cf53 10 = .ok (.ireturn, 1) := by decide +kernel
theorem dJ9_min_7cf53_0 : decode cJ9_min_7cf53 0 = .ok (.iload_n 0, 1) := by decide +kernel
theorem dJ9_min_7cf53_1 : decode cJ9_min_7cf53 1 = .ok (.iload_n 1, 1) := by decide +kernel
theorem dJ9_min_7cf53_2 : decode cJ9_min_7cf53 2 = .ok (.if_icmp .gt 7, 3) := by decide +kernel
theorem dJ9_min_7cf53_5 : decode cJ9_min_7cf53 5 = .ok (.iload_n 0, 1) := by decide +kernel
theorem dJ9_min_7cf53_6 : decode cJ9_min_7cf53 6 = .ok (.goto 4, 3) := by decide +kernel
theorem dJ9_min_7cf53_9 : decode cJ9_min_7cf53 9 = .ok (.iload_n 1, 1) := by decide +kernel
theorem dJ9_min_7cf53_10 : decode cJ9_min_7cf53 10 = .ok (.ireturn, 1) := by decide +kernel
theorem dJ0_length_8abf5_0 : decode cJ0_length_8abf5 0 = .ok (.aload_n 0, 1) := by decide +kernel
theorem dJ0_length_8abf5_1 : decode cJ0_length_8abf5 1 = .ok (.getfield 9, 3) := by decide +kernel
theorem dJ0_length_8abf5_4 : decode cJ0_length_8abf5 4 = .ok (.arraylength, 1) := by decide +kernel
theorem dJ0_length_8abf5_5 : decode cJ0_length_8abf5 5 = .ok (.aload_n 0, 1) := by decide +kernel
theorem dJ0_length_8abf5_6 : decode cJ0_length_8abf5 6 = .ok (.invokevirtual 335, 3) := by decide +kernel
theorem dJ0_length_8abf5_9 : decode cJ0_length_8abf5 9 = .ok (.ishr, 1) := by decide +kernel
theorem dJ0_length_8abf5_10 : decode cJ0_length_8abf5 10 = .ok (.ireturn, 1) := by decide +kernel
theorem dJ0_indexOf_0f7a4_0 : decode cJ0_indexOf_0f7a4 0 = .ok (.aload_n 0, 1) := by decide +kernel
theorem dJ0_indexOf_0f7a4_1 : decode cJ0_indexOf_0f7a4 1 = .ok (.iload_n 1, 1) := by decide +kernel
theorem dJ0_indexOf_0f7a4_2 : decode cJ0_indexOf_0f7a4 2 = .ok (.iconst 0, 1) := by decide +kernel
theorem dJ0_indexOf_0f7a4_3 : decode cJ0_indexOf_0f7a4 3 = .ok (.invokevirtual 633, 3) := by decide +kernel
theorem dJ0_indexOf_0f7a4_6 : decode cJ0_indexOf_0f7a4 6 = .ok (.ireturn, 1) := by decide +kernel
theorem dJ0_indexOf_7cf53_0 : decode cJ0_indexOf_7cf53 0 = .ok (.aload_n 0, 1) := by decide +kernel
theorem dJ0_indexOf_7cf53_1 : decode cJ0_indexOf_7cf53 1 = .ok (.invokevirtual 492, 3) := by decide +kernel
theorem dJ0_indexOf_7cf53_4 : decode cJ0_indexOf_7cf53 4 = .ok (.ifCond .eq 19, 3) := by decide +kernel
theorem dJ0_indexOf_7cf53_7 : decode cJ0_indexOf_7cf53 7 = .ok (.aload_n 0, 1) := by decide +kernel
theorem dJ0_indexOf_7cf53_8 : decode cJ0_indexOf_7cf53 8 = .ok (.getfield 9, 3) := by decide +kernel
theorem dJ0_indexOf_7cf53_11 : decode cJ0_indexOf_7cf53 11 = .ok (.iload_n 1, 1) := by decide +kernel
theorem dJ0_indexOf_7cf53_12 : decode cJ0_indexOf_7cf53 12 = .ok (.iload_n 2, 1) := by decide +kernel
theorem dJ0_indexOf_7cf53_13 : decode cJ0_indexOf_7cf53 13 = .ok (.aload_n 0, 1) := by decide +kernel
theorem dJ0_indexOf_7cf53_14 : decode cJ0_indexOf_7cf53 14 = .ok (.invokevirtual 505, 3) := by decide +kernel
theorem dJ0_indexOf_7cf53_17 : decode cJ0_indexOf_7cf53 17 = .ok (.invokestatic 637, 3) := by decide +kernel
theorem dJ0_indexOf_7cf53_20 : decode cJ0_indexOf_7cf53 20 = .ok (.goto 16, 3) := by decide +kernel
theorem dJ0_indexOf_7cf53_23 : decode cJ0_indexOf_7cf53 23 = .ok (.aload_n 0, 1) := by decide +kernel
theorem dJ0_indexOf_7cf53_24 : decode cJ0_indexOf_7cf53 24 = .ok (.getfield 9, 3) := by decide +kernel
theorem dJ0_indexOf_7cf53_27 : decode cJ0_indexOf_7cf53 27 = .ok (.iload_n 1, 1) := by decide +kernel
theorem dJ0_indexOf_7cf53_28 : decode cJ0_indexOf_7cf53 28 = .ok (.iload_n 2, 1) := by decide +kernel
theorem dJ0_indexOf_7cf53_29 : decode cJ0_indexOf_7cf53 29 = .ok (.aload_n 0, 1) := by decide +kernel
theorem dJ0_indexOf_7cf53_30 : decode cJ0_indexOf_7cf53 30 = .ok (.invokevirtual 505, 3) := by decide +kernel
theorem dJ0_indexOf_7cf53_33 : decode cJ0_indexOf_7cf53 33 = .ok (.invokestatic 640, 3) := by decide +kernel
theorem dJ0_indexOf_7cf53_36 : decode cJ0_indexOf_7cf53 36 = .ok (.ireturn, 1) := by decide +kernel
theorem dJ0_coder_7d493_0 : decode cJ0_coder_7d493 0 = .ok (.getstatic 38, 3) := by decide +kernel
theorem dJ0_coder_7d493_3 : decode cJ0_coder_7d493 3 = .ok (.ifCond .eq 10, 3) := by decide +kernel
theorem dJ0_coder_7d493_6 : decode cJ0_coder_7d493 6 = .ok (.aload_n 0, 1) := by decide +kernel
theorem dJ0_coder_7d493_7 : decode cJ0_coder_7d493 7 = .ok (.getfield 15, 3) := by decide +kernel
theorem dJ0_coder_7d493_10 : decode cJ0_coder_7d493 10 = .ok (.goto 4, 3) := by decide +kernel
theorem dJ0_coder_7d493_13 : decode cJ0_coder_7d493 13 = .ok (.iconst 1, 1) := by decide +kernel
theorem dJ0_coder_7d493_14 : decode cJ0_coder_7d493 14 = .ok (.ireturn, 1) := by decide +kernel
theorem dJ0_isLatin1_aae02_0 : decode cJ0_isLatin1_aae02 0 = .ok (.getstatic 38, 3) := by decide +kernel
theorem dJ0_isLatin1_aae02_3 : decode cJ0_isLatin1_aae02 3 = .ok (.ifCond .eq 14, 3) := by decide +kernel
theorem dJ0_isLatin1_aae02_6 : decode cJ0_isLatin1_aae02 6 = .ok (.aload_n 0, 1) := by decide +kernel
theorem dJ0_isLatin1_aae02_7 : decode cJ0_isLatin1_aae02 7 = .ok (.getfield 15, 3) := by decide +kernel
theorem dJ0_isLatin1_aae02_10 : decode cJ0_isLatin1_aae02 10 = .ok (.ifCond .ne 7, 3) := by decide +kernel
theorem dJ0_isLatin1_aae02_13 : decode cJ0_isLatin1_aae02 13 = .ok (.iconst 1, 1) := by decide +kernel
theorem dJ0_isLatin1_aae02_14 : decode cJ0_isLatin1_aae02 14 = .ok (.goto 4, 3) := by decide +kernel
theorem dJ0_isLatin1_aae02_17 : decode cJ0_isLatin1_aae02 17 = .ok (.iconst 0, 1) := by decide +kernel
theorem dJ0_isLatin1_aae02_18 : decode cJ0_isLatin1_aae02 18 = .ok (.ireturn, 1) := by decide +kernel
theorem dJ0_checkBoundsBeginEnd_23922_0 : decode cJ0_checkBoundsBeginEnd_23922 0 = .ok (.iload_n 0, 1) := by decide +kernel
theorem dJ0_checkBoundsBeginEnd_23922_1 : decode cJ0_checkBoundsBeginEnd_23922 1 = .ok (.iload_n 1, 1) := by decide +kernel
theorem dJ0_checkBoundsBeginEnd_23922_2 : decode cJ0_checkBoundsBeginEnd_23922 2 = .ok (.iload_n 2, 1) := by decide +kernel
theorem dJ0_checkBoundsBeginEnd_23922_3 : decode cJ0_checkBoundsBeginEnd_23922 3 = .ok (.getstatic 1053, 3) := by decide +kernel
theorem dJ0_checkBoundsBeginEnd_23922_6 : decode cJ0_checkBoundsBeginEnd_23922 6 = .ok (.invokestatic 1062, 3) := by decide +kernel
theorem dJ0_checkBoundsBeginEnd_23922_9 : decode cJ0_checkBoundsBeginEnd_23922 9 = .ok (.pop, 1) := by decide +kernel
theorem dJ0_checkBoundsBeginEnd_23922_10 : decode cJ0_checkBoundsBeginEnd_23922 10 = .ok (.return_, 1) := by decide +kernel
theorem dJ1_canEncode_9a6ad_0 : decode cJ1_canEncode_9a6ad 0 = .ok (.iload_n 0, 1) := by decide +kernel
theorem dJ1_canEncode_9a6ad_1 : decode cJ1_canEncode_9a6ad 1 = .ok (.ifCond .lt 14, 3) := by decide +kernel
theorem dJ1_canEncode_9a6ad_4 : decode cJ1_canEncode_9a6ad 4 = .ok (.iload_n 0, 1) := by decide +kernel
theorem dJ1_canEncode_9a6ad_5 : decode cJ1_canEncode_9a6ad 5 = .ok (.sipush 255, 3) := by decide +kernel
theorem dJ1_canEncode_9a6ad_8 : decode cJ1_canEncode_9a6ad 8 = .ok (.if_icmp .gt 7, 3) := by decide +kernel
theorem dJ1_canEncode_9a6ad_11 : decode cJ1_canEncode_9a6ad 11 = .ok (.iconst 1, 1) := by decide +kernel
theorem dJ1_canEncode_9a6ad_12 : decode cJ1_canEncode_9a6ad 12 = .ok (.goto 4, 3) := by decide +kernel
theorem dJ1_canEncode_9a6ad_15 : decode cJ1_canEncode_9a6ad 15 = .ok (.iconst 0, 1) := by decide +kernel
theorem dJ1_canEncode_9a6ad_16 : decode cJ1_canEncode_9a6ad 16 = .ok (.ireturn, 1) := by decide +kernel
theorem dJ1_indexOf_4cfef_0 : decode cJ1_indexOf_4cfef 0 = .ok (.iload_n 1, 1) := by decide +kernel
theorem dJ1_indexOf_4cfef_1 : decode cJ1_indexOf_4cfef 1 = .ok (.invokestatic 88, 3) := by decide +kernel
theorem dJ1_indexOf_4cfef_4 : decode cJ1_indexOf_4cfef 4 = .ok (.ifCond .ne 5, 3) := by decide +kernel
theorem dJ1_indexOf_4cfef_7 : decode cJ1_indexOf_4cfef 7 = .ok (.iconst (-1), 1) := by decide +kernel
theorem dJ1_indexOf_4cfef_8 : decode cJ1_indexOf_4cfef 8 = .ok (.ireturn, 1) := by decide +kernel
theorem dJ1_indexOf_4cfef_9 : decode cJ1_indexOf_4cfef 9 = .ok (.iload_n 2, 1) := by decide +kernel
theorem dJ1_indexOf_4cfef_10 : decode cJ1_indexOf_4cfef 10 = .ok (.iconst 0, 1) := by decide +kernel
theorem dJ1_indexOf_4cfef_11 : decode cJ1_indexOf_4cfef 11 = .ok (.invokestatic 92, 3) := by decide +kernel
theorem dJ1_indexOf_4cfef_14 : decode cJ1_indexOf_4cfef 14 = .ok (.istore_n 2, 1) := by decide +kernel
theorem dJ1_indexOf_4cfef_15 : decode cJ1_indexOf_4cfef 15 = .ok (.iload_n 3, 1) := by decide +kernel
theorem dJ1_indexOf_4cfef_16 : decode cJ1_indexOf_4cfef 16 = .ok (.aload_n 0, 1) := by decide +kernel
theorem dJ1_indexOf_4cfef_17 : decode cJ1_indexOf_4cfef 17 = .ok (.arraylength, 1) := by decide +kernel
theorem dJ1_indexOf_4cfef_18 : decode cJ1_indexOf_4cfef 18 = .ok (.invokestatic 38, 3) := by decide +kernel
theorem dJ1_indexOf_4cfef_21 : decode cJ1_indexOf_4cfef 21 = .ok (.istore_n 3, 1) := by decide +kernel
theorem dJ1_indexOf_4cfef_22 : decode cJ1_indexOf_4cfef 22 = .ok (.iload_n 2, 1) := by decide +kernel
theorem dJ1_indexOf_4cfef_23 : decode cJ1_indexOf_4cfef 23 = .ok (.iload_n 3, 1) := by decide +kernel
theorem dJ1_indexOf_4cfef_24 : decode cJ1_indexOf_4cfef 24 = .ok (.if_icmp .lt 5, 3) := by decide +kernel
theorem dJ1_indexOf_4cfef_27 : decode cJ1_indexOf_4cfef 27 = .ok (.iconst (-1), 1) := by decide +kernel
theorem dJ1_indexOf_4cfef_28 : decode cJ1_indexOf_4cfef 28 = .ok (.ireturn, 1) := by decide +kernel
theorem dJ1_indexOf_4cfef_29 : decode cJ1_indexOf_4cfef 29 = .ok (.aload_n 0, 1) := by decide +kernel
theorem dJ1_indexOf_4cfef_30 : decode cJ1_indexOf_4cfef 30 = .ok (.iload_n 1, 1) := by decide +kernel
theorem dJ1_indexOf_4cfef_31 : decode cJ1_indexOf_4cfef 31 = .ok (.iload_n 2, 1) := by decide +kernel
theorem dJ1_indexOf_4cfef_32 : decode cJ1_indexOf_4cfef 32 = .ok (.iload_n 3, 1) := by decide +kernel
theorem dJ1_indexOf_4cfef_33 : decode cJ1_indexOf_4cfef 33 = .ok (.invokestatic 95, 3) := by decide +kernel
theorem dJ1_indexOf_4cfef_36 : decode cJ1_indexOf_4cfef 36 = .ok (.ireturn, 1) := by decide +kernel
theorem dJ1_indexOfChar_4cfef_0 : decode cJ1_indexOfChar_4cfef 0 = .ok (.iload_n 1, 1) := by decide +kernel
theorem dJ1_indexOfChar_4cfef_1 : decode cJ1_indexOfChar_4cfef 1 = .ok (.i2b, 1) := by decide +kernel
theorem dJ1_indexOfChar_4cfef_2 : decode cJ1_indexOfChar_4cfef 2 = .ok (.istore 4, 2) := by decide +kernel
theorem dJ1_indexOfChar_4cfef_4 : decode cJ1_indexOfChar_4cfef 4 = .ok (.iload_n 2, 1) := by decide +kernel
theorem dJ1_indexOfChar_4cfef_5 : decode cJ1_indexOfChar_4cfef 5 = .ok (.istore 5, 2) := by decide +kernel
theorem dJ1_indexOfChar_4cfef_7 : decode cJ1_indexOfChar_4cfef 7 = .ok (.iload 5, 2) := by decide +kernel
theorem dJ1_indexOfChar_4cfef_9 : decode cJ1_indexOfChar_4cfef 9 = .ok (.iload_n 3, 1) := by decide +kernel
theorem dJ1_indexOfChar_4cfef_10 : decode cJ1_indexOfChar_4cfef 10 = .ok (.if_icmp .ge 21, 3) := by decide +kernel
theorem dJ1_indexOfChar_4cfef_13 : decode cJ1_indexOfChar_4cfef 13 = .ok (.aload_n 0, 1) := by decide +kernel
theorem dJ1_indexOfChar_4cfef_14 : decode cJ1_indexOfChar_4cfef 14 = .ok (.iload 5, 2) := by decide +kernel
theorem dJ1_indexOfChar_4cfef_16 : decode cJ1_indexOfChar_4cfef 16 = .ok (.baload, 1) := by decide +kernel
theorem dJ1_indexOfChar_4cfef_17 : decode cJ1_indexOfChar_4cfef 17 = .ok (.iload 4, 2) := by decide +kernel
theorem dJ1_indexOfChar_4cfef_19 : decode cJ1_indexOfChar_4cfef 19 = .ok (.if_icmp .ne 6, 3) := by decide +kernel
theorem dJ1_indexOfChar_4cfef_22 : decode cJ1_indexOfChar_4cfef 22 = .ok (.iload 5, 2) := by decide +kernel
theorem dJ1_indexOfChar_4cfef_24 : decode cJ1_indexOfChar_4cfef 24 = .ok (.ireturn, 1) := by decide +kernel
theorem dJ1_indexOfChar_4cfef_25 : decode cJ1_indexOfChar_4cfef 25 = .ok (.iinc 5 1, 3) := by decide +kernel
theorem dJ1_indexOfChar_4cfef_28 : decode cJ1_indexOfChar_4cfef 28 = .ok (.goto (-21), 3) := by decide +kernel
theorem dJ1_indexOfChar_4cfef_31 : decode cJ1_indexOfChar_4cfef 31 = .ok (.iconst (-1), 1) := by decide +kernel
theorem dJ1_indexOfChar_4cfef_32 : decode cJ1_indexOfChar_4cfef 32 = .ok (.ireturn, 1) := by decide +kernel
theorem dJ2_getChar_3b067_0 : decode cJ2_getChar_3b067 0 = .ok (.getstatic 44, 3) := by decide +kernel
theorem dJ2_getChar_3b067_3 : decode cJ2_getChar_3b067 3 = .ok (.ifCond .ne 25, 3) := by decide +kernel
theorem dJ2_getChar_3b067_6 : decode cJ2_getChar_3b067 6 = .ok (.iload_n 1, 1) := by decide +kernel
theorem dJ2_getChar_3b067_7 : decode cJ2_getChar_3b067 7 = .ok (.ifCond .lt 11, 3) := by decide +kernel
theorem dJ2_getChar_3b067_10 : decode cJ2_getChar_3b067 10 = .ok (.iload_n 1, 1) := by decide +kernel
theorem dJ2_getChar_3b067_11 : decode cJ2_getChar_3b067 11 = .ok (.aload_n 0, 1) := by decide +kernel
theorem dJ2_getChar_3b067_12 : decode cJ2_getChar_3b067 12 = .ok (.invokestatic 48, 3) := by decide +kernel
theorem dJ2_getChar_3b067_15 : decode cJ2_getChar_3b067 15 = .ok (.if_icmp .lt 13, 3) := by decide +kernel
theorem dJ2_getChar_3b067_18 : decode cJ2_getChar_3b067 18 = .ok (.new 52, 3) := by decide +kernel
theorem dJ2_getChar_3b067_21 : decode cJ2_getChar_3b067 21 = .ok (.dup, 1) := by decide +kernel
theorem dJ2_getChar_3b067_22 : decode cJ2_getChar_3b067 22 = .ok (.ldc 54, 2) := by decide +kernel
theorem dJ2_getChar_3b067_24 : decode cJ2_getChar_3b067 24 = .ok (.invokespecial 56, 3) := by decide +kernel
theorem dJ2_getChar_3b067_27 : decode cJ2_getChar_3b067 27 = .ok (.athrow, 1) := by decide +kernel
theorem dJ2_getChar_3b067_28 : decode cJ2_getChar_3b067 28 = .ok (.iload_n 1, 1) := by decide +kernel
theorem dJ2_getChar_3b067_29 : decode cJ2_getChar_3b067 29 = .ok (.iconst 1, 1) := by decide +kernel
theorem dJ2_getChar_3b067_30 : decode cJ2_getChar_3b067 30 = .ok (.ishl, 1) := by decide +kernel
theorem dJ2_getChar_3b067_31 : decode cJ2_getChar_3b067 31 = .ok (.istore_n 1, 1) := by decide +kernel
theorem dJ2_getChar_3b067_32 : decode cJ2_getChar_3b067 32 = .ok (.aload_n 0, 1) := by decide +kernel
theorem dJ2_getChar_3b067_33 : decode cJ2_getChar_3b067 33 = .ok (.iload_n 1, 1) := by decide +kernel
theorem dJ2_getChar_3b067_34 : decode cJ2_getChar_3b067 34 = .ok (.iinc 1 1, 3) := by decide +kernel
theorem dJ2_getChar_3b067_37 : decode cJ2_getChar_3b067 37 = .ok (.baload, 1) := by decide +kernel
theorem dJ2_getChar_3b067_38 : decode cJ2_getChar_3b067 38 = .ok (.sipush 255, 3) := by decide +kernel
theorem dJ2_getChar_3b067_41 : decode cJ2_getChar_3b067 41 = .ok (.iand, 1) := by decide +kernel
theorem dJ2_getChar_3b067_42 : decode cJ2_getChar_3b067 42 = .ok (.getstatic 59, 3) := by decide +kernel
theorem dJ2_getChar_3b067_45 : decode cJ2_getChar_3b067 45 = .ok (.ishl, 1) := by decide +kernel
theorem dJ2_getChar_3b067_46 : decode cJ2_getChar_3b067 46 = .ok (.aload_n 0, 1) := by decide +kernel
theorem dJ2_getChar_3b067_47 : decode cJ2_getChar_3b067 47 = .ok (.iload_n 1, 1) := by decide +kernel
theorem dJ2_getChar_3b067_48 : decode cJ2_getChar_3b067 48 = .ok (.baload, 1) := by decide +kernel
theorem dJ2_getChar_3b067_49 : decode cJ2_getChar_3b067 49 = .ok (.sipush 255, 3) := by decide +kernel
theorem dJ2_getChar_3b067_52 : decode cJ2_getChar_3b067 52 = .ok (.iand, 1) := by decide +kernel
theorem dJ2_getChar_3b067_53 : decode cJ2_getChar_3b067 53 = .ok (.getstatic 63, 3) := by decide +kernel
theorem dJ2_getChar_3b067_56 : decode cJ2_getChar_3b067 56 = .ok (.ishl, 1) := by decide +kernel
theorem dJ2_getChar_3b067_57 : decode cJ2_getChar_3b067 57 = .ok (.ior, 1) := by decide +kernel
theorem dJ2_getChar_3b067_58 : decode cJ2_getChar_3b067 58 = .ok (.i2c, 1) := by decide +kernel
theorem dJ2_getChar_3b067_59 : decode cJ2_getChar_3b067 59 = .ok (.ireturn, 1) := by decide +kernel
theorem dJ2_length_9d52b_0 : decode cJ2_length_9d52b 0 = .ok (.aload_n 0, 1) := by decide +kernel
theorem dJ2_length_9d52b_1 : decode cJ2_length_9d52b 1 = .ok (.arraylength, 1) := by decide +kernel
theorem dJ2_length_9d52b_2 : decode cJ2_length_9d52b 2 = .ok (.iconst 1, 1) := by decide +kernel
theorem dJ2_length_9d52b_3 : decode cJ2_length_9d52b 3 = .ok (.ishr, 1) := by decide +kernel
theorem dJ2_length_9d52b_4 : decode cJ2_length_9d52b 4 = .ok (.ireturn, 1) := by decide +kernel
theorem dJ2_indexOf_4cfef_0 : decode cJ2_indexOf_4cfef 0 = .ok (.iload_n 2, 1) := by decide +kernel
theorem dJ2_indexOf_4cfef_1 : decode cJ2_indexOf_4cfef 1 = .ok (.iconst 0, 1) := by decide +kernel
theorem dJ2_indexOf_4cfef_2 : decode cJ2_indexOf_4cfef 2 = .ok (.invokestatic 224, 3) := by decide +kernel
theorem dJ2_indexOf_4cfef_5 : decode cJ2_indexOf_4cfef 5 = .ok (.istore_n 2, 1) := by decide +kernel
theorem dJ2_indexOf_4cfef_6 : decode cJ2_indexOf_4cfef 6 = .ok (.iload_n 3, 1) := by decide +kernel
theorem dJ2_indexOf_4cfef_7 : decode cJ2_indexOf_4cfef 7 = .ok (.aload_n 0, 1) := by decide +kernel
theorem dJ2_indexOf_4cfef_8 : decode cJ2_indexOf_4cfef 8 = .ok (.arraylength, 1) := by decide +kernel
theorem dJ2_indexOf_4cfef_9 : decode cJ2_indexOf_4cfef 9 = .ok (.iconst 1, 1) := by decide +kernel
theorem dJ2_indexOf_4cfef_10 : decode cJ2_indexOf_4cfef 10 = .ok (.ishr, 1) := by decide +kernel
theorem dJ2_indexOf_4cfef_11 : decode cJ2_indexOf_4cfef 11 = .ok (.invokestatic 183, 3) := by decide +kernel
theorem dJ2_indexOf_4cfef_14 : decode cJ2_indexOf_4cfef 14 = .ok (.istore_n 3, 1) := by decide +kernel
theorem dJ2_indexOf_4cfef_15 : decode cJ2_indexOf_4cfef 15 = .ok (.iload_n 2, 1) := by decide +kernel
theorem dJ2_indexOf_4cfef_16 : decode cJ2_indexOf_4cfef 16 = .ok (.iload_n 3, 1) := by decide +kernel
theorem dJ2_indexOf_4cfef_17 : decode cJ2_indexOf_4cfef 17 = .ok (.if_icmp .lt 5, 3) := by decide +kernel
theorem dJ2_indexOf_4cfef_20 : decode cJ2_indexOf_4cfef 20 = .ok (.iconst (-1), 1) := by decide +kernel
theorem dJ2_indexOf_4cfef_21 : decode cJ2_indexOf_4cfef 21 = .ok (.ireturn, 1) := by decide +kernel
theorem dJ2_indexOf_4cfef_22 : decode cJ2_indexOf_4cfef 22 = .ok (.iload_n 1, 1) := by decide +kernel
theorem dJ2_indexOf_4cfef_23 : decode cJ2_indexOf_4cfef 23 = .ok (.ldc 227, 2) := by decide +kernel
theorem dJ2_indexOf_4cfef_25 : decode cJ2_indexOf_4cfef 25 = .ok (.if_icmp .ge 11, 3) := by decide +kernel
theorem dJ2_indexOf_4cfef_28 : decode cJ2_indexOf_4cfef 28 = .ok (.aload_n 0, 1) := by decide +kernel
theorem dJ2_indexOf_4cfef_29 : decode cJ2_indexOf_4cfef 29 = .ok (.iload_n 1, 1) := by decide +kernel
theorem dJ2_indexOf_4cfef_30 : decode cJ2_indexOf_4cfef 30 = .ok (.iload_n 2, 1) := by decide +kernel
theorem dJ2_indexOf_4cfef_31 : decode cJ2_indexOf_4cfef 31 = .ok (.iload_n 3, 1) := by decide +kernel
theorem dJ2_indexOf_4cfef_32 : decode cJ2_indexOf_4cfef 32 = .ok (.invokestatic 228, 3) := by decide +kernel
theorem dJ2_indexOf_4cfef_35 : decode cJ2_indexOf_4cfef 35 = .ok (.ireturn, 1) := by decide +kernel
theorem dJ2_indexOf_4cfef_36 : decode cJ2_indexOf_4cfef 36 = .ok (.aload_n 0, 1) := by decide +kernel
theorem dJ2_indexOf_4cfef_37 : decode cJ2_indexOf_4cfef 37 = .ok (.iload_n 1, 1) := by decide +kernel
theorem dJ2_indexOf_4cfef_38 : decode cJ2_indexOf_4cfef 38 = .ok (.iload_n 2, 1) := by decide +kernel
theorem dJ2_indexOf_4cfef_39 : decode cJ2_indexOf_4cfef 39 = .ok (.iload_n 3, 1) := by decide +kernel
theorem dJ2_indexOf_4cfef_40 : decode cJ2_indexOf_4cfef 40 = .ok (.invokestatic 232, 3) := by decide +kernel
theorem dJ2_indexOf_4cfef_43 : decode cJ2_indexOf_4cfef 43 = .ok (.ireturn, 1) := by decide +kernel
theorem dJ2_indexOfChar_4cfef_0 : decode cJ2_indexOfChar_4cfef 0 = .ok (.iload_n 2, 1) := by decide +kernel
theorem dJ2_indexOfChar_4cfef_1 : decode cJ2_indexOfChar_4cfef 1 = .ok (.iload_n 3, 1) := by decide +kernel
theorem dJ2_indexOfChar_4cfef_2 : decode cJ2_indexOfChar_4cfef 2 = .ok (.aload_n 0, 1) := by decide +kernel
theorem dJ2_indexOfChar_4cfef_3 : decode cJ2_indexOfChar_4cfef 3 = .ok (.invokestatic 96, 3) := by decide +kernel
theorem dJ2_indexOfChar_4cfef_6 : decode cJ2_indexOfChar_4cfef 6 = .ok (.aload_n 0, 1) := by decide +kernel
theorem dJ2_indexOfChar_4cfef_7 : decode cJ2_indexOfChar_4cfef 7 = .ok (.iload_n 1, 1) := by decide +kernel
theorem dJ2_indexOfChar_4cfef_8 : decode cJ2_indexOfChar_4cfef 8 = .ok (.iload_n 2, 1) := by decide +kernel
theorem dJ2_indexOfChar_4cfef_9 : decode cJ2_indexOfChar_4cfef 9 = .ok (.iload_n 3, 1) := by decide +kernel
theorem dJ2_indexOfChar_4cfef_10 : decode cJ2_indexOfChar_4cfef 10 = .ok (.invokestatic 244, 3) := by decide +kernel
theorem dJ2_indexOfChar_4cfef_13 : decode cJ2_indexOfChar_4cfef 13 = .ok (.ireturn, 1) := by decide +kernel
theorem dJ2_indexOfCharUnsafe_4cfef_0 : decode cJ2_indexOfCharUnsafe_4cfef 0 = .ok (.iload_n 2, 1) := by decide +kernel
theorem dJ2_indexOfCharUnsafe_4cfef_1 : decode cJ2_indexOfCharUnsafe_4cfef 1 = .ok (.istore 4, 2) := by decide +kernel
theorem dJ2_indexOfCharUnsafe_4cfef_3 : decode cJ2_indexOfCharUnsafe_4cfef 3 = .ok (.iload 4, 2) := by decide +kernel
theorem dJ2_indexOfCharUnsafe_4cfef_5 : decode cJ2_indexOfCharUnsafe_4cfef 5 = .ok (.iload_n 3, 1) := by decide +kernel
theorem dJ2_indexOfCharUnsafe_4cfef_6 : decode cJ2_indexOfCharUnsafe_4cfef 6 = .ok (.if_icmp .ge 22, 3) := by decide +kernel
theorem dJ2_indexOfCharUnsafe_4cfef_9 : decode cJ2_indexOfCharUnsafe_4cfef 9 = .ok (.aload_n 0, 1) := by decide +kernel
theorem dJ2_indexOfCharUnsafe_4cfef_10 : decode cJ2_indexOfCharUnsafe_4cfef 10 = .ok (.iload 4, 2) := by decide +kernel
theorem dJ2_indexOfCharUnsafe_4cfef_12 : decode cJ2_indexOfCharUnsafe_4cfef 12 = .ok (.invokestatic 71, 3) := by decide +kernel
theorem dJ2_indexOfCharUnsafe_4cfef_15 : decode cJ2_indexOfCharUnsafe_4cfef 15 = .ok (.iload_n 1, 1) := by decide +kernel
theorem dJ2_indexOfCharUnsafe_4cfef_16 : decode cJ2_indexOfCharUnsafe_4cfef 16 = .ok (.if_icmp .ne 6, 3) := by decide +kernel
theorem dJ2_indexOfCharUnsafe_4cfef_19 : decode cJ2_indexOfCharUnsafe_4cfef 19 = .ok (.iload 4, 2) := by decide +kernel
theorem dJ2_indexOfCharUnsafe_4cfef_21 : decode cJ2_indexOfCharUnsafe_4cfef 21 = .ok (.ireturn, 1) := by decide +kernel
theorem dJ2_indexOfCharUnsafe_4cfef_22 : decode cJ2_indexOfCharUnsafe_4cfef 22 = .ok (.iinc 4 1, 3) := by decide +kernel
theorem dJ2_indexOfCharUnsafe_4cfef_25 : decode cJ2_indexOfCharUnsafe_4cfef 25 = .ok (.goto (-22), 3) := by decide +kernel
theorem dJ2_indexOfCharUnsafe_4cfef_28 : decode cJ2_indexOfCharUnsafe_4cfef 28 = .ok (.iconst (-1), 1) := by decide +kernel
theorem dJ2_indexOfCharUnsafe_4cfef_29 : decode cJ2_indexOfCharUnsafe_4cfef 29 = .ok (.ireturn, 1) := by decide +kernel
theorem dJ2_indexOfSupplementary_4cfef_0 : decode cJ2_indexOfSupplementary_4cfef 0 = .ok (.iload_n 1, 1) := by decide +kernel
theorem dJ2_indexOfSupplementary_4cfef_1 : decode cJ2_indexOfSupplementary_4cfef 1 = .ok (.invokestatic 164, 3) := by decide +kernel
theorem dJ2_indexOfSupplementary_4cfef_4 : decode cJ2_indexOfSupplementary_4cfef 4 = .ok (.ifCond .eq 65, 3) := by decide +kernel
theorem dJ2_indexOfSupplementary_4cfef_7 : decode cJ2_indexOfSupplementary_4cfef 7 = .ok (.iload_n 1, 1) := by decide +kernel
theorem dJ2_indexOfSupplementary_4cfef_8 : decode cJ2_indexOfSupplementary_4cfef 8 = .ok (.invokestatic 157, 3) := by decide +kernel
theorem dJ2_indexOfSupplementary_4cfef_11 : decode cJ2_indexOfSupplementary_4cfef 11 = .ok (.istore 4, 2) := by decide +kernel
theorem dJ2_indexOfSupplementary_4cfef_13 : decode cJ2_indexOfSupplementary_4cfef 13 = .ok (.iload_n 1, 1) := by decide +kernel
theorem dJ2_indexOfSupplementary_4cfef_14 : decode cJ2_indexOfSupplementary_4cfef 14 = .ok (.invokestatic 161, 3) := by decide +kernel
theorem dJ2_indexOfSupplementary_4cfef_17 : decode cJ2_indexOfSupplementary_4cfef 17 = .ok (.istore 5, 2) := by decide +kernel
theorem dJ2_indexOfSupplementary_4cfef_19 : decode cJ2_indexOfSupplementary_4cfef 19 = .ok (.iload_n 2, 1) := by decide +kernel
theorem dJ2_indexOfSupplementary_4cfef_20 : decode cJ2_indexOfSupplementary_4cfef 20 = .ok (.iload_n 3, 1) := by decide +kernel
theorem dJ2_indexOfSupplementary_4cfef_21 : decode cJ2_indexOfSupplementary_4cfef 21 = .ok (.aload_n 0, 1) := by decide +kernel
theorem dJ2_indexOfSupplementary_4cfef_22 : decode cJ2_indexOfSupplementary_4cfef 22 = .ok (.invokestatic 96, 3) := by decide +kernel
theorem dJ2_indexOfSupplementary_4cfef_25 : decode cJ2_indexOfSupplementary_4cfef 25 = .ok (.iload_n 2, 1) := by decide +kernel
theorem dJ2_indexOfSupplementary_4cfef_26 : decode cJ2_indexOfSupplementary_4cfef 26 = .ok (.istore 6, 2) := by decide +kernel
theorem dJ2_indexOfSupplementary_4cfef_28 : decode cJ2_indexOfSupplementary_4cfef 28 = .ok (.iload 6, 2) := by decide +kernel
theorem dJ2_indexOfSupplementary_4cfef_30 : decode cJ2_indexOfSupplementary_4cfef 30 = .ok (.iload_n 3, 1) := by decide +kernel
theorem dJ2_indexOfSupplementary_4cfef_31 : decode cJ2_indexOfSupplementary_4cfef 31 = .ok (.iconst 1, 1) := by decide +kernel
theorem dJ2_indexOfSupplementary_4cfef_32 : decode cJ2_indexOfSupplementary_4cfef 32 = .ok (.isub, 1) := by decide +kernel
theorem dJ2_indexOfSupplementary_4cfef_33 : decode cJ2_indexOfSupplementary_4cfef 33 = .ok (.if_icmp .ge 36, 3) := by decide +kernel
theorem dJ2_indexOfSupplementary_4cfef_36 : decode cJ2_indexOfSupplementary_4cfef 36 = .ok (.aload_n 0, 1) := by decide +kernel
theorem dJ2_indexOfSupplementary_4cfef_37 : decode cJ2_indexOfSupplementary_4cfef 37 = .ok (.iload 6, 2) := by decide +kernel
theorem dJ2_indexOfSupplementary_4cfef_39 : decode cJ2_indexOfSupplementary_4cfef 39 = .ok (.invokestatic 71, 3) := by decide +kernel
theorem dJ2_indexOfSupplementary_4cfef_42 : decode cJ2_indexOfSupplementary_4cfef 42 = .ok (.iload 4, 2) := by decide +kernel
theorem dJ2_indexOfSupplementary_4cfef_44 : decode cJ2_indexOfSupplementary_4cfef 44 = .ok (.if_icmp .ne 19, 3) := by decide +kernel
theorem dJ2_indexOfSupplementary_4cfef_47 : decode cJ2_indexOfSupplementary_4cfef 47 = .ok (.aload_n 0, 1) := by decide +kernel
theorem dJ2_indexOfSupplementary_4cfef_48 : decode cJ2_indexOfSupplementary_4cfef 48 = .ok (.iload 6, 2) := by decide +kernel
theorem dJ2_indexOfSupplementary_4cfef_50 : decode cJ2_indexOfSupplementary_4cfef 50 = .ok (.iconst 1, 1) := by decide +kernel
theorem dJ2_indexOfSupplementary_4cfef_51 : decode cJ2_indexOfSupplementary_4cfef 51 = .ok (.iadd, 1) := by decide +kernel
theorem dJ2_indexOfSupplementary_4cfef_52 : decode cJ2_indexOfSupplementary_4cfef 52 = .ok (.invokestatic 71, 3) := by decide +kernel
theorem dJ2_indexOfSupplementary_4cfef_55 : decode cJ2_indexOfSupplementary_4cfef 55 = .ok (.iload 5, 2) := by decide +kernel
theorem dJ2_indexOfSupplementary_4cfef_57 : decode cJ2_indexOfSupplementary_4cfef 57 = .ok (.if_icmp .ne 6, 3) := by decide +kernel
theorem dJ2_indexOfSupplementary_4cfef_60 : decode cJ2_indexOfSupplementary_4cfef 60 = .ok (.iload 6, 2) := by decide +kernel
theorem dJ2_indexOfSupplementary_4cfef_62 : decode cJ2_indexOfSupplementary_4cfef 62 = .ok (.ireturn, 1) := by decide +kernel
theorem dJ2_indexOfSupplementary_4cfef_63 : decode cJ2_indexOfSupplementary_4cfef 63 = .ok (.iinc 6 1, 3) := by decide +kernel
theorem dJ2_indexOfSupplementary_4cfef_66 : decode cJ2_indexOfSupplementary_4cfef 66 = .ok (.goto (-38), 3) := by decide +kernel
theorem dJ2_indexOfSupplementary_4cfef_69 : decode cJ2_indexOfSupplementary_4cfef 69 = .ok (.iconst (-1), 1) := by decide +kernel
theorem dJ2_indexOfSupplementary_4cfef_70 : decode cJ2_indexOfSupplementary_4cfef 70 = .ok (.ireturn, 1) := by decide +kernel
theorem dJ2_checkBoundsBeginEnd_d044e_0 : decode cJ2_checkBoundsBeginEnd_d044e 0 = .ok (.iload_n 0, 1) := by decide +kernel
theorem dJ2_checkBoundsBeginEnd_d044e_1 : decode cJ2_checkBoundsBeginEnd_d044e 1 = .ok (.iload_n 1, 1) := by decide +kernel
theorem dJ2_checkBoundsBeginEnd_d044e_2 : decode cJ2_checkBoundsBeginEnd_d044e 2 = .ok (.aload_n 2, 1) := by decide +kernel
theorem dJ2_checkBoundsBeginEnd_d044e_3 : decode cJ2_checkBoundsBeginEnd_d044e 3 = .ok (.invokestatic 48, 3) := by decide +kernel
theorem dJ2_checkBoundsBeginEnd_d044e_6 : decode cJ2_checkBoundsBeginEnd_d044e 6 = .ok (.invokestatic 241, 3) := by decide +kernel
theorem dJ2_checkBoundsBeginEnd_d044e_9 : decode cJ2_checkBoundsBeginEnd_d044e 9 = .ok (.return_, 1) := by decide +kernel
theorem dJ3_checkFromToIndex_8c36e_0 : decode cJ3_checkFromToIndex_8c36e 0 = .ok (.iload_n 0, 1) := by decide +kernel
theorem dJ3_checkFromToIndex_8c36e_1 : decode cJ3_checkFromToIndex_8c36e 1 = .ok (.ifCond .lt 13, 3) := by decide +kernel
theorem dJ3_checkFromToIndex_8c36e_4 : decode cJ3_checkFromToIndex_8c36e 4 = .ok (.iload_n 0, 1) := by decide +kernel
theorem dJ3_checkFromToIndex_8c36e_5 : decode cJ3_checkFromToIndex_8c36e 5 = .ok (.iload_n 1, 1) := by decide +kernel
theorem dJ3_checkFromToIndex_8c36e_6 : decode cJ3_checkFromToIndex_8c36e 6 = .ok (.if_icmp .gt 8, 3) := by decide +kernel
theorem dJ3_checkFromToIndex_8c36e_9 : decode cJ3_checkFromToIndex_8c36e 9 = .ok (.iload_n 1, 1) := by decide +kernel
theorem dJ3_checkFromToIndex_8c36e_10 : decode cJ3_checkFromToIndex_8c36e 10 = .ok (.iload_n 2, 1) := by decide +kernel
theorem dJ3_checkFromToIndex_8c36e_11 : decode cJ3_checkFromToIndex_8c36e 11 = .ok (.if_icmp .le 11, 3) := by decide +kernel
theorem dJ3_checkFromToIndex_8c36e_14 : decode cJ3_checkFromToIndex_8c36e 14 = .ok (.aload_n 3, 1) := by decide +kernel
theorem dJ3_checkFromToIndex_8c36e_15 : decode cJ3_checkFromToIndex_8c36e 15 = .ok (.iload_n 0, 1) := by decide +kernel
theorem dJ3_checkFromToIndex_8c36e_16 : decode cJ3_checkFromToIndex_8c36e 16 = .ok (.iload_n 1, 1) := by decide +kernel
theorem dJ3_checkFromToIndex_8c36e_17 : decode cJ3_checkFromToIndex_8c36e 17 = .ok (.iload_n 2, 1) := by decide +kernel
theorem dJ3_checkFromToIndex_8c36e_18 : decode cJ3_checkFromToIndex_8c36e 18 = .ok (.invokestatic 99, 3) := by decide +kernel
theorem dJ3_checkFromToIndex_8c36e_21 : decode cJ3_checkFromToIndex_8c36e 21 = .ok (.athrow, 1) := by decide +kernel
theorem dJ3_checkFromToIndex_8c36e_22 : decode cJ3_checkFromToIndex_8c36e 22 = .ok (.iload_n 0, 1) := by decide +kernel
theorem dJ3_checkFromToIndex_8c36e_23 : decode cJ3_checkFromToIndex_8c36e 23 = .ok (.ireturn, 1) := by decide +kernel
end
section
theorem dL_strike_0 : decode cL_strike 0 = .ok (.aload_n 2, 1) := by decide +kernel
theorem dL_strike_1 : decode cL_strike 1 = .ok (.iconst 0, 1) := by decide +kernel
theorem dL_strike_2 : decode cL_strike 2 = .ok (.aload_n 0, 1) := by decide +kernel
theorem dL_strike_3 : decode cL_strike 3 = .ok (.iload_n 1, 1) := by decide +kernel
theorem dL_strike_4 : decode cL_strike 4 = .ok (.invokevirtual 7, 3) := by decide +kernel
theorem dL_strike_7 : decode cL_strike 7 = .ok (.i2l, 1) := by decide +kernel
theorem dL_strike_8 : decode cL_strike 8 = .ok (.lastore, 1) := by decide +kernel
theorem dL_strike_9 : decode cL_strike 9 = .ok (.goto 9, 3) := by decide +kernel
theorem dL_strike_12 : decode cL_strike 12 = .ok (.astore_n 3, 1) := by decide +kernel
theorem dL_strike_13 : decode cL_strike 13 = .ok (.iconst 1, 1) := by decide +kernel
theorem dL_strike_14 : decode cL_strike 14 = .ok (.ireturn, 1) := by decide +kernel
theorem dL_strike_15 : decode cL_strike 15 = .ok (.astore_n 3, 1) := by decide +kernel
theorem dL_strike_16 : decode cL_strike 16 = .ok (.iconst 2, 1) := by decide +kernel
theorem dL_strike_17 : decode cL_strike 17 = .ok (.ireturn, 1) := by decide +kernel
theorem dL_strike_18 : decode cL_strike 18 = .ok (.iconst 0, 1) := by decide +kernel
theorem dL_strike_19 : decode cL_strike 19 = .ok (.ireturn, 1) := by decide +kernel
theorem dL_play_0 : decode cL_play 0 = .ok (.aload_n 1, 1) := by decide +kernel
theorem dL_play_1 : decode cL_play 1 = .ok (.iconst 0, 1) := by decide +kernel
theorem dL_play_2 : decode cL_play 2 = .ok (.aload_n 0, 1) := by decide +kernel
theorem dL_play_3 : decode cL_play 3 = .ok (.invokevirtual 17, 3) := by decide +kernel
theorem dL_play_6 : decode cL_play 6 = .ok (.i2l, 1) := by decide +kernel
theorem dL_play_7 : decode cL_play 7 = .ok (.lastore, 1) := by decide +kernel
theorem dL_play_8 : decode cL_play 8 = .ok (.goto 6, 3) := by decide +kernel
theorem dL_play_11 : decode cL_play 11 = .ok (.astore_n 2, 1) := by decide +kernel
theorem dL_play_12 : decode cL_play 12 = .ok (.iconst 1, 1) := by decide +kernel
theorem dL_play_13 : decode cL_play 13 = .ok (.ireturn, 1) := by decide +kernel
theorem dL_play_14 : decode cL_play 14 = .ok (.iconst 0, 1) := by decide +kernel
theorem dL_play_15 : decode cL_play 15 = .ok (.ireturn, 1) := by decide +kernel
theorem dL_pick_0 : decode cL_pick 0 = .ok (.aload_n 3, 1) := by decide +kernel
theorem dL_pick_1 : decode cL_pick 1 = .ok (.iconst 0, 1) := by decide +kernel
theorem dL_pick_2 : decode cL_pick 2 = .ok (.aload_n 0, 1) := by decide +kernel
theorem dL_pick_3 : decode cL_pick 3 = .ok (.iload_n 1, 1) := by decide +kernel
theorem dL_pick_4 : decode cL_pick 4 = .ok (.iload_n 2, 1) := by decide +kernel
theorem dL_pick_5 : decode cL_pick 5 = .ok (.invokevirtual 21, 3) := by decide +kernel
theorem dL_pick_8 : decode cL_pick 8 = .ok (.i2l, 1) := by decide +kernel
theorem dL_pick_9 : decode cL_pick 9 = .ok (.lastore, 1) := by decide +kernel
theorem dL_pick_10 : decode cL_pick 10 = .ok (.goto 11, 3) := by decide +kernel
theorem dL_pick_13 : decode cL_pick 13 = .ok (.astore 4, 2) := by decide +kernel
theorem dL_pick_15 : decode cL_pick 15 = .ok (.iconst 1, 1) := by decide +kernel
theorem dL_pick_16 : decode cL_pick 16 = .ok (.ireturn, 1) := by decide +kernel
theorem dL_pick_17 : decode cL_pick 17 = .ok (.astore 4, 2) := by decide +kernel
theorem dL_pick_19 : decode cL_pick 19 = .ok (.iconst 2, 1) := by decide +kernel
theorem dL_pick_20 : decode cL_pick 20 = .ok (.ireturn, 1) := by decide +kernel
theorem dL_pick_21 : decode cL_pick 21 = .ok (.iconst 0, 1) := by decide +kernel
theorem dL_pick_22 : decode cL_pick 22 = .ok (.ireturn, 1) := by decide +kernel
theorem dL_define_0 : decode cL_define 0 = .ok (.aload_n 2, 1) := by decide +kernel
theorem dL_define_1 : decode cL_define 1 = .ok (.iconst 0, 1) := by decide +kernel
theorem dL_define_2 : decode cL_define 2 = .ok (.aload_n 0, 1) := by decide +kernel
theorem dL_define_3 : decode cL_define 3 = .ok (.iload_n 1, 1) := by decide +kernel
theorem dL_define_4 : decode cL_define 4 = .ok (.invokevirtual 27, 3) := by decide +kernel
theorem dL_define_7 : decode cL_define 7 = .ok (.i2l, 1) := by decide +kernel
theorem dL_define_8 : decode cL_define 8 = .ok (.lastore, 1) := by decide +kernel
theorem dL_define_9 : decode cL_define 9 = .ok (.goto 9, 3) := by decide +kernel
theorem dL_define_12 : decode cL_define 12 = .ok (.astore_n 3, 1) := by decide +kernel
theorem dL_define_13 : decode cL_define 13 = .ok (.iconst 1, 1) := by decide +kernel
theorem dL_define_14 : decode cL_define 14 = .ok (.ireturn, 1) := by decide +kernel
theorem dL_define_15 : decode cL_define 15 = .ok (.astore_n 3, 1) := by decide +kernel
theorem dL_define_16 : decode cL_define 16 = .ok (.iconst 2, 1) := by decide +kernel
theorem dL_define_17 : decode cL_define 17 = .ok (.ireturn, 1) := by decide +kernel
theorem dL_define_18 : decode cL_define 18 = .ok (.iconst 0, 1) := by decide +kernel
theorem dL_define_19 : decode cL_define 19 = .ok (.ireturn, 1) := by decide +kernel
theorem dL_remove_0 : decode cL_remove 0 = .ok (.aload_n 2, 1) := by decide +kernel
theorem dL_remove_1 : decode cL_remove 1 = .ok (.iconst 0, 1) := by decide +kernel
theorem dL_remove_2 : decode cL_remove 2 = .ok (.aload_n 0, 1) := by decide +kernel
theorem dL_remove_3 : decode cL_remove 3 = .ok (.iload_n 1, 1) := by decide +kernel
theorem dL_remove_4 : decode cL_remove 4 = .ok (.invokevirtual 30, 3) := by decide +kernel
theorem dL_remove_7 : decode cL_remove 7 = .ok (.i2l, 1) := by decide +kernel
theorem dL_remove_8 : decode cL_remove 8 = .ok (.lastore, 1) := by decide +kernel
theorem dL_remove_9 : decode cL_remove 9 = .ok (.goto 6, 3) := by decide +kernel
theorem dL_remove_12 : decode cL_remove 12 = .ok (.astore_n 3, 1) := by decide +kernel
theorem dL_remove_13 : decode cL_remove 13 = .ok (.iconst 1, 1) := by decide +kernel
theorem dL_remove_14 : decode cL_remove 14 = .ok (.ireturn, 1) := by decide +kernel
theorem dL_remove_15 : decode cL_remove 15 = .ok (.iconst 0, 1) := by decide +kernel
theorem dL_remove_16 : decode cL_remove 16 = .ok (.ireturn, 1) := by decide +kernel
theorem dL_set_0 : decode cL_set 0 = .ok (.aload_n 3, 1) := by decide +kernel
theorem dL_set_1 : decode cL_set 1 = .ok (.iconst 0, 1) := by decide +kernel
theorem dL_set_2 : decode cL_set 2 = .ok (.aload_n 0, 1) := by decide +kernel
theorem dL_set_3 : decode cL_set 3 = .ok (.iload_n 1, 1) := by decide +kernel
theorem dL_set_4 : decode cL_set 4 = .ok (.iload_n 2, 1) := by decide +kernel
theorem dL_set_5 : decode cL_set 5 = .ok (.invokevirtual 33, 3) := by decide +kernel
theorem dL_set_8 : decode cL_set 8 = .ok (.i2l, 1) := by decide +kernel
theorem dL_set_9 : decode cL_set 9 = .ok (.lastore, 1) := by decide +kernel
theorem dL_set_10 : decode cL_set 10 = .ok (.goto 11, 3) := by decide +kernel
theorem dL_set_13 : decode cL_set 13 = .ok (.astore 4, 2) := by decide +kernel
theorem dL_set_15 : decode cL_set 15 = .ok (.iconst 1, 1) := by decide +kernel
theorem dL_set_16 : decode cL_set 16 = .ok (.ireturn, 1) := by decide +kernel
theorem dL_set_17 : decode cL_set 17 = .ok (.astore 4, 2) := by decide +kernel
theorem dL_set_19 : decode cL_set 19 = .ok (.iconst 2, 1) := by decide +kernel
theorem dL_set_20 : decode cL_set 20 = .ok (.ireturn, 1) := by decide +kernel
theorem dL_set_21 : decode cL_set 21 = .ok (.iconst 0, 1) := by decide +kernel
theorem dL_set_22 : decode cL_set 22 = .ok (.ireturn, 1) := by decide +kernel
theorem dL_append_0 : decode cL_append 0 = .ok (.aload_n 2, 1) := by decide +kernel
theorem dL_append_1 : decode cL_append 1 = .ok (.iconst 0, 1) := by decide +kernel
theorem dL_append_2 : decode cL_append 2 = .ok (.aload_n 0, 1) := by decide +kernel
theorem dL_append_3 : decode cL_append 3 = .ok (.iload_n 1, 1) := by decide +kernel
theorem dL_append_4 : decode cL_append 4 = .ok (.invokevirtual 36, 3) := by decide +kernel
theorem dL_append_7 : decode cL_append 7 = .ok (.i2l, 1) := by decide +kernel
theorem dL_append_8 : decode cL_append 8 = .ok (.lastore, 1) := by decide +kernel
theorem dL_append_9 : decode cL_append 9 = .ok (.goto 9, 3) := by decide +kernel
theorem dL_append_12 : decode cL_append 12 = .ok (.astore_n 3, 1) := by decide +kernel
theorem dL_append_13 : decode cL_append 13 = .ok (.iconst 1, 1) := by decide +kernel
theorem dL_append_14 : decode cL_append 14 = .ok (.ireturn, 1) := by decide +kernel
theorem dL_append_15 : decode cL_append 15 = .ok (.astore_n 3, 1) := by decide +kernel
theorem dL_append_16 : decode cL_append 16 = .ok (.iconst 2, 1) := by decide +kernel
theorem dL_append_17 : decode cL_append 17 = .ok (.ireturn, 1) := by decide +kernel
theorem dL_append_18 : decode cL_append 18 = .ok (.iconst 0, 1) := by decide +kernel
theorem dL_append_19 : decode cL_append 19 = .ok (.ireturn, 1) := by decide +kernel
theorem dL_goBack_0 : decode cL_goBack 0 = .ok (.aload_n 1, 1) := by decide +kernel
theorem dL_goBack_1 : decode cL_goBack 1 = .ok (.iconst 0, 1) := by decide +kernel
theorem dL_goBack_2 : decode cL_goBack 2 = .ok (.aload_n 0, 1) := by decide +kernel
theorem dL_goBack_3 : decode cL_goBack 3 = .ok (.invokevirtual 39, 3) := by decide +kernel
theorem dL_goBack_6 : decode cL_goBack 6 = .ok (.i2l, 1) := by decide +kernel
theorem dL_goBack_7 : decode cL_goBack 7 = .ok (.lastore, 1) := by decide +kernel
theorem dL_goBack_8 : decode cL_goBack 8 = .ok (.goto 6, 3) := by decide +kernel
theorem dL_goBack_11 : decode cL_goBack 11 = .ok (.astore_n 2, 1) := by decide +kernel
theorem dL_goBack_12 : decode cL_goBack 12 = .ok (.iconst 1, 1) := by decide +kernel
theorem dL_goBack_13 : decode cL_goBack 13 = .ok (.ireturn, 1) := by decide +kernel
theorem dL_goBack_14 : decode cL_goBack 14 = .ok (.iconst 0, 1) := by decide +kernel
theorem dL_goBack_15 : decode cL_goBack 15 = .ok (.ireturn, 1) := by decide +kernel
theorem dL_undo_0 : decode cL_undo 0 = .ok (.aload_n 1, 1) := by decide +kernel
theorem dL_undo_1 : decode cL_undo 1 = .ok (.iconst 0, 1) := by decide +kernel
theorem dL_undo_2 : decode cL_undo 2 = .ok (.aload_n 0, 1) := by decide +kernel
theorem dL_undo_3 : decode cL_undo 3 = .ok (.invokevirtual 42, 3) := by decide +kernel
theorem dL_undo_6 : decode cL_undo 6 = .ok (.i2l, 1) := by decide +kernel
theorem dL_undo_7 : decode cL_undo 7 = .ok (.lastore, 1) := by decide +kernel
theorem dL_undo_8 : decode cL_undo 8 = .ok (.goto 6, 3) := by decide +kernel
theorem dL_undo_11 : decode cL_undo 11 = .ok (.astore_n 2, 1) := by decide +kernel
theorem dL_undo_12 : decode cL_undo 12 = .ok (.iconst 1, 1) := by decide +kernel
theorem dL_undo_13 : decode cL_undo 13 = .ok (.ireturn, 1) := by decide +kernel
theorem dL_undo_14 : decode cL_undo 14 = .ok (.iconst 0, 1) := by decide +kernel
theorem dL_undo_15 : decode cL_undo 15 = .ok (.ireturn, 1) := by decide +kernel
theorem dL_stroke_0 : decode cL_stroke 0 = .ok (.aload_n 2, 1) := by decide +kernel
theorem dL_stroke_1 : decode cL_stroke 1 = .ok (.iconst 0, 1) := by decide +kernel
theorem dL_stroke_2 : decode cL_stroke 2 = .ok (.aload_n 0, 1) := by decide +kernel
theorem dL_stroke_3 : decode cL_stroke 3 = .ok (.iload_n 1, 1) := by decide +kernel
theorem dL_stroke_4 : decode cL_stroke 4 = .ok (.invokevirtual 45, 3) := by decide +kernel
theorem dL_stroke_7 : decode cL_stroke 7 = .ok (.i2l, 1) := by decide +kernel
theorem dL_stroke_8 : decode cL_stroke 8 = .ok (.lastore, 1) := by decide +kernel
theorem dL_stroke_9 : decode cL_stroke 9 = .ok (.goto 6, 3) := by decide +kernel
theorem dL_stroke_12 : decode cL_stroke 12 = .ok (.astore_n 3, 1) := by decide +kernel
theorem dL_stroke_13 : decode cL_stroke 13 = .ok (.iconst 1, 1) := by decide +kernel
theorem dL_stroke_14 : decode cL_stroke 14 = .ok (.ireturn, 1) := by decide +kernel
theorem dL_stroke_15 : decode cL_stroke 15 = .ok (.iconst 0, 1) := by decide +kernel
theorem dL_stroke_16 : decode cL_stroke 16 = .ok (.ireturn, 1) := by decide +kernel
theorem dL_item_0 : decode cL_item 0 = .ok (.aload_n 3, 1) := by decide +kernel
theorem dL_item_1 : decode cL_item 1 = .ok (.iconst 0, 1) := by decide +kernel
theorem dL_item_2 : decode cL_item 2 = .ok (.aload_n 0, 1) := by decide +kernel
theorem dL_item_3 : decode cL_item 3 = .ok (.iload_n 1, 1) := by decide +kernel
theorem dL_item_4 : decode cL_item 4 = .ok (.iload_n 2, 1) := by decide +kernel
theorem dL_item_5 : decode cL_item 5 = .ok (.invokevirtual 48, 3) := by decide +kernel
theorem dL_item_8 : decode cL_item 8 = .ok (.i2l, 1) := by decide +kernel
theorem dL_item_9 : decode cL_item 9 = .ok (.lastore, 1) := by decide +kernel
theorem dL_item_10 : decode cL_item 10 = .ok (.goto 11, 3) := by decide +kernel
theorem dL_item_13 : decode cL_item 13 = .ok (.astore 4, 2) := by decide +kernel
theorem dL_item_15 : decode cL_item 15 = .ok (.iconst 1, 1) := by decide +kernel
theorem dL_item_16 : decode cL_item 16 = .ok (.ireturn, 1) := by decide +kernel
theorem dL_item_17 : decode cL_item 17 = .ok (.astore 4, 2) := by decide +kernel
theorem dL_item_19 : decode cL_item 19 = .ok (.iconst 2, 1) := by decide +kernel
theorem dL_item_20 : decode cL_item 20 = .ok (.ireturn, 1) := by decide +kernel
theorem dL_item_21 : decode cL_item 21 = .ok (.iconst 0, 1) := by decide +kernel
theorem dL_item_22 : decode cL_item 22 = .ok (.ireturn, 1) := by decide +kernel
theorem dL_entry_0 : decode cL_entry 0 = .ok (.aload_n 3, 1) := by decide +kernel
theorem dL_entry_1 : decode cL_entry 1 = .ok (.iconst 0, 1) := by decide +kernel
theorem dL_entry_2 : decode cL_entry 2 = .ok (.aload_n 0, 1) := by decide +kernel
theorem dL_entry_3 : decode cL_entry 3 = .ok (.iload_n 1, 1) := by decide +kernel
theorem dL_entry_4 : decode cL_entry 4 = .ok (.iload_n 2, 1) := by decide +kernel
theorem dL_entry_5 : decode cL_entry 5 = .ok (.invokevirtual 51, 3) := by decide +kernel
theorem dL_entry_8 : decode cL_entry 8 = .ok (.i2l, 1) := by decide +kernel
theorem dL_entry_9 : decode cL_entry 9 = .ok (.lastore, 1) := by decide +kernel
theorem dL_entry_10 : decode cL_entry 10 = .ok (.goto 11, 3) := by decide +kernel
theorem dL_entry_13 : decode cL_entry 13 = .ok (.astore 4, 2) := by decide +kernel
theorem dL_entry_15 : decode cL_entry 15 = .ok (.iconst 1, 1) := by decide +kernel
theorem dL_entry_16 : decode cL_entry 16 = .ok (.ireturn, 1) := by decide +kernel
theorem dL_entry_17 : decode cL_entry 17 = .ok (.astore 4, 2) := by decide +kernel
theorem dL_entry_19 : decode cL_entry 19 = .ok (.iconst 2, 1) := by decide +kernel
theorem dL_entry_20 : decode cL_entry 20 = .ok (.ireturn, 1) := by decide +kernel
theorem dL_entry_21 : decode cL_entry 21 = .ok (.iconst 0, 1) := by decide +kernel
theorem dL_entry_22 : decode cL_entry 22 = .ok (.ireturn, 1) := by decide +kernel
theorem dL_count_0 : decode cL_count 0 = .ok (.aload_n 2, 1) := by decide +kernel
theorem dL_count_1 : decode cL_count 1 = .ok (.iconst 0, 1) := by decide +kernel
theorem dL_count_2 : decode cL_count 2 = .ok (.aload_n 0, 1) := by decide +kernel
theorem dL_count_3 : decode cL_count 3 = .ok (.iload_n 1, 1) := by decide +kernel
theorem dL_count_4 : decode cL_count 4 = .ok (.invokevirtual 54, 3) := by decide +kernel
theorem dL_count_7 : decode cL_count 7 = .ok (.i2l, 1) := by decide +kernel
theorem dL_count_8 : decode cL_count 8 = .ok (.lastore, 1) := by decide +kernel
theorem dL_count_9 : decode cL_count 9 = .ok (.goto 6, 3) := by decide +kernel
theorem dL_count_12 : decode cL_count 12 = .ok (.astore_n 3, 1) := by decide +kernel
theorem dL_count_13 : decode cL_count 13 = .ok (.iconst 1, 1) := by decide +kernel
theorem dL_count_14 : decode cL_count 14 = .ok (.ireturn, 1) := by decide +kernel
theorem dL_count_15 : decode cL_count 15 = .ok (.iconst 0, 1) := by decide +kernel
theorem dL_count_16 : decode cL_count 16 = .ok (.ireturn, 1) := by decide +kernel
theorem dL_setting_0 : decode cL_setting 0 = .ok (.aload_n 2, 1) := by decide +kernel
theorem dL_setting_1 : decode cL_setting 1 = .ok (.iconst 0, 1) := by decide +kernel
theorem dL_setting_2 : decode cL_setting 2 = .ok (.aload_n 0, 1) := by decide +kernel
theorem dL_setting_3 : decode cL_setting 3 = .ok (.iload_n 1, 1) := by decide +kernel
theorem dL_setting_4 : decode cL_setting 4 = .ok (.invokevirtual 57, 3) := by decide +kernel
theorem dL_setting_7 : decode cL_setting 7 = .ok (.i2l, 1) := by decide +kernel
theorem dL_setting_8 : decode cL_setting 8 = .ok (.lastore, 1) := by decide +kernel
theorem dL_setting_9 : decode cL_setting 9 = .ok (.goto 6, 3) := by decide +kernel
theorem dL_setting_12 : decode cL_setting 12 = .ok (.astore_n 3, 1) := by decide +kernel
theorem dL_setting_13 : decode cL_setting 13 = .ok (.iconst 1, 1) := by decide +kernel
theorem dL_setting_14 : decode cL_setting 14 = .ok (.ireturn, 1) := by decide +kernel
theorem dL_setting_15 : decode cL_setting 15 = .ok (.iconst 0, 1) := by decide +kernel
theorem dL_setting_16 : decode cL_setting 16 = .ok (.ireturn, 1) := by decide +kernel
theorem dL_ifStruck_0 : decode cL_ifStruck 0 = .ok (.aload_n 3, 1) := by decide +kernel
theorem dL_ifStruck_1 : decode cL_ifStruck 1 = .ok (.iconst 0, 1) := by decide +kernel
theorem dL_ifStruck_2 : decode cL_ifStruck 2 = .ok (.aload_n 0, 1) := by decide +kernel
theorem dL_ifStruck_3 : decode cL_ifStruck 3 = .ok (.iload_n 1, 1) := by decide +kernel
theorem dL_ifStruck_4 : decode cL_ifStruck 4 = .ok (.iload_n 2, 1) := by decide +kernel
theorem dL_ifStruck_5 : decode cL_ifStruck 5 = .ok (.invokevirtual 60, 3) := by decide +kernel
theorem dL_ifStruck_8 : decode cL_ifStruck 8 = .ok (.i2l, 1) := by decide +kernel
theorem dL_ifStruck_9 : decode cL_ifStruck 9 = .ok (.lastore, 1) := by decide +kernel
theorem dL_ifStruck_10 : decode cL_ifStruck 10 = .ok (.goto 7, 3) := by decide +kernel
theorem dL_ifStruck_13 : decode cL_ifStruck 13 = .ok (.astore 4, 2) := by decide +kernel
theorem dL_ifStruck_15 : decode cL_ifStruck 15 = .ok (.iconst 1, 1) := by decide +kernel
theorem dL_ifStruck_16 : decode cL_ifStruck 16 = .ok (.ireturn, 1) := by decide +kernel
theorem dL_ifStruck_17 : decode cL_ifStruck 17 = .ok (.iconst 0, 1) := by decide +kernel
theorem dL_ifStruck_18 : decode cL_ifStruck 18 = .ok (.ireturn, 1) := by decide +kernel
theorem dL_begun_0 : decode cL_begun 0 = .ok (.aload_n 2, 1) := by decide +kernel
theorem dL_begun_1 : decode cL_begun 1 = .ok (.iconst 0, 1) := by decide +kernel
theorem dL_begun_2 : decode cL_begun 2 = .ok (.aload_n 0, 1) := by decide +kernel
theorem dL_begun_3 : decode cL_begun 3 = .ok (.iload_n 1, 1) := by decide +kernel
theorem dL_begun_4 : decode cL_begun 4 = .ok (.invokevirtual 63, 3) := by decide +kernel
theorem dL_begun_7 : decode cL_begun 7 = .ok (.i2l, 1) := by decide +kernel
theorem dL_begun_8 : decode cL_begun 8 = .ok (.lastore, 1) := by decide +kernel
theorem dL_begun_9 : decode cL_begun 9 = .ok (.goto 6, 3) := by decide +kernel
theorem dL_begun_12 : decode cL_begun 12 = .ok (.astore_n 3, 1) := by decide +kernel
theorem dL_begun_13 : decode cL_begun 13 = .ok (.iconst 1, 1) := by decide +kernel
theorem dL_begun_14 : decode cL_begun 14 = .ok (.ireturn, 1) := by decide +kernel
theorem dL_begun_15 : decode cL_begun 15 = .ok (.iconst 0, 1) := by decide +kernel
theorem dL_begun_16 : decode cL_begun 16 = .ok (.ireturn, 1) := by decide +kernel
theorem dL_shortest_0 : decode cL_shortest 0 = .ok (.aload_n 2, 1) := by decide +kernel
theorem dL_shortest_1 : decode cL_shortest 1 = .ok (.iconst 0, 1) := by decide +kernel
theorem dL_shortest_2 : decode cL_shortest 2 = .ok (.aload_n 0, 1) := by decide +kernel
theorem dL_shortest_3 : decode cL_shortest 3 = .ok (.iload_n 1, 1) := by decide +kernel
theorem dL_shortest_4 : decode cL_shortest 4 = .ok (.invokevirtual 66, 3) := by decide +kernel
theorem dL_shortest_7 : decode cL_shortest 7 = .ok (.i2l, 1) := by decide +kernel
theorem dL_shortest_8 : decode cL_shortest 8 = .ok (.lastore, 1) := by decide +kernel
theorem dL_shortest_9 : decode cL_shortest 9 = .ok (.goto 6, 3) := by decide +kernel
theorem dL_shortest_12 : decode cL_shortest 12 = .ok (.astore_n 3, 1) := by decide +kernel
theorem dL_shortest_13 : decode cL_shortest 13 = .ok (.iconst 1, 1) := by decide +kernel
theorem dL_shortest_14 : decode cL_shortest 14 = .ok (.ireturn, 1) := by decide +kernel
theorem dL_shortest_15 : decode cL_shortest 15 = .ok (.iconst 0, 1) := by decide +kernel
theorem dL_shortest_16 : decode cL_shortest 16 = .ok (.ireturn, 1) := by decide +kernel
theorem dL_behind_0 : decode cL_behind 0 = .ok (.aload_n 3, 1) := by decide +kernel
theorem dL_behind_1 : decode cL_behind 1 = .ok (.iconst 0, 1) := by decide +kernel
theorem dL_behind_2 : decode cL_behind 2 = .ok (.aload_n 0, 1) := by decide +kernel
theorem dL_behind_3 : decode cL_behind 3 = .ok (.iload_n 1, 1) := by decide +kernel
theorem dL_behind_4 : decode cL_behind 4 = .ok (.iload_n 2, 1) := by decide +kernel
theorem dL_behind_5 : decode cL_behind 5 = .ok (.invokevirtual 69, 3) := by decide +kernel
theorem dL_behind_8 : decode cL_behind 8 = .ok (.i2l, 1) := by decide +kernel
theorem dL_behind_9 : decode cL_behind 9 = .ok (.lastore, 1) := by decide +kernel
theorem dL_behind_10 : decode cL_behind 10 = .ok (.goto 7, 3) := by decide +kernel
theorem dL_behind_13 : decode cL_behind 13 = .ok (.astore 4, 2) := by decide +kernel
theorem dL_behind_15 : decode cL_behind 15 = .ok (.iconst 1, 1) := by decide +kernel
theorem dL_behind_16 : decode cL_behind 16 = .ok (.ireturn, 1) := by decide +kernel
theorem dL_behind_17 : decode cL_behind 17 = .ok (.iconst 0, 1) := by decide +kernel
theorem dL_behind_18 : decode cL_behind 18 = .ok (.ireturn, 1) := by decide +kernel
theorem dL_law_0 : decode cL_law 0 = .ok (.new 8, 3) := by decide +kernel
theorem dL_law_3 : decode cL_law 3 = .ok (.dup, 1) := by decide +kernel
theorem dL_law_4 : decode cL_law 4 = .ok (.invokespecial 72, 3) := by decide +kernel
theorem dL_law_7 : decode cL_law 7 = .ok (.astore_n 1, 1) := by decide +kernel
theorem dL_law_8 : decode cL_law 8 = .ok (.new 73, 3) := by decide +kernel
theorem dL_law_11 : decode cL_law 11 = .ok (.dup, 1) := by decide +kernel
theorem dL_law_12 : decode cL_law 12 = .ok (.invokespecial 75, 3) := by decide +kernel
theorem dL_law_15 : decode cL_law 15 = .ok (.astore_n 2, 1) := by decide +kernel
theorem dL_law_16 : decode cL_law 16 = .ok (.iconst 1, 1) := by decide +kernel
theorem dL_law_17 : decode cL_law 17 = .ok (.newarray .long, 2) := by decide +kernel
theorem dL_law_19 : decode cL_law 19 = .ok (.astore_n 3, 1) := by decide +kernel
theorem dL_law_20 : decode cL_law 20 = .ok (.iconst 0, 1) := by decide +kernel
theorem dL_law_21 : decode cL_law 21 = .ok (.istore 4, 2) := by decide +kernel
theorem dL_law_23 : decode cL_law 23 = .ok (.iload 4, 2) := by decide +kernel
theorem dL_law_25 : decode cL_law 25 = .ok (.aload_n 0, 1) := by decide +kernel
theorem dL_law_26 : decode cL_law 26 = .ok (.arraylength, 1) := by decide +kernel
theorem dL_law_27 : decode cL_law 27 = .ok (.iconst 3, 1) := by decide +kernel
theorem dL_law_28 : decode cL_law 28 = .ok (.isub, 1) := by decide +kernel
theorem dL_law_29 : decode cL_law 29 = .ok (.if_icmp .gt 1357, 3) := by decide +kernel
theorem dL_law_32 : decode cL_law 32 = .ok (.aload_n 0, 1) := by decide +kernel
theorem dL_law_33 : decode cL_law 33 = .ok (.iload 4, 2) := by decide +kernel
theorem dL_law_35 : decode cL_law 35 = .ok (.iaload, 1) := by decide +kernel
theorem dL_law_36 : decode cL_law 36 = .ok (.bipush 31, 2) := by decide +kernel
theorem dL_law_38 : decode cL_law 38 = .ok (.iand, 1) := by decide +kernel
theorem dL_law_39 : decode cL_law 39 = .ok (.tableswitch 1341 0 26 #[121, 177, 221, 234, 302, 358, 414, 482, 538, 551, 564, 577, 621, 665, 721, 789, 857, 913, 969, 1037, 1093, 1149, 1217, 1230, 1243, 1284, 1327], 121) := by decide +kernel
theorem dL_law_160 : decode cL_law 160 = .ok (.aload_n 1, 1) := by decide +kernel
theorem dL_law_161 : decode cL_law 161 = .ok (.aload_n 0, 1) := by decide +kernel
theorem dL_law_162 : decode cL_law 162 = .ok (.iload 4, 2) := by decide +kernel
theorem dL_law_164 : decode cL_law 164 = .ok (.iconst 1, 1) := by decide +kernel
theorem dL_law_165 : decode cL_law 165 = .ok (.iadd, 1) := by decide +kernel
theorem dL_law_166 : decode cL_law 166 = .ok (.iaload, 1) := by decide +kernel
theorem dL_law_167 : decode cL_law 167 = .ok (.aload_n 3, 1) := by decide +kernel
theorem dL_law_168 : decode cL_law 168 = .ok (.invokestatic 76, 3) := by decide +kernel
theorem dL_law_171 : decode cL_law 171 = .ok (.istore 5, 2) := by decide +kernel
theorem dL_law_173 : decode cL_law 173 = .ok (.aload_n 2, 1) := by decide +kernel
theorem dL_law_174 : decode cL_law 174 = .ok (.aload_n 0, 1) := by decide +kernel
theorem dL_law_175 : decode cL_law 175 = .ok (.iload 4, 2) := by decide +kernel
theorem dL_law_177 : decode cL_law 177 = .ok (.iconst 1, 1) := by decide +kernel
theorem dL_law_178 : decode cL_law 178 = .ok (.iadd, 1) := by decide +kernel
theorem dL_law_179 : decode cL_law 179 = .ok (.iaload, 1) := by decide +kernel
theorem dL_law_180 : decode cL_law 180 = .ok (.invokevirtual 81, 3) := by decide +kernel
theorem dL_law_183 : decode cL_law 183 = .ok (.istore 6, 2) := by decide +kernel
theorem dL_law_185 : decode cL_law 185 = .ok (.aload_n 2, 1) := by decide +kernel
theorem dL_law_186 : decode cL_law 186 = .ok (.invokevirtual 82, 3) := by decide +kernel
theorem dL_law_189 : decode cL_law 189 = .ok (.iload 5, 2) := by decide +kernel
theorem dL_law_191 : decode cL_law 191 = .ok (.if_icmp .eq 5, 3) := by decide +kernel
theorem dL_law_194 : decode cL_law 194 = .ok (.iconst 0, 1) := by decide +kernel
theorem dL_law_195 : decode cL_law 195 = .ok (.ireturn, 1) := by decide +kernel
theorem dL_law_196 : decode cL_law 196 = .ok (.iload 5, 2) := by decide +kernel
theorem dL_law_198 : decode cL_law 198 = .ok (.ifCond .ne 15, 3) := by decide +kernel
theorem dL_law_201 : decode cL_law 201 = .ok (.aload_n 3, 1) := by decide +kernel
theorem dL_law_202 : decode cL_law 202 = .ok (.iconst 0, 1) := by decide +kernel
theorem dL_law_203 : decode cL_law 203 = .ok (.laload, 1) := by decide +kernel
theorem dL_law_204 : decode cL_law 204 = .ok (.iload 6, 2) := by decide +kernel
theorem dL_law_206 : decode cL_law 206 = .ok (.i2l, 1) := by decide +kernel
theorem dL_law_207 : decode cL_law 207 = .ok (.lcmp, 1) := by decide +kernel
theorem dL_law_208 : decode cL_law 208 = .ok (.ifCond .eq 5, 3) := by decide +kernel
theorem dL_law_211 : decode cL_law 211 = .ok (.iconst 0, 1) := by decide +kernel
theorem dL_law_212 : decode cL_law 212 = .ok (.ireturn, 1) := by decide +kernel
theorem dL_law_213 : decode cL_law 213 = .ok (.goto 1167, 3) := by decide +kernel
theorem dL_law_216 : decode cL_law 216 = .ok (.aload_n 1, 1) := by decide +kernel
theorem dL_law_217 : decode cL_law 217 = .ok (.aload_n 3, 1) := by decide +kernel
theorem dL_law_218 : decode cL_law 218 = .ok (.invokestatic 85, 3) := by decide +kernel
theorem dL_law_221 : decode cL_law 221 = .ok (.istore 5, 2) := by decide +kernel
theorem dL_law_223 : decode cL_law 223 = .ok (.aload_n 2, 1) := by decide +kernel
theorem dL_law_224 : decode cL_law 224 = .ok (.invokevirtual 88, 3) := by decide +kernel
theorem dL_law_227 : decode cL_law 227 = .ok (.istore 6, 2) := by decide +kernel
theorem dL_law_229 : decode cL_law 229 = .ok (.aload_n 2, 1) := by decide +kernel
theorem dL_law_230 : decode cL_law 230 = .ok (.invokevirtual 82, 3) := by decide +kernel
theorem dL_law_233 : decode cL_law 233 = .ok (.iload 5, 2) := by decide +kernel
theorem dL_law_235 : decode cL_law 235 = .ok (.if_icmp .eq 5, 3) := by decide +kernel
theorem dL_law_238 : decode cL_law 238 = .ok (.iconst 0, 1) := by decide +kernel
theorem dL_law_239 : decode cL_law 239 = .ok (.ireturn, 1) := by decide +kernel
theorem dL_law_240 : decode cL_law 240 = .ok (.iload 5, 2) := by decide +kernel
theorem dL_law_242 : decode cL_law 242 = .ok (.ifCond .ne 15, 3) := by decide +kernel
theorem dL_law_245 : decode cL_law 245 = .ok (.aload_n 3, 1) := by decide +kernel
theorem dL_law_246 : decode cL_law 246 = .ok (.iconst 0, 1) := by decide +kernel
theorem dL_law_247 : decode cL_law 247 = .ok (.laload, 1) := by decide +kernel
theorem dL_law_248 : decode cL_law 248 = .ok (.iload 6, 2) := by decide +kernel
theorem dL_law_250 : decode cL_law 250 = .ok (.i2l, 1) := by decide +kernel
theorem dL_law_251 : decode cL_law 251 = .ok (.lcmp, 1) := by decide +kernel
theorem dL_law_252 : decode cL_law 252 = .ok (.ifCond .eq 5, 3) := by decide +kernel
theorem dL_law_255 : decode cL_law 255 = .ok (.iconst 0, 1) := by decide +kernel
theorem dL_law_256 : decode cL_law 256 = .ok (.ireturn, 1) := by decide +kernel
theorem dL_law_257 : decode cL_law 257 = .ok (.goto 1123, 3) := by decide +kernel
theorem dL_law_260 : decode cL_law 260 = .ok (.aload_n 1, 1) := by decide +kernel
theorem dL_law_261 : decode cL_law 261 = .ok (.invokevirtual 89, 3) := by decide +kernel
theorem dL_law_264 : decode cL_law 264 = .ok (.aload_n 2, 1) := by decide +kernel
theorem dL_law_265 : decode cL_law 265 = .ok (.invokevirtual 92, 3) := by decide +kernel
theorem dL_law_268 : decode cL_law 268 = .ok (.if_icmp .eq 1112, 3) := by decide +kernel
theorem dL_law_271 : decode cL_law 271 = .ok (.iconst 0, 1) := by decide +kernel
theorem dL_law_272 : decode cL_law 272 = .ok (.ireturn, 1) := by decide +kernel
theorem dL_law_273 : decode cL_law 273 = .ok (.aload_n 1, 1) := by decide +kernel
theorem dL_law_274 : decode cL_law 274 = .ok (.aload_n 0, 1) := by decide +kernel
theorem dL_law_275 : decode cL_law 275 = .ok (.iload 4, 2) := by decide +kernel
theorem dL_law_277 : decode cL_law 277 = .ok (.iconst 1, 1) := by decide +kernel
theorem dL_law_278 : decode cL_law 278 = .ok (.iadd, 1) := by decide +kernel
theorem dL_law_279 : decode cL_law 279 = .ok (.iaload, 1) := by decide +kernel
theorem dL_law_280 : decode cL_law 280 = .ok (.aload_n 0, 1) := by decide +kernel
theorem dL_law_281 : decode cL_law 281 = .ok (.iload 4, 2) := by decide +kernel
theorem dL_law_283 : decode cL_law 283 = .ok (.iconst 2, 1) := by decide +kernel
theorem dL_law_284 : decode cL_law 284 = .ok (.iadd, 1) := by decide +kernel
theorem dL_law_285 : decode cL_law 285 = .ok (.iaload, 1) := by decide +kernel
theorem dL_law_286 : decode cL_law 286 = .ok (.aload_n 3, 1) := by decide +kernel
theorem dL_law_287 : decode cL_law 287 = .ok (.invokestatic 93, 3) := by decide +kernel
theorem dL_law_290 : decode cL_law 290 = .ok (.istore 5, 2) := by decide +kernel
theorem dL_law_292 : decode cL_law 292 = .ok (.aload_n 2, 1) := by decide +kernel
theorem dL_law_293 : decode cL_law 293 = .ok (.aload_n 0, 1) := by decide +kernel
theorem dL_law_294 : decode cL_law 294 = .ok (.iload 4, 2) := by decide +kernel
theorem dL_law_296 : decode cL_law 296 = .ok (.iconst 1, 1) := by decide +kernel
theorem dL_law_297 : decode cL_law 297 = .ok (.iadd, 1) := by decide +kernel
theorem dL_law_298 : decode cL_law 298 = .ok (.iaload, 1) := by decide +kernel
theorem dL_law_299 : decode cL_law 299 = .ok (.aload_n 0, 1) := by decide +kernel
theorem dL_law_300 : decode cL_law 300 = .ok (.iload 4, 2) := by decide +kernel
theorem dL_law_302 : decode cL_law 302 = .ok (.iconst 2, 1) := by decide +kernel
theorem dL_law_303 : decode cL_law 303 = .ok (.iadd, 1) := by decide +kernel
theorem dL_law_304 : decode cL_law 304 = .ok (.iaload, 1) := by decide +kernel
theorem dL_law_305 : decode cL_law 305 = .ok (.invokevirtual 96, 3) := by decide +kernel
theorem dL_law_308 : decode cL_law 308 = .ok (.istore 6, 2) := by decide +kernel
theorem dL_law_310 : decode cL_law 310 = .ok (.aload_n 2, 1) := by decide +kernel
theorem dL_law_311 : decode cL_law 311 = .ok (.invokevirtual 82, 3) := by decide +kernel
theorem dL_law_314 : decode cL_law 314 = .ok (.iload 5, 2) := by decide +kernel
theorem dL_law_316 : decode cL_law 316 = .ok (.if_icmp .eq 5, 3) := by decide +kernel
theorem dL_law_319 : decode cL_law 319 = .ok (.iconst 0, 1) := by decide +kernel
theorem dL_law_320 : decode cL_law 320 = .ok (.ireturn, 1) := by decide +kernel
theorem dL_law_321 : decode cL_law 321 = .ok (.iload 5, 2) := by decide +kernel
theorem dL_law_323 : decode cL_law 323 = .ok (.ifCond .ne 15, 3) := by decide +kernel
theorem dL_law_326 : decode cL_law 326 = .ok (.aload_n 3, 1) := by decide +kernel
theorem dL_law_327 : decode cL_law 327 = .ok (.iconst 0, 1) := by decide +kernel
theorem dL_law_328 : decode cL_law 328 = .ok (.laload, 1) := by decide +kernel
theorem dL_law_329 : decode cL_law 329 = .ok (.iload 6, 2) := by decide +kernel
theorem dL_law_331 : decode cL_law 331 = .ok (.i2l, 1) := by decide +kernel
theorem dL_law_332 : decode cL_law 332 = .ok (.lcmp, 1) := by decide +kernel
theorem dL_law_333 : decode cL_law 333 = .ok (.ifCond .eq 5, 3) := by decide +kernel
theorem dL_law_336 : decode cL_law 336 = .ok (.iconst 0, 1) := by decide +kernel
theorem dL_law_337 : decode cL_law 337 = .ok (.ireturn, 1) := by decide +kernel
theorem dL_law_338 : decode cL_law 338 = .ok (.goto 1042, 3) := by decide +kernel
theorem dL_law_341 : decode cL_law 341 = .ok (.aload_n 1, 1) := by decide +kernel
theorem dL_law_342 : decode cL_law 342 = .ok (.aload_n 0, 1) := by decide +kernel
theorem dL_law_343 : decode cL_law 343 = .ok (.iload 4, 2) := by decide +kernel
theorem dL_law_345 : decode cL_law 345 = .ok (.iconst 1, 1) := by decide +kernel
theorem dL_law_346 : decode cL_law 346 = .ok (.iadd, 1) := by decide +kernel
theorem dL_law_347 : decode cL_law 347 = .ok (.iaload, 1) := by decide +kernel
theorem dL_law_348 : decode cL_law 348 = .ok (.aload_n 3, 1) := by decide +kernel
theorem dL_law_349 : decode cL_law 349 = .ok (.invokestatic 97, 3) := by decide +kernel
theorem dL_law_352 : decode cL_law 352 = .ok (.istore 5, 2) := by decide +kernel
theorem dL_law_354 : decode cL_law 354 = .ok (.aload_n 2, 1) := by decide +kernel
theorem dL_law_355 : decode cL_law 355 = .ok (.aload_n 0, 1) := by decide +kernel
theorem dL_law_356 : decode cL_law 356 = .ok (.iload 4, 2) := by decide +kernel
theorem dL_law_358 : decode cL_law 358 = .ok (.iconst 1, 1) := by decide +kernel
theorem dL_law_359 : decode cL_law 359 = .ok (.iadd, 1) := by decide +kernel
theorem dL_law_360 : decode cL_law 360 = .ok (.iaload, 1) := by decide +kernel
theorem dL_law_361 : decode cL_law 361 = .ok (.invokevirtual 99, 3) := by decide +kernel
theorem dL_law_364 : decode cL_law 364 = .ok (.istore 6, 2) := by decide +kernel
theorem dL_law_366 : decode cL_law 366 = .ok (.aload_n 2, 1) := by decide +kernel
theorem dL_law_367 : decode cL_law 367 = .ok (.invokevirtual 82, 3) := by decide +kernel
theorem dL_law_370 : decode cL_law 370 = .ok (.iload 5, 2) := by decide +kernel
theorem dL_law_372 : decode cL_law 372 = .ok (.if_icmp .eq 5, 3) := by decide +kernel
theorem dL_law_375 : decode cL_law 375 = .ok (.iconst 0, 1) := by decide +kernel
theorem dL_law_376 : decode cL_law 376 = .ok (.ireturn, 1) := by decide +kernel
theorem dL_law_377 : decode cL_law 377 = .ok (.iload 5, 2) := by decide +kernel
theorem dL_law_379 : decode cL_law 379 = .ok (.ifCond .ne 15, 3) := by decide +kernel
theorem dL_law_382 : decode cL_law 382 = .ok (.aload_n 3, 1) := by decide +kernel
theorem dL_law_383 : decode cL_law 383 = .ok (.iconst 0, 1) := by decide +kernel
theorem dL_law_384 : decode cL_law 384 = .ok (.laload, 1) := by decide +kernel
theorem dL_law_385 : decode cL_law 385 = .ok (.iload 6, 2) := by decide +kernel
theorem dL_law_387 : decode cL_law 387 = .ok (.i2l, 1) := by decide +kernel
theorem dL_law_388 : decode cL_law 388 = .ok (.lcmp, 1) := by decide +kernel
theorem dL_law_389 : decode cL_law 389 = .ok (.ifCond .eq 5, 3) := by decide +kernel
theorem dL_law_392 : decode cL_law 392 = .ok (.iconst 0, 1) := by decide +kernel
theorem dL_law_393 : decode cL_law 393 = .ok (.ireturn, 1) := by decide +kernel
theorem dL_law_394 : decode cL_law 394 = .ok (.goto 986, 3) := by decide +kernel
theorem dL_law_397 : decode cL_law 397 = .ok (.aload_n 1, 1) := by decide +kernel
theorem dL_law_398 : decode cL_law 398 = .ok (.aload_n 0, 1) := by decide +kernel
theorem dL_law_399 : decode cL_law 399 = .ok (.iload 4, 2) := by decide +kernel
theorem dL_law_401 : decode cL_law 401 = .ok (.iconst 1, 1) := by decide +kernel
theorem dL_law_402 : decode cL_law 402 = .ok (.iadd, 1) := by decide +kernel
theorem dL_law_403 : decode cL_law 403 = .ok (.iaload, 1) := by decide +kernel
theorem dL_law_404 : decode cL_law 404 = .ok (.aload_n 3, 1) := by decide +kernel
theorem dL_law_405 : decode cL_law 405 = .ok (.invokestatic 100, 3) := by decide +kernel
theorem dL_law_408 : decode cL_law 408 = .ok (.istore 5, 2) := by decide +kernel
theorem dL_law_410 : decode cL_law 410 = .ok (.aload_n 2, 1) := by decide +kernel
theorem dL_law_411 : decode cL_law 411 = .ok (.aload_n 0, 1) := by decide +kernel
theorem dL_law_412 : decode cL_law 412 = .ok (.iload 4, 2) := by decide +kernel
theorem dL_law_414 : decode cL_law 414 = .ok (.iconst 1, 1) := by decide +kernel
theorem dL_law_415 : decode cL_law 415 = .ok (.iadd, 1) := by decide +kernel
theorem dL_law_416 : decode cL_law 416 = .ok (.iaload, 1) := by decide +kernel
theorem dL_law_417 : decode cL_law 417 = .ok (.invokevirtual 102, 3) := by decide +kernel
theorem dL_law_420 : decode cL_law 420 = .ok (.istore 6, 2) := by decide +kernel
theorem dL_law_422 : decode cL_law 422 = .ok (.aload_n 2, 1) := by decide +kernel
theorem dL_law_423 : decode cL_law 423 = .ok (.invokevirtual 82, 3) := by decide +kernel
theorem dL_law_426 : decode cL_law 426 = .ok (.iload 5, 2) := by decide +kernel
theorem dL_law_428 : decode cL_law 428 = .ok (.if_icmp .eq 5, 3) := by decide +kernel
theorem dL_law_431 : decode cL_law 431 = .ok (.iconst 0, 1) := by decide +kernel
theorem dL_law_432 : decode cL_law 432 = .ok (.ireturn, 1) := by decide +kernel
theorem dL_law_433 : decode cL_law 433 = .ok (.iload 5, 2) := by decide +kernel
theorem dL_law_435 : decode cL_law 435 = .ok (.ifCond .ne 15, 3) := by decide +kernel
theorem dL_law_438 : decode cL_law 438 = .ok (.aload_n 3, 1) := by decide +kernel
theorem dL_law_439 : decode cL_law 439 = .ok (.iconst 0, 1) := by decide +kernel
theorem dL_law_440 : decode cL_law 440 = .ok (.laload, 1) := by decide +kernel
theorem dL_law_441 : decode cL_law 441 = .ok (.iload 6, 2) := by decide +kernel
theorem dL_law_443 : decode cL_law 443 = .ok (.i2l, 1) := by decide +kernel
theorem dL_law_444 : decode cL_law 444 = .ok (.lcmp, 1) := by decide +kernel
theorem dL_law_445 : decode cL_law 445 = .ok (.ifCond .eq 5, 3) := by decide +kernel
theorem dL_law_448 : decode cL_law 448 = .ok (.iconst 0, 1) := by decide +kernel
theorem dL_law_449 : decode cL_law 449 = .ok (.ireturn, 1) := by decide +kernel
theorem dL_law_450 : decode cL_law 450 = .ok (.goto 930, 3) := by decide +kernel
theorem dL_law_453 : decode cL_law 453 = .ok (.aload_n 1, 1) := by decide +kernel
theorem dL_law_454 : decode cL_law 454 = .ok (.aload_n 0, 1) := by decide +kernel
theorem dL_law_455 : decode cL_law 455 = .ok (.iload 4, 2) := by decide +kernel
theorem dL_law_457 : decode cL_law 457 = .ok (.iconst 1, 1) := by decide +kernel
theorem dL_law_458 : decode cL_law 458 = .ok (.iadd, 1) := by decide +kernel
theorem dL_law_459 : decode cL_law 459 = .ok (.iaload, 1) := by decide +kernel
theorem dL_law_460 : decode cL_law 460 = .ok (.aload_n 0, 1) := by decide +kernel
theorem dL_law_461 : decode cL_law 461 = .ok (.iload 4, 2) := by decide +kernel
theorem dL_law_463 : decode cL_law 463 = .ok (.iconst 2, 1) := by decide +kernel
theorem dL_law_464 : decode cL_law 464 = .ok (.iadd, 1) := by decide +kernel
theorem dL_law_465 : decode cL_law 465 = .ok (.iaload, 1) := by decide +kernel
theorem dL_law_466 : decode cL_law 466 = .ok (.aload_n 3, 1) := by decide +kernel
theorem dL_law_467 : decode cL_law 467 = .ok (.invokestatic 103, 3) := by decide +kernel
theorem dL_law_470 : decode cL_law 470 = .ok (.istore 5, 2) := by decide +kernel
theorem dL_law_472 : decode cL_law 472 = .ok (.aload_n 2, 1) := by decide +kernel
theorem dL_law_473 : decode cL_law 473 = .ok (.aload_n 0, 1) := by decide +kernel
theorem dL_law_474 : decode cL_law 474 = .ok (.iload 4, 2) := by decide +kernel
theorem dL_law_476 : decode cL_law 476 = .ok (.iconst 1, 1) := by decide +kernel
theorem dL_law_477 : decode cL_law 477 = .ok (.iadd, 1) := by decide +kernel
theorem dL_law_478 : decode cL_law 478 = .ok (.iaload, 1) := by decide +kernel
theorem dL_law_479 : decode cL_law 479 = .ok (.aload_n 0, 1) := by decide +kernel
theorem dL_law_480 : decode cL_law 480 = .ok (.iload 4, 2) := by decide +kernel
theorem dL_law_482 : decode cL_law 482 = .ok (.iconst 2, 1) := by decide +kernel
theorem dL_law_483 : decode cL_law 483 = .ok (.iadd, 1) := by decide +kernel
theorem dL_law_484 : decode cL_law 484 = .ok (.iaload, 1) := by decide +kernel
theorem dL_law_485 : decode cL_law 485 = .ok (.invokevirtual 105, 3) := by decide +kernel
theorem dL_law_488 : decode cL_law 488 = .ok (.istore 6, 2) := by decide +kernel
theorem dL_law_490 : decode cL_law 490 = .ok (.aload_n 2, 1) := by decide +kernel
theorem dL_law_491 : decode cL_law 491 = .ok (.invokevirtual 82, 3) := by decide +kernel
theorem dL_law_494 : decode cL_law 494 = .ok (.iload 5, 2) := by decide +kernel
theorem dL_law_496 : decode cL_law 496 = .ok (.if_icmp .eq 5, 3) := by decide +kernel
theorem dL_law_499 : decode cL_law 499 = .ok (.iconst 0, 1) := by decide +kernel
theorem dL_law_500 : decode cL_law 500 = .ok (.ireturn, 1) := by decide +kernel
theorem dL_law_501 : decode cL_law 501 = .ok (.iload 5, 2) := by decide +kernel
theorem dL_law_503 : decode cL_law 503 = .ok (.ifCond .ne 15, 3) := by decide +kernel
theorem dL_law_506 : decode cL_law 506 = .ok (.aload_n 3, 1) := by decide +kernel
theorem dL_law_507 : decode cL_law 507 = .ok (.iconst 0, 1) := by decide +kernel
theorem dL_law_508 : decode cL_law 508 = .ok (.laload, 1) := by decide +kernel
theorem dL_law_509 : decode cL_law 509 = .ok (.iload 6, 2) := by decide +kernel
theorem dL_law_511 : decode cL_law 511 = .ok (.i2l, 1) := by decide +kernel
theorem dL_law_512 : decode cL_law 512 = .ok (.lcmp, 1) := by decide +kernel
theorem dL_law_513 : decode cL_law 513 = .ok (.ifCond .eq 5, 3) := by decide +kernel
theorem dL_law_516 : decode cL_law 516 = .ok (.iconst 0, 1) := by decide +kernel
theorem dL_law_517 : decode cL_law 517 = .ok (.ireturn, 1) := by decide +kernel
theorem dL_law_518 : decode cL_law 518 = .ok (.goto 862, 3) := by decide +kernel
theorem dL_law_521 : decode cL_law 521 = .ok (.aload_n 1, 1) := by decide +kernel
theorem dL_law_522 : decode cL_law 522 = .ok (.aload_n 0, 1) := by decide +kernel
theorem dL_law_523 : decode cL_law 523 = .ok (.iload 4, 2) := by decide +kernel
theorem dL_law_525 : decode cL_law 525 = .ok (.iconst 1, 1) := by decide +kernel
theorem dL_law_526 : decode cL_law 526 = .ok (.iadd, 1) := by decide +kernel
theorem dL_law_527 : decode cL_law 527 = .ok (.iaload, 1) := by decide +kernel
theorem dL_law_528 : decode cL_law 528 = .ok (.aload_n 3, 1) := by decide +kernel
theorem dL_law_529 : decode cL_law 529 = .ok (.invokestatic 106, 3) := by decide +kernel
theorem dL_law_532 : decode cL_law 532 = .ok (.istore 5, 2) := by decide +kernel
theorem dL_law_534 : decode cL_law 534 = .ok (.aload_n 2, 1) := by decide +kernel
theorem dL_law_535 : decode cL_law 535 = .ok (.aload_n 0, 1) := by decide +kernel
theorem dL_law_536 : decode cL_law 536 = .ok (.iload 4, 2) := by decide +kernel
theorem dL_law_538 : decode cL_law 538 = .ok (.iconst 1, 1) := by decide +kernel
theorem dL_law_539 : decode cL_law 539 = .ok (.iadd, 1) := by decide +kernel
theorem dL_law_540 : decode cL_law 540 = .ok (.iaload, 1) := by decide +kernel
theorem dL_law_541 : decode cL_law 541 = .ok (.invokevirtual 108, 3) := by decide +kernel
theorem dL_law_544 : decode cL_law 544 = .ok (.istore 6, 2) := by decide +kernel
theorem dL_law_546 : decode cL_law 546 = .ok (.aload_n 2, 1) := by decide +kernel
theorem dL_law_547 : decode cL_law 547 = .ok (.invokevirtual 82, 3) := by decide +kernel
theorem dL_law_550 : decode cL_law 550 = .ok (.iload 5, 2) := by decide +kernel
theorem dL_law_552 : decode cL_law 552 = .ok (.if_icmp .eq 5, 3) := by decide +kernel
theorem dL_law_555 : decode cL_law 555 = .ok (.iconst 0, 1) := by decide +kernel
theorem dL_law_556 : decode cL_law 556 = .ok (.ireturn, 1) := by decide +kernel
theorem dL_law_557 : decode cL_law 557 = .ok (.iload 5, 2) := by decide +kernel
theorem dL_law_559 : decode cL_law 559 = .ok (.ifCond .ne 15, 3) := by decide +kernel
theorem dL_law_562 : decode cL_law 562 = .ok (.aload_n 3, 1) := by decide +kernel
theorem dL_law_563 : decode cL_law 563 = .ok (.iconst 0, 1) := by decide +kernel
theorem dL_law_564 : decode cL_law 564 = .ok (.laload, 1) := by decide +kernel
theorem dL_law_565 : decode cL_law 565 = .ok (.iload 6, 2) := by decide +kernel
theorem dL_law_567 : decode cL_law 567 = .ok (.i2l, 1) := by decide +kernel
theorem dL_law_568 : decode cL_law 568 = .ok (.lcmp, 1) := by decide +kernel
theorem dL_law_569 : decode cL_law 569 = .ok (.ifCond .eq 5, 3) := by decide +kernel
theorem dL_law_572 : decode cL_law 572 = .ok (.iconst 0, 1) := by decide +kernel
theorem dL_law_573 : decode cL_law 573 = .ok (.ireturn, 1) := by decide +kernel
theorem dL_law_574 : decode cL_law 574 = .ok (.goto 806, 3) := by decide +kernel
theorem dL_law_577 : decode cL_law 577 = .ok (.aload_n 1, 1) := by decide +kernel
theorem dL_law_578 : decode cL_law 578 = .ok (.invokevirtual 109, 3) := by decide +kernel
theorem dL_law_581 : decode cL_law 581 = .ok (.aload_n 2, 1) := by decide +kernel
theorem dL_law_582 : decode cL_law 582 = .ok (.invokevirtual 112, 3) := by decide +kernel
theorem dL_law_585 : decode cL_law 585 = .ok (.if_icmp .eq 795, 3) := by decide +kernel
theorem dL_law_588 : decode cL_law 588 = .ok (.iconst 0, 1) := by decide +kernel
theorem dL_law_589 : decode cL_law 589 = .ok (.ireturn, 1) := by decide +kernel
theorem dL_law_590 : decode cL_law 590 = .ok (.aload_n 1, 1) := by decide +kernel
theorem dL_law_591 : decode cL_law 591 = .ok (.invokevirtual 113, 3) := by decide +kernel
theorem dL_law_594 : decode cL_law 594 = .ok (.aload_n 2, 1) := by decide +kernel
theorem dL_law_595 : decode cL_law 595 = .ok (.invokevirtual 116, 3) := by decide +kernel
theorem dL_law_598 : decode cL_law 598 = .ok (.if_icmp .eq 782, 3) := by decide +kernel
theorem dL_law_601 : decode cL_law 601 = .ok (.iconst 0, 1) := by decide +kernel
theorem dL_law_602 : decode cL_law 602 = .ok (.ireturn, 1) := by decide +kernel
theorem dL_law_603 : decode cL_law 603 = .ok (.aload_n 1, 1) := by decide +kernel
theorem dL_law_604 : decode cL_law 604 = .ok (.invokevirtual 117, 3) := by decide +kernel
theorem dL_law_607 : decode cL_law 607 = .ok (.aload_n 2, 1) := by decide +kernel
theorem dL_law_608 : decode cL_law 608 = .ok (.invokevirtual 120, 3) := by decide +kernel
theorem dL_law_611 : decode cL_law 611 = .ok (.if_icmp .eq 769, 3) := by decide +kernel
theorem dL_law_614 : decode cL_law 614 = .ok (.iconst 0, 1) := by decide +kernel
theorem dL_law_615 : decode cL_law 615 = .ok (.ireturn, 1) := by decide +kernel
theorem dL_law_616 : decode cL_law 616 = .ok (.aload_n 1, 1) := by decide +kernel
theorem dL_law_617 : decode cL_law 617 = .ok (.aload_n 3, 1) := by decide +kernel
theorem dL_law_618 : decode cL_law 618 = .ok (.invokestatic 121, 3) := by decide +kernel
theorem dL_law_621 : decode cL_law 621 = .ok (.istore 5, 2) := by decide +kernel
theorem dL_law_623 : decode cL_law 623 = .ok (.aload_n 2, 1) := by decide +kernel
theorem dL_law_624 : decode cL_law 624 = .ok (.invokevirtual 123, 3) := by decide +kernel
theorem dL_law_627 : decode cL_law 627 = .ok (.istore 6, 2) := by decide +kernel
theorem dL_law_629 : decode cL_law 629 = .ok (.aload_n 2, 1) := by decide +kernel
theorem dL_law_630 : decode cL_law 630 = .ok (.invokevirtual 82, 3) := by decide +kernel
theorem dL_law_633 : decode cL_law 633 = .ok (.iload 5, 2) := by decide +kernel
theorem dL_law_635 : decode cL_law 635 = .ok (.if_icmp .eq 5, 3) := by decide +kernel
theorem dL_law_638 : decode cL_law 638 = .ok (.iconst 0, 1) := by decide +kernel
theorem dL_law_639 : decode cL_law 639 = .ok (.ireturn, 1) := by decide +kernel
theorem dL_law_640 : decode cL_law 640 = .ok (.iload 5, 2) := by decide +kernel
theorem dL_law_642 : decode cL_law 642 = .ok (.ifCond .ne 15, 3) := by decide +kernel
theorem dL_law_645 : decode cL_law 645 = .ok (.aload_n 3, 1) := by decide +kernel
theorem dL_law_646 : decode cL_law 646 = .ok (.iconst 0, 1) := by decide +kernel
theorem dL_law_647 : decode cL_law 647 = .ok (.laload, 1) := by decide +kernel
theorem dL_law_648 : decode cL_law 648 = .ok (.iload 6, 2) := by decide +kernel
theorem dL_law_650 : decode cL_law 650 = .ok (.i2l, 1) := by decide +kernel
theorem dL_law_651 : decode cL_law 651 = .ok (.lcmp, 1) := by decide +kernel
theorem dL_law_652 : decode cL_law 652 = .ok (.ifCond .eq 5, 3) := by decide +kernel
theorem dL_law_655 : decode cL_law 655 = .ok (.iconst 0, 1) := by decide +kernel
theorem dL_law_656 : decode cL_law 656 = .ok (.ireturn, 1) := by decide +kernel
theorem dL_law_657 : decode cL_law 657 = .ok (.goto 723, 3) := by decide +kernel
theorem dL_law_660 : decode cL_law 660 = .ok (.aload_n 1, 1) := by decide +kernel
theorem dL_law_661 : decode cL_law 661 = .ok (.aload_n 3, 1) := by decide +kernel
theorem dL_law_662 : decode cL_law 662 = .ok (.invokestatic 124, 3) := by decide +kernel
theorem dL_law_665 : decode cL_law 665 = .ok (.istore 5, 2) := by decide +kernel
theorem dL_law_667 : decode cL_law 667 = .ok (.aload_n 2, 1) := by decide +kernel
theorem dL_law_668 : decode cL_law 668 = .ok (.invokevirtual 126, 3) := by decide +kernel
theorem dL_law_671 : decode cL_law 671 = .ok (.istore 6, 2) := by decide +kernel
theorem dL_law_673 : decode cL_law 673 = .ok (.aload_n 2, 1) := by decide +kernel
theorem dL_law_674 : decode cL_law 674 = .ok (.invokevirtual 82, 3) := by decide +kernel
theorem dL_law_677 : decode cL_law 677 = .ok (.iload 5, 2) := by decide +kernel
theorem dL_law_679 : decode cL_law 679 = .ok (.if_icmp .eq 5, 3) := by decide +kernel
theorem dL_law_682 : decode cL_law 682 = .ok (.iconst 0, 1) := by decide +kernel
theorem dL_law_683 : decode cL_law 683 = .ok (.ireturn, 1) := by decide +kernel
theorem dL_law_684 : decode cL_law 684 = .ok (.iload 5, 2) := by decide +kernel
theorem dL_law_686 : decode cL_law 686 = .ok (.ifCond .ne 15, 3) := by decide +kernel
theorem dL_law_689 : decode cL_law 689 = .ok (.aload_n 3, 1) := by decide +kernel
theorem dL_law_690 : decode cL_law 690 = .ok (.iconst 0, 1) := by decide +kernel
theorem dL_law_691 : decode cL_law 691 = .ok (.laload, 1) := by decide +kernel
theorem dL_law_692 : decode cL_law 692 = .ok (.iload 6, 2) := by decide +kernel
theorem dL_law_694 : decode cL_law 694 = .ok (.i2l, 1) := by decide +kernel
theorem dL_law_695 : decode cL_law 695 = .ok (.lcmp, 1) := by decide +kernel
theorem dL_law_696 : decode cL_law 696 = .ok (.ifCond .eq 5, 3) := by decide +kernel
theorem dL_law_699 : decode cL_law 699 = .ok (.iconst 0, 1) := by decide +kernel
theorem dL_law_700 : decode cL_law 700 = .ok (.ireturn, 1) := by decide +kernel
theorem dL_law_701 : decode cL_law 701 = .ok (.goto 679, 3) := by decide +kernel
theorem dL_law_704 : decode cL_law 704 = .ok (.aload_n 1, 1) := by decide +kernel
theorem dL_law_705 : decode cL_law 705 = .ok (.aload_n 0, 1) := by decide +kernel
theorem dL_law_706 : decode cL_law 706 = .ok (.iload 4, 2) := by decide +kernel
theorem dL_law_708 : decode cL_law 708 = .ok (.iconst 1, 1) := by decide +kernel
theorem dL_law_709 : decode cL_law 709 = .ok (.iadd, 1) := by decide +kernel
theorem dL_law_710 : decode cL_law 710 = .ok (.iaload, 1) := by decide +kernel
theorem dL_law_711 : decode cL_law 711 = .ok (.aload_n 3, 1) := by decide +kernel
theorem dL_law_712 : decode cL_law 712 = .ok (.invokestatic 127, 3) := by decide +kernel
theorem dL_law_715 : decode cL_law 715 = .ok (.istore 5, 2) := by decide +kernel
theorem dL_law_717 : decode cL_law 717 = .ok (.aload_n 2, 1) := by decide +kernel
theorem dL_law_718 : decode cL_law 718 = .ok (.aload_n 0, 1) := by decide +kernel
theorem dL_law_719 : decode cL_law 719 = .ok (.iload 4, 2) := by decide +kernel
theorem dL_law_721 : decode cL_law 721 = .ok (.iconst 1, 1) := by decide +kernel
theorem dL_law_722 : decode cL_law 722 = .ok (.iadd, 1) := by decide +kernel
theorem dL_law_723 : decode cL_law 723 = .ok (.iaload, 1) := by decide +kernel
theorem dL_law_724 : decode cL_law 724 = .ok (.invokevirtual 129, 3) := by decide +kernel
theorem dL_law_727 : decode cL_law 727 = .ok (.istore 6, 2) := by decide +kernel
theorem dL_law_729 : decode cL_law 729 = .ok (.aload_n 2, 1) := by decide +kernel
theorem dL_law_730 : decode cL_law 730 = .ok (.invokevirtual 82, 3) := by decide +kernel
theorem dL_law_733 : decode cL_law 733 = .ok (.iload 5, 2) := by decide +kernel
theorem dL_law_735 : decode cL_law 735 = .ok (.if_icmp .eq 5, 3) := by decide +kernel
theorem dL_law_738 : decode cL_law 738 = .ok (.iconst 0, 1) := by decide +kernel
theorem dL_law_739 : decode cL_law 739 = .ok (.ireturn, 1) := by decide +kernel
theorem dL_law_740 : decode cL_law 740 = .ok (.iload 5, 2) := by decide +kernel
theorem dL_law_742 : decode cL_law 742 = .ok (.ifCond .ne 15, 3) := by decide +kernel
theorem dL_law_745 : decode cL_law 745 = .ok (.aload_n 3, 1) := by decide +kernel
theorem dL_law_746 : decode cL_law 746 = .ok (.iconst 0, 1) := by decide +kernel
theorem dL_law_747 : decode cL_law 747 = .ok (.laload, 1) := by decide +kernel
theorem dL_law_748 : decode cL_law 748 = .ok (.iload 6, 2) := by decide +kernel
theorem dL_law_750 : decode cL_law 750 = .ok (.i2l, 1) := by decide +kernel
theorem dL_law_751 : decode cL_law 751 = .ok (.lcmp, 1) := by decide +kernel
theorem dL_law_752 : decode cL_law 752 = .ok (.ifCond .eq 5, 3) := by decide +kernel
theorem dL_law_755 : decode cL_law 755 = .ok (.iconst 0, 1) := by decide +kernel
theorem dL_law_756 : decode cL_law 756 = .ok (.ireturn, 1) := by decide +kernel
theorem dL_law_757 : decode cL_law 757 = .ok (.goto 623, 3) := by decide +kernel
theorem dL_law_760 : decode cL_law 760 = .ok (.aload_n 1, 1) := by decide +kernel
theorem dL_law_761 : decode cL_law 761 = .ok (.aload_n 0, 1) := by decide +kernel
theorem dL_law_762 : decode cL_law 762 = .ok (.iload 4, 2) := by decide +kernel
theorem dL_law_764 : decode cL_law 764 = .ok (.iconst 1, 1) := by decide +kernel
theorem dL_law_765 : decode cL_law 765 = .ok (.iadd, 1) := by decide +kernel
theorem dL_law_766 : decode cL_law 766 = .ok (.iaload, 1) := by decide +kernel
theorem dL_law_767 : decode cL_law 767 = .ok (.aload_n 0, 1) := by decide +kernel
theorem dL_law_768 : decode cL_law 768 = .ok (.iload 4, 2) := by decide +kernel
theorem dL_law_770 : decode cL_law 770 = .ok (.iconst 2, 1) := by decide +kernel
theorem dL_law_771 : decode cL_law 771 = .ok (.iadd, 1) := by decide +kernel
theorem dL_law_772 : decode cL_law 772 = .ok (.iaload, 1) := by decide +kernel
theorem dL_law_773 : decode cL_law 773 = .ok (.aload_n 3, 1) := by decide +kernel
theorem dL_law_774 : decode cL_law 774 = .ok (.invokestatic 130, 3) := by decide +kernel
theorem dL_law_777 : decode cL_law 777 = .ok (.istore 5, 2) := by decide +kernel
theorem dL_law_779 : decode cL_law 779 = .ok (.aload_n 2, 1) := by decide +kernel
theorem dL_law_780 : decode cL_law 780 = .ok (.aload_n 0, 1) := by decide +kernel
theorem dL_law_781 : decode cL_law 781 = .ok (.iload 4, 2) := by decide +kernel
theorem dL_law_783 : decode cL_law 783 = .ok (.iconst 1, 1) := by decide +kernel
theorem dL_law_784 : decode cL_law 784 = .ok (.iadd, 1) := by decide +kernel
theorem dL_law_785 : decode cL_law 785 = .ok (.iaload, 1) := by decide +kernel
theorem dL_law_786 : decode cL_law 786 = .ok (.aload_n 0, 1) := by decide +kernel
theorem dL_law_787 : decode cL_law 787 = .ok (.iload 4, 2) := by decide +kernel
theorem dL_law_789 : decode cL_law 789 = .ok (.iconst 2, 1) := by decide +kernel
theorem dL_law_790 : decode cL_law 790 = .ok (.iadd, 1) := by decide +kernel
theorem dL_law_791 : decode cL_law 791 = .ok (.iaload, 1) := by decide +kernel
theorem dL_law_792 : decode cL_law 792 = .ok (.invokevirtual 132, 3) := by decide +kernel
theorem dL_law_795 : decode cL_law 795 = .ok (.istore 6, 2) := by decide +kernel
theorem dL_law_797 : decode cL_law 797 = .ok (.aload_n 2, 1) := by decide +kernel
theorem dL_law_798 : decode cL_law 798 = .ok (.invokevirtual 82, 3) := by decide +kernel
theorem dL_law_801 : decode cL_law 801 = .ok (.iload 5, 2) := by decide +kernel
theorem dL_law_803 : decode cL_law 803 = .ok (.if_icmp .eq 5, 3) := by decide +kernel
theorem dL_law_806 : decode cL_law 806 = .ok (.iconst 0, 1) := by decide +kernel
theorem dL_law_807 : decode cL_law 807 = .ok (.ireturn, 1) := by decide +kernel
theorem dL_law_808 : decode cL_law 808 = .ok (.iload 5, 2) := by decide +kernel
theorem dL_law_810 : decode cL_law 810 = .ok (.ifCond .ne 15, 3) := by decide +kernel
theorem dL_law_813 : decode cL_law 813 = .ok (.aload_n 3, 1) := by decide +kernel
theorem dL_law_814 : decode cL_law 814 = .ok (.iconst 0, 1) := by decide +kernel
theorem dL_law_815 : decode cL_law 815 = .ok (.laload, 1) := by decide +kernel
theorem dL_law_816 : decode cL_law 816 = .ok (.iload 6, 2) := by decide +kernel
theorem dL_law_818 : decode cL_law 818 = .ok (.i2l, 1) := by decide +kernel
theorem dL_law_819 : decode cL_law 819 = .ok (.lcmp, 1) := by decide +kernel
theorem dL_law_820 : decode cL_law 820 = .ok (.ifCond .eq 5, 3) := by decide +kernel
theorem dL_law_823 : decode cL_law 823 = .ok (.iconst 0, 1) := by decide +kernel
theorem dL_law_824 : decode cL_law 824 = .ok (.ireturn, 1) := by decide +kernel
theorem dL_law_825 : decode cL_law 825 = .ok (.goto 555, 3) := by decide +kernel
theorem dL_law_828 : decode cL_law 828 = .ok (.aload_n 1, 1) := by decide +kernel
theorem dL_law_829 : decode cL_law 829 = .ok (.aload_n 0, 1) := by decide +kernel
theorem dL_law_830 : decode cL_law 830 = .ok (.iload 4, 2) := by decide +kernel
theorem dL_law_832 : decode cL_law 832 = .ok (.iconst 1, 1) := by decide +kernel
theorem dL_law_833 : decode cL_law 833 = .ok (.iadd, 1) := by decide +kernel
theorem dL_law_834 : decode cL_law 834 = .ok (.iaload, 1) := by decide +kernel
theorem dL_law_835 : decode cL_law 835 = .ok (.aload_n 0, 1) := by decide +kernel
theorem dL_law_836 : decode cL_law 836 = .ok (.iload 4, 2) := by decide +kernel
theorem dL_law_838 : decode cL_law 838 = .ok (.iconst 2, 1) := by decide +kernel
theorem dL_law_839 : decode cL_law 839 = .ok (.iadd, 1) := by decide +kernel
theorem dL_law_840 : decode cL_law 840 = .ok (.iaload, 1) := by decide +kernel
theorem dL_law_841 : decode cL_law 841 = .ok (.aload_n 3, 1) := by decide +kernel
theorem dL_law_842 : decode cL_law 842 = .ok (.invokestatic 133, 3) := by decide +kernel
theorem dL_law_845 : decode cL_law 845 = .ok (.istore 5, 2) := by decide +kernel
theorem dL_law_847 : decode cL_law 847 = .ok (.aload_n 2, 1) := by decide +kernel
theorem dL_law_848 : decode cL_law 848 = .ok (.aload_n 0, 1) := by decide +kernel
theorem dL_law_849 : decode cL_law 849 = .ok (.iload 4, 2) := by decide +kernel
theorem dL_law_851 : decode cL_law 851 = .ok (.iconst 1, 1) := by decide +kernel
theorem dL_law_852 : decode cL_law 852 = .ok (.iadd, 1) := by decide +kernel
theorem dL_law_853 : decode cL_law 853 = .ok (.iaload, 1) := by decide +kernel
theorem dL_law_854 : decode cL_law 854 = .ok (.aload_n 0, 1) := by decide +kernel
theorem dL_law_855 : decode cL_law 855 = .ok (.iload 4, 2) := by decide +kernel
theorem dL_law_857 : decode cL_law 857 = .ok (.iconst 2, 1) := by decide +kernel
theorem dL_law_858 : decode cL_law 858 = .ok (.iadd, 1) := by decide +kernel
theorem dL_law_859 : decode cL_law 859 = .ok (.iaload, 1) := by decide +kernel
theorem dL_law_860 : decode cL_law 860 = .ok (.invokevirtual 135, 3) := by decide +kernel
theorem dL_law_863 : decode cL_law 863 = .ok (.istore 6, 2) := by decide +kernel
theorem dL_law_865 : decode cL_law 865 = .ok (.aload_n 2, 1) := by decide +kernel
theorem dL_law_866 : decode cL_law 866 = .ok (.invokevirtual 82, 3) := by decide +kernel
theorem dL_law_869 : decode cL_law 869 = .ok (.iload 5, 2) := by decide +kernel
theorem dL_law_871 : decode cL_law 871 = .ok (.if_icmp .eq 5, 3) := by decide +kernel
theorem dL_law_874 : decode cL_law 874 = .ok (.iconst 0, 1) := by decide +kernel
theorem dL_law_875 : decode cL_law 875 = .ok (.ireturn, 1) := by decide +kernel
theorem dL_law_876 : decode cL_law 876 = .ok (.iload 5, 2) := by decide +kernel
theorem dL_law_878 : decode cL_law 878 = .ok (.ifCond .ne 15, 3) := by decide +kernel
theorem dL_law_881 : decode cL_law 881 = .ok (.aload_n 3, 1) := by decide +kernel
theorem dL_law_882 : decode cL_law 882 = .ok (.iconst 0, 1) := by decide +kernel
theorem dL_law_883 : decode cL_law 883 = .ok (.laload, 1) := by decide +kernel
theorem dL_law_884 : decode cL_law 884 = .ok (.iload 6, 2) := by decide +kernel
theorem dL_law_886 : decode cL_law 886 = .ok (.i2l, 1) := by decide +kernel
theorem dL_law_887 : decode cL_law 887 = .ok (.lcmp, 1) := by decide +kernel
theorem dL_law_888 : decode cL_law 888 = .ok (.ifCond .eq 5, 3) := by decide +kernel
theorem dL_law_891 : decode cL_law 891 = .ok (.iconst 0, 1) := by decide +kernel
theorem dL_law_892 : decode cL_law 892 = .ok (.ireturn, 1) := by decide +kernel
theorem dL_law_893 : decode cL_law 893 = .ok (.goto 487, 3) := by decide +kernel
theorem dL_law_896 : decode cL_law 896 = .ok (.aload_n 1, 1) := by decide +kernel
theorem dL_law_897 : decode cL_law 897 = .ok (.aload_n 0, 1) := by decide +kernel
theorem dL_law_898 : decode cL_law 898 = .ok (.iload 4, 2) := by decide +kernel
theorem dL_law_900 : decode cL_law 900 = .ok (.iconst 1, 1) := by decide +kernel
theorem dL_law_901 : decode cL_law 901 = .ok (.iadd, 1) := by decide +kernel
theorem dL_law_902 : decode cL_law 902 = .ok (.iaload, 1) := by decide +kernel
theorem dL_law_903 : decode cL_law 903 = .ok (.aload_n 3, 1) := by decide +kernel
theorem dL_law_904 : decode cL_law 904 = .ok (.invokestatic 136, 3) := by decide +kernel
theorem dL_law_907 : decode cL_law 907 = .ok (.istore 5, 2) := by decide +kernel
theorem dL_law_909 : decode cL_law 909 = .ok (.aload_n 2, 1) := by decide +kernel
theorem dL_law_910 : decode cL_law 910 = .ok (.aload_n 0, 1) := by decide +kernel
theorem dL_law_911 : decode cL_law 911 = .ok (.iload 4, 2) := by decide +kernel
theorem dL_law_913 : decode cL_law 913 = .ok (.iconst 1, 1) := by decide +kernel
theorem dL_law_914 : decode cL_law 914 = .ok (.iadd, 1) := by decide +kernel
theorem dL_law_915 : decode cL_law 915 = .ok (.iaload, 1) := by decide +kernel
theorem dL_law_916 : decode cL_law 916 = .ok (.invokevirtual 138, 3) := by decide +kernel
theorem dL_law_919 : decode cL_law 919 = .ok (.istore 6, 2) := by decide +kernel
theorem dL_law_921 : decode cL_law 921 = .ok (.aload_n 2, 1) := by decide +kernel
theorem dL_law_922 : decode cL_law 922 = .ok (.invokevirtual 82, 3) := by decide +kernel
theorem dL_law_925 : decode cL_law 925 = .ok (.iload 5, 2) := by decide +kernel
theorem dL_law_927 : decode cL_law 927 = .ok (.if_icmp .eq 5, 3) := by decide +kernel
theorem dL_law_930 : decode cL_law 930 = .ok (.iconst 0, 1) := by decide +kernel
theorem dL_law_931 : decode cL_law 931 = .ok (.ireturn, 1) := by decide +kernel
theorem dL_law_932 : decode cL_law 932 = .ok (.iload 5, 2) := by decide +kernel
theorem dL_law_934 : decode cL_law 934 = .ok (.ifCond .ne 15, 3) := by decide +kernel
theorem dL_law_937 : decode cL_law 937 = .ok (.aload_n 3, 1) := by decide +kernel
theorem dL_law_938 : decode cL_law 938 = .ok (.iconst 0, 1) := by decide +kernel
theorem dL_law_939 : decode cL_law 939 = .ok (.laload, 1) := by decide +kernel
theorem dL_law_940 : decode cL_law 940 = .ok (.iload 6, 2) := by decide +kernel
theorem dL_law_942 : decode cL_law 942 = .ok (.i2l, 1) := by decide +kernel
theorem dL_law_943 : decode cL_law 943 = .ok (.lcmp, 1) := by decide +kernel
theorem dL_law_944 : decode cL_law 944 = .ok (.ifCond .eq 5, 3) := by decide +kernel
theorem dL_law_947 : decode cL_law 947 = .ok (.iconst 0, 1) := by decide +kernel
theorem dL_law_948 : decode cL_law 948 = .ok (.ireturn, 1) := by decide +kernel
theorem dL_law_949 : decode cL_law 949 = .ok (.goto 431, 3) := by decide +kernel
theorem dL_law_952 : decode cL_law 952 = .ok (.aload_n 1, 1) := by decide +kernel
theorem dL_law_953 : decode cL_law 953 = .ok (.aload_n 0, 1) := by decide +kernel
theorem dL_law_954 : decode cL_law 954 = .ok (.iload 4, 2) := by decide +kernel
theorem dL_law_956 : decode cL_law 956 = .ok (.iconst 1, 1) := by decide +kernel
theorem dL_law_957 : decode cL_law 957 = .ok (.iadd, 1) := by decide +kernel
theorem dL_law_958 : decode cL_law 958 = .ok (.iaload, 1) := by decide +kernel
theorem dL_law_959 : decode cL_law 959 = .ok (.aload_n 3, 1) := by decide +kernel
theorem dL_law_960 : decode cL_law 960 = .ok (.invokestatic 139, 3) := by decide +kernel
theorem dL_law_963 : decode cL_law 963 = .ok (.istore 5, 2) := by decide +kernel
theorem dL_law_965 : decode cL_law 965 = .ok (.aload_n 2, 1) := by decide +kernel
theorem dL_law_966 : decode cL_law 966 = .ok (.aload_n 0, 1) := by decide +kernel
theorem dL_law_967 : decode cL_law 967 = .ok (.iload 4, 2) := by decide +kernel
theorem dL_law_969 : decode cL_law 969 = .ok (.iconst 1, 1) := by decide +kernel
theorem dL_law_970 : decode cL_law 970 = .ok (.iadd, 1) := by decide +kernel
theorem dL_law_971 : decode cL_law 971 = .ok (.iaload, 1) := by decide +kernel
theorem dL_law_972 : decode cL_law 972 = .ok (.invokevirtual 141, 3) := by decide +kernel
theorem dL_law_975 : decode cL_law 975 = .ok (.istore 6, 2) := by decide +kernel
theorem dL_law_977 : decode cL_law 977 = .ok (.aload_n 2, 1) := by decide +kernel
theorem dL_law_978 : decode cL_law 978 = .ok (.invokevirtual 82, 3) := by decide +kernel
theorem dL_law_981 : decode cL_law 981 = .ok (.iload 5, 2) := by decide +kernel
theorem dL_law_983 : decode cL_law 983 = .ok (.if_icmp .eq 5, 3) := by decide +kernel
theorem dL_law_986 : decode cL_law 986 = .ok (.iconst 0, 1) := by decide +kernel
theorem dL_law_987 : decode cL_law 987 = .ok (.ireturn, 1) := by decide +kernel
theorem dL_law_988 : decode cL_law 988 = .ok (.iload 5, 2) := by decide +kernel
theorem dL_law_990 : decode cL_law 990 = .ok (.ifCond .ne 15, 3) := by decide +kernel
theorem dL_law_993 : decode cL_law 993 = .ok (.aload_n 3, 1) := by decide +kernel
theorem dL_law_994 : decode cL_law 994 = .ok (.iconst 0, 1) := by decide +kernel
theorem dL_law_995 : decode cL_law 995 = .ok (.laload, 1) := by decide +kernel
theorem dL_law_996 : decode cL_law 996 = .ok (.iload 6, 2) := by decide +kernel
theorem dL_law_998 : decode cL_law 998 = .ok (.i2l, 1) := by decide +kernel
theorem dL_law_999 : decode cL_law 999 = .ok (.lcmp, 1) := by decide +kernel
theorem dL_law_1000 : decode cL_law 1000 = .ok (.ifCond .eq 5, 3) := by decide +kernel
theorem dL_law_1003 : decode cL_law 1003 = .ok (.iconst 0, 1) := by decide +kernel
theorem dL_law_1004 : decode cL_law 1004 = .ok (.ireturn, 1) := by decide +kernel
theorem dL_law_1005 : decode cL_law 1005 = .ok (.goto 375, 3) := by decide +kernel
theorem dL_law_1008 : decode cL_law 1008 = .ok (.aload_n 1, 1) := by decide +kernel
theorem dL_law_1009 : decode cL_law 1009 = .ok (.aload_n 0, 1) := by decide +kernel
theorem dL_law_1010 : decode cL_law 1010 = .ok (.iload 4, 2) := by decide +kernel
theorem dL_law_1012 : decode cL_law 1012 = .ok (.iconst 1, 1) := by decide +kernel
theorem dL_law_1013 : decode cL_law 1013 = .ok (.iadd, 1) := by decide +kernel
theorem dL_law_1014 : decode cL_law 1014 = .ok (.iaload, 1) := by decide +kernel
theorem dL_law_1015 : decode cL_law 1015 = .ok (.aload_n 0, 1) := by decide +kernel
theorem dL_law_1016 : decode cL_law 1016 = .ok (.iload 4, 2) := by decide +kernel
theorem dL_law_1018 : decode cL_law 1018 = .ok (.iconst 2, 1) := by decide +kernel
theorem dL_law_1019 : decode cL_law 1019 = .ok (.iadd, 1) := by decide +kernel
theorem dL_law_1020 : decode cL_law 1020 = .ok (.iaload, 1) := by decide +kernel
theorem dL_law_1021 : decode cL_law 1021 = .ok (.aload_n 3, 1) := by decide +kernel
theorem dL_law_1022 : decode cL_law 1022 = .ok (.invokestatic 142, 3) := by decide +kernel
theorem dL_law_1025 : decode cL_law 1025 = .ok (.istore 5, 2) := by decide +kernel
theorem dL_law_1027 : decode cL_law 1027 = .ok (.aload_n 2, 1) := by decide +kernel
theorem dL_law_1028 : decode cL_law 1028 = .ok (.aload_n 0, 1) := by decide +kernel
theorem dL_law_1029 : decode cL_law 1029 = .ok (.iload 4, 2) := by decide +kernel
theorem dL_law_1031 : decode cL_law 1031 = .ok (.iconst 1, 1) := by decide +kernel
theorem dL_law_1032 : decode cL_law 1032 = .ok (.iadd, 1) := by decide +kernel
theorem dL_law_1033 : decode cL_law 1033 = .ok (.iaload, 1) := by decide +kernel
theorem dL_law_1034 : decode cL_law 1034 = .ok (.aload_n 0, 1) := by decide +kernel
theorem dL_law_1035 : decode cL_law 1035 = .ok (.iload 4, 2) := by decide +kernel
theorem dL_law_1037 : decode cL_law 1037 = .ok (.iconst 2, 1) := by decide +kernel
theorem dL_law_1038 : decode cL_law 1038 = .ok (.iadd, 1) := by decide +kernel
theorem dL_law_1039 : decode cL_law 1039 = .ok (.iaload, 1) := by decide +kernel
theorem dL_law_1040 : decode cL_law 1040 = .ok (.invokevirtual 144, 3) := by decide +kernel
theorem dL_law_1043 : decode cL_law 1043 = .ok (.istore 6, 2) := by decide +kernel
theorem dL_law_1045 : decode cL_law 1045 = .ok (.aload_n 2, 1) := by decide +kernel
theorem dL_law_1046 : decode cL_law 1046 = .ok (.invokevirtual 82, 3) := by decide +kernel
theorem dL_law_1049 : decode cL_law 1049 = .ok (.iload 5, 2) := by decide +kernel
theorem dL_law_1051 : decode cL_law 1051 = .ok (.if_icmp .eq 5, 3) := by decide +kernel
theorem dL_law_1054 : decode cL_law 1054 = .ok (.iconst 0, 1) := by decide +kernel
theorem dL_law_1055 : decode cL_law 1055 = .ok (.ireturn, 1) := by decide +kernel
theorem dL_law_1056 : decode cL_law 1056 = .ok (.iload 5, 2) := by decide +kernel
theorem dL_law_1058 : decode cL_law 1058 = .ok (.ifCond .ne 15, 3) := by decide +kernel
theorem dL_law_1061 : decode cL_law 1061 = .ok (.aload_n 3, 1) := by decide +kernel
theorem dL_law_1062 : decode cL_law 1062 = .ok (.iconst 0, 1) := by decide +kernel
theorem dL_law_1063 : decode cL_law 1063 = .ok (.laload, 1) := by decide +kernel
theorem dL_law_1064 : decode cL_law 1064 = .ok (.iload 6, 2) := by decide +kernel
theorem dL_law_1066 : decode cL_law 1066 = .ok (.i2l, 1) := by decide +kernel
theorem dL_law_1067 : decode cL_law 1067 = .ok (.lcmp, 1) := by decide +kernel
theorem dL_law_1068 : decode cL_law 1068 = .ok (.ifCond .eq 5, 3) := by decide +kernel
theorem dL_law_1071 : decode cL_law 1071 = .ok (.iconst 0, 1) := by decide +kernel
theorem dL_law_1072 : decode cL_law 1072 = .ok (.ireturn, 1) := by decide +kernel
theorem dL_law_1073 : decode cL_law 1073 = .ok (.goto 307, 3) := by decide +kernel
theorem dL_law_1076 : decode cL_law 1076 = .ok (.aload_n 1, 1) := by decide +kernel
theorem dL_law_1077 : decode cL_law 1077 = .ok (.aload_n 0, 1) := by decide +kernel
theorem dL_law_1078 : decode cL_law 1078 = .ok (.iload 4, 2) := by decide +kernel
theorem dL_law_1080 : decode cL_law 1080 = .ok (.iconst 1, 1) := by decide +kernel
theorem dL_law_1081 : decode cL_law 1081 = .ok (.iadd, 1) := by decide +kernel
theorem dL_law_1082 : decode cL_law 1082 = .ok (.iaload, 1) := by decide +kernel
theorem dL_law_1083 : decode cL_law 1083 = .ok (.aload_n 3, 1) := by decide +kernel
theorem dL_law_1084 : decode cL_law 1084 = .ok (.invokestatic 145, 3) := by decide +kernel
theorem dL_law_1087 : decode cL_law 1087 = .ok (.istore 5, 2) := by decide +kernel
theorem dL_law_1089 : decode cL_law 1089 = .ok (.aload_n 2, 1) := by decide +kernel
theorem dL_law_1090 : decode cL_law 1090 = .ok (.aload_n 0, 1) := by decide +kernel
theorem dL_law_1091 : decode cL_law 1091 = .ok (.iload 4, 2) := by decide +kernel
theorem dL_law_1093 : decode cL_law 1093 = .ok (.iconst 1, 1) := by decide +kernel
theorem dL_law_1094 : decode cL_law 1094 = .ok (.iadd, 1) := by decide +kernel
theorem dL_law_1095 : decode cL_law 1095 = .ok (.iaload, 1) := by decide +kernel
theorem dL_law_1096 : decode cL_law 1096 = .ok (.invokevirtual 147, 3) := by decide +kernel
theorem dL_law_1099 : decode cL_law 1099 = .ok (.istore 6, 2) := by decide +kernel
theorem dL_law_1101 : decode cL_law 1101 = .ok (.aload_n 2, 1) := by decide +kernel
theorem dL_law_1102 : decode cL_law 1102 = .ok (.invokevirtual 82, 3) := by decide +kernel
theorem dL_law_1105 : decode cL_law 1105 = .ok (.iload 5, 2) := by decide +kernel
theorem dL_law_1107 : decode cL_law 1107 = .ok (.if_icmp .eq 5, 3) := by decide +kernel
theorem dL_law_1110 : decode cL_law 1110 = .ok (.iconst 0, 1) := by decide +kernel
theorem dL_law_1111 : decode cL_law 1111 = .ok (.ireturn, 1) := by decide +kernel
theorem dL_law_1112 : decode cL_law 1112 = .ok (.iload 5, 2) := by decide +kernel
theorem dL_law_1114 : decode cL_law 1114 = .ok (.ifCond .ne 15, 3) := by decide +kernel
theorem dL_law_1117 : decode cL_law 1117 = .ok (.aload_n 3, 1) := by decide +kernel
theorem dL_law_1118 : decode cL_law 1118 = .ok (.iconst 0, 1) := by decide +kernel
theorem dL_law_1119 : decode cL_law 1119 = .ok (.laload, 1) := by decide +kernel
theorem dL_law_1120 : decode cL_law 1120 = .ok (.iload 6, 2) := by decide +kernel
theorem dL_law_1122 : decode cL_law 1122 = .ok (.i2l, 1) := by decide +kernel
theorem dL_law_1123 : decode cL_law 1123 = .ok (.lcmp, 1) := by decide +kernel
theorem dL_law_1124 : decode cL_law 1124 = .ok (.ifCond .eq 5, 3) := by decide +kernel
theorem dL_law_1127 : decode cL_law 1127 = .ok (.iconst 0, 1) := by decide +kernel
theorem dL_law_1128 : decode cL_law 1128 = .ok (.ireturn, 1) := by decide +kernel
theorem dL_law_1129 : decode cL_law 1129 = .ok (.goto 251, 3) := by decide +kernel
theorem dL_law_1132 : decode cL_law 1132 = .ok (.aload_n 1, 1) := by decide +kernel
theorem dL_law_1133 : decode cL_law 1133 = .ok (.aload_n 0, 1) := by decide +kernel
theorem dL_law_1134 : decode cL_law 1134 = .ok (.iload 4, 2) := by decide +kernel
theorem dL_law_1136 : decode cL_law 1136 = .ok (.iconst 1, 1) := by decide +kernel
theorem dL_law_1137 : decode cL_law 1137 = .ok (.iadd, 1) := by decide +kernel
theorem dL_law_1138 : decode cL_law 1138 = .ok (.iaload, 1) := by decide +kernel
theorem dL_law_1139 : decode cL_law 1139 = .ok (.aload_n 3, 1) := by decide +kernel
theorem dL_law_1140 : decode cL_law 1140 = .ok (.invokestatic 148, 3) := by decide +kernel
theorem dL_law_1143 : decode cL_law 1143 = .ok (.istore 5, 2) := by decide +kernel
theorem dL_law_1145 : decode cL_law 1145 = .ok (.aload_n 2, 1) := by decide +kernel
theorem dL_law_1146 : decode cL_law 1146 = .ok (.aload_n 0, 1) := by decide +kernel
theorem dL_law_1147 : decode cL_law 1147 = .ok (.iload 4, 2) := by decide +kernel
theorem dL_law_1149 : decode cL_law 1149 = .ok (.iconst 1, 1) := by decide +kernel
theorem dL_law_1150 : decode cL_law 1150 = .ok (.iadd, 1) := by decide +kernel
theorem dL_law_1151 : decode cL_law 1151 = .ok (.iaload, 1) := by decide +kernel
theorem dL_law_1152 : decode cL_law 1152 = .ok (.invokevirtual 150, 3) := by decide +kernel
theorem dL_law_1155 : decode cL_law 1155 = .ok (.istore 6, 2) := by decide +kernel
theorem dL_law_1157 : decode cL_law 1157 = .ok (.aload_n 2, 1) := by decide +kernel
theorem dL_law_1158 : decode cL_law 1158 = .ok (.invokevirtual 82, 3) := by decide +kernel
theorem dL_law_1161 : decode cL_law 1161 = .ok (.iload 5, 2) := by decide +kernel
theorem dL_law_1163 : decode cL_law 1163 = .ok (.if_icmp .eq 5, 3) := by decide +kernel
theorem dL_law_1166 : decode cL_law 1166 = .ok (.iconst 0, 1) := by decide +kernel
theorem dL_law_1167 : decode cL_law 1167 = .ok (.ireturn, 1) := by decide +kernel
theorem dL_law_1168 : decode cL_law 1168 = .ok (.iload 5, 2) := by decide +kernel
theorem dL_law_1170 : decode cL_law 1170 = .ok (.ifCond .ne 15, 3) := by decide +kernel
theorem dL_law_1173 : decode cL_law 1173 = .ok (.aload_n 3, 1) := by decide +kernel
theorem dL_law_1174 : decode cL_law 1174 = .ok (.iconst 0, 1) := by decide +kernel
theorem dL_law_1175 : decode cL_law 1175 = .ok (.laload, 1) := by decide +kernel
theorem dL_law_1176 : decode cL_law 1176 = .ok (.iload 6, 2) := by decide +kernel
theorem dL_law_1178 : decode cL_law 1178 = .ok (.i2l, 1) := by decide +kernel
theorem dL_law_1179 : decode cL_law 1179 = .ok (.lcmp, 1) := by decide +kernel
theorem dL_law_1180 : decode cL_law 1180 = .ok (.ifCond .eq 5, 3) := by decide +kernel
theorem dL_law_1183 : decode cL_law 1183 = .ok (.iconst 0, 1) := by decide +kernel
theorem dL_law_1184 : decode cL_law 1184 = .ok (.ireturn, 1) := by decide +kernel
theorem dL_law_1185 : decode cL_law 1185 = .ok (.goto 195, 3) := by decide +kernel
theorem dL_law_1188 : decode cL_law 1188 = .ok (.aload_n 1, 1) := by decide +kernel
theorem dL_law_1189 : decode cL_law 1189 = .ok (.aload_n 0, 1) := by decide +kernel
theorem dL_law_1190 : decode cL_law 1190 = .ok (.iload 4, 2) := by decide +kernel
theorem dL_law_1192 : decode cL_law 1192 = .ok (.iconst 1, 1) := by decide +kernel
theorem dL_law_1193 : decode cL_law 1193 = .ok (.iadd, 1) := by decide +kernel
theorem dL_law_1194 : decode cL_law 1194 = .ok (.iaload, 1) := by decide +kernel
theorem dL_law_1195 : decode cL_law 1195 = .ok (.aload_n 0, 1) := by decide +kernel
theorem dL_law_1196 : decode cL_law 1196 = .ok (.iload 4, 2) := by decide +kernel
theorem dL_law_1198 : decode cL_law 1198 = .ok (.iconst 2, 1) := by decide +kernel
theorem dL_law_1199 : decode cL_law 1199 = .ok (.iadd, 1) := by decide +kernel
theorem dL_law_1200 : decode cL_law 1200 = .ok (.iaload, 1) := by decide +kernel
theorem dL_law_1201 : decode cL_law 1201 = .ok (.aload_n 3, 1) := by decide +kernel
theorem dL_law_1202 : decode cL_law 1202 = .ok (.invokestatic 151, 3) := by decide +kernel
theorem dL_law_1205 : decode cL_law 1205 = .ok (.istore 5, 2) := by decide +kernel
theorem dL_law_1207 : decode cL_law 1207 = .ok (.aload_n 2, 1) := by decide +kernel
theorem dL_law_1208 : decode cL_law 1208 = .ok (.aload_n 0, 1) := by decide +kernel
theorem dL_law_1209 : decode cL_law 1209 = .ok (.iload 4, 2) := by decide +kernel
theorem dL_law_1211 : decode cL_law 1211 = .ok (.iconst 1, 1) := by decide +kernel
theorem dL_law_1212 : decode cL_law 1212 = .ok (.iadd, 1) := by decide +kernel
theorem dL_law_1213 : decode cL_law 1213 = .ok (.iaload, 1) := by decide +kernel
theorem dL_law_1214 : decode cL_law 1214 = .ok (.aload_n 0, 1) := by decide +kernel
theorem dL_law_1215 : decode cL_law 1215 = .ok (.iload 4, 2) := by decide +kernel
theorem dL_law_1217 : decode cL_law 1217 = .ok (.iconst 2, 1) := by decide +kernel
theorem dL_law_1218 : decode cL_law 1218 = .ok (.iadd, 1) := by decide +kernel
theorem dL_law_1219 : decode cL_law 1219 = .ok (.iaload, 1) := by decide +kernel
theorem dL_law_1220 : decode cL_law 1220 = .ok (.invokevirtual 153, 3) := by decide +kernel
theorem dL_law_1223 : decode cL_law 1223 = .ok (.istore 6, 2) := by decide +kernel
theorem dL_law_1225 : decode cL_law 1225 = .ok (.aload_n 2, 1) := by decide +kernel
theorem dL_law_1226 : decode cL_law 1226 = .ok (.invokevirtual 82, 3) := by decide +kernel
theorem dL_law_1229 : decode cL_law 1229 = .ok (.iload 5, 2) := by decide +kernel
theorem dL_law_1231 : decode cL_law 1231 = .ok (.if_icmp .eq 5, 3) := by decide +kernel
theorem dL_law_1234 : decode cL_law 1234 = .ok (.iconst 0, 1) := by decide +kernel
theorem dL_law_1235 : decode cL_law 1235 = .ok (.ireturn, 1) := by decide +kernel
theorem dL_law_1236 : decode cL_law 1236 = .ok (.iload 5, 2) := by decide +kernel
theorem dL_law_1238 : decode cL_law 1238 = .ok (.ifCond .ne 15, 3) := by decide +kernel
theorem dL_law_1241 : decode cL_law 1241 = .ok (.aload_n 3, 1) := by decide +kernel
theorem dL_law_1242 : decode cL_law 1242 = .ok (.iconst 0, 1) := by decide +kernel
theorem dL_law_1243 : decode cL_law 1243 = .ok (.laload, 1) := by decide +kernel
theorem dL_law_1244 : decode cL_law 1244 = .ok (.iload 6, 2) := by decide +kernel
theorem dL_law_1246 : decode cL_law 1246 = .ok (.i2l, 1) := by decide +kernel
theorem dL_law_1247 : decode cL_law 1247 = .ok (.lcmp, 1) := by decide +kernel
theorem dL_law_1248 : decode cL_law 1248 = .ok (.ifCond .eq 5, 3) := by decide +kernel
theorem dL_law_1251 : decode cL_law 1251 = .ok (.iconst 0, 1) := by decide +kernel
theorem dL_law_1252 : decode cL_law 1252 = .ok (.ireturn, 1) := by decide +kernel
theorem dL_law_1253 : decode cL_law 1253 = .ok (.goto 127, 3) := by decide +kernel
theorem dL_law_1256 : decode cL_law 1256 = .ok (.aload_n 1, 1) := by decide +kernel
theorem dL_law_1257 : decode cL_law 1257 = .ok (.invokevirtual 154, 3) := by decide +kernel
theorem dL_law_1260 : decode cL_law 1260 = .ok (.aload_n 2, 1) := by decide +kernel
theorem dL_law_1261 : decode cL_law 1261 = .ok (.invokevirtual 157, 3) := by decide +kernel
theorem dL_law_1264 : decode cL_law 1264 = .ok (.if_icmp .eq 116, 3) := by decide +kernel
theorem dL_law_1267 : decode cL_law 1267 = .ok (.iconst 0, 1) := by decide +kernel
theorem dL_law_1268 : decode cL_law 1268 = .ok (.ireturn, 1) := by decide +kernel
theorem dL_law_1269 : decode cL_law 1269 = .ok (.aload_n 1, 1) := by decide +kernel
theorem dL_law_1270 : decode cL_law 1270 = .ok (.invokevirtual 158, 3) := by decide +kernel
theorem dL_law_1273 : decode cL_law 1273 = .ok (.aload_n 2, 1) := by decide +kernel
theorem dL_law_1274 : decode cL_law 1274 = .ok (.invokevirtual 161, 3) := by decide +kernel
theorem dL_law_1277 : decode cL_law 1277 = .ok (.if_icmp .eq 103, 3) := by decide +kernel
theorem dL_law_1280 : decode cL_law 1280 = .ok (.iconst 0, 1) := by decide +kernel
theorem dL_law_1281 : decode cL_law 1281 = .ok (.ireturn, 1) := by decide +kernel
theorem dL_law_1282 : decode cL_law 1282 = .ok (.aload_n 1, 1) := by decide +kernel
theorem dL_law_1283 : decode cL_law 1283 = .ok (.invokevirtual 162, 3) := by decide +kernel
theorem dL_law_1286 : decode cL_law 1286 = .ok (.dstore 5, 2) := by decide +kernel
theorem dL_law_1288 : decode cL_law 1288 = .ok (.aload_n 2, 1) := by decide +kernel
theorem dL_law_1289 : decode cL_law 1289 = .ok (.invokevirtual 166, 3) := by decide +kernel
theorem dL_law_1292 : decode cL_law 1292 = .ok (.dstore 7, 2) := by decide +kernel
theorem dL_law_1294 : decode cL_law 1294 = .ok (.dload 5, 2) := by decide +kernel
theorem dL_law_1296 : decode cL_law 1296 = .ok (.dload 7, 2) := by decide +kernel
theorem dL_law_1298 : decode cL_law 1298 = .ok (.dcmp .l, 1) := by decide +kernel
theorem dL_law_1299 : decode cL_law 1299 = .ok (.ifCond .eq 21, 3) := by decide +kernel
theorem dL_law_1302 : decode cL_law 1302 = .ok (.dload 5, 2) := by decide +kernel
theorem dL_law_1304 : decode cL_law 1304 = .ok (.dload 5, 2) := by decide +kernel
theorem dL_law_1306 : decode cL_law 1306 = .ok (.dcmp .l, 1) := by decide +kernel
theorem dL_law_1307 : decode cL_law 1307 = .ok (.ifCond .eq 11, 3) := by decide +kernel
theorem dL_law_1310 : decode cL_law 1310 = .ok (.dload 7, 2) := by decide +kernel
theorem dL_law_1312 : decode cL_law 1312 = .ok (.dload 7, 2) := by decide +kernel
theorem dL_law_1314 : decode cL_law 1314 = .ok (.dcmp .l, 1) := by decide +kernel
theorem dL_law_1315 : decode cL_law 1315 = .ok (.ifCond .ne 5, 3) := by decide +kernel
theorem dL_law_1318 : decode cL_law 1318 = .ok (.iconst 0, 1) := by decide +kernel
theorem dL_law_1319 : decode cL_law 1319 = .ok (.ireturn, 1) := by decide +kernel
theorem dL_law_1320 : decode cL_law 1320 = .ok (.goto 60, 3) := by decide +kernel
theorem dL_law_1323 : decode cL_law 1323 = .ok (.aload_n 1, 1) := by decide +kernel
theorem dL_law_1324 : decode cL_law 1324 = .ok (.invokevirtual 167, 3) := by decide +kernel
theorem dL_law_1327 : decode cL_law 1327 = .ok (.f2d, 1) := by decide +kernel
theorem dL_law_1328 : decode cL_law 1328 = .ok (.dstore 5, 2) := by decide +kernel
theorem dL_law_1330 : decode cL_law 1330 = .ok (.aload_n 2, 1) := by decide +kernel
theorem dL_law_1331 : decode cL_law 1331 = .ok (.invokevirtual 171, 3) := by decide +kernel
theorem dL_law_1334 : decode cL_law 1334 = .ok (.f2d, 1) := by decide +kernel
theorem dL_law_1335 : decode cL_law 1335 = .ok (.dstore 7, 2) := by decide +kernel
theorem dL_law_1337 : decode cL_law 1337 = .ok (.dload 5, 2) := by decide +kernel
theorem dL_law_1339 : decode cL_law 1339 = .ok (.dload 7, 2) := by decide +kernel
theorem dL_law_1341 : decode cL_law 1341 = .ok (.dcmp .l, 1) := by decide +kernel
theorem dL_law_1342 : decode cL_law 1342 = .ok (.ifCond .eq 21, 3) := by decide +kernel
theorem dL_law_1345 : decode cL_law 1345 = .ok (.dload 5, 2) := by decide +kernel
theorem dL_law_1347 : decode cL_law 1347 = .ok (.dload 5, 2) := by decide +kernel
theorem dL_law_1349 : decode cL_law 1349 = .ok (.dcmp .l, 1) := by decide +kernel
theorem dL_law_1350 : decode cL_law 1350 = .ok (.ifCond .eq 11, 3) := by decide +kernel
theorem dL_law_1353 : decode cL_law 1353 = .ok (.dload 7, 2) := by decide +kernel
theorem dL_law_1355 : decode cL_law 1355 = .ok (.dload 7, 2) := by decide +kernel
theorem dL_law_1357 : decode cL_law 1357 = .ok (.dcmp .l, 1) := by decide +kernel
theorem dL_law_1358 : decode cL_law 1358 = .ok (.ifCond .ne 5, 3) := by decide +kernel
theorem dL_law_1361 : decode cL_law 1361 = .ok (.iconst 0, 1) := by decide +kernel
theorem dL_law_1362 : decode cL_law 1362 = .ok (.ireturn, 1) := by decide +kernel
theorem dL_law_1363 : decode cL_law 1363 = .ok (.goto 17, 3) := by decide +kernel
theorem dL_law_1366 : decode cL_law 1366 = .ok (.aload_n 1, 1) := by decide +kernel
theorem dL_law_1367 : decode cL_law 1367 = .ok (.invokevirtual 172, 3) := by decide +kernel
theorem dL_law_1370 : decode cL_law 1370 = .ok (.aload_n 2, 1) := by decide +kernel
theorem dL_law_1371 : decode cL_law 1371 = .ok (.invokevirtual 176, 3) := by decide +kernel
theorem dL_law_1374 : decode cL_law 1374 = .ok (.lcmp, 1) := by decide +kernel
theorem dL_law_1375 : decode cL_law 1375 = .ok (.ifCond .eq 5, 3) := by decide +kernel
theorem dL_law_1378 : decode cL_law 1378 = .ok (.iconst 0, 1) := by decide +kernel
theorem dL_law_1379 : decode cL_law 1379 = .ok (.ireturn, 1) := by decide +kernel
theorem dL_law_1380 : decode cL_law 1380 = .ok (.iinc 4 3, 3) := by decide +kernel
theorem dL_law_1383 : decode cL_law 1383 = .ok (.goto (-1360), 3) := by decide +kernel
theorem dL_law_1386 : decode cL_law 1386 = .ok (.iconst 1, 1) := by decide +kernel
theorem dL_law_1387 : decode cL_law 1387 = .ok (.ireturn, 1) := by decide +kernel
end
section
theorem kw1_0 : Cond.initialized RL ∈ lw_all := lw_in1 (List.mem_of_getElem? (i := 0) rfl) rfl
theorem kw1_1 : Cond.initialized RX6 ∈ lw_all := lw_in1 (List.mem_of_getElem? (i := 1) rfl) rfl
theorem kw1_2 : Cond.initialized RX5 ∈ lw_all := lw_in1 (List.mem_of_getElem? (i := 2) rfl) rfl
theorem kw1_3 : Cond.initialized RX3 ∈ lw_all := lw_in1 (List.mem_of_getElem? (i := 3) rfl) rfl
theorem kw1_4 : Cond.initialized RJ9 ∈ lw_all := lw_in1 (List.mem_of_getElem? (i := 4) rfl) rfl
theorem kw1_5 : Cond.initialized RX0 ∈ lw_all := lw_in1 (List.mem_of_getElem? (i := 5) rfl) rfl
theorem kw1_6 : Cond.initialized RX4 ∈ lw_all := lw_in1 (List.mem_of_getElem? (i := 6) rfl) rfl
theorem kw1_7 : Cond.initialized RX1 ∈ lw_all := lw_in1 (List.mem_of_getElem? (i := 7) rfl) rfl
theorem kw1_8 : Cond.initialized RX2 ∈ lw_all := lw_in1 (List.mem_of_getElem? (i := 8) rfl) rfl
theorem kw1_9 : Cond.initialized RX7 ∈ lw_all := lw_in1 (List.mem_of_getElem? (i := 9) rfl) rfl
theorem kw1_10 : Cond.initialized "java/lang/Throwable" ∈ lw_all := lw_in1 (List.mem_of_getElem? (i := 10) rfl) rfl
theorem kw1_11 : Cond.initialized "java/lang/Exception" ∈ lw_all := lw_in1 (List.mem_of_getElem? (i := 11) rfl) rfl
theorem kw1_12 : Cond.initialized "java/lang/RuntimeException" ∈ lw_all := lw_in1 (List.mem_of_getElem? (i := 12) rfl) rfl
theorem kw1_13 : Cond.initialized "java/lang/IllegalArgumentException" ∈ lw_all := lw_in1 (List.mem_of_getElem? (i := 13) rfl) rfl
theorem kw1_14 : Cond.initialized "java/lang/IllegalStateException" ∈ lw_all := lw_in1 (List.mem_of_getElem? (i := 14) rfl) rfl
theorem kw1_15 : Cond.initialized RJ6 ∈ lw_all := lw_in1 (List.mem_of_getElem? (i := 15) rfl) rfl
theorem kw1_16 : Cond.initialized RJ0 ∈ lw_all := lw_in1 (List.mem_of_getElem? (i := 16) rfl) rfl
theorem kw1_17 : Cond.initialized RJ1 ∈ lw_all := lw_in1 (List.mem_of_getElem? (i := 17) rfl) rfl
theorem kw1_18 : Cond.initialized RJ2 ∈ lw_all := lw_in1 (List.mem_of_getElem? (i := 18) rfl) rfl
theorem kw1_19 : Cond.initialized RJ3 ∈ lw_all := lw_in1 (List.mem_of_getElem? (i := 19) rfl) rfl
theorem kw1_20 : Cond.initialized RJ11 ∈ lw_all := lw_in1 (List.mem_of_getElem? (i := 20) rfl) rfl
theorem kw1_21 : Cond.initialized "java/lang/IndexOutOfBoundsException" ∈ lw_all := lw_in1 (List.mem_of_getElem? (i := 21) rfl) rfl
theorem kw1_22 : Cond.initialized RJ13 ∈ lw_all := lw_in1 (List.mem_of_getElem? (i := 22) rfl) rfl
theorem kw1_23 : Cond.classLink RL 8 RX6 ∈ lw_all := lw_in1 (List.mem_of_getElem? (i := 23) rfl) rfl
theorem kw1_24 : Cond.instantiable RX6 10 ∈ lw_all := lw_in1 (List.mem_of_getElem? (i := 24) rfl) rfl
theorem kw1_25 : Cond.methodLink RL 72 yX6_init ∈ lw_all := lw_in1 (List.mem_of_getElem? (i := 25) rfl) rfl
theorem kw1_26 : Cond.instanceMethod yX6_init ∈ lw_all := lw_in1 (List.mem_of_getElem? (i := 26) rfl) rfl
theorem kw1_27 : Cond.code yX6_init cX6_init 1 (Option.none : Option Jvm.ClassFile.FieldType) ∈ lw_all := lw_in1 (List.mem_of_getElem? (i := 27) rfl) rfl
theorem kw1_28 : Cond.methodLink RX6 1 (⟨"java/lang/Object", "<init>", "()V"⟩ : MethodName) ∈ lw_all := lw_in1 (List.mem_of_getElem? (i := 28) rfl) rfl
theorem kw1_29 : Cond.instanceMethod (⟨"java/lang/Object", "<init>", "()V"⟩ : MethodName) ∈ lw_all := lw_in1 (List.mem_of_getElem? (i := 29) rfl) rfl
theorem kw1_30 : Cond.code (⟨"java/lang/Object", "<init>", "()V"⟩ : MethodName) object_method_1_code 1 (Option.none : Option Jvm.ClassFile.FieldType) ∈ lw_all := lw_in1 (List.mem_of_getElem? (i := 30) rfl) rfl
theorem kw1_31 : Cond.classLink RX6 7 RX5 ∈ lw_all := lw_in1 (List.mem_of_getElem? (i := 31) rfl) rfl
theorem kw1_32 : Cond.instantiable RX5 8 ∈ lw_all := lw_in1 (List.mem_of_getElem? (i := 32) rfl) rfl
theorem kw1_34 : Cond.instanceMethod yX5_init ∈ lw_all := lw_in1 (List.mem_of_getElem? (i := 34) rfl) rfl
theorem kw1_35 : Cond.code yX5_init cX5_init 1 (Option.none : Option Jvm.ClassFile.FieldType) ∈ lw_all := lw_in1 (List.mem_of_getElem? (i := 35) rfl) rfl
theorem kw1_36 : Cond.methodLink RX5 3 (⟨"java/lang/Object", "<init>", "()V"⟩ : MethodName) ∈ lw_all := lw_in1 (List.mem_of_getElem? (i := 36) rfl) rfl
theorem kw1_37 : Cond.classLink RX5 9 RX3 ∈ lw_all := lw_in1 (List.mem_of_getElem? (i := 37) rfl) rfl
theorem kw1_38 : Cond.instantiable RX3 2 ∈ lw_all := lw_in1 (List.mem_of_getElem? (i := 38) rfl) rfl
theorem kw1_39 : Cond.methodLink RX5 11 yX3_init ∈ lw_all := lw_in1 (List.mem_of_getElem? (i := 39) rfl) rfl
theorem kw1_40 : Cond.instanceMethod yX3_init ∈ lw_all := lw_in1 (List.mem_of_getElem? (i := 40) rfl) rfl
theorem kw1_41 : Cond.code yX3_init cX3_init 2 (Option.none : Option Jvm.ClassFile.FieldType) ∈ lw_all := lw_in1 (List.mem_of_getElem? (i := 41) rfl) rfl
theorem kw1_42 : Cond.methodLink RX3 3 (⟨"java/lang/Object", "<init>", "()V"⟩ : MethodName) ∈ lw_all := lw_in1 (List.mem_of_getElem? (i := 42) rfl) rfl
theorem kw1_43 : Cond.methodLink RX3 9 yJ9_max_7cf53 ∈ lw_all := lw_in1 (List.mem_of_getElem? (i := 43) rfl) rfl
theorem kw1_44 : Cond.static yJ9_max_7cf53 ∈ lw_all := lw_in1 (List.mem_of_getElem? (i := 44) rfl) rfl
theorem kw1_45 : Cond.code yJ9_max_7cf53 Lib.Math.max.code 2 (some .int) ∈ lw_all := lw_in1 (List.mem_of_getElem? (i := 45) rfl) rfl
theorem kw1_46 : Cond.fieldLink RX3 15 "StenoChords$Row" "cells" "[I" ∈ lw_all := lw_in1 (List.mem_of_getElem? (i := 46) rfl) rfl
theorem kw1_47 : Cond.fieldLink RX3 21 "StenoChords$Row" "length" "I" ∈ lw_all := lw_in1 (List.mem_of_getElem? (i := 47) rfl) rfl
theorem kw1_48 : Cond.laysFinal RX3 "StenoChords$Row" "cells" "[I" ∈ lw_all := lw_in1 (List.mem_of_getElem? (i := 48) rfl) rfl
theorem kw1_50 : Cond.lays RX3 "StenoChords$Row" "length" "I" ∈ lw_all := lw_in1 (List.mem_of_getElem? (i := 50) rfl) rfl
theorem kw1_53 : Cond.arrayClass .int ∈ lw_all := lw_in1 (List.mem_of_getElem? (i := 53) rfl) rfl
theorem kw1_54 : Cond.classLink RX5 20 RX0 ∈ lw_all := lw_in1 (List.mem_of_getElem? (i := 54) rfl) rfl
theorem kw1_55 : Cond.instantiable RX0 4 ∈ lw_all := lw_in1 (List.mem_of_getElem? (i := 55) rfl) rfl
theorem kw1_57 : Cond.instanceMethod yX0_init ∈ lw_all := lw_in1 (List.mem_of_getElem? (i := 57) rfl) rfl
theorem kw1_58 : Cond.code yX0_init cX0_init 1 (Option.none : Option Jvm.ClassFile.FieldType) ∈ lw_all := lw_in1 (List.mem_of_getElem? (i := 58) rfl) rfl
theorem kw1_59 : Cond.methodLink RX0 3 (⟨"java/lang/Object", "<init>", "()V"⟩ : MethodName) ∈ lw_all := lw_in1 (List.mem_of_getElem? (i := 59) rfl) rfl
theorem kw1_60 : Cond.fieldLink RX0 9 "StenoChords$Entries" "rows" "[J" ∈ lw_all := lw_in1 (List.mem_of_getElem? (i := 60) rfl) rfl
theorem kw1_61 : Cond.fieldLink RX0 15 "StenoChords$Entries" "words" "[I" ∈ lw_all := lw_in1 (List.mem_of_getElem? (i := 61) rfl) rfl
theorem kw1_62 : Cond.fieldLink RX0 19 "StenoChords$Entries" "picks" "[I" ∈ lw_all := lw_in1 (List.mem_of_getElem? (i := 62) rfl) rfl
theorem kw1_63 : Cond.fieldLink RX0 22 "StenoChords$Entries" "size" "I" ∈ lw_all := lw_in1 (List.mem_of_getElem? (i := 63) rfl) rfl
theorem kw1_64 : Cond.laysFinal RX0 "StenoChords$Entries" "rows" "[J" ∈ lw_all := lw_in1 (List.mem_of_getElem? (i := 64) rfl) rfl
theorem kw1_66 : Cond.laysFinal RX0 "StenoChords$Entries" "words" "[I" ∈ lw_all := lw_in1 (List.mem_of_getElem? (i := 66) rfl) rfl
theorem kw1_68 : Cond.laysFinal RX0 "StenoChords$Entries" "picks" "[I" ∈ lw_all := lw_in1 (List.mem_of_getElem? (i := 68) rfl) rfl
theorem kw1_70 : Cond.lays RX0 "StenoChords$Entries" "size" "I" ∈ lw_all := lw_in1 (List.mem_of_getElem? (i := 70) rfl) rfl
theorem kw1_73 : Cond.arrayClass .long ∈ lw_all := lw_in1 (List.mem_of_getElem? (i := 73) rfl) rfl
theorem kw1_74 : Cond.fieldLink RX5 14 "StenoChords$State" "paper" "LStenoChords$Row;" ∈ lw_all := lw_in1 (List.mem_of_getElem? (i := 74) rfl) rfl
theorem kw1_75 : Cond.fieldLink RX6 104 "StenoChords$State" "paper" "LStenoChords$Row;" ∈ lw_all := lw_in1 (List.mem_of_getElem? (i := 75) rfl) rfl
theorem kw1_76 : Cond.fieldLink RX5 23 "StenoChords$State" "entries" "LStenoChords$Entries;" ∈ lw_all := lw_in1 (List.mem_of_getElem? (i := 76) rfl) rfl
theorem kw1_77 : Cond.fieldLink RX6 113 "StenoChords$State" "entries" "LStenoChords$Entries;" ∈ lw_all := lw_in1 (List.mem_of_getElem? (i := 77) rfl) rfl
theorem kw1_78 : Cond.fieldLink RX2 44 "StenoChords$State" "entries" "LStenoChords$Entries;" ∈ lw_all := lw_in1 (List.mem_of_getElem? (i := 78) rfl) rfl
theorem kw1_79 : Cond.fieldLink RX5 38 "StenoChords$State" "eatsItems" "I" ∈ lw_all := lw_in1 (List.mem_of_getElem? (i := 79) rfl) rfl
theorem kw1_80 : Cond.fieldLink RX6 182 "StenoChords$State" "eatsItems" "I" ∈ lw_all := lw_in1 (List.mem_of_getElem? (i := 80) rfl) rfl
theorem kw1_81 : Cond.fieldLink RX5 27 "StenoChords$State" "longestRead" "I" ∈ lw_all := lw_in1 (List.mem_of_getElem? (i := 81) rfl) rfl
theorem kw1_82 : Cond.fieldLink RX6 186 "StenoChords$State" "longestRead" "I" ∈ lw_all := lw_in1 (List.mem_of_getElem? (i := 82) rfl) rfl
theorem kw1_83 : Cond.fieldLink RX2 50 "StenoChords$State" "longestRead" "I" ∈ lw_all := lw_in1 (List.mem_of_getElem? (i := 83) rfl) rfl
theorem kw1_84 : Cond.fieldLink RX5 41 "StenoChords$State" "struck" "I" ∈ lw_all := lw_in1 (List.mem_of_getElem? (i := 84) rfl) rfl
theorem kw1_85 : Cond.fieldLink RX6 277 "StenoChords$State" "struck" "I" ∈ lw_all := lw_in1 (List.mem_of_getElem? (i := 85) rfl) rfl
theorem kw1_86 : Cond.fieldLink RX5 44 "StenoChords$State" "eaten" "I" ∈ lw_all := lw_in1 (List.mem_of_getElem? (i := 86) rfl) rfl
theorem kw1_87 : Cond.fieldLink RX6 333 "StenoChords$State" "eaten" "I" ∈ lw_all := lw_in1 (List.mem_of_getElem? (i := 87) rfl) rfl
theorem kw1_88 : Cond.fieldLink RX5 47 "StenoChords$State" "asterisks" "I" ∈ lw_all := lw_in1 (List.mem_of_getElem? (i := 88) rfl) rfl
theorem kw1_89 : Cond.fieldLink RX6 336 "StenoChords$State" "asterisks" "I" ∈ lw_all := lw_in1 (List.mem_of_getElem? (i := 89) rfl) rfl
theorem kw1_90 : Cond.fieldLink RX5 50 "StenoChords$State" "keys" "I" ∈ lw_all := lw_in1 (List.mem_of_getElem? (i := 90) rfl) rfl
theorem kw1_91 : Cond.fieldLink RX6 280 "StenoChords$State" "keys" "I" ∈ lw_all := lw_in1 (List.mem_of_getElem? (i := 91) rfl) rfl
theorem kw1_92 : Cond.laysFinal RX5 "StenoChords$State" "paper" "LStenoChords$Row;" ∈ lw_all := lw_in1 (List.mem_of_getElem? (i := 92) rfl) rfl
theorem kw1_94 : Cond.laysFinal RX5 "StenoChords$State" "entries" "LStenoChords$Entries;" ∈ lw_all := lw_in1 (List.mem_of_getElem? (i := 94) rfl) rfl
theorem kw1_96 : Cond.lays RX5 "StenoChords$State" "eatsItems" "I" ∈ lw_all := lw_in1 (List.mem_of_getElem? (i := 96) rfl) rfl
theorem kw1_98 : Cond.lays RX5 "StenoChords$State" "longestRead" "I" ∈ lw_all := lw_in1 (List.mem_of_getElem? (i := 98) rfl) rfl
theorem kw1_100 : Cond.lays RX5 "StenoChords$State" "struck" "I" ∈ lw_all := lw_in1 (List.mem_of_getElem? (i := 100) rfl) rfl
theorem kw1_102 : Cond.lays RX5 "StenoChords$State" "eaten" "I" ∈ lw_all := lw_in1 (List.mem_of_getElem? (i := 102) rfl) rfl
theorem kw1_104 : Cond.lays RX5 "StenoChords$State" "asterisks" "I" ∈ lw_all := lw_in1 (List.mem_of_getElem? (i := 104) rfl) rfl
theorem kw1_106 : Cond.lays RX5 "StenoChords$State" "keys" "I" ∈ lw_all := lw_in1 (List.mem_of_getElem? (i := 106) rfl) rfl
theorem kw1_109 : Cond.classLink RX6 19 RX4 ∈ lw_all := lw_in1 (List.mem_of_getElem? (i := 109) rfl) rfl
theorem kw1_110 : Cond.instantiable RX4 3 ∈ lw_all := lw_in1 (List.mem_of_getElem? (i := 110) rfl) rfl
theorem kw1_111 : Cond.methodLink RX6 21 yX4_init ∈ lw_all := lw_in1 (List.mem_of_getElem? (i := 111) rfl) rfl
theorem kw1_112 : Cond.instanceMethod yX4_init ∈ lw_all := lw_in1 (List.mem_of_getElem? (i := 112) rfl) rfl
theorem kw1_113 : Cond.code yX4_init cX4_init 2 (Option.none : Option Jvm.ClassFile.FieldType) ∈ lw_all := lw_in1 (List.mem_of_getElem? (i := 113) rfl) rfl
theorem kw1_114 : Cond.methodLink RX4 3 (⟨"java/lang/Object", "<init>", "()V"⟩ : MethodName) ∈ lw_all := lw_in1 (List.mem_of_getElem? (i := 114) rfl) rfl
theorem kw1_115 : Cond.classLink RX4 9 RX5 ∈ lw_all := lw_in1 (List.mem_of_getElem? (i := 115) rfl) rfl
theorem kw1_118 : Cond.fieldLink RX4 11 "StenoChords$SavedStates" "ring" "[LStenoChords$State;" ∈ lw_all := lw_in1 (List.mem_of_getElem? (i := 118) rfl) rfl
theorem kw1_119 : Cond.fieldLink RX4 30 "StenoChords$SavedStates" "oldest" "I" ∈ lw_all := lw_in1 (List.mem_of_getElem? (i := 119) rfl) rfl
theorem kw1_120 : Cond.fieldLink RX4 18 "StenoChords$SavedStates" "size" "I" ∈ lw_all := lw_in1 (List.mem_of_getElem? (i := 120) rfl) rfl
theorem kw1_121 : Cond.laysFinal RX4 "StenoChords$SavedStates" "ring" "[LStenoChords$State;" ∈ lw_all := lw_in1 (List.mem_of_getElem? (i := 121) rfl) rfl
theorem kw1_123 : Cond.lays RX4 "StenoChords$SavedStates" "oldest" "I" ∈ lw_all := lw_in1 (List.mem_of_getElem? (i := 123) rfl) rfl
theorem kw1_125 : Cond.lays RX4 "StenoChords$SavedStates" "size" "I" ∈ lw_all := lw_in1 (List.mem_of_getElem? (i := 125) rfl) rfl
theorem kw1_128 : Cond.classLink RX6 26 RX1 ∈ lw_all := lw_in1 (List.mem_of_getElem? (i := 128) rfl) rfl
theorem kw1_129 : Cond.instantiable RX1 1 ∈ lw_all := lw_in1 (List.mem_of_getElem? (i := 129) rfl) rfl
theorem kw1_131 : Cond.instanceMethod yX1_init ∈ lw_all := lw_in1 (List.mem_of_getElem? (i := 131) rfl) rfl
theorem kw1_132 : Cond.code yX1_init cX1_init 1 (Option.none : Option Jvm.ClassFile.FieldType) ∈ lw_all := lw_in1 (List.mem_of_getElem? (i := 132) rfl) rfl
theorem kw1_133 : Cond.methodLink RX1 3 (⟨"java/lang/Object", "<init>", "()V"⟩ : MethodName) ∈ lw_all := lw_in1 (List.mem_of_getElem? (i := 133) rfl) rfl
theorem kw1_134 : Cond.classLink RX1 9 RX3 ∈ lw_all := lw_in1 (List.mem_of_getElem? (i := 134) rfl) rfl
theorem kw1_135 : Cond.methodLink RX1 11 yX3_init ∈ lw_all := lw_in1 (List.mem_of_getElem? (i := 135) rfl) rfl
theorem kw1_136 : Cond.fieldLink RX1 14 "StenoChords$InputText" "codes" "LStenoChords$Row;" ∈ lw_all := lw_in1 (List.mem_of_getElem? (i := 136) rfl) rfl
theorem kw1_137 : Cond.laysFinal RX1 "StenoChords$InputText" "codes" "LStenoChords$Row;" ∈ lw_all := lw_in1 (List.mem_of_getElem? (i := 137) rfl) rfl
theorem kw1_140 : Cond.classLink RX6 33 RX2 ∈ lw_all := lw_in1 (List.mem_of_getElem? (i := 140) rfl) rfl
theorem kw1_141 : Cond.instantiable RX2 3 ∈ lw_all := lw_in1 (List.mem_of_getElem? (i := 141) rfl) rfl
theorem kw1_143 : Cond.instanceMethod yX2_init ∈ lw_all := lw_in1 (List.mem_of_getElem? (i := 143) rfl) rfl
theorem kw1_144 : Cond.code yX2_init cX2_init 1 (Option.none : Option Jvm.ClassFile.FieldType) ∈ lw_all := lw_in1 (List.mem_of_getElem? (i := 144) rfl) rfl
theorem kw1_145 : Cond.methodLink RX2 3 (⟨"java/lang/Object", "<init>", "()V"⟩ : MethodName) ∈ lw_all := lw_in1 (List.mem_of_getElem? (i := 145) rfl) rfl
theorem kw1_146 : Cond.classLink RX2 9 RX3 ∈ lw_all := lw_in1 (List.mem_of_getElem? (i := 146) rfl) rfl
theorem kw1_147 : Cond.methodLink RX2 11 yX3_init ∈ lw_all := lw_in1 (List.mem_of_getElem? (i := 147) rfl) rfl
theorem kw1_148 : Cond.fieldLink RX2 14 "StenoChords$Reading" "places" "LStenoChords$Row;" ∈ lw_all := lw_in1 (List.mem_of_getElem? (i := 148) rfl) rfl
theorem kw1_149 : Cond.fieldLink RX2 20 "StenoChords$Reading" "lengths" "LStenoChords$Row;" ∈ lw_all := lw_in1 (List.mem_of_getElem? (i := 149) rfl) rfl
theorem kw1_150 : Cond.fieldLink RX2 23 "StenoChords$Reading" "leaders" "LStenoChords$Row;" ∈ lw_all := lw_in1 (List.mem_of_getElem? (i := 150) rfl) rfl
theorem kw1_151 : Cond.laysFinal RX2 "StenoChords$Reading" "places" "LStenoChords$Row;" ∈ lw_all := lw_in1 (List.mem_of_getElem? (i := 151) rfl) rfl
theorem kw1_153 : Cond.laysFinal RX2 "StenoChords$Reading" "lengths" "LStenoChords$Row;" ∈ lw_all := lw_in1 (List.mem_of_getElem? (i := 153) rfl) rfl
theorem kw1_155 : Cond.laysFinal RX2 "StenoChords$Reading" "leaders" "LStenoChords$Row;" ∈ lw_all := lw_in1 (List.mem_of_getElem? (i := 155) rfl) rfl
theorem kw1_158 : Cond.classLink RX6 40 RX3 ∈ lw_all := lw_in1 (List.mem_of_getElem? (i := 158) rfl) rfl
theorem kw1_159 : Cond.methodLink RX6 42 yX3_init ∈ lw_all := lw_in1 (List.mem_of_getElem? (i := 159) rfl) rfl
theorem kw1_160 : Cond.fieldLink RX6 10 "StenoChords" "now" "LStenoChords$State;" ∈ lw_all := lw_in1 (List.mem_of_getElem? (i := 160) rfl) rfl
theorem kw1_161 : Cond.fieldLink RX6 16 "StenoChords" "snapshot" "LStenoChords$State;" ∈ lw_all := lw_in1 (List.mem_of_getElem? (i := 161) rfl) rfl
theorem kw1_162 : Cond.fieldLink RX6 22 "StenoChords" "saved" "LStenoChords$SavedStates;" ∈ lw_all := lw_in1 (List.mem_of_getElem? (i := 162) rfl) rfl
theorem kw1_163 : Cond.fieldLink RX6 29 "StenoChords" "buffer" "LStenoChords$InputText;" ∈ lw_all := lw_in1 (List.mem_of_getElem? (i := 163) rfl) rfl
theorem kw1_164 : Cond.fieldLink RX6 36 "StenoChords" "reading" "LStenoChords$Reading;" ∈ lw_all := lw_in1 (List.mem_of_getElem? (i := 164) rfl) rfl
theorem kw1_165 : Cond.fieldLink RX6 45 "StenoChords" "otherPaper" "LStenoChords$Row;" ∈ lw_all := lw_in1 (List.mem_of_getElem? (i := 165) rfl) rfl
theorem kw1_166 : Cond.fieldLink RX6 49 "StenoChords" "otherReading" "LStenoChords$Reading;" ∈ lw_all := lw_in1 (List.mem_of_getElem? (i := 166) rfl) rfl
theorem kw1_167 : Cond.fieldLink RX6 52 "StenoChords" "told" "LStenoChords$Row;" ∈ lw_all := lw_in1 (List.mem_of_getElem? (i := 167) rfl) rfl
theorem kw1_168 : Cond.fieldLink RX6 55 "StenoChords" "fewest" "LStenoChords$Row;" ∈ lw_all := lw_in1 (List.mem_of_getElem? (i := 168) rfl) rfl
theorem kw1_169 : Cond.fieldLink RX6 203 "StenoChords" "snapshotTaken" "Z" ∈ lw_all := lw_in1 (List.mem_of_getElem? (i := 169) rfl) rfl
theorem kw1_170 : Cond.laysFinal RX6 "StenoChords" "now" "LStenoChords$State;" ∈ lw_all := lw_in1 (List.mem_of_getElem? (i := 170) rfl) rfl
theorem kw1_172 : Cond.laysFinal RX6 "StenoChords" "snapshot" "LStenoChords$State;" ∈ lw_all := lw_in1 (List.mem_of_getElem? (i := 172) rfl) rfl
theorem kw1_174 : Cond.laysFinal RX6 "StenoChords" "saved" "LStenoChords$SavedStates;" ∈ lw_all := lw_in1 (List.mem_of_getElem? (i := 174) rfl) rfl
theorem kw1_176 : Cond.laysFinal RX6 "StenoChords" "buffer" "LStenoChords$InputText;" ∈ lw_all := lw_in1 (List.mem_of_getElem? (i := 176) rfl) rfl
theorem kw1_178 : Cond.laysFinal RX6 "StenoChords" "reading" "LStenoChords$Reading;" ∈ lw_all := lw_in1 (List.mem_of_getElem? (i := 178) rfl) rfl
theorem kw1_180 : Cond.laysFinal RX6 "StenoChords" "otherPaper" "LStenoChords$Row;" ∈ lw_all := lw_in1 (List.mem_of_getElem? (i := 180) rfl) rfl
theorem kw1_182 : Cond.laysFinal RX6 "StenoChords" "otherReading" "LStenoChords$Reading;" ∈ lw_all := lw_in1 (List.mem_of_getElem? (i := 182) rfl) rfl
theorem kw1_184 : Cond.laysFinal RX6 "StenoChords" "told" "LStenoChords$Row;" ∈ lw_all := lw_in1 (List.mem_of_getElem? (i := 184) rfl) rfl
theorem kw1_186 : Cond.laysFinal RX6 "StenoChords" "fewest" "LStenoChords$Row;" ∈ lw_all := lw_in1 (List.mem_of_getElem? (i := 186) rfl) rfl
theorem kw1_188 : Cond.lays RX6 "StenoChords" "snapshotTaken" "Z" ∈ lw_all := lw_in1 (List.mem_of_getElem? (i := 188) rfl) rfl
theorem kw1_191 : Cond.methodLink RL 89 yX6_tear ∈ lw_all := lw_in1 (List.mem_of_getElem? (i := 191) rfl) rfl
theorem kw1_192 : Cond.instanceMethod yX6_tear ∈ lw_all := lw_in1 (List.mem_of_getElem? (i := 192) rfl) rfl
theorem kw1_193 : Cond.selects RX6 yX6_tear yX6_tear ∈ lw_all := lw_in1 (List.mem_of_getElem? (i := 193) rfl) rfl
theorem kw1_194 : Cond.code yX6_tear cX6_tear 2 (some .int) ∈ lw_all := lw_in1 (List.mem_of_getElem? (i := 194) rfl) rfl
theorem kw1_195 : Cond.methodLink RX6 74 yX4_push ∈ lw_all := lw_in1 (List.mem_of_getElem? (i := 195) rfl) rfl
theorem kw1_196 : Cond.instanceMethod yX4_push ∈ lw_all := lw_in1 (List.mem_of_getElem? (i := 196) rfl) rfl
theorem kw1_197 : Cond.selects RX4 yX4_push yX4_push ∈ lw_all := lw_in1 (List.mem_of_getElem? (i := 197) rfl) rfl
theorem kw1_198 : Cond.code yX4_push cX4_push 3 (Option.none : Option Jvm.ClassFile.FieldType) ∈ lw_all := lw_in1 (List.mem_of_getElem? (i := 198) rfl) rfl
theorem kw1_199 : Cond.methodLink RX4 22 yX4_slotBehindOldest ∈ lw_all := lw_in1 (List.mem_of_getElem? (i := 199) rfl) rfl
theorem kw1_201 : Cond.instanceMethod yX4_slotBehindOldest ∈ lw_all := lw_in1 (List.mem_of_getElem? (i := 201) rfl) rfl
theorem kw1_202 : Cond.code yX4_slotBehindOldest cX4_slotBehindOldest 3 (some (.object "StenoChords$State")) ∈ lw_all := lw_in1 (List.mem_of_getElem? (i := 202) rfl) rfl
theorem kw1_203 : Cond.methodLink RX4 33 yJ9_floorMod_7cf53 ∈ lw_all := lw_in1 (List.mem_of_getElem? (i := 203) rfl) rfl
theorem kw1_204 : Cond.static yJ9_floorMod_7cf53 ∈ lw_all := lw_in1 (List.mem_of_getElem? (i := 204) rfl) rfl
theorem kw1_205 : Cond.code yJ9_floorMod_7cf53 cJ9_floorMod_7cf53 3 (some .int) ∈ lw_all := lw_in1 (List.mem_of_getElem? (i := 205) rfl) rfl
theorem kw1_206 : Cond.methodLink RX4 26 yX5_become ∈ lw_all := lw_in1 (List.mem_of_getElem? (i := 206) rfl) rfl
theorem kw1_207 : Cond.instanceMethod yX5_become ∈ lw_all := lw_in1 (List.mem_of_getElem? (i := 207) rfl) rfl
theorem kw1_208 : Cond.selects RX5 yX5_become yX5_become ∈ lw_all := lw_in1 (List.mem_of_getElem? (i := 208) rfl) rfl
theorem kw1_209 : Cond.code yX5_become cX5_become 2 (Option.none : Option Jvm.ClassFile.FieldType) ∈ lw_all := lw_in1 (List.mem_of_getElem? (i := 209) rfl) rfl
theorem kw1_210 : Cond.methodLink RX5 31 yX3_become ∈ lw_all := lw_in1 (List.mem_of_getElem? (i := 210) rfl) rfl
theorem kw1_211 : Cond.instanceMethod yX3_become ∈ lw_all := lw_in1 (List.mem_of_getElem? (i := 211) rfl) rfl
theorem kw1_212 : Cond.selects RX3 yX3_become yX3_become ∈ lw_all := lw_in1 (List.mem_of_getElem? (i := 212) rfl) rfl
theorem kw1_213 : Cond.code yX3_become cX3_become 3 (Option.none : Option Jvm.ClassFile.FieldType) ∈ lw_all := lw_in1 (List.mem_of_getElem? (i := 213) rfl) rfl
theorem kw1_214 : Cond.methodLink RX3 29 yX3_at ∈ lw_all := lw_in1 (List.mem_of_getElem? (i := 214) rfl) rfl
theorem kw1_215 : Cond.instanceMethod yX3_at ∈ lw_all := lw_in1 (List.mem_of_getElem? (i := 215) rfl) rfl
theorem kw1_216 : Cond.selects RX3 yX3_at yX3_at ∈ lw_all := lw_in1 (List.mem_of_getElem? (i := 216) rfl) rfl
theorem kw1_217 : Cond.code yX3_at cX3_at 2 (some .int) ∈ lw_all := lw_in1 (List.mem_of_getElem? (i := 217) rfl) rfl
theorem kw1_218 : Cond.methodLink RX3 25 yX3_has ∈ lw_all := lw_in1 (List.mem_of_getElem? (i := 218) rfl) rfl
theorem kw1_219 : Cond.instanceMethod yX3_has ∈ lw_all := lw_in1 (List.mem_of_getElem? (i := 219) rfl) rfl
theorem kw1_220 : Cond.selects RX3 yX3_has yX3_has ∈ lw_all := lw_in1 (List.mem_of_getElem? (i := 220) rfl) rfl
theorem kw1_221 : Cond.code yX3_has cX3_has 2 (some .boolean) ∈ lw_all := lw_in1 (List.mem_of_getElem? (i := 221) rfl) rfl
theorem kw1_222 : Cond.methodLink RX3 33 yX3_put ∈ lw_all := lw_in1 (List.mem_of_getElem? (i := 222) rfl) rfl
theorem kw1_223 : Cond.instanceMethod yX3_put ∈ lw_all := lw_in1 (List.mem_of_getElem? (i := 223) rfl) rfl
theorem kw1_224 : Cond.selects RX3 yX3_put yX3_put ∈ lw_all := lw_in1 (List.mem_of_getElem? (i := 224) rfl) rfl
theorem kw1_225 : Cond.code yX3_put cX3_put 2 (Option.none : Option Jvm.ClassFile.FieldType) ∈ lw_all := lw_in1 (List.mem_of_getElem? (i := 225) rfl) rfl
theorem kw1_226 : Cond.methodLink RX5 35 yX0_become ∈ lw_all := lw_in1 (List.mem_of_getElem? (i := 226) rfl) rfl
theorem kw1_227 : Cond.instanceMethod yX0_become ∈ lw_all := lw_in1 (List.mem_of_getElem? (i := 227) rfl) rfl
theorem kw1_228 : Cond.selects RX0 yX0_become yX0_become ∈ lw_all := lw_in1 (List.mem_of_getElem? (i := 228) rfl) rfl
theorem kw1_229 : Cond.code yX0_become cX0_become 3 (Option.none : Option Jvm.ClassFile.FieldType) ∈ lw_all := lw_in1 (List.mem_of_getElem? (i := 229) rfl) rfl
theorem kw1_230 : Cond.methodLink RX0 30 yX0_rowOf ∈ lw_all := lw_in1 (List.mem_of_getElem? (i := 230) rfl) rfl
theorem kw1_231 : Cond.instanceMethod yX0_rowOf ∈ lw_all := lw_in1 (List.mem_of_getElem? (i := 231) rfl) rfl
theorem kw1_232 : Cond.selects RX0 yX0_rowOf yX0_rowOf ∈ lw_all := lw_in1 (List.mem_of_getElem? (i := 232) rfl) rfl
theorem kw1_233 : Cond.code yX0_rowOf cX0_rowOf 2 (some .long) ∈ lw_all := lw_in1 (List.mem_of_getElem? (i := 233) rfl) rfl
theorem kw1_234 : Cond.methodLink RX0 26 yX0_has ∈ lw_all := lw_in1 (List.mem_of_getElem? (i := 234) rfl) rfl
theorem kw1_235 : Cond.instanceMethod yX0_has ∈ lw_all := lw_in1 (List.mem_of_getElem? (i := 235) rfl) rfl
theorem kw1_236 : Cond.selects RX0 yX0_has yX0_has ∈ lw_all := lw_in1 (List.mem_of_getElem? (i := 236) rfl) rfl
theorem kw1_237 : Cond.code yX0_has cX0_has 2 (some .boolean) ∈ lw_all := lw_in1 (List.mem_of_getElem? (i := 237) rfl) rfl
theorem kw1_238 : Cond.methodLink RX0 34 yX0_wordOf ∈ lw_all := lw_in1 (List.mem_of_getElem? (i := 238) rfl) rfl
theorem kw1_239 : Cond.instanceMethod yX0_wordOf ∈ lw_all := lw_in1 (List.mem_of_getElem? (i := 239) rfl) rfl
theorem kw2_0 : Cond.selects RX0 yX0_wordOf yX0_wordOf ∈ lw_all := lw_in2 (List.mem_of_getElem? (i := 0) rfl) rfl
theorem kw2_1 : Cond.code yX0_wordOf cX0_wordOf 2 (some .int) ∈ lw_all := lw_in2 (List.mem_of_getElem? (i := 1) rfl) rfl
theorem kw2_2 : Cond.methodLink RX0 62 yX0_picksOf ∈ lw_all := lw_in2 (List.mem_of_getElem? (i := 2) rfl) rfl
theorem kw2_3 : Cond.instanceMethod yX0_picksOf ∈ lw_all := lw_in2 (List.mem_of_getElem? (i := 3) rfl) rfl
theorem kw2_4 : Cond.selects RX0 yX0_picksOf yX0_picksOf ∈ lw_all := lw_in2 (List.mem_of_getElem? (i := 4) rfl) rfl
theorem kw2_5 : Cond.code yX0_picksOf cX0_picksOf 2 (some .int) ∈ lw_all := lw_in2 (List.mem_of_getElem? (i := 5) rfl) rfl
theorem kw2_6 : Cond.methodLink RX0 58 yX0_put_ ∈ lw_all := lw_in2 (List.mem_of_getElem? (i := 6) rfl) rfl
theorem kw2_8 : Cond.instanceMethod yX0_put_ ∈ lw_all := lw_in2 (List.mem_of_getElem? (i := 8) rfl) rfl
theorem kw2_9 : Cond.code yX0_put_ cX0_put_ 5 (Option.none : Option Jvm.ClassFile.FieldType) ∈ lw_all := lw_in2 (List.mem_of_getElem? (i := 9) rfl) rfl
theorem kw2_10 : Cond.methodLink RX6 94 yX3_length ∈ lw_all := lw_in2 (List.mem_of_getElem? (i := 10) rfl) rfl
theorem kw2_11 : Cond.instanceMethod yX3_length ∈ lw_all := lw_in2 (List.mem_of_getElem? (i := 11) rfl) rfl
theorem kw2_12 : Cond.selects RX3 yX3_length yX3_length ∈ lw_all := lw_in2 (List.mem_of_getElem? (i := 12) rfl) rfl
theorem kw2_13 : Cond.code yX3_length cX3_length 1 (some .int) ∈ lw_all := lw_in2 (List.mem_of_getElem? (i := 13) rfl) rfl
theorem kw2_14 : Cond.methodLink RX6 107 yX3_shorten ∈ lw_all := lw_in2 (List.mem_of_getElem? (i := 14) rfl) rfl
theorem kw2_15 : Cond.instanceMethod yX3_shorten ∈ lw_all := lw_in2 (List.mem_of_getElem? (i := 15) rfl) rfl
theorem kw2_16 : Cond.selects RX3 yX3_shorten yX3_shorten ∈ lw_all := lw_in2 (List.mem_of_getElem? (i := 16) rfl) rfl
theorem kw2_17 : Cond.code yX3_shorten cX3_shorten 2 (Option.none : Option Jvm.ClassFile.FieldType) ∈ lw_all := lw_in2 (List.mem_of_getElem? (i := 17) rfl) rfl
theorem kw2_18 : Cond.methodLink RL 109 yX6_clearBuffer ∈ lw_all := lw_in2 (List.mem_of_getElem? (i := 18) rfl) rfl
theorem kw2_19 : Cond.instanceMethod yX6_clearBuffer ∈ lw_all := lw_in2 (List.mem_of_getElem? (i := 19) rfl) rfl
theorem kw2_20 : Cond.selects RX6 yX6_clearBuffer yX6_clearBuffer ∈ lw_all := lw_in2 (List.mem_of_getElem? (i := 20) rfl) rfl
theorem kw2_21 : Cond.code yX6_clearBuffer cX6_clearBuffer 2 (some .int) ∈ lw_all := lw_in2 (List.mem_of_getElem? (i := 21) rfl) rfl
theorem kw2_22 : Cond.methodLink RX6 196 yX1_length ∈ lw_all := lw_in2 (List.mem_of_getElem? (i := 22) rfl) rfl
theorem kw2_23 : Cond.instanceMethod yX1_length ∈ lw_all := lw_in2 (List.mem_of_getElem? (i := 23) rfl) rfl
theorem kw2_24 : Cond.selects RX1 yX1_length yX1_length ∈ lw_all := lw_in2 (List.mem_of_getElem? (i := 24) rfl) rfl
theorem kw2_25 : Cond.code yX1_length cX1_length 1 (some .int) ∈ lw_all := lw_in2 (List.mem_of_getElem? (i := 25) rfl) rfl
theorem kw2_26 : Cond.methodLink RX1 20 yX3_length ∈ lw_all := lw_in2 (List.mem_of_getElem? (i := 26) rfl) rfl
theorem kw2_27 : Cond.methodLink RX6 101 yX1_wipe ∈ lw_all := lw_in2 (List.mem_of_getElem? (i := 27) rfl) rfl
theorem kw2_28 : Cond.instanceMethod yX1_wipe ∈ lw_all := lw_in2 (List.mem_of_getElem? (i := 28) rfl) rfl
theorem kw2_29 : Cond.selects RX1 yX1_wipe yX1_wipe ∈ lw_all := lw_in2 (List.mem_of_getElem? (i := 29) rfl) rfl
theorem kw2_30 : Cond.code yX1_wipe cX1_wipe 1 (Option.none : Option Jvm.ClassFile.FieldType) ∈ lw_all := lw_in2 (List.mem_of_getElem? (i := 30) rfl) rfl
theorem kw2_31 : Cond.methodLink RX1 35 yX3_shorten ∈ lw_all := lw_in2 (List.mem_of_getElem? (i := 31) rfl) rfl
theorem kw2_32 : Cond.methodLink RL 113 yX6_firstError ∈ lw_all := lw_in2 (List.mem_of_getElem? (i := 32) rfl) rfl
theorem kw2_33 : Cond.instanceMethod yX6_firstError ∈ lw_all := lw_in2 (List.mem_of_getElem? (i := 33) rfl) rfl
theorem kw2_34 : Cond.selects RX6 yX6_firstError yX6_firstError ∈ lw_all := lw_in2 (List.mem_of_getElem? (i := 34) rfl) rfl
theorem kw2_35 : Cond.code yX6_firstError cX6_firstError 1 (some .int) ∈ lw_all := lw_in2 (List.mem_of_getElem? (i := 35) rfl) rfl
theorem kw2_36 : Cond.methodLink RX6 197 yX1_firstFault ∈ lw_all := lw_in2 (List.mem_of_getElem? (i := 36) rfl) rfl
theorem kw2_37 : Cond.instanceMethod yX1_firstFault ∈ lw_all := lw_in2 (List.mem_of_getElem? (i := 37) rfl) rfl
theorem kw2_38 : Cond.selects RX1 yX1_firstFault yX1_firstFault ∈ lw_all := lw_in2 (List.mem_of_getElem? (i := 38) rfl) rfl
theorem kw2_39 : Cond.code yX1_firstFault cX1_firstFault 3 (some .int) ∈ lw_all := lw_in2 (List.mem_of_getElem? (i := 39) rfl) rfl
theorem kw2_40 : Cond.methodLink RX1 28 yX3_at ∈ lw_all := lw_in2 (List.mem_of_getElem? (i := 40) rfl) rfl
theorem kw2_41 : Cond.methodLink RX1 38 yX1_standBehind ∈ lw_all := lw_in2 (List.mem_of_getElem? (i := 41) rfl) rfl
theorem kw2_42 : Cond.static yX1_standBehind ∈ lw_all := lw_in2 (List.mem_of_getElem? (i := 42) rfl) rfl
theorem kw2_43 : Cond.code yX1_standBehind cX1_standBehind 3 (some .int) ∈ lw_all := lw_in2 (List.mem_of_getElem? (i := 43) rfl) rfl
theorem kw2_45 : Cond.methodLink RX1 44 yJ0_indexOf_0f7a4 ∈ lw_all := lw_in2 (List.mem_of_getElem? (i := 45) rfl) rfl
theorem kw2_46 : Cond.instanceMethod yJ0_indexOf_0f7a4 ∈ lw_all := lw_in2 (List.mem_of_getElem? (i := 46) rfl) rfl
theorem kw2_47 : Cond.selects RJ0 yJ0_indexOf_0f7a4 yJ0_indexOf_0f7a4 ∈ lw_all := lw_in2 (List.mem_of_getElem? (i := 47) rfl) rfl
theorem kw2_48 : Cond.code yJ0_indexOf_0f7a4 cJ0_indexOf_0f7a4 2 (some .int) ∈ lw_all := lw_in2 (List.mem_of_getElem? (i := 48) rfl) rfl
theorem kw2_49 : Cond.methodLink RJ0 633 yJ0_indexOf_7cf53 ∈ lw_all := lw_in2 (List.mem_of_getElem? (i := 49) rfl) rfl
theorem kw2_50 : Cond.instanceMethod yJ0_indexOf_7cf53 ∈ lw_all := lw_in2 (List.mem_of_getElem? (i := 50) rfl) rfl
theorem kw2_51 : Cond.selects RJ0 yJ0_indexOf_7cf53 yJ0_indexOf_7cf53 ∈ lw_all := lw_in2 (List.mem_of_getElem? (i := 51) rfl) rfl
theorem kw2_52 : Cond.code yJ0_indexOf_7cf53 cJ0_indexOf_7cf53 3 (some .int) ∈ lw_all := lw_in2 (List.mem_of_getElem? (i := 52) rfl) rfl
theorem kw2_53 : Cond.methodLink RJ0 492 yJ0_isLatin1_aae02 ∈ lw_all := lw_in2 (List.mem_of_getElem? (i := 53) rfl) rfl
theorem kw2_54 : Cond.instanceMethod yJ0_isLatin1_aae02 ∈ lw_all := lw_in2 (List.mem_of_getElem? (i := 54) rfl) rfl
theorem kw2_55 : Cond.selects RJ0 yJ0_isLatin1_aae02 yJ0_isLatin1_aae02 ∈ lw_all := lw_in2 (List.mem_of_getElem? (i := 55) rfl) rfl
theorem kw2_56 : Cond.code yJ0_isLatin1_aae02 cJ0_isLatin1_aae02 1 (some .boolean) ∈ lw_all := lw_in2 (List.mem_of_getElem? (i := 56) rfl) rfl
theorem kw2_57 : Cond.fieldLink RJ0 38 "java/lang/String" "COMPACT_STRINGS" "Z" ∈ lw_all := lw_in2 (List.mem_of_getElem? (i := 57) rfl) rfl
theorem kw2_59 : Cond.methodLink RJ0 505 yJ0_length_8abf5 ∈ lw_all := lw_in2 (List.mem_of_getElem? (i := 59) rfl) rfl
theorem kw2_60 : Cond.instanceMethod yJ0_length_8abf5 ∈ lw_all := lw_in2 (List.mem_of_getElem? (i := 60) rfl) rfl
theorem kw2_61 : Cond.selects RJ0 yJ0_length_8abf5 yJ0_length_8abf5 ∈ lw_all := lw_in2 (List.mem_of_getElem? (i := 61) rfl) rfl
theorem kw2_62 : Cond.code yJ0_length_8abf5 cJ0_length_8abf5 1 (some .int) ∈ lw_all := lw_in2 (List.mem_of_getElem? (i := 62) rfl) rfl
theorem kw2_63 : Cond.methodLink RJ0 335 yJ0_coder_7d493 ∈ lw_all := lw_in2 (List.mem_of_getElem? (i := 63) rfl) rfl
theorem kw2_64 : Cond.instanceMethod yJ0_coder_7d493 ∈ lw_all := lw_in2 (List.mem_of_getElem? (i := 64) rfl) rfl
theorem kw2_65 : Cond.selects RJ0 yJ0_coder_7d493 yJ0_coder_7d493 ∈ lw_all := lw_in2 (List.mem_of_getElem? (i := 65) rfl) rfl
theorem kw2_66 : Cond.code yJ0_coder_7d493 cJ0_coder_7d493 1 (some .byte) ∈ lw_all := lw_in2 (List.mem_of_getElem? (i := 66) rfl) rfl
theorem kw2_67 : Cond.methodLink RJ0 637 yJ1_indexOf_4cfef ∈ lw_all := lw_in2 (List.mem_of_getElem? (i := 67) rfl) rfl
theorem kw2_68 : Cond.static yJ1_indexOf_4cfef ∈ lw_all := lw_in2 (List.mem_of_getElem? (i := 68) rfl) rfl
theorem kw2_69 : Cond.code yJ1_indexOf_4cfef cJ1_indexOf_4cfef 4 (some .int) ∈ lw_all := lw_in2 (List.mem_of_getElem? (i := 69) rfl) rfl
theorem kw2_70 : Cond.methodLink RJ1 88 yJ1_canEncode_9a6ad ∈ lw_all := lw_in2 (List.mem_of_getElem? (i := 70) rfl) rfl
theorem kw2_71 : Cond.static yJ1_canEncode_9a6ad ∈ lw_all := lw_in2 (List.mem_of_getElem? (i := 71) rfl) rfl
theorem kw2_72 : Cond.code yJ1_canEncode_9a6ad cJ1_canEncode_9a6ad 1 (some .boolean) ∈ lw_all := lw_in2 (List.mem_of_getElem? (i := 72) rfl) rfl
theorem kw2_73 : Cond.methodLink RJ1 92 yJ9_max_7cf53 ∈ lw_all := lw_in2 (List.mem_of_getElem? (i := 73) rfl) rfl
theorem kw2_74 : Cond.methodLink RJ1 38 yJ9_min_7cf53 ∈ lw_all := lw_in2 (List.mem_of_getElem? (i := 74) rfl) rfl
theorem kw2_75 : Cond.static yJ9_min_7cf53 ∈ lw_all := lw_in2 (List.mem_of_getElem? (i := 75) rfl) rfl
theorem kw2_76 : Cond.code yJ9_min_7cf53 Lib.Math.min.code 2 (some .int) ∈ lw_all := lw_in2 (List.mem_of_getElem? (i := 76) rfl) rfl
theorem kw2_77 : Cond.methodLink RJ1 95 yJ1_indexOfChar_4cfef ∈ lw_all := lw_in2 (List.mem_of_getElem? (i := 77) rfl) rfl
theorem kw2_78 : Cond.static yJ1_indexOfChar_4cfef ∈ lw_all := lw_in2 (List.mem_of_getElem? (i := 78) rfl) rfl
theorem kw2_79 : Cond.code yJ1_indexOfChar_4cfef cJ1_indexOfChar_4cfef 6 (some .int) ∈ lw_all := lw_in2 (List.mem_of_getElem? (i := 79) rfl) rfl
theorem kw2_80 : Cond.methodLink RJ0 640 yJ2_indexOf_4cfef ∈ lw_all := lw_in2 (List.mem_of_getElem? (i := 80) rfl) rfl
theorem kw2_81 : Cond.static yJ2_indexOf_4cfef ∈ lw_all := lw_in2 (List.mem_of_getElem? (i := 81) rfl) rfl
theorem kw2_82 : Cond.code yJ2_indexOf_4cfef cJ2_indexOf_4cfef 4 (some .int) ∈ lw_all := lw_in2 (List.mem_of_getElem? (i := 82) rfl) rfl
theorem kw2_83 : Cond.methodLink RJ2 224 yJ9_max_7cf53 ∈ lw_all := lw_in2 (List.mem_of_getElem? (i := 83) rfl) rfl
theorem kw2_84 : Cond.methodLink RJ2 183 yJ9_min_7cf53 ∈ lw_all := lw_in2 (List.mem_of_getElem? (i := 84) rfl) rfl
theorem kw2_85 : Cond.constant RJ2 227 65536 ∈ lw_all := lw_in2 (List.mem_of_getElem? (i := 85) rfl) rfl
theorem kw2_86 : Cond.methodLink RJ2 228 yJ2_indexOfChar_4cfef ∈ lw_all := lw_in2 (List.mem_of_getElem? (i := 86) rfl) rfl
theorem kw2_87 : Cond.static yJ2_indexOfChar_4cfef ∈ lw_all := lw_in2 (List.mem_of_getElem? (i := 87) rfl) rfl
theorem kw2_88 : Cond.code yJ2_indexOfChar_4cfef cJ2_indexOfChar_4cfef 4 (some .int) ∈ lw_all := lw_in2 (List.mem_of_getElem? (i := 88) rfl) rfl
theorem kw2_89 : Cond.methodLink RJ2 96 yJ2_checkBoundsBeginEnd_d044e ∈ lw_all := lw_in2 (List.mem_of_getElem? (i := 89) rfl) rfl
theorem kw2_90 : Cond.static yJ2_checkBoundsBeginEnd_d044e ∈ lw_all := lw_in2 (List.mem_of_getElem? (i := 90) rfl) rfl
theorem kw2_91 : Cond.code yJ2_checkBoundsBeginEnd_d044e cJ2_checkBoundsBeginEnd_d044e 3 (Option.none : Option Jvm.ClassFile.FieldType) ∈ lw_all := lw_in2 (List.mem_of_getElem? (i := 91) rfl) rfl
theorem kw2_92 : Cond.methodLink RJ2 48 yJ2_length_9d52b ∈ lw_all := lw_in2 (List.mem_of_getElem? (i := 92) rfl) rfl
theorem kw2_93 : Cond.static yJ2_length_9d52b ∈ lw_all := lw_in2 (List.mem_of_getElem? (i := 93) rfl) rfl
theorem kw2_94 : Cond.code yJ2_length_9d52b cJ2_length_9d52b 1 (some .int) ∈ lw_all := lw_in2 (List.mem_of_getElem? (i := 94) rfl) rfl
theorem kw2_95 : Cond.methodLink RJ2 241 yJ0_checkBoundsBeginEnd_23922 ∈ lw_all := lw_in2 (List.mem_of_getElem? (i := 95) rfl) rfl
theorem kw2_96 : Cond.static yJ0_checkBoundsBeginEnd_23922 ∈ lw_all := lw_in2 (List.mem_of_getElem? (i := 96) rfl) rfl
theorem kw2_97 : Cond.code yJ0_checkBoundsBeginEnd_23922 cJ0_checkBoundsBeginEnd_23922 3 (Option.none : Option Jvm.ClassFile.FieldType) ∈ lw_all := lw_in2 (List.mem_of_getElem? (i := 97) rfl) rfl
theorem kw2_98 : Cond.fieldLink RJ0 1053 "jdk/internal/util/Preconditions" "SIOOBE_FORMATTER" "Ljava/util/function/BiFunction;" ∈ lw_all := lw_in2 (List.mem_of_getElem? (i := 98) rfl) rfl
theorem kw2_100 : Cond.methodLink RJ0 1062 yJ3_checkFromToIndex_8c36e ∈ lw_all := lw_in2 (List.mem_of_getElem? (i := 100) rfl) rfl
theorem kw2_101 : Cond.static yJ3_checkFromToIndex_8c36e ∈ lw_all := lw_in2 (List.mem_of_getElem? (i := 101) rfl) rfl
theorem kw2_102 : Cond.code yJ3_checkFromToIndex_8c36e cJ3_checkFromToIndex_8c36e 4 (some .int) ∈ lw_all := lw_in2 (List.mem_of_getElem? (i := 102) rfl) rfl
theorem kw2_103 : Cond.methodLink RJ2 244 yJ2_indexOfCharUnsafe_4cfef ∈ lw_all := lw_in2 (List.mem_of_getElem? (i := 103) rfl) rfl
theorem kw2_104 : Cond.static yJ2_indexOfCharUnsafe_4cfef ∈ lw_all := lw_in2 (List.mem_of_getElem? (i := 104) rfl) rfl
theorem kw2_105 : Cond.code yJ2_indexOfCharUnsafe_4cfef cJ2_indexOfCharUnsafe_4cfef 5 (some .int) ∈ lw_all := lw_in2 (List.mem_of_getElem? (i := 105) rfl) rfl
theorem kw2_106 : Cond.methodLink RJ2 71 yJ2_getChar_3b067 ∈ lw_all := lw_in2 (List.mem_of_getElem? (i := 106) rfl) rfl
theorem kw2_107 : Cond.static yJ2_getChar_3b067 ∈ lw_all := lw_in2 (List.mem_of_getElem? (i := 107) rfl) rfl
theorem kw2_108 : Cond.code yJ2_getChar_3b067 cJ2_getChar_3b067 2 (some .char) ∈ lw_all := lw_in2 (List.mem_of_getElem? (i := 108) rfl) rfl
theorem kw2_109 : Cond.fieldLink RJ2 44 "java/lang/StringUTF16" "$assertionsDisabled" "Z" ∈ lw_all := lw_in2 (List.mem_of_getElem? (i := 109) rfl) rfl
theorem kw2_111 : Cond.fieldLink RJ2 59 "java/lang/StringUTF16" "HI_BYTE_SHIFT" "I" ∈ lw_all := lw_in2 (List.mem_of_getElem? (i := 111) rfl) rfl
theorem kw2_113 : Cond.fieldLink RJ2 63 "java/lang/StringUTF16" "LO_BYTE_SHIFT" "I" ∈ lw_all := lw_in2 (List.mem_of_getElem? (i := 113) rfl) rfl
theorem kw2_115 : Cond.methodLink RJ2 232 yJ2_indexOfSupplementary_4cfef ∈ lw_all := lw_in2 (List.mem_of_getElem? (i := 115) rfl) rfl
theorem kw2_116 : Cond.static yJ2_indexOfSupplementary_4cfef ∈ lw_all := lw_in2 (List.mem_of_getElem? (i := 116) rfl) rfl
theorem kw2_117 : Cond.code yJ2_indexOfSupplementary_4cfef cJ2_indexOfSupplementary_4cfef 7 (some .int) ∈ lw_all := lw_in2 (List.mem_of_getElem? (i := 117) rfl) rfl
theorem kw2_118 : Cond.methodLink RJ2 164 yJ11_isValidCodePoint_9a6ad ∈ lw_all := lw_in2 (List.mem_of_getElem? (i := 118) rfl) rfl
theorem kw2_119 : Cond.static yJ11_isValidCodePoint_9a6ad ∈ lw_all := lw_in2 (List.mem_of_getElem? (i := 119) rfl) rfl
theorem kw2_120 : Cond.code yJ11_isValidCodePoint_9a6ad cJ11_isValidCodePoint_9a6ad 2 (some .boolean) ∈ lw_all := lw_in2 (List.mem_of_getElem? (i := 120) rfl) rfl
theorem kw2_121 : Cond.methodLink RJ2 157 yJ11_highSurrogate_5068e ∈ lw_all := lw_in2 (List.mem_of_getElem? (i := 121) rfl) rfl
theorem kw2_122 : Cond.static yJ11_highSurrogate_5068e ∈ lw_all := lw_in2 (List.mem_of_getElem? (i := 122) rfl) rfl
theorem kw2_123 : Cond.code yJ11_highSurrogate_5068e cJ11_highSurrogate_5068e 1 (some .char) ∈ lw_all := lw_in2 (List.mem_of_getElem? (i := 123) rfl) rfl
theorem kw2_124 : Cond.constant RJ11 110 55232 ∈ lw_all := lw_in2 (List.mem_of_getElem? (i := 124) rfl) rfl
theorem kw2_125 : Cond.methodLink RJ2 161 yJ11_lowSurrogate_5068e ∈ lw_all := lw_in2 (List.mem_of_getElem? (i := 125) rfl) rfl
theorem kw2_126 : Cond.static yJ11_lowSurrogate_5068e ∈ lw_all := lw_in2 (List.mem_of_getElem? (i := 126) rfl) rfl
theorem kw2_127 : Cond.code yJ11_lowSurrogate_5068e cJ11_lowSurrogate_5068e 1 (some .char) ∈ lw_all := lw_in2 (List.mem_of_getElem? (i := 127) rfl) rfl
theorem kw2_128 : Cond.constant RJ11 76 56320 ∈ lw_all := lw_in2 (List.mem_of_getElem? (i := 128) rfl) rfl
theorem kw2_129 : Cond.arrayClass .byte ∈ lw_all := lw_in2 (List.mem_of_getElem? (i := 129) rfl) rfl
theorem kw2_130 : Cond.methodLink RL 117 yX6_keep ∈ lw_all := lw_in2 (List.mem_of_getElem? (i := 130) rfl) rfl
theorem kw2_131 : Cond.instanceMethod yX6_keep ∈ lw_all := lw_in2 (List.mem_of_getElem? (i := 131) rfl) rfl
theorem kw2_132 : Cond.selects RX6 yX6_keep yX6_keep ∈ lw_all := lw_in2 (List.mem_of_getElem? (i := 132) rfl) rfl
theorem kw2_133 : Cond.code yX6_keep cX6_keep 1 (some .int) ∈ lw_all := lw_in2 (List.mem_of_getElem? (i := 133) rfl) rfl
theorem kw2_134 : Cond.methodLink RX6 200 yX5_become ∈ lw_all := lw_in2 (List.mem_of_getElem? (i := 134) rfl) rfl
theorem kw2_135 : Cond.methodLink RL 154 yX6_clashes ∈ lw_all := lw_in2 (List.mem_of_getElem? (i := 135) rfl) rfl
theorem kw2_136 : Cond.instanceMethod yX6_clashes ∈ lw_all := lw_in2 (List.mem_of_getElem? (i := 136) rfl) rfl
theorem kw2_137 : Cond.selects RX6 yX6_clashes yX6_clashes ∈ lw_all := lw_in2 (List.mem_of_getElem? (i := 137) rfl) rfl
theorem kw2_138 : Cond.code yX6_clashes cX6_clashes 4 (some .int) ∈ lw_all := lw_in2 (List.mem_of_getElem? (i := 138) rfl) rfl
theorem kw2_139 : Cond.methodLink RX6 165 yX0_size ∈ lw_all := lw_in2 (List.mem_of_getElem? (i := 139) rfl) rfl
theorem kw2_140 : Cond.instanceMethod yX0_size ∈ lw_all := lw_in2 (List.mem_of_getElem? (i := 140) rfl) rfl
theorem kw2_141 : Cond.selects RX0 yX0_size yX0_size ∈ lw_all := lw_in2 (List.mem_of_getElem? (i := 141) rfl) rfl
theorem kw2_142 : Cond.code yX0_size cX0_size 1 (some .int) ∈ lw_all := lw_in2 (List.mem_of_getElem? (i := 142) rfl) rfl
theorem kw2_143 : Cond.methodLink RX6 268 yX6_readBehind ∈ lw_all := lw_in2 (List.mem_of_getElem? (i := 143) rfl) rfl
theorem kw2_145 : Cond.instanceMethod yX6_readBehind ∈ lw_all := lw_in2 (List.mem_of_getElem? (i := 145) rfl) rfl
theorem kw2_146 : Cond.code yX6_readBehind cX6_readBehind 7 (some .int) ∈ lw_all := lw_in2 (List.mem_of_getElem? (i := 146) rfl) rfl
theorem kw2_147 : Cond.methodLink RX6 129 yX0_rowOf ∈ lw_all := lw_in2 (List.mem_of_getElem? (i := 147) rfl) rfl
theorem kw2_148 : Cond.methodLink RX6 362 yX6_putRow ∈ lw_all := lw_in2 (List.mem_of_getElem? (i := 148) rfl) rfl
theorem kw2_150 : Cond.instanceMethod yX6_putRow ∈ lw_all := lw_in2 (List.mem_of_getElem? (i := 150) rfl) rfl
theorem kw2_151 : Cond.code yX6_putRow cX6_putRow 5 (Option.none : Option Jvm.ClassFile.FieldType) ∈ lw_all := lw_in2 (List.mem_of_getElem? (i := 151) rfl) rfl
theorem kw2_152 : Cond.methodLink RX6 346 yX6_strokesOf ∈ lw_all := lw_in2 (List.mem_of_getElem? (i := 152) rfl) rfl
theorem kw2_153 : Cond.static yX6_strokesOf ∈ lw_all := lw_in2 (List.mem_of_getElem? (i := 153) rfl) rfl
theorem kw2_154 : Cond.code yX6_strokesOf cX6_strokesOf 4 (some .int) ∈ lw_all := lw_in2 (List.mem_of_getElem? (i := 154) rfl) rfl
theorem kw2_155 : Cond.methodLink RX6 339 yX6_strokeOf ∈ lw_all := lw_in2 (List.mem_of_getElem? (i := 155) rfl) rfl
theorem kw2_156 : Cond.static yX6_strokeOf ∈ lw_all := lw_in2 (List.mem_of_getElem? (i := 156) rfl) rfl
theorem kw2_157 : Cond.code yX6_strokeOf cX6_strokeOf 3 (some .int) ∈ lw_all := lw_in2 (List.mem_of_getElem? (i := 157) rfl) rfl
theorem kw2_158 : Cond.methodLink RX6 239 yX3_put ∈ lw_all := lw_in2 (List.mem_of_getElem? (i := 158) rfl) rfl
theorem kw2_159 : Cond.methodLink RX6 366 yX0_longestAt ∈ lw_all := lw_in2 (List.mem_of_getElem? (i := 159) rfl) rfl
theorem kw2_160 : Cond.instanceMethod yX0_longestAt ∈ lw_all := lw_in2 (List.mem_of_getElem? (i := 160) rfl) rfl
theorem kw2_161 : Cond.selects RX0 yX0_longestAt yX0_longestAt ∈ lw_all := lw_in2 (List.mem_of_getElem? (i := 161) rfl) rfl
theorem kw2_162 : Cond.code yX0_longestAt cX0_longestAt 5 (some .int) ∈ lw_all := lw_in2 (List.mem_of_getElem? (i := 162) rfl) rfl
theorem kw2_163 : Cond.methodLink RX0 38 yX3_length ∈ lw_all := lw_in2 (List.mem_of_getElem? (i := 163) rfl) rfl
theorem kw2_164 : Cond.methodLink RX0 44 yJ9_min_7cf53 ∈ lw_all := lw_in2 (List.mem_of_getElem? (i := 164) rfl) rfl
theorem kw2_165 : Cond.methodLink RX0 50 yX3_packed ∈ lw_all := lw_in2 (List.mem_of_getElem? (i := 165) rfl) rfl
theorem kw2_166 : Cond.instanceMethod yX3_packed ∈ lw_all := lw_in2 (List.mem_of_getElem? (i := 166) rfl) rfl
theorem kw2_167 : Cond.selects RX3 yX3_packed yX3_packed ∈ lw_all := lw_in2 (List.mem_of_getElem? (i := 167) rfl) rfl
theorem kw2_168 : Cond.code yX3_packed cX3_packed 7 (some .long) ∈ lw_all := lw_in2 (List.mem_of_getElem? (i := 168) rfl) rfl
theorem kw2_169 : Cond.methodLink RX0 54 yX0_leaderOf ∈ lw_all := lw_in2 (List.mem_of_getElem? (i := 169) rfl) rfl
theorem kw2_170 : Cond.instanceMethod yX0_leaderOf ∈ lw_all := lw_in2 (List.mem_of_getElem? (i := 170) rfl) rfl
theorem kw2_171 : Cond.selects RX0 yX0_leaderOf yX0_leaderOf ∈ lw_all := lw_in2 (List.mem_of_getElem? (i := 171) rfl) rfl
theorem kw2_172 : Cond.code yX0_leaderOf cX0_leaderOf 6 (some .int) ∈ lw_all := lw_in2 (List.mem_of_getElem? (i := 172) rfl) rfl
theorem kw2_173 : Cond.methodLink RL 158 yX6_least ∈ lw_all := lw_in2 (List.mem_of_getElem? (i := 173) rfl) rfl
theorem kw2_174 : Cond.instanceMethod yX6_least ∈ lw_all := lw_in2 (List.mem_of_getElem? (i := 174) rfl) rfl
theorem kw2_175 : Cond.selects RX6 yX6_least yX6_least ∈ lw_all := lw_in2 (List.mem_of_getElem? (i := 175) rfl) rfl
theorem kw2_176 : Cond.code yX6_least cX6_least 2 (some .int) ∈ lw_all := lw_in2 (List.mem_of_getElem? (i := 176) rfl) rfl
theorem kw2_177 : Cond.methodLink RX6 271 yX6_fewestUpTo ∈ lw_all := lw_in2 (List.mem_of_getElem? (i := 177) rfl) rfl
theorem kw2_179 : Cond.instanceMethod yX6_fewestUpTo ∈ lw_all := lw_in2 (List.mem_of_getElem? (i := 179) rfl) rfl
theorem kw2_180 : Cond.code yX6_fewestUpTo cX6_fewestUpTo 6 (some .int) ∈ lw_all := lw_in2 (List.mem_of_getElem? (i := 180) rfl) rfl
theorem kw2_181 : Cond.methodLink RX6 97 yX3_at ∈ lw_all := lw_in2 (List.mem_of_getElem? (i := 181) rfl) rfl
theorem kw2_182 : Cond.methodLink RX6 370 yJ9_min_7cf53 ∈ lw_all := lw_in2 (List.mem_of_getElem? (i := 182) rfl) rfl
theorem kw2_183 : Cond.methodLink RX6 147 yX3_packed ∈ lw_all := lw_in2 (List.mem_of_getElem? (i := 183) rfl) rfl
theorem kw2_184 : Cond.methodLink RX6 349 yX0_leaderOf ∈ lw_all := lw_in2 (List.mem_of_getElem? (i := 184) rfl) rfl
theorem kw2_185 : Cond.methodLink RL 162 yX6_readShare ∈ lw_all := lw_in2 (List.mem_of_getElem? (i := 185) rfl) rfl
theorem kw2_186 : Cond.instanceMethod yX6_readShare ∈ lw_all := lw_in2 (List.mem_of_getElem? (i := 186) rfl) rfl
theorem kw2_187 : Cond.selects RX6 yX6_readShare yX6_readShare ∈ lw_all := lw_in2 (List.mem_of_getElem? (i := 187) rfl) rfl
theorem kw2_188 : Cond.code yX6_readShare cX6_readShare 2 (some .double) ∈ lw_all := lw_in2 (List.mem_of_getElem? (i := 188) rfl) rfl
theorem kw2_189 : Cond.methodLink RX6 81 yX6_readPaper ∈ lw_all := lw_in2 (List.mem_of_getElem? (i := 189) rfl) rfl
theorem kw2_191 : Cond.instanceMethod yX6_readPaper ∈ lw_all := lw_in2 (List.mem_of_getElem? (i := 191) rfl) rfl
theorem kw2_192 : Cond.code yX6_readPaper cX6_readPaper 1 (Option.none : Option Jvm.ClassFile.FieldType) ∈ lw_all := lw_in2 (List.mem_of_getElem? (i := 192) rfl) rfl
theorem kw2_193 : Cond.methodLink RX6 240 yX2_dropFrom ∈ lw_all := lw_in2 (List.mem_of_getElem? (i := 193) rfl) rfl
theorem kw2_194 : Cond.instanceMethod yX2_dropFrom ∈ lw_all := lw_in2 (List.mem_of_getElem? (i := 194) rfl) rfl
theorem kw2_195 : Cond.selects RX2 yX2_dropFrom yX2_dropFrom ∈ lw_all := lw_in2 (List.mem_of_getElem? (i := 195) rfl) rfl
theorem kw2_196 : Cond.code yX2_dropFrom cX2_dropFrom 3 (Option.none : Option Jvm.ClassFile.FieldType) ∈ lw_all := lw_in2 (List.mem_of_getElem? (i := 196) rfl) rfl
theorem kw2_197 : Cond.methodLink RX2 38 yX2_size ∈ lw_all := lw_in2 (List.mem_of_getElem? (i := 197) rfl) rfl
theorem kw2_198 : Cond.instanceMethod yX2_size ∈ lw_all := lw_in2 (List.mem_of_getElem? (i := 198) rfl) rfl
theorem kw2_199 : Cond.selects RX2 yX2_size yX2_size ∈ lw_all := lw_in2 (List.mem_of_getElem? (i := 199) rfl) rfl
theorem kw2_200 : Cond.code yX2_size cX2_size 1 (some .int) ∈ lw_all := lw_in2 (List.mem_of_getElem? (i := 200) rfl) rfl
theorem kw2_201 : Cond.methodLink RX2 26 yX3_length ∈ lw_all := lw_in2 (List.mem_of_getElem? (i := 201) rfl) rfl
theorem kw2_202 : Cond.methodLink RX2 34 yX3_at ∈ lw_all := lw_in2 (List.mem_of_getElem? (i := 202) rfl) rfl
theorem kw2_203 : Cond.methodLink RX2 41 yX3_shorten ∈ lw_all := lw_in2 (List.mem_of_getElem? (i := 203) rfl) rfl
theorem kw2_204 : Cond.methodLink RX6 243 yX2_readOn ∈ lw_all := lw_in2 (List.mem_of_getElem? (i := 204) rfl) rfl
theorem kw2_205 : Cond.instanceMethod yX2_readOn ∈ lw_all := lw_in2 (List.mem_of_getElem? (i := 205) rfl) rfl
theorem kw2_206 : Cond.selects RX2 yX2_readOn yX2_readOn ∈ lw_all := lw_in2 (List.mem_of_getElem? (i := 206) rfl) rfl
theorem kw2_207 : Cond.code yX2_readOn cX2_readOn 7 (Option.none : Option Jvm.ClassFile.FieldType) ∈ lw_all := lw_in2 (List.mem_of_getElem? (i := 207) rfl) rfl
theorem kw2_208 : Cond.methodLink RX2 54 yX0_longestAt ∈ lw_all := lw_in2 (List.mem_of_getElem? (i := 208) rfl) rfl
theorem kw2_209 : Cond.methodLink RX2 60 yJ9_max_7cf53 ∈ lw_all := lw_in2 (List.mem_of_getElem? (i := 209) rfl) rfl
theorem kw2_210 : Cond.methodLink RX2 66 yX3_put ∈ lw_all := lw_in2 (List.mem_of_getElem? (i := 210) rfl) rfl
theorem kw2_211 : Cond.methodLink RX2 69 yX3_packed ∈ lw_all := lw_in2 (List.mem_of_getElem? (i := 211) rfl) rfl
theorem kw2_212 : Cond.methodLink RX2 73 yX0_leaderOf ∈ lw_all := lw_in2 (List.mem_of_getElem? (i := 212) rfl) rfl
theorem kw2_213 : Cond.methodLink RX6 274 yX6_rawItems ∈ lw_all := lw_in2 (List.mem_of_getElem? (i := 213) rfl) rfl
theorem kw2_215 : Cond.instanceMethod yX6_rawItems ∈ lw_all := lw_in2 (List.mem_of_getElem? (i := 215) rfl) rfl
theorem kw2_216 : Cond.code yX6_rawItems cX6_rawItems 1 (some .int) ∈ lw_all := lw_in2 (List.mem_of_getElem? (i := 216) rfl) rfl
theorem kw2_217 : Cond.methodLink RX6 352 yX2_itemsOf ∈ lw_all := lw_in2 (List.mem_of_getElem? (i := 217) rfl) rfl
theorem kw2_218 : Cond.instanceMethod yX2_itemsOf ∈ lw_all := lw_in2 (List.mem_of_getElem? (i := 218) rfl) rfl
theorem kw2_219 : Cond.selects RX2 yX2_itemsOf yX2_itemsOf ∈ lw_all := lw_in2 (List.mem_of_getElem? (i := 219) rfl) rfl
theorem kw2_220 : Cond.code yX2_itemsOf cX2_itemsOf 4 (some .int) ∈ lw_all := lw_in2 (List.mem_of_getElem? (i := 220) rfl) rfl
theorem kw2_221 : Cond.methodLink RL 167 yX6_meanKeys ∈ lw_all := lw_in2 (List.mem_of_getElem? (i := 221) rfl) rfl
theorem kw2_222 : Cond.instanceMethod yX6_meanKeys ∈ lw_all := lw_in2 (List.mem_of_getElem? (i := 222) rfl) rfl
theorem kw2_223 : Cond.selects RX6 yX6_meanKeys yX6_meanKeys ∈ lw_all := lw_in2 (List.mem_of_getElem? (i := 223) rfl) rfl
theorem kw2_224 : Cond.code yX6_meanKeys cX6_meanKeys 1 (some .float) ∈ lw_all := lw_in2 (List.mem_of_getElem? (i := 224) rfl) rfl
theorem kw2_225 : Cond.methodLink RL 172 yX6_digest ∈ lw_all := lw_in2 (List.mem_of_getElem? (i := 225) rfl) rfl
theorem kw2_226 : Cond.instanceMethod yX6_digest ∈ lw_all := lw_in2 (List.mem_of_getElem? (i := 226) rfl) rfl
theorem kw2_227 : Cond.selects RX6 yX6_digest yX6_digest ∈ lw_all := lw_in2 (List.mem_of_getElem? (i := 227) rfl) rfl
theorem kw2_228 : Cond.code yX6_digest cX6_digest 4 (some .long) ∈ lw_all := lw_in2 (List.mem_of_getElem? (i := 228) rfl) rfl
theorem kw2_229 : Cond.constantLong RX6 283 3643 ∈ lw_all := lw_in2 (List.mem_of_getElem? (i := 229) rfl) rfl
theorem kw2_230 : Cond.methodLink RX6 285 yX6_mixNumbers ∈ lw_all := lw_in2 (List.mem_of_getElem? (i := 230) rfl) rfl
theorem kw2_232 : Cond.instanceMethod yX6_mixNumbers ∈ lw_all := lw_in2 (List.mem_of_getElem? (i := 232) rfl) rfl
theorem kw2_233 : Cond.code yX6_mixNumbers cX6_mixNumbers 6 (some .long) ∈ lw_all := lw_in2 (List.mem_of_getElem? (i := 233) rfl) rfl
theorem kw2_234 : Cond.methodLink RX6 233 yX6_countNumber ∈ lw_all := lw_in2 (List.mem_of_getElem? (i := 234) rfl) rfl
theorem kw2_236 : Cond.instanceMethod yX6_countNumber ∈ lw_all := lw_in2 (List.mem_of_getElem? (i := 236) rfl) rfl
theorem kw2_237 : Cond.code yX6_countNumber cX6_countNumber 2 (some .int) ∈ lw_all := lw_in2 (List.mem_of_getElem? (i := 237) rfl) rfl
theorem kw2_238 : Cond.methodLink RX6 359 yX6_itemsStrokeByStroke ∈ lw_all := lw_in2 (List.mem_of_getElem? (i := 238) rfl) rfl
theorem kw3_0 : Cond.instanceMethod yX6_itemsStrokeByStroke ∈ lw_all := lw_in3 (List.mem_of_getElem? (i := 0) rfl) rfl
theorem kw3_1 : Cond.code yX6_itemsStrokeByStroke cX6_itemsStrokeByStroke 2 (some .int) ∈ lw_all := lw_in3 (List.mem_of_getElem? (i := 1) rfl) rfl
theorem kw3_2 : Cond.methodLink RX6 84 yX2_size ∈ lw_all := lw_in3 (List.mem_of_getElem? (i := 2) rfl) rfl
theorem kw3_3 : Cond.methodLink RX6 209 yX4_size ∈ lw_all := lw_in3 (List.mem_of_getElem? (i := 3) rfl) rfl
theorem kw3_4 : Cond.instanceMethod yX4_size ∈ lw_all := lw_in3 (List.mem_of_getElem? (i := 4) rfl) rfl
theorem kw3_5 : Cond.selects RX4 yX4_size yX4_size ∈ lw_all := lw_in3 (List.mem_of_getElem? (i := 5) rfl) rfl
theorem kw3_6 : Cond.code yX4_size cX4_size 1 (some .int) ∈ lw_all := lw_in3 (List.mem_of_getElem? (i := 6) rfl) rfl
theorem kw3_7 : Cond.methodLink RX6 306 yX6_mix ∈ lw_all := lw_in3 (List.mem_of_getElem? (i := 7) rfl) rfl
theorem kw3_8 : Cond.static yX6_mix ∈ lw_all := lw_in3 (List.mem_of_getElem? (i := 8) rfl) rfl
theorem kw3_9 : Cond.code yX6_mix cX6_mix 4 (some .long) ∈ lw_all := lw_in3 (List.mem_of_getElem? (i := 9) rfl) rfl
theorem kw3_10 : Cond.constantLong RX6 375 31 ∈ lw_all := lw_in3 (List.mem_of_getElem? (i := 10) rfl) rfl
theorem kw3_11 : Cond.methodLink RX6 179 yX6_settingNumber ∈ lw_all := lw_in3 (List.mem_of_getElem? (i := 11) rfl) rfl
theorem kw3_13 : Cond.instanceMethod yX6_settingNumber ∈ lw_all := lw_in3 (List.mem_of_getElem? (i := 13) rfl) rfl
theorem kw3_14 : Cond.code yX6_settingNumber cX6_settingNumber 2 (some .int) ∈ lw_all := lw_in3 (List.mem_of_getElem? (i := 14) rfl) rfl
theorem kw3_15 : Cond.methodLink RX6 289 yX6_mixItems ∈ lw_all := lw_in3 (List.mem_of_getElem? (i := 15) rfl) rfl
theorem kw3_17 : Cond.instanceMethod yX6_mixItems ∈ lw_all := lw_in3 (List.mem_of_getElem? (i := 17) rfl) rfl
theorem kw3_18 : Cond.code yX6_mixItems cX6_mixItems 7 (some .long) ∈ lw_all := lw_in3 (List.mem_of_getElem? (i := 18) rfl) rfl
theorem kw3_19 : Cond.methodLink RX6 222 yX6_itemNumber ∈ lw_all := lw_in3 (List.mem_of_getElem? (i := 19) rfl) rfl
theorem kw3_21 : Cond.instanceMethod yX6_itemNumber ∈ lw_all := lw_in3 (List.mem_of_getElem? (i := 21) rfl) rfl
theorem kw3_22 : Cond.code yX6_itemNumber cX6_itemNumber 3 (some .int) ∈ lw_all := lw_in3 (List.mem_of_getElem? (i := 22) rfl) rfl
theorem kw3_23 : Cond.methodLink RX6 247 yX2_leaderAt ∈ lw_all := lw_in3 (List.mem_of_getElem? (i := 23) rfl) rfl
theorem kw3_24 : Cond.instanceMethod yX2_leaderAt ∈ lw_all := lw_in3 (List.mem_of_getElem? (i := 24) rfl) rfl
theorem kw3_25 : Cond.selects RX2 yX2_leaderAt yX2_leaderAt ∈ lw_all := lw_in3 (List.mem_of_getElem? (i := 25) rfl) rfl
theorem kw3_26 : Cond.code yX2_leaderAt cX2_leaderAt 2 (some .int) ∈ lw_all := lw_in3 (List.mem_of_getElem? (i := 26) rfl) rfl
theorem kw3_27 : Cond.methodLink RX6 250 yX0_wordOf ∈ lw_all := lw_in3 (List.mem_of_getElem? (i := 27) rfl) rfl
theorem kw3_28 : Cond.methodLink RX6 330 yX2_placeAt ∈ lw_all := lw_in3 (List.mem_of_getElem? (i := 28) rfl) rfl
theorem kw3_29 : Cond.instanceMethod yX2_placeAt ∈ lw_all := lw_in3 (List.mem_of_getElem? (i := 29) rfl) rfl
theorem kw3_30 : Cond.selects RX2 yX2_placeAt yX2_placeAt ∈ lw_all := lw_in3 (List.mem_of_getElem? (i := 30) rfl) rfl
theorem kw3_31 : Cond.code yX2_placeAt cX2_placeAt 2 (some .int) ∈ lw_all := lw_in3 (List.mem_of_getElem? (i := 31) rfl) rfl
theorem kw3_32 : Cond.methodLink RX6 253 yX2_lengthAt ∈ lw_all := lw_in3 (List.mem_of_getElem? (i := 32) rfl) rfl
theorem kw3_33 : Cond.instanceMethod yX2_lengthAt ∈ lw_all := lw_in3 (List.mem_of_getElem? (i := 33) rfl) rfl
theorem kw3_34 : Cond.selects RX2 yX2_lengthAt yX2_lengthAt ∈ lw_all := lw_in3 (List.mem_of_getElem? (i := 34) rfl) rfl
theorem kw3_35 : Cond.code yX2_lengthAt cX2_lengthAt 2 (some .int) ∈ lw_all := lw_in3 (List.mem_of_getElem? (i := 35) rfl) rfl
theorem kw3_36 : Cond.methodLink RX6 125 yX6_rowOfItem ∈ lw_all := lw_in3 (List.mem_of_getElem? (i := 36) rfl) rfl
theorem kw3_38 : Cond.instanceMethod yX6_rowOfItem ∈ lw_all := lw_in3 (List.mem_of_getElem? (i := 38) rfl) rfl
theorem kw3_39 : Cond.code yX6_rowOfItem cX6_rowOfItem 2 (some .long) ∈ lw_all := lw_in3 (List.mem_of_getElem? (i := 39) rfl) rfl
theorem kw3_40 : Cond.methodLink RX6 342 yX0_rivals ∈ lw_all := lw_in3 (List.mem_of_getElem? (i := 40) rfl) rfl
theorem kw3_41 : Cond.instanceMethod yX0_rivals ∈ lw_all := lw_in3 (List.mem_of_getElem? (i := 41) rfl) rfl
theorem kw3_42 : Cond.selects RX0 yX0_rivals yX0_rivals ∈ lw_all := lw_in3 (List.mem_of_getElem? (i := 42) rfl) rfl
theorem kw3_43 : Cond.code yX0_rivals cX0_rivals 5 (some .int) ∈ lw_all := lw_in3 (List.mem_of_getElem? (i := 43) rfl) rfl
theorem kw3_44 : Cond.methodLink RX6 292 yX6_mixEntries ∈ lw_all := lw_in3 (List.mem_of_getElem? (i := 44) rfl) rfl
theorem kw3_46 : Cond.instanceMethod yX6_mixEntries ∈ lw_all := lw_in3 (List.mem_of_getElem? (i := 46) rfl) rfl
theorem kw3_47 : Cond.code yX6_mixEntries cX6_mixEntries 7 (some .long) ∈ lw_all := lw_in3 (List.mem_of_getElem? (i := 47) rfl) rfl
theorem kw3_48 : Cond.methodLink RX6 228 yX6_entryNumber ∈ lw_all := lw_in3 (List.mem_of_getElem? (i := 48) rfl) rfl
theorem kw3_50 : Cond.instanceMethod yX6_entryNumber ∈ lw_all := lw_in3 (List.mem_of_getElem? (i := 50) rfl) rfl
theorem kw3_51 : Cond.code yX6_entryNumber cX6_entryNumber 6 (some .int) ∈ lw_all := lw_in3 (List.mem_of_getElem? (i := 51) rfl) rfl
theorem kw3_52 : Cond.methodLink RX6 137 yX0_picksOf ∈ lw_all := lw_in3 (List.mem_of_getElem? (i := 52) rfl) rfl
theorem kw3_53 : Cond.methodLink RX6 355 yJ13_bitCount_95d88 ∈ lw_all := lw_in3 (List.mem_of_getElem? (i := 53) rfl) rfl
theorem kw3_54 : Cond.static yJ13_bitCount_95d88 ∈ lw_all := lw_in3 (List.mem_of_getElem? (i := 54) rfl) rfl
theorem kw3_55 : Cond.code yJ13_bitCount_95d88 cJ13_bitCount_95d88 2 (some .int) ∈ lw_all := lw_in3 (List.mem_of_getElem? (i := 55) rfl) rfl
theorem kw3_56 : Cond.constantLong RJ13 314 6148914691236517205 ∈ lw_all := lw_in3 (List.mem_of_getElem? (i := 56) rfl) rfl
theorem kw3_57 : Cond.constantLong RJ13 316 3689348814741910323 ∈ lw_all := lw_in3 (List.mem_of_getElem? (i := 57) rfl) rfl
theorem kw3_58 : Cond.constantLong RJ13 318 1085102592571150095 ∈ lw_all := lw_in3 (List.mem_of_getElem? (i := 58) rfl) rfl
theorem kw3_59 : Cond.methodLink RX6 295 yX6_mixWhatWouldBe ∈ lw_all := lw_in3 (List.mem_of_getElem? (i := 59) rfl) rfl
theorem kw3_61 : Cond.instanceMethod yX6_mixWhatWouldBe ∈ lw_all := lw_in3 (List.mem_of_getElem? (i := 61) rfl) rfl
theorem kw3_62 : Cond.code yX6_mixWhatWouldBe cX6_mixWhatWouldBe 6 (some .long) ∈ lw_all := lw_in3 (List.mem_of_getElem? (i := 62) rfl) rfl
theorem kw3_63 : Cond.methodLink RX6 377 yX6_begun ∈ lw_all := lw_in3 (List.mem_of_getElem? (i := 63) rfl) rfl
theorem kw3_64 : Cond.instanceMethod yX6_begun ∈ lw_all := lw_in3 (List.mem_of_getElem? (i := 64) rfl) rfl
theorem kw3_65 : Cond.selects RX6 yX6_begun yX6_begun ∈ lw_all := lw_in3 (List.mem_of_getElem? (i := 65) rfl) rfl
theorem kw3_66 : Cond.code yX6_begun cX6_begun 3 (some .int) ∈ lw_all := lw_in3 (List.mem_of_getElem? (i := 66) rfl) rfl
theorem kw3_67 : Cond.classLink RX6 58 "java/lang/IllegalArgumentException" ∈ lw_all := lw_in3 (List.mem_of_getElem? (i := 67) rfl) rfl
theorem kw3_68 : Cond.instantiable "java/lang/IllegalArgumentException" 6 ∈ lw_all := lw_in3 (List.mem_of_getElem? (i := 68) rfl) rfl
theorem kw3_76 : Cond.selects "java/lang/IllegalArgumentException" (⟨"java/lang/Throwable", "fillInStackTrace", "(I)Ljava/lang/Throwable;"⟩ : MethodName) (⟨"java/lang/Throwable", "fillInStackTrace", "(I)Ljava/lang/Throwable;"⟩ : MethodName) ∈ lw_all := lw_in3 (List.mem_of_getElem? (i := 76) rfl) rfl
theorem kw3_77 : Cond.selects "java/lang/IllegalArgumentException" (⟨"java/lang/Throwable", "fillInStackTrace", "()Ljava/lang/Throwable;"⟩ : MethodName) (⟨"java/lang/Throwable", "fillInStackTrace", "()Ljava/lang/Throwable;"⟩ : MethodName) ∈ lw_all := lw_in3 (List.mem_of_getElem? (i := 77) rfl) rfl
theorem kw3_78 : Cond.lays "java/lang/IllegalArgumentException" "java/lang/Throwable" "cause" "Ljava/lang/Throwable;" ∈ lw_all := lw_in3 (List.mem_of_getElem? (i := 78) rfl) rfl
theorem kw3_79 : Cond.lays "java/lang/Throwable" "java/lang/Throwable" "cause" "Ljava/lang/Throwable;" ∈ lw_all := lw_in3 (List.mem_of_getElem? (i := 79) rfl) rfl
theorem kw3_80 : Cond.lays "java/lang/IllegalArgumentException" "java/lang/Throwable" "stackTrace" "[Ljava/lang/StackTraceElement;" ∈ lw_all := lw_in3 (List.mem_of_getElem? (i := 80) rfl) rfl
theorem kw3_81 : Cond.lays "java/lang/Throwable" "java/lang/Throwable" "stackTrace" "[Ljava/lang/StackTraceElement;" ∈ lw_all := lw_in3 (List.mem_of_getElem? (i := 81) rfl) rfl
theorem kw3_82 : Cond.lays "java/lang/IllegalArgumentException" "java/lang/Throwable" "suppressedExceptions" "Ljava/util/List;" ∈ lw_all := lw_in3 (List.mem_of_getElem? (i := 82) rfl) rfl
theorem kw3_83 : Cond.lays "java/lang/Throwable" "java/lang/Throwable" "suppressedExceptions" "Ljava/util/List;" ∈ lw_all := lw_in3 (List.mem_of_getElem? (i := 83) rfl) rfl
theorem kw3_84 : Cond.lays "java/lang/IllegalArgumentException" "java/lang/Throwable" "detailMessage" "Ljava/lang/String;" ∈ lw_all := lw_in3 (List.mem_of_getElem? (i := 84) rfl) rfl
theorem kw3_85 : Cond.lays "java/lang/Throwable" "java/lang/Throwable" "detailMessage" "Ljava/lang/String;" ∈ lw_all := lw_in3 (List.mem_of_getElem? (i := 85) rfl) rfl
theorem kw3_86 : Cond.lays "java/lang/IllegalArgumentException" "java/lang/Throwable" "backtrace" "Ljava/lang/Object;" ∈ lw_all := lw_in3 (List.mem_of_getElem? (i := 86) rfl) rfl
theorem kw3_87 : Cond.lays "java/lang/Throwable" "java/lang/Throwable" "backtrace" "Ljava/lang/Object;" ∈ lw_all := lw_in3 (List.mem_of_getElem? (i := 87) rfl) rfl
theorem kw3_121 : Cond.fieldLink "java/lang/Throwable" 198 "java/lang/Throwable" "backtrace" "Ljava/lang/Object;" ∈ lw_all := lw_in3 (List.mem_of_getElem? (i := 121) rfl) rfl
theorem kw3_90 : Cond.instanceMethod (⟨"java/lang/Throwable", "<init>", "()V"⟩ : MethodName) ∈ lw_all := lw_in3 (List.mem_of_getElem? (i := 90) rfl) rfl
theorem kw3_91 : Cond.code (⟨"java/lang/Throwable", "<init>", "()V"⟩ : MethodName) prog_22_method_1_code 1 (Option.none : Option Jvm.ClassFile.FieldType) ∈ lw_all := lw_in3 (List.mem_of_getElem? (i := 91) rfl) rfl
theorem kw3_92 : Cond.methodLink "java/lang/Throwable" 1 (⟨"java/lang/Object", "<init>", "()V"⟩ : MethodName) ∈ lw_all := lw_in3 (List.mem_of_getElem? (i := 92) rfl) rfl
theorem kw3_93 : Cond.fieldLink "java/lang/Throwable" 13 "java/lang/Throwable" "UNASSIGNED_STACK" "[Ljava/lang/StackTraceElement;" ∈ lw_all := lw_in3 (List.mem_of_getElem? (i := 93) rfl) rfl
theorem kw3_95 : Cond.fieldLink "java/lang/Throwable" 20 "java/lang/Throwable" "SUPPRESSED_SENTINEL" "Ljava/util/List;" ∈ lw_all := lw_in3 (List.mem_of_getElem? (i := 95) rfl) rfl
theorem kw3_97 : Cond.methodLink "java/lang/Throwable" 27 (⟨"java/lang/Throwable", "fillInStackTrace", "()Ljava/lang/Throwable;"⟩ : MethodName) ∈ lw_all := lw_in3 (List.mem_of_getElem? (i := 97) rfl) rfl
theorem kw3_98 : Cond.instanceMethod (⟨"java/lang/Throwable", "fillInStackTrace", "()Ljava/lang/Throwable;"⟩ : MethodName) ∈ lw_all := lw_in3 (List.mem_of_getElem? (i := 98) rfl) rfl
theorem kw3_100 : Cond.selects "java/lang/IllegalStateException" (⟨"java/lang/Throwable", "fillInStackTrace", "()Ljava/lang/Throwable;"⟩ : MethodName) (⟨"java/lang/Throwable", "fillInStackTrace", "()Ljava/lang/Throwable;"⟩ : MethodName) ∈ lw_all := lw_in3 (List.mem_of_getElem? (i := 100) rfl) rfl
theorem kw3_101 : Cond.selects "java/lang/IndexOutOfBoundsException" (⟨"java/lang/Throwable", "fillInStackTrace", "()Ljava/lang/Throwable;"⟩ : MethodName) (⟨"java/lang/Throwable", "fillInStackTrace", "()Ljava/lang/Throwable;"⟩ : MethodName) ∈ lw_all := lw_in3 (List.mem_of_getElem? (i := 101) rfl) rfl
theorem kw3_103 : Cond.methodLink "java/lang/Throwable" 202 (⟨"java/lang/Throwable", "fillInStackTrace", "(I)Ljava/lang/Throwable;"⟩ : MethodName) ∈ lw_all := lw_in3 (List.mem_of_getElem? (i := 103) rfl) rfl
theorem kw3_105 : Cond.instanceMethod (⟨"java/lang/Throwable", "fillInStackTrace", "(I)Ljava/lang/Throwable;"⟩ : MethodName) ∈ lw_all := lw_in3 (List.mem_of_getElem? (i := 105) rfl) rfl
theorem kw3_106 : Cond.instantiable "java/lang/Throwable" 6 ∈ lw_all := lw_in3 (List.mem_of_getElem? (i := 106) rfl) rfl
theorem kw3_109 : Cond.methodLink RX6 62 (⟨"java/lang/IllegalArgumentException", "<init>", "(Ljava/lang/String;)V"⟩ : MethodName) ∈ lw_all := lw_in3 (List.mem_of_getElem? (i := 109) rfl) rfl
theorem kw3_110 : Cond.instanceMethod (⟨"java/lang/IllegalArgumentException", "<init>", "(Ljava/lang/String;)V"⟩ : MethodName) ∈ lw_all := lw_in3 (List.mem_of_getElem? (i := 110) rfl) rfl
theorem kw3_111 : Cond.code (⟨"java/lang/IllegalArgumentException", "<init>", "(Ljava/lang/String;)V"⟩ : MethodName) prog_12_method_2_code 2 (Option.none : Option Jvm.ClassFile.FieldType) ∈ lw_all := lw_in3 (List.mem_of_getElem? (i := 111) rfl) rfl
theorem kw3_112 : Cond.methodLink "java/lang/IllegalArgumentException" 7 (⟨"java/lang/RuntimeException", "<init>", "(Ljava/lang/String;)V"⟩ : MethodName) ∈ lw_all := lw_in3 (List.mem_of_getElem? (i := 112) rfl) rfl
theorem kw3_113 : Cond.instanceMethod (⟨"java/lang/RuntimeException", "<init>", "(Ljava/lang/String;)V"⟩ : MethodName) ∈ lw_all := lw_in3 (List.mem_of_getElem? (i := 113) rfl) rfl
theorem kw3_114 : Cond.code (⟨"java/lang/RuntimeException", "<init>", "(Ljava/lang/String;)V"⟩ : MethodName) prog_18_method_2_code 2 (Option.none : Option Jvm.ClassFile.FieldType) ∈ lw_all := lw_in3 (List.mem_of_getElem? (i := 114) rfl) rfl
theorem kw3_115 : Cond.methodLink "java/lang/RuntimeException" 7 (⟨"java/lang/Exception", "<init>", "(Ljava/lang/String;)V"⟩ : MethodName) ∈ lw_all := lw_in3 (List.mem_of_getElem? (i := 115) rfl) rfl
theorem kw3_116 : Cond.instanceMethod (⟨"java/lang/Exception", "<init>", "(Ljava/lang/String;)V"⟩ : MethodName) ∈ lw_all := lw_in3 (List.mem_of_getElem? (i := 116) rfl) rfl
theorem kw3_117 : Cond.code (⟨"java/lang/Exception", "<init>", "(Ljava/lang/String;)V"⟩ : MethodName) prog_11_method_2_code 2 (Option.none : Option Jvm.ClassFile.FieldType) ∈ lw_all := lw_in3 (List.mem_of_getElem? (i := 117) rfl) rfl
theorem kw3_118 : Cond.methodLink "java/lang/Exception" 7 (⟨"java/lang/Throwable", "<init>", "(Ljava/lang/String;)V"⟩ : MethodName) ∈ lw_all := lw_in3 (List.mem_of_getElem? (i := 118) rfl) rfl
theorem kw3_119 : Cond.instanceMethod (⟨"java/lang/Throwable", "<init>", "(Ljava/lang/String;)V"⟩ : MethodName) ∈ lw_all := lw_in3 (List.mem_of_getElem? (i := 119) rfl) rfl
theorem kw3_120 : Cond.code (⟨"java/lang/Throwable", "<init>", "(Ljava/lang/String;)V"⟩ : MethodName) prog_22_method_2_code 2 (Option.none : Option Jvm.ClassFile.FieldType) ∈ lw_all := lw_in3 (List.mem_of_getElem? (i := 120) rfl) rfl
theorem kw3_122 : Cond.fieldLink "java/lang/Throwable" 31 "java/lang/Throwable" "detailMessage" "Ljava/lang/String;" ∈ lw_all := lw_in3 (List.mem_of_getElem? (i := 122) rfl) rfl
theorem kw3_123 : Cond.fieldLink "java/lang/Throwable" 7 "java/lang/Throwable" "cause" "Ljava/lang/Throwable;" ∈ lw_all := lw_in3 (List.mem_of_getElem? (i := 123) rfl) rfl
theorem kw3_124 : Cond.fieldLink "java/lang/Throwable" 17 "java/lang/Throwable" "stackTrace" "[Ljava/lang/StackTraceElement;" ∈ lw_all := lw_in3 (List.mem_of_getElem? (i := 124) rfl) rfl
theorem kw3_125 : Cond.fieldLink "java/lang/Throwable" 24 "java/lang/Throwable" "suppressedExceptions" "Ljava/util/List;" ∈ lw_all := lw_in3 (List.mem_of_getElem? (i := 125) rfl) rfl
theorem kw3_130 : Cond.lays "java/lang/IllegalArgumentException" "java/lang/Throwable" "depth" "I" ∈ lw_all := lw_in3 (List.mem_of_getElem? (i := 130) rfl) rfl
theorem kw3_134 : Cond.methodLink RX6 258 yX0_longerThan ∈ lw_all := lw_in3 (List.mem_of_getElem? (i := 134) rfl) rfl
theorem kw3_135 : Cond.instanceMethod yX0_longerThan ∈ lw_all := lw_in3 (List.mem_of_getElem? (i := 135) rfl) rfl
theorem kw3_136 : Cond.selects RX0 yX0_longerThan yX0_longerThan ∈ lw_all := lw_in3 (List.mem_of_getElem? (i := 136) rfl) rfl
theorem kw3_137 : Cond.code yX0_longerThan cX0_longerThan 10 (some .int) ∈ lw_all := lw_in3 (List.mem_of_getElem? (i := 137) rfl) rfl
theorem kw3_138 : Cond.methodLink RX6 380 yX6_ifStruck ∈ lw_all := lw_in3 (List.mem_of_getElem? (i := 138) rfl) rfl
theorem kw3_139 : Cond.instanceMethod yX6_ifStruck ∈ lw_all := lw_in3 (List.mem_of_getElem? (i := 139) rfl) rfl
theorem kw3_140 : Cond.selects RX6 yX6_ifStruck yX6_ifStruck ∈ lw_all := lw_in3 (List.mem_of_getElem? (i := 140) rfl) rfl
theorem kw3_141 : Cond.code yX6_ifStruck cX6_ifStruck 4 (some .int) ∈ lw_all := lw_in3 (List.mem_of_getElem? (i := 141) rfl) rfl
theorem kw3_144 : Cond.methodLink RX6 236 yX3_become ∈ lw_all := lw_in3 (List.mem_of_getElem? (i := 144) rfl) rfl
theorem kw3_145 : Cond.methodLink RX6 383 yX6_shortest ∈ lw_all := lw_in3 (List.mem_of_getElem? (i := 145) rfl) rfl
theorem kw3_146 : Cond.instanceMethod yX6_shortest ∈ lw_all := lw_in3 (List.mem_of_getElem? (i := 146) rfl) rfl
theorem kw3_147 : Cond.selects RX6 yX6_shortest yX6_shortest ∈ lw_all := lw_in3 (List.mem_of_getElem? (i := 147) rfl) rfl
theorem kw3_148 : Cond.code yX6_shortest cX6_shortest 4 (some .int) ∈ lw_all := lw_in3 (List.mem_of_getElem? (i := 148) rfl) rfl
theorem kw3_150 : Cond.methodLink RX6 262 yX6_canTell ∈ lw_all := lw_in3 (List.mem_of_getElem? (i := 150) rfl) rfl
theorem kw3_152 : Cond.instanceMethod yX6_canTell ∈ lw_all := lw_in3 (List.mem_of_getElem? (i := 152) rfl) rfl
theorem kw3_153 : Cond.code yX6_canTell cX6_canTell 5 (some .boolean) ∈ lw_all := lw_in3 (List.mem_of_getElem? (i := 153) rfl) rfl
theorem kw3_154 : Cond.methodLink RX6 265 yX6_isShorter ∈ lw_all := lw_in3 (List.mem_of_getElem? (i := 154) rfl) rfl
theorem kw3_156 : Cond.instanceMethod yX6_isShorter ∈ lw_all := lw_in3 (List.mem_of_getElem? (i := 156) rfl) rfl
theorem kw3_157 : Cond.code yX6_isShorter cX6_isShorter 9 (some .boolean) ∈ lw_all := lw_in3 (List.mem_of_getElem? (i := 157) rfl) rfl
theorem kw3_158 : Cond.methodLink RX6 386 yX6_clashes ∈ lw_all := lw_in3 (List.mem_of_getElem? (i := 158) rfl) rfl
theorem kw3_159 : Cond.methodLink RX6 389 yX6_least ∈ lw_all := lw_in3 (List.mem_of_getElem? (i := 159) rfl) rfl
theorem kw3_160 : Cond.methodLink RX6 298 yX6_readShare ∈ lw_all := lw_in3 (List.mem_of_getElem? (i := 160) rfl) rfl
theorem kw3_161 : Cond.methodLink RX6 302 yX6_bitsOfShare ∈ lw_all := lw_in3 (List.mem_of_getElem? (i := 161) rfl) rfl
theorem kw3_162 : Cond.static yX6_bitsOfShare ∈ lw_all := lw_in3 (List.mem_of_getElem? (i := 162) rfl) rfl
theorem kw3_163 : Cond.code yX6_bitsOfShare cX6_bitsOfShare 7 (some .long) ∈ lw_all := lw_in3 (List.mem_of_getElem? (i := 163) rfl) rfl
theorem kw3_164 : Cond.constantLong RX6 392 1023 ∈ lw_all := lw_in3 (List.mem_of_getElem? (i := 164) rfl) rfl
theorem kw3_165 : Cond.constantDouble RX6 394 4611686018427387904 ∈ lw_all := lw_in3 (List.mem_of_getElem? (i := 165) rfl) rfl
theorem kw3_166 : Cond.constantDouble RX6 396 4841369599423283200 ∈ lw_all := lw_in3 (List.mem_of_getElem? (i := 166) rfl) rfl
theorem kw3_167 : Cond.methodLink RX6 310 yX6_meanKeys ∈ lw_all := lw_in3 (List.mem_of_getElem? (i := 167) rfl) rfl
theorem kw3_168 : Cond.methodLink RX6 314 yX6_bitsOfMean ∈ lw_all := lw_in3 (List.mem_of_getElem? (i := 168) rfl) rfl
theorem kw3_169 : Cond.static yX6_bitsOfMean ∈ lw_all := lw_in3 (List.mem_of_getElem? (i := 169) rfl) rfl
theorem kw3_170 : Cond.code yX6_bitsOfMean cX6_bitsOfMean 4 (some .int) ∈ lw_all := lw_in3 (List.mem_of_getElem? (i := 170) rfl) rfl
theorem kw3_171 : Cond.constantFloat RX6 398 1258291200 ∈ lw_all := lw_in3 (List.mem_of_getElem? (i := 171) rfl) rfl
theorem kw3_172 : Cond.methodLink RX6 318 yX1_codeAt ∈ lw_all := lw_in3 (List.mem_of_getElem? (i := 172) rfl) rfl
theorem kw3_173 : Cond.instanceMethod yX1_codeAt ∈ lw_all := lw_in3 (List.mem_of_getElem? (i := 173) rfl) rfl
theorem kw3_174 : Cond.selects RX1 yX1_codeAt yX1_codeAt ∈ lw_all := lw_in3 (List.mem_of_getElem? (i := 174) rfl) rfl
theorem kw3_175 : Cond.code yX1_codeAt cX1_codeAt 2 (some .int) ∈ lw_all := lw_in3 (List.mem_of_getElem? (i := 175) rfl) rfl
theorem kw3_176 : Cond.methodLink RL 76 yL_strike ∈ lw_all := lw_in3 (List.mem_of_getElem? (i := 176) rfl) rfl
theorem kw3_177 : Cond.static yL_strike ∈ lw_all := lw_in3 (List.mem_of_getElem? (i := 177) rfl) rfl
theorem kw3_179 : Cond.classLink RL 13 "java/lang/IllegalArgumentException" ∈ lw_all := lw_in3 (List.mem_of_getElem? (i := 179) rfl) rfl
theorem kw3_180 : Cond.classLink RL 15 "java/lang/IllegalStateException" ∈ lw_all := lw_in3 (List.mem_of_getElem? (i := 180) rfl) rfl
theorem kw3_181 : Cond.methodLink RL 7 yX6_strike ∈ lw_all := lw_in3 (List.mem_of_getElem? (i := 181) rfl) rfl
theorem kw3_182 : Cond.instanceMethod yX6_strike ∈ lw_all := lw_in3 (List.mem_of_getElem? (i := 182) rfl) rfl
theorem kw3_183 : Cond.selects RX6 yX6_strike yX6_strike ∈ lw_all := lw_in3 (List.mem_of_getElem? (i := 183) rfl) rfl
theorem kw3_184 : Cond.code yX6_strike cX6_strike 2 (some .int) ∈ lw_all := lw_in3 (List.mem_of_getElem? (i := 184) rfl) rfl
theorem kw3_185 : Cond.methodLink RX6 65 yX6_canStrike ∈ lw_all := lw_in3 (List.mem_of_getElem? (i := 185) rfl) rfl
theorem kw3_187 : Cond.instanceMethod yX6_canStrike ∈ lw_all := lw_in3 (List.mem_of_getElem? (i := 187) rfl) rfl
theorem kw3_188 : Cond.code yX6_canStrike cX6_canStrike 2 (some .boolean) ∈ lw_all := lw_in3 (List.mem_of_getElem? (i := 188) rfl) rfl
theorem kw3_189 : Cond.methodLink RX6 321 yX3_isFull ∈ lw_all := lw_in3 (List.mem_of_getElem? (i := 189) rfl) rfl
theorem kw3_190 : Cond.instanceMethod yX3_isFull ∈ lw_all := lw_in3 (List.mem_of_getElem? (i := 190) rfl) rfl
theorem kw3_191 : Cond.selects RX3 yX3_isFull yX3_isFull ∈ lw_all := lw_in3 (List.mem_of_getElem? (i := 191) rfl) rfl
theorem kw3_192 : Cond.code yX3_isFull cX3_isFull 1 (some .boolean) ∈ lw_all := lw_in3 (List.mem_of_getElem? (i := 192) rfl) rfl
theorem kw3_193 : Cond.classLink RX6 69 "java/lang/IllegalStateException" ∈ lw_all := lw_in3 (List.mem_of_getElem? (i := 193) rfl) rfl
theorem kw3_194 : Cond.instantiable "java/lang/IllegalStateException" 6 ∈ lw_all := lw_in3 (List.mem_of_getElem? (i := 194) rfl) rfl
theorem kw3_196 : Cond.selects "java/lang/IllegalStateException" (⟨"java/lang/Throwable", "fillInStackTrace", "(I)Ljava/lang/Throwable;"⟩ : MethodName) (⟨"java/lang/Throwable", "fillInStackTrace", "(I)Ljava/lang/Throwable;"⟩ : MethodName) ∈ lw_all := lw_in3 (List.mem_of_getElem? (i := 196) rfl) rfl
theorem kw3_197 : Cond.lays "java/lang/IllegalStateException" "java/lang/Throwable" "cause" "Ljava/lang/Throwable;" ∈ lw_all := lw_in3 (List.mem_of_getElem? (i := 197) rfl) rfl
theorem kw3_198 : Cond.lays "java/lang/IllegalStateException" "java/lang/Throwable" "stackTrace" "[Ljava/lang/StackTraceElement;" ∈ lw_all := lw_in3 (List.mem_of_getElem? (i := 198) rfl) rfl
theorem kw3_199 : Cond.lays "java/lang/IllegalStateException" "java/lang/Throwable" "suppressedExceptions" "Ljava/util/List;" ∈ lw_all := lw_in3 (List.mem_of_getElem? (i := 199) rfl) rfl
theorem kw3_200 : Cond.lays "java/lang/IllegalStateException" "java/lang/Throwable" "detailMessage" "Ljava/lang/String;" ∈ lw_all := lw_in3 (List.mem_of_getElem? (i := 200) rfl) rfl
theorem kw3_201 : Cond.lays "java/lang/IllegalStateException" "java/lang/Throwable" "backtrace" "Ljava/lang/Object;" ∈ lw_all := lw_in3 (List.mem_of_getElem? (i := 201) rfl) rfl
theorem kw3_203 : Cond.methodLink RX6 73 (⟨"java/lang/IllegalStateException", "<init>", "(Ljava/lang/String;)V"⟩ : MethodName) ∈ lw_all := lw_in3 (List.mem_of_getElem? (i := 203) rfl) rfl
theorem kw3_204 : Cond.instanceMethod (⟨"java/lang/IllegalStateException", "<init>", "(Ljava/lang/String;)V"⟩ : MethodName) ∈ lw_all := lw_in3 (List.mem_of_getElem? (i := 204) rfl) rfl
theorem kw3_205 : Cond.code (⟨"java/lang/IllegalStateException", "<init>", "(Ljava/lang/String;)V"⟩ : MethodName) prog_13_method_2_code 2 (Option.none : Option Jvm.ClassFile.FieldType) ∈ lw_all := lw_in3 (List.mem_of_getElem? (i := 205) rfl) rfl
theorem kw3_206 : Cond.methodLink "java/lang/IllegalStateException" 7 (⟨"java/lang/RuntimeException", "<init>", "(Ljava/lang/String;)V"⟩ : MethodName) ∈ lw_all := lw_in3 (List.mem_of_getElem? (i := 206) rfl) rfl
theorem kw3_207 : Cond.lays "java/lang/IllegalStateException" "java/lang/Throwable" "depth" "I" ∈ lw_all := lw_in3 (List.mem_of_getElem? (i := 207) rfl) rfl
theorem kw3_209 : Cond.methodLink RX6 78 yX6_putOrEat ∈ lw_all := lw_in3 (List.mem_of_getElem? (i := 209) rfl) rfl
theorem kw3_211 : Cond.instanceMethod yX6_putOrEat ∈ lw_all := lw_in3 (List.mem_of_getElem? (i := 211) rfl) rfl
theorem kw3_212 : Cond.code yX6_putOrEat cX6_putOrEat 2 (Option.none : Option Jvm.ClassFile.FieldType) ∈ lw_all := lw_in3 (List.mem_of_getElem? (i := 212) rfl) rfl
theorem kw3_213 : Cond.methodLink RX6 322 yX6_eat ∈ lw_all := lw_in3 (List.mem_of_getElem? (i := 213) rfl) rfl
theorem kw3_215 : Cond.instanceMethod yX6_eat ∈ lw_all := lw_in3 (List.mem_of_getElem? (i := 215) rfl) rfl
theorem kw3_216 : Cond.code yX6_eat cX6_eat 2 (Option.none : Option Jvm.ClassFile.FieldType) ∈ lw_all := lw_in3 (List.mem_of_getElem? (i := 216) rfl) rfl
theorem kw3_217 : Cond.methodLink RX6 325 yJ6_bitCount_0f7a4 ∈ lw_all := lw_in3 (List.mem_of_getElem? (i := 217) rfl) rfl
theorem kw3_218 : Cond.static yJ6_bitCount_0f7a4 ∈ lw_all := lw_in3 (List.mem_of_getElem? (i := 218) rfl) rfl
theorem kw3_219 : Cond.code yJ6_bitCount_0f7a4 cJ6_bitCount_0f7a4 1 (some .int) ∈ lw_all := lw_in3 (List.mem_of_getElem? (i := 219) rfl) rfl
theorem kw3_220 : Cond.constant RJ6 265 1431655765 ∈ lw_all := lw_in3 (List.mem_of_getElem? (i := 220) rfl) rfl
theorem kw3_221 : Cond.constant RJ6 266 858993459 ∈ lw_all := lw_in3 (List.mem_of_getElem? (i := 221) rfl) rfl
theorem kw3_222 : Cond.constant RJ6 267 252645135 ∈ lw_all := lw_in3 (List.mem_of_getElem? (i := 222) rfl) rfl
theorem kw3_223 : Cond.methodLink RL 85 yL_play ∈ lw_all := lw_in3 (List.mem_of_getElem? (i := 223) rfl) rfl
theorem kw3_224 : Cond.static yL_play ∈ lw_all := lw_in3 (List.mem_of_getElem? (i := 224) rfl) rfl
theorem kw3_226 : Cond.methodLink RL 17 yX6_play ∈ lw_all := lw_in3 (List.mem_of_getElem? (i := 226) rfl) rfl
theorem kw3_227 : Cond.instanceMethod yX6_play ∈ lw_all := lw_in3 (List.mem_of_getElem? (i := 227) rfl) rfl
theorem kw3_228 : Cond.selects RX6 yX6_play yX6_play ∈ lw_all := lw_in3 (List.mem_of_getElem? (i := 228) rfl) rfl
theorem kw3_229 : Cond.code yX6_play cX6_play 2 (some .int) ∈ lw_all := lw_in3 (List.mem_of_getElem? (i := 229) rfl) rfl
theorem kw3_230 : Cond.methodLink RX6 88 yX1_tellStrokes ∈ lw_all := lw_in3 (List.mem_of_getElem? (i := 230) rfl) rfl
theorem kw3_231 : Cond.instanceMethod yX1_tellStrokes ∈ lw_all := lw_in3 (List.mem_of_getElem? (i := 231) rfl) rfl
theorem kw3_232 : Cond.selects RX1 yX1_tellStrokes yX1_tellStrokes ∈ lw_all := lw_in3 (List.mem_of_getElem? (i := 232) rfl) rfl
theorem kw3_233 : Cond.code yX1_tellStrokes cX1_tellStrokes 5 (some .boolean) ∈ lw_all := lw_in3 (List.mem_of_getElem? (i := 233) rfl) rfl
theorem kw3_234 : Cond.methodLink RX1 32 yX3_put ∈ lw_all := lw_in3 (List.mem_of_getElem? (i := 234) rfl) rfl
theorem kw3_236 : Cond.methodLink RL 93 yL_pick ∈ lw_all := lw_in3 (List.mem_of_getElem? (i := 236) rfl) rfl
theorem kw3_237 : Cond.static yL_pick ∈ lw_all := lw_in3 (List.mem_of_getElem? (i := 237) rfl) rfl
theorem kw3_239 : Cond.classLink RL 25 "java/lang/IndexOutOfBoundsException" ∈ lw_all := lw_in3 (List.mem_of_getElem? (i := 239) rfl) rfl
theorem kw4_0 : Cond.methodLink RL 21 yX6_pick ∈ lw_all := lw_in4 (List.mem_of_getElem? (i := 0) rfl) rfl
theorem kw4_1 : Cond.instanceMethod yX6_pick ∈ lw_all := lw_in4 (List.mem_of_getElem? (i := 1) rfl) rfl
theorem kw4_2 : Cond.selects RX6 yX6_pick yX6_pick ∈ lw_all := lw_in4 (List.mem_of_getElem? (i := 2) rfl) rfl
theorem kw4_3 : Cond.code yX6_pick cX6_pick 3 (some .int) ∈ lw_all := lw_in4 (List.mem_of_getElem? (i := 3) rfl) rfl
theorem kw4_4 : Cond.methodLink RX6 110 yX2_has ∈ lw_all := lw_in4 (List.mem_of_getElem? (i := 4) rfl) rfl
theorem kw4_5 : Cond.instanceMethod yX2_has ∈ lw_all := lw_in4 (List.mem_of_getElem? (i := 5) rfl) rfl
theorem kw4_6 : Cond.selects RX2 yX2_has yX2_has ∈ lw_all := lw_in4 (List.mem_of_getElem? (i := 6) rfl) rfl
theorem kw4_7 : Cond.code yX2_has cX2_has 2 (some .boolean) ∈ lw_all := lw_in4 (List.mem_of_getElem? (i := 7) rfl) rfl
theorem kw4_8 : Cond.methodLink RX2 30 yX3_has ∈ lw_all := lw_in4 (List.mem_of_getElem? (i := 8) rfl) rfl
theorem kw4_9 : Cond.methodLink RX6 117 yX0_has ∈ lw_all := lw_in4 (List.mem_of_getElem? (i := 9) rfl) rfl
theorem kw4_10 : Cond.classLink RX6 120 "java/lang/IndexOutOfBoundsException" ∈ lw_all := lw_in4 (List.mem_of_getElem? (i := 10) rfl) rfl
theorem kw4_11 : Cond.instantiable "java/lang/IndexOutOfBoundsException" 6 ∈ lw_all := lw_in4 (List.mem_of_getElem? (i := 11) rfl) rfl
theorem kw4_13 : Cond.selects "java/lang/IndexOutOfBoundsException" (⟨"java/lang/Throwable", "fillInStackTrace", "(I)Ljava/lang/Throwable;"⟩ : MethodName) (⟨"java/lang/Throwable", "fillInStackTrace", "(I)Ljava/lang/Throwable;"⟩ : MethodName) ∈ lw_all := lw_in4 (List.mem_of_getElem? (i := 13) rfl) rfl
theorem kw4_14 : Cond.lays "java/lang/IndexOutOfBoundsException" "java/lang/Throwable" "cause" "Ljava/lang/Throwable;" ∈ lw_all := lw_in4 (List.mem_of_getElem? (i := 14) rfl) rfl
theorem kw4_15 : Cond.lays "java/lang/IndexOutOfBoundsException" "java/lang/Throwable" "stackTrace" "[Ljava/lang/StackTraceElement;" ∈ lw_all := lw_in4 (List.mem_of_getElem? (i := 15) rfl) rfl
theorem kw4_16 : Cond.lays "java/lang/IndexOutOfBoundsException" "java/lang/Throwable" "suppressedExceptions" "Ljava/util/List;" ∈ lw_all := lw_in4 (List.mem_of_getElem? (i := 16) rfl) rfl
theorem kw4_17 : Cond.lays "java/lang/IndexOutOfBoundsException" "java/lang/Throwable" "detailMessage" "Ljava/lang/String;" ∈ lw_all := lw_in4 (List.mem_of_getElem? (i := 17) rfl) rfl
theorem kw4_18 : Cond.lays "java/lang/IndexOutOfBoundsException" "java/lang/Throwable" "backtrace" "Ljava/lang/Object;" ∈ lw_all := lw_in4 (List.mem_of_getElem? (i := 18) rfl) rfl
theorem kw4_20 : Cond.methodLink RX6 124 (⟨"java/lang/IndexOutOfBoundsException", "<init>", "(Ljava/lang/String;)V"⟩ : MethodName) ∈ lw_all := lw_in4 (List.mem_of_getElem? (i := 20) rfl) rfl
theorem kw4_21 : Cond.instanceMethod (⟨"java/lang/IndexOutOfBoundsException", "<init>", "(Ljava/lang/String;)V"⟩ : MethodName) ∈ lw_all := lw_in4 (List.mem_of_getElem? (i := 21) rfl) rfl
theorem kw4_22 : Cond.code (⟨"java/lang/IndexOutOfBoundsException", "<init>", "(Ljava/lang/String;)V"⟩ : MethodName) prog_14_method_2_code 2 (Option.none : Option Jvm.ClassFile.FieldType) ∈ lw_all := lw_in4 (List.mem_of_getElem? (i := 22) rfl) rfl
theorem kw4_23 : Cond.methodLink "java/lang/IndexOutOfBoundsException" 7 (⟨"java/lang/RuntimeException", "<init>", "(Ljava/lang/String;)V"⟩ : MethodName) ∈ lw_all := lw_in4 (List.mem_of_getElem? (i := 23) rfl) rfl
theorem kw4_24 : Cond.lays "java/lang/IndexOutOfBoundsException" "java/lang/Throwable" "depth" "I" ∈ lw_all := lw_in4 (List.mem_of_getElem? (i := 24) rfl) rfl
theorem kw4_27 : Cond.methodLink RX6 134 yX0_pickOnce ∈ lw_all := lw_in4 (List.mem_of_getElem? (i := 27) rfl) rfl
theorem kw4_28 : Cond.instanceMethod yX0_pickOnce ∈ lw_all := lw_in4 (List.mem_of_getElem? (i := 28) rfl) rfl
theorem kw4_29 : Cond.selects RX0 yX0_pickOnce yX0_pickOnce ∈ lw_all := lw_in4 (List.mem_of_getElem? (i := 29) rfl) rfl
theorem kw4_30 : Cond.code yX0_pickOnce cX0_pickOnce 2 (Option.none : Option Jvm.ClassFile.FieldType) ∈ lw_all := lw_in4 (List.mem_of_getElem? (i := 30) rfl) rfl
theorem kw4_31 : Cond.methodLink RL 97 yL_define ∈ lw_all := lw_in4 (List.mem_of_getElem? (i := 31) rfl) rfl
theorem kw4_32 : Cond.static yL_define ∈ lw_all := lw_in4 (List.mem_of_getElem? (i := 32) rfl) rfl
theorem kw4_34 : Cond.methodLink RL 27 yX6_define ∈ lw_all := lw_in4 (List.mem_of_getElem? (i := 34) rfl) rfl
theorem kw4_35 : Cond.instanceMethod yX6_define ∈ lw_all := lw_in4 (List.mem_of_getElem? (i := 35) rfl) rfl
theorem kw4_36 : Cond.selects RX6 yX6_define yX6_define ∈ lw_all := lw_in4 (List.mem_of_getElem? (i := 36) rfl) rfl
theorem kw4_37 : Cond.code yX6_define cX6_define 4 (some .int) ∈ lw_all := lw_in4 (List.mem_of_getElem? (i := 37) rfl) rfl
theorem kw4_38 : Cond.methodLink RX6 142 yX6_canBeRow ∈ lw_all := lw_in4 (List.mem_of_getElem? (i := 38) rfl) rfl
theorem kw4_39 : Cond.static yX6_canBeRow ∈ lw_all := lw_in4 (List.mem_of_getElem? (i := 39) rfl) rfl
theorem kw4_40 : Cond.code yX6_canBeRow cX6_canBeRow 2 (some .boolean) ∈ lw_all := lw_in4 (List.mem_of_getElem? (i := 40) rfl) rfl
theorem kw4_42 : Cond.methodLink RX6 151 yX0_isFull ∈ lw_all := lw_in4 (List.mem_of_getElem? (i := 42) rfl) rfl
theorem kw4_43 : Cond.instanceMethod yX0_isFull ∈ lw_all := lw_in4 (List.mem_of_getElem? (i := 43) rfl) rfl
theorem kw4_44 : Cond.selects RX0 yX0_isFull yX0_isFull ∈ lw_all := lw_in4 (List.mem_of_getElem? (i := 44) rfl) rfl
theorem kw4_45 : Cond.code yX0_isFull cX0_isFull 1 (some .boolean) ∈ lw_all := lw_in4 (List.mem_of_getElem? (i := 45) rfl) rfl
theorem kw4_46 : Cond.methodLink RX6 155 yX0_hasBoth ∈ lw_all := lw_in4 (List.mem_of_getElem? (i := 46) rfl) rfl
theorem kw4_47 : Cond.instanceMethod yX0_hasBoth ∈ lw_all := lw_in4 (List.mem_of_getElem? (i := 47) rfl) rfl
theorem kw4_48 : Cond.selects RX0 yX0_hasBoth yX0_hasBoth ∈ lw_all := lw_in4 (List.mem_of_getElem? (i := 48) rfl) rfl
theorem kw4_49 : Cond.code yX0_hasBoth cX0_hasBoth 5 (some .boolean) ∈ lw_all := lw_in4 (List.mem_of_getElem? (i := 49) rfl) rfl
theorem kw4_51 : Cond.methodLink RX6 161 yX0_put ∈ lw_all := lw_in4 (List.mem_of_getElem? (i := 51) rfl) rfl
theorem kw4_52 : Cond.instanceMethod yX0_put ∈ lw_all := lw_in4 (List.mem_of_getElem? (i := 52) rfl) rfl
theorem kw4_53 : Cond.selects RX0 yX0_put yX0_put ∈ lw_all := lw_in4 (List.mem_of_getElem? (i := 53) rfl) rfl
theorem kw4_54 : Cond.code yX0_put cX0_put 4 (Option.none : Option Jvm.ClassFile.FieldType) ∈ lw_all := lw_in4 (List.mem_of_getElem? (i := 54) rfl) rfl
theorem kw4_55 : Cond.methodLink RL 100 yL_remove ∈ lw_all := lw_in4 (List.mem_of_getElem? (i := 55) rfl) rfl
theorem kw4_56 : Cond.static yL_remove ∈ lw_all := lw_in4 (List.mem_of_getElem? (i := 56) rfl) rfl
theorem kw4_58 : Cond.methodLink RL 30 yX6_remove ∈ lw_all := lw_in4 (List.mem_of_getElem? (i := 58) rfl) rfl
theorem kw4_59 : Cond.instanceMethod yX6_remove ∈ lw_all := lw_in4 (List.mem_of_getElem? (i := 59) rfl) rfl
theorem kw4_60 : Cond.selects RX6 yX6_remove yX6_remove ∈ lw_all := lw_in4 (List.mem_of_getElem? (i := 60) rfl) rfl
theorem kw4_61 : Cond.code yX6_remove cX6_remove 2 (some .int) ∈ lw_all := lw_in4 (List.mem_of_getElem? (i := 61) rfl) rfl
theorem kw4_63 : Cond.methodLink RX6 168 yX0_takeAway ∈ lw_all := lw_in4 (List.mem_of_getElem? (i := 63) rfl) rfl
theorem kw4_64 : Cond.instanceMethod yX0_takeAway ∈ lw_all := lw_in4 (List.mem_of_getElem? (i := 64) rfl) rfl
theorem kw4_65 : Cond.selects RX0 yX0_takeAway yX0_takeAway ∈ lw_all := lw_in4 (List.mem_of_getElem? (i := 65) rfl) rfl
theorem kw4_66 : Cond.code yX0_takeAway cX0_takeAway 3 (Option.none : Option Jvm.ClassFile.FieldType) ∈ lw_all := lw_in4 (List.mem_of_getElem? (i := 66) rfl) rfl
theorem kw4_67 : Cond.methodLink RL 103 yL_set ∈ lw_all := lw_in4 (List.mem_of_getElem? (i := 67) rfl) rfl
theorem kw4_68 : Cond.static yL_set ∈ lw_all := lw_in4 (List.mem_of_getElem? (i := 68) rfl) rfl
theorem kw4_70 : Cond.methodLink RL 33 yX6_set ∈ lw_all := lw_in4 (List.mem_of_getElem? (i := 70) rfl) rfl
theorem kw4_71 : Cond.instanceMethod yX6_set ∈ lw_all := lw_in4 (List.mem_of_getElem? (i := 71) rfl) rfl
theorem kw4_72 : Cond.selects RX6 yX6_set yX6_set ∈ lw_all := lw_in4 (List.mem_of_getElem? (i := 72) rfl) rfl
theorem kw4_73 : Cond.code yX6_set cX6_set 4 (some .int) ∈ lw_all := lw_in4 (List.mem_of_getElem? (i := 73) rfl) rfl
theorem kw4_75 : Cond.methodLink RX6 173 yX6_canBeSet ∈ lw_all := lw_in4 (List.mem_of_getElem? (i := 75) rfl) rfl
theorem kw4_76 : Cond.static yX6_canBeSet ∈ lw_all := lw_in4 (List.mem_of_getElem? (i := 76) rfl) rfl
theorem kw4_77 : Cond.code yX6_canBeSet cX6_canBeSet 2 (some .boolean) ∈ lw_all := lw_in4 (List.mem_of_getElem? (i := 77) rfl) rfl
theorem kw4_79 : Cond.methodLink RL 106 yL_append ∈ lw_all := lw_in4 (List.mem_of_getElem? (i := 79) rfl) rfl
theorem kw4_80 : Cond.static yL_append ∈ lw_all := lw_in4 (List.mem_of_getElem? (i := 80) rfl) rfl
theorem kw4_82 : Cond.methodLink RL 36 yX6_append ∈ lw_all := lw_in4 (List.mem_of_getElem? (i := 82) rfl) rfl
theorem kw4_83 : Cond.instanceMethod yX6_append ∈ lw_all := lw_in4 (List.mem_of_getElem? (i := 83) rfl) rfl
theorem kw4_84 : Cond.selects RX6 yX6_append yX6_append ∈ lw_all := lw_in4 (List.mem_of_getElem? (i := 84) rfl) rfl
theorem kw4_85 : Cond.code yX6_append cX6_append 2 (some .int) ∈ lw_all := lw_in4 (List.mem_of_getElem? (i := 85) rfl) rfl
theorem kw4_87 : Cond.methodLink RX6 191 yX1_isFull ∈ lw_all := lw_in4 (List.mem_of_getElem? (i := 87) rfl) rfl
theorem kw4_88 : Cond.instanceMethod yX1_isFull ∈ lw_all := lw_in4 (List.mem_of_getElem? (i := 88) rfl) rfl
theorem kw4_89 : Cond.selects RX1 yX1_isFull yX1_isFull ∈ lw_all := lw_in4 (List.mem_of_getElem? (i := 89) rfl) rfl
theorem kw4_90 : Cond.code yX1_isFull cX1_isFull 1 (some .boolean) ∈ lw_all := lw_in4 (List.mem_of_getElem? (i := 90) rfl) rfl
theorem kw4_91 : Cond.methodLink RX1 24 yX3_isFull ∈ lw_all := lw_in4 (List.mem_of_getElem? (i := 91) rfl) rfl
theorem kw4_93 : Cond.methodLink RX6 194 yX1_put ∈ lw_all := lw_in4 (List.mem_of_getElem? (i := 93) rfl) rfl
theorem kw4_94 : Cond.instanceMethod yX1_put ∈ lw_all := lw_in4 (List.mem_of_getElem? (i := 94) rfl) rfl
theorem kw4_95 : Cond.selects RX1 yX1_put yX1_put ∈ lw_all := lw_in4 (List.mem_of_getElem? (i := 95) rfl) rfl
theorem kw4_96 : Cond.code yX1_put cX1_put 2 (Option.none : Option Jvm.ClassFile.FieldType) ∈ lw_all := lw_in4 (List.mem_of_getElem? (i := 96) rfl) rfl
theorem kw4_97 : Cond.methodLink RL 121 yL_goBack ∈ lw_all := lw_in4 (List.mem_of_getElem? (i := 97) rfl) rfl
theorem kw4_98 : Cond.static yL_goBack ∈ lw_all := lw_in4 (List.mem_of_getElem? (i := 98) rfl) rfl
theorem kw4_100 : Cond.methodLink RL 39 yX6_goBack ∈ lw_all := lw_in4 (List.mem_of_getElem? (i := 100) rfl) rfl
theorem kw4_101 : Cond.instanceMethod yX6_goBack ∈ lw_all := lw_in4 (List.mem_of_getElem? (i := 101) rfl) rfl
theorem kw4_102 : Cond.selects RX6 yX6_goBack yX6_goBack ∈ lw_all := lw_in4 (List.mem_of_getElem? (i := 102) rfl) rfl
theorem kw4_103 : Cond.code yX6_goBack cX6_goBack 1 (some .int) ∈ lw_all := lw_in4 (List.mem_of_getElem? (i := 103) rfl) rfl
theorem kw4_105 : Cond.methodLink RL 124 yL_undo ∈ lw_all := lw_in4 (List.mem_of_getElem? (i := 105) rfl) rfl
theorem kw4_106 : Cond.static yL_undo ∈ lw_all := lw_in4 (List.mem_of_getElem? (i := 106) rfl) rfl
theorem kw4_108 : Cond.methodLink RL 42 yX6_undo ∈ lw_all := lw_in4 (List.mem_of_getElem? (i := 108) rfl) rfl
theorem kw4_109 : Cond.instanceMethod yX6_undo ∈ lw_all := lw_in4 (List.mem_of_getElem? (i := 109) rfl) rfl
theorem kw4_110 : Cond.selects RX6 yX6_undo yX6_undo ∈ lw_all := lw_in4 (List.mem_of_getElem? (i := 110) rfl) rfl
theorem kw4_111 : Cond.code yX6_undo cX6_undo 1 (some .int) ∈ lw_all := lw_in4 (List.mem_of_getElem? (i := 111) rfl) rfl
theorem kw4_113 : Cond.methodLink RX6 212 yX4_popInto ∈ lw_all := lw_in4 (List.mem_of_getElem? (i := 113) rfl) rfl
theorem kw4_114 : Cond.instanceMethod yX4_popInto ∈ lw_all := lw_in4 (List.mem_of_getElem? (i := 114) rfl) rfl
theorem kw4_115 : Cond.selects RX4 yX4_popInto yX4_popInto ∈ lw_all := lw_in4 (List.mem_of_getElem? (i := 115) rfl) rfl
theorem kw4_116 : Cond.code yX4_popInto cX4_popInto 3 (Option.none : Option Jvm.ClassFile.FieldType) ∈ lw_all := lw_in4 (List.mem_of_getElem? (i := 116) rfl) rfl
theorem kw4_117 : Cond.methodLink RL 127 yL_stroke ∈ lw_all := lw_in4 (List.mem_of_getElem? (i := 117) rfl) rfl
theorem kw4_118 : Cond.static yL_stroke ∈ lw_all := lw_in4 (List.mem_of_getElem? (i := 118) rfl) rfl
theorem kw4_120 : Cond.methodLink RL 45 yX6_stroke ∈ lw_all := lw_in4 (List.mem_of_getElem? (i := 120) rfl) rfl
theorem kw4_121 : Cond.instanceMethod yX6_stroke ∈ lw_all := lw_in4 (List.mem_of_getElem? (i := 121) rfl) rfl
theorem kw4_122 : Cond.selects RX6 yX6_stroke yX6_stroke ∈ lw_all := lw_in4 (List.mem_of_getElem? (i := 122) rfl) rfl
theorem kw4_123 : Cond.code yX6_stroke cX6_stroke 2 (some .int) ∈ lw_all := lw_in4 (List.mem_of_getElem? (i := 123) rfl) rfl
theorem kw4_124 : Cond.methodLink RX6 215 yX3_has ∈ lw_all := lw_in4 (List.mem_of_getElem? (i := 124) rfl) rfl
theorem kw4_126 : Cond.methodLink RL 130 yL_item ∈ lw_all := lw_in4 (List.mem_of_getElem? (i := 126) rfl) rfl
theorem kw4_127 : Cond.static yL_item ∈ lw_all := lw_in4 (List.mem_of_getElem? (i := 127) rfl) rfl
theorem kw4_129 : Cond.methodLink RL 48 yX6_item ∈ lw_all := lw_in4 (List.mem_of_getElem? (i := 129) rfl) rfl
theorem kw4_130 : Cond.instanceMethod yX6_item ∈ lw_all := lw_in4 (List.mem_of_getElem? (i := 130) rfl) rfl
theorem kw4_131 : Cond.selects RX6 yX6_item yX6_item ∈ lw_all := lw_in4 (List.mem_of_getElem? (i := 131) rfl) rfl
theorem kw4_132 : Cond.code yX6_item cX6_item 3 (some .int) ∈ lw_all := lw_in4 (List.mem_of_getElem? (i := 132) rfl) rfl
theorem kw4_135 : Cond.methodLink RL 133 yL_entry ∈ lw_all := lw_in4 (List.mem_of_getElem? (i := 135) rfl) rfl
theorem kw4_136 : Cond.static yL_entry ∈ lw_all := lw_in4 (List.mem_of_getElem? (i := 136) rfl) rfl
theorem kw4_138 : Cond.methodLink RL 51 yX6_entry ∈ lw_all := lw_in4 (List.mem_of_getElem? (i := 138) rfl) rfl
theorem kw4_139 : Cond.instanceMethod yX6_entry ∈ lw_all := lw_in4 (List.mem_of_getElem? (i := 139) rfl) rfl
theorem kw4_140 : Cond.selects RX6 yX6_entry yX6_entry ∈ lw_all := lw_in4 (List.mem_of_getElem? (i := 140) rfl) rfl
theorem kw4_141 : Cond.code yX6_entry cX6_entry 3 (some .int) ∈ lw_all := lw_in4 (List.mem_of_getElem? (i := 141) rfl) rfl
theorem kw4_143 : Cond.methodLink RL 136 yL_count ∈ lw_all := lw_in4 (List.mem_of_getElem? (i := 143) rfl) rfl
theorem kw4_144 : Cond.static yL_count ∈ lw_all := lw_in4 (List.mem_of_getElem? (i := 144) rfl) rfl
theorem kw4_146 : Cond.methodLink RL 54 yX6_count ∈ lw_all := lw_in4 (List.mem_of_getElem? (i := 146) rfl) rfl
theorem kw4_147 : Cond.instanceMethod yX6_count ∈ lw_all := lw_in4 (List.mem_of_getElem? (i := 147) rfl) rfl
theorem kw4_148 : Cond.selects RX6 yX6_count yX6_count ∈ lw_all := lw_in4 (List.mem_of_getElem? (i := 148) rfl) rfl
theorem kw4_149 : Cond.code yX6_count cX6_count 2 (some .int) ∈ lw_all := lw_in4 (List.mem_of_getElem? (i := 149) rfl) rfl
theorem kw4_150 : Cond.methodLink RL 139 yL_setting ∈ lw_all := lw_in4 (List.mem_of_getElem? (i := 150) rfl) rfl
theorem kw4_151 : Cond.static yL_setting ∈ lw_all := lw_in4 (List.mem_of_getElem? (i := 151) rfl) rfl
theorem kw4_153 : Cond.methodLink RL 57 yX6_setting ∈ lw_all := lw_in4 (List.mem_of_getElem? (i := 153) rfl) rfl
theorem kw4_154 : Cond.instanceMethod yX6_setting ∈ lw_all := lw_in4 (List.mem_of_getElem? (i := 154) rfl) rfl
theorem kw4_155 : Cond.selects RX6 yX6_setting yX6_setting ∈ lw_all := lw_in4 (List.mem_of_getElem? (i := 155) rfl) rfl
theorem kw4_156 : Cond.code yX6_setting cX6_setting 2 (some .int) ∈ lw_all := lw_in4 (List.mem_of_getElem? (i := 156) rfl) rfl
theorem kw4_157 : Cond.methodLink RL 142 yL_ifStruck ∈ lw_all := lw_in4 (List.mem_of_getElem? (i := 157) rfl) rfl
theorem kw4_158 : Cond.static yL_ifStruck ∈ lw_all := lw_in4 (List.mem_of_getElem? (i := 158) rfl) rfl
theorem kw4_160 : Cond.methodLink RL 60 yX6_ifStruck ∈ lw_all := lw_in4 (List.mem_of_getElem? (i := 160) rfl) rfl
theorem kw4_161 : Cond.methodLink RL 145 yL_begun ∈ lw_all := lw_in4 (List.mem_of_getElem? (i := 161) rfl) rfl
theorem kw4_162 : Cond.static yL_begun ∈ lw_all := lw_in4 (List.mem_of_getElem? (i := 162) rfl) rfl
theorem kw4_164 : Cond.methodLink RL 63 yX6_begun ∈ lw_all := lw_in4 (List.mem_of_getElem? (i := 164) rfl) rfl
theorem kw4_165 : Cond.methodLink RL 148 yL_shortest ∈ lw_all := lw_in4 (List.mem_of_getElem? (i := 165) rfl) rfl
theorem kw4_166 : Cond.static yL_shortest ∈ lw_all := lw_in4 (List.mem_of_getElem? (i := 166) rfl) rfl
theorem kw4_168 : Cond.methodLink RL 66 yX6_shortest ∈ lw_all := lw_in4 (List.mem_of_getElem? (i := 168) rfl) rfl
theorem kw4_169 : Cond.methodLink RL 151 yL_behind ∈ lw_all := lw_in4 (List.mem_of_getElem? (i := 169) rfl) rfl
theorem kw4_170 : Cond.static yL_behind ∈ lw_all := lw_in4 (List.mem_of_getElem? (i := 170) rfl) rfl
theorem kw4_172 : Cond.methodLink RL 69 yX6_behind ∈ lw_all := lw_in4 (List.mem_of_getElem? (i := 172) rfl) rfl
theorem kw4_173 : Cond.instanceMethod yX6_behind ∈ lw_all := lw_in4 (List.mem_of_getElem? (i := 173) rfl) rfl
theorem kw4_174 : Cond.selects RX6 yX6_behind yX6_behind ∈ lw_all := lw_in4 (List.mem_of_getElem? (i := 174) rfl) rfl
theorem kw4_175 : Cond.code yX6_behind cX6_behind 3 (some .int) ∈ lw_all := lw_in4 (List.mem_of_getElem? (i := 175) rfl) rfl
theorem kw4_176 : Cond.classLink RL 73 RX7 ∈ lw_all := lw_in4 (List.mem_of_getElem? (i := 176) rfl) rfl
theorem kw4_177 : Cond.instantiable RX7 17 ∈ lw_all := lw_in4 (List.mem_of_getElem? (i := 177) rfl) rfl
theorem kw4_178 : Cond.methodLink RL 75 yX7_init ∈ lw_all := lw_in4 (List.mem_of_getElem? (i := 178) rfl) rfl
theorem kw4_179 : Cond.instanceMethod yX7_init ∈ lw_all := lw_in4 (List.mem_of_getElem? (i := 179) rfl) rfl
theorem kw4_180 : Cond.code yX7_init cX7_init 1 (Option.none : Option Jvm.ClassFile.FieldType) ∈ lw_all := lw_in4 (List.mem_of_getElem? (i := 180) rfl) rfl
theorem kw4_181 : Cond.methodLink RX7 1 (⟨"java/lang/Object", "<init>", "()V"⟩ : MethodName) ∈ lw_all := lw_in4 (List.mem_of_getElem? (i := 181) rfl) rfl
theorem kw4_182 : Cond.fieldLink RX7 34 "StenoChordsModel" "thrown" "I" ∈ lw_all := lw_in4 (List.mem_of_getElem? (i := 182) rfl) rfl
theorem kw4_183 : Cond.fieldLink RX7 7 "StenoChordsModel" "s" "[I" ∈ lw_all := lw_in4 (List.mem_of_getElem? (i := 183) rfl) rfl
theorem kw4_184 : Cond.fieldLink RX7 106 "StenoChordsModel" "saved" "I" ∈ lw_all := lw_in4 (List.mem_of_getElem? (i := 184) rfl) rfl
theorem kw4_185 : Cond.fieldLink RX7 129 "StenoChordsModel" "isKept" "Z" ∈ lw_all := lw_in4 (List.mem_of_getElem? (i := 185) rfl) rfl
theorem kw4_186 : Cond.fieldLink RX7 13 "StenoChordsModel" "text" "[I" ∈ lw_all := lw_in4 (List.mem_of_getElem? (i := 186) rfl) rfl
theorem kw4_187 : Cond.fieldLink RX7 96 "StenoChordsModel" "length" "I" ∈ lw_all := lw_in4 (List.mem_of_getElem? (i := 187) rfl) rfl
theorem kw4_188 : Cond.fieldLink RX7 119 "StenoChordsModel" "at" "I" ∈ lw_all := lw_in4 (List.mem_of_getElem? (i := 188) rfl) rfl
theorem kw4_189 : Cond.fieldLink RX7 16 "StenoChordsModel" "told" "[I" ∈ lw_all := lw_in4 (List.mem_of_getElem? (i := 189) rfl) rfl
theorem kw4_190 : Cond.fieldLink RX7 93 "StenoChordsModel" "tells" "I" ∈ lw_all := lw_in4 (List.mem_of_getElem? (i := 190) rfl) rfl
theorem kw4_191 : Cond.fieldLink RX7 19 "StenoChordsModel" "sheet" "[I" ∈ lw_all := lw_in4 (List.mem_of_getElem? (i := 191) rfl) rfl
theorem kw4_192 : Cond.fieldLink RX7 54 "StenoChordsModel" "many" "I" ∈ lw_all := lw_in4 (List.mem_of_getElem? (i := 192) rfl) rfl
theorem kw4_193 : Cond.fieldLink RX7 22 "StenoChordsModel" "starts" "[I" ∈ lw_all := lw_in4 (List.mem_of_getElem? (i := 193) rfl) rfl
theorem kw4_194 : Cond.fieldLink RX7 25 "StenoChordsModel" "sizes" "[I" ∈ lw_all := lw_in4 (List.mem_of_getElem? (i := 194) rfl) rfl
theorem kw4_195 : Cond.fieldLink RX7 28 "StenoChordsModel" "stands" "[I" ∈ lw_all := lw_in4 (List.mem_of_getElem? (i := 195) rfl) rfl
theorem kw4_196 : Cond.fieldLink RX7 64 "StenoChordsModel" "items" "I" ∈ lw_all := lw_in4 (List.mem_of_getElem? (i := 196) rfl) rfl
theorem kw4_197 : Cond.fieldLink RX7 31 "StenoChordsModel" "fewest" "[I" ∈ lw_all := lw_in4 (List.mem_of_getElem? (i := 197) rfl) rfl
theorem kw4_198 : Cond.fieldLink RX7 179 "StenoChordsModel" "hash" "J" ∈ lw_all := lw_in4 (List.mem_of_getElem? (i := 198) rfl) rfl
theorem kw4_199 : Cond.lays RX7 "StenoChordsModel" "thrown" "I" ∈ lw_all := lw_in4 (List.mem_of_getElem? (i := 199) rfl) rfl
theorem kw4_201 : Cond.laysFinal RX7 "StenoChordsModel" "s" "[I" ∈ lw_all := lw_in4 (List.mem_of_getElem? (i := 201) rfl) rfl
theorem kw4_203 : Cond.lays RX7 "StenoChordsModel" "saved" "I" ∈ lw_all := lw_in4 (List.mem_of_getElem? (i := 203) rfl) rfl
theorem kw4_205 : Cond.lays RX7 "StenoChordsModel" "isKept" "Z" ∈ lw_all := lw_in4 (List.mem_of_getElem? (i := 205) rfl) rfl
theorem kw4_207 : Cond.laysFinal RX7 "StenoChordsModel" "text" "[I" ∈ lw_all := lw_in4 (List.mem_of_getElem? (i := 207) rfl) rfl
theorem kw4_209 : Cond.lays RX7 "StenoChordsModel" "length" "I" ∈ lw_all := lw_in4 (List.mem_of_getElem? (i := 209) rfl) rfl
theorem kw4_211 : Cond.lays RX7 "StenoChordsModel" "at" "I" ∈ lw_all := lw_in4 (List.mem_of_getElem? (i := 211) rfl) rfl
theorem kw4_213 : Cond.laysFinal RX7 "StenoChordsModel" "told" "[I" ∈ lw_all := lw_in4 (List.mem_of_getElem? (i := 213) rfl) rfl
theorem kw4_215 : Cond.lays RX7 "StenoChordsModel" "tells" "I" ∈ lw_all := lw_in4 (List.mem_of_getElem? (i := 215) rfl) rfl
theorem kw4_217 : Cond.laysFinal RX7 "StenoChordsModel" "sheet" "[I" ∈ lw_all := lw_in4 (List.mem_of_getElem? (i := 217) rfl) rfl
theorem kw4_219 : Cond.lays RX7 "StenoChordsModel" "many" "I" ∈ lw_all := lw_in4 (List.mem_of_getElem? (i := 219) rfl) rfl
theorem kw4_221 : Cond.laysFinal RX7 "StenoChordsModel" "starts" "[I" ∈ lw_all := lw_in4 (List.mem_of_getElem? (i := 221) rfl) rfl
theorem kw4_223 : Cond.laysFinal RX7 "StenoChordsModel" "sizes" "[I" ∈ lw_all := lw_in4 (List.mem_of_getElem? (i := 223) rfl) rfl
theorem kw4_225 : Cond.laysFinal RX7 "StenoChordsModel" "stands" "[I" ∈ lw_all := lw_in4 (List.mem_of_getElem? (i := 225) rfl) rfl
theorem kw4_227 : Cond.lays RX7 "StenoChordsModel" "items" "I" ∈ lw_all := lw_in4 (List.mem_of_getElem? (i := 227) rfl) rfl
theorem kw4_229 : Cond.laysFinal RX7 "StenoChordsModel" "fewest" "[I" ∈ lw_all := lw_in4 (List.mem_of_getElem? (i := 229) rfl) rfl
theorem kw4_231 : Cond.lays RX7 "StenoChordsModel" "hash" "J" ∈ lw_all := lw_in4 (List.mem_of_getElem? (i := 231) rfl) rfl
theorem kw4_234 : Cond.methodLink RL 82 yX7_thrown ∈ lw_all := lw_in4 (List.mem_of_getElem? (i := 234) rfl) rfl
theorem kw4_235 : Cond.instanceMethod yX7_thrown ∈ lw_all := lw_in4 (List.mem_of_getElem? (i := 235) rfl) rfl
theorem kw4_236 : Cond.selects RX7 yX7_thrown yX7_thrown ∈ lw_all := lw_in4 (List.mem_of_getElem? (i := 236) rfl) rfl
theorem kw4_237 : Cond.code yX7_thrown cX7_thrown 1 (some .int) ∈ lw_all := lw_in4 (List.mem_of_getElem? (i := 237) rfl) rfl
theorem kw4_238 : Cond.methodLink RL 81 yX7_strike ∈ lw_all := lw_in4 (List.mem_of_getElem? (i := 238) rfl) rfl
theorem kw4_239 : Cond.instanceMethod yX7_strike ∈ lw_all := lw_in4 (List.mem_of_getElem? (i := 239) rfl) rfl
theorem kw5_0 : Cond.selects RX7 yX7_strike yX7_strike ∈ lw_all := lw_in5 (List.mem_of_getElem? (i := 0) rfl) rfl
theorem kw5_1 : Cond.code yX7_strike cX7_strike 2 (some .int) ∈ lw_all := lw_in5 (List.mem_of_getElem? (i := 1) rfl) rfl
theorem kw5_2 : Cond.methodLink RX7 38 yX7_in ∈ lw_all := lw_in5 (List.mem_of_getElem? (i := 2) rfl) rfl
theorem kw5_3 : Cond.static yX7_in ∈ lw_all := lw_in5 (List.mem_of_getElem? (i := 3) rfl) rfl
theorem kw5_4 : Cond.code yX7_in cX7_in 3 (some .boolean) ∈ lw_all := lw_in5 (List.mem_of_getElem? (i := 4) rfl) rfl
theorem kw5_5 : Cond.methodLink RX7 76 yX7_canStrike ∈ lw_all := lw_in5 (List.mem_of_getElem? (i := 5) rfl) rfl
theorem kw5_7 : Cond.instanceMethod yX7_canStrike ∈ lw_all := lw_in5 (List.mem_of_getElem? (i := 7) rfl) rfl
theorem kw5_8 : Cond.code yX7_canStrike cX7_canStrike 2 (some .boolean) ∈ lw_all := lw_in5 (List.mem_of_getElem? (i := 8) rfl) rfl
theorem kw5_9 : Cond.methodLink RX7 79 yX7_holds ∈ lw_all := lw_in5 (List.mem_of_getElem? (i := 9) rfl) rfl
theorem kw5_11 : Cond.instanceMethod yX7_holds ∈ lw_all := lw_in5 (List.mem_of_getElem? (i := 11) rfl) rfl
theorem kw5_12 : Cond.code yX7_holds cX7_holds 2 (some .boolean) ∈ lw_all := lw_in5 (List.mem_of_getElem? (i := 12) rfl) rfl
theorem kw5_13 : Cond.methodLink RX7 82 yX7_save ∈ lw_all := lw_in5 (List.mem_of_getElem? (i := 13) rfl) rfl
theorem kw5_15 : Cond.instanceMethod yX7_save ∈ lw_all := lw_in5 (List.mem_of_getElem? (i := 15) rfl) rfl
theorem kw5_16 : Cond.code yX7_save cX7_save 2 (Option.none : Option Jvm.ClassFile.FieldType) ∈ lw_all := lw_in5 (List.mem_of_getElem? (i := 16) rfl) rfl
theorem kw5_17 : Cond.methodLink RX7 109 yX7_copies ∈ lw_all := lw_in5 (List.mem_of_getElem? (i := 17) rfl) rfl
theorem kw5_19 : Cond.instanceMethod yX7_copies ∈ lw_all := lw_in5 (List.mem_of_getElem? (i := 19) rfl) rfl
theorem kw5_20 : Cond.code yX7_copies cX7_copies 4 (Option.none : Option Jvm.ClassFile.FieldType) ∈ lw_all := lw_in5 (List.mem_of_getElem? (i := 20) rfl) rfl
theorem kw5_21 : Cond.methodLink RX7 85 yX7_strikes ∈ lw_all := lw_in5 (List.mem_of_getElem? (i := 21) rfl) rfl
theorem kw5_23 : Cond.instanceMethod yX7_strikes ∈ lw_all := lw_in5 (List.mem_of_getElem? (i := 23) rfl) rfl
theorem kw5_24 : Cond.code yX7_strikes cX7_strikes 3 (Option.none : Option Jvm.ClassFile.FieldType) ∈ lw_all := lw_in5 (List.mem_of_getElem? (i := 24) rfl) rfl
theorem kw5_25 : Cond.methodLink RX7 50 yX7_keysOf ∈ lw_all := lw_in5 (List.mem_of_getElem? (i := 25) rfl) rfl
theorem kw5_26 : Cond.static yX7_keysOf ∈ lw_all := lw_in5 (List.mem_of_getElem? (i := 26) rfl) rfl
theorem kw5_27 : Cond.code yX7_keysOf cX7_keysOf 3 (some .int) ∈ lw_all := lw_in5 (List.mem_of_getElem? (i := 27) rfl) rfl
theorem kw5_28 : Cond.methodLink RX7 73 yX7_readsPaper ∈ lw_all := lw_in5 (List.mem_of_getElem? (i := 28) rfl) rfl
theorem kw5_30 : Cond.instanceMethod yX7_readsPaper ∈ lw_all := lw_in5 (List.mem_of_getElem? (i := 30) rfl) rfl
theorem kw5_31 : Cond.code yX7_readsPaper cX7_readsPaper 2 (Option.none : Option Jvm.ClassFile.FieldType) ∈ lw_all := lw_in5 (List.mem_of_getElem? (i := 31) rfl) rfl
theorem kw5_32 : Cond.methodLink RX7 70 yX7_reads ∈ lw_all := lw_in5 (List.mem_of_getElem? (i := 32) rfl) rfl
theorem kw5_34 : Cond.instanceMethod yX7_reads ∈ lw_all := lw_in5 (List.mem_of_getElem? (i := 34) rfl) rfl
theorem kw5_35 : Cond.code yX7_reads cX7_reads 3 (Option.none : Option Jvm.ClassFile.FieldType) ∈ lw_all := lw_in5 (List.mem_of_getElem? (i := 35) rfl) rfl
theorem kw5_36 : Cond.methodLink RX7 67 yX7_entryAt ∈ lw_all := lw_in5 (List.mem_of_getElem? (i := 36) rfl) rfl
theorem kw5_38 : Cond.instanceMethod yX7_entryAt ∈ lw_all := lw_in5 (List.mem_of_getElem? (i := 38) rfl) rfl
theorem kw5_39 : Cond.code yX7_entryAt cX7_entryAt 5 (some .int) ∈ lw_all := lw_in5 (List.mem_of_getElem? (i := 39) rfl) rfl
theorem kw5_40 : Cond.methodLink RX7 42 yX7_of ∈ lw_all := lw_in5 (List.mem_of_getElem? (i := 40) rfl) rfl
theorem kw5_42 : Cond.instanceMethod yX7_of ∈ lw_all := lw_in5 (List.mem_of_getElem? (i := 42) rfl) rfl
theorem kw5_43 : Cond.code yX7_of cX7_of 3 (some .int) ∈ lw_all := lw_in5 (List.mem_of_getElem? (i := 43) rfl) rfl
theorem kw5_44 : Cond.methodLink RX7 57 yX7_isRow ∈ lw_all := lw_in5 (List.mem_of_getElem? (i := 44) rfl) rfl
theorem kw5_46 : Cond.instanceMethod yX7_isRow ∈ lw_all := lw_in5 (List.mem_of_getElem? (i := 46) rfl) rfl
theorem kw5_47 : Cond.code yX7_isRow cX7_isRow 6 (some .boolean) ∈ lw_all := lw_in5 (List.mem_of_getElem? (i := 47) rfl) rfl
theorem kw5_48 : Cond.methodLink RX7 60 yX7_leads ∈ lw_all := lw_in5 (List.mem_of_getElem? (i := 48) rfl) rfl
theorem kw5_50 : Cond.instanceMethod yX7_leads ∈ lw_all := lw_in5 (List.mem_of_getElem? (i := 50) rfl) rfl
theorem kw5_51 : Cond.code yX7_leads cX7_leads 5 (some .boolean) ∈ lw_all := lw_in5 (List.mem_of_getElem? (i := 51) rfl) rfl
theorem kw5_52 : Cond.methodLink RX7 46 yX7_areRivals ∈ lw_all := lw_in5 (List.mem_of_getElem? (i := 52) rfl) rfl
theorem kw5_54 : Cond.instanceMethod yX7_areRivals ∈ lw_all := lw_in5 (List.mem_of_getElem? (i := 54) rfl) rfl
theorem kw5_55 : Cond.code yX7_areRivals cX7_areRivals 5 (some .boolean) ∈ lw_all := lw_in5 (List.mem_of_getElem? (i := 55) rfl) rfl
theorem kw5_56 : Cond.methodLink RL 88 yX7_play ∈ lw_all := lw_in5 (List.mem_of_getElem? (i := 56) rfl) rfl
theorem kw5_57 : Cond.instanceMethod yX7_play ∈ lw_all := lw_in5 (List.mem_of_getElem? (i := 57) rfl) rfl
theorem kw5_58 : Cond.selects RX7 yX7_play yX7_play ∈ lw_all := lw_in5 (List.mem_of_getElem? (i := 58) rfl) rfl
theorem kw5_59 : Cond.code yX7_play cX7_play 2 (some .int) ∈ lw_all := lw_in5 (List.mem_of_getElem? (i := 59) rfl) rfl
theorem kw5_60 : Cond.methodLink RX7 89 yX7_areStrokes ∈ lw_all := lw_in5 (List.mem_of_getElem? (i := 60) rfl) rfl
theorem kw5_62 : Cond.instanceMethod yX7_areStrokes ∈ lw_all := lw_in5 (List.mem_of_getElem? (i := 62) rfl) rfl
theorem kw5_63 : Cond.code yX7_areStrokes cX7_areStrokes 2 (some .boolean) ∈ lw_all := lw_in5 (List.mem_of_getElem? (i := 63) rfl) rfl
theorem kw5_64 : Cond.methodLink RX7 125 yX7_readsStroke ∈ lw_all := lw_in5 (List.mem_of_getElem? (i := 64) rfl) rfl
theorem kw5_66 : Cond.instanceMethod yX7_readsStroke ∈ lw_all := lw_in5 (List.mem_of_getElem? (i := 66) rfl) rfl
theorem kw5_67 : Cond.code yX7_readsStroke cX7_readsStroke 2 (some .int) ∈ lw_all := lw_in5 (List.mem_of_getElem? (i := 67) rfl) rfl
theorem kw5_68 : Cond.methodLink RX7 122 yX7_keyOf ∈ lw_all := lw_in5 (List.mem_of_getElem? (i := 68) rfl) rfl
theorem kw5_69 : Cond.static yX7_keyOf ∈ lw_all := lw_in5 (List.mem_of_getElem? (i := 69) rfl) rfl
theorem kw5_70 : Cond.code yX7_keyOf cX7_keyOf 1 (some .int) ∈ lw_all := lw_in5 (List.mem_of_getElem? (i := 70) rfl) rfl
theorem kw5_71 : Cond.methodLink RL 92 yX7_tear ∈ lw_all := lw_in5 (List.mem_of_getElem? (i := 71) rfl) rfl
theorem kw5_72 : Cond.instanceMethod yX7_tear ∈ lw_all := lw_in5 (List.mem_of_getElem? (i := 72) rfl) rfl
theorem kw5_73 : Cond.selects RX7 yX7_tear yX7_tear ∈ lw_all := lw_in5 (List.mem_of_getElem? (i := 73) rfl) rfl
theorem kw5_74 : Cond.code yX7_tear cX7_tear 2 (some .int) ∈ lw_all := lw_in5 (List.mem_of_getElem? (i := 74) rfl) rfl
theorem kw5_75 : Cond.methodLink RL 96 yX7_pick ∈ lw_all := lw_in5 (List.mem_of_getElem? (i := 75) rfl) rfl
theorem kw5_76 : Cond.instanceMethod yX7_pick ∈ lw_all := lw_in5 (List.mem_of_getElem? (i := 76) rfl) rfl
theorem kw5_77 : Cond.selects RX7 yX7_pick yX7_pick ∈ lw_all := lw_in5 (List.mem_of_getElem? (i := 77) rfl) rfl
theorem kw5_78 : Cond.code yX7_pick cX7_pick 5 (some .int) ∈ lw_all := lw_in5 (List.mem_of_getElem? (i := 78) rfl) rfl
theorem kw5_79 : Cond.methodLink RX7 99 yX7_isEntry ∈ lw_all := lw_in5 (List.mem_of_getElem? (i := 79) rfl) rfl
theorem kw5_81 : Cond.instanceMethod yX7_isEntry ∈ lw_all := lw_in5 (List.mem_of_getElem? (i := 81) rfl) rfl
theorem kw5_82 : Cond.code yX7_isEntry cX7_isEntry 2 (some .boolean) ∈ lw_all := lw_in5 (List.mem_of_getElem? (i := 82) rfl) rfl
theorem kw5_83 : Cond.methodLink RX7 102 yX7_lay ∈ lw_all := lw_in5 (List.mem_of_getElem? (i := 83) rfl) rfl
theorem kw5_85 : Cond.instanceMethod yX7_lay ∈ lw_all := lw_in5 (List.mem_of_getElem? (i := 85) rfl) rfl
theorem kw5_86 : Cond.code yX7_lay cX7_lay 4 (Option.none : Option Jvm.ClassFile.FieldType) ∈ lw_all := lw_in5 (List.mem_of_getElem? (i := 86) rfl) rfl
theorem kw5_87 : Cond.methodLink RL 99 yX7_define ∈ lw_all := lw_in5 (List.mem_of_getElem? (i := 87) rfl) rfl
theorem kw5_88 : Cond.instanceMethod yX7_define ∈ lw_all := lw_in5 (List.mem_of_getElem? (i := 88) rfl) rfl
theorem kw5_89 : Cond.selects RX7 yX7_define yX7_define ∈ lw_all := lw_in5 (List.mem_of_getElem? (i := 89) rfl) rfl
theorem kw5_90 : Cond.code yX7_define cX7_define 5 (some .int) ∈ lw_all := lw_in5 (List.mem_of_getElem? (i := 90) rfl) rfl
theorem kw5_91 : Cond.methodLink RX7 113 yX7_hasAsterisk ∈ lw_all := lw_in5 (List.mem_of_getElem? (i := 91) rfl) rfl
theorem kw5_93 : Cond.instanceMethod yX7_hasAsterisk ∈ lw_all := lw_in5 (List.mem_of_getElem? (i := 93) rfl) rfl
theorem kw5_94 : Cond.code yX7_hasAsterisk cX7_hasAsterisk 3 (some .boolean) ∈ lw_all := lw_in5 (List.mem_of_getElem? (i := 94) rfl) rfl
theorem kw5_95 : Cond.methodLink RX7 116 yX7_isThere ∈ lw_all := lw_in5 (List.mem_of_getElem? (i := 95) rfl) rfl
theorem kw5_97 : Cond.instanceMethod yX7_isThere ∈ lw_all := lw_in5 (List.mem_of_getElem? (i := 97) rfl) rfl
theorem kw5_98 : Cond.code yX7_isThere cX7_isThere 6 (some .boolean) ∈ lw_all := lw_in5 (List.mem_of_getElem? (i := 98) rfl) rfl
theorem kw5_99 : Cond.methodLink RL 102 yX7_remove ∈ lw_all := lw_in5 (List.mem_of_getElem? (i := 99) rfl) rfl
theorem kw5_100 : Cond.instanceMethod yX7_remove ∈ lw_all := lw_in5 (List.mem_of_getElem? (i := 100) rfl) rfl
theorem kw5_101 : Cond.selects RX7 yX7_remove yX7_remove ∈ lw_all := lw_in5 (List.mem_of_getElem? (i := 101) rfl) rfl
theorem kw5_102 : Cond.code yX7_remove cX7_remove 3 (some .int) ∈ lw_all := lw_in5 (List.mem_of_getElem? (i := 102) rfl) rfl
theorem kw5_103 : Cond.methodLink RL 105 yX7_set ∈ lw_all := lw_in5 (List.mem_of_getElem? (i := 103) rfl) rfl
theorem kw5_104 : Cond.instanceMethod yX7_set ∈ lw_all := lw_in5 (List.mem_of_getElem? (i := 104) rfl) rfl
theorem kw5_105 : Cond.selects RX7 yX7_set yX7_set ∈ lw_all := lw_in5 (List.mem_of_getElem? (i := 105) rfl) rfl
theorem kw5_106 : Cond.code yX7_set cX7_set 4 (some .int) ∈ lw_all := lw_in5 (List.mem_of_getElem? (i := 106) rfl) rfl
theorem kw5_107 : Cond.methodLink RL 108 yX7_append ∈ lw_all := lw_in5 (List.mem_of_getElem? (i := 107) rfl) rfl
theorem kw5_108 : Cond.instanceMethod yX7_append ∈ lw_all := lw_in5 (List.mem_of_getElem? (i := 108) rfl) rfl
theorem kw5_109 : Cond.selects RX7 yX7_append yX7_append ∈ lw_all := lw_in5 (List.mem_of_getElem? (i := 109) rfl) rfl
theorem kw5_110 : Cond.code yX7_append cX7_append 2 (some .int) ∈ lw_all := lw_in5 (List.mem_of_getElem? (i := 110) rfl) rfl
theorem kw5_111 : Cond.methodLink RL 112 yX7_clearBuffer ∈ lw_all := lw_in5 (List.mem_of_getElem? (i := 111) rfl) rfl
theorem kw5_112 : Cond.instanceMethod yX7_clearBuffer ∈ lw_all := lw_in5 (List.mem_of_getElem? (i := 112) rfl) rfl
theorem kw5_113 : Cond.selects RX7 yX7_clearBuffer yX7_clearBuffer ∈ lw_all := lw_in5 (List.mem_of_getElem? (i := 113) rfl) rfl
theorem kw5_114 : Cond.code yX7_clearBuffer cX7_clearBuffer 2 (some .int) ∈ lw_all := lw_in5 (List.mem_of_getElem? (i := 114) rfl) rfl
theorem kw5_115 : Cond.methodLink RL 116 yX7_firstError ∈ lw_all := lw_in5 (List.mem_of_getElem? (i := 115) rfl) rfl
theorem kw5_116 : Cond.instanceMethod yX7_firstError ∈ lw_all := lw_in5 (List.mem_of_getElem? (i := 116) rfl) rfl
theorem kw5_117 : Cond.selects RX7 yX7_firstError yX7_firstError ∈ lw_all := lw_in5 (List.mem_of_getElem? (i := 117) rfl) rfl
theorem kw5_118 : Cond.code yX7_firstError cX7_firstError 1 (some .int) ∈ lw_all := lw_in5 (List.mem_of_getElem? (i := 118) rfl) rfl
theorem kw5_119 : Cond.methodLink RL 120 yX7_keep ∈ lw_all := lw_in5 (List.mem_of_getElem? (i := 119) rfl) rfl
theorem kw5_120 : Cond.instanceMethod yX7_keep ∈ lw_all := lw_in5 (List.mem_of_getElem? (i := 120) rfl) rfl
theorem kw5_121 : Cond.selects RX7 yX7_keep yX7_keep ∈ lw_all := lw_in5 (List.mem_of_getElem? (i := 121) rfl) rfl
theorem kw5_122 : Cond.code yX7_keep cX7_keep 1 (some .int) ∈ lw_all := lw_in5 (List.mem_of_getElem? (i := 122) rfl) rfl
theorem kw5_123 : Cond.methodLink RL 123 yX7_goBack ∈ lw_all := lw_in5 (List.mem_of_getElem? (i := 123) rfl) rfl
theorem kw5_124 : Cond.instanceMethod yX7_goBack ∈ lw_all := lw_in5 (List.mem_of_getElem? (i := 124) rfl) rfl
theorem kw5_125 : Cond.selects RX7 yX7_goBack yX7_goBack ∈ lw_all := lw_in5 (List.mem_of_getElem? (i := 125) rfl) rfl
theorem kw5_126 : Cond.code yX7_goBack cX7_goBack 1 (some .int) ∈ lw_all := lw_in5 (List.mem_of_getElem? (i := 126) rfl) rfl
theorem kw5_127 : Cond.methodLink RL 126 yX7_undo ∈ lw_all := lw_in5 (List.mem_of_getElem? (i := 127) rfl) rfl
theorem kw5_128 : Cond.instanceMethod yX7_undo ∈ lw_all := lw_in5 (List.mem_of_getElem? (i := 128) rfl) rfl
theorem kw5_129 : Cond.selects RX7 yX7_undo yX7_undo ∈ lw_all := lw_in5 (List.mem_of_getElem? (i := 129) rfl) rfl
theorem kw5_130 : Cond.code yX7_undo cX7_undo 1 (some .int) ∈ lw_all := lw_in5 (List.mem_of_getElem? (i := 130) rfl) rfl
theorem kw5_131 : Cond.methodLink RL 129 yX7_stroke ∈ lw_all := lw_in5 (List.mem_of_getElem? (i := 131) rfl) rfl
theorem kw5_132 : Cond.instanceMethod yX7_stroke ∈ lw_all := lw_in5 (List.mem_of_getElem? (i := 132) rfl) rfl
theorem kw5_133 : Cond.selects RX7 yX7_stroke yX7_stroke ∈ lw_all := lw_in5 (List.mem_of_getElem? (i := 133) rfl) rfl
theorem kw5_134 : Cond.code yX7_stroke cX7_stroke 2 (some .int) ∈ lw_all := lw_in5 (List.mem_of_getElem? (i := 134) rfl) rfl
theorem kw5_135 : Cond.methodLink RL 132 yX7_item ∈ lw_all := lw_in5 (List.mem_of_getElem? (i := 135) rfl) rfl
theorem kw5_136 : Cond.instanceMethod yX7_item ∈ lw_all := lw_in5 (List.mem_of_getElem? (i := 136) rfl) rfl
theorem kw5_137 : Cond.selects RX7 yX7_item yX7_item ∈ lw_all := lw_in5 (List.mem_of_getElem? (i := 137) rfl) rfl
theorem kw5_138 : Cond.code yX7_item cX7_item 3 (some .int) ∈ lw_all := lw_in5 (List.mem_of_getElem? (i := 138) rfl) rfl
theorem kw5_139 : Cond.methodLink RX7 136 yX7_ofItem ∈ lw_all := lw_in5 (List.mem_of_getElem? (i := 139) rfl) rfl
theorem kw5_141 : Cond.instanceMethod yX7_ofItem ∈ lw_all := lw_in5 (List.mem_of_getElem? (i := 141) rfl) rfl
theorem kw5_142 : Cond.code yX7_ofItem cX7_ofItem 5 (some .int) ∈ lw_all := lw_in5 (List.mem_of_getElem? (i := 142) rfl) rfl
theorem kw5_143 : Cond.methodLink RX7 133 yX7_wordOf ∈ lw_all := lw_in5 (List.mem_of_getElem? (i := 143) rfl) rfl
theorem kw5_145 : Cond.instanceMethod yX7_wordOf ∈ lw_all := lw_in5 (List.mem_of_getElem? (i := 145) rfl) rfl
theorem kw5_146 : Cond.code yX7_wordOf cX7_wordOf 2 (some .int) ∈ lw_all := lw_in5 (List.mem_of_getElem? (i := 146) rfl) rfl
theorem kw5_147 : Cond.methodLink RL 135 yX7_entry ∈ lw_all := lw_in5 (List.mem_of_getElem? (i := 147) rfl) rfl
theorem kw5_148 : Cond.instanceMethod yX7_entry ∈ lw_all := lw_in5 (List.mem_of_getElem? (i := 148) rfl) rfl
theorem kw5_149 : Cond.selects RX7 yX7_entry yX7_entry ∈ lw_all := lw_in5 (List.mem_of_getElem? (i := 149) rfl) rfl
theorem kw5_150 : Cond.code yX7_entry cX7_entry 3 (some .int) ∈ lw_all := lw_in5 (List.mem_of_getElem? (i := 150) rfl) rfl
theorem kw5_151 : Cond.methodLink RX7 145 yX7_ofEntry ∈ lw_all := lw_in5 (List.mem_of_getElem? (i := 151) rfl) rfl
theorem kw5_153 : Cond.instanceMethod yX7_ofEntry ∈ lw_all := lw_in5 (List.mem_of_getElem? (i := 153) rfl) rfl
theorem kw5_154 : Cond.code yX7_ofEntry cX7_ofEntry 3 (some .int) ∈ lw_all := lw_in5 (List.mem_of_getElem? (i := 154) rfl) rfl
theorem kw5_155 : Cond.methodLink RX7 139 yX7_standing ∈ lw_all := lw_in5 (List.mem_of_getElem? (i := 155) rfl) rfl
theorem kw5_157 : Cond.instanceMethod yX7_standing ∈ lw_all := lw_in5 (List.mem_of_getElem? (i := 157) rfl) rfl
theorem kw5_158 : Cond.code yX7_standing cX7_standing 4 (some .int) ∈ lw_all := lw_in5 (List.mem_of_getElem? (i := 158) rfl) rfl
theorem kw5_159 : Cond.methodLink RX7 142 yX7_keysOfEntry ∈ lw_all := lw_in5 (List.mem_of_getElem? (i := 159) rfl) rfl
theorem kw5_161 : Cond.instanceMethod yX7_keysOfEntry ∈ lw_all := lw_in5 (List.mem_of_getElem? (i := 161) rfl) rfl
theorem kw5_162 : Cond.code yX7_keysOfEntry cX7_keysOfEntry 4 (some .int) ∈ lw_all := lw_in5 (List.mem_of_getElem? (i := 162) rfl) rfl
theorem kw5_163 : Cond.methodLink RL 138 yX7_count ∈ lw_all := lw_in5 (List.mem_of_getElem? (i := 163) rfl) rfl
theorem kw5_164 : Cond.instanceMethod yX7_count ∈ lw_all := lw_in5 (List.mem_of_getElem? (i := 164) rfl) rfl
theorem kw5_165 : Cond.selects RX7 yX7_count yX7_count ∈ lw_all := lw_in5 (List.mem_of_getElem? (i := 165) rfl) rfl
theorem kw5_166 : Cond.code yX7_count cX7_count 2 (some .int) ∈ lw_all := lw_in5 (List.mem_of_getElem? (i := 166) rfl) rfl
theorem kw5_167 : Cond.methodLink RX7 148 yX7_counted ∈ lw_all := lw_in5 (List.mem_of_getElem? (i := 167) rfl) rfl
theorem kw5_169 : Cond.instanceMethod yX7_counted ∈ lw_all := lw_in5 (List.mem_of_getElem? (i := 169) rfl) rfl
theorem kw5_170 : Cond.code yX7_counted cX7_counted 2 (some .int) ∈ lw_all := lw_in5 (List.mem_of_getElem? (i := 170) rfl) rfl
theorem kw5_171 : Cond.methodLink RL 141 yX7_setting ∈ lw_all := lw_in5 (List.mem_of_getElem? (i := 171) rfl) rfl
theorem kw5_172 : Cond.instanceMethod yX7_setting ∈ lw_all := lw_in5 (List.mem_of_getElem? (i := 172) rfl) rfl
theorem kw5_173 : Cond.selects RX7 yX7_setting yX7_setting ∈ lw_all := lw_in5 (List.mem_of_getElem? (i := 173) rfl) rfl
theorem kw5_174 : Cond.code yX7_setting cX7_setting 2 (some .int) ∈ lw_all := lw_in5 (List.mem_of_getElem? (i := 174) rfl) rfl
theorem kw5_175 : Cond.methodLink RL 144 yX7_ifStruck ∈ lw_all := lw_in5 (List.mem_of_getElem? (i := 175) rfl) rfl
theorem kw5_176 : Cond.instanceMethod yX7_ifStruck ∈ lw_all := lw_in5 (List.mem_of_getElem? (i := 176) rfl) rfl
theorem kw5_177 : Cond.selects RX7 yX7_ifStruck yX7_ifStruck ∈ lw_all := lw_in5 (List.mem_of_getElem? (i := 177) rfl) rfl
theorem kw5_178 : Cond.code yX7_ifStruck cX7_ifStruck 3 (some .int) ∈ lw_all := lw_in5 (List.mem_of_getElem? (i := 178) rfl) rfl
theorem kw5_179 : Cond.methodLink RX7 151 yX7_struck ∈ lw_all := lw_in5 (List.mem_of_getElem? (i := 179) rfl) rfl
theorem kw5_181 : Cond.instanceMethod yX7_struck ∈ lw_all := lw_in5 (List.mem_of_getElem? (i := 181) rfl) rfl
theorem kw5_182 : Cond.code yX7_struck cX7_struck 3 (some .int) ∈ lw_all := lw_in5 (List.mem_of_getElem? (i := 182) rfl) rfl
theorem kw5_183 : Cond.methodLink RL 147 yX7_begun ∈ lw_all := lw_in5 (List.mem_of_getElem? (i := 183) rfl) rfl
theorem kw5_184 : Cond.instanceMethod yX7_begun ∈ lw_all := lw_in5 (List.mem_of_getElem? (i := 184) rfl) rfl
theorem kw5_185 : Cond.selects RX7 yX7_begun yX7_begun ∈ lw_all := lw_in5 (List.mem_of_getElem? (i := 185) rfl) rfl
theorem kw5_186 : Cond.code yX7_begun cX7_begun 2 (some .int) ∈ lw_all := lw_in5 (List.mem_of_getElem? (i := 186) rfl) rfl
theorem kw5_187 : Cond.methodLink RX7 154 yX7_begins ∈ lw_all := lw_in5 (List.mem_of_getElem? (i := 187) rfl) rfl
theorem kw5_189 : Cond.instanceMethod yX7_begins ∈ lw_all := lw_in5 (List.mem_of_getElem? (i := 189) rfl) rfl
theorem kw5_190 : Cond.code yX7_begins cX7_begins 7 (some .int) ∈ lw_all := lw_in5 (List.mem_of_getElem? (i := 190) rfl) rfl
theorem kw5_191 : Cond.methodLink RL 150 yX7_shortest ∈ lw_all := lw_in5 (List.mem_of_getElem? (i := 191) rfl) rfl
theorem kw5_192 : Cond.instanceMethod yX7_shortest ∈ lw_all := lw_in5 (List.mem_of_getElem? (i := 192) rfl) rfl
theorem kw5_193 : Cond.selects RX7 yX7_shortest yX7_shortest ∈ lw_all := lw_in5 (List.mem_of_getElem? (i := 193) rfl) rfl
theorem kw5_194 : Cond.code yX7_shortest cX7_shortest 2 (some .int) ∈ lw_all := lw_in5 (List.mem_of_getElem? (i := 194) rfl) rfl
theorem kw5_195 : Cond.methodLink RX7 157 yX7_shortestFor ∈ lw_all := lw_in5 (List.mem_of_getElem? (i := 195) rfl) rfl
theorem kw5_197 : Cond.instanceMethod yX7_shortestFor ∈ lw_all := lw_in5 (List.mem_of_getElem? (i := 197) rfl) rfl
theorem kw5_198 : Cond.code yX7_shortestFor cX7_shortestFor 6 (some .int) ∈ lw_all := lw_in5 (List.mem_of_getElem? (i := 198) rfl) rfl
theorem kw5_199 : Cond.methodLink RL 153 yX7_behind ∈ lw_all := lw_in5 (List.mem_of_getElem? (i := 199) rfl) rfl
theorem kw5_200 : Cond.instanceMethod yX7_behind ∈ lw_all := lw_in5 (List.mem_of_getElem? (i := 200) rfl) rfl
theorem kw5_201 : Cond.selects RX7 yX7_behind yX7_behind ∈ lw_all := lw_in5 (List.mem_of_getElem? (i := 201) rfl) rfl
theorem kw5_202 : Cond.code yX7_behind cX7_behind 3 (some .int) ∈ lw_all := lw_in5 (List.mem_of_getElem? (i := 202) rfl) rfl
theorem kw5_203 : Cond.methodLink RX7 160 yX7_pairOf ∈ lw_all := lw_in5 (List.mem_of_getElem? (i := 203) rfl) rfl
theorem kw5_205 : Cond.instanceMethod yX7_pairOf ∈ lw_all := lw_in5 (List.mem_of_getElem? (i := 205) rfl) rfl
theorem kw5_206 : Cond.code yX7_pairOf cX7_pairOf 5 (some .int) ∈ lw_all := lw_in5 (List.mem_of_getElem? (i := 206) rfl) rfl
theorem kw5_207 : Cond.methodLink RL 157 yX7_clashes ∈ lw_all := lw_in5 (List.mem_of_getElem? (i := 207) rfl) rfl
theorem kw5_208 : Cond.instanceMethod yX7_clashes ∈ lw_all := lw_in5 (List.mem_of_getElem? (i := 208) rfl) rfl
theorem kw5_209 : Cond.selects RX7 yX7_clashes yX7_clashes ∈ lw_all := lw_in5 (List.mem_of_getElem? (i := 209) rfl) rfl
theorem kw5_210 : Cond.code yX7_clashes cX7_clashes 1 (some .int) ∈ lw_all := lw_in5 (List.mem_of_getElem? (i := 210) rfl) rfl
theorem kw5_211 : Cond.methodLink RX7 163 yX7_clashesOf ∈ lw_all := lw_in5 (List.mem_of_getElem? (i := 211) rfl) rfl
theorem kw5_213 : Cond.instanceMethod yX7_clashesOf ∈ lw_all := lw_in5 (List.mem_of_getElem? (i := 213) rfl) rfl
theorem kw5_214 : Cond.code yX7_clashesOf cX7_clashesOf 3 (some .int) ∈ lw_all := lw_in5 (List.mem_of_getElem? (i := 214) rfl) rfl
theorem kw5_215 : Cond.methodLink RL 161 yX7_least ∈ lw_all := lw_in5 (List.mem_of_getElem? (i := 215) rfl) rfl
theorem kw5_216 : Cond.instanceMethod yX7_least ∈ lw_all := lw_in5 (List.mem_of_getElem? (i := 216) rfl) rfl
theorem kw5_217 : Cond.selects RX7 yX7_least yX7_least ∈ lw_all := lw_in5 (List.mem_of_getElem? (i := 217) rfl) rfl
theorem kw5_218 : Cond.code yX7_least cX7_least 1 (some .int) ∈ lw_all := lw_in5 (List.mem_of_getElem? (i := 218) rfl) rfl
theorem kw5_219 : Cond.methodLink RX7 166 yX7_leastOf ∈ lw_all := lw_in5 (List.mem_of_getElem? (i := 219) rfl) rfl
theorem kw5_221 : Cond.instanceMethod yX7_leastOf ∈ lw_all := lw_in5 (List.mem_of_getElem? (i := 221) rfl) rfl
theorem kw5_222 : Cond.code yX7_leastOf cX7_leastOf 3 (some .int) ∈ lw_all := lw_in5 (List.mem_of_getElem? (i := 222) rfl) rfl
theorem kw5_223 : Cond.methodLink RL 166 yX7_readShare ∈ lw_all := lw_in5 (List.mem_of_getElem? (i := 223) rfl) rfl
theorem kw5_224 : Cond.instanceMethod yX7_readShare ∈ lw_all := lw_in5 (List.mem_of_getElem? (i := 224) rfl) rfl
theorem kw5_225 : Cond.selects RX7 yX7_readShare yX7_readShare ∈ lw_all := lw_in5 (List.mem_of_getElem? (i := 225) rfl) rfl
theorem kw5_226 : Cond.code yX7_readShare cX7_readShare 1 (some .double) ∈ lw_all := lw_in5 (List.mem_of_getElem? (i := 226) rfl) rfl
theorem kw5_227 : Cond.methodLink RX7 169 yX7_share ∈ lw_all := lw_in5 (List.mem_of_getElem? (i := 227) rfl) rfl
theorem kw5_229 : Cond.instanceMethod yX7_share ∈ lw_all := lw_in5 (List.mem_of_getElem? (i := 229) rfl) rfl
theorem kw5_230 : Cond.code yX7_share cX7_share 1 (some .double) ∈ lw_all := lw_in5 (List.mem_of_getElem? (i := 230) rfl) rfl
theorem kw5_231 : Cond.methodLink RL 171 yX7_meanKeys ∈ lw_all := lw_in5 (List.mem_of_getElem? (i := 231) rfl) rfl
theorem kw5_232 : Cond.instanceMethod yX7_meanKeys ∈ lw_all := lw_in5 (List.mem_of_getElem? (i := 232) rfl) rfl
theorem kw5_233 : Cond.selects RX7 yX7_meanKeys yX7_meanKeys ∈ lw_all := lw_in5 (List.mem_of_getElem? (i := 233) rfl) rfl
theorem kw5_234 : Cond.code yX7_meanKeys cX7_meanKeys 1 (some .float) ∈ lw_all := lw_in5 (List.mem_of_getElem? (i := 234) rfl) rfl
theorem kw5_235 : Cond.methodLink RX7 173 yX7_mean ∈ lw_all := lw_in5 (List.mem_of_getElem? (i := 235) rfl) rfl
theorem kw5_237 : Cond.instanceMethod yX7_mean ∈ lw_all := lw_in5 (List.mem_of_getElem? (i := 237) rfl) rfl
theorem kw5_238 : Cond.code yX7_mean cX7_mean 1 (some .float) ∈ lw_all := lw_in5 (List.mem_of_getElem? (i := 238) rfl) rfl
theorem kw5_239 : Cond.methodLink RL 176 yX7_digest ∈ lw_all := lw_in5 (List.mem_of_getElem? (i := 239) rfl) rfl
theorem kw6_0 : Cond.instanceMethod yX7_digest ∈ lw_all := lw_in6 (List.mem_of_getElem? (i := 0) rfl) rfl
theorem kw6_1 : Cond.selects RX7 yX7_digest yX7_digest ∈ lw_all := lw_in6 (List.mem_of_getElem? (i := 1) rfl) rfl
theorem kw6_2 : Cond.code yX7_digest cX7_digest 2 (some .long) ∈ lw_all := lw_in6 (List.mem_of_getElem? (i := 2) rfl) rfl
theorem kw6_3 : Cond.constantLong RX7 185 3643 ∈ lw_all := lw_in6 (List.mem_of_getElem? (i := 3) rfl) rfl
theorem kw6_4 : Cond.methodLink RX7 187 yX7_mix ∈ lw_all := lw_in6 (List.mem_of_getElem? (i := 4) rfl) rfl
theorem kw6_6 : Cond.instanceMethod yX7_mix ∈ lw_all := lw_in6 (List.mem_of_getElem? (i := 6) rfl) rfl
theorem kw6_7 : Cond.code yX7_mix cX7_mix 3 (Option.none : Option Jvm.ClassFile.FieldType) ∈ lw_all := lw_in6 (List.mem_of_getElem? (i := 7) rfl) rfl
theorem kw6_8 : Cond.constantLong RX7 177 31 ∈ lw_all := lw_in6 (List.mem_of_getElem? (i := 8) rfl) rfl
theorem kw6_9 : Cond.constantLong RX7 191 4503599627370496 ∈ lw_all := lw_in6 (List.mem_of_getElem? (i := 9) rfl) rfl
theorem kw6_10 : Cond.constantLong RX7 193 1023 ∈ lw_all := lw_in6 (List.mem_of_getElem? (i := 10) rfl) rfl
theorem kw6_11 : Cond.methodLink RX7 195 yX7_bits ∈ lw_all := lw_in6 (List.mem_of_getElem? (i := 11) rfl) rfl
theorem kw6_12 : Cond.static yX7_bits ∈ lw_all := lw_in6 (List.mem_of_getElem? (i := 12) rfl) rfl
theorem kw6_13 : Cond.code yX7_bits cX7_bits 10 (some .long) ∈ lw_all := lw_in6 (List.mem_of_getElem? (i := 13) rfl) rfl
theorem kw6_14 : Cond.constantDouble RX7 183 4611686018427387904 ∈ lw_all := lw_in6 (List.mem_of_getElem? (i := 14) rfl) rfl
theorem kw6_15 : Cond.constantLong RX7 199 8388608 ∈ lw_all := lw_in6 (List.mem_of_getElem? (i := 15) rfl) rfl
theorem kw6_16 : Cond.constantLong RX7 201 127 ∈ lw_all := lw_in6 (List.mem_of_getElem? (i := 16) rfl) rfl
theorem kw6_18 : Cond.fieldLink RJ0 15 "java/lang/String" "coder" "B" ∈ lw_all := lw_in6 (List.mem_of_getElem? (i := 18) rfl) rfl
theorem kw6_19 : Cond.fieldLink RJ0 9 "java/lang/String" "value" "[B" ∈ lw_all := lw_in6 (List.mem_of_getElem? (i := 19) rfl) rfl
theorem kwS_0 : Cond.selects RX4 yX4_slotBehindOldest yX4_slotBehindOldest ∈ lw_all := lw_inS (List.mem_of_getElem? (i := 0) rfl) rfl
theorem kwS_1 : Cond.selects RX0 yX0_put_ yX0_put_ ∈ lw_all := lw_inS (List.mem_of_getElem? (i := 1) rfl) rfl
theorem kwS_2 : Cond.selects RX6 yX6_readBehind yX6_readBehind ∈ lw_all := lw_inS (List.mem_of_getElem? (i := 2) rfl) rfl
theorem kwS_3 : Cond.selects RX6 yX6_putRow yX6_putRow ∈ lw_all := lw_inS (List.mem_of_getElem? (i := 3) rfl) rfl
theorem kwS_4 : Cond.selects RX6 yX6_fewestUpTo yX6_fewestUpTo ∈ lw_all := lw_inS (List.mem_of_getElem? (i := 4) rfl) rfl
theorem kwS_5 : Cond.selects RX6 yX6_readPaper yX6_readPaper ∈ lw_all := lw_inS (List.mem_of_getElem? (i := 5) rfl) rfl
theorem kwS_6 : Cond.selects RX6 yX6_rawItems yX6_rawItems ∈ lw_all := lw_inS (List.mem_of_getElem? (i := 6) rfl) rfl
theorem kwS_7 : Cond.selects RX6 yX6_mixNumbers yX6_mixNumbers ∈ lw_all := lw_inS (List.mem_of_getElem? (i := 7) rfl) rfl
theorem kwS_8 : Cond.selects RX6 yX6_countNumber yX6_countNumber ∈ lw_all := lw_inS (List.mem_of_getElem? (i := 8) rfl) rfl
theorem kwS_9 : Cond.selects RX6 yX6_itemsStrokeByStroke yX6_itemsStrokeByStroke ∈ lw_all := lw_inS (List.mem_of_getElem? (i := 9) rfl) rfl
theorem kwS_10 : Cond.selects RX6 yX6_settingNumber yX6_settingNumber ∈ lw_all := lw_inS (List.mem_of_getElem? (i := 10) rfl) rfl
theorem kwS_11 : Cond.selects RX6 yX6_mixItems yX6_mixItems ∈ lw_all := lw_inS (List.mem_of_getElem? (i := 11) rfl) rfl
theorem kwS_12 : Cond.selects RX6 yX6_itemNumber yX6_itemNumber ∈ lw_all := lw_inS (List.mem_of_getElem? (i := 12) rfl) rfl
theorem kwS_13 : Cond.selects RX6 yX6_rowOfItem yX6_rowOfItem ∈ lw_all := lw_inS (List.mem_of_getElem? (i := 13) rfl) rfl
theorem kwS_14 : Cond.selects RX6 yX6_mixEntries yX6_mixEntries ∈ lw_all := lw_inS (List.mem_of_getElem? (i := 14) rfl) rfl
theorem kwS_15 : Cond.selects RX6 yX6_entryNumber yX6_entryNumber ∈ lw_all := lw_inS (List.mem_of_getElem? (i := 15) rfl) rfl
theorem kwS_16 : Cond.selects RX6 yX6_mixWhatWouldBe yX6_mixWhatWouldBe ∈ lw_all := lw_inS (List.mem_of_getElem? (i := 16) rfl) rfl
theorem kwS_17 : Cond.selects "java/lang/Throwable" (⟨"java/lang/Throwable", "fillInStackTrace", "(I)Ljava/lang/Throwable;"⟩ : MethodName) (⟨"java/lang/Throwable", "fillInStackTrace", "(I)Ljava/lang/Throwable;"⟩ : MethodName) ∈ lw_all := lw_inS (List.mem_of_getElem? (i := 17) rfl) rfl
theorem kwS_18 : Cond.selects RX6 yX6_canTell yX6_canTell ∈ lw_all := lw_inS (List.mem_of_getElem? (i := 18) rfl) rfl
theorem kwS_19 : Cond.selects RX6 yX6_isShorter yX6_isShorter ∈ lw_all := lw_inS (List.mem_of_getElem? (i := 19) rfl) rfl
theorem kwS_20 : Cond.selects RX6 yX6_canStrike yX6_canStrike ∈ lw_all := lw_inS (List.mem_of_getElem? (i := 20) rfl) rfl
theorem kwS_21 : Cond.selects RX6 yX6_putOrEat yX6_putOrEat ∈ lw_all := lw_inS (List.mem_of_getElem? (i := 21) rfl) rfl
theorem kwS_22 : Cond.selects RX6 yX6_eat yX6_eat ∈ lw_all := lw_inS (List.mem_of_getElem? (i := 22) rfl) rfl
theorem kwS_23 : Cond.selects RX7 yX7_canStrike yX7_canStrike ∈ lw_all := lw_inS (List.mem_of_getElem? (i := 23) rfl) rfl
theorem kwS_24 : Cond.selects RX7 yX7_holds yX7_holds ∈ lw_all := lw_inS (List.mem_of_getElem? (i := 24) rfl) rfl
theorem kwS_25 : Cond.selects RX7 yX7_save yX7_save ∈ lw_all := lw_inS (List.mem_of_getElem? (i := 25) rfl) rfl
theorem kwS_26 : Cond.selects RX7 yX7_copies yX7_copies ∈ lw_all := lw_inS (List.mem_of_getElem? (i := 26) rfl) rfl
theorem kwS_27 : Cond.selects RX7 yX7_strikes yX7_strikes ∈ lw_all := lw_inS (List.mem_of_getElem? (i := 27) rfl) rfl
theorem kwS_28 : Cond.selects RX7 yX7_readsPaper yX7_readsPaper ∈ lw_all := lw_inS (List.mem_of_getElem? (i := 28) rfl) rfl
theorem kwS_29 : Cond.selects RX7 yX7_reads yX7_reads ∈ lw_all := lw_inS (List.mem_of_getElem? (i := 29) rfl) rfl
theorem kwS_30 : Cond.selects RX7 yX7_entryAt yX7_entryAt ∈ lw_all := lw_inS (List.mem_of_getElem? (i := 30) rfl) rfl
theorem kwS_31 : Cond.selects RX7 yX7_of yX7_of ∈ lw_all := lw_inS (List.mem_of_getElem? (i := 31) rfl) rfl
theorem kwS_32 : Cond.selects RX7 yX7_isRow yX7_isRow ∈ lw_all := lw_inS (List.mem_of_getElem? (i := 32) rfl) rfl
theorem kwS_33 : Cond.selects RX7 yX7_leads yX7_leads ∈ lw_all := lw_inS (List.mem_of_getElem? (i := 33) rfl) rfl
theorem kwS_34 : Cond.selects RX7 yX7_areRivals yX7_areRivals ∈ lw_all := lw_inS (List.mem_of_getElem? (i := 34) rfl) rfl
theorem kwS_35 : Cond.selects RX7 yX7_areStrokes yX7_areStrokes ∈ lw_all := lw_inS (List.mem_of_getElem? (i := 35) rfl) rfl
theorem kwS_36 : Cond.selects RX7 yX7_readsStroke yX7_readsStroke ∈ lw_all := lw_inS (List.mem_of_getElem? (i := 36) rfl) rfl
theorem kwS_37 : Cond.selects RX7 yX7_isEntry yX7_isEntry ∈ lw_all := lw_inS (List.mem_of_getElem? (i := 37) rfl) rfl
theorem kwS_38 : Cond.selects RX7 yX7_lay yX7_lay ∈ lw_all := lw_inS (List.mem_of_getElem? (i := 38) rfl) rfl
theorem kwS_39 : Cond.selects RX7 yX7_hasAsterisk yX7_hasAsterisk ∈ lw_all := lw_inS (List.mem_of_getElem? (i := 39) rfl) rfl
theorem kwS_40 : Cond.selects RX7 yX7_isThere yX7_isThere ∈ lw_all := lw_inS (List.mem_of_getElem? (i := 40) rfl) rfl
theorem kwS_41 : Cond.selects RX7 yX7_ofItem yX7_ofItem ∈ lw_all := lw_inS (List.mem_of_getElem? (i := 41) rfl) rfl
theorem kwS_42 : Cond.selects RX7 yX7_wordOf yX7_wordOf ∈ lw_all := lw_inS (List.mem_of_getElem? (i := 42) rfl) rfl
theorem kwS_43 : Cond.selects RX7 yX7_ofEntry yX7_ofEntry ∈ lw_all := lw_inS (List.mem_of_getElem? (i := 43) rfl) rfl
theorem kwS_44 : Cond.selects RX7 yX7_standing yX7_standing ∈ lw_all := lw_inS (List.mem_of_getElem? (i := 44) rfl) rfl
theorem kwS_45 : Cond.selects RX7 yX7_keysOfEntry yX7_keysOfEntry ∈ lw_all := lw_inS (List.mem_of_getElem? (i := 45) rfl) rfl
theorem kwS_46 : Cond.selects RX7 yX7_counted yX7_counted ∈ lw_all := lw_inS (List.mem_of_getElem? (i := 46) rfl) rfl
theorem kwS_47 : Cond.selects RX7 yX7_struck yX7_struck ∈ lw_all := lw_inS (List.mem_of_getElem? (i := 47) rfl) rfl
theorem kwS_48 : Cond.selects RX7 yX7_begins yX7_begins ∈ lw_all := lw_inS (List.mem_of_getElem? (i := 48) rfl) rfl
theorem kwS_49 : Cond.selects RX7 yX7_shortestFor yX7_shortestFor ∈ lw_all := lw_inS (List.mem_of_getElem? (i := 49) rfl) rfl
theorem kwS_50 : Cond.selects RX7 yX7_pairOf yX7_pairOf ∈ lw_all := lw_inS (List.mem_of_getElem? (i := 50) rfl) rfl
theorem kwS_51 : Cond.selects RX7 yX7_clashesOf yX7_clashesOf ∈ lw_all := lw_inS (List.mem_of_getElem? (i := 51) rfl) rfl
theorem kwS_52 : Cond.selects RX7 yX7_leastOf yX7_leastOf ∈ lw_all := lw_inS (List.mem_of_getElem? (i := 52) rfl) rfl
theorem kwS_53 : Cond.selects RX7 yX7_share yX7_share ∈ lw_all := lw_inS (List.mem_of_getElem? (i := 53) rfl) rfl
theorem kwS_54 : Cond.selects RX7 yX7_mean yX7_mean ∈ lw_all := lw_inS (List.mem_of_getElem? (i := 54) rfl) rfl
theorem kwS_55 : Cond.selects RX7 yX7_mix yX7_mix ∈ lw_all := lw_inS (List.mem_of_getElem? (i := 55) rfl) rfl
end
section
/-! THE MEMORY OF THE WHOLE SYSTEM: 92 cells (0..81 the class's, 82..90 the reference's, 91 the law's own array), at addresses that are variables; the numbers that they hold are a pure value (Mem). -/
abbrev Mem : Type := (Nat → Nat → Int32) × (Nat → Nat → Int64)
def up2 {α : Type} (f : Nat → Nat → α) (a b : Nat) (v : α) : Nat → Nat → α := fun i j => if i = a then (if j = b then v else f i j) else f i j
def setI (σ : Mem) (a b : Nat) (v : Int32) : Mem := (up2 σ.1 a b v, σ.2)
def setL (σ : Mem) (a b : Nat) (v : Int64) : Mem := (σ.1, up2 σ.2 a b v)
abbrev Shp : Type := (Nat × List Nat) ⊕ (Nat × Nat)
/-- fields: 0 an int, 1 a long, k + 2 the cell k; arrays: 0 of ints, 1 of longs, 2 the ring -/
def shpL : List Shp := [.inl (5, [3, 5, 0, 0, 0, 0, 0, 0]), .inl (3, [4, 0]), .inr (0, 60), .inl (0, [6, 7, 8, 0]), .inr (1, 24), .inr (0, 24), .inr (0, 24), .inl (5, [10, 12, 0, 0, 0, 0, 0, 0]), .inl (3, [11, 0]), .inr (0, 60), .inl (0, [13, 14, 15, 0]), .inr (1, 24), .inr (0, 24), .inr (0, 24), .inl (5, [17, 19, 0, 0, 0, 0, 0, 0]), .inl (3, [18, 0]), .inr (0, 60), .inl (0, [20, 21, 22, 0]), .inr (1, 24), .inr (0, 24), .inr (0, 24), .inl (5, [24, 26, 0, 0, 0, 0, 0, 0]), .inl (3, [25, 0]), .inr (0, 60), .inl (0, [27, 28, 29, 0]), .inr (1, 24), .inr (0, 24), .inr (0, 24), .inl (5, [31, 33, 0, 0, 0, 0, 0, 0]), .inl (3, [32, 0]), .inr (0, 60), .inl (0, [34, 35, 36, 0]), .inr (1, 24), .inr (0, 24), .inr (0, 24), .inl (5, [38, 40, 0, 0, 0, 0, 0, 0]), .inl (3, [39, 0]), .inr (0, 60), .inl (0, [41, 42, 43, 0]), .inr (1, 24), .inr (0, 24), .inr (0, 24), .inl (5, [45, 47, 0, 0, 0, 0, 0, 0]), .inl (3, [46, 0]), .inr (0, 60), .inl (0, [48, 49, 50, 0]), .inr (1, 24), .inr (0, 24), .inr (0, 24), .inl (5, [52, 54, 0, 0, 0, 0, 0, 0]), .inl (3, [53, 0]), .inr (0, 60), .inl (0, [55, 56, 57, 0]), .inr (1, 24), .inr (0, 24), .inr (0, 24), .inl (4, [59, 0, 0]), .inr (2, 6), .inl (1, [61]), .inl (3, [62, 0]), .inr (0, 60), .inl (2, [64, 66, 68]), .inl (3, [65, 0]), .inr (0, 61), .inl (3, [67, 0]), .inr (0, 61), .inl (3, [69, 0]), .inr (0, 61), .inl (2, [71, 73, 75]), .inl (3, [72, 0]), .inr (0, 61), .inl (3, [74, 0]), .inr (0, 61), .inl (3, [76, 0]), .inr (0, 61), .inl (3, [78, 0]), .inr (0, 61), .inl (3, [80, 0]), .inr (0, 60), .inl (3, [82, 0]), .inr (0, 61), .inl (6, [2, 9, 58, 60, 63, 77, 70, 79, 81, 0]), .inl (7, [0, 85, 0, 0, 86, 0, 0, 87, 0, 88, 0, 89, 90, 91, 0, 92, 1]), .inr (0, 1888), .inr (0, 60), .inr (0, 31), .inr (0, 61), .inr (0, 61), .inr (0, 61), .inr (0, 61), .inr (0, 62), .inr (1, 1)]
def shp (i : Nat) : Shp := shpL.getD i (.inr (3, 0))
theorem shpL_len : shpL.length = 92 := rfl
theorem shp_big {i : Nat} (h : 92 ≤ i) : shp i = .inr (3, 0) := by
  unfold shp
  rw [List.getD_eq_getElem?_getD, List.getElem?_eq_none (by rw [shpL_len]; exact h)]
  rfl
theorem shp_lto {i : Nat} {q : Nat × List Nat} (h : shp i = .inl q) : i < 92 := by
  rcases Nat.lt_or_ge i 92 with c | c
  · exact c
  · rw [shp_big c] at h; cases h
theorem shp_lta {i t n : Nat} (h : shp i = .inr (t, n)) (ht : t ≠ 3) : i < 92 := by
  rcases Nat.lt_or_ge i 92 with c | c
  · exact c
  · rw [shp_big c] at h; cases h; exact absurd rfl ht
def fv (ad : Nat → Nat) (σ : Mem) (i j d : Nat) : Value := if d = 0 then .int (σ.1 i j) else if d = 1 then .long (σ.2 i j) else .ref (ad (d - 2))
def fvs (ad : Nat → Nat) (σ : Mem) (i : Nat) : Nat → List Nat → List Value
  | _, [] => []
  | j, d :: ds => fv ad σ i j d :: fvs ad σ i (j + 1) ds
theorem fvs_at {ad : Nat → Nat} {σ : Mem} {i : Nat} : ∀ (ds : List Nat) (j k : Nat), (fvs ad σ i j ds)[k]? = (ds[k]?).map (fun d => fv ad σ i (j + k) d)
  | [], j, k => by simp [fvs]
  | d :: ds, j, 0 => by simp [fvs]
  | d :: ds, j, k + 1 => by
    rw [fvs, List.getElem?_cons_succ, List.getElem?_cons_succ, fvs_at ds (j + 1) k, show j + 1 + k = j + (k + 1) by omega]
theorem fvs_len {ad : Nat → Nat} {σ : Mem} {i : Nat} : ∀ (ds : List Nat) (j : Nat), (fvs ad σ i j ds).length = ds.length
  | [], j => rfl
  | d :: ds, j => by rw [fvs, List.length_cons, List.length_cons, fvs_len ds (j + 1)]
theorem fvs_congr {ad : Nat → Nat} {σ σ' : Mem} {i : Nat} (h1 : σ'.1 i = σ.1 i) (h2 : σ'.2 i = σ.2 i) (ds : List Nat) (j : Nat) : fvs ad σ' i j ds = fvs ad σ i j ds := by
  refine List.ext_getElem? (fun k => ?_)
  rw [fvs_at, fvs_at]
  congr 1
  funext d
  unfold fv
  rw [h1, h2]
theorem setI_1s {σ : Mem} {a b : Nat} {v : Int32} : (setI σ a b v).1 a b = v := by simp [setI, up2]
theorem setI_1n {σ : Mem} {a b i j : Nat} {v : Int32} (h : ¬ (i = a ∧ j = b)) : (setI σ a b v).1 i j = σ.1 i j := by
  simp only [setI, up2]
  split
  · split
    · exact absurd ⟨by assumption, by assumption⟩ h
    · rfl
  · rfl
theorem setI_1r {σ : Mem} {a b i : Nat} {v : Int32} (h : i ≠ a) : (setI σ a b v).1 i = σ.1 i := by
  funext j
  exact setI_1n (fun q => h q.1)
theorem setI_2 {σ : Mem} {a b : Nat} {v : Int32} : (setI σ a b v).2 = σ.2 := rfl
theorem setL_2s {σ : Mem} {a b : Nat} {v : Int64} : (setL σ a b v).2 a b = v := by simp [setL, up2]
theorem setL_2n {σ : Mem} {a b i j : Nat} {v : Int64} (h : ¬ (i = a ∧ j = b)) : (setL σ a b v).2 i j = σ.2 i j := by
  simp only [setL, up2]
  split
  · split
    · exact absurd ⟨by assumption, by assumption⟩ h
    · rfl
  · rfl
theorem setL_2r {σ : Mem} {a b i : Nat} {v : Int64} (h : i ≠ a) : (setL σ a b v).2 i = σ.2 i := by
  funext j
  exact setL_2n (fun q => h q.1)
theorem setL_1 {σ : Mem} {a b : Nat} {v : Int64} : (setL σ a b v).1 = σ.1 := rfl
theorem fvs_setI {ad : Nat → Nat} {σ : Mem} {i k : Nat} {v : Int32} (ds : List Nat) (h : ds[k]? = some 0) : fvs ad (setI σ i k v) i 0 ds = (fvs ad σ i 0 ds).set k (.int v) := by
  refine List.ext_getElem? (fun x => ?_)
  rw [List.getElem?_set, fvs_at, fvs_at, fvs_len, Nat.zero_add]
  by_cases hx : k = x
  · subst hx
    rw [if_pos rfl, if_pos (List.getElem?_eq_some_iff.mp h).1, h]
    simp [fv, setI_1s]
  · rw [if_neg hx]
    congr 1
    funext d
    unfold fv
    rw [setI_1n (fun q => hx q.2.symm), setI_2]
theorem fvs_setL {ad : Nat → Nat} {σ : Mem} {i k : Nat} {v : Int64} (ds : List Nat) (h : ds[k]? = some 1) : fvs ad (setL σ i k v) i 0 ds = (fvs ad σ i 0 ds).set k (.long v) := by
  refine List.ext_getElem? (fun x => ?_)
  rw [List.getElem?_set, fvs_at, fvs_at, fvs_len, Nat.zero_add]
  by_cases hx : k = x
  · subst hx
    rw [if_pos rfl, if_pos (List.getElem?_eq_some_iff.mp h).1, h]
    simp [fv, setL_2s]
  · rw [if_neg hx]
    congr 1
    funext d
    unfold fv
    rw [setL_2n (fun q => hx q.2.symm), setL_1]
abbrev Cls : Type := ClassId × ClassId × ClassId
def wE (cs : Cls) (ad : Nat → Nat) (σ : Mem) (i : Nat) : va_E := match shp i with
  | .inl (ci, ds) => .inr (ci, fvs ad σ i 0 ds)
  | .inr (t, n) => if t = 0 then .inl (cs.1, n, .inl (σ.1 i)) else if t = 1 then .inl (cs.2.1, n, .inr (.inl (σ.2 i))) else .inl (cs.2.2, n, .inr (.inr (.inr (.inr (fun j => some (ad (14 + 7 * j)))))))
theorem wE_o {cs : Cls} {ad : Nat → Nat} {σ : Mem} {i ci : Nat} {ds : List Nat} (h : shp i = .inl (ci, ds)) : wE cs ad σ i = .inr (ci, fvs ad σ i 0 ds) := by unfold wE; rw [h]
theorem wE_i {cs : Cls} {ad : Nat → Nat} {σ : Mem} {i n : Nat} (h : shp i = .inr (0, n)) : wE cs ad σ i = .inl (cs.1, n, .inl (σ.1 i)) := by unfold wE; rw [h]; rfl
theorem wE_l {cs : Cls} {ad : Nat → Nat} {σ : Mem} {i n : Nat} (h : shp i = .inr (1, n)) : wE cs ad σ i = .inl (cs.2.1, n, .inr (.inl (σ.2 i))) := by unfold wE; rw [h]; rfl
theorem wE_r {cs : Cls} {ad : Nat → Nat} {σ : Mem} {i n : Nat} (h : shp i = .inr (2, n)) : wE cs ad σ i = .inl (cs.2.2, n, .inr (.inr (.inr (.inr (fun j => some (ad (14 + 7 * j))))))) := by unfold wE; rw [h]; rfl
theorem wE_congr {cs : Cls} {ad : Nat → Nat} {σ σ' : Mem} {i : Nat} (h1 : σ'.1 i = σ.1 i) (h2 : σ'.2 i = σ.2 i) : wE cs ad σ' i = wE cs ad σ i := by
  unfold wE
  split
  · rw [fvs_congr h1 h2]
  · rw [h1, h2]
def wld (cs : Cls) (ad : Nat → Nat) (σ : Mem) : va_W := (List.range 92).map (fun i => (ad i, wE cs ad σ i))
theorem wld_at {cs : Cls} {ad : Nat → Nat} {σ : Mem} {i : Nat} (hi : i < 92) : (wld cs ad σ)[i]? = some (ad i, wE cs ad σ i) := by
  unfold wld
  rw [List.getElem?_map, List.getElem?_range hi]
  rfl
theorem wld_in {cs : Cls} {ad : Nat → Nat} {σ : Mem} {i : Nat} {q : Nat × va_E} (h : (wld cs ad σ)[i]? = some q) : i < 92 ∧ q = (ad i, wE cs ad σ i) := by
  have hl : i < 92 := by
    have h1 := (List.getElem?_eq_some_iff.mp h).1
    simpa [wld] using h1
  rw [wld_at hl] at h
  exact ⟨hl, (Option.some.inj h).symm⟩
theorem wld_set {cs : Cls} {ad : Nat → Nat} {σ σ' : Mem} {i : Nat} {e : va_E} (hi : i < 92) (he : wE cs ad σ' i = e) (ho : ∀ j, j ≠ i → wE cs ad σ' j = wE cs ad σ j) : (wld cs ad σ).set i (ad i, e) = wld cs ad σ' := by
  refine List.ext_getElem? (fun x => ?_)
  rw [List.getElem?_set]
  by_cases hx : i = x
  · subst hx
    rw [if_pos rfl, wld_at hi, he, if_pos (by simpa [wld] using hi)]
  · rw [if_neg hx]
    rcases Nat.lt_or_ge x 92 with c | c
    · rw [wld_at c, wld_at c, ho x (fun q => hx q.symm)]
    · rw [List.getElem?_eq_none (by simpa [wld] using c), List.getElem?_eq_none (by simpa [wld] using c)]
theorem wld_setI_f {cs : Cls} {ad : Nat → Nat} {σ : Mem} {i k ci : Nat} {ds : List Nat} {v : Int32} (hs : shp i = .inl (ci, ds)) (hk : ds[k]? = some 0) : (wld cs ad σ).set i (ad i, .inr (ci, (fvs ad σ i 0 ds).set k (.int v))) = wld cs ad (setI σ i k v) :=
  wld_set (shp_lto hs) (by rw [wE_o hs, fvs_setI ds hk]) (fun _ hj => wE_congr (setI_1r hj) rfl)
theorem wld_setL_f {cs : Cls} {ad : Nat → Nat} {σ : Mem} {i k ci : Nat} {ds : List Nat} {v : Int64} (hs : shp i = .inl (ci, ds)) (hk : ds[k]? = some 1) : (wld cs ad σ).set i (ad i, .inr (ci, (fvs ad σ i 0 ds).set k (.long v))) = wld cs ad (setL σ i k v) :=
  wld_set (shp_lto hs) (by rw [wE_o hs, fvs_setL ds hk]) (fun _ hj => wE_congr rfl (setL_2r hj))
theorem wld_setI_a {cs : Cls} {ad : Nat → Nat} {σ : Mem} {i n k : Nat} {v : Int32} (hs : shp i = .inr (0, n)) : (wld cs ad σ).set i (ad i, .inl (cs.1, n, .inl (upd (σ.1 i) k v))) = wld cs ad (setI σ i k v) :=
  wld_set (shp_lta hs (by decide)) (by
    rw [wE_i hs]
    have h : (setI σ i k v).1 i = upd (σ.1 i) k v := by funext j; simp [setI, up2, upd]
    rw [h]) (fun _ hj => wE_congr (setI_1r hj) rfl)
theorem wld_setL_a {cs : Cls} {ad : Nat → Nat} {σ : Mem} {i n k : Nat} {v : Int64} (hs : shp i = .inr (1, n)) : (wld cs ad σ).set i (ad i, .inl (cs.2.1, n, .inr (.inl (vp_updL (σ.2 i) k v)))) = wld cs ad (setL σ i k v) :=
  wld_set (shp_lta hs (by decide)) (by
    rw [wE_l hs]
    have h : (setL σ i k v).2 i = vp_updL (σ.2 i) k v := by funext j; simp [setL, up2, vp_updL]
    rw [h]) (fun _ hj => wE_congr rfl (setL_2r hj))
def AdOk (N0 : Nat) (ad : Nat → Nat) : Prop := (∀ i j, i < 92 → j < 92 → ad i = ad j → i = j) ∧ ∀ i, i < 92 → N0 ≤ ad i
theorem wld_D {N0 : Nat} {cs : Cls} {ad : Nat → Nat} {σ : Mem} (h : AdOk N0 ad) : va_D (fun q => N0 ≤ q) (wld cs ad σ) := by
  refine ⟨fun i j p q hp hq hpq => ?_, fun k q hq => ?_⟩
  · obtain ⟨h1, rfl⟩ := wld_in hp
    obtain ⟨h2, rfl⟩ := wld_in hq
    exact h.1 i j h1 h2 hpq
  · obtain ⟨h1, rfl⟩ := wld_in hq
    exact h.2 k h1
abbrev Gw : Type := va_G × Cls × (Nat → Nat) × Nat
abbrev gA (G : Gw) (i : Nat) : Nat := G.2.2.1 i
abbrev gW (G : Gw) (σ : Mem) : va_W := wld G.2.1 G.2.2.1 σ
abbrev gF (G : Gw) : Nat → Prop := fun q => G.2.2.2 ≤ q
abbrev tysOf (cs : Cls) : List (ClassId × FieldType) := [(cs.1, .int), (cs.2.1, .long), (cs.2.2, .object "StenoChords$State")]
/-- a method's own run: program, launch, env, room, state, method, arguments, frames below, its record, its code, what is to come -/
abbrev Ev := Program × Launch × Env × Room × State × MethodId × Array Value × List Frame × Method × Code × (State → Prop)
abbrev eP (E : Ev) := E.1
abbrev eL (E : Ev) := E.2.1
abbrev eE (E : Ev) := E.2.2.1
abbrev eR (E : Ev) := E.2.2.2.1
abbrev eS (E : Ev) := E.2.2.2.2.1
abbrev eM (E : Ev) := E.2.2.2.2.2.1
abbrev eA (E : Ev) := E.2.2.2.2.2.2.1
abbrev eB (E : Ev) := E.2.2.2.2.2.2.2.1
abbrev eT (E : Ev) := E.2.2.2.2.2.2.2.2.1
abbrev eC (E : Ev) := E.2.2.2.2.2.2.2.2.2.1
abbrev eQ (E : Ev) := E.2.2.2.2.2.2.2.2.2.2
/-- THE JUDGEMENT: over any heap that holds the memory σ, the machine at pc with these locals and this stack comes to what is wanted -/
def J (E : Ev) (G : Gw) (nL k n : Nat) (σ : Mem) (pc : Nat) (L : List (Nat × Value)) (st : List Value) : Prop :=
  ∀ (H : Heap) (locs : List Loc) (ls : Array Slot), va_P G.1 vwCl (gW G σ) H → va_S (gF G) (eS E).heap H locs → lv_has ls nL L →
    W (eP E) (eL E) (eE E) (eR E) (eS E) (eM E) (eA E) (eB E) (eT E) (eC E) H locs k n (eQ E) (F0 (eM E) pc ls st)
/-- what stands all through a method's run -/
def Cx (E : Ev) (G : Gw) (own : String) (cc : ByteArray) (nL : Nat) (rm : Room) : Prop :=
  (eP E).tables.exec = Jvm.exec ∧ (eC E).code = cc ∧ (eC E).maxLocals = nL ∧ (eS E).vm.findClass own = some (eM E).cls ∧ (∀ w ∈ lw_all, w.before (eA E) (eS E) = true) ∧ va_K G.1 vwCl (tysOf G.2.1) (eS E) ∧ AdOk G.2.2.2 G.2.2.1 ∧ G.2.2.2 ≤ (eS E).heap.size ∧ eR E = rm
abbrev inA (x : Int32) (n : Nat) : Prop := 0 ≤ x.toInt ∧ x.toInt < (n : Int)
section ROWS
variable {E : Ev} {G : Gw} {own : String} {cc : ByteArray} {nL : Nat} {rm : Room} {k n : Nat} {σ : Mem} {pc : Nat} {L : List (Nat × Value)} {st : List Value}
theorem j_sub (L' : List (Nat × Value)) (ks : List Nat) (h : lv_pick L ks = L') (kk : J E G nL k n σ pc L' st) : J E G nL k n σ pc L st :=
  fun H locs ls hP hS hl => kk H locs ls hP hS (lv_sub hl ks h)
theorem j_mem {σ' : Mem} (h : σ = σ') (kk : J E G nL k n σ' pc L st) : J E G nL k n σ pc L st := h ▸ kk
theorem j_pc {pc' : Nat} (h : pc = pc') (kk : J E G nL k n σ pc' L st) : J E G nL k n σ pc L st := h ▸ kk
theorem j_widen {k' n' : Nat} (h1 : k ≤ k') (h2 : n ≤ n') (kk : J E G nL k' n' σ pc L st) : J E G nL k n σ pc L st :=
  fun H locs ls hP hS hl => W.widen h1 h2 (kk H locs ls hP hS hl)
theorem j_iconst (C : Cx E G own cc nL rm) {z : Int} (hd : decode cc pc = .ok (.iconst z, 1)) (v : Int32) (hv : Int32.ofInt z = v) (pc' : Nat) (hp : pc + 1 = pc') (kk : J E G nL k n σ pc' L (.int v :: st)) : J E G nL k n σ pc L (st) := by
  subst hp
  exact fun H locs ls hP hS hl => lv_iconst C.1 C.2.1 hd hv (kk H locs ls hP hS hl)
theorem j_bipush (C : Cx E G own cc nL rm) {z : Int} (hd : decode cc pc = .ok (.bipush z, 2)) (v : Int32) (hv : (Int8.ofInt z).toInt32 = v) (pc' : Nat) (hp : pc + 2 = pc') (kk : J E G nL k n σ pc' L (.int v :: st)) : J E G nL k n σ pc L (st) := by
  subst hp
  exact fun H locs ls hP hS hl => lv_bipush C.1 C.2.1 hd hv (kk H locs ls hP hS hl)
theorem j_sipush (C : Cx E G own cc nL rm) {z : Int} (hd : decode cc pc = .ok (.sipush z, 3)) (v : Int32) (hv : (Int16.ofInt z).toInt32 = v) (pc' : Nat) (hp : pc + 3 = pc') (kk : J E G nL k n σ pc' L (.int v :: st)) : J E G nL k n σ pc L (st) := by
  subst hp
  exact fun H locs ls hP hS hl => lv_sipush C.1 C.2.1 hd hv (kk H locs ls hP hS hl)
theorem j_lconst (C : Cx E G own cc nL rm) {z : Fin 2} (hd : decode cc pc = .ok (.lconst z, 1)) (v : Int64) (hv : Int64.ofNat (z : Nat) = v) (pc' : Nat) (hp : pc + 1 = pc') (kk : J E G nL k n σ pc' L (.long v :: st)) : J E G nL k n σ pc L (st) := by
  subst hp
  exact fun H locs ls hP hS hl => lv_lconst C.1 C.2.1 hd hv (kk H locs ls hP hS hl)
theorem j_iload_n (C : Cx E G own cc nL rm) {z : Fin 4} (hd : decode cc pc = .ok (.iload_n z, 1)) {i : Nat} (hi : (z : Nat) = i) (q : Nat) {x : Int32} (hL : L[q]? = some (i, .int x)) (pc' : Nat) (hp : pc + 1 = pc') (kk : J E G nL k n σ pc' L (.int x :: st)) : J E G nL k n σ pc L (st) := by
  subst hp
  exact fun H locs ls hP hS hl => lv_iload_n C.1 C.2.1 hd hi (lv_at hl q hL) (kk H locs ls hP hS hl)
theorem j_iload (C : Cx E G own cc nL rm) {i : Nat} (hd : decode cc pc = .ok (.iload i, 2)) (q : Nat) {x : Int32} (hL : L[q]? = some (i, .int x)) (pc' : Nat) (hp : pc + 2 = pc') (kk : J E G nL k n σ pc' L (.int x :: st)) : J E G nL k n σ pc L (st) := by
  subst hp
  exact fun H locs ls hP hS hl => lv_iload C.1 C.2.1 hd (lv_at hl q hL) (kk H locs ls hP hS hl)
theorem j_lload_n (C : Cx E G own cc nL rm) {z : Fin 4} (hd : decode cc pc = .ok (.lload_n z, 1)) {i : Nat} (hi : (z : Nat) = i) (q : Nat) {x : Int64} (hL : L[q]? = some (i, .long x)) (pc' : Nat) (hp : pc + 1 = pc') (kk : J E G nL k n σ pc' L (.long x :: st)) : J E G nL k n σ pc L (st) := by
  subst hp
  exact fun H locs ls hP hS hl => lv_lload_n C.1 C.2.1 hd hi (lv_at hl q hL) (kk H locs ls hP hS hl)
theorem j_lload (C : Cx E G own cc nL rm) {i : Nat} (hd : decode cc pc = .ok (.lload i, 2)) (q : Nat) {x : Int64} (hL : L[q]? = some (i, .long x)) (pc' : Nat) (hp : pc + 2 = pc') (kk : J E G nL k n σ pc' L (.long x :: st)) : J E G nL k n σ pc L (st) := by
  subst hp
  exact fun H locs ls hP hS hl => lv_lload C.1 C.2.1 hd (lv_at hl q hL) (kk H locs ls hP hS hl)
theorem j_aload_n (C : Cx E G own cc nL rm) {z : Fin 4} (hd : decode cc pc = .ok (.aload_n z, 1)) {i : Nat} (hi : (z : Nat) = i) (q : Nat) {x : Nat} (hL : L[q]? = some (i, .ref x)) (pc' : Nat) (hp : pc + 1 = pc') (kk : J E G nL k n σ pc' L (.ref x :: st)) : J E G nL k n σ pc L (st) := by
  subst hp
  exact fun H locs ls hP hS hl => lv_aload_n C.1 C.2.1 hd hi (lv_at hl q hL) (kk H locs ls hP hS hl)
theorem j_aload (C : Cx E G own cc nL rm) {i : Nat} (hd : decode cc pc = .ok (.aload i, 2)) (q : Nat) {x : Nat} (hL : L[q]? = some (i, .ref x)) (pc' : Nat) (hp : pc + 2 = pc') (kk : J E G nL k n σ pc' L (.ref x :: st)) : J E G nL k n σ pc L (st) := by
  subst hp
  exact fun H locs ls hP hS hl => lv_aload C.1 C.2.1 hd (lv_at hl q hL) (kk H locs ls hP hS hl)
theorem j_fload_n (C : Cx E G own cc nL rm) {z : Fin 4} (hd : decode cc pc = .ok (.fload_n z, 1)) {i : Nat} (hi : (z : Nat) = i) (q : Nat) {x : UInt32} (hL : L[q]? = some (i, .float x)) (pc' : Nat) (hp : pc + 1 = pc') (kk : J E G nL k n σ pc' L (.float x :: st)) : J E G nL k n σ pc L (st) := by
  subst hp
  exact fun H locs ls hP hS hl => lv_fload_n C.1 C.2.1 hd hi (lv_at hl q hL) (kk H locs ls hP hS hl)
theorem j_fload (C : Cx E G own cc nL rm) {i : Nat} (hd : decode cc pc = .ok (.fload i, 2)) (q : Nat) {x : UInt32} (hL : L[q]? = some (i, .float x)) (pc' : Nat) (hp : pc + 2 = pc') (kk : J E G nL k n σ pc' L (.float x :: st)) : J E G nL k n σ pc L (st) := by
  subst hp
  exact fun H locs ls hP hS hl => lv_fload C.1 C.2.1 hd (lv_at hl q hL) (kk H locs ls hP hS hl)
theorem j_dload_n (C : Cx E G own cc nL rm) {z : Fin 4} (hd : decode cc pc = .ok (.dload_n z, 1)) {i : Nat} (hi : (z : Nat) = i) (q : Nat) {x : UInt64} (hL : L[q]? = some (i, .double x)) (pc' : Nat) (hp : pc + 1 = pc') (kk : J E G nL k n σ pc' L (.double x :: st)) : J E G nL k n σ pc L (st) := by
  subst hp
  exact fun H locs ls hP hS hl => lv_dload_n C.1 C.2.1 hd hi (lv_at hl q hL) (kk H locs ls hP hS hl)
theorem j_dload (C : Cx E G own cc nL rm) {i : Nat} (hd : decode cc pc = .ok (.dload i, 2)) (q : Nat) {x : UInt64} (hL : L[q]? = some (i, .double x)) (pc' : Nat) (hp : pc + 2 = pc') (kk : J E G nL k n σ pc' L (.double x :: st)) : J E G nL k n σ pc L (st) := by
  subst hp
  exact fun H locs ls hP hS hl => lv_dload C.1 C.2.1 hd (lv_at hl q hL) (kk H locs ls hP hS hl)
theorem j_iadd (C : Cx E G own cc nL rm) {x y : Int32} (hd : decode cc pc = .ok (.iadd, 1)) (pc' : Nat) (hp : pc + 1 = pc') (kk : J E G nL k n σ pc' L (.int (x + y) :: st)) : J E G nL k n σ pc L (.int y :: .int x :: st) := by
  subst hp
  exact fun H locs ls hP hS hl => lv_iadd C.1 C.2.1 hd (kk H locs ls hP hS hl)
theorem j_isub (C : Cx E G own cc nL rm) {x y : Int32} (hd : decode cc pc = .ok (.isub, 1)) (pc' : Nat) (hp : pc + 1 = pc') (kk : J E G nL k n σ pc' L (.int (x - y) :: st)) : J E G nL k n σ pc L (.int y :: .int x :: st) := by
  subst hp
  exact fun H locs ls hP hS hl => lv_isub C.1 C.2.1 hd (kk H locs ls hP hS hl)
theorem j_imul (C : Cx E G own cc nL rm) {x y : Int32} (hd : decode cc pc = .ok (.imul, 1)) (pc' : Nat) (hp : pc + 1 = pc') (kk : J E G nL k n σ pc' L (.int (x * y) :: st)) : J E G nL k n σ pc L (.int y :: .int x :: st) := by
  subst hp
  exact fun H locs ls hP hS hl => lv_imul C.1 C.2.1 hd (kk H locs ls hP hS hl)
theorem j_iand (C : Cx E G own cc nL rm) {x y : Int32} (hd : decode cc pc = .ok (.iand, 1)) (pc' : Nat) (hp : pc + 1 = pc') (kk : J E G nL k n σ pc' L (.int (x &&& y) :: st)) : J E G nL k n σ pc L (.int y :: .int x :: st) := by
  subst hp
  exact fun H locs ls hP hS hl => lv_iand C.1 C.2.1 hd (kk H locs ls hP hS hl)
theorem j_ior (C : Cx E G own cc nL rm) {x y : Int32} (hd : decode cc pc = .ok (.ior, 1)) (pc' : Nat) (hp : pc + 1 = pc') (kk : J E G nL k n σ pc' L (.int (x ||| y) :: st)) : J E G nL k n σ pc L (.int y :: .int x :: st) := by
  subst hp
  exact fun H locs ls hP hS hl => lv_ior C.1 C.2.1 hd (kk H locs ls hP hS hl)
theorem j_ixor (C : Cx E G own cc nL rm) {x y : Int32} (hd : decode cc pc = .ok (.ixor, 1)) (pc' : Nat) (hp : pc + 1 = pc') (kk : J E G nL k n σ pc' L (.int (x ^^^ y) :: st)) : J E G nL k n σ pc L (.int y :: .int x :: st) := by
  subst hp
  exact fun H locs ls hP hS hl => lv_ixor C.1 C.2.1 hd (kk H locs ls hP hS hl)
theorem j_ladd (C : Cx E G own cc nL rm) {x y : Int64} (hd : decode cc pc = .ok (.ladd, 1)) (pc' : Nat) (hp : pc + 1 = pc') (kk : J E G nL k n σ pc' L (.long (x + y) :: st)) : J E G nL k n σ pc L (.long y :: .long x :: st) := by
  subst hp
  exact fun H locs ls hP hS hl => lv_ladd C.1 C.2.1 hd (kk H locs ls hP hS hl)
theorem j_lsub (C : Cx E G own cc nL rm) {x y : Int64} (hd : decode cc pc = .ok (.lsub, 1)) (pc' : Nat) (hp : pc + 1 = pc') (kk : J E G nL k n σ pc' L (.long (x - y) :: st)) : J E G nL k n σ pc L (.long y :: .long x :: st) := by
  subst hp
  exact fun H locs ls hP hS hl => lv_lsub C.1 C.2.1 hd (kk H locs ls hP hS hl)
theorem j_lmul (C : Cx E G own cc nL rm) {x y : Int64} (hd : decode cc pc = .ok (.lmul, 1)) (pc' : Nat) (hp : pc + 1 = pc') (kk : J E G nL k n σ pc' L (.long (x * y) :: st)) : J E G nL k n σ pc L (.long y :: .long x :: st) := by
  subst hp
  exact fun H locs ls hP hS hl => lv_lmul C.1 C.2.1 hd (kk H locs ls hP hS hl)
theorem j_land (C : Cx E G own cc nL rm) {x y : Int64} (hd : decode cc pc = .ok (.land, 1)) (pc' : Nat) (hp : pc + 1 = pc') (kk : J E G nL k n σ pc' L (.long (x &&& y) :: st)) : J E G nL k n σ pc L (.long y :: .long x :: st) := by
  subst hp
  exact fun H locs ls hP hS hl => lv_land C.1 C.2.1 hd (kk H locs ls hP hS hl)
theorem j_lor (C : Cx E G own cc nL rm) {x y : Int64} (hd : decode cc pc = .ok (.lor, 1)) (pc' : Nat) (hp : pc + 1 = pc') (kk : J E G nL k n σ pc' L (.long (x ||| y) :: st)) : J E G nL k n σ pc L (.long y :: .long x :: st) := by
  subst hp
  exact fun H locs ls hP hS hl => lv_lor C.1 C.2.1 hd (kk H locs ls hP hS hl)
theorem j_lxor (C : Cx E G own cc nL rm) {x y : Int64} (hd : decode cc pc = .ok (.lxor, 1)) (pc' : Nat) (hp : pc + 1 = pc') (kk : J E G nL k n σ pc' L (.long (x ^^^ y) :: st)) : J E G nL k n σ pc L (.long y :: .long x :: st) := by
  subst hp
  exact fun H locs ls hP hS hl => lv_lxor C.1 C.2.1 hd (kk H locs ls hP hS hl)
theorem j_ishl (C : Cx E G own cc nL rm) {x y : Int32} (hd : decode cc pc = .ok (.ishl, 1)) (pc' : Nat) (hp : pc + 1 = pc') (kk : J E G nL k n σ pc' L (.int (x <<< (y &&& 31)) :: st)) : J E G nL k n σ pc L (.int y :: .int x :: st) := by
  subst hp
  exact fun H locs ls hP hS hl => lv_ishl C.1 C.2.1 hd (kk H locs ls hP hS hl)
theorem j_ishr (C : Cx E G own cc nL rm) {x y : Int32} (hd : decode cc pc = .ok (.ishr, 1)) (pc' : Nat) (hp : pc + 1 = pc') (kk : J E G nL k n σ pc' L (.int (x >>> (y &&& 31)) :: st)) : J E G nL k n σ pc L (.int y :: .int x :: st) := by
  subst hp
  exact fun H locs ls hP hS hl => lv_ishr C.1 C.2.1 hd (kk H locs ls hP hS hl)
theorem j_iushr (C : Cx E G own cc nL rm) {x y : Int32} (hd : decode cc pc = .ok (.iushr, 1)) (pc' : Nat) (hp : pc + 1 = pc') (kk : J E G nL k n σ pc' L (.int ((x.toUInt32 >>> (y.toUInt32 &&& Int32.toUInt32 31)).toInt32) :: st)) : J E G nL k n σ pc L (.int y :: .int x :: st) := by
  subst hp
  exact fun H locs ls hP hS hl => lv_iushr C.1 C.2.1 hd rfl (kk H locs ls hP hS hl)
theorem j_lshl (C : Cx E G own cc nL rm) {x : Int64} {y : Int32} (hd : decode cc pc = .ok (.lshl, 1)) (pc' : Nat) (hp : pc + 1 = pc') (kk : J E G nL k n σ pc' L (.long (x <<< (y.toInt64 &&& 63)) :: st)) : J E G nL k n σ pc L (.int y :: .long x :: st) := by
  subst hp
  exact fun H locs ls hP hS hl => lv_lshl C.1 C.2.1 hd rfl (kk H locs ls hP hS hl)
theorem j_lshr (C : Cx E G own cc nL rm) {x : Int64} {y : Int32} (hd : decode cc pc = .ok (.lshr, 1)) (pc' : Nat) (hp : pc + 1 = pc') (kk : J E G nL k n σ pc' L (.long (x >>> (y.toInt64 &&& 63)) :: st)) : J E G nL k n σ pc L (.int y :: .long x :: st) := by
  subst hp
  exact fun H locs ls hP hS hl => lv_lshr C.1 C.2.1 hd rfl (kk H locs ls hP hS hl)
theorem j_ineg (C : Cx E G own cc nL rm) {x : Int32} (hd : decode cc pc = .ok (.ineg, 1)) (pc' : Nat) (hp : pc + 1 = pc') (kk : J E G nL k n σ pc' L (.int (-x) :: st)) : J E G nL k n σ pc L (.int x :: st) := by
  subst hp
  exact fun H locs ls hP hS hl => lv_ineg C.1 C.2.1 hd (kk H locs ls hP hS hl)
theorem j_idiv (C : Cx E G own cc nL rm) {x y : Int32} (hd : decode cc pc = .ok (.idiv, 1)) (hne : ¬ y = 0) (pc' : Nat) (hp : pc + 1 = pc') (kk : J E G nL k n σ pc' L (.int (x / y) :: st)) : J E G nL k n σ pc L (.int y :: .int x :: st) := by
  subst hp
  exact fun H locs ls hP hS hl => lv_idiv C.1 C.2.1 hd hne (kk H locs ls hP hS hl)
theorem j_irem (C : Cx E G own cc nL rm) {x y : Int32} (hd : decode cc pc = .ok (.irem, 1)) (hne : ¬ y = 0) (pc' : Nat) (hp : pc + 1 = pc') (kk : J E G nL k n σ pc' L (.int (x - x / y * y) :: st)) : J E G nL k n σ pc L (.int y :: .int x :: st) := by
  subst hp
  exact fun H locs ls hP hS hl => lv_irem C.1 C.2.1 hd hne (kk H locs ls hP hS hl)
theorem j_lcmp (C : Cx E G own cc nL rm) {x y : Int64} (hd : decode cc pc = .ok (.lcmp, 1)) (pc' : Nat) (hp : pc + 1 = pc') (kk : J E G nL k n σ pc' L (.int (lg_cmp x y) :: st)) : J E G nL k n σ pc L (.long y :: .long x :: st) := by
  subst hp
  exact fun H locs ls hP hS hl => W.lcmp C.1 C.2.1 hd (kk H locs ls hP hS hl)
theorem j_i2l (C : Cx E G own cc nL rm) {x : Int32} (hd : decode cc pc = .ok (.i2l, 1)) (pc' : Nat) (hp : pc + 1 = pc') (kk : J E G nL k n σ pc' L (.long x.toInt64 :: st)) : J E G nL k n σ pc L (.int x :: st) := by
  subst hp
  exact fun H locs ls hP hS hl => lv_i2l C.1 C.2.1 hd rfl (kk H locs ls hP hS hl)
theorem j_l2i (C : Cx E G own cc nL rm) {x : Int64} (hd : decode cc pc = .ok (.l2i, 1)) (pc' : Nat) (hp : pc + 1 = pc') (kk : J E G nL k n σ pc' L (.int x.toInt32 :: st)) : J E G nL k n σ pc L (.long x :: st) := by
  subst hp
  exact fun H locs ls hP hS hl => lv_l2i C.1 C.2.1 hd rfl (kk H locs ls hP hS hl)
theorem j_i2c (C : Cx E G own cc nL rm) {x : Int32} (hd : decode cc pc = .ok (.i2c, 1)) (pc' : Nat) (hp : pc + 1 = pc') (kk : J E G nL k n σ pc' L (.int (x.toUInt32 % 65536).toInt32 :: st)) : J E G nL k n σ pc L (.int x :: st) := by
  subst hp
  exact fun H locs ls hP hS hl => lv_i2c C.1 C.2.1 hd rfl (kk H locs ls hP hS hl)
theorem j_i2d (C : Cx E G own cc nL rm) {x : Int32} (hd : decode cc pc = .ok (.i2d, 1)) (pc' : Nat) (hp : pc + 1 = pc') (kk : J E G nL k n σ pc' L (.double (FP.i2d x) :: st)) : J E G nL k n σ pc L (.int x :: st) := by
  subst hp
  exact fun H locs ls hP hS hl => lv_i2d C.1 C.2.1 hd (kk H locs ls hP hS hl)
theorem j_i2f (C : Cx E G own cc nL rm) {x : Int32} (hd : decode cc pc = .ok (.i2f, 1)) (pc' : Nat) (hp : pc + 1 = pc') (kk : J E G nL k n σ pc' L (.float (FP.i2f x) :: st)) : J E G nL k n σ pc L (.int x :: st) := by
  subst hp
  exact fun H locs ls hP hS hl => lv_i2f C.1 C.2.1 hd (kk H locs ls hP hS hl)
theorem j_l2d (C : Cx E G own cc nL rm) {x : Int64} (hd : decode cc pc = .ok (.l2d, 1)) (pc' : Nat) (hp : pc + 1 = pc') (kk : J E G nL k n σ pc' L (.double (FP.l2d x) :: st)) : J E G nL k n σ pc L (.long x :: st) := by
  subst hp
  exact fun H locs ls hP hS hl => lv_l2d C.1 C.2.1 hd (kk H locs ls hP hS hl)
theorem j_d2l (C : Cx E G own cc nL rm) {x : UInt64} (hd : decode cc pc = .ok (.d2l, 1)) (pc' : Nat) (hp : pc + 1 = pc') (kk : J E G nL k n σ pc' L (.long (FP.d2l x) :: st)) : J E G nL k n σ pc L (.double x :: st) := by
  subst hp
  exact fun H locs ls hP hS hl => lv_d2l C.1 C.2.1 hd (kk H locs ls hP hS hl)
theorem j_f2i (C : Cx E G own cc nL rm) {x : UInt32} (hd : decode cc pc = .ok (.f2i, 1)) (pc' : Nat) (hp : pc + 1 = pc') (kk : J E G nL k n σ pc' L (.int (FP.f2i x) :: st)) : J E G nL k n σ pc L (.float x :: st) := by
  subst hp
  exact fun H locs ls hP hS hl => lv_f2i C.1 C.2.1 hd (kk H locs ls hP hS hl)
theorem j_f2d (C : Cx E G own cc nL rm) {x : UInt32} (hd : decode cc pc = .ok (.f2d, 1)) (hne : vf_n64 (FP.f2d x)) (pc' : Nat) (hp : pc + 1 = pc') (kk : J E G nL k n σ pc' L (.double (FP.f2d x) :: st)) : J E G nL k n σ pc L (.float x :: st) := by
  subst hp
  exact fun H locs ls hP hS hl => lv_f2d C.1 C.2.1 hd hne (kk H locs ls hP hS hl)
theorem j_fdiv (C : Cx E G own cc nL rm) {x y : UInt32} (hd : decode cc pc = .ok (.fdiv, 1)) (hne : vf_n32 (FP.fdiv x y)) (pc' : Nat) (hp : pc + 1 = pc') (kk : J E G nL k n σ pc' L (.float (FP.fdiv x y) :: st)) : J E G nL k n σ pc L (.float y :: .float x :: st) := by
  subst hp
  exact fun H locs ls hP hS hl => lv_fdiv C.1 C.2.1 hd hne (kk H locs ls hP hS hl)
theorem j_fsub (C : Cx E G own cc nL rm) {x y : UInt32} (hd : decode cc pc = .ok (.fsub, 1)) (hne : vf_n32 (FP.fsub x y)) (pc' : Nat) (hp : pc + 1 = pc') (kk : J E G nL k n σ pc' L (.float (FP.fsub x y) :: st)) : J E G nL k n σ pc L (.float y :: .float x :: st) := by
  subst hp
  exact fun H locs ls hP hS hl => lv_fsub C.1 C.2.1 hd hne (kk H locs ls hP hS hl)
theorem j_fmul (C : Cx E G own cc nL rm) {x y : UInt32} (hd : decode cc pc = .ok (.fmul, 1)) (hne : vf_n32 (FP.fmul x y)) (pc' : Nat) (hp : pc + 1 = pc') (kk : J E G nL k n σ pc' L (.float (FP.fmul x y) :: st)) : J E G nL k n σ pc L (.float y :: .float x :: st) := by
  subst hp
  exact fun H locs ls hP hS hl => lv_fmul C.1 C.2.1 hd hne (kk H locs ls hP hS hl)
theorem j_ddiv (C : Cx E G own cc nL rm) {x y : UInt64} (hd : decode cc pc = .ok (.ddiv, 1)) (hne : vf_n64 (FP.ddiv x y)) (pc' : Nat) (hp : pc + 1 = pc') (kk : J E G nL k n σ pc' L (.double (FP.ddiv x y) :: st)) : J E G nL k n σ pc L (.double y :: .double x :: st) := by
  subst hp
  exact fun H locs ls hP hS hl => lv_ddiv C.1 C.2.1 hd hne (kk H locs ls hP hS hl)
theorem j_dsub (C : Cx E G own cc nL rm) {x y : UInt64} (hd : decode cc pc = .ok (.dsub, 1)) (hne : vf_n64 (FP.dsub x y)) (pc' : Nat) (hp : pc + 1 = pc') (kk : J E G nL k n σ pc' L (.double (FP.dsub x y) :: st)) : J E G nL k n σ pc L (.double y :: .double x :: st) := by
  subst hp
  exact fun H locs ls hP hS hl => lv_dsub C.1 C.2.1 hd hne (kk H locs ls hP hS hl)
theorem j_dmul (C : Cx E G own cc nL rm) {x y : UInt64} (hd : decode cc pc = .ok (.dmul, 1)) (hne : vf_n64 (FP.dmul x y)) (pc' : Nat) (hp : pc + 1 = pc') (kk : J E G nL k n σ pc' L (.double (FP.dmul x y) :: st)) : J E G nL k n σ pc L (.double y :: .double x :: st) := by
  subst hp
  exact fun H locs ls hP hS hl => lv_dmul C.1 C.2.1 hd hne (kk H locs ls hP hS hl)
theorem j_fcmp (C : Cx E G own cc nL rm) {x y : UInt32} {op : CmpOp} (hd : decode cc pc = .ok (.fcmp op, 1)) (pc' : Nat) (hp : pc + 1 = pc') (kk : J E G nL k n σ pc' L (.int (Op.cmpValue (FP.fcmp x y) op) :: st)) : J E G nL k n σ pc L (.float y :: .float x :: st) := by
  subst hp
  exact fun H locs ls hP hS hl => lv_fcmp C.1 C.2.1 hd (kk H locs ls hP hS hl)
theorem j_dcmp (C : Cx E G own cc nL rm) {x y : UInt64} {op : CmpOp} (hd : decode cc pc = .ok (.dcmp op, 1)) (pc' : Nat) (hp : pc + 1 = pc') (kk : J E G nL k n σ pc' L (.int (Op.cmpValue (FP.dcmp x y) op) :: st)) : J E G nL k n σ pc L (.double y :: .double x :: st) := by
  subst hp
  exact fun H locs ls hP hS hl => lv_dcmp C.1 C.2.1 hd (kk H locs ls hP hS hl)
theorem j_fconst0 (C : Cx E G own cc nL rm) (hd : decode cc pc = .ok (.fconst 0, 1)) (pc' : Nat) (hp : pc + 1 = pc') (kk : J E G nL k n σ pc' L (.float FP.fconst0 :: st)) : J E G nL k n σ pc L (st) := by
  subst hp
  exact fun H locs ls hP hS hl => lv_fconst0 C.1 C.2.1 hd (kk H locs ls hP hS hl)
theorem j_fconst1 (C : Cx E G own cc nL rm) (hd : decode cc pc = .ok (.fconst 1, 1)) (pc' : Nat) (hp : pc + 1 = pc') (kk : J E G nL k n σ pc' L (.float FP.fconst1 :: st)) : J E G nL k n σ pc L (st) := by
  subst hp
  exact fun H locs ls hP hS hl => lv_fconst1 C.1 C.2.1 hd (kk H locs ls hP hS hl)
theorem j_fconst2 (C : Cx E G own cc nL rm) (hd : decode cc pc = .ok (.fconst 2, 1)) (pc' : Nat) (hp : pc + 1 = pc') (kk : J E G nL k n σ pc' L (.float FP.fconst2 :: st)) : J E G nL k n σ pc L (st) := by
  subst hp
  exact fun H locs ls hP hS hl => lv_fconst2 C.1 C.2.1 hd (kk H locs ls hP hS hl)
theorem j_dconst0 (C : Cx E G own cc nL rm) (hd : decode cc pc = .ok (.dconst 0, 1)) (pc' : Nat) (hp : pc + 1 = pc') (kk : J E G nL k n σ pc' L (.double FP.dconst0 :: st)) : J E G nL k n σ pc L (st) := by
  subst hp
  exact fun H locs ls hP hS hl => lv_dconst0 C.1 C.2.1 hd (kk H locs ls hP hS hl)
theorem j_dconst1 (C : Cx E G own cc nL rm) (hd : decode cc pc = .ok (.dconst 1, 1)) (pc' : Nat) (hp : pc + 1 = pc') (kk : J E G nL k n σ pc' L (.double FP.dconst1 :: st)) : J E G nL k n σ pc L (st) := by
  subst hp
  exact fun H locs ls hP hS hl => lv_dconst1 C.1 C.2.1 hd (kk H locs ls hP hS hl)
theorem j_dup (C : Cx E G own cc nL rm) {va : Value} (hd : decode cc pc = .ok (.dup, 1)) (hva : va.category = 1) (pc' : Nat) (hp : pc + 1 = pc') (kk : J E G nL k n σ pc' L (va :: va :: st)) : J E G nL k n σ pc L (va :: st) := by
  subst hp
  exact fun H locs ls hP hS hl => lv_dup C.1 C.2.1 hd hva (kk H locs ls hP hS hl)
theorem j_dup2 (C : Cx E G own cc nL rm) {va vb : Value} (hd : decode cc pc = .ok (.dup2, 1)) (hva : va.category = 1) (hvb : vb.category = 1) (pc' : Nat) (hp : pc + 1 = pc') (kk : J E G nL k n σ pc' L (va :: vb :: va :: vb :: st)) : J E G nL k n σ pc L (va :: vb :: st) := by
  subst hp
  exact fun H locs ls hP hS hl => lv_dup2_11 C.1 C.2.1 hd hva hvb (kk H locs ls hP hS hl)
theorem j_pop (C : Cx E G own cc nL rm) {va : Value} (hd : decode cc pc = .ok (.pop, 1)) (hva : va.category = 1) (pc' : Nat) (hp : pc + 1 = pc') (kk : J E G nL k n σ pc' L (st)) : J E G nL k n σ pc L (va :: st) := by
  subst hp
  exact fun H locs ls hP hS hl => lv_pop C.1 C.2.1 hd hva (kk H locs ls hP hS hl)
theorem j_null (C : Cx E G own cc nL rm) (hd : decode cc pc = .ok (.aconst_null, 1)) (pc' : Nat) (hp : pc + 1 = pc') (kk : J E G nL k n σ pc' L (.null :: st)) : J E G nL k n σ pc L (st) := by
  subst hp
  exact fun H locs ls hP hS hl => lv_null C.1 C.2.1 hd (kk H locs ls hP hS hl)
theorem j_ldc (C : Cx E G own cc nL rm) {idx : Nat} (hd : decode cc pc = .ok (.ldc idx, 2)) {v : Int32} (hw : Cond.constant own idx v ∈ lw_all) (pc' : Nat) (hp : pc + 2 = pc') (kk : J E G nL k n σ pc' L (.int v :: st)) : J E G nL k n σ pc L (st) := by
  subst hp
  exact fun H locs ls hP hS hl => lv_ldc C.1 C.2.1 C.2.2.2.1 (C.2.2.2.2.1 _ hw) hd (kk H locs ls hP hS hl)
theorem j_ldcw (C : Cx E G own cc nL rm) {idx : Nat} (hd : decode cc pc = .ok (.ldc_w idx, 3)) {v : Int32} (hw : Cond.constant own idx v ∈ lw_all) (pc' : Nat) (hp : pc + 3 = pc') (kk : J E G nL k n σ pc' L (.int v :: st)) : J E G nL k n σ pc L st := by
  subst hp
  exact fun H locs ls hP hS hl => lv_ldcw C.1 C.2.1 C.2.2.2.1 (C.2.2.2.2.1 _ hw) hd (kk H locs ls hP hS hl)
theorem j_ldc2 (C : Cx E G own cc nL rm) {idx : Nat} (hd : decode cc pc = .ok (.ldc2_w idx, 3)) {v : Int64} (hw : Cond.constantLong own idx v ∈ lw_all) (pc' : Nat) (hp : pc + 3 = pc') (kk : J E G nL k n σ pc' L (.long v :: st)) : J E G nL k n σ pc L st := by
  subst hp
  exact fun H locs ls hP hS hl => lv_ldc2 C.1 C.2.1 C.2.2.2.1 (C.2.2.2.2.1 _ hw) hd (kk H locs ls hP hS hl)
theorem j_ldc2d (C : Cx E G own cc nL rm) {idx : Nat} (hd : decode cc pc = .ok (.ldc2_w idx, 3)) {v : UInt64} (hw : Cond.constantDouble own idx v ∈ lw_all) (pc' : Nat) (hp : pc + 3 = pc') (kk : J E G nL k n σ pc' L (.double v :: st)) : J E G nL k n σ pc L st := by
  subst hp
  exact fun H locs ls hP hS hl => lv_ldc2d C.1 C.2.1 C.2.2.2.1 (C.2.2.2.2.1 _ hw) hd (kk H locs ls hP hS hl)
theorem j_ldcf (C : Cx E G own cc nL rm) {idx : Nat} (hd : decode cc pc = .ok (.ldc idx, 2)) {v : UInt32} (hw : Cond.constantFloat own idx v ∈ lw_all) (pc' : Nat) (hp : pc + 2 = pc') (kk : J E G nL k n σ pc' L (.float v :: st)) : J E G nL k n σ pc L st := by
  subst hp
  exact fun H locs ls hP hS hl => lv_ldcf C.1 C.2.1 C.2.2.2.1 (C.2.2.2.2.1 _ hw) hd (kk H locs ls hP hS hl)
theorem j_istore_n (C : Cx E G own cc nL rm) {i : Nat} {z : Fin 4} {x : Int32} (hd : decode cc pc = .ok (.istore_n z, 1)) (hi : (z : Nat) = i) (hn : i < nL) (L' : List (Nat × Value)) (hL : (i, Value.int x) :: L.filter (fun q => !(q.1 == i) && !(q.1 + 1 == i && q.2.category == 2)) = L') (pc' : Nat) (hp : pc + 1 = pc') (kk : J E G nL k n σ pc' L' st) : J E G nL k n σ pc L (.int x :: st) := by
  subst hp
  exact fun H locs ls hP hS hl => lv_istore_n C.1 C.2.1 hd hi hl hn hL (fun ls' hl' => kk H locs ls' hP hS hl')
theorem j_istore (C : Cx E G own cc nL rm) {i : Nat} {x : Int32} (hd : decode cc pc = .ok (.istore i, 2)) (hn : i < nL) (L' : List (Nat × Value)) (hL : (i, Value.int x) :: L.filter (fun q => !(q.1 == i) && !(q.1 + 1 == i && q.2.category == 2)) = L') (pc' : Nat) (hp : pc + 2 = pc') (kk : J E G nL k n σ pc' L' st) : J E G nL k n σ pc L (.int x :: st) := by
  subst hp
  exact fun H locs ls hP hS hl => lv_istore C.1 C.2.1 hd hl hn hL (fun ls' hl' => kk H locs ls' hP hS hl')
theorem j_lstore_n (C : Cx E G own cc nL rm) {i : Nat} {z : Fin 4} {x : Int64} (hd : decode cc pc = .ok (.lstore_n z, 1)) (hi : (z : Nat) = i) (hn : i + 1 < nL) (L' : List (Nat × Value)) (hL : (i, Value.long x) :: L.filter (fun q => !(q.1 == i) && (!(q.1 == i + 1) && !(q.1 + 1 == i && q.2.category == 2))) = L') (pc' : Nat) (hp : pc + 1 = pc') (kk : J E G nL k n σ pc' L' st) : J E G nL k n σ pc L (.long x :: st) := by
  subst hp
  exact fun H locs ls hP hS hl => lv_lstore_n C.1 C.2.1 hd hi hl hn hL (fun ls' hl' => kk H locs ls' hP hS hl')
theorem j_lstore (C : Cx E G own cc nL rm) {i : Nat} {x : Int64} (hd : decode cc pc = .ok (.lstore i, 2)) (hn : i + 1 < nL) (L' : List (Nat × Value)) (hL : (i, Value.long x) :: L.filter (fun q => !(q.1 == i) && (!(q.1 == i + 1) && !(q.1 + 1 == i && q.2.category == 2))) = L') (pc' : Nat) (hp : pc + 2 = pc') (kk : J E G nL k n σ pc' L' st) : J E G nL k n σ pc L (.long x :: st) := by
  subst hp
  exact fun H locs ls hP hS hl => lv_lstore C.1 C.2.1 hd hl hn hL (fun ls' hl' => kk H locs ls' hP hS hl')
theorem j_astore_n (C : Cx E G own cc nL rm) {i : Nat} {z : Fin 4} {x : Nat} (hd : decode cc pc = .ok (.astore_n z, 1)) (hi : (z : Nat) = i) (hn : i < nL) (L' : List (Nat × Value)) (hL : (i, Value.ref x) :: L.filter (fun q => !(q.1 == i) && !(q.1 + 1 == i && q.2.category == 2)) = L') (pc' : Nat) (hp : pc + 1 = pc') (kk : J E G nL k n σ pc' L' st) : J E G nL k n σ pc L (.ref x :: st) := by
  subst hp
  exact fun H locs ls hP hS hl => lv_astore_n C.1 C.2.1 hd hi hl hn hL (fun ls' hl' => kk H locs ls' hP hS hl')
theorem j_astore (C : Cx E G own cc nL rm) {i : Nat} {x : Nat} (hd : decode cc pc = .ok (.astore i, 2)) (hn : i < nL) (L' : List (Nat × Value)) (hL : (i, Value.ref x) :: L.filter (fun q => !(q.1 == i) && !(q.1 + 1 == i && q.2.category == 2)) = L') (pc' : Nat) (hp : pc + 2 = pc') (kk : J E G nL k n σ pc' L' st) : J E G nL k n σ pc L (.ref x :: st) := by
  subst hp
  exact fun H locs ls hP hS hl => lv_astore C.1 C.2.1 hd hl hn hL (fun ls' hl' => kk H locs ls' hP hS hl')
theorem j_fstore_n (C : Cx E G own cc nL rm) {i : Nat} {z : Fin 4} {x : UInt32} (hd : decode cc pc = .ok (.fstore_n z, 1)) (hi : (z : Nat) = i) (hn : i < nL) (L' : List (Nat × Value)) (hL : (i, Value.float x) :: L.filter (fun q => !(q.1 == i) && !(q.1 + 1 == i && q.2.category == 2)) = L') (pc' : Nat) (hp : pc + 1 = pc') (kk : J E G nL k n σ pc' L' st) : J E G nL k n σ pc L (.float x :: st) := by
  subst hp
  exact fun H locs ls hP hS hl => lv_fstore_n C.1 C.2.1 hd hi hl hn hL (fun ls' hl' => kk H locs ls' hP hS hl')
theorem j_fstore (C : Cx E G own cc nL rm) {i : Nat} {x : UInt32} (hd : decode cc pc = .ok (.fstore i, 2)) (hn : i < nL) (L' : List (Nat × Value)) (hL : (i, Value.float x) :: L.filter (fun q => !(q.1 == i) && !(q.1 + 1 == i && q.2.category == 2)) = L') (pc' : Nat) (hp : pc + 2 = pc') (kk : J E G nL k n σ pc' L' st) : J E G nL k n σ pc L (.float x :: st) := by
  subst hp
  exact fun H locs ls hP hS hl => lv_fstore C.1 C.2.1 hd hl hn hL (fun ls' hl' => kk H locs ls' hP hS hl')
theorem j_dstore_n (C : Cx E G own cc nL rm) {i : Nat} {z : Fin 4} {x : UInt64} (hd : decode cc pc = .ok (.dstore_n z, 1)) (hi : (z : Nat) = i) (hn : i + 1 < nL) (L' : List (Nat × Value)) (hL : (i, Value.double x) :: L.filter (fun q => !(q.1 == i) && (!(q.1 == i + 1) && !(q.1 + 1 == i && q.2.category == 2))) = L') (pc' : Nat) (hp : pc + 1 = pc') (kk : J E G nL k n σ pc' L' st) : J E G nL k n σ pc L (.double x :: st) := by
  subst hp
  exact fun H locs ls hP hS hl => lv_dstore_n C.1 C.2.1 hd hi hl hn hL (fun ls' hl' => kk H locs ls' hP hS hl')
theorem j_dstore (C : Cx E G own cc nL rm) {i : Nat} {x : UInt64} (hd : decode cc pc = .ok (.dstore i, 2)) (hn : i + 1 < nL) (L' : List (Nat × Value)) (hL : (i, Value.double x) :: L.filter (fun q => !(q.1 == i) && (!(q.1 == i + 1) && !(q.1 + 1 == i && q.2.category == 2))) = L') (pc' : Nat) (hp : pc + 2 = pc') (kk : J E G nL k n σ pc' L' st) : J E G nL k n σ pc L (.double x :: st) := by
  subst hp
  exact fun H locs ls hP hS hl => lv_dstore C.1 C.2.1 hd hl hn hL (fun ls' hl' => kk H locs ls' hP hS hl')
theorem j_iinc (C : Cx E G own cc nL rm) {i : Nat} {z : Int} {x : Int32} (hd : decode cc pc = .ok (.iinc i z, 3)) (q : Nat) (hq : L[q]? = some (i, .int x)) (v : Int32) (hv : x + Int32.ofInt z = v) (hn : i < nL) (L' : List (Nat × Value)) (hL : (i, Value.int v) :: L.filter (fun q => !(q.1 == i) && !(q.1 + 1 == i && q.2.category == 2)) = L') (pc' : Nat) (hp : pc + 3 = pc') (kk : J E G nL k n σ pc' L' st) : J E G nL k n σ pc L st := by
  subst hp
  exact fun H locs ls hP hS hl => lv_iinc C.1 C.2.1 hd hl hq hv hn hL (fun ls' hl' => kk H locs ls' hP hS hl')
theorem j_goto (C : Cx E G own cc nL rm) {off : Int} (hd : decode cc pc = .ok (.goto off, 3)) (tgt : Nat) (ht : (pc : Int) + off = (tgt : Int)) (kk : J E G nL k n σ tgt L st) : J E G nL k n σ pc L st :=
  fun H locs ls hP hS hl => lv_goto C.1 C.2.1 hd ht (kk H locs ls hP hS hl)
theorem j_if_eq (C : Cx E G own cc nL rm) {x : Int32} {off : Int} (hd : decode cc pc = .ok (.ifCond .eq off, 3)) (tgt : Nat) (ht : (pc : Int) + off = (tgt : Int)) (pc' : Nat) (hp : pc + 3 = pc') (kt : x = 0 → J E G nL k n σ tgt L st) (kf : ¬ x = 0 → J E G nL k n σ pc' L st) : J E G nL k n σ pc L (.int x :: st) := by
  subst hp
  exact fun H locs ls hP hS hl => lv_if_eq C.1 C.2.1 hd ht (fun h => kt h H locs ls hP hS hl) (fun h => kf h H locs ls hP hS hl)
theorem j_icmp_eq (C : Cx E G own cc nL rm) {x y : Int32} {off : Int} (hd : decode cc pc = .ok (.if_icmp .eq off, 3)) (tgt : Nat) (ht : (pc : Int) + off = (tgt : Int)) (pc' : Nat) (hp : pc + 3 = pc') (kt : x = y → J E G nL k n σ tgt L st) (kf : ¬ x = y → J E G nL k n σ pc' L st) : J E G nL k n σ pc L (.int y :: .int x :: st) := by
  subst hp
  exact fun H locs ls hP hS hl => lv_icmp_eq C.1 C.2.1 hd ht (fun h => kt h H locs ls hP hS hl) (fun h => kf h H locs ls hP hS hl)
theorem j_if_ne (C : Cx E G own cc nL rm) {x : Int32} {off : Int} (hd : decode cc pc = .ok (.ifCond .ne off, 3)) (tgt : Nat) (ht : (pc : Int) + off = (tgt : Int)) (pc' : Nat) (hp : pc + 3 = pc') (kt : ¬ x = 0 → J E G nL k n σ tgt L st) (kf : x = 0 → J E G nL k n σ pc' L st) : J E G nL k n σ pc L (.int x :: st) := by
  subst hp
  exact fun H locs ls hP hS hl => lv_if_ne C.1 C.2.1 hd ht (fun h => kt h H locs ls hP hS hl) (fun h => kf h H locs ls hP hS hl)
theorem j_icmp_ne (C : Cx E G own cc nL rm) {x y : Int32} {off : Int} (hd : decode cc pc = .ok (.if_icmp .ne off, 3)) (tgt : Nat) (ht : (pc : Int) + off = (tgt : Int)) (pc' : Nat) (hp : pc + 3 = pc') (kt : ¬ x = y → J E G nL k n σ tgt L st) (kf : x = y → J E G nL k n σ pc' L st) : J E G nL k n σ pc L (.int y :: .int x :: st) := by
  subst hp
  exact fun H locs ls hP hS hl => lv_icmp_ne C.1 C.2.1 hd ht (fun h => kt h H locs ls hP hS hl) (fun h => kf h H locs ls hP hS hl)
theorem j_if_lt (C : Cx E G own cc nL rm) {x : Int32} {off : Int} (hd : decode cc pc = .ok (.ifCond .lt off, 3)) (tgt : Nat) (ht : (pc : Int) + off = (tgt : Int)) (pc' : Nat) (hp : pc + 3 = pc') (kt : x < 0 → J E G nL k n σ tgt L st) (kf : ¬ x < 0 → J E G nL k n σ pc' L st) : J E G nL k n σ pc L (.int x :: st) := by
  subst hp
  exact fun H locs ls hP hS hl => lv_if_lt C.1 C.2.1 hd ht (fun h => kt h H locs ls hP hS hl) (fun h => kf h H locs ls hP hS hl)
theorem j_icmp_lt (C : Cx E G own cc nL rm) {x y : Int32} {off : Int} (hd : decode cc pc = .ok (.if_icmp .lt off, 3)) (tgt : Nat) (ht : (pc : Int) + off = (tgt : Int)) (pc' : Nat) (hp : pc + 3 = pc') (kt : x < y → J E G nL k n σ tgt L st) (kf : ¬ x < y → J E G nL k n σ pc' L st) : J E G nL k n σ pc L (.int y :: .int x :: st) := by
  subst hp
  exact fun H locs ls hP hS hl => lv_icmp_lt C.1 C.2.1 hd ht (fun h => kt h H locs ls hP hS hl) (fun h => kf h H locs ls hP hS hl)
theorem j_if_ge (C : Cx E G own cc nL rm) {x : Int32} {off : Int} (hd : decode cc pc = .ok (.ifCond .ge off, 3)) (tgt : Nat) (ht : (pc : Int) + off = (tgt : Int)) (pc' : Nat) (hp : pc + 3 = pc') (kt : 0 ≤ x → J E G nL k n σ tgt L st) (kf : ¬ 0 ≤ x → J E G nL k n σ pc' L st) : J E G nL k n σ pc L (.int x :: st) := by
  subst hp
  exact fun H locs ls hP hS hl => lv_if_ge C.1 C.2.1 hd ht (fun h => kt h H locs ls hP hS hl) (fun h => kf h H locs ls hP hS hl)
theorem j_icmp_ge (C : Cx E G own cc nL rm) {x y : Int32} {off : Int} (hd : decode cc pc = .ok (.if_icmp .ge off, 3)) (tgt : Nat) (ht : (pc : Int) + off = (tgt : Int)) (pc' : Nat) (hp : pc + 3 = pc') (kt : y ≤ x → J E G nL k n σ tgt L st) (kf : ¬ y ≤ x → J E G nL k n σ pc' L st) : J E G nL k n σ pc L (.int y :: .int x :: st) := by
  subst hp
  exact fun H locs ls hP hS hl => lv_icmp_ge C.1 C.2.1 hd ht (fun h => kt h H locs ls hP hS hl) (fun h => kf h H locs ls hP hS hl)
theorem j_if_gt (C : Cx E G own cc nL rm) {x : Int32} {off : Int} (hd : decode cc pc = .ok (.ifCond .gt off, 3)) (tgt : Nat) (ht : (pc : Int) + off = (tgt : Int)) (pc' : Nat) (hp : pc + 3 = pc') (kt : 0 < x → J E G nL k n σ tgt L st) (kf : ¬ 0 < x → J E G nL k n σ pc' L st) : J E G nL k n σ pc L (.int x :: st) := by
  subst hp
  exact fun H locs ls hP hS hl => lv_if_gt C.1 C.2.1 hd ht (fun h => kt h H locs ls hP hS hl) (fun h => kf h H locs ls hP hS hl)
theorem j_icmp_gt (C : Cx E G own cc nL rm) {x y : Int32} {off : Int} (hd : decode cc pc = .ok (.if_icmp .gt off, 3)) (tgt : Nat) (ht : (pc : Int) + off = (tgt : Int)) (pc' : Nat) (hp : pc + 3 = pc') (kt : y < x → J E G nL k n σ tgt L st) (kf : ¬ y < x → J E G nL k n σ pc' L st) : J E G nL k n σ pc L (.int y :: .int x :: st) := by
  subst hp
  exact fun H locs ls hP hS hl => lv_icmp_gt C.1 C.2.1 hd ht (fun h => kt h H locs ls hP hS hl) (fun h => kf h H locs ls hP hS hl)
theorem j_if_le (C : Cx E G own cc nL rm) {x : Int32} {off : Int} (hd : decode cc pc = .ok (.ifCond .le off, 3)) (tgt : Nat) (ht : (pc : Int) + off = (tgt : Int)) (pc' : Nat) (hp : pc + 3 = pc') (kt : x ≤ 0 → J E G nL k n σ tgt L st) (kf : ¬ x ≤ 0 → J E G nL k n σ pc' L st) : J E G nL k n σ pc L (.int x :: st) := by
  subst hp
  exact fun H locs ls hP hS hl => lv_if_le C.1 C.2.1 hd ht (fun h => kt h H locs ls hP hS hl) (fun h => kf h H locs ls hP hS hl)
theorem j_icmp_le (C : Cx E G own cc nL rm) {x y : Int32} {off : Int} (hd : decode cc pc = .ok (.if_icmp .le off, 3)) (tgt : Nat) (ht : (pc : Int) + off = (tgt : Int)) (pc' : Nat) (hp : pc + 3 = pc') (kt : x ≤ y → J E G nL k n σ tgt L st) (kf : ¬ x ≤ y → J E G nL k n σ pc' L st) : J E G nL k n σ pc L (.int y :: .int x :: st) := by
  subst hp
  exact fun H locs ls hP hS hl => lv_icmp_le C.1 C.2.1 hd ht (fun h => kt h H locs ls hP hS hl) (fun h => kf h H locs ls hP hS hl)
theorem j_ifnull (C : Cx E G own cc nL rm) {x : Nat} {off : Int} (hd : decode cc pc = .ok (.ifnull off, 3)) (pc' : Nat) (hp : pc + 3 = pc') (kk : J E G nL k n σ pc' L st) : J E G nL k n σ pc L (.ref x :: st) := by
  subst hp
  exact fun H locs ls hP hS hl => lv_ifnull C.1 C.2.1 hd (kk H locs ls hP hS hl)
theorem j_ifnullN (C : Cx E G own cc nL rm) {off : Int} (hd : decode cc pc = .ok (.ifnull off, 3)) (tgt : Nat) (ht : (pc : Int) + off = (tgt : Int)) (kk : J E G nL k n σ tgt L st) : J E G nL k n σ pc L (.null :: st) :=
  fun H locs ls hP hS hl => lv_ifnullN C.1 C.2.1 hd ht (kk H locs ls hP hS hl)
theorem j_tableIn (C : Cx E G own cc nL rm) {dflt lo hi : Int} {offs : Array Int} {len : Nat} {x : Int32} {off : Int} (hd : decode cc pc = .ok (.tableswitch dflt lo hi offs, len)) (h1 : ¬ x.toInt < lo) (h2 : ¬ hi < x.toInt) (ho : offs[(x.toInt - lo).toNat]? = some off) (tgt : Nat) (ht : (pc : Int) + off = (tgt : Int)) (kk : J E G nL k n σ tgt L st) : J E G nL k n σ pc L (.int x :: st) :=
  fun H locs ls hP hS hl => lv_tableIn C.1 C.2.1 hd h1 h2 ho ht (kk H locs ls hP hS hl)
theorem j_tableOut (C : Cx E G own cc nL rm) {dflt lo hi : Int} {offs : Array Int} {len : Nat} {x : Int32} (hd : decode cc pc = .ok (.tableswitch dflt lo hi offs, len)) (h : x.toInt < lo ∨ hi < x.toInt) (tgt : Nat) (ht : (pc : Int) + dflt = (tgt : Int)) (kk : J E G nL k n σ tgt L st) : J E G nL k n σ pc L (.int x :: st) :=
  fun H locs ls hP hS hl => lv_tableOut C.1 C.2.1 hd h ht (kk H locs ls hP hS hl)
theorem j_lookup (C : Cx E G own cc nL rm) {dflt : Int} {ps : Array (Int × Int)} {len : Nat} {x : Int32} {off : Int} (hd : decode cc pc = .ok (.lookupswitch dflt ps, len)) (hp : (ps.toList.zip (ps.toList.drop 1)).all (fun (a, next) => a.1 < next.1) = true) (ho : Op.lookupswitch.offset ps.toList dflt x.toInt = off) (tgt : Nat) (ht : (pc : Int) + off = (tgt : Int)) (kk : J E G nL k n σ tgt L st) : J E G nL k n σ pc L (.int x :: st) :=
  fun H locs ls hP hS hl => lv_lookup C.1 C.2.1 hd hp ho ht (kk H locs ls hP hS hl)
/-- a class's fields, as the tables have them -/
def FO (ci : Nat) (K : String) (T : u_T) (N : Nat) (ty : Nat → FieldType) : Prop := vwCl[ci]? = some (K, T, N) ∧ (∀ w ∈ u_ws K T N, w ∈ lw_all) ∧ (∀ k, k < N → parseFieldDescriptor (T k).2.2.1 = some (ty k)) ∧ (∀ a, a < N → ∀ b, b < N → a ≠ b → (T a).2.1 ≠ (T b).2.1)
theorem j_get (C : Cx E G own cc nL rm) {ci N idx : Nat} {K ref : String} {T : u_T} {ty : Nat → FieldType} (F : FO ci K T N ty) {i : Nat} {ds : List Nat} (hs : shp i = .inl (ci, ds)) (f : Nat) (hf : f < N) (d : Nat) (hdf : ds[f]? = some d) (hw : Cond.fieldLink own idx ref (T f).2.1 (T f).2.2.1 ∈ lw_all) (hsame : (T f).1 = ref) (hd : decode cc pc = .ok (.getfield idx, 3)) (v : Value) (hv : fv G.2.2.1 σ i f d = v) (pc' : Nat) (hp : pc + 3 = pc') (kk : J E G nL k n σ pc' L (v :: st)) : J E G nL k n σ pc L (.ref (gA G i) :: st) := by
  subst hp
  subst hsame
  intro H locs ls hP hS hl
  exact va_get C.1 C.2.1 C.2.2.2.2.1 F.2.1 C.2.2.2.1 C.2.2.2.2.2.1 hP i (by rw [wld_at (shp_lto hs), wE_o hs]) F.1 f hf (C.2.2.2.2.1 _ hw) (fun _ h => h) (by rw [fvs_at, hdf, Nat.zero_add]; exact congrArg some hv) hd (kk H locs ls hP hS hl)
theorem j_putI (C : Cx E G own cc nL rm) {ci N idx : Nat} {K ref : String} {T : u_T} {ty : Nat → FieldType} (F : FO ci K T N ty) {i : Nat} {ds : List Nat} (hs : shp i = .inl (ci, ds)) (f : Nat) (hf : f < N) (hdf : ds[f]? = some 0) (hw : Cond.fieldLink own idx ref (T f).2.1 (T f).2.2.1 ∈ lw_all) (hsame : (T f).1 = ref) (hfin : (T f).2.2.2 = false) {x : Int32} (hn : narrow (ty f) (.int x) = .int x) (hfit : fits (ty f) (.int x) = true) (hd : decode cc pc = .ok (.putfield idx, 3)) (σ' : Mem) (hσ : setI σ i f x = σ') (pc' : Nat) (hp : pc + 3 = pc') (kk : J E G nL k n σ' pc' L st) : J E G nL k n σ pc L (.int x :: .ref (gA G i) :: st) := by
  subst hp
  subst hsame
  subst hσ
  intro H locs ls hP hS hl
  refine va_put C.1 C.2.1 C.2.2.2.2.1 F.2.1 ty F.2.2.1 F.2.2.2 C.2.2.2.1 C.2.2.2.2.2.1 hP (wld_D C.2.2.2.2.2.2.1) hS i (by rw [wld_at (shp_lto hs), wE_o hs]) F.1 f hf (C.2.2.2.2.1 _ hw) (fun _ h => h) hfin (F.2.2.1 f hf) hn hfit (by rw [fvs_len]; exact (List.getElem?_eq_some_iff.mp hdf).1) hd (fun H1 locs1 hP1 _ hS1 => ?_)
  rw [wld_setI_f hs hdf] at hP1
  exact kk H1 locs1 ls hP1 hS1 hl
theorem j_putL (C : Cx E G own cc nL rm) {ci N idx : Nat} {K ref : String} {T : u_T} {ty : Nat → FieldType} (F : FO ci K T N ty) {i : Nat} {ds : List Nat} (hs : shp i = .inl (ci, ds)) (f : Nat) (hf : f < N) (hdf : ds[f]? = some 1) (hw : Cond.fieldLink own idx ref (T f).2.1 (T f).2.2.1 ∈ lw_all) (hsame : (T f).1 = ref) (hfin : (T f).2.2.2 = false) {x : Int64} (hn : narrow (ty f) (.long x) = .long x) (hfit : fits (ty f) (.long x) = true) (hd : decode cc pc = .ok (.putfield idx, 3)) (σ' : Mem) (hσ : setL σ i f x = σ') (pc' : Nat) (hp : pc + 3 = pc') (kk : J E G nL k n σ' pc' L st) : J E G nL k n σ pc L (.long x :: .ref (gA G i) :: st) := by
  subst hp
  subst hsame
  subst hσ
  intro H locs ls hP hS hl
  refine va_put C.1 C.2.1 C.2.2.2.2.1 F.2.1 ty F.2.2.1 F.2.2.2 C.2.2.2.1 C.2.2.2.2.2.1 hP (wld_D C.2.2.2.2.2.2.1) hS i (by rw [wld_at (shp_lto hs), wE_o hs]) F.1 f hf (C.2.2.2.2.1 _ hw) (fun _ h => h) hfin (F.2.2.1 f hf) hn hfit (by rw [fvs_len]; exact (List.getElem?_eq_some_iff.mp hdf).1) hd (fun H1 locs1 hP1 _ hS1 => ?_)
  rw [wld_setL_f hs hdf] at hP1
  exact kk H1 locs1 ls hP1 hS1 hl
theorem inA_in {x : Int32} {n : Nat} (h : inA x n) : vp_in x n := vp_in_iff.mpr h
theorem j_iald (C : Cx E G own cc nL rm) {i N : Nat} (hs : shp i = .inr (0, N)) {x : Int32} (hin : inA x N) (hd : decode cc pc = .ok (.iaload, 1)) (pc' : Nat) (hp : pc + 1 = pc') (kk : J E G nL k n σ pc' L (.int (σ.1 i x.toNatClampNeg) :: st)) : J E G nL k n σ pc L (.int x :: .ref (gA G i) :: st) := by
  subst hp
  intro H locs ls hP hS hl
  exact va_iald C.1 C.2.1 C.2.2.2.2.2.1 hP i 0 (by rw [wld_at (shp_lta hs (by decide)), wE_i hs]) rfl (inA_in hin) hd (kk H locs ls hP hS hl)
theorem j_lald (C : Cx E G own cc nL rm) {i N : Nat} (hs : shp i = .inr (1, N)) {x : Int32} (hin : inA x N) (hd : decode cc pc = .ok (.laload, 1)) (pc' : Nat) (hp : pc + 1 = pc') (kk : J E G nL k n σ pc' L (.long (σ.2 i x.toNatClampNeg) :: st)) : J E G nL k n σ pc L (.int x :: .ref (gA G i) :: st) := by
  subst hp
  intro H locs ls hP hS hl
  exact va_lald C.1 C.2.1 C.2.2.2.2.2.1 hP i 1 (by rw [wld_at (shp_lta hs (by decide)), wE_l hs]) rfl (inA_in hin) hd (kk H locs ls hP hS hl)
theorem j_aald (C : Cx E G own cc nL rm) {i N : Nat} (hs : shp i = .inr (2, N)) {x : Int32} (hin : inA x N) (hd : decode cc pc = .ok (.aaload, 1)) (pc' : Nat) (hp : pc + 1 = pc') (kk : J E G nL k n σ pc' L (.ref (gA G (14 + 7 * x.toNatClampNeg)) :: st)) : J E G nL k n σ pc L (.int x :: .ref (gA G i) :: st) := by
  subst hp
  intro H locs ls hP hS hl
  exact va_aldq (f := fun j => some (gA G (14 + 7 * j))) C.1 C.2.1 C.2.2.2.2.2.1 hP i 2 (by rw [wld_at (shp_lta hs (by decide)), wE_r hs]) rfl (inA_in hin) hd (kk H locs ls hP hS hl)
theorem j_iast (C : Cx E G own cc nL rm) {i N : Nat} (hs : shp i = .inr (0, N)) {x v : Int32} (hin : inA x N) (hd : decode cc pc = .ok (.iastore, 1)) (σ' : Mem) (hσ : setI σ i x.toNatClampNeg v = σ') (pc' : Nat) (hp : pc + 1 = pc') (kk : J E G nL k n σ' pc' L st) : J E G nL k n σ pc L (.int v :: .int x :: .ref (gA G i) :: st) := by
  subst hp
  subst hσ
  intro H locs ls hP hS hl
  refine va_iast C.1 C.2.1 C.2.2.2.2.2.1 hP (wld_D C.2.2.2.2.2.2.1) hS i 0 (by rw [wld_at (shp_lta hs (by decide)), wE_i hs]) rfl (inA_in hin) hd (fun H1 locs1 hP1 _ hS1 => ?_)
  rw [wld_setI_a hs] at hP1
  exact kk H1 locs1 ls hP1 hS1 hl
theorem j_last (C : Cx E G own cc nL rm) {i N : Nat} (hs : shp i = .inr (1, N)) {x : Int32} {v : Int64} (hin : inA x N) (hd : decode cc pc = .ok (.lastore, 1)) (σ' : Mem) (hσ : setL σ i x.toNatClampNeg v = σ') (pc' : Nat) (hp : pc + 1 = pc') (kk : J E G nL k n σ' pc' L st) : J E G nL k n σ pc L (.long v :: .int x :: .ref (gA G i) :: st) := by
  subst hp
  subst hσ
  intro H locs ls hP hS hl
  refine va_last C.1 C.2.1 C.2.2.2.2.2.1 hP (wld_D C.2.2.2.2.2.2.1) hS i 1 (by rw [wld_at (shp_lta hs (by decide)), wE_l hs]) rfl (inA_in hin) hd (fun H1 locs1 hP1 _ hS1 => ?_)
  rw [wld_setL_a hs] at hP1
  exact kk H1 locs1 ls hP1 hS1 hl
theorem j_alen (C : Cx E G own cc nL rm) {i N : Nat} (hs : shp i = .inr (0, N)) (hd : decode cc pc = .ok (.arraylength, 1)) (v : Int32) (hv : Int32.ofNat N = v) (pc' : Nat) (hp : pc + 1 = pc') (kk : J E G nL k n σ pc' L (.int v :: st)) : J E G nL k n σ pc L (.ref (gA G i) :: st) := by
  subst hp
  intro H locs ls hP hS hl
  exact va_alen C.1 C.2.1 C.2.2.2.2.2.1 hP i 0 (by rw [wld_at (shp_lta hs (by decide)), wE_i hs]) rfl hv hd (kk H locs ls hP hS hl)
theorem j_alenR (C : Cx E G own cc nL rm) {i N : Nat} (hs : shp i = .inr (2, N)) (hd : decode cc pc = .ok (.arraylength, 1)) (v : Int32) (hv : Int32.ofNat N = v) (pc' : Nat) (hp : pc + 1 = pc') (kk : J E G nL k n σ pc' L (.int v :: st)) : J E G nL k n σ pc L (.ref (gA G i) :: st) := by
  subst hp
  intro H locs ls hP hS hl
  exact va_alen C.1 C.2.1 C.2.2.2.2.2.1 hP i 2 (by rw [wld_at (shp_lta hs (by decide)), wE_r hs]) rfl hv hd (kk H locs ls hP hS hl)
/-- behind a call that makes nothing new: what the world is then, and the answer -/
def Qm (G : Gw) (σ' : Mem) (r : Option Value) : Array Value → State → Outcome → State → Prop := fun _ st oc t => oc = .returned r ∧ va_P G.1 vwCl (gW G σ') t.heap ∧ va_F (gF G) st t
def Pm (G : Gw) (σ : Mem) (U : State) : Prop := va_P G.1 vwCl (gW G σ) U.heap ∧ va_K G.1 vwCl (tysOf G.2.1) U ∧ G.2.2.2 ≤ U.heap.size
/-- A CONTRACT: over the memory σ and these arguments the method y answers r and leaves the memory σ' -/
def Ct (l : Launch) (G : Gw) (y : MethodName) (cc : ByteArray) (nL : Nat) (ret : Option FieldType) (rm : Room) (as : List Value) (σ σ' : Mem) (r : Option Value) : Prop :=
  AdOk G.2.2.2 G.2.2.1 → Met l y (Cond.code y cc nL ret :: lw_all) rm (va_Pc as (Pm G σ)) (Qm G σ' r) 0 0 (gF G)
/-- what a method's end looks at -/
def Ef (E : Ev) (G : Gw) (σo : Mem) (ro : Option Value) (ret : Option FieldType) (k n : Nat) : Prop :=
  eQ E = MQ (eB E) (Qm G σo ro) (eA E) (eS E) k n (gF G) ∧ (eT E).sig.returnType = ret ∧ (eT E).locks = false
theorem Ct.of {l : Launch} {G : Gw} {y : MethodName} {cc : ByteArray} {nL : Nat} {ret : Option FieldType} {rm : Room} {as : List Value} {σ σ' : Mem} {r : Option Value} (hy : plainName y.cls = true) (hlen : (lg_sl as).length ≤ nL)
    (body : ∀ E : Ev, eL E = l → Cx E G y.cls cc nL rm → Ef E G σ' r ret 0 0 → J E G nL 0 0 σ 0 (lv_args 0 as) []) : Ct l G y cc nL ret rm as σ σ' r := by
  intro hA
  refine Met.ofW (cc := cc) (maxL := nL) (ret := ret) hy rfl ?_
  intro p e s m args below meth c s₁ B hml hv
  obtain ⟨rfl, hP, hK, hN⟩ := hv
  have hts := atoms_spec (ws := Cond.code y cc nL ret :: lw_all) B.pre
  have hown : s.vm.findClass y.cls = some m.cls := findClass_of_methodNamed B.named
  have hl := lv_entry as (n := nL) hlen
  rw [lg_entry_eq]
  exact body (p, l, e, rm, s, m, as.toArray, below, meth, c, MQ below (Qm G σ' r) as.toArray s 0 0 (gF G)) rfl ⟨B.exec, B.bytes, hml, hown, fun w h => hts w (List.mem_cons_of_mem _ h), hK, hA, hN, rfl⟩ ⟨rfl, B.returns, B.notSynchronized⟩ s.heap [] _ hP va_S.rf hl
theorem Pm.blind {G : Gw} {σ : Mem} {as : List Value} : FrameBlind (va_Pc as (Pm G σ)) := fun a U g mk q => by
  obtain ⟨q0, qP, qK, qN⟩ := q
  exact ⟨q0, qP, va_K.moved (u := U) (U := U.calling g mk a) (Vm.Alike.refl U.vm) qK, qN⟩
theorem j_run {σ' : Mem} {r : Option Value} {a : Array Value} {rest st1 : List Value} (hr : ∀ (H : Heap) (locs : List Loc) (ls : Array Slot), va_P G.1 vwCl (gW G σ) H → (eS E).heap.size ≤ H.size → lv_has ls nL L → va_Run (eP E) (eL E) (eE E) (eR E) (eS E) (eM E) (eA E) (eB E) (eT E) (eC E) H locs k n 0 0 (F0 (eM E) pc ls st) rest (Qm G σ' r a) (gF G)) (h1 : r.toList ++ rest = st1) (pc' : Nat) (hp : pc + 3 = pc') (kk : J E G nL k n σ' pc' L st1) : J E G nL k n σ pc L st := by
  subst hp
  subst h1
  intro H locs ls hP hS hl T hT X
  obtain ⟨v, st₀, t, T', L1, h0, X', hL, e1, e2, ⟨hv, hP1, hz, hk⟩, stp⟩ := hr H locs ls hP hS.1 hl T hT X
  cases hv
  rw [h0] at hz hk
  obtain ⟨t2, a1, b1⟩ := kk T'.heap (locs ++ L1) ls (by rw [e1]; exact hP1) ⟨Nat.le_trans hS.1 (by rw [e1]; exact hz), fun q h1 h2 => by rw [e1, hk q (Nat.lt_of_lt_of_le h1 hS.1) h2]; exact hS.2.1 q h1 h2, fun q hq => by
      rcases List.mem_append.mp hq with h | h
      · exact hS.2.2 q h
      · exact hL q h⟩ hl T' rfl X'
  exact ⟨t2, stp t2 a1, b1⟩
theorem j_callV (C : Cx E G own cc nL rm) {y : MethodName} {bytes : ByteArray} {maxL : Nat} {ret : Option FieldType} {rm' : Room} {i : Nat} {as rest st1 : List Value} {σ' : Mem} {r : Option Value} (ct : Ct (eL E) G y bytes maxL ret rm' (.ref (gA G i) :: as) σ σ' r) {ci : Nat} {ds : List Nat} (hs : shp i = .inl (ci, ds)) {N : Nat} {K : String} {T : u_T} {ty : Nat → FieldType} (F : FO ci K T N ty) (hK : K = y.cls) {idx : Nat}
    (w0 : Cond.code y bytes maxL ret ∈ lw_all) (w1 : Cond.methodLink own idx y ∈ lw_all) (w2 : Cond.instanceMethod y ∈ lw_all) (w3 : Cond.selects y.cls y y ∈ lw_all) (w4 : Cond.initialized y.cls ∈ lw_all) (hde : y.cls ≠ "java/lang/invoke/MethodHandle" ∧ y.cls ≠ "java/lang/invoke/VarHandle" ∧ (parseMethodDescriptor y.desc).map (fun d => d.parameters.length) = some as.length) (hro : rm'.frames + 1 ≤ rm.frames ∧ 8 + (maxL + 11) + rm'.locals ≤ rm.locals ∧ rm'.cells = 0 ∧ rm'.slots = 0) (hkn : k ≤ rm.cells ∧ n ≤ rm.slots)
    (hst : st = as.reverse ++ .ref (gA G i) :: rest) (hcat : (rest.map fun v => v.category).sum ≤ 8) (hd : decode cc pc = .ok (.invokevirtual idx, 3)) (h1 : r.toList ++ rest = st1) (pc' : Nat) (hp : pc + 3 = pc') (kk : J E G nL k n σ' pc' L st1) : J E G nL k n σ pc L st := by
  refine j_run (a := (Value.ref (gA G i) :: as).toArray) (rest := rest) (fun H locs ls hP hSz hl => ?_) h1 pc' hp kk
  obtain ⟨cx, cb, cm, cown, cts, cK, cA, cN, cR⟩ := C
  subst hst
  have hq := va_recv cK hP F.1 (q0 := i) (a := gA G i) (ci := ci) (fs := fvs G.2.2.1 σ i 0 ds) (by rw [wld_at (shp_lto hs), wE_o hs])
  subst hK
  exact va_runV (As := as) (rest := rest) ⟨cx, cb, cm, cown, cts⟩ (ct cA) (cwV as.length cts (gd_V w0 w1 w2 w3 w4) rfl hro.2.2.1 hro.2.2.2 ⟨rfl, hde⟩ (by rw [cR]; exact ⟨hro.1, hro.2.1⟩)) ⟨Pm.blind, hq, fun U hU hW => ⟨rfl, by rw [hU]; exact hP, va_K.moved hW.alike cK, by rw [hU]; exact Nat.le_trans cN hSz⟩⟩ rfl rfl hl.1 rfl (lv_room hcat) hd ⟨by rw [cR]; exact hkn.1, by rw [cR]; exact hkn.2⟩
theorem j_callS (C : Cx E G own cc nL rm) {y : MethodName} {bytes : ByteArray} {maxL : Nat} {ret : Option FieldType} {rm' : Room} {as rest st1 : List Value} {σ' : Mem} {r : Option Value} (ct : Ct (eL E) G y bytes maxL ret rm' as σ σ' r) {idx : Nat}
    (w0 : Cond.code y bytes maxL ret ∈ lw_all) (w1 : Cond.methodLink own idx y ∈ lw_all) (w2 : Cond.static y ∈ lw_all) (w4 : Cond.initialized y.cls ∈ lw_all) (hde : y.cls ≠ "java/lang/invoke/MethodHandle" ∧ y.cls ≠ "java/lang/invoke/VarHandle" ∧ (parseMethodDescriptor y.desc).map (fun d => d.parameters.length) = some as.length) (hro : rm'.frames + 1 ≤ rm.frames ∧ 8 + (maxL + 11) + rm'.locals ≤ rm.locals ∧ rm'.cells = 0 ∧ rm'.slots = 0) (hkn : k ≤ rm.cells ∧ n ≤ rm.slots)
    (hst : st = as.reverse ++ rest) (hcat : (rest.map fun v => v.category).sum ≤ 8) (hd : decode cc pc = .ok (.invokestatic idx, 3)) (h1 : r.toList ++ rest = st1) (pc' : Nat) (hp : pc + 3 = pc') (kk : J E G nL k n σ' pc' L st1) : J E G nL k n σ pc L st := by
  refine j_run (a := as.toArray) (rest := rest) (fun H locs ls hP hSz hl => ?_) h1 pc' hp kk
  obtain ⟨cx, cb, cm, cown, cts, cK, cA, cN, cR⟩ := C
  subst hst
  exact va_runS (As := as) (rest := rest) ⟨cx, cb, cm, cown, cts⟩ (ct cA) (va_cwS as.length cts (gd_S w0 w1 w2 w4) rfl hro.2.2.1 hro.2.2.2 hde (by rw [cR]; exact ⟨hro.1, hro.2.1⟩)) ⟨Pm.blind, fun U hU hW => ⟨rfl, by rw [hU]; exact hP, va_K.moved hW.alike cK, by rw [hU]; exact Nat.le_trans cN hSz⟩⟩ rfl rfl hl.1 rfl (lv_room hcat) hd ⟨by rw [cR]; exact hkn.1, by rw [cR]; exact hkn.2⟩
theorem j_min (C : Cx E G own cc nL rm) {idx : Nat} (w0 : Cond.code Lib.Math.min.name Lib.Math.min.code 2 (some .int) ∈ lw_all) (w1 : Cond.methodLink own idx Lib.Math.min.name ∈ lw_all) (w2 : Cond.static Lib.Math.min.name ∈ lw_all) (w4 : Cond.initialized "java/lang/Math" ∈ lw_all) {x y : Int32} (hro : 1 ≤ rm.frames ∧ 21 ≤ rm.locals) (hkn : k ≤ rm.cells ∧ n ≤ rm.slots) (hcat : (st.map fun v => v.category).sum ≤ 8) (hd : decode cc pc = .ok (.invokestatic idx, 3)) (pc' : Nat) (hp : pc + 3 = pc') (kk : J E G nL k n σ pc' L (.int (if y < x then y else x) :: st)) : J E G nL k n σ pc L (.int y :: .int x :: st) := by
  subst hp
  intro H locs ls hP hS hl
  have hts := C.2.2.2.2.1
  have cR := C.2.2.2.2.2.2.2.2
  exact va_mmin C.1 C.2.1 (C.2.2.1.trans hl.1.symm) C.2.2.2.1 (hts _ w1) (hts _ w2) (hts _ w4) (hts _ w0) (by rw [cR]; exact hro.1) (by rw [cR]; omega) (by rw [cR]; exact hkn.1) (by rw [cR]; exact hkn.2) hd (kk H locs ls hP hS hl)
theorem j_max (C : Cx E G own cc nL rm) {idx : Nat} (w0 : Cond.code Lib.Math.max.name Lib.Math.max.code 2 (some .int) ∈ lw_all) (w1 : Cond.methodLink own idx Lib.Math.max.name ∈ lw_all) (w2 : Cond.static Lib.Math.max.name ∈ lw_all) (w4 : Cond.initialized "java/lang/Math" ∈ lw_all) {x y : Int32} (hro : 1 ≤ rm.frames ∧ 21 ≤ rm.locals) (hkn : k ≤ rm.cells ∧ n ≤ rm.slots) (hcat : (st.map fun v => v.category).sum ≤ 8) (hd : decode cc pc = .ok (.invokestatic idx, 3)) (pc' : Nat) (hp : pc + 3 = pc') (kk : J E G nL k n σ pc' L (.int (if x < y then y else x) :: st)) : J E G nL k n σ pc L (.int y :: .int x :: st) := by
  subst hp
  intro H locs ls hP hS hl
  have hts := C.2.2.2.2.1
  have cR := C.2.2.2.2.2.2.2.2
  exact va_mmax C.1 C.2.1 (C.2.2.1.trans hl.1.symm) C.2.2.2.1 (hts _ w1) (hts _ w2) (hts _ w4) (hts _ w0) (by rw [cR]; exact hro.1) (by rw [cR]; omega) (by rw [cR]; exact hkn.1) (by rw [cR]; exact hkn.2) hd (kk H locs ls hP hS hl)
theorem j_iret (C : Cx E G own cc nL rm) {out : Mem × Int32} {v : Int32} (F : Ef E G out.1 (some (.int out.2)) (some .int) k n) (hd : decode cc pc = .ok (.ireturn, 1)) (h : some (σ, v) = some out) : J E G nL k n σ pc L [.int v] := by
  cases h
  intro H locs ls hP hS hl
  rw [F.1]
  exact W.iret C.1 C.2.1 F.2.1 (fun t ht _ => ⟨rfl, by rw [ht]; exact hP, hS.F ht⟩) hS.2.2 hd F.2.2
theorem nar_bool {v : Int32} (h : v &&& 1 = v) : narrow .boolean (.int v) = .int v := by
  simp [narrow, h]
theorem j_zret (C : Cx E G own cc nL rm) {out : Mem × Int32} {v : Int32} (F : Ef E G out.1 (some (.int out.2)) (some .boolean) k n) (hd : decode cc pc = .ok (.ireturn, 1)) (hb : v &&& 1 = v) (h : some (σ, v) = some out) : J E G nL k n σ pc L [.int v] := by
  cases h
  intro H locs ls hP hS hl
  rw [F.1]
  exact W.zret C.1 C.2.1 F.2.1 (nar_bool hb) (fun t ht _ => ⟨rfl, by rw [ht]; exact hP, hS.F ht⟩) hS.2.2 hd F.2.2
theorem j_lret (C : Cx E G own cc nL rm) {out : Mem × Int64} {v : Int64} (F : Ef E G out.1 (some (.long out.2)) (some .long) k n) (hd : decode cc pc = .ok (.lreturn, 1)) (h : some (σ, v) = some out) : J E G nL k n σ pc L [.long v] := by
  cases h
  intro H locs ls hP hS hl
  rw [F.1]
  exact W.lret C.1 C.2.1 F.2.1 (fun t ht _ => ⟨rfl, by rw [ht]; exact hP, hS.F ht⟩) hS.2.2 hd F.2.2
theorem j_fret (C : Cx E G own cc nL rm) {out : Mem × UInt32} {v : UInt32} (F : Ef E G out.1 (some (.float out.2)) (some .float) k n) (hd : decode cc pc = .ok (.freturn, 1)) (h : some (σ, v) = some out) : J E G nL k n σ pc L [.float v] := by
  cases h
  intro H locs ls hP hS hl
  rw [F.1]
  exact W.fret C.1 C.2.1 F.2.1 (fun t ht _ => ⟨rfl, by rw [ht]; exact hP, hS.F ht⟩) hS.2.2 hd F.2.2
theorem j_dret (C : Cx E G own cc nL rm) {out : Mem × UInt64} {v : UInt64} (F : Ef E G out.1 (some (.double out.2)) (some .double) k n) (hd : decode cc pc = .ok (.dreturn, 1)) (h : some (σ, v) = some out) : J E G nL k n σ pc L [.double v] := by
  cases h
  intro H locs ls hP hS hl
  rw [F.1]
  exact W.dret C.1 C.2.1 F.2.1 (fun t ht _ => ⟨rfl, by rw [ht]; exact hP, hS.F ht⟩) hS.2.2 hd F.2.2
theorem j_vret (C : Cx E G own cc nL rm) {out : Mem × Unit} (F : Ef E G out.1 none none k n) (hd : decode cc pc = .ok (.return_, 1)) (h : some (σ, ()) = some out) : J E G nL k n σ pc L [] := by
  cases h
  intro H locs ls hP hS hl
  rw [F.1]
  exact W.vret C.1 C.2.1 F.2.1 (fun t ht _ => ⟨rfl, by rw [ht]; exact hP, hS.F ht⟩) hS.2.2 hd F.2.2
/-- an answer that is a cell of the system, or null -/
def orf (G : Gw) (r : Option Nat) : Value := match r with
  | none => .null
  | some i => .ref (gA G i)
theorem j_aret (C : Cx E G own cc nL rm) {out : Mem × Option Nat} {v : Value} {x : Option Nat} {nm : String} (F : Ef E G out.1 (some (orf G out.2)) (some (.object nm)) k n) (hv : orf G x = v) (hd : decode cc pc = .ok (.areturn, 1)) (h : some (σ, x) = some out) : J E G nL k n σ pc L [v] := by
  cases h
  subst hv
  intro H locs ls hP hS hl
  rw [F.1]
  refine W.aret C.1 C.2.1 F.2.1 (Or.inl ⟨_, rfl⟩) ?_ (fun t ht _ => ⟨rfl, by rw [ht]; exact hP, hS.F ht⟩) hS.2.2 hd F.2.2
  cases x with
  | none => exact Or.inl rfl
  | some i => exact Or.inr ⟨_, rfl⟩
end ROWS
theorem ob_some {α β : Type} {x : Option α} {f : α → Option β} {o : β} (h : x.bind f = some o) : ∃ a, x = some a ∧ f a = some o := by
  cases x with
  | none => cases h
  | some a => exact ⟨a, rfl, h⟩
theorem if_some {α : Type} {c : Prop} [Decidable c] {a : Option α} {o : α} (h : (if c then a else none) = some o) : c ∧ a = some o := by
  by_cases hc : c
  · rw [if_pos hc] at h; exact ⟨hc, h⟩
  · rw [if_neg hc] at h; cases h
def FU : Nat := 1000
end
section
/-! shapes of the cells, and what each class's fields are -/
def cap (i : Nat) : Nat := match shp (i + 1) with
  | .inr (_, n) => n
  | _ => 0
def RowOk (i : Nat) : Prop := shp i = .inl (3, [i + 3, 0]) ∧ shp (i + 1) = .inr (0, cap i)
def EntOk (i : Nat) : Prop := shp i = .inl (0, [i + 3, i + 4, i + 5, 0]) ∧ shp (i + 1) = .inr (1, 24) ∧ shp (i + 2) = .inr (0, 24) ∧ shp (i + 3) = .inr (0, 24)
def StOk (i : Nat) : Prop := shp i = .inl (5, [i + 3, i + 5, 0, 0, 0, 0, 0, 0]) ∧ RowOk (i + 1) ∧ EntOk (i + 3)
def RdOk (i : Nat) : Prop := shp i = .inl (2, [i + 3, i + 5, i + 7]) ∧ RowOk (i + 1) ∧ RowOk (i + 3) ∧ RowOk (i + 5)
theorem fv_r {ad : Nat → Nat} {σ : Mem} {i f d r : Nat} (h : d = r + 2) : fv ad σ i f d = .ref (ad r) := by
  subst h
  simp [fv]
theorem sh0 : shp 0 = .inl (5, [3, 5, 0, 0, 0, 0, 0, 0]) := rfl
theorem sh1 : shp 1 = .inl (3, [4, 0]) := rfl
theorem sh2 : shp 2 = .inr (0, 60) := rfl
theorem sh3 : shp 3 = .inl (0, [6, 7, 8, 0]) := rfl
theorem sh4 : shp 4 = .inr (1, 24) := rfl
theorem sh5 : shp 5 = .inr (0, 24) := rfl
theorem sh6 : shp 6 = .inr (0, 24) := rfl
theorem sh7 : shp 7 = .inl (5, [10, 12, 0, 0, 0, 0, 0, 0]) := rfl
theorem sh8 : shp 8 = .inl (3, [11, 0]) := rfl
theorem sh9 : shp 9 = .inr (0, 60) := rfl
theorem sh10 : shp 10 = .inl (0, [13, 14, 15, 0]) := rfl
theorem sh11 : shp 11 = .inr (1, 24) := rfl
theorem sh12 : shp 12 = .inr (0, 24) := rfl
theorem sh13 : shp 13 = .inr (0, 24) := rfl
theorem sh14 : shp 14 = .inl (5, [17, 19, 0, 0, 0, 0, 0, 0]) := rfl
theorem sh15 : shp 15 = .inl (3, [18, 0]) := rfl
theorem sh16 : shp 16 = .inr (0, 60) := rfl
theorem sh17 : shp 17 = .inl (0, [20, 21, 22, 0]) := rfl
theorem sh18 : shp 18 = .inr (1, 24) := rfl
theorem sh19 : shp 19 = .inr (0, 24) := rfl
theorem sh20 : shp 20 = .inr (0, 24) := rfl
theorem sh21 : shp 21 = .inl (5, [24, 26, 0, 0, 0, 0, 0, 0]) := rfl
theorem sh22 : shp 22 = .inl (3, [25, 0]) := rfl
theorem sh23 : shp 23 = .inr (0, 60) := rfl
theorem sh24 : shp 24 = .inl (0, [27, 28, 29, 0]) := rfl
theorem sh25 : shp 25 = .inr (1, 24) := rfl
theorem sh26 : shp 26 = .inr (0, 24) := rfl
theorem sh27 : shp 27 = .inr (0, 24) := rfl
theorem sh28 : shp 28 = .inl (5, [31, 33, 0, 0, 0, 0, 0, 0]) := rfl
theorem sh29 : shp 29 = .inl (3, [32, 0]) := rfl
theorem sh30 : shp 30 = .inr (0, 60) := rfl
theorem sh31 : shp 31 = .inl (0, [34, 35, 36, 0]) := rfl
theorem sh32 : shp 32 = .inr (1, 24) := rfl
theorem sh33 : shp 33 = .inr (0, 24) := rfl
theorem sh34 : shp 34 = .inr (0, 24) := rfl
theorem sh35 : shp 35 = .inl (5, [38, 40, 0, 0, 0, 0, 0, 0]) := rfl
theorem sh36 : shp 36 = .inl (3, [39, 0]) := rfl
theorem sh37 : shp 37 = .inr (0, 60) := rfl
theorem sh38 : shp 38 = .inl (0, [41, 42, 43, 0]) := rfl
theorem sh39 : shp 39 = .inr (1, 24) := rfl
theorem sh40 : shp 40 = .inr (0, 24) := rfl
theorem sh41 : shp 41 = .inr (0, 24) := rfl
theorem sh42 : shp 42 = .inl (5, [45, 47, 0, 0, 0, 0, 0, 0]) := rfl
theorem sh43 : shp 43 = .inl (3, [46, 0]) := rfl
theorem sh44 : shp 44 = .inr (0, 60) := rfl
theorem sh45 : shp 45 = .inl (0, [48, 49, 50, 0]) := rfl
theorem sh46 : shp 46 = .inr (1, 24) := rfl
theorem sh47 : shp 47 = .inr (0, 24) := rfl
theorem sh48 : shp 48 = .inr (0, 24) := rfl
theorem sh49 : shp 49 = .inl (5, [52, 54, 0, 0, 0, 0, 0, 0]) := rfl
theorem sh50 : shp 50 = .inl (3, [53, 0]) := rfl
theorem sh51 : shp 51 = .inr (0, 60) := rfl
theorem sh52 : shp 52 = .inl (0, [55, 56, 57, 0]) := rfl
theorem sh53 : shp 53 = .inr (1, 24) := rfl
theorem sh54 : shp 54 = .inr (0, 24) := rfl
theorem sh55 : shp 55 = .inr (0, 24) := rfl
theorem sh56 : shp 56 = .inl (4, [59, 0, 0]) := rfl
theorem sh57 : shp 57 = .inr (2, 6) := rfl
theorem sh58 : shp 58 = .inl (1, [61]) := rfl
theorem sh59 : shp 59 = .inl (3, [62, 0]) := rfl
theorem sh60 : shp 60 = .inr (0, 60) := rfl
theorem sh61 : shp 61 = .inl (2, [64, 66, 68]) := rfl
theorem sh62 : shp 62 = .inl (3, [65, 0]) := rfl
theorem sh63 : shp 63 = .inr (0, 61) := rfl
theorem sh64 : shp 64 = .inl (3, [67, 0]) := rfl
theorem sh65 : shp 65 = .inr (0, 61) := rfl
theorem sh66 : shp 66 = .inl (3, [69, 0]) := rfl
theorem sh67 : shp 67 = .inr (0, 61) := rfl
theorem sh68 : shp 68 = .inl (2, [71, 73, 75]) := rfl
theorem sh69 : shp 69 = .inl (3, [72, 0]) := rfl
theorem sh70 : shp 70 = .inr (0, 61) := rfl
theorem sh71 : shp 71 = .inl (3, [74, 0]) := rfl
theorem sh72 : shp 72 = .inr (0, 61) := rfl
theorem sh73 : shp 73 = .inl (3, [76, 0]) := rfl
theorem sh74 : shp 74 = .inr (0, 61) := rfl
theorem sh75 : shp 75 = .inl (3, [78, 0]) := rfl
theorem sh76 : shp 76 = .inr (0, 61) := rfl
theorem sh77 : shp 77 = .inl (3, [80, 0]) := rfl
theorem sh78 : shp 78 = .inr (0, 60) := rfl
theorem sh79 : shp 79 = .inl (3, [82, 0]) := rfl
theorem sh80 : shp 80 = .inr (0, 61) := rfl
theorem sh81 : shp 81 = .inl (6, [2, 9, 58, 60, 63, 77, 70, 79, 81, 0]) := rfl
theorem sh82 : shp 82 = .inl (7, [0, 85, 0, 0, 86, 0, 0, 87, 0, 88, 0, 89, 90, 91, 0, 92, 1]) := rfl
theorem sh83 : shp 83 = .inr (0, 1888) := rfl
theorem sh84 : shp 84 = .inr (0, 60) := rfl
theorem sh85 : shp 85 = .inr (0, 31) := rfl
theorem sh86 : shp 86 = .inr (0, 61) := rfl
theorem sh87 : shp 87 = .inr (0, 61) := rfl
theorem sh88 : shp 88 = .inr (0, 61) := rfl
theorem sh89 : shp 89 = .inr (0, 61) := rfl
theorem sh90 : shp 90 = .inr (0, 62) := rfl
theorem sh91 : shp 91 = .inr (1, 1) := rfl
theorem row1 : RowOk 1 := ⟨rfl, rfl⟩
theorem row8 : RowOk 8 := ⟨rfl, rfl⟩
theorem row15 : RowOk 15 := ⟨rfl, rfl⟩
theorem row22 : RowOk 22 := ⟨rfl, rfl⟩
theorem row29 : RowOk 29 := ⟨rfl, rfl⟩
theorem row36 : RowOk 36 := ⟨rfl, rfl⟩
theorem row43 : RowOk 43 := ⟨rfl, rfl⟩
theorem row50 : RowOk 50 := ⟨rfl, rfl⟩
theorem row59 : RowOk 59 := ⟨rfl, rfl⟩
theorem row62 : RowOk 62 := ⟨rfl, rfl⟩
theorem row64 : RowOk 64 := ⟨rfl, rfl⟩
theorem row66 : RowOk 66 := ⟨rfl, rfl⟩
theorem row69 : RowOk 69 := ⟨rfl, rfl⟩
theorem row71 : RowOk 71 := ⟨rfl, rfl⟩
theorem row73 : RowOk 73 := ⟨rfl, rfl⟩
theorem row75 : RowOk 75 := ⟨rfl, rfl⟩
theorem row77 : RowOk 77 := ⟨rfl, rfl⟩
theorem row79 : RowOk 79 := ⟨rfl, rfl⟩
theorem ent3 : EntOk 3 := ⟨rfl, rfl, rfl, rfl⟩
theorem ent10 : EntOk 10 := ⟨rfl, rfl, rfl, rfl⟩
theorem ent17 : EntOk 17 := ⟨rfl, rfl, rfl, rfl⟩
theorem ent24 : EntOk 24 := ⟨rfl, rfl, rfl, rfl⟩
theorem ent31 : EntOk 31 := ⟨rfl, rfl, rfl, rfl⟩
theorem ent38 : EntOk 38 := ⟨rfl, rfl, rfl, rfl⟩
theorem ent45 : EntOk 45 := ⟨rfl, rfl, rfl, rfl⟩
theorem ent52 : EntOk 52 := ⟨rfl, rfl, rfl, rfl⟩
theorem sta0 : StOk 0 := ⟨rfl, row1, ent3⟩
theorem sta7 : StOk 7 := ⟨rfl, row8, ent10⟩
theorem sta14 : StOk 14 := ⟨rfl, row15, ent17⟩
theorem sta21 : StOk 21 := ⟨rfl, row22, ent24⟩
theorem sta28 : StOk 28 := ⟨rfl, row29, ent31⟩
theorem sta35 : StOk 35 := ⟨rfl, row36, ent38⟩
theorem sta42 : StOk 42 := ⟨rfl, row43, ent45⟩
theorem sta49 : StOk 49 := ⟨rfl, row50, ent52⟩
theorem rdg61 : RdOk 61 := ⟨rfl, row62, row64, row66⟩
theorem rdg68 : RdOk 68 := ⟨rfl, row69, row71, row73⟩
theorem cap1 : cap 1 = 60 := rfl
theorem cap8 : cap 8 = 60 := rfl
theorem cap15 : cap 15 = 60 := rfl
theorem cap22 : cap 22 = 60 := rfl
theorem cap29 : cap 29 = 60 := rfl
theorem cap36 : cap 36 = 60 := rfl
theorem cap43 : cap 43 = 60 := rfl
theorem cap50 : cap 50 = 60 := rfl
theorem cap59 : cap 59 = 60 := rfl
theorem cap62 : cap 62 = 61 := rfl
theorem cap64 : cap 64 = 61 := rfl
theorem cap66 : cap 66 = 61 := rfl
theorem cap69 : cap 69 = 61 := rfl
theorem cap71 : cap 71 = 61 := rfl
theorem cap73 : cap 73 = 61 := rfl
theorem cap75 : cap 75 = 61 := rfl
theorem cap77 : cap 77 = 60 := rfl
theorem cap79 : cap 79 = 61 := rfl
theorem stOk_of {i : Nat} (h : i % 7 = 0 ∧ i < 56) : StOk i := by
  have : i = 0 ∨ i = 7 ∨ i = 14 ∨ i = 21 ∨ i = 28 ∨ i = 35 ∨ i = 42 ∨ i = 49 := by omega
  rcases this with rfl | rfl | rfl | rfl | rfl | rfl | rfl | rfl
  · exact sta0
  · exact sta7
  · exact sta14
  · exact sta21
  · exact sta28
  · exact sta35
  · exact sta42
  · exact sta49
theorem inX0 : ∀ w ∈ wsX00, w ∈ lw_all := show ∀ w ∈ ([Cond.laysFinal RX0 "StenoChords$Entries" "rows" "[J", Cond.laysFinal RX0 "StenoChords$Entries" "words" "[I", Cond.laysFinal RX0 "StenoChords$Entries" "picks" "[I", Cond.lays RX0 "StenoChords$Entries" "size" "I"] : List Cond), w ∈ lw_all from List.forall_mem_cons.mpr ⟨kw1_64, List.forall_mem_cons.mpr ⟨kw1_66, List.forall_mem_cons.mpr ⟨kw1_68, List.forall_mem_cons.mpr ⟨kw1_70, fun _ h => absurd h List.not_mem_nil⟩⟩⟩⟩
theorem foX0 : FO 0 RX0 TX0 4 tyX0 := ⟨rfl, inX0, tyX0_ok, nmX0⟩
theorem inX1 : ∀ w ∈ wsX10, w ∈ lw_all := show ∀ w ∈ ([Cond.laysFinal RX1 "StenoChords$InputText" "codes" "LStenoChords$Row;"] : List Cond), w ∈ lw_all from List.forall_mem_cons.mpr ⟨kw1_137, fun _ h => absurd h List.not_mem_nil⟩
theorem foX1 : FO 1 RX1 TX1 1 tyX1 := ⟨rfl, inX1, tyX1_ok, nmX1⟩
theorem inX2 : ∀ w ∈ wsX20, w ∈ lw_all := show ∀ w ∈ ([Cond.laysFinal RX2 "StenoChords$Reading" "places" "LStenoChords$Row;", Cond.laysFinal RX2 "StenoChords$Reading" "lengths" "LStenoChords$Row;", Cond.laysFinal RX2 "StenoChords$Reading" "leaders" "LStenoChords$Row;"] : List Cond), w ∈ lw_all from List.forall_mem_cons.mpr ⟨kw1_151, List.forall_mem_cons.mpr ⟨kw1_153, List.forall_mem_cons.mpr ⟨kw1_155, fun _ h => absurd h List.not_mem_nil⟩⟩⟩
theorem foX2 : FO 2 RX2 TX2 3 tyX2 := ⟨rfl, inX2, tyX2_ok, nmX2⟩
theorem inX3 : ∀ w ∈ wsX30, w ∈ lw_all := show ∀ w ∈ ([Cond.laysFinal RX3 "StenoChords$Row" "cells" "[I", Cond.lays RX3 "StenoChords$Row" "length" "I"] : List Cond), w ∈ lw_all from List.forall_mem_cons.mpr ⟨kw1_48, List.forall_mem_cons.mpr ⟨kw1_50, fun _ h => absurd h List.not_mem_nil⟩⟩
theorem foX3 : FO 3 RX3 TX3 2 tyX3 := ⟨rfl, inX3, tyX3_ok, nmX3⟩
theorem inX4 : ∀ w ∈ wsX40, w ∈ lw_all := show ∀ w ∈ ([Cond.laysFinal RX4 "StenoChords$SavedStates" "ring" "[LStenoChords$State;", Cond.lays RX4 "StenoChords$SavedStates" "oldest" "I", Cond.lays RX4 "StenoChords$SavedStates" "size" "I"] : List Cond), w ∈ lw_all from List.forall_mem_cons.mpr ⟨kw1_121, List.forall_mem_cons.mpr ⟨kw1_123, List.forall_mem_cons.mpr ⟨kw1_125, fun _ h => absurd h List.not_mem_nil⟩⟩⟩
theorem foX4 : FO 4 RX4 TX4 3 tyX4 := ⟨rfl, inX4, tyX4_ok, nmX4⟩
theorem inX5 : ∀ w ∈ wsX50, w ∈ lw_all := show ∀ w ∈ ([Cond.laysFinal RX5 "StenoChords$State" "paper" "LStenoChords$Row;", Cond.laysFinal RX5 "StenoChords$State" "entries" "LStenoChords$Entries;", Cond.lays RX5 "StenoChords$State" "eatsItems" "I", Cond.lays RX5 "StenoChords$State" "longestRead" "I", Cond.lays RX5 "StenoChords$State" "struck" "I", Cond.lays RX5 "StenoChords$State" "eaten" "I", Cond.lays RX5 "StenoChords$State" "asterisks" "I", Cond.lays RX5 "StenoChords$State" "keys" "I"] : List Cond), w ∈ lw_all from List.forall_mem_cons.mpr ⟨kw1_92, List.forall_mem_cons.mpr ⟨kw1_94, List.forall_mem_cons.mpr ⟨kw1_96, List.forall_mem_cons.mpr ⟨kw1_98, List.forall_mem_cons.mpr ⟨kw1_100, List.forall_mem_cons.mpr ⟨kw1_102, List.forall_mem_cons.mpr ⟨kw1_104, List.forall_mem_cons.mpr ⟨kw1_106, fun _ h => absurd h List.not_mem_nil⟩⟩⟩⟩⟩⟩⟩⟩
theorem foX5 : FO 5 RX5 TX5 8 tyX5 := ⟨rfl, inX5, tyX5_ok, nmX5⟩
theorem inX6 : ∀ w ∈ wsX60, w ∈ lw_all := show ∀ w ∈ ([Cond.laysFinal RX6 "StenoChords" "now" "LStenoChords$State;", Cond.laysFinal RX6 "StenoChords" "snapshot" "LStenoChords$State;", Cond.laysFinal RX6 "StenoChords" "saved" "LStenoChords$SavedStates;", Cond.laysFinal RX6 "StenoChords" "buffer" "LStenoChords$InputText;", Cond.laysFinal RX6 "StenoChords" "reading" "LStenoChords$Reading;", Cond.laysFinal RX6 "StenoChords" "otherPaper" "LStenoChords$Row;", Cond.laysFinal RX6 "StenoChords" "otherReading" "LStenoChords$Reading;", Cond.laysFinal RX6 "StenoChords" "told" "LStenoChords$Row;", Cond.laysFinal RX6 "StenoChords" "fewest" "LStenoChords$Row;", Cond.lays RX6 "StenoChords" "snapshotTaken" "Z"] : List Cond), w ∈ lw_all from List.forall_mem_cons.mpr ⟨kw1_170, List.forall_mem_cons.mpr ⟨kw1_172, List.forall_mem_cons.mpr ⟨kw1_174, List.forall_mem_cons.mpr ⟨kw1_176, List.forall_mem_cons.mpr ⟨kw1_178, List.forall_mem_cons.mpr ⟨kw1_180, List.forall_mem_cons.mpr ⟨kw1_182, List.forall_mem_cons.mpr ⟨kw1_184, List.forall_mem_cons.mpr ⟨kw1_186, List.forall_mem_cons.mpr ⟨kw1_188, fun _ h => absurd h List.not_mem_nil⟩⟩⟩⟩⟩⟩⟩⟩⟩⟩
theorem foX6 : FO 6 RX6 TX6 10 tyX6 := ⟨rfl, inX6, tyX6_ok, nmX6⟩
theorem inX7 : ∀ w ∈ wsX70, w ∈ lw_all := show ∀ w ∈ ([Cond.lays RX7 "StenoChordsModel" "thrown" "I", Cond.laysFinal RX7 "StenoChordsModel" "s" "[I", Cond.lays RX7 "StenoChordsModel" "saved" "I", Cond.lays RX7 "StenoChordsModel" "isKept" "Z", Cond.laysFinal RX7 "StenoChordsModel" "text" "[I", Cond.lays RX7 "StenoChordsModel" "length" "I", Cond.lays RX7 "StenoChordsModel" "at" "I", Cond.laysFinal RX7 "StenoChordsModel" "told" "[I", Cond.lays RX7 "StenoChordsModel" "tells" "I", Cond.laysFinal RX7 "StenoChordsModel" "sheet" "[I", Cond.lays RX7 "StenoChordsModel" "many" "I", Cond.laysFinal RX7 "StenoChordsModel" "starts" "[I", Cond.laysFinal RX7 "StenoChordsModel" "sizes" "[I", Cond.laysFinal RX7 "StenoChordsModel" "stands" "[I", Cond.lays RX7 "StenoChordsModel" "items" "I", Cond.laysFinal RX7 "StenoChordsModel" "fewest" "[I", Cond.lays RX7 "StenoChordsModel" "hash" "J"] : List Cond), w ∈ lw_all from List.forall_mem_cons.mpr ⟨kw4_199, List.forall_mem_cons.mpr ⟨kw4_201, List.forall_mem_cons.mpr ⟨kw4_203, List.forall_mem_cons.mpr ⟨kw4_205, List.forall_mem_cons.mpr ⟨kw4_207, List.forall_mem_cons.mpr ⟨kw4_209, List.forall_mem_cons.mpr ⟨kw4_211, List.forall_mem_cons.mpr ⟨kw4_213, List.forall_mem_cons.mpr ⟨kw4_215, List.forall_mem_cons.mpr ⟨kw4_217, List.forall_mem_cons.mpr ⟨kw4_219, List.forall_mem_cons.mpr ⟨kw4_221, List.forall_mem_cons.mpr ⟨kw4_223, List.forall_mem_cons.mpr ⟨kw4_225, List.forall_mem_cons.mpr ⟨kw4_227, List.forall_mem_cons.mpr ⟨kw4_229, List.forall_mem_cons.mpr ⟨kw4_231, fun _ h => absurd h List.not_mem_nil⟩⟩⟩⟩⟩⟩⟩⟩⟩⟩⟩⟩⟩⟩⟩⟩⟩
theorem foX7 : FO 7 RX7 TX7 17 tyX7 := ⟨rfl, inX7, tyX7_ok, nmX7⟩
theorem it_t {α : Type} {c : Prop} [Decidable c] {a b o : Option α} (hc : c) (h : (if c then a else b) = o) : a = o := (if_pos hc).symm.trans h
theorem it_f {α : Type} {c : Prop} [Decidable c] {a b o : Option α} (hc : ¬ c) (h : (if c then a else b) = o) : b = o := (if_neg hc).symm.trans h
theorem tsw_ne {x : Int32} {c : Int32} {z : Int} (hz : c.toInt = z) (h : ¬ x = c) : x.toInt ≠ z := fun e => h (Int32.toInt_inj.mp (e.trans hz.symm))
theorem nI_inA {n N : Nat} (h : n < N) (hN : N ≤ 2147483648) : inA (nI n) N := by
  have := nI_toInt (n := n) (by omega)
  exact ⟨by omega, by omega⟩
end
