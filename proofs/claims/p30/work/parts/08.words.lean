theorem kw1_0 : Cond.initialized RL ∈ lw_all := lw_in1 (List.mem_of_getElem? (i := 0) rfl) rfl
theorem kw1_1 : Cond.initialized RX6 ∈ lw_all := lw_in1 (List.mem_of_getElem? (i := 1) rfl) rfl
theorem kw1_2 : Cond.initialized RX5 ∈ lw_all := lw_in1 (List.mem_of_getElem? (i := 2) rfl) rfl
theorem kw1_3 : Cond.initialized RX3 ∈ lw_all := lw_in1 (List.mem_of_getElem? (i := 3) rfl) rfl
theorem kw1_4 : Cond.initialized RJ9 ∈ lw_all := lw_in1 (List.mem_of_getElem? (i := 4) rfl) rfl
theorem kw1_5 : Cond.initialized RX0 ∈ lw_all := lw_in1 (List.mem_of_getElem? (i := 5) rfl) rfl
theorem kw1_6 : Cond.initialized RX4 ∈ lw_all := lw_in1 (List.mem_of_getElem? (i := 6) rfl) rfl
theorem kw1_7 : Cond.initialized RX1 ∈ lw_all := lw_in1 (List.mem_of_getElem? (i := 7) rfl) rfl
theorem kw1_8 : Cond.initialized RX2 ∈ lw_all := lw_in1 (List.mem_of_getElem? (i := 8) rfl) rfl
theorem kw1_9 : Cond.initialized "java/lang/Throwable" ∈ lw_all := lw_in1 (List.mem_of_getElem? (i := 9) rfl) rfl
theorem kw1_10 : Cond.initialized "java/lang/Exception" ∈ lw_all := lw_in1 (List.mem_of_getElem? (i := 10) rfl) rfl
theorem kw1_11 : Cond.initialized "java/lang/RuntimeException" ∈ lw_all := lw_in1 (List.mem_of_getElem? (i := 11) rfl) rfl
theorem kw1_12 : Cond.initialized "java/lang/IllegalArgumentException" ∈ lw_all := lw_in1 (List.mem_of_getElem? (i := 12) rfl) rfl
theorem kw1_13 : Cond.initialized "java/lang/IndexOutOfBoundsException" ∈ lw_all := lw_in1 (List.mem_of_getElem? (i := 13) rfl) rfl
theorem kw1_14 : Cond.initialized RJ13 ∈ lw_all := lw_in1 (List.mem_of_getElem? (i := 14) rfl) rfl
theorem kw1_15 : Cond.initialized "java/lang/IllegalStateException" ∈ lw_all := lw_in1 (List.mem_of_getElem? (i := 15) rfl) rfl
theorem kw1_16 : Cond.initialized RJ0 ∈ lw_all := lw_in1 (List.mem_of_getElem? (i := 16) rfl) rfl
theorem kw1_17 : Cond.initialized RJ1 ∈ lw_all := lw_in1 (List.mem_of_getElem? (i := 17) rfl) rfl
theorem kw1_18 : Cond.initialized RJ2 ∈ lw_all := lw_in1 (List.mem_of_getElem? (i := 18) rfl) rfl
theorem kw1_19 : Cond.initialized RJ3 ∈ lw_all := lw_in1 (List.mem_of_getElem? (i := 19) rfl) rfl
theorem kw1_20 : Cond.initialized RJ11 ∈ lw_all := lw_in1 (List.mem_of_getElem? (i := 20) rfl) rfl
theorem kw1_21 : Cond.initialized RJ6 ∈ lw_all := lw_in1 (List.mem_of_getElem? (i := 21) rfl) rfl
theorem kw1_22 : Cond.classLink RL 14 RX6 ∈ lw_all := lw_in1 (List.mem_of_getElem? (i := 22) rfl) rfl
theorem kw1_23 : Cond.instantiable RX6 10 ∈ lw_all := lw_in1 (List.mem_of_getElem? (i := 23) rfl) rfl
theorem kw1_24 : Cond.methodLink RL 108 yX6_init ∈ lw_all := lw_in1 (List.mem_of_getElem? (i := 24) rfl) rfl
theorem kw1_25 : Cond.instanceMethod yX6_init ∈ lw_all := lw_in1 (List.mem_of_getElem? (i := 25) rfl) rfl
theorem kw1_26 : Cond.code yX6_init cX6_init 1 none ∈ lw_all := lw_in1 (List.mem_of_getElem? (i := 26) rfl) rfl
theorem kw1_27 : Cond.methodLink RX6 1 (⟨"java/lang/Object", "<init>", "()V"⟩ : MethodName) ∈ lw_all := lw_in1 (List.mem_of_getElem? (i := 27) rfl) rfl
theorem kw1_28 : Cond.instanceMethod (⟨"java/lang/Object", "<init>", "()V"⟩ : MethodName) ∈ lw_all := lw_in1 (List.mem_of_getElem? (i := 28) rfl) rfl
theorem kw1_29 : Cond.code (⟨"java/lang/Object", "<init>", "()V"⟩ : MethodName) object_method_1_code 1 none ∈ lw_all := lw_in1 (List.mem_of_getElem? (i := 29) rfl) rfl
theorem kw1_30 : Cond.classLink RX6 7 RX5 ∈ lw_all := lw_in1 (List.mem_of_getElem? (i := 30) rfl) rfl
theorem kw1_31 : Cond.instantiable RX5 8 ∈ lw_all := lw_in1 (List.mem_of_getElem? (i := 31) rfl) rfl
theorem kw1_33 : Cond.instanceMethod yX5_init ∈ lw_all := lw_in1 (List.mem_of_getElem? (i := 33) rfl) rfl
theorem kw1_34 : Cond.code yX5_init cX5_init 1 none ∈ lw_all := lw_in1 (List.mem_of_getElem? (i := 34) rfl) rfl
theorem kw1_35 : Cond.methodLink RX5 3 (⟨"java/lang/Object", "<init>", "()V"⟩ : MethodName) ∈ lw_all := lw_in1 (List.mem_of_getElem? (i := 35) rfl) rfl
theorem kw1_36 : Cond.classLink RX5 9 RX3 ∈ lw_all := lw_in1 (List.mem_of_getElem? (i := 36) rfl) rfl
theorem kw1_37 : Cond.instantiable RX3 2 ∈ lw_all := lw_in1 (List.mem_of_getElem? (i := 37) rfl) rfl
theorem kw1_38 : Cond.methodLink RX5 11 yX3_init ∈ lw_all := lw_in1 (List.mem_of_getElem? (i := 38) rfl) rfl
theorem kw1_39 : Cond.instanceMethod yX3_init ∈ lw_all := lw_in1 (List.mem_of_getElem? (i := 39) rfl) rfl
theorem kw1_40 : Cond.code yX3_init cX3_init 2 none ∈ lw_all := lw_in1 (List.mem_of_getElem? (i := 40) rfl) rfl
theorem kw1_41 : Cond.methodLink RX3 3 (⟨"java/lang/Object", "<init>", "()V"⟩ : MethodName) ∈ lw_all := lw_in1 (List.mem_of_getElem? (i := 41) rfl) rfl
theorem kw1_42 : Cond.methodLink RX3 9 yJ9_max_7cf53 ∈ lw_all := lw_in1 (List.mem_of_getElem? (i := 42) rfl) rfl
theorem kw1_43 : Cond.static yJ9_max_7cf53 ∈ lw_all := lw_in1 (List.mem_of_getElem? (i := 43) rfl) rfl
theorem kw1_44 : Cond.code yJ9_max_7cf53 Lib.Math.max.code 2 (some .int) ∈ lw_all := lw_in1 (List.mem_of_getElem? (i := 44) rfl) rfl
theorem kw1_45 : Cond.fieldLink RX3 15 "StenoChords$Row" "cells" "[I" ∈ lw_all := lw_in1 (List.mem_of_getElem? (i := 45) rfl) rfl
theorem kw1_46 : Cond.fieldLink RX3 21 "StenoChords$Row" "length" "I" ∈ lw_all := lw_in1 (List.mem_of_getElem? (i := 46) rfl) rfl
theorem kw1_47 : Cond.laysFinal RX3 "StenoChords$Row" "cells" "[I" ∈ lw_all := lw_in1 (List.mem_of_getElem? (i := 47) rfl) rfl
theorem kw1_49 : Cond.lays RX3 "StenoChords$Row" "length" "I" ∈ lw_all := lw_in1 (List.mem_of_getElem? (i := 49) rfl) rfl
theorem kw1_52 : Cond.arrayClass .int ∈ lw_all := lw_in1 (List.mem_of_getElem? (i := 52) rfl) rfl
theorem kw1_53 : Cond.classLink RX5 20 RX0 ∈ lw_all := lw_in1 (List.mem_of_getElem? (i := 53) rfl) rfl
theorem kw1_54 : Cond.instantiable RX0 4 ∈ lw_all := lw_in1 (List.mem_of_getElem? (i := 54) rfl) rfl
theorem kw1_56 : Cond.instanceMethod yX0_init ∈ lw_all := lw_in1 (List.mem_of_getElem? (i := 56) rfl) rfl
theorem kw1_57 : Cond.code yX0_init cX0_init 1 none ∈ lw_all := lw_in1 (List.mem_of_getElem? (i := 57) rfl) rfl
theorem kw1_58 : Cond.methodLink RX0 3 (⟨"java/lang/Object", "<init>", "()V"⟩ : MethodName) ∈ lw_all := lw_in1 (List.mem_of_getElem? (i := 58) rfl) rfl
theorem kw1_59 : Cond.fieldLink RX0 9 "StenoChords$Entries" "rows" "[J" ∈ lw_all := lw_in1 (List.mem_of_getElem? (i := 59) rfl) rfl
theorem kw1_60 : Cond.fieldLink RX0 15 "StenoChords$Entries" "words" "[I" ∈ lw_all := lw_in1 (List.mem_of_getElem? (i := 60) rfl) rfl
theorem kw1_61 : Cond.fieldLink RX0 19 "StenoChords$Entries" "picks" "[I" ∈ lw_all := lw_in1 (List.mem_of_getElem? (i := 61) rfl) rfl
theorem kw1_62 : Cond.fieldLink RX0 22 "StenoChords$Entries" "size" "I" ∈ lw_all := lw_in1 (List.mem_of_getElem? (i := 62) rfl) rfl
theorem kw1_63 : Cond.laysFinal RX0 "StenoChords$Entries" "rows" "[J" ∈ lw_all := lw_in1 (List.mem_of_getElem? (i := 63) rfl) rfl
theorem kw1_65 : Cond.laysFinal RX0 "StenoChords$Entries" "words" "[I" ∈ lw_all := lw_in1 (List.mem_of_getElem? (i := 65) rfl) rfl
theorem kw1_67 : Cond.laysFinal RX0 "StenoChords$Entries" "picks" "[I" ∈ lw_all := lw_in1 (List.mem_of_getElem? (i := 67) rfl) rfl
theorem kw1_69 : Cond.lays RX0 "StenoChords$Entries" "size" "I" ∈ lw_all := lw_in1 (List.mem_of_getElem? (i := 69) rfl) rfl
theorem kw1_72 : Cond.arrayClass .long ∈ lw_all := lw_in1 (List.mem_of_getElem? (i := 72) rfl) rfl
theorem kw1_73 : Cond.fieldLink RX5 14 "StenoChords$State" "paper" "LStenoChords$Row;" ∈ lw_all := lw_in1 (List.mem_of_getElem? (i := 73) rfl) rfl
theorem kw1_74 : Cond.fieldLink RX6 104 "StenoChords$State" "paper" "LStenoChords$Row;" ∈ lw_all := lw_in1 (List.mem_of_getElem? (i := 74) rfl) rfl
theorem kw1_75 : Cond.fieldLink RX5 23 "StenoChords$State" "entries" "LStenoChords$Entries;" ∈ lw_all := lw_in1 (List.mem_of_getElem? (i := 75) rfl) rfl
theorem kw1_76 : Cond.fieldLink RX6 113 "StenoChords$State" "entries" "LStenoChords$Entries;" ∈ lw_all := lw_in1 (List.mem_of_getElem? (i := 76) rfl) rfl
theorem kw1_77 : Cond.fieldLink RX2 44 "StenoChords$State" "entries" "LStenoChords$Entries;" ∈ lw_all := lw_in1 (List.mem_of_getElem? (i := 77) rfl) rfl
theorem kw1_78 : Cond.fieldLink RX5 38 "StenoChords$State" "eatsItems" "I" ∈ lw_all := lw_in1 (List.mem_of_getElem? (i := 78) rfl) rfl
theorem kw1_79 : Cond.fieldLink RX6 182 "StenoChords$State" "eatsItems" "I" ∈ lw_all := lw_in1 (List.mem_of_getElem? (i := 79) rfl) rfl
theorem kw1_80 : Cond.fieldLink RX5 27 "StenoChords$State" "longestRead" "I" ∈ lw_all := lw_in1 (List.mem_of_getElem? (i := 80) rfl) rfl
theorem kw1_81 : Cond.fieldLink RX6 186 "StenoChords$State" "longestRead" "I" ∈ lw_all := lw_in1 (List.mem_of_getElem? (i := 81) rfl) rfl
theorem kw1_82 : Cond.fieldLink RX2 50 "StenoChords$State" "longestRead" "I" ∈ lw_all := lw_in1 (List.mem_of_getElem? (i := 82) rfl) rfl
theorem kw1_83 : Cond.fieldLink RX5 41 "StenoChords$State" "struck" "I" ∈ lw_all := lw_in1 (List.mem_of_getElem? (i := 83) rfl) rfl
theorem kw1_84 : Cond.fieldLink RX6 277 "StenoChords$State" "struck" "I" ∈ lw_all := lw_in1 (List.mem_of_getElem? (i := 84) rfl) rfl
theorem kw1_85 : Cond.fieldLink RX5 44 "StenoChords$State" "eaten" "I" ∈ lw_all := lw_in1 (List.mem_of_getElem? (i := 85) rfl) rfl
theorem kw1_86 : Cond.fieldLink RX6 333 "StenoChords$State" "eaten" "I" ∈ lw_all := lw_in1 (List.mem_of_getElem? (i := 86) rfl) rfl
theorem kw1_87 : Cond.fieldLink RX5 47 "StenoChords$State" "asterisks" "I" ∈ lw_all := lw_in1 (List.mem_of_getElem? (i := 87) rfl) rfl
theorem kw1_88 : Cond.fieldLink RX6 336 "StenoChords$State" "asterisks" "I" ∈ lw_all := lw_in1 (List.mem_of_getElem? (i := 88) rfl) rfl
theorem kw1_89 : Cond.fieldLink RX5 50 "StenoChords$State" "keys" "I" ∈ lw_all := lw_in1 (List.mem_of_getElem? (i := 89) rfl) rfl
theorem kw1_90 : Cond.fieldLink RX6 280 "StenoChords$State" "keys" "I" ∈ lw_all := lw_in1 (List.mem_of_getElem? (i := 90) rfl) rfl
theorem kw1_91 : Cond.laysFinal RX5 "StenoChords$State" "paper" "LStenoChords$Row;" ∈ lw_all := lw_in1 (List.mem_of_getElem? (i := 91) rfl) rfl
theorem kw1_93 : Cond.laysFinal RX5 "StenoChords$State" "entries" "LStenoChords$Entries;" ∈ lw_all := lw_in1 (List.mem_of_getElem? (i := 93) rfl) rfl
theorem kw1_95 : Cond.lays RX5 "StenoChords$State" "eatsItems" "I" ∈ lw_all := lw_in1 (List.mem_of_getElem? (i := 95) rfl) rfl
theorem kw1_97 : Cond.lays RX5 "StenoChords$State" "longestRead" "I" ∈ lw_all := lw_in1 (List.mem_of_getElem? (i := 97) rfl) rfl
theorem kw1_99 : Cond.lays RX5 "StenoChords$State" "struck" "I" ∈ lw_all := lw_in1 (List.mem_of_getElem? (i := 99) rfl) rfl
theorem kw1_101 : Cond.lays RX5 "StenoChords$State" "eaten" "I" ∈ lw_all := lw_in1 (List.mem_of_getElem? (i := 101) rfl) rfl
theorem kw1_103 : Cond.lays RX5 "StenoChords$State" "asterisks" "I" ∈ lw_all := lw_in1 (List.mem_of_getElem? (i := 103) rfl) rfl
theorem kw1_105 : Cond.lays RX5 "StenoChords$State" "keys" "I" ∈ lw_all := lw_in1 (List.mem_of_getElem? (i := 105) rfl) rfl
theorem kw1_108 : Cond.classLink RX6 19 RX4 ∈ lw_all := lw_in1 (List.mem_of_getElem? (i := 108) rfl) rfl
theorem kw1_109 : Cond.instantiable RX4 3 ∈ lw_all := lw_in1 (List.mem_of_getElem? (i := 109) rfl) rfl
theorem kw1_110 : Cond.methodLink RX6 21 yX4_init ∈ lw_all := lw_in1 (List.mem_of_getElem? (i := 110) rfl) rfl
theorem kw1_111 : Cond.instanceMethod yX4_init ∈ lw_all := lw_in1 (List.mem_of_getElem? (i := 111) rfl) rfl
theorem kw1_112 : Cond.code yX4_init cX4_init 2 none ∈ lw_all := lw_in1 (List.mem_of_getElem? (i := 112) rfl) rfl
theorem kw1_113 : Cond.methodLink RX4 3 (⟨"java/lang/Object", "<init>", "()V"⟩ : MethodName) ∈ lw_all := lw_in1 (List.mem_of_getElem? (i := 113) rfl) rfl
theorem kw1_114 : Cond.classLink RX4 9 RX5 ∈ lw_all := lw_in1 (List.mem_of_getElem? (i := 114) rfl) rfl
theorem kw1_117 : Cond.fieldLink RX4 11 "StenoChords$SavedStates" "ring" "[LStenoChords$State;" ∈ lw_all := lw_in1 (List.mem_of_getElem? (i := 117) rfl) rfl
theorem kw1_118 : Cond.fieldLink RX4 30 "StenoChords$SavedStates" "oldest" "I" ∈ lw_all := lw_in1 (List.mem_of_getElem? (i := 118) rfl) rfl
theorem kw1_119 : Cond.fieldLink RX4 18 "StenoChords$SavedStates" "size" "I" ∈ lw_all := lw_in1 (List.mem_of_getElem? (i := 119) rfl) rfl
theorem kw1_120 : Cond.laysFinal RX4 "StenoChords$SavedStates" "ring" "[LStenoChords$State;" ∈ lw_all := lw_in1 (List.mem_of_getElem? (i := 120) rfl) rfl
theorem kw1_122 : Cond.lays RX4 "StenoChords$SavedStates" "oldest" "I" ∈ lw_all := lw_in1 (List.mem_of_getElem? (i := 122) rfl) rfl
theorem kw1_124 : Cond.lays RX4 "StenoChords$SavedStates" "size" "I" ∈ lw_all := lw_in1 (List.mem_of_getElem? (i := 124) rfl) rfl
theorem kw1_127 : Cond.classLink RX6 26 RX1 ∈ lw_all := lw_in1 (List.mem_of_getElem? (i := 127) rfl) rfl
theorem kw1_128 : Cond.instantiable RX1 1 ∈ lw_all := lw_in1 (List.mem_of_getElem? (i := 128) rfl) rfl
theorem kw1_130 : Cond.instanceMethod yX1_init ∈ lw_all := lw_in1 (List.mem_of_getElem? (i := 130) rfl) rfl
theorem kw1_131 : Cond.code yX1_init cX1_init 1 none ∈ lw_all := lw_in1 (List.mem_of_getElem? (i := 131) rfl) rfl
theorem kw1_132 : Cond.methodLink RX1 3 (⟨"java/lang/Object", "<init>", "()V"⟩ : MethodName) ∈ lw_all := lw_in1 (List.mem_of_getElem? (i := 132) rfl) rfl
theorem kw1_133 : Cond.classLink RX1 9 RX3 ∈ lw_all := lw_in1 (List.mem_of_getElem? (i := 133) rfl) rfl
theorem kw1_134 : Cond.methodLink RX1 11 yX3_init ∈ lw_all := lw_in1 (List.mem_of_getElem? (i := 134) rfl) rfl
theorem kw1_135 : Cond.fieldLink RX1 14 "StenoChords$InputText" "codes" "LStenoChords$Row;" ∈ lw_all := lw_in1 (List.mem_of_getElem? (i := 135) rfl) rfl
theorem kw1_136 : Cond.laysFinal RX1 "StenoChords$InputText" "codes" "LStenoChords$Row;" ∈ lw_all := lw_in1 (List.mem_of_getElem? (i := 136) rfl) rfl
theorem kw1_139 : Cond.classLink RX6 33 RX2 ∈ lw_all := lw_in1 (List.mem_of_getElem? (i := 139) rfl) rfl
theorem kw1_140 : Cond.instantiable RX2 3 ∈ lw_all := lw_in1 (List.mem_of_getElem? (i := 140) rfl) rfl
theorem kw1_142 : Cond.instanceMethod yX2_init ∈ lw_all := lw_in1 (List.mem_of_getElem? (i := 142) rfl) rfl
theorem kw1_143 : Cond.code yX2_init cX2_init 1 none ∈ lw_all := lw_in1 (List.mem_of_getElem? (i := 143) rfl) rfl
theorem kw1_144 : Cond.methodLink RX2 3 (⟨"java/lang/Object", "<init>", "()V"⟩ : MethodName) ∈ lw_all := lw_in1 (List.mem_of_getElem? (i := 144) rfl) rfl
theorem kw1_145 : Cond.classLink RX2 9 RX3 ∈ lw_all := lw_in1 (List.mem_of_getElem? (i := 145) rfl) rfl
theorem kw1_146 : Cond.methodLink RX2 11 yX3_init ∈ lw_all := lw_in1 (List.mem_of_getElem? (i := 146) rfl) rfl
theorem kw1_147 : Cond.fieldLink RX2 14 "StenoChords$Reading" "places" "LStenoChords$Row;" ∈ lw_all := lw_in1 (List.mem_of_getElem? (i := 147) rfl) rfl
theorem kw1_148 : Cond.fieldLink RX2 20 "StenoChords$Reading" "lengths" "LStenoChords$Row;" ∈ lw_all := lw_in1 (List.mem_of_getElem? (i := 148) rfl) rfl
theorem kw1_149 : Cond.fieldLink RX2 23 "StenoChords$Reading" "leaders" "LStenoChords$Row;" ∈ lw_all := lw_in1 (List.mem_of_getElem? (i := 149) rfl) rfl
theorem kw1_150 : Cond.laysFinal RX2 "StenoChords$Reading" "places" "LStenoChords$Row;" ∈ lw_all := lw_in1 (List.mem_of_getElem? (i := 150) rfl) rfl
theorem kw1_152 : Cond.laysFinal RX2 "StenoChords$Reading" "lengths" "LStenoChords$Row;" ∈ lw_all := lw_in1 (List.mem_of_getElem? (i := 152) rfl) rfl
theorem kw1_154 : Cond.laysFinal RX2 "StenoChords$Reading" "leaders" "LStenoChords$Row;" ∈ lw_all := lw_in1 (List.mem_of_getElem? (i := 154) rfl) rfl
theorem kw1_157 : Cond.classLink RX6 40 RX3 ∈ lw_all := lw_in1 (List.mem_of_getElem? (i := 157) rfl) rfl
theorem kw1_158 : Cond.methodLink RX6 42 yX3_init ∈ lw_all := lw_in1 (List.mem_of_getElem? (i := 158) rfl) rfl
theorem kw1_159 : Cond.fieldLink RX6 10 "StenoChords" "now" "LStenoChords$State;" ∈ lw_all := lw_in1 (List.mem_of_getElem? (i := 159) rfl) rfl
theorem kw1_160 : Cond.fieldLink RX6 16 "StenoChords" "snapshot" "LStenoChords$State;" ∈ lw_all := lw_in1 (List.mem_of_getElem? (i := 160) rfl) rfl
theorem kw1_161 : Cond.fieldLink RX6 22 "StenoChords" "saved" "LStenoChords$SavedStates;" ∈ lw_all := lw_in1 (List.mem_of_getElem? (i := 161) rfl) rfl
theorem kw1_162 : Cond.fieldLink RX6 29 "StenoChords" "buffer" "LStenoChords$InputText;" ∈ lw_all := lw_in1 (List.mem_of_getElem? (i := 162) rfl) rfl
theorem kw1_163 : Cond.fieldLink RX6 36 "StenoChords" "reading" "LStenoChords$Reading;" ∈ lw_all := lw_in1 (List.mem_of_getElem? (i := 163) rfl) rfl
theorem kw1_164 : Cond.fieldLink RX6 45 "StenoChords" "otherPaper" "LStenoChords$Row;" ∈ lw_all := lw_in1 (List.mem_of_getElem? (i := 164) rfl) rfl
theorem kw1_165 : Cond.fieldLink RX6 49 "StenoChords" "otherReading" "LStenoChords$Reading;" ∈ lw_all := lw_in1 (List.mem_of_getElem? (i := 165) rfl) rfl
theorem kw1_166 : Cond.fieldLink RX6 52 "StenoChords" "told" "LStenoChords$Row;" ∈ lw_all := lw_in1 (List.mem_of_getElem? (i := 166) rfl) rfl
theorem kw1_167 : Cond.fieldLink RX6 55 "StenoChords" "fewest" "LStenoChords$Row;" ∈ lw_all := lw_in1 (List.mem_of_getElem? (i := 167) rfl) rfl
theorem kw1_168 : Cond.fieldLink RX6 203 "StenoChords" "snapshotTaken" "Z" ∈ lw_all := lw_in1 (List.mem_of_getElem? (i := 168) rfl) rfl
theorem kw1_169 : Cond.laysFinal RX6 "StenoChords" "now" "LStenoChords$State;" ∈ lw_all := lw_in1 (List.mem_of_getElem? (i := 169) rfl) rfl
theorem kw1_171 : Cond.laysFinal RX6 "StenoChords" "snapshot" "LStenoChords$State;" ∈ lw_all := lw_in1 (List.mem_of_getElem? (i := 171) rfl) rfl
theorem kw1_173 : Cond.laysFinal RX6 "StenoChords" "saved" "LStenoChords$SavedStates;" ∈ lw_all := lw_in1 (List.mem_of_getElem? (i := 173) rfl) rfl
theorem kw1_175 : Cond.laysFinal RX6 "StenoChords" "buffer" "LStenoChords$InputText;" ∈ lw_all := lw_in1 (List.mem_of_getElem? (i := 175) rfl) rfl
theorem kw1_177 : Cond.laysFinal RX6 "StenoChords" "reading" "LStenoChords$Reading;" ∈ lw_all := lw_in1 (List.mem_of_getElem? (i := 177) rfl) rfl
theorem kw1_179 : Cond.laysFinal RX6 "StenoChords" "otherPaper" "LStenoChords$Row;" ∈ lw_all := lw_in1 (List.mem_of_getElem? (i := 179) rfl) rfl
theorem kw1_181 : Cond.laysFinal RX6 "StenoChords" "otherReading" "LStenoChords$Reading;" ∈ lw_all := lw_in1 (List.mem_of_getElem? (i := 181) rfl) rfl
theorem kw1_183 : Cond.laysFinal RX6 "StenoChords" "told" "LStenoChords$Row;" ∈ lw_all := lw_in1 (List.mem_of_getElem? (i := 183) rfl) rfl
theorem kw1_185 : Cond.laysFinal RX6 "StenoChords" "fewest" "LStenoChords$Row;" ∈ lw_all := lw_in1 (List.mem_of_getElem? (i := 185) rfl) rfl
theorem kw1_187 : Cond.lays RX6 "StenoChords" "snapshotTaken" "Z" ∈ lw_all := lw_in1 (List.mem_of_getElem? (i := 187) rfl) rfl
theorem kw1_190 : Cond.methodLink RL 109 yX6_keep ∈ lw_all := lw_in1 (List.mem_of_getElem? (i := 190) rfl) rfl
theorem kw1_191 : Cond.instanceMethod yX6_keep ∈ lw_all := lw_in1 (List.mem_of_getElem? (i := 191) rfl) rfl
theorem kw1_192 : Cond.selects RX6 yX6_keep yX6_keep ∈ lw_all := lw_in1 (List.mem_of_getElem? (i := 192) rfl) rfl
theorem kw1_193 : Cond.code yX6_keep cX6_keep 1 (some .int) ∈ lw_all := lw_in1 (List.mem_of_getElem? (i := 193) rfl) rfl
theorem kw1_194 : Cond.methodLink RX6 200 yX5_become ∈ lw_all := lw_in1 (List.mem_of_getElem? (i := 194) rfl) rfl
theorem kw1_195 : Cond.instanceMethod yX5_become ∈ lw_all := lw_in1 (List.mem_of_getElem? (i := 195) rfl) rfl
theorem kw1_196 : Cond.selects RX5 yX5_become yX5_become ∈ lw_all := lw_in1 (List.mem_of_getElem? (i := 196) rfl) rfl
theorem kw1_197 : Cond.code yX5_become cX5_become 2 none ∈ lw_all := lw_in1 (List.mem_of_getElem? (i := 197) rfl) rfl
theorem kw1_198 : Cond.methodLink RX5 31 yX3_become ∈ lw_all := lw_in1 (List.mem_of_getElem? (i := 198) rfl) rfl
theorem kw1_199 : Cond.instanceMethod yX3_become ∈ lw_all := lw_in1 (List.mem_of_getElem? (i := 199) rfl) rfl
theorem kw1_200 : Cond.selects RX3 yX3_become yX3_become ∈ lw_all := lw_in1 (List.mem_of_getElem? (i := 200) rfl) rfl
theorem kw1_201 : Cond.code yX3_become cX3_become 3 none ∈ lw_all := lw_in1 (List.mem_of_getElem? (i := 201) rfl) rfl
theorem kw1_202 : Cond.methodLink RX3 29 yX3_at ∈ lw_all := lw_in1 (List.mem_of_getElem? (i := 202) rfl) rfl
theorem kw1_203 : Cond.instanceMethod yX3_at ∈ lw_all := lw_in1 (List.mem_of_getElem? (i := 203) rfl) rfl
theorem kw1_204 : Cond.selects RX3 yX3_at yX3_at ∈ lw_all := lw_in1 (List.mem_of_getElem? (i := 204) rfl) rfl
theorem kw1_205 : Cond.code yX3_at cX3_at 2 (some .int) ∈ lw_all := lw_in1 (List.mem_of_getElem? (i := 205) rfl) rfl
theorem kw1_206 : Cond.methodLink RX3 25 yX3_has ∈ lw_all := lw_in1 (List.mem_of_getElem? (i := 206) rfl) rfl
theorem kw1_207 : Cond.instanceMethod yX3_has ∈ lw_all := lw_in1 (List.mem_of_getElem? (i := 207) rfl) rfl
theorem kw1_208 : Cond.selects RX3 yX3_has yX3_has ∈ lw_all := lw_in1 (List.mem_of_getElem? (i := 208) rfl) rfl
theorem kw1_209 : Cond.code yX3_has cX3_has 2 (some .boolean) ∈ lw_all := lw_in1 (List.mem_of_getElem? (i := 209) rfl) rfl
theorem kw1_210 : Cond.methodLink RX3 33 yX3_put ∈ lw_all := lw_in1 (List.mem_of_getElem? (i := 210) rfl) rfl
theorem kw1_211 : Cond.instanceMethod yX3_put ∈ lw_all := lw_in1 (List.mem_of_getElem? (i := 211) rfl) rfl
theorem kw1_212 : Cond.selects RX3 yX3_put yX3_put ∈ lw_all := lw_in1 (List.mem_of_getElem? (i := 212) rfl) rfl
theorem kw1_213 : Cond.code yX3_put cX3_put 2 none ∈ lw_all := lw_in1 (List.mem_of_getElem? (i := 213) rfl) rfl
theorem kw1_214 : Cond.methodLink RX5 35 yX0_become ∈ lw_all := lw_in1 (List.mem_of_getElem? (i := 214) rfl) rfl
theorem kw1_215 : Cond.instanceMethod yX0_become ∈ lw_all := lw_in1 (List.mem_of_getElem? (i := 215) rfl) rfl
theorem kw1_216 : Cond.selects RX0 yX0_become yX0_become ∈ lw_all := lw_in1 (List.mem_of_getElem? (i := 216) rfl) rfl
theorem kw1_217 : Cond.code yX0_become cX0_become 3 none ∈ lw_all := lw_in1 (List.mem_of_getElem? (i := 217) rfl) rfl
theorem kw1_218 : Cond.methodLink RX0 30 yX0_rowOf ∈ lw_all := lw_in1 (List.mem_of_getElem? (i := 218) rfl) rfl
theorem kw1_219 : Cond.instanceMethod yX0_rowOf ∈ lw_all := lw_in1 (List.mem_of_getElem? (i := 219) rfl) rfl
theorem kw1_220 : Cond.selects RX0 yX0_rowOf yX0_rowOf ∈ lw_all := lw_in1 (List.mem_of_getElem? (i := 220) rfl) rfl
theorem kw1_221 : Cond.code yX0_rowOf cX0_rowOf 2 (some .long) ∈ lw_all := lw_in1 (List.mem_of_getElem? (i := 221) rfl) rfl
theorem kw1_222 : Cond.methodLink RX0 26 yX0_has ∈ lw_all := lw_in1 (List.mem_of_getElem? (i := 222) rfl) rfl
theorem kw1_223 : Cond.instanceMethod yX0_has ∈ lw_all := lw_in1 (List.mem_of_getElem? (i := 223) rfl) rfl
theorem kw1_224 : Cond.selects RX0 yX0_has yX0_has ∈ lw_all := lw_in1 (List.mem_of_getElem? (i := 224) rfl) rfl
theorem kw1_225 : Cond.code yX0_has cX0_has 2 (some .boolean) ∈ lw_all := lw_in1 (List.mem_of_getElem? (i := 225) rfl) rfl
theorem kw1_226 : Cond.methodLink RX0 34 yX0_wordOf ∈ lw_all := lw_in1 (List.mem_of_getElem? (i := 226) rfl) rfl
theorem kw1_227 : Cond.instanceMethod yX0_wordOf ∈ lw_all := lw_in1 (List.mem_of_getElem? (i := 227) rfl) rfl
theorem kw1_228 : Cond.selects RX0 yX0_wordOf yX0_wordOf ∈ lw_all := lw_in1 (List.mem_of_getElem? (i := 228) rfl) rfl
theorem kw1_229 : Cond.code yX0_wordOf cX0_wordOf 2 (some .int) ∈ lw_all := lw_in1 (List.mem_of_getElem? (i := 229) rfl) rfl
theorem kw1_230 : Cond.methodLink RX0 62 yX0_picksOf ∈ lw_all := lw_in1 (List.mem_of_getElem? (i := 230) rfl) rfl
theorem kw1_231 : Cond.instanceMethod yX0_picksOf ∈ lw_all := lw_in1 (List.mem_of_getElem? (i := 231) rfl) rfl
theorem kw1_232 : Cond.selects RX0 yX0_picksOf yX0_picksOf ∈ lw_all := lw_in1 (List.mem_of_getElem? (i := 232) rfl) rfl
theorem kw1_233 : Cond.code yX0_picksOf cX0_picksOf 2 (some .int) ∈ lw_all := lw_in1 (List.mem_of_getElem? (i := 233) rfl) rfl
theorem kw1_234 : Cond.methodLink RX0 58 yX0_put_ ∈ lw_all := lw_in1 (List.mem_of_getElem? (i := 234) rfl) rfl
theorem kw1_236 : Cond.instanceMethod yX0_put_ ∈ lw_all := lw_in1 (List.mem_of_getElem? (i := 236) rfl) rfl
theorem kw1_237 : Cond.code yX0_put_ cX0_put_ 5 none ∈ lw_all := lw_in1 (List.mem_of_getElem? (i := 237) rfl) rfl
theorem kw1_238 : Cond.methodLink RX6 94 yX3_length ∈ lw_all := lw_in1 (List.mem_of_getElem? (i := 238) rfl) rfl
theorem kw1_239 : Cond.instanceMethod yX3_length ∈ lw_all := lw_in1 (List.mem_of_getElem? (i := 239) rfl) rfl
theorem kw2_0 : Cond.selects RX3 yX3_length yX3_length ∈ lw_all := lw_in2 (List.mem_of_getElem? (i := 0) rfl) rfl
theorem kw2_1 : Cond.code yX3_length cX3_length 1 (some .int) ∈ lw_all := lw_in2 (List.mem_of_getElem? (i := 1) rfl) rfl
theorem kw2_2 : Cond.methodLink RL 127 yX6_undo ∈ lw_all := lw_in2 (List.mem_of_getElem? (i := 2) rfl) rfl
theorem kw2_3 : Cond.instanceMethod yX6_undo ∈ lw_all := lw_in2 (List.mem_of_getElem? (i := 3) rfl) rfl
theorem kw2_4 : Cond.selects RX6 yX6_undo yX6_undo ∈ lw_all := lw_in2 (List.mem_of_getElem? (i := 4) rfl) rfl
theorem kw2_5 : Cond.code yX6_undo cX6_undo 1 (some .int) ∈ lw_all := lw_in2 (List.mem_of_getElem? (i := 5) rfl) rfl
theorem kw2_6 : Cond.methodLink RX6 209 yX4_size ∈ lw_all := lw_in2 (List.mem_of_getElem? (i := 6) rfl) rfl
theorem kw2_7 : Cond.instanceMethod yX4_size ∈ lw_all := lw_in2 (List.mem_of_getElem? (i := 7) rfl) rfl
theorem kw2_8 : Cond.selects RX4 yX4_size yX4_size ∈ lw_all := lw_in2 (List.mem_of_getElem? (i := 8) rfl) rfl
theorem kw2_9 : Cond.code yX4_size cX4_size 1 (some .int) ∈ lw_all := lw_in2 (List.mem_of_getElem? (i := 9) rfl) rfl
theorem kw2_10 : Cond.classLink RX6 69 "java/lang/IllegalStateException" ∈ lw_all := lw_in2 (List.mem_of_getElem? (i := 10) rfl) rfl
theorem kw2_11 : Cond.instantiable "java/lang/IllegalStateException" 6 ∈ lw_all := lw_in2 (List.mem_of_getElem? (i := 11) rfl) rfl
theorem kw2_19 : Cond.selects "java/lang/IllegalStateException" (⟨"java/lang/Throwable", "fillInStackTrace", "(I)Ljava/lang/Throwable;"⟩ : MethodName) (⟨"java/lang/Throwable", "fillInStackTrace", "(I)Ljava/lang/Throwable;"⟩ : MethodName) ∈ lw_all := lw_in2 (List.mem_of_getElem? (i := 19) rfl) rfl
theorem kw2_20 : Cond.selects "java/lang/IllegalStateException" (⟨"java/lang/Throwable", "fillInStackTrace", "()Ljava/lang/Throwable;"⟩ : MethodName) (⟨"java/lang/Throwable", "fillInStackTrace", "()Ljava/lang/Throwable;"⟩ : MethodName) ∈ lw_all := lw_in2 (List.mem_of_getElem? (i := 20) rfl) rfl
theorem kw2_21 : Cond.lays "java/lang/IllegalStateException" "java/lang/Throwable" "cause" "Ljava/lang/Throwable;" ∈ lw_all := lw_in2 (List.mem_of_getElem? (i := 21) rfl) rfl
theorem kw2_22 : Cond.lays "java/lang/Throwable" "java/lang/Throwable" "cause" "Ljava/lang/Throwable;" ∈ lw_all := lw_in2 (List.mem_of_getElem? (i := 22) rfl) rfl
theorem kw2_23 : Cond.lays "java/lang/IllegalStateException" "java/lang/Throwable" "stackTrace" "[Ljava/lang/StackTraceElement;" ∈ lw_all := lw_in2 (List.mem_of_getElem? (i := 23) rfl) rfl
theorem kw2_24 : Cond.lays "java/lang/Throwable" "java/lang/Throwable" "stackTrace" "[Ljava/lang/StackTraceElement;" ∈ lw_all := lw_in2 (List.mem_of_getElem? (i := 24) rfl) rfl
theorem kw2_25 : Cond.lays "java/lang/IllegalStateException" "java/lang/Throwable" "suppressedExceptions" "Ljava/util/List;" ∈ lw_all := lw_in2 (List.mem_of_getElem? (i := 25) rfl) rfl
theorem kw2_26 : Cond.lays "java/lang/Throwable" "java/lang/Throwable" "suppressedExceptions" "Ljava/util/List;" ∈ lw_all := lw_in2 (List.mem_of_getElem? (i := 26) rfl) rfl
theorem kw2_27 : Cond.lays "java/lang/IllegalStateException" "java/lang/Throwable" "detailMessage" "Ljava/lang/String;" ∈ lw_all := lw_in2 (List.mem_of_getElem? (i := 27) rfl) rfl
theorem kw2_28 : Cond.lays "java/lang/Throwable" "java/lang/Throwable" "detailMessage" "Ljava/lang/String;" ∈ lw_all := lw_in2 (List.mem_of_getElem? (i := 28) rfl) rfl
theorem kw2_29 : Cond.lays "java/lang/IllegalStateException" "java/lang/Throwable" "backtrace" "Ljava/lang/Object;" ∈ lw_all := lw_in2 (List.mem_of_getElem? (i := 29) rfl) rfl
theorem kw2_30 : Cond.lays "java/lang/Throwable" "java/lang/Throwable" "backtrace" "Ljava/lang/Object;" ∈ lw_all := lw_in2 (List.mem_of_getElem? (i := 30) rfl) rfl
theorem kw2_64 : Cond.fieldLink "java/lang/Throwable" 198 "java/lang/Throwable" "backtrace" "Ljava/lang/Object;" ∈ lw_all := lw_in2 (List.mem_of_getElem? (i := 64) rfl) rfl
theorem kw2_33 : Cond.instanceMethod (⟨"java/lang/Throwable", "<init>", "()V"⟩ : MethodName) ∈ lw_all := lw_in2 (List.mem_of_getElem? (i := 33) rfl) rfl
theorem kw2_34 : Cond.code (⟨"java/lang/Throwable", "<init>", "()V"⟩ : MethodName) prog_22_method_1_code 1 none ∈ lw_all := lw_in2 (List.mem_of_getElem? (i := 34) rfl) rfl
theorem kw2_35 : Cond.methodLink "java/lang/Throwable" 1 (⟨"java/lang/Object", "<init>", "()V"⟩ : MethodName) ∈ lw_all := lw_in2 (List.mem_of_getElem? (i := 35) rfl) rfl
theorem kw2_36 : Cond.fieldLink "java/lang/Throwable" 13 "java/lang/Throwable" "UNASSIGNED_STACK" "[Ljava/lang/StackTraceElement;" ∈ lw_all := lw_in2 (List.mem_of_getElem? (i := 36) rfl) rfl
theorem kw2_38 : Cond.fieldLink "java/lang/Throwable" 20 "java/lang/Throwable" "SUPPRESSED_SENTINEL" "Ljava/util/List;" ∈ lw_all := lw_in2 (List.mem_of_getElem? (i := 38) rfl) rfl
theorem kw2_40 : Cond.methodLink "java/lang/Throwable" 27 (⟨"java/lang/Throwable", "fillInStackTrace", "()Ljava/lang/Throwable;"⟩ : MethodName) ∈ lw_all := lw_in2 (List.mem_of_getElem? (i := 40) rfl) rfl
theorem kw2_41 : Cond.instanceMethod (⟨"java/lang/Throwable", "fillInStackTrace", "()Ljava/lang/Throwable;"⟩ : MethodName) ∈ lw_all := lw_in2 (List.mem_of_getElem? (i := 41) rfl) rfl
theorem kw2_43 : Cond.selects "java/lang/IllegalArgumentException" (⟨"java/lang/Throwable", "fillInStackTrace", "()Ljava/lang/Throwable;"⟩ : MethodName) (⟨"java/lang/Throwable", "fillInStackTrace", "()Ljava/lang/Throwable;"⟩ : MethodName) ∈ lw_all := lw_in2 (List.mem_of_getElem? (i := 43) rfl) rfl
theorem kw2_44 : Cond.selects "java/lang/IndexOutOfBoundsException" (⟨"java/lang/Throwable", "fillInStackTrace", "()Ljava/lang/Throwable;"⟩ : MethodName) (⟨"java/lang/Throwable", "fillInStackTrace", "()Ljava/lang/Throwable;"⟩ : MethodName) ∈ lw_all := lw_in2 (List.mem_of_getElem? (i := 44) rfl) rfl
theorem kw2_46 : Cond.methodLink "java/lang/Throwable" 202 (⟨"java/lang/Throwable", "fillInStackTrace", "(I)Ljava/lang/Throwable;"⟩ : MethodName) ∈ lw_all := lw_in2 (List.mem_of_getElem? (i := 46) rfl) rfl
theorem kw2_48 : Cond.instanceMethod (⟨"java/lang/Throwable", "fillInStackTrace", "(I)Ljava/lang/Throwable;"⟩ : MethodName) ∈ lw_all := lw_in2 (List.mem_of_getElem? (i := 48) rfl) rfl
theorem kw2_49 : Cond.instantiable "java/lang/Throwable" 6 ∈ lw_all := lw_in2 (List.mem_of_getElem? (i := 49) rfl) rfl
theorem kw2_52 : Cond.methodLink RX6 73 (⟨"java/lang/IllegalStateException", "<init>", "(Ljava/lang/String;)V"⟩ : MethodName) ∈ lw_all := lw_in2 (List.mem_of_getElem? (i := 52) rfl) rfl
theorem kw2_53 : Cond.instanceMethod (⟨"java/lang/IllegalStateException", "<init>", "(Ljava/lang/String;)V"⟩ : MethodName) ∈ lw_all := lw_in2 (List.mem_of_getElem? (i := 53) rfl) rfl
theorem kw2_54 : Cond.code (⟨"java/lang/IllegalStateException", "<init>", "(Ljava/lang/String;)V"⟩ : MethodName) prog_13_method_2_code 2 none ∈ lw_all := lw_in2 (List.mem_of_getElem? (i := 54) rfl) rfl
theorem kw2_55 : Cond.methodLink "java/lang/IllegalStateException" 7 (⟨"java/lang/RuntimeException", "<init>", "(Ljava/lang/String;)V"⟩ : MethodName) ∈ lw_all := lw_in2 (List.mem_of_getElem? (i := 55) rfl) rfl
theorem kw2_56 : Cond.instanceMethod (⟨"java/lang/RuntimeException", "<init>", "(Ljava/lang/String;)V"⟩ : MethodName) ∈ lw_all := lw_in2 (List.mem_of_getElem? (i := 56) rfl) rfl
theorem kw2_57 : Cond.code (⟨"java/lang/RuntimeException", "<init>", "(Ljava/lang/String;)V"⟩ : MethodName) prog_18_method_2_code 2 none ∈ lw_all := lw_in2 (List.mem_of_getElem? (i := 57) rfl) rfl
theorem kw2_58 : Cond.methodLink "java/lang/RuntimeException" 7 (⟨"java/lang/Exception", "<init>", "(Ljava/lang/String;)V"⟩ : MethodName) ∈ lw_all := lw_in2 (List.mem_of_getElem? (i := 58) rfl) rfl
theorem kw2_59 : Cond.instanceMethod (⟨"java/lang/Exception", "<init>", "(Ljava/lang/String;)V"⟩ : MethodName) ∈ lw_all := lw_in2 (List.mem_of_getElem? (i := 59) rfl) rfl
theorem kw2_60 : Cond.code (⟨"java/lang/Exception", "<init>", "(Ljava/lang/String;)V"⟩ : MethodName) prog_11_method_2_code 2 none ∈ lw_all := lw_in2 (List.mem_of_getElem? (i := 60) rfl) rfl
theorem kw2_61 : Cond.methodLink "java/lang/Exception" 7 (⟨"java/lang/Throwable", "<init>", "(Ljava/lang/String;)V"⟩ : MethodName) ∈ lw_all := lw_in2 (List.mem_of_getElem? (i := 61) rfl) rfl
theorem kw2_62 : Cond.instanceMethod (⟨"java/lang/Throwable", "<init>", "(Ljava/lang/String;)V"⟩ : MethodName) ∈ lw_all := lw_in2 (List.mem_of_getElem? (i := 62) rfl) rfl
theorem kw2_63 : Cond.code (⟨"java/lang/Throwable", "<init>", "(Ljava/lang/String;)V"⟩ : MethodName) prog_22_method_2_code 2 none ∈ lw_all := lw_in2 (List.mem_of_getElem? (i := 63) rfl) rfl
theorem kw2_65 : Cond.fieldLink "java/lang/Throwable" 31 "java/lang/Throwable" "detailMessage" "Ljava/lang/String;" ∈ lw_all := lw_in2 (List.mem_of_getElem? (i := 65) rfl) rfl
theorem kw2_66 : Cond.fieldLink "java/lang/Throwable" 7 "java/lang/Throwable" "cause" "Ljava/lang/Throwable;" ∈ lw_all := lw_in2 (List.mem_of_getElem? (i := 66) rfl) rfl
theorem kw2_67 : Cond.fieldLink "java/lang/Throwable" 17 "java/lang/Throwable" "stackTrace" "[Ljava/lang/StackTraceElement;" ∈ lw_all := lw_in2 (List.mem_of_getElem? (i := 67) rfl) rfl
theorem kw2_68 : Cond.fieldLink "java/lang/Throwable" 24 "java/lang/Throwable" "suppressedExceptions" "Ljava/util/List;" ∈ lw_all := lw_in2 (List.mem_of_getElem? (i := 68) rfl) rfl
theorem kw2_73 : Cond.lays "java/lang/IllegalStateException" "java/lang/Throwable" "depth" "I" ∈ lw_all := lw_in2 (List.mem_of_getElem? (i := 73) rfl) rfl
theorem kw2_77 : Cond.arrayClass .byte ∈ lw_all := lw_in2 (List.mem_of_getElem? (i := 77) rfl) rfl
theorem kw2_78 : Cond.methodLink RX6 212 yX4_popInto ∈ lw_all := lw_in2 (List.mem_of_getElem? (i := 78) rfl) rfl
theorem kw2_79 : Cond.instanceMethod yX4_popInto ∈ lw_all := lw_in2 (List.mem_of_getElem? (i := 79) rfl) rfl
theorem kw2_80 : Cond.selects RX4 yX4_popInto yX4_popInto ∈ lw_all := lw_in2 (List.mem_of_getElem? (i := 80) rfl) rfl
theorem kw2_81 : Cond.code yX4_popInto cX4_popInto 3 none ∈ lw_all := lw_in2 (List.mem_of_getElem? (i := 81) rfl) rfl
theorem kw2_82 : Cond.methodLink RX4 22 yX4_slotBehindOldest ∈ lw_all := lw_in2 (List.mem_of_getElem? (i := 82) rfl) rfl
theorem kw2_84 : Cond.instanceMethod yX4_slotBehindOldest ∈ lw_all := lw_in2 (List.mem_of_getElem? (i := 84) rfl) rfl
theorem kw2_85 : Cond.code yX4_slotBehindOldest cX4_slotBehindOldest 3 (some (.object "StenoChords$State")) ∈ lw_all := lw_in2 (List.mem_of_getElem? (i := 85) rfl) rfl
theorem kw2_86 : Cond.methodLink RX4 33 yJ9_floorMod_7cf53 ∈ lw_all := lw_in2 (List.mem_of_getElem? (i := 86) rfl) rfl
theorem kw2_87 : Cond.static yJ9_floorMod_7cf53 ∈ lw_all := lw_in2 (List.mem_of_getElem? (i := 87) rfl) rfl
theorem kw2_88 : Cond.code yJ9_floorMod_7cf53 cJ9_floorMod_7cf53 3 (some .int) ∈ lw_all := lw_in2 (List.mem_of_getElem? (i := 88) rfl) rfl
theorem kw2_89 : Cond.methodLink RX4 26 yX5_become ∈ lw_all := lw_in2 (List.mem_of_getElem? (i := 89) rfl) rfl
theorem kw2_90 : Cond.methodLink RL 13 yX6_count ∈ lw_all := lw_in2 (List.mem_of_getElem? (i := 90) rfl) rfl
theorem kw2_91 : Cond.instanceMethod yX6_count ∈ lw_all := lw_in2 (List.mem_of_getElem? (i := 91) rfl) rfl
theorem kw2_92 : Cond.selects RX6 yX6_count yX6_count ∈ lw_all := lw_in2 (List.mem_of_getElem? (i := 92) rfl) rfl
theorem kw2_93 : Cond.code yX6_count cX6_count 2 (some .int) ∈ lw_all := lw_in2 (List.mem_of_getElem? (i := 93) rfl) rfl
theorem kw2_94 : Cond.classLink RX6 58 "java/lang/IllegalArgumentException" ∈ lw_all := lw_in2 (List.mem_of_getElem? (i := 94) rfl) rfl
theorem kw2_95 : Cond.instantiable "java/lang/IllegalArgumentException" 6 ∈ lw_all := lw_in2 (List.mem_of_getElem? (i := 95) rfl) rfl
theorem kw2_97 : Cond.selects "java/lang/IllegalArgumentException" (⟨"java/lang/Throwable", "fillInStackTrace", "(I)Ljava/lang/Throwable;"⟩ : MethodName) (⟨"java/lang/Throwable", "fillInStackTrace", "(I)Ljava/lang/Throwable;"⟩ : MethodName) ∈ lw_all := lw_in2 (List.mem_of_getElem? (i := 97) rfl) rfl
theorem kw2_98 : Cond.lays "java/lang/IllegalArgumentException" "java/lang/Throwable" "cause" "Ljava/lang/Throwable;" ∈ lw_all := lw_in2 (List.mem_of_getElem? (i := 98) rfl) rfl
theorem kw2_99 : Cond.lays "java/lang/IllegalArgumentException" "java/lang/Throwable" "stackTrace" "[Ljava/lang/StackTraceElement;" ∈ lw_all := lw_in2 (List.mem_of_getElem? (i := 99) rfl) rfl
theorem kw2_100 : Cond.lays "java/lang/IllegalArgumentException" "java/lang/Throwable" "suppressedExceptions" "Ljava/util/List;" ∈ lw_all := lw_in2 (List.mem_of_getElem? (i := 100) rfl) rfl
theorem kw2_101 : Cond.lays "java/lang/IllegalArgumentException" "java/lang/Throwable" "detailMessage" "Ljava/lang/String;" ∈ lw_all := lw_in2 (List.mem_of_getElem? (i := 101) rfl) rfl
theorem kw2_102 : Cond.lays "java/lang/IllegalArgumentException" "java/lang/Throwable" "backtrace" "Ljava/lang/Object;" ∈ lw_all := lw_in2 (List.mem_of_getElem? (i := 102) rfl) rfl
theorem kw2_104 : Cond.methodLink RX6 62 (⟨"java/lang/IllegalArgumentException", "<init>", "(Ljava/lang/String;)V"⟩ : MethodName) ∈ lw_all := lw_in2 (List.mem_of_getElem? (i := 104) rfl) rfl
theorem kw2_105 : Cond.instanceMethod (⟨"java/lang/IllegalArgumentException", "<init>", "(Ljava/lang/String;)V"⟩ : MethodName) ∈ lw_all := lw_in2 (List.mem_of_getElem? (i := 105) rfl) rfl
theorem kw2_106 : Cond.code (⟨"java/lang/IllegalArgumentException", "<init>", "(Ljava/lang/String;)V"⟩ : MethodName) prog_12_method_2_code 2 none ∈ lw_all := lw_in2 (List.mem_of_getElem? (i := 106) rfl) rfl
theorem kw2_107 : Cond.methodLink "java/lang/IllegalArgumentException" 7 (⟨"java/lang/RuntimeException", "<init>", "(Ljava/lang/String;)V"⟩ : MethodName) ∈ lw_all := lw_in2 (List.mem_of_getElem? (i := 107) rfl) rfl
theorem kw2_108 : Cond.lays "java/lang/IllegalArgumentException" "java/lang/Throwable" "depth" "I" ∈ lw_all := lw_in2 (List.mem_of_getElem? (i := 108) rfl) rfl
theorem kw2_110 : Cond.methodLink RX6 81 yX6_readPaper ∈ lw_all := lw_in2 (List.mem_of_getElem? (i := 110) rfl) rfl
theorem kw2_112 : Cond.instanceMethod yX6_readPaper ∈ lw_all := lw_in2 (List.mem_of_getElem? (i := 112) rfl) rfl
theorem kw2_113 : Cond.code yX6_readPaper cX6_readPaper 1 none ∈ lw_all := lw_in2 (List.mem_of_getElem? (i := 113) rfl) rfl
theorem kw2_114 : Cond.methodLink RX6 240 yX2_dropFrom ∈ lw_all := lw_in2 (List.mem_of_getElem? (i := 114) rfl) rfl
theorem kw2_115 : Cond.instanceMethod yX2_dropFrom ∈ lw_all := lw_in2 (List.mem_of_getElem? (i := 115) rfl) rfl
theorem kw2_116 : Cond.selects RX2 yX2_dropFrom yX2_dropFrom ∈ lw_all := lw_in2 (List.mem_of_getElem? (i := 116) rfl) rfl
theorem kw2_117 : Cond.code yX2_dropFrom cX2_dropFrom 3 none ∈ lw_all := lw_in2 (List.mem_of_getElem? (i := 117) rfl) rfl
theorem kw2_118 : Cond.methodLink RX2 38 yX2_size ∈ lw_all := lw_in2 (List.mem_of_getElem? (i := 118) rfl) rfl
theorem kw2_119 : Cond.instanceMethod yX2_size ∈ lw_all := lw_in2 (List.mem_of_getElem? (i := 119) rfl) rfl
theorem kw2_120 : Cond.selects RX2 yX2_size yX2_size ∈ lw_all := lw_in2 (List.mem_of_getElem? (i := 120) rfl) rfl
theorem kw2_121 : Cond.code yX2_size cX2_size 1 (some .int) ∈ lw_all := lw_in2 (List.mem_of_getElem? (i := 121) rfl) rfl
theorem kw2_122 : Cond.methodLink RX2 26 yX3_length ∈ lw_all := lw_in2 (List.mem_of_getElem? (i := 122) rfl) rfl
theorem kw2_123 : Cond.methodLink RX2 34 yX3_at ∈ lw_all := lw_in2 (List.mem_of_getElem? (i := 123) rfl) rfl
theorem kw2_124 : Cond.methodLink RX2 41 yX3_shorten ∈ lw_all := lw_in2 (List.mem_of_getElem? (i := 124) rfl) rfl
theorem kw2_125 : Cond.instanceMethod yX3_shorten ∈ lw_all := lw_in2 (List.mem_of_getElem? (i := 125) rfl) rfl
theorem kw2_126 : Cond.selects RX3 yX3_shorten yX3_shorten ∈ lw_all := lw_in2 (List.mem_of_getElem? (i := 126) rfl) rfl
theorem kw2_127 : Cond.code yX3_shorten cX3_shorten 2 none ∈ lw_all := lw_in2 (List.mem_of_getElem? (i := 127) rfl) rfl
theorem kw2_128 : Cond.methodLink RX6 243 yX2_readOn ∈ lw_all := lw_in2 (List.mem_of_getElem? (i := 128) rfl) rfl
theorem kw2_129 : Cond.instanceMethod yX2_readOn ∈ lw_all := lw_in2 (List.mem_of_getElem? (i := 129) rfl) rfl
theorem kw2_130 : Cond.selects RX2 yX2_readOn yX2_readOn ∈ lw_all := lw_in2 (List.mem_of_getElem? (i := 130) rfl) rfl
theorem kw2_131 : Cond.code yX2_readOn cX2_readOn 7 none ∈ lw_all := lw_in2 (List.mem_of_getElem? (i := 131) rfl) rfl
theorem kw2_132 : Cond.methodLink RX2 54 yX0_longestAt ∈ lw_all := lw_in2 (List.mem_of_getElem? (i := 132) rfl) rfl
theorem kw2_133 : Cond.instanceMethod yX0_longestAt ∈ lw_all := lw_in2 (List.mem_of_getElem? (i := 133) rfl) rfl
theorem kw2_134 : Cond.selects RX0 yX0_longestAt yX0_longestAt ∈ lw_all := lw_in2 (List.mem_of_getElem? (i := 134) rfl) rfl
theorem kw2_135 : Cond.code yX0_longestAt cX0_longestAt 5 (some .int) ∈ lw_all := lw_in2 (List.mem_of_getElem? (i := 135) rfl) rfl
theorem kw2_136 : Cond.methodLink RX0 38 yX3_length ∈ lw_all := lw_in2 (List.mem_of_getElem? (i := 136) rfl) rfl
theorem kw2_137 : Cond.methodLink RX0 44 yJ9_min_7cf53 ∈ lw_all := lw_in2 (List.mem_of_getElem? (i := 137) rfl) rfl
theorem kw2_138 : Cond.static yJ9_min_7cf53 ∈ lw_all := lw_in2 (List.mem_of_getElem? (i := 138) rfl) rfl
theorem kw2_139 : Cond.code yJ9_min_7cf53 Lib.Math.min.code 2 (some .int) ∈ lw_all := lw_in2 (List.mem_of_getElem? (i := 139) rfl) rfl
theorem kw2_140 : Cond.methodLink RX0 50 yX3_packed ∈ lw_all := lw_in2 (List.mem_of_getElem? (i := 140) rfl) rfl
theorem kw2_141 : Cond.instanceMethod yX3_packed ∈ lw_all := lw_in2 (List.mem_of_getElem? (i := 141) rfl) rfl
theorem kw2_142 : Cond.selects RX3 yX3_packed yX3_packed ∈ lw_all := lw_in2 (List.mem_of_getElem? (i := 142) rfl) rfl
theorem kw2_143 : Cond.code yX3_packed cX3_packed 7 (some .long) ∈ lw_all := lw_in2 (List.mem_of_getElem? (i := 143) rfl) rfl
theorem kw2_144 : Cond.methodLink RX0 54 yX0_leaderOf ∈ lw_all := lw_in2 (List.mem_of_getElem? (i := 144) rfl) rfl
theorem kw2_145 : Cond.instanceMethod yX0_leaderOf ∈ lw_all := lw_in2 (List.mem_of_getElem? (i := 145) rfl) rfl
theorem kw2_146 : Cond.selects RX0 yX0_leaderOf yX0_leaderOf ∈ lw_all := lw_in2 (List.mem_of_getElem? (i := 146) rfl) rfl
theorem kw2_147 : Cond.code yX0_leaderOf cX0_leaderOf 6 (some .int) ∈ lw_all := lw_in2 (List.mem_of_getElem? (i := 147) rfl) rfl
theorem kw2_148 : Cond.methodLink RX2 60 yJ9_max_7cf53 ∈ lw_all := lw_in2 (List.mem_of_getElem? (i := 148) rfl) rfl
theorem kw2_149 : Cond.methodLink RX2 66 yX3_put ∈ lw_all := lw_in2 (List.mem_of_getElem? (i := 149) rfl) rfl
theorem kw2_150 : Cond.methodLink RX2 69 yX3_packed ∈ lw_all := lw_in2 (List.mem_of_getElem? (i := 150) rfl) rfl
theorem kw2_151 : Cond.methodLink RX2 73 yX0_leaderOf ∈ lw_all := lw_in2 (List.mem_of_getElem? (i := 151) rfl) rfl
theorem kw2_152 : Cond.methodLink RX6 233 yX6_countNumber ∈ lw_all := lw_in2 (List.mem_of_getElem? (i := 152) rfl) rfl
theorem kw2_154 : Cond.instanceMethod yX6_countNumber ∈ lw_all := lw_in2 (List.mem_of_getElem? (i := 154) rfl) rfl
theorem kw2_155 : Cond.code yX6_countNumber cX6_countNumber 2 (some .int) ∈ lw_all := lw_in2 (List.mem_of_getElem? (i := 155) rfl) rfl
theorem kw2_156 : Cond.methodLink RX6 359 yX6_itemsStrokeByStroke ∈ lw_all := lw_in2 (List.mem_of_getElem? (i := 156) rfl) rfl
theorem kw2_158 : Cond.instanceMethod yX6_itemsStrokeByStroke ∈ lw_all := lw_in2 (List.mem_of_getElem? (i := 158) rfl) rfl
theorem kw2_159 : Cond.code yX6_itemsStrokeByStroke cX6_itemsStrokeByStroke 2 (some .int) ∈ lw_all := lw_in2 (List.mem_of_getElem? (i := 159) rfl) rfl
theorem kw2_160 : Cond.methodLink RX6 107 yX3_shorten ∈ lw_all := lw_in2 (List.mem_of_getElem? (i := 160) rfl) rfl
theorem kw2_161 : Cond.methodLink RX6 97 yX3_at ∈ lw_all := lw_in2 (List.mem_of_getElem? (i := 161) rfl) rfl
theorem kw2_162 : Cond.methodLink RX6 239 yX3_put ∈ lw_all := lw_in2 (List.mem_of_getElem? (i := 162) rfl) rfl
theorem kw2_163 : Cond.methodLink RX6 84 yX2_size ∈ lw_all := lw_in2 (List.mem_of_getElem? (i := 163) rfl) rfl
theorem kw2_164 : Cond.methodLink RX6 274 yX6_rawItems ∈ lw_all := lw_in2 (List.mem_of_getElem? (i := 164) rfl) rfl
theorem kw2_166 : Cond.instanceMethod yX6_rawItems ∈ lw_all := lw_in2 (List.mem_of_getElem? (i := 166) rfl) rfl
theorem kw2_167 : Cond.code yX6_rawItems cX6_rawItems 1 (some .int) ∈ lw_all := lw_in2 (List.mem_of_getElem? (i := 167) rfl) rfl
theorem kw2_168 : Cond.methodLink RX6 352 yX2_itemsOf ∈ lw_all := lw_in2 (List.mem_of_getElem? (i := 168) rfl) rfl
theorem kw2_169 : Cond.instanceMethod yX2_itemsOf ∈ lw_all := lw_in2 (List.mem_of_getElem? (i := 169) rfl) rfl
theorem kw2_170 : Cond.selects RX2 yX2_itemsOf yX2_itemsOf ∈ lw_all := lw_in2 (List.mem_of_getElem? (i := 170) rfl) rfl
theorem kw2_171 : Cond.code yX2_itemsOf cX2_itemsOf 4 (some .int) ∈ lw_all := lw_in2 (List.mem_of_getElem? (i := 171) rfl) rfl
theorem kw2_172 : Cond.methodLink RX6 165 yX0_size ∈ lw_all := lw_in2 (List.mem_of_getElem? (i := 172) rfl) rfl
theorem kw2_173 : Cond.instanceMethod yX0_size ∈ lw_all := lw_in2 (List.mem_of_getElem? (i := 173) rfl) rfl
theorem kw2_174 : Cond.selects RX0 yX0_size yX0_size ∈ lw_all := lw_in2 (List.mem_of_getElem? (i := 174) rfl) rfl
theorem kw2_175 : Cond.code yX0_size cX0_size 1 (some .int) ∈ lw_all := lw_in2 (List.mem_of_getElem? (i := 175) rfl) rfl
theorem kw2_176 : Cond.methodLink RL 116 yL_cell ∈ lw_all := lw_in2 (List.mem_of_getElem? (i := 176) rfl) rfl
theorem kw2_177 : Cond.static yL_cell ∈ lw_all := lw_in2 (List.mem_of_getElem? (i := 177) rfl) rfl
theorem kw2_178 : Cond.code yL_cell cL_cell 2 (some .int) ∈ lw_all := lw_in2 (List.mem_of_getElem? (i := 178) rfl) rfl
theorem kw2_179 : Cond.constant RL 7 1812433253 ∈ lw_all := lw_in2 (List.mem_of_getElem? (i := 179) rfl) rfl
theorem kw2_180 : Cond.methodLink RL 33 yL_up ∈ lw_all := lw_in2 (List.mem_of_getElem? (i := 180) rfl) rfl
theorem kw2_181 : Cond.static yL_up ∈ lw_all := lw_in2 (List.mem_of_getElem? (i := 181) rfl) rfl
theorem kw2_182 : Cond.code yL_up cL_up 2 (some .int) ∈ lw_all := lw_in2 (List.mem_of_getElem? (i := 182) rfl) rfl
theorem kw2_183 : Cond.constant RL 8 2147483647 ∈ lw_all := lw_in2 (List.mem_of_getElem? (i := 183) rfl) rfl
theorem kw2_184 : Cond.methodLink RL 120 yL_looks ∈ lw_all := lw_in2 (List.mem_of_getElem? (i := 184) rfl) rfl
theorem kw2_185 : Cond.static yL_looks ∈ lw_all := lw_in2 (List.mem_of_getElem? (i := 185) rfl) rfl
theorem kw2_186 : Cond.code yL_looks cL_looks 4 (some .long) ∈ lw_all := lw_in2 (List.mem_of_getElem? (i := 186) rfl) rfl
theorem kw2_187 : Cond.constantLong RL 9 73 ∈ lw_all := lw_in2 (List.mem_of_getElem? (i := 187) rfl) rfl
theorem kw2_188 : Cond.constantLong RL 11 31 ∈ lw_all := lw_in2 (List.mem_of_getElem? (i := 188) rfl) rfl
theorem kw2_189 : Cond.methodLink RL 19 yX6_stroke ∈ lw_all := lw_in2 (List.mem_of_getElem? (i := 189) rfl) rfl
theorem kw2_190 : Cond.instanceMethod yX6_stroke ∈ lw_all := lw_in2 (List.mem_of_getElem? (i := 190) rfl) rfl
theorem kw2_191 : Cond.selects RX6 yX6_stroke yX6_stroke ∈ lw_all := lw_in2 (List.mem_of_getElem? (i := 191) rfl) rfl
theorem kw2_192 : Cond.code yX6_stroke cX6_stroke 2 (some .int) ∈ lw_all := lw_in2 (List.mem_of_getElem? (i := 192) rfl) rfl
theorem kw2_193 : Cond.methodLink RX6 215 yX3_has ∈ lw_all := lw_in2 (List.mem_of_getElem? (i := 193) rfl) rfl
theorem kw2_194 : Cond.classLink RX6 120 "java/lang/IndexOutOfBoundsException" ∈ lw_all := lw_in2 (List.mem_of_getElem? (i := 194) rfl) rfl
theorem kw2_195 : Cond.instantiable "java/lang/IndexOutOfBoundsException" 6 ∈ lw_all := lw_in2 (List.mem_of_getElem? (i := 195) rfl) rfl
theorem kw2_197 : Cond.selects "java/lang/IndexOutOfBoundsException" (⟨"java/lang/Throwable", "fillInStackTrace", "(I)Ljava/lang/Throwable;"⟩ : MethodName) (⟨"java/lang/Throwable", "fillInStackTrace", "(I)Ljava/lang/Throwable;"⟩ : MethodName) ∈ lw_all := lw_in2 (List.mem_of_getElem? (i := 197) rfl) rfl
theorem kw2_198 : Cond.lays "java/lang/IndexOutOfBoundsException" "java/lang/Throwable" "cause" "Ljava/lang/Throwable;" ∈ lw_all := lw_in2 (List.mem_of_getElem? (i := 198) rfl) rfl
theorem kw2_199 : Cond.lays "java/lang/IndexOutOfBoundsException" "java/lang/Throwable" "stackTrace" "[Ljava/lang/StackTraceElement;" ∈ lw_all := lw_in2 (List.mem_of_getElem? (i := 199) rfl) rfl
theorem kw2_200 : Cond.lays "java/lang/IndexOutOfBoundsException" "java/lang/Throwable" "suppressedExceptions" "Ljava/util/List;" ∈ lw_all := lw_in2 (List.mem_of_getElem? (i := 200) rfl) rfl
theorem kw2_201 : Cond.lays "java/lang/IndexOutOfBoundsException" "java/lang/Throwable" "detailMessage" "Ljava/lang/String;" ∈ lw_all := lw_in2 (List.mem_of_getElem? (i := 201) rfl) rfl
theorem kw2_202 : Cond.lays "java/lang/IndexOutOfBoundsException" "java/lang/Throwable" "backtrace" "Ljava/lang/Object;" ∈ lw_all := lw_in2 (List.mem_of_getElem? (i := 202) rfl) rfl
theorem kw2_204 : Cond.methodLink RX6 124 (⟨"java/lang/IndexOutOfBoundsException", "<init>", "(Ljava/lang/String;)V"⟩ : MethodName) ∈ lw_all := lw_in2 (List.mem_of_getElem? (i := 204) rfl) rfl
theorem kw2_205 : Cond.instanceMethod (⟨"java/lang/IndexOutOfBoundsException", "<init>", "(Ljava/lang/String;)V"⟩ : MethodName) ∈ lw_all := lw_in2 (List.mem_of_getElem? (i := 205) rfl) rfl
theorem kw2_206 : Cond.code (⟨"java/lang/IndexOutOfBoundsException", "<init>", "(Ljava/lang/String;)V"⟩ : MethodName) prog_14_method_2_code 2 none ∈ lw_all := lw_in2 (List.mem_of_getElem? (i := 206) rfl) rfl
theorem kw2_207 : Cond.methodLink "java/lang/IndexOutOfBoundsException" 7 (⟨"java/lang/RuntimeException", "<init>", "(Ljava/lang/String;)V"⟩ : MethodName) ∈ lw_all := lw_in2 (List.mem_of_getElem? (i := 207) rfl) rfl
theorem kw2_208 : Cond.lays "java/lang/IndexOutOfBoundsException" "java/lang/Throwable" "depth" "I" ∈ lw_all := lw_in2 (List.mem_of_getElem? (i := 208) rfl) rfl
theorem kw2_210 : Cond.methodLink RL 22 yX6_entry ∈ lw_all := lw_in2 (List.mem_of_getElem? (i := 210) rfl) rfl
theorem kw2_211 : Cond.instanceMethod yX6_entry ∈ lw_all := lw_in2 (List.mem_of_getElem? (i := 211) rfl) rfl
theorem kw2_212 : Cond.selects RX6 yX6_entry yX6_entry ∈ lw_all := lw_in2 (List.mem_of_getElem? (i := 212) rfl) rfl
theorem kw2_213 : Cond.code yX6_entry cX6_entry 3 (some .int) ∈ lw_all := lw_in2 (List.mem_of_getElem? (i := 213) rfl) rfl
theorem kw2_214 : Cond.methodLink RX6 117 yX0_has ∈ lw_all := lw_in2 (List.mem_of_getElem? (i := 214) rfl) rfl
theorem kw2_217 : Cond.methodLink RX6 228 yX6_entryNumber ∈ lw_all := lw_in2 (List.mem_of_getElem? (i := 217) rfl) rfl
theorem kw2_219 : Cond.instanceMethod yX6_entryNumber ∈ lw_all := lw_in2 (List.mem_of_getElem? (i := 219) rfl) rfl
theorem kw2_220 : Cond.code yX6_entryNumber cX6_entryNumber 6 (some .int) ∈ lw_all := lw_in2 (List.mem_of_getElem? (i := 220) rfl) rfl
theorem kw2_221 : Cond.methodLink RX6 129 yX0_rowOf ∈ lw_all := lw_in2 (List.mem_of_getElem? (i := 221) rfl) rfl
theorem kw2_222 : Cond.methodLink RX6 250 yX0_wordOf ∈ lw_all := lw_in2 (List.mem_of_getElem? (i := 222) rfl) rfl
theorem kw2_223 : Cond.methodLink RX6 346 yX6_strokesOf ∈ lw_all := lw_in2 (List.mem_of_getElem? (i := 223) rfl) rfl
theorem kw2_224 : Cond.static yX6_strokesOf ∈ lw_all := lw_in2 (List.mem_of_getElem? (i := 224) rfl) rfl
theorem kw2_225 : Cond.code yX6_strokesOf cX6_strokesOf 4 (some .int) ∈ lw_all := lw_in2 (List.mem_of_getElem? (i := 225) rfl) rfl
theorem kw2_226 : Cond.methodLink RX6 339 yX6_strokeOf ∈ lw_all := lw_in2 (List.mem_of_getElem? (i := 226) rfl) rfl
theorem kw2_227 : Cond.static yX6_strokeOf ∈ lw_all := lw_in2 (List.mem_of_getElem? (i := 227) rfl) rfl
theorem kw2_228 : Cond.code yX6_strokeOf cX6_strokeOf 3 (some .int) ∈ lw_all := lw_in2 (List.mem_of_getElem? (i := 228) rfl) rfl
theorem kw2_229 : Cond.methodLink RX6 137 yX0_picksOf ∈ lw_all := lw_in2 (List.mem_of_getElem? (i := 229) rfl) rfl
theorem kw2_230 : Cond.methodLink RX6 349 yX0_leaderOf ∈ lw_all := lw_in2 (List.mem_of_getElem? (i := 230) rfl) rfl
theorem kw2_231 : Cond.methodLink RX6 355 yJ13_bitCount_95d88 ∈ lw_all := lw_in2 (List.mem_of_getElem? (i := 231) rfl) rfl
theorem kw2_232 : Cond.static yJ13_bitCount_95d88 ∈ lw_all := lw_in2 (List.mem_of_getElem? (i := 232) rfl) rfl
theorem kw2_233 : Cond.code yJ13_bitCount_95d88 cJ13_bitCount_95d88 2 (some .int) ∈ lw_all := lw_in2 (List.mem_of_getElem? (i := 233) rfl) rfl
theorem kw2_234 : Cond.constantLong RJ13 314 6148914691236517205 ∈ lw_all := lw_in2 (List.mem_of_getElem? (i := 234) rfl) rfl
theorem kw2_235 : Cond.constantLong RJ13 316 3689348814741910323 ∈ lw_all := lw_in2 (List.mem_of_getElem? (i := 235) rfl) rfl
theorem kw2_236 : Cond.constantLong RJ13 318 1085102592571150095 ∈ lw_all := lw_in2 (List.mem_of_getElem? (i := 236) rfl) rfl
theorem kw2_237 : Cond.methodLink RL 26 yX6_setting ∈ lw_all := lw_in2 (List.mem_of_getElem? (i := 237) rfl) rfl
theorem kw2_238 : Cond.instanceMethod yX6_setting ∈ lw_all := lw_in2 (List.mem_of_getElem? (i := 238) rfl) rfl
theorem kw2_239 : Cond.selects RX6 yX6_setting yX6_setting ∈ lw_all := lw_in2 (List.mem_of_getElem? (i := 239) rfl) rfl
theorem kw3_0 : Cond.code yX6_setting cX6_setting 2 (some .int) ∈ lw_all := lw_in3 (List.mem_of_getElem? (i := 0) rfl) rfl
theorem kw3_2 : Cond.methodLink RX6 179 yX6_settingNumber ∈ lw_all := lw_in3 (List.mem_of_getElem? (i := 2) rfl) rfl
theorem kw3_4 : Cond.instanceMethod yX6_settingNumber ∈ lw_all := lw_in3 (List.mem_of_getElem? (i := 4) rfl) rfl
theorem kw3_5 : Cond.code yX6_settingNumber cX6_settingNumber 2 (some .int) ∈ lw_all := lw_in3 (List.mem_of_getElem? (i := 5) rfl) rfl
theorem kw3_6 : Cond.methodLink RL 112 yL_isRead ∈ lw_all := lw_in3 (List.mem_of_getElem? (i := 6) rfl) rfl
theorem kw3_7 : Cond.static yL_isRead ∈ lw_all := lw_in3 (List.mem_of_getElem? (i := 7) rfl) rfl
theorem kw3_8 : Cond.code yL_isRead cL_isRead 10 (some .boolean) ∈ lw_all := lw_in3 (List.mem_of_getElem? (i := 8) rfl) rfl
theorem kw3_9 : Cond.methodLink RL 41 yX6_item ∈ lw_all := lw_in3 (List.mem_of_getElem? (i := 9) rfl) rfl
theorem kw3_10 : Cond.instanceMethod yX6_item ∈ lw_all := lw_in3 (List.mem_of_getElem? (i := 10) rfl) rfl
theorem kw3_11 : Cond.selects RX6 yX6_item yX6_item ∈ lw_all := lw_in3 (List.mem_of_getElem? (i := 11) rfl) rfl
theorem kw3_12 : Cond.code yX6_item cX6_item 3 (some .int) ∈ lw_all := lw_in3 (List.mem_of_getElem? (i := 12) rfl) rfl
theorem kw3_13 : Cond.methodLink RX6 110 yX2_has ∈ lw_all := lw_in3 (List.mem_of_getElem? (i := 13) rfl) rfl
theorem kw3_14 : Cond.instanceMethod yX2_has ∈ lw_all := lw_in3 (List.mem_of_getElem? (i := 14) rfl) rfl
theorem kw3_15 : Cond.selects RX2 yX2_has yX2_has ∈ lw_all := lw_in3 (List.mem_of_getElem? (i := 15) rfl) rfl
theorem kw3_16 : Cond.code yX2_has cX2_has 2 (some .boolean) ∈ lw_all := lw_in3 (List.mem_of_getElem? (i := 16) rfl) rfl
theorem kw3_17 : Cond.methodLink RX2 30 yX3_has ∈ lw_all := lw_in3 (List.mem_of_getElem? (i := 17) rfl) rfl
theorem kw3_20 : Cond.methodLink RX6 222 yX6_itemNumber ∈ lw_all := lw_in3 (List.mem_of_getElem? (i := 20) rfl) rfl
theorem kw3_22 : Cond.instanceMethod yX6_itemNumber ∈ lw_all := lw_in3 (List.mem_of_getElem? (i := 22) rfl) rfl
theorem kw3_23 : Cond.code yX6_itemNumber cX6_itemNumber 3 (some .int) ∈ lw_all := lw_in3 (List.mem_of_getElem? (i := 23) rfl) rfl
theorem kw3_24 : Cond.methodLink RX6 247 yX2_leaderAt ∈ lw_all := lw_in3 (List.mem_of_getElem? (i := 24) rfl) rfl
theorem kw3_25 : Cond.instanceMethod yX2_leaderAt ∈ lw_all := lw_in3 (List.mem_of_getElem? (i := 25) rfl) rfl
theorem kw3_26 : Cond.selects RX2 yX2_leaderAt yX2_leaderAt ∈ lw_all := lw_in3 (List.mem_of_getElem? (i := 26) rfl) rfl
theorem kw3_27 : Cond.code yX2_leaderAt cX2_leaderAt 2 (some .int) ∈ lw_all := lw_in3 (List.mem_of_getElem? (i := 27) rfl) rfl
theorem kw3_28 : Cond.methodLink RX6 330 yX2_placeAt ∈ lw_all := lw_in3 (List.mem_of_getElem? (i := 28) rfl) rfl
theorem kw3_29 : Cond.instanceMethod yX2_placeAt ∈ lw_all := lw_in3 (List.mem_of_getElem? (i := 29) rfl) rfl
theorem kw3_30 : Cond.selects RX2 yX2_placeAt yX2_placeAt ∈ lw_all := lw_in3 (List.mem_of_getElem? (i := 30) rfl) rfl
theorem kw3_31 : Cond.code yX2_placeAt cX2_placeAt 2 (some .int) ∈ lw_all := lw_in3 (List.mem_of_getElem? (i := 31) rfl) rfl
theorem kw3_32 : Cond.methodLink RX6 253 yX2_lengthAt ∈ lw_all := lw_in3 (List.mem_of_getElem? (i := 32) rfl) rfl
theorem kw3_33 : Cond.instanceMethod yX2_lengthAt ∈ lw_all := lw_in3 (List.mem_of_getElem? (i := 33) rfl) rfl
theorem kw3_34 : Cond.selects RX2 yX2_lengthAt yX2_lengthAt ∈ lw_all := lw_in3 (List.mem_of_getElem? (i := 34) rfl) rfl
theorem kw3_35 : Cond.code yX2_lengthAt cX2_lengthAt 2 (some .int) ∈ lw_all := lw_in3 (List.mem_of_getElem? (i := 35) rfl) rfl
theorem kw3_36 : Cond.methodLink RX6 125 yX6_rowOfItem ∈ lw_all := lw_in3 (List.mem_of_getElem? (i := 36) rfl) rfl
theorem kw3_38 : Cond.instanceMethod yX6_rowOfItem ∈ lw_all := lw_in3 (List.mem_of_getElem? (i := 38) rfl) rfl
theorem kw3_39 : Cond.code yX6_rowOfItem cX6_rowOfItem 2 (some .long) ∈ lw_all := lw_in3 (List.mem_of_getElem? (i := 39) rfl) rfl
theorem kw3_40 : Cond.methodLink RX6 147 yX3_packed ∈ lw_all := lw_in3 (List.mem_of_getElem? (i := 40) rfl) rfl
theorem kw3_41 : Cond.methodLink RX6 342 yX0_rivals ∈ lw_all := lw_in3 (List.mem_of_getElem? (i := 41) rfl) rfl
theorem kw3_42 : Cond.instanceMethod yX0_rivals ∈ lw_all := lw_in3 (List.mem_of_getElem? (i := 42) rfl) rfl
theorem kw3_43 : Cond.selects RX0 yX0_rivals yX0_rivals ∈ lw_all := lw_in3 (List.mem_of_getElem? (i := 43) rfl) rfl
theorem kw3_44 : Cond.code yX0_rivals cX0_rivals 5 (some .int) ∈ lw_all := lw_in3 (List.mem_of_getElem? (i := 44) rfl) rfl
theorem kw3_45 : Cond.methodLink RL 44 yL_isOn ∈ lw_all := lw_in3 (List.mem_of_getElem? (i := 45) rfl) rfl
theorem kw3_46 : Cond.static yL_isOn ∈ lw_all := lw_in3 (List.mem_of_getElem? (i := 46) rfl) rfl
theorem kw3_47 : Cond.code yL_isOn cL_isOn 6 (some .boolean) ∈ lw_all := lw_in3 (List.mem_of_getElem? (i := 47) rfl) rfl
theorem kw3_48 : Cond.methodLink RL 48 yX6_least ∈ lw_all := lw_in3 (List.mem_of_getElem? (i := 48) rfl) rfl
theorem kw3_49 : Cond.instanceMethod yX6_least ∈ lw_all := lw_in3 (List.mem_of_getElem? (i := 49) rfl) rfl
theorem kw3_50 : Cond.selects RX6 yX6_least yX6_least ∈ lw_all := lw_in3 (List.mem_of_getElem? (i := 50) rfl) rfl
theorem kw3_51 : Cond.code yX6_least cX6_least 2 (some .int) ∈ lw_all := lw_in3 (List.mem_of_getElem? (i := 51) rfl) rfl
theorem kw3_52 : Cond.methodLink RX6 271 yX6_fewestUpTo ∈ lw_all := lw_in3 (List.mem_of_getElem? (i := 52) rfl) rfl
theorem kw3_54 : Cond.instanceMethod yX6_fewestUpTo ∈ lw_all := lw_in3 (List.mem_of_getElem? (i := 54) rfl) rfl
theorem kw3_55 : Cond.code yX6_fewestUpTo cX6_fewestUpTo 6 (some .int) ∈ lw_all := lw_in3 (List.mem_of_getElem? (i := 55) rfl) rfl
theorem kw3_56 : Cond.methodLink RX6 370 yJ9_min_7cf53 ∈ lw_all := lw_in3 (List.mem_of_getElem? (i := 56) rfl) rfl
theorem kw3_57 : Cond.methodLink RL 130 yL_areEntries ∈ lw_all := lw_in3 (List.mem_of_getElem? (i := 57) rfl) rfl
theorem kw3_58 : Cond.static yL_areEntries ∈ lw_all := lw_in3 (List.mem_of_getElem? (i := 58) rfl) rfl
theorem kw3_59 : Cond.code yL_areEntries cL_areEntries 7 (some .boolean) ∈ lw_all := lw_in3 (List.mem_of_getElem? (i := 59) rfl) rfl
theorem kw3_60 : Cond.methodLink RL 51 yX6_readShare ∈ lw_all := lw_in3 (List.mem_of_getElem? (i := 60) rfl) rfl
theorem kw3_61 : Cond.instanceMethod yX6_readShare ∈ lw_all := lw_in3 (List.mem_of_getElem? (i := 61) rfl) rfl
theorem kw3_62 : Cond.selects RX6 yX6_readShare yX6_readShare ∈ lw_all := lw_in3 (List.mem_of_getElem? (i := 62) rfl) rfl
theorem kw3_63 : Cond.code yX6_readShare cX6_readShare 2 (some .double) ∈ lw_all := lw_in3 (List.mem_of_getElem? (i := 63) rfl) rfl
theorem kw3_64 : Cond.methodLink RL 55 yX6_meanKeys ∈ lw_all := lw_in3 (List.mem_of_getElem? (i := 64) rfl) rfl
theorem kw3_65 : Cond.instanceMethod yX6_meanKeys ∈ lw_all := lw_in3 (List.mem_of_getElem? (i := 65) rfl) rfl
theorem kw3_66 : Cond.selects RX6 yX6_meanKeys yX6_meanKeys ∈ lw_all := lw_in3 (List.mem_of_getElem? (i := 66) rfl) rfl
theorem kw3_67 : Cond.code yX6_meanKeys cX6_meanKeys 1 (some .float) ∈ lw_all := lw_in3 (List.mem_of_getElem? (i := 67) rfl) rfl
theorem kw3_68 : Cond.constantFloat RL 59 1092616192 ∈ lw_all := lw_in3 (List.mem_of_getElem? (i := 68) rfl) rfl
theorem kw3_69 : Cond.methodLink RL 60 yX6_shortest ∈ lw_all := lw_in3 (List.mem_of_getElem? (i := 69) rfl) rfl
theorem kw3_70 : Cond.instanceMethod yX6_shortest ∈ lw_all := lw_in3 (List.mem_of_getElem? (i := 70) rfl) rfl
theorem kw3_71 : Cond.selects RX6 yX6_shortest yX6_shortest ∈ lw_all := lw_in3 (List.mem_of_getElem? (i := 71) rfl) rfl
theorem kw3_72 : Cond.code yX6_shortest cX6_shortest 4 (some .int) ∈ lw_all := lw_in3 (List.mem_of_getElem? (i := 72) rfl) rfl
theorem kw3_74 : Cond.methodLink RX6 262 yX6_canTell ∈ lw_all := lw_in3 (List.mem_of_getElem? (i := 74) rfl) rfl
theorem kw3_76 : Cond.instanceMethod yX6_canTell ∈ lw_all := lw_in3 (List.mem_of_getElem? (i := 76) rfl) rfl
theorem kw3_77 : Cond.code yX6_canTell cX6_canTell 5 (some .boolean) ∈ lw_all := lw_in3 (List.mem_of_getElem? (i := 77) rfl) rfl
theorem kw3_78 : Cond.methodLink RX6 265 yX6_isShorter ∈ lw_all := lw_in3 (List.mem_of_getElem? (i := 78) rfl) rfl
theorem kw3_80 : Cond.instanceMethod yX6_isShorter ∈ lw_all := lw_in3 (List.mem_of_getElem? (i := 80) rfl) rfl
theorem kw3_81 : Cond.code yX6_isShorter cX6_isShorter 9 (some .boolean) ∈ lw_all := lw_in3 (List.mem_of_getElem? (i := 81) rfl) rfl
theorem kw3_82 : Cond.methodLink RL 133 yL_areBegun ∈ lw_all := lw_in3 (List.mem_of_getElem? (i := 82) rfl) rfl
theorem kw3_83 : Cond.static yL_areBegun ∈ lw_all := lw_in3 (List.mem_of_getElem? (i := 83) rfl) rfl
theorem kw3_84 : Cond.code yL_areBegun cL_areBegun 6 (some .boolean) ∈ lw_all := lw_in3 (List.mem_of_getElem? (i := 84) rfl) rfl
theorem kw3_85 : Cond.methodLink RL 63 yX6_begun ∈ lw_all := lw_in3 (List.mem_of_getElem? (i := 85) rfl) rfl
theorem kw3_86 : Cond.instanceMethod yX6_begun ∈ lw_all := lw_in3 (List.mem_of_getElem? (i := 86) rfl) rfl
theorem kw3_87 : Cond.selects RX6 yX6_begun yX6_begun ∈ lw_all := lw_in3 (List.mem_of_getElem? (i := 87) rfl) rfl
theorem kw3_88 : Cond.code yX6_begun cX6_begun 3 (some .int) ∈ lw_all := lw_in3 (List.mem_of_getElem? (i := 88) rfl) rfl
theorem kw3_90 : Cond.methodLink RX6 258 yX0_longerThan ∈ lw_all := lw_in3 (List.mem_of_getElem? (i := 90) rfl) rfl
theorem kw3_91 : Cond.instanceMethod yX0_longerThan ∈ lw_all := lw_in3 (List.mem_of_getElem? (i := 91) rfl) rfl
theorem kw3_92 : Cond.selects RX0 yX0_longerThan yX0_longerThan ∈ lw_all := lw_in3 (List.mem_of_getElem? (i := 92) rfl) rfl
theorem kw3_93 : Cond.code yX0_longerThan cX0_longerThan 10 (some .int) ∈ lw_all := lw_in3 (List.mem_of_getElem? (i := 93) rfl) rfl
theorem kw3_94 : Cond.methodLink RL 66 yX6_clashes ∈ lw_all := lw_in3 (List.mem_of_getElem? (i := 94) rfl) rfl
theorem kw3_95 : Cond.instanceMethod yX6_clashes ∈ lw_all := lw_in3 (List.mem_of_getElem? (i := 95) rfl) rfl
theorem kw3_96 : Cond.selects RX6 yX6_clashes yX6_clashes ∈ lw_all := lw_in3 (List.mem_of_getElem? (i := 96) rfl) rfl
theorem kw3_97 : Cond.code yX6_clashes cX6_clashes 4 (some .int) ∈ lw_all := lw_in3 (List.mem_of_getElem? (i := 97) rfl) rfl
theorem kw3_98 : Cond.methodLink RX6 268 yX6_readBehind ∈ lw_all := lw_in3 (List.mem_of_getElem? (i := 98) rfl) rfl
theorem kw3_100 : Cond.instanceMethod yX6_readBehind ∈ lw_all := lw_in3 (List.mem_of_getElem? (i := 100) rfl) rfl
theorem kw3_101 : Cond.code yX6_readBehind cX6_readBehind 7 (some .int) ∈ lw_all := lw_in3 (List.mem_of_getElem? (i := 101) rfl) rfl
theorem kw3_102 : Cond.methodLink RX6 362 yX6_putRow ∈ lw_all := lw_in3 (List.mem_of_getElem? (i := 102) rfl) rfl
theorem kw3_104 : Cond.instanceMethod yX6_putRow ∈ lw_all := lw_in3 (List.mem_of_getElem? (i := 104) rfl) rfl
theorem kw3_105 : Cond.code yX6_putRow cX6_putRow 5 none ∈ lw_all := lw_in3 (List.mem_of_getElem? (i := 105) rfl) rfl
theorem kw3_106 : Cond.methodLink RX6 366 yX0_longestAt ∈ lw_all := lw_in3 (List.mem_of_getElem? (i := 106) rfl) rfl
theorem kw3_107 : Cond.methodLink RL 69 yX6_behind ∈ lw_all := lw_in3 (List.mem_of_getElem? (i := 107) rfl) rfl
theorem kw3_108 : Cond.instanceMethod yX6_behind ∈ lw_all := lw_in3 (List.mem_of_getElem? (i := 108) rfl) rfl
theorem kw3_109 : Cond.selects RX6 yX6_behind yX6_behind ∈ lw_all := lw_in3 (List.mem_of_getElem? (i := 109) rfl) rfl
theorem kw3_110 : Cond.code yX6_behind cX6_behind 3 (some .int) ∈ lw_all := lw_in3 (List.mem_of_getElem? (i := 110) rfl) rfl
theorem kw3_111 : Cond.methodLink RL 124 yL_acts ∈ lw_all := lw_in3 (List.mem_of_getElem? (i := 111) rfl) rfl
theorem kw3_112 : Cond.static yL_acts ∈ lw_all := lw_in3 (List.mem_of_getElem? (i := 112) rfl) rfl
theorem kw3_113 : Cond.code yL_acts cL_acts 9 (some .boolean) ∈ lw_all := lw_in3 (List.mem_of_getElem? (i := 113) rfl) rfl
theorem kw3_114 : Cond.methodLink RL 78 yL_isEntry ∈ lw_all := lw_in3 (List.mem_of_getElem? (i := 114) rfl) rfl
theorem kw3_115 : Cond.static yL_isEntry ∈ lw_all := lw_in3 (List.mem_of_getElem? (i := 115) rfl) rfl
theorem kw3_116 : Cond.code yL_isEntry cL_isEntry 8 (some .boolean) ∈ lw_all := lw_in3 (List.mem_of_getElem? (i := 116) rfl) rfl
theorem kw3_117 : Cond.methodLink RL 82 yX6_set ∈ lw_all := lw_in3 (List.mem_of_getElem? (i := 117) rfl) rfl
theorem kw3_118 : Cond.instanceMethod yX6_set ∈ lw_all := lw_in3 (List.mem_of_getElem? (i := 118) rfl) rfl
theorem kw3_119 : Cond.selects RX6 yX6_set yX6_set ∈ lw_all := lw_in3 (List.mem_of_getElem? (i := 119) rfl) rfl
theorem kw3_120 : Cond.code yX6_set cX6_set 4 (some .int) ∈ lw_all := lw_in3 (List.mem_of_getElem? (i := 120) rfl) rfl
theorem kw3_121 : Cond.methodLink RX6 173 yX6_canBeSet ∈ lw_all := lw_in3 (List.mem_of_getElem? (i := 121) rfl) rfl
theorem kw3_122 : Cond.static yX6_canBeSet ∈ lw_all := lw_in3 (List.mem_of_getElem? (i := 122) rfl) rfl
theorem kw3_123 : Cond.code yX6_canBeSet cX6_canBeSet 2 (some .boolean) ∈ lw_all := lw_in3 (List.mem_of_getElem? (i := 123) rfl) rfl
theorem kw3_125 : Cond.methodLink RX6 74 yX4_push ∈ lw_all := lw_in3 (List.mem_of_getElem? (i := 125) rfl) rfl
theorem kw3_126 : Cond.instanceMethod yX4_push ∈ lw_all := lw_in3 (List.mem_of_getElem? (i := 126) rfl) rfl
theorem kw3_127 : Cond.selects RX4 yX4_push yX4_push ∈ lw_all := lw_in3 (List.mem_of_getElem? (i := 127) rfl) rfl
theorem kw3_128 : Cond.code yX4_push cX4_push 3 none ∈ lw_all := lw_in3 (List.mem_of_getElem? (i := 128) rfl) rfl
theorem kw3_129 : Cond.methodLink RL 85 yL_types ∈ lw_all := lw_in3 (List.mem_of_getElem? (i := 129) rfl) rfl
theorem kw3_130 : Cond.static yL_types ∈ lw_all := lw_in3 (List.mem_of_getElem? (i := 130) rfl) rfl
theorem kw3_131 : Cond.code yL_types cL_types 6 (some .int) ∈ lw_all := lw_in3 (List.mem_of_getElem? (i := 131) rfl) rfl
theorem kw3_132 : Cond.methodLink RL 29 yX6_clearBuffer ∈ lw_all := lw_in3 (List.mem_of_getElem? (i := 132) rfl) rfl
theorem kw3_133 : Cond.instanceMethod yX6_clearBuffer ∈ lw_all := lw_in3 (List.mem_of_getElem? (i := 133) rfl) rfl
theorem kw3_134 : Cond.selects RX6 yX6_clearBuffer yX6_clearBuffer ∈ lw_all := lw_in3 (List.mem_of_getElem? (i := 134) rfl) rfl
theorem kw3_135 : Cond.code yX6_clearBuffer cX6_clearBuffer 2 (some .int) ∈ lw_all := lw_in3 (List.mem_of_getElem? (i := 135) rfl) rfl
theorem kw3_136 : Cond.methodLink RX6 196 yX1_length ∈ lw_all := lw_in3 (List.mem_of_getElem? (i := 136) rfl) rfl
theorem kw3_137 : Cond.instanceMethod yX1_length ∈ lw_all := lw_in3 (List.mem_of_getElem? (i := 137) rfl) rfl
theorem kw3_138 : Cond.selects RX1 yX1_length yX1_length ∈ lw_all := lw_in3 (List.mem_of_getElem? (i := 138) rfl) rfl
theorem kw3_139 : Cond.code yX1_length cX1_length 1 (some .int) ∈ lw_all := lw_in3 (List.mem_of_getElem? (i := 139) rfl) rfl
theorem kw3_140 : Cond.methodLink RX1 20 yX3_length ∈ lw_all := lw_in3 (List.mem_of_getElem? (i := 140) rfl) rfl
theorem kw3_141 : Cond.methodLink RX6 101 yX1_wipe ∈ lw_all := lw_in3 (List.mem_of_getElem? (i := 141) rfl) rfl
theorem kw3_142 : Cond.instanceMethod yX1_wipe ∈ lw_all := lw_in3 (List.mem_of_getElem? (i := 142) rfl) rfl
theorem kw3_143 : Cond.selects RX1 yX1_wipe yX1_wipe ∈ lw_all := lw_in3 (List.mem_of_getElem? (i := 143) rfl) rfl
theorem kw3_144 : Cond.code yX1_wipe cX1_wipe 1 none ∈ lw_all := lw_in3 (List.mem_of_getElem? (i := 144) rfl) rfl
theorem kw3_145 : Cond.methodLink RX1 35 yX3_shorten ∈ lw_all := lw_in3 (List.mem_of_getElem? (i := 145) rfl) rfl
theorem kw3_146 : Cond.methodLink RL 38 yX6_append ∈ lw_all := lw_in3 (List.mem_of_getElem? (i := 146) rfl) rfl
theorem kw3_147 : Cond.instanceMethod yX6_append ∈ lw_all := lw_in3 (List.mem_of_getElem? (i := 147) rfl) rfl
theorem kw3_148 : Cond.selects RX6 yX6_append yX6_append ∈ lw_all := lw_in3 (List.mem_of_getElem? (i := 148) rfl) rfl
theorem kw3_149 : Cond.code yX6_append cX6_append 2 (some .int) ∈ lw_all := lw_in3 (List.mem_of_getElem? (i := 149) rfl) rfl
theorem kw3_151 : Cond.methodLink RX6 191 yX1_isFull ∈ lw_all := lw_in3 (List.mem_of_getElem? (i := 151) rfl) rfl
theorem kw3_152 : Cond.instanceMethod yX1_isFull ∈ lw_all := lw_in3 (List.mem_of_getElem? (i := 152) rfl) rfl
theorem kw3_153 : Cond.selects RX1 yX1_isFull yX1_isFull ∈ lw_all := lw_in3 (List.mem_of_getElem? (i := 153) rfl) rfl
theorem kw3_154 : Cond.code yX1_isFull cX1_isFull 1 (some .boolean) ∈ lw_all := lw_in3 (List.mem_of_getElem? (i := 154) rfl) rfl
theorem kw3_155 : Cond.methodLink RX1 24 yX3_isFull ∈ lw_all := lw_in3 (List.mem_of_getElem? (i := 155) rfl) rfl
theorem kw3_156 : Cond.instanceMethod yX3_isFull ∈ lw_all := lw_in3 (List.mem_of_getElem? (i := 156) rfl) rfl
theorem kw3_157 : Cond.selects RX3 yX3_isFull yX3_isFull ∈ lw_all := lw_in3 (List.mem_of_getElem? (i := 157) rfl) rfl
theorem kw3_158 : Cond.code yX3_isFull cX3_isFull 1 (some .boolean) ∈ lw_all := lw_in3 (List.mem_of_getElem? (i := 158) rfl) rfl
theorem kw3_160 : Cond.methodLink RX6 194 yX1_put ∈ lw_all := lw_in3 (List.mem_of_getElem? (i := 160) rfl) rfl
theorem kw3_161 : Cond.instanceMethod yX1_put ∈ lw_all := lw_in3 (List.mem_of_getElem? (i := 161) rfl) rfl
theorem kw3_162 : Cond.selects RX1 yX1_put yX1_put ∈ lw_all := lw_in3 (List.mem_of_getElem? (i := 162) rfl) rfl
theorem kw3_163 : Cond.code yX1_put cX1_put 2 none ∈ lw_all := lw_in3 (List.mem_of_getElem? (i := 163) rfl) rfl
theorem kw3_164 : Cond.methodLink RX1 32 yX3_put ∈ lw_all := lw_in3 (List.mem_of_getElem? (i := 164) rfl) rfl
theorem kw3_165 : Cond.methodLink RL 89 yX6_define ∈ lw_all := lw_in3 (List.mem_of_getElem? (i := 165) rfl) rfl
theorem kw3_166 : Cond.instanceMethod yX6_define ∈ lw_all := lw_in3 (List.mem_of_getElem? (i := 166) rfl) rfl
theorem kw3_167 : Cond.selects RX6 yX6_define yX6_define ∈ lw_all := lw_in3 (List.mem_of_getElem? (i := 167) rfl) rfl
theorem kw3_168 : Cond.code yX6_define cX6_define 4 (some .int) ∈ lw_all := lw_in3 (List.mem_of_getElem? (i := 168) rfl) rfl
theorem kw3_169 : Cond.methodLink RX6 88 yX1_tellStrokes ∈ lw_all := lw_in3 (List.mem_of_getElem? (i := 169) rfl) rfl
theorem kw3_170 : Cond.instanceMethod yX1_tellStrokes ∈ lw_all := lw_in3 (List.mem_of_getElem? (i := 170) rfl) rfl
theorem kw3_171 : Cond.selects RX1 yX1_tellStrokes yX1_tellStrokes ∈ lw_all := lw_in3 (List.mem_of_getElem? (i := 171) rfl) rfl
theorem kw3_172 : Cond.code yX1_tellStrokes cX1_tellStrokes 5 (some .boolean) ∈ lw_all := lw_in3 (List.mem_of_getElem? (i := 172) rfl) rfl
theorem kw3_173 : Cond.methodLink RX1 28 yX3_at ∈ lw_all := lw_in3 (List.mem_of_getElem? (i := 173) rfl) rfl
theorem kw3_174 : Cond.methodLink RX1 38 yX1_standBehind ∈ lw_all := lw_in3 (List.mem_of_getElem? (i := 174) rfl) rfl
theorem kw3_175 : Cond.static yX1_standBehind ∈ lw_all := lw_in3 (List.mem_of_getElem? (i := 175) rfl) rfl
theorem kw3_176 : Cond.code yX1_standBehind cX1_standBehind 3 (some .int) ∈ lw_all := lw_in3 (List.mem_of_getElem? (i := 176) rfl) rfl
theorem kw3_178 : Cond.methodLink RX1 44 yJ0_indexOf_0f7a4 ∈ lw_all := lw_in3 (List.mem_of_getElem? (i := 178) rfl) rfl
theorem kw3_179 : Cond.instanceMethod yJ0_indexOf_0f7a4 ∈ lw_all := lw_in3 (List.mem_of_getElem? (i := 179) rfl) rfl
theorem kw3_180 : Cond.selects RJ0 yJ0_indexOf_0f7a4 yJ0_indexOf_0f7a4 ∈ lw_all := lw_in3 (List.mem_of_getElem? (i := 180) rfl) rfl
theorem kw3_181 : Cond.code yJ0_indexOf_0f7a4 cJ0_indexOf_0f7a4 2 (some .int) ∈ lw_all := lw_in3 (List.mem_of_getElem? (i := 181) rfl) rfl
theorem kw3_182 : Cond.methodLink RJ0 633 yJ0_indexOf_7cf53 ∈ lw_all := lw_in3 (List.mem_of_getElem? (i := 182) rfl) rfl
theorem kw3_183 : Cond.instanceMethod yJ0_indexOf_7cf53 ∈ lw_all := lw_in3 (List.mem_of_getElem? (i := 183) rfl) rfl
theorem kw3_184 : Cond.selects RJ0 yJ0_indexOf_7cf53 yJ0_indexOf_7cf53 ∈ lw_all := lw_in3 (List.mem_of_getElem? (i := 184) rfl) rfl
theorem kw3_185 : Cond.code yJ0_indexOf_7cf53 cJ0_indexOf_7cf53 3 (some .int) ∈ lw_all := lw_in3 (List.mem_of_getElem? (i := 185) rfl) rfl
theorem kw3_186 : Cond.methodLink RJ0 492 yJ0_isLatin1_aae02 ∈ lw_all := lw_in3 (List.mem_of_getElem? (i := 186) rfl) rfl
theorem kw3_187 : Cond.instanceMethod yJ0_isLatin1_aae02 ∈ lw_all := lw_in3 (List.mem_of_getElem? (i := 187) rfl) rfl
theorem kw3_188 : Cond.selects RJ0 yJ0_isLatin1_aae02 yJ0_isLatin1_aae02 ∈ lw_all := lw_in3 (List.mem_of_getElem? (i := 188) rfl) rfl
theorem kw3_189 : Cond.code yJ0_isLatin1_aae02 cJ0_isLatin1_aae02 1 (some .boolean) ∈ lw_all := lw_in3 (List.mem_of_getElem? (i := 189) rfl) rfl
theorem kw3_190 : Cond.fieldLink RJ0 38 "java/lang/String" "COMPACT_STRINGS" "Z" ∈ lw_all := lw_in3 (List.mem_of_getElem? (i := 190) rfl) rfl
theorem kw3_192 : Cond.methodLink RJ0 505 yJ0_length_8abf5 ∈ lw_all := lw_in3 (List.mem_of_getElem? (i := 192) rfl) rfl
theorem kw3_193 : Cond.instanceMethod yJ0_length_8abf5 ∈ lw_all := lw_in3 (List.mem_of_getElem? (i := 193) rfl) rfl
theorem kw3_194 : Cond.selects RJ0 yJ0_length_8abf5 yJ0_length_8abf5 ∈ lw_all := lw_in3 (List.mem_of_getElem? (i := 194) rfl) rfl
theorem kw3_195 : Cond.code yJ0_length_8abf5 cJ0_length_8abf5 1 (some .int) ∈ lw_all := lw_in3 (List.mem_of_getElem? (i := 195) rfl) rfl
theorem kw3_196 : Cond.methodLink RJ0 335 yJ0_coder_7d493 ∈ lw_all := lw_in3 (List.mem_of_getElem? (i := 196) rfl) rfl
theorem kw3_197 : Cond.instanceMethod yJ0_coder_7d493 ∈ lw_all := lw_in3 (List.mem_of_getElem? (i := 197) rfl) rfl
theorem kw3_198 : Cond.selects RJ0 yJ0_coder_7d493 yJ0_coder_7d493 ∈ lw_all := lw_in3 (List.mem_of_getElem? (i := 198) rfl) rfl
theorem kw3_199 : Cond.code yJ0_coder_7d493 cJ0_coder_7d493 1 (some .byte) ∈ lw_all := lw_in3 (List.mem_of_getElem? (i := 199) rfl) rfl
theorem kw3_200 : Cond.methodLink RJ0 637 yJ1_indexOf_4cfef ∈ lw_all := lw_in3 (List.mem_of_getElem? (i := 200) rfl) rfl
theorem kw3_201 : Cond.static yJ1_indexOf_4cfef ∈ lw_all := lw_in3 (List.mem_of_getElem? (i := 201) rfl) rfl
theorem kw3_202 : Cond.code yJ1_indexOf_4cfef cJ1_indexOf_4cfef 4 (some .int) ∈ lw_all := lw_in3 (List.mem_of_getElem? (i := 202) rfl) rfl
theorem kw3_203 : Cond.methodLink RJ1 88 yJ1_canEncode_9a6ad ∈ lw_all := lw_in3 (List.mem_of_getElem? (i := 203) rfl) rfl
theorem kw3_204 : Cond.static yJ1_canEncode_9a6ad ∈ lw_all := lw_in3 (List.mem_of_getElem? (i := 204) rfl) rfl
theorem kw3_205 : Cond.code yJ1_canEncode_9a6ad cJ1_canEncode_9a6ad 1 (some .boolean) ∈ lw_all := lw_in3 (List.mem_of_getElem? (i := 205) rfl) rfl
theorem kw3_206 : Cond.methodLink RJ1 92 yJ9_max_7cf53 ∈ lw_all := lw_in3 (List.mem_of_getElem? (i := 206) rfl) rfl
theorem kw3_207 : Cond.methodLink RJ1 38 yJ9_min_7cf53 ∈ lw_all := lw_in3 (List.mem_of_getElem? (i := 207) rfl) rfl
theorem kw3_208 : Cond.methodLink RJ1 95 yJ1_indexOfChar_4cfef ∈ lw_all := lw_in3 (List.mem_of_getElem? (i := 208) rfl) rfl
theorem kw3_209 : Cond.static yJ1_indexOfChar_4cfef ∈ lw_all := lw_in3 (List.mem_of_getElem? (i := 209) rfl) rfl
theorem kw3_210 : Cond.code yJ1_indexOfChar_4cfef cJ1_indexOfChar_4cfef 6 (some .int) ∈ lw_all := lw_in3 (List.mem_of_getElem? (i := 210) rfl) rfl
theorem kw3_211 : Cond.methodLink RJ0 640 yJ2_indexOf_4cfef ∈ lw_all := lw_in3 (List.mem_of_getElem? (i := 211) rfl) rfl
theorem kw3_212 : Cond.static yJ2_indexOf_4cfef ∈ lw_all := lw_in3 (List.mem_of_getElem? (i := 212) rfl) rfl
theorem kw3_213 : Cond.code yJ2_indexOf_4cfef cJ2_indexOf_4cfef 4 (some .int) ∈ lw_all := lw_in3 (List.mem_of_getElem? (i := 213) rfl) rfl
theorem kw3_214 : Cond.methodLink RJ2 224 yJ9_max_7cf53 ∈ lw_all := lw_in3 (List.mem_of_getElem? (i := 214) rfl) rfl
theorem kw3_215 : Cond.methodLink RJ2 183 yJ9_min_7cf53 ∈ lw_all := lw_in3 (List.mem_of_getElem? (i := 215) rfl) rfl
theorem kw3_216 : Cond.constant RJ2 227 65536 ∈ lw_all := lw_in3 (List.mem_of_getElem? (i := 216) rfl) rfl
theorem kw3_217 : Cond.methodLink RJ2 228 yJ2_indexOfChar_4cfef ∈ lw_all := lw_in3 (List.mem_of_getElem? (i := 217) rfl) rfl
theorem kw3_218 : Cond.static yJ2_indexOfChar_4cfef ∈ lw_all := lw_in3 (List.mem_of_getElem? (i := 218) rfl) rfl
theorem kw3_219 : Cond.code yJ2_indexOfChar_4cfef cJ2_indexOfChar_4cfef 4 (some .int) ∈ lw_all := lw_in3 (List.mem_of_getElem? (i := 219) rfl) rfl
theorem kw3_220 : Cond.methodLink RJ2 96 yJ2_checkBoundsBeginEnd_d044e ∈ lw_all := lw_in3 (List.mem_of_getElem? (i := 220) rfl) rfl
theorem kw3_221 : Cond.static yJ2_checkBoundsBeginEnd_d044e ∈ lw_all := lw_in3 (List.mem_of_getElem? (i := 221) rfl) rfl
theorem kw3_222 : Cond.code yJ2_checkBoundsBeginEnd_d044e cJ2_checkBoundsBeginEnd_d044e 3 none ∈ lw_all := lw_in3 (List.mem_of_getElem? (i := 222) rfl) rfl
theorem kw3_223 : Cond.methodLink RJ2 48 yJ2_length_9d52b ∈ lw_all := lw_in3 (List.mem_of_getElem? (i := 223) rfl) rfl
theorem kw3_224 : Cond.static yJ2_length_9d52b ∈ lw_all := lw_in3 (List.mem_of_getElem? (i := 224) rfl) rfl
theorem kw3_225 : Cond.code yJ2_length_9d52b cJ2_length_9d52b 1 (some .int) ∈ lw_all := lw_in3 (List.mem_of_getElem? (i := 225) rfl) rfl
theorem kw3_226 : Cond.methodLink RJ2 241 yJ0_checkBoundsBeginEnd_23922 ∈ lw_all := lw_in3 (List.mem_of_getElem? (i := 226) rfl) rfl
theorem kw3_227 : Cond.static yJ0_checkBoundsBeginEnd_23922 ∈ lw_all := lw_in3 (List.mem_of_getElem? (i := 227) rfl) rfl
theorem kw3_228 : Cond.code yJ0_checkBoundsBeginEnd_23922 cJ0_checkBoundsBeginEnd_23922 3 none ∈ lw_all := lw_in3 (List.mem_of_getElem? (i := 228) rfl) rfl
theorem kw3_229 : Cond.fieldLink RJ0 1053 "jdk/internal/util/Preconditions" "SIOOBE_FORMATTER" "Ljava/util/function/BiFunction;" ∈ lw_all := lw_in3 (List.mem_of_getElem? (i := 229) rfl) rfl
theorem kw3_231 : Cond.methodLink RJ0 1062 yJ3_checkFromToIndex_8c36e ∈ lw_all := lw_in3 (List.mem_of_getElem? (i := 231) rfl) rfl
theorem kw3_232 : Cond.static yJ3_checkFromToIndex_8c36e ∈ lw_all := lw_in3 (List.mem_of_getElem? (i := 232) rfl) rfl
theorem kw3_233 : Cond.code yJ3_checkFromToIndex_8c36e cJ3_checkFromToIndex_8c36e 4 (some .int) ∈ lw_all := lw_in3 (List.mem_of_getElem? (i := 233) rfl) rfl
theorem kw3_234 : Cond.methodLink RJ2 244 yJ2_indexOfCharUnsafe_4cfef ∈ lw_all := lw_in3 (List.mem_of_getElem? (i := 234) rfl) rfl
theorem kw3_235 : Cond.static yJ2_indexOfCharUnsafe_4cfef ∈ lw_all := lw_in3 (List.mem_of_getElem? (i := 235) rfl) rfl
theorem kw3_236 : Cond.code yJ2_indexOfCharUnsafe_4cfef cJ2_indexOfCharUnsafe_4cfef 5 (some .int) ∈ lw_all := lw_in3 (List.mem_of_getElem? (i := 236) rfl) rfl
theorem kw3_237 : Cond.methodLink RJ2 71 yJ2_getChar_3b067 ∈ lw_all := lw_in3 (List.mem_of_getElem? (i := 237) rfl) rfl
theorem kw3_238 : Cond.static yJ2_getChar_3b067 ∈ lw_all := lw_in3 (List.mem_of_getElem? (i := 238) rfl) rfl
theorem kw3_239 : Cond.code yJ2_getChar_3b067 cJ2_getChar_3b067 2 (some .char) ∈ lw_all := lw_in3 (List.mem_of_getElem? (i := 239) rfl) rfl
theorem kw4_0 : Cond.fieldLink RJ2 44 "java/lang/StringUTF16" "$assertionsDisabled" "Z" ∈ lw_all := lw_in4 (List.mem_of_getElem? (i := 0) rfl) rfl
theorem kw4_2 : Cond.fieldLink RJ2 59 "java/lang/StringUTF16" "HI_BYTE_SHIFT" "I" ∈ lw_all := lw_in4 (List.mem_of_getElem? (i := 2) rfl) rfl
theorem kw4_4 : Cond.fieldLink RJ2 63 "java/lang/StringUTF16" "LO_BYTE_SHIFT" "I" ∈ lw_all := lw_in4 (List.mem_of_getElem? (i := 4) rfl) rfl
theorem kw4_6 : Cond.methodLink RJ2 232 yJ2_indexOfSupplementary_4cfef ∈ lw_all := lw_in4 (List.mem_of_getElem? (i := 6) rfl) rfl
theorem kw4_7 : Cond.static yJ2_indexOfSupplementary_4cfef ∈ lw_all := lw_in4 (List.mem_of_getElem? (i := 7) rfl) rfl
theorem kw4_8 : Cond.code yJ2_indexOfSupplementary_4cfef cJ2_indexOfSupplementary_4cfef 7 (some .int) ∈ lw_all := lw_in4 (List.mem_of_getElem? (i := 8) rfl) rfl
theorem kw4_9 : Cond.methodLink RJ2 164 yJ11_isValidCodePoint_9a6ad ∈ lw_all := lw_in4 (List.mem_of_getElem? (i := 9) rfl) rfl
theorem kw4_10 : Cond.static yJ11_isValidCodePoint_9a6ad ∈ lw_all := lw_in4 (List.mem_of_getElem? (i := 10) rfl) rfl
theorem kw4_11 : Cond.code yJ11_isValidCodePoint_9a6ad cJ11_isValidCodePoint_9a6ad 2 (some .boolean) ∈ lw_all := lw_in4 (List.mem_of_getElem? (i := 11) rfl) rfl
theorem kw4_12 : Cond.methodLink RJ2 157 yJ11_highSurrogate_5068e ∈ lw_all := lw_in4 (List.mem_of_getElem? (i := 12) rfl) rfl
theorem kw4_13 : Cond.static yJ11_highSurrogate_5068e ∈ lw_all := lw_in4 (List.mem_of_getElem? (i := 13) rfl) rfl
theorem kw4_14 : Cond.code yJ11_highSurrogate_5068e cJ11_highSurrogate_5068e 1 (some .char) ∈ lw_all := lw_in4 (List.mem_of_getElem? (i := 14) rfl) rfl
theorem kw4_15 : Cond.constant RJ11 110 55232 ∈ lw_all := lw_in4 (List.mem_of_getElem? (i := 15) rfl) rfl
theorem kw4_16 : Cond.methodLink RJ2 161 yJ11_lowSurrogate_5068e ∈ lw_all := lw_in4 (List.mem_of_getElem? (i := 16) rfl) rfl
theorem kw4_17 : Cond.static yJ11_lowSurrogate_5068e ∈ lw_all := lw_in4 (List.mem_of_getElem? (i := 17) rfl) rfl
theorem kw4_18 : Cond.code yJ11_lowSurrogate_5068e cJ11_lowSurrogate_5068e 1 (some .char) ∈ lw_all := lw_in4 (List.mem_of_getElem? (i := 18) rfl) rfl
theorem kw4_19 : Cond.constant RJ11 76 56320 ∈ lw_all := lw_in4 (List.mem_of_getElem? (i := 19) rfl) rfl
theorem kw4_20 : Cond.methodLink RX6 142 yX6_canBeRow ∈ lw_all := lw_in4 (List.mem_of_getElem? (i := 20) rfl) rfl
theorem kw4_21 : Cond.static yX6_canBeRow ∈ lw_all := lw_in4 (List.mem_of_getElem? (i := 21) rfl) rfl
theorem kw4_22 : Cond.code yX6_canBeRow cX6_canBeRow 2 (some .boolean) ∈ lw_all := lw_in4 (List.mem_of_getElem? (i := 22) rfl) rfl
theorem kw4_24 : Cond.methodLink RX6 151 yX0_isFull ∈ lw_all := lw_in4 (List.mem_of_getElem? (i := 24) rfl) rfl
theorem kw4_25 : Cond.instanceMethod yX0_isFull ∈ lw_all := lw_in4 (List.mem_of_getElem? (i := 25) rfl) rfl
theorem kw4_26 : Cond.selects RX0 yX0_isFull yX0_isFull ∈ lw_all := lw_in4 (List.mem_of_getElem? (i := 26) rfl) rfl
theorem kw4_27 : Cond.code yX0_isFull cX0_isFull 1 (some .boolean) ∈ lw_all := lw_in4 (List.mem_of_getElem? (i := 27) rfl) rfl
theorem kw4_28 : Cond.methodLink RX6 155 yX0_hasBoth ∈ lw_all := lw_in4 (List.mem_of_getElem? (i := 28) rfl) rfl
theorem kw4_29 : Cond.instanceMethod yX0_hasBoth ∈ lw_all := lw_in4 (List.mem_of_getElem? (i := 29) rfl) rfl
theorem kw4_30 : Cond.selects RX0 yX0_hasBoth yX0_hasBoth ∈ lw_all := lw_in4 (List.mem_of_getElem? (i := 30) rfl) rfl
theorem kw4_31 : Cond.code yX0_hasBoth cX0_hasBoth 5 (some .boolean) ∈ lw_all := lw_in4 (List.mem_of_getElem? (i := 31) rfl) rfl
theorem kw4_33 : Cond.methodLink RX6 161 yX0_put ∈ lw_all := lw_in4 (List.mem_of_getElem? (i := 33) rfl) rfl
theorem kw4_34 : Cond.instanceMethod yX0_put ∈ lw_all := lw_in4 (List.mem_of_getElem? (i := 34) rfl) rfl
theorem kw4_35 : Cond.selects RX0 yX0_put yX0_put ∈ lw_all := lw_in4 (List.mem_of_getElem? (i := 35) rfl) rfl
theorem kw4_36 : Cond.code yX0_put cX0_put 4 none ∈ lw_all := lw_in4 (List.mem_of_getElem? (i := 36) rfl) rfl
theorem kw4_37 : Cond.methodLink RL 92 yX6_remove ∈ lw_all := lw_in4 (List.mem_of_getElem? (i := 37) rfl) rfl
theorem kw4_38 : Cond.instanceMethod yX6_remove ∈ lw_all := lw_in4 (List.mem_of_getElem? (i := 38) rfl) rfl
theorem kw4_39 : Cond.selects RX6 yX6_remove yX6_remove ∈ lw_all := lw_in4 (List.mem_of_getElem? (i := 39) rfl) rfl
theorem kw4_40 : Cond.code yX6_remove cX6_remove 2 (some .int) ∈ lw_all := lw_in4 (List.mem_of_getElem? (i := 40) rfl) rfl
theorem kw4_41 : Cond.methodLink RX6 168 yX0_takeAway ∈ lw_all := lw_in4 (List.mem_of_getElem? (i := 41) rfl) rfl
theorem kw4_42 : Cond.instanceMethod yX0_takeAway ∈ lw_all := lw_in4 (List.mem_of_getElem? (i := 42) rfl) rfl
theorem kw4_43 : Cond.selects RX0 yX0_takeAway yX0_takeAway ∈ lw_all := lw_in4 (List.mem_of_getElem? (i := 43) rfl) rfl
theorem kw4_44 : Cond.code yX0_takeAway cX0_takeAway 3 none ∈ lw_all := lw_in4 (List.mem_of_getElem? (i := 44) rfl) rfl
theorem kw4_45 : Cond.methodLink RL 95 yX6_pick ∈ lw_all := lw_in4 (List.mem_of_getElem? (i := 45) rfl) rfl
theorem kw4_46 : Cond.instanceMethod yX6_pick ∈ lw_all := lw_in4 (List.mem_of_getElem? (i := 46) rfl) rfl
theorem kw4_47 : Cond.selects RX6 yX6_pick yX6_pick ∈ lw_all := lw_in4 (List.mem_of_getElem? (i := 47) rfl) rfl
theorem kw4_48 : Cond.code yX6_pick cX6_pick 3 (some .int) ∈ lw_all := lw_in4 (List.mem_of_getElem? (i := 48) rfl) rfl
theorem kw4_51 : Cond.methodLink RX6 134 yX0_pickOnce ∈ lw_all := lw_in4 (List.mem_of_getElem? (i := 51) rfl) rfl
theorem kw4_52 : Cond.instanceMethod yX0_pickOnce ∈ lw_all := lw_in4 (List.mem_of_getElem? (i := 52) rfl) rfl
theorem kw4_53 : Cond.selects RX0 yX0_pickOnce yX0_pickOnce ∈ lw_all := lw_in4 (List.mem_of_getElem? (i := 53) rfl) rfl
theorem kw4_54 : Cond.code yX0_pickOnce cX0_pickOnce 2 none ∈ lw_all := lw_in4 (List.mem_of_getElem? (i := 54) rfl) rfl
theorem kw4_55 : Cond.methodLink RL 98 yX6_goBack ∈ lw_all := lw_in4 (List.mem_of_getElem? (i := 55) rfl) rfl
theorem kw4_56 : Cond.instanceMethod yX6_goBack ∈ lw_all := lw_in4 (List.mem_of_getElem? (i := 56) rfl) rfl
theorem kw4_57 : Cond.selects RX6 yX6_goBack yX6_goBack ∈ lw_all := lw_in4 (List.mem_of_getElem? (i := 57) rfl) rfl
theorem kw4_58 : Cond.code yX6_goBack cX6_goBack 1 (some .int) ∈ lw_all := lw_in4 (List.mem_of_getElem? (i := 58) rfl) rfl
theorem kw4_60 : Cond.methodLink RL 101 yX6_tear ∈ lw_all := lw_in4 (List.mem_of_getElem? (i := 60) rfl) rfl
theorem kw4_61 : Cond.instanceMethod yX6_tear ∈ lw_all := lw_in4 (List.mem_of_getElem? (i := 61) rfl) rfl
theorem kw4_62 : Cond.selects RX6 yX6_tear yX6_tear ∈ lw_all := lw_in4 (List.mem_of_getElem? (i := 62) rfl) rfl
theorem kw4_63 : Cond.code yX6_tear cX6_tear 2 (some .int) ∈ lw_all := lw_in4 (List.mem_of_getElem? (i := 63) rfl) rfl
theorem kw4_64 : Cond.methodLink RL 104 yL_strikes ∈ lw_all := lw_in4 (List.mem_of_getElem? (i := 64) rfl) rfl
theorem kw4_65 : Cond.static yL_strikes ∈ lw_all := lw_in4 (List.mem_of_getElem? (i := 65) rfl) rfl
theorem kw4_66 : Cond.code yL_strikes cL_strikes 9 (some .boolean) ∈ lw_all := lw_in4 (List.mem_of_getElem? (i := 66) rfl) rfl
theorem kw4_67 : Cond.methodLink RL 72 yX6_strike ∈ lw_all := lw_in4 (List.mem_of_getElem? (i := 67) rfl) rfl
theorem kw4_68 : Cond.instanceMethod yX6_strike ∈ lw_all := lw_in4 (List.mem_of_getElem? (i := 68) rfl) rfl
theorem kw4_69 : Cond.selects RX6 yX6_strike yX6_strike ∈ lw_all := lw_in4 (List.mem_of_getElem? (i := 69) rfl) rfl
theorem kw4_70 : Cond.code yX6_strike cX6_strike 2 (some .int) ∈ lw_all := lw_in4 (List.mem_of_getElem? (i := 70) rfl) rfl
theorem kw4_72 : Cond.methodLink RX6 65 yX6_canStrike ∈ lw_all := lw_in4 (List.mem_of_getElem? (i := 72) rfl) rfl
theorem kw4_74 : Cond.instanceMethod yX6_canStrike ∈ lw_all := lw_in4 (List.mem_of_getElem? (i := 74) rfl) rfl
theorem kw4_75 : Cond.code yX6_canStrike cX6_canStrike 2 (some .boolean) ∈ lw_all := lw_in4 (List.mem_of_getElem? (i := 75) rfl) rfl
theorem kw4_76 : Cond.methodLink RX6 321 yX3_isFull ∈ lw_all := lw_in4 (List.mem_of_getElem? (i := 76) rfl) rfl
theorem kw4_78 : Cond.methodLink RX6 78 yX6_putOrEat ∈ lw_all := lw_in4 (List.mem_of_getElem? (i := 78) rfl) rfl
theorem kw4_80 : Cond.instanceMethod yX6_putOrEat ∈ lw_all := lw_in4 (List.mem_of_getElem? (i := 80) rfl) rfl
theorem kw4_81 : Cond.code yX6_putOrEat cX6_putOrEat 2 none ∈ lw_all := lw_in4 (List.mem_of_getElem? (i := 81) rfl) rfl
theorem kw4_82 : Cond.methodLink RX6 322 yX6_eat ∈ lw_all := lw_in4 (List.mem_of_getElem? (i := 82) rfl) rfl
theorem kw4_84 : Cond.instanceMethod yX6_eat ∈ lw_all := lw_in4 (List.mem_of_getElem? (i := 84) rfl) rfl
theorem kw4_85 : Cond.code yX6_eat cX6_eat 2 none ∈ lw_all := lw_in4 (List.mem_of_getElem? (i := 85) rfl) rfl
theorem kw4_86 : Cond.methodLink RX6 325 yJ6_bitCount_0f7a4 ∈ lw_all := lw_in4 (List.mem_of_getElem? (i := 86) rfl) rfl
theorem kw4_87 : Cond.static yJ6_bitCount_0f7a4 ∈ lw_all := lw_in4 (List.mem_of_getElem? (i := 87) rfl) rfl
theorem kw4_88 : Cond.code yJ6_bitCount_0f7a4 cJ6_bitCount_0f7a4 1 (some .int) ∈ lw_all := lw_in4 (List.mem_of_getElem? (i := 88) rfl) rfl
theorem kw4_89 : Cond.constant RJ6 265 1431655765 ∈ lw_all := lw_in4 (List.mem_of_getElem? (i := 89) rfl) rfl
theorem kw4_90 : Cond.constant RJ6 266 858993459 ∈ lw_all := lw_in4 (List.mem_of_getElem? (i := 90) rfl) rfl
theorem kw4_91 : Cond.constant RJ6 267 252645135 ∈ lw_all := lw_in4 (List.mem_of_getElem? (i := 91) rfl) rfl
theorem kw4_92 : Cond.methodLink RL 75 yX6_ifStruck ∈ lw_all := lw_in4 (List.mem_of_getElem? (i := 92) rfl) rfl
theorem kw4_93 : Cond.instanceMethod yX6_ifStruck ∈ lw_all := lw_in4 (List.mem_of_getElem? (i := 93) rfl) rfl
theorem kw4_94 : Cond.selects RX6 yX6_ifStruck yX6_ifStruck ∈ lw_all := lw_in4 (List.mem_of_getElem? (i := 94) rfl) rfl
theorem kw4_95 : Cond.code yX6_ifStruck cX6_ifStruck 4 (some .int) ∈ lw_all := lw_in4 (List.mem_of_getElem? (i := 95) rfl) rfl
theorem kw4_96 : Cond.methodLink RX6 236 yX3_become ∈ lw_all := lw_in4 (List.mem_of_getElem? (i := 96) rfl) rfl
theorem kw4_98 : Cond.fieldLink RJ0 15 "java/lang/String" "coder" "B" ∈ lw_all := lw_in4 (List.mem_of_getElem? (i := 98) rfl) rfl
theorem kw4_99 : Cond.fieldLink RJ0 9 "java/lang/String" "value" "[B" ∈ lw_all := lw_in4 (List.mem_of_getElem? (i := 99) rfl) rfl
theorem kwS_0 : Cond.selects RX0 yX0_put_ yX0_put_ ∈ lw_all := lw_inS (List.mem_of_getElem? (i := 0) rfl) rfl
theorem kwS_1 : Cond.selects "java/lang/Throwable" (⟨"java/lang/Throwable", "fillInStackTrace", "(I)Ljava/lang/Throwable;"⟩ : MethodName) (⟨"java/lang/Throwable", "fillInStackTrace", "(I)Ljava/lang/Throwable;"⟩ : MethodName) ∈ lw_all := lw_inS (List.mem_of_getElem? (i := 1) rfl) rfl
theorem kwS_2 : Cond.selects RX4 yX4_slotBehindOldest yX4_slotBehindOldest ∈ lw_all := lw_inS (List.mem_of_getElem? (i := 2) rfl) rfl
theorem kwS_3 : Cond.selects RX6 yX6_readPaper yX6_readPaper ∈ lw_all := lw_inS (List.mem_of_getElem? (i := 3) rfl) rfl
theorem kwS_4 : Cond.selects RX6 yX6_countNumber yX6_countNumber ∈ lw_all := lw_inS (List.mem_of_getElem? (i := 4) rfl) rfl
theorem kwS_5 : Cond.selects RX6 yX6_itemsStrokeByStroke yX6_itemsStrokeByStroke ∈ lw_all := lw_inS (List.mem_of_getElem? (i := 5) rfl) rfl
theorem kwS_6 : Cond.selects RX6 yX6_rawItems yX6_rawItems ∈ lw_all := lw_inS (List.mem_of_getElem? (i := 6) rfl) rfl
theorem kwS_7 : Cond.selects RX6 yX6_entryNumber yX6_entryNumber ∈ lw_all := lw_inS (List.mem_of_getElem? (i := 7) rfl) rfl
theorem kwS_8 : Cond.selects RX6 yX6_settingNumber yX6_settingNumber ∈ lw_all := lw_inS (List.mem_of_getElem? (i := 8) rfl) rfl
theorem kwS_9 : Cond.selects RX6 yX6_itemNumber yX6_itemNumber ∈ lw_all := lw_inS (List.mem_of_getElem? (i := 9) rfl) rfl
theorem kwS_10 : Cond.selects RX6 yX6_rowOfItem yX6_rowOfItem ∈ lw_all := lw_inS (List.mem_of_getElem? (i := 10) rfl) rfl
theorem kwS_11 : Cond.selects RX6 yX6_fewestUpTo yX6_fewestUpTo ∈ lw_all := lw_inS (List.mem_of_getElem? (i := 11) rfl) rfl
theorem kwS_12 : Cond.selects RX6 yX6_canTell yX6_canTell ∈ lw_all := lw_inS (List.mem_of_getElem? (i := 12) rfl) rfl
theorem kwS_13 : Cond.selects RX6 yX6_isShorter yX6_isShorter ∈ lw_all := lw_inS (List.mem_of_getElem? (i := 13) rfl) rfl
theorem kwS_14 : Cond.selects RX6 yX6_readBehind yX6_readBehind ∈ lw_all := lw_inS (List.mem_of_getElem? (i := 14) rfl) rfl
theorem kwS_15 : Cond.selects RX6 yX6_putRow yX6_putRow ∈ lw_all := lw_inS (List.mem_of_getElem? (i := 15) rfl) rfl
theorem kwS_16 : Cond.selects RX6 yX6_canStrike yX6_canStrike ∈ lw_all := lw_inS (List.mem_of_getElem? (i := 16) rfl) rfl
theorem kwS_17 : Cond.selects RX6 yX6_putOrEat yX6_putOrEat ∈ lw_all := lw_inS (List.mem_of_getElem? (i := 17) rfl) rfl
theorem kwS_18 : Cond.selects RX6 yX6_eat yX6_eat ∈ lw_all := lw_inS (List.mem_of_getElem? (i := 18) rfl) rfl
