def RX0 : String := "StenoChords$Entries"
def TX0 : u_T := fun k => match k with
  | 0 => ("StenoChords$Entries", "rows", "[J", true)
  | 1 => ("StenoChords$Entries", "words", "[I", true)
  | 2 => ("StenoChords$Entries", "picks", "[I", true)
  | _ => ("StenoChords$Entries", "size", "I", false)
def tyX0 : Nat → FieldType := fun k => match k with
  | 0 => .array .long
  | 1 => .array .int
  | 2 => .array .int
  | _ => .int
abbrev wsX00 : List Cond := u_ws RX0 TX0 4
theorem nmX0 : ∀ a, a < 4 → ∀ b, b < 4 → a ≠ b → (TX0 a).2.1 ≠ (TX0 b).2.1 := by decide +kernel
theorem tyX0_ok : ∀ k, k < 4 → parseFieldDescriptor (TX0 k).2.2.1 = some (tyX0 k) := by decide +kernel
abbrev cX0_init : ByteArray := prog_2_method_1_code
def yX0_init : MethodName := ⟨RX0, "<init>", "()V"⟩
abbrev cX0_size : ByteArray := prog_2_method_2_code
def yX0_size : MethodName := ⟨RX0, "size", "()I"⟩
abbrev cX0_has : ByteArray := prog_2_method_3_code
def yX0_has : MethodName := ⟨RX0, "has", "(I)Z"⟩
abbrev cX0_isFull : ByteArray := prog_2_method_4_code
def yX0_isFull : MethodName := ⟨RX0, "isFull", "()Z"⟩
abbrev cX0_rowOf : ByteArray := prog_2_method_5_code
def yX0_rowOf : MethodName := ⟨RX0, "rowOf", "(I)J"⟩
abbrev cX0_wordOf : ByteArray := prog_2_method_6_code
def yX0_wordOf : MethodName := ⟨RX0, "wordOf", "(I)I"⟩
abbrev cX0_picksOf : ByteArray := prog_2_method_7_code
def yX0_picksOf : MethodName := ⟨RX0, "picksOf", "(I)I"⟩
abbrev cX0_hasBoth : ByteArray := prog_2_method_8_code
def yX0_hasBoth : MethodName := ⟨RX0, "hasBoth", "(JI)Z"⟩
abbrev cX0_leaderOf : ByteArray := prog_2_method_9_code
def yX0_leaderOf : MethodName := ⟨RX0, "leaderOf", "(J)I"⟩
abbrev cX0_rivals : ByteArray := prog_2_method_10_code
def yX0_rivals : MethodName := ⟨RX0, "rivals", "(J)I"⟩
abbrev cX0_longerThan : ByteArray := prog_2_method_11_code
def yX0_longerThan : MethodName := ⟨RX0, "longerThan", "(JI)I"⟩
abbrev cX0_longestAt : ByteArray := prog_2_method_12_code
def yX0_longestAt : MethodName := ⟨RX0, "longestAt", "(LStenoChords$Row;II)I"⟩
abbrev cX0_pickOnce : ByteArray := prog_2_method_13_code
def yX0_pickOnce : MethodName := ⟨RX0, "pickOnce", "(I)V"⟩
abbrev cX0_put : ByteArray := prog_2_method_14_code
def yX0_put : MethodName := ⟨RX0, "put", "(JI)V"⟩
abbrev cX0_put_ : ByteArray := prog_2_method_15_code
def yX0_put_ : MethodName := ⟨RX0, "put", "(JII)V"⟩
abbrev cX0_takeAway : ByteArray := prog_2_method_16_code
def yX0_takeAway : MethodName := ⟨RX0, "takeAway", "(I)V"⟩
abbrev cX0_become : ByteArray := prog_2_method_17_code
def yX0_become : MethodName := ⟨RX0, "become", "(LStenoChords$Entries;)V"⟩
def RX1 : String := "StenoChords$InputText"
def TX1 : u_T := fun k => match k with
  | _ => ("StenoChords$InputText", "codes", "LStenoChords$Row;", true)
def tyX1 : Nat → FieldType := fun k => match k with
  | _ => .object "StenoChords$Row"
abbrev wsX10 : List Cond := u_ws RX1 TX1 1
theorem nmX1 : ∀ a, a < 1 → ∀ b, b < 1 → a ≠ b → (TX1 a).2.1 ≠ (TX1 b).2.1 := by decide +kernel
theorem tyX1_ok : ∀ k, k < 1 → parseFieldDescriptor (TX1 k).2.2.1 = some (tyX1 k) := by decide +kernel
abbrev cX1_init : ByteArray := prog_3_method_1_code
def yX1_init : MethodName := ⟨RX1, "<init>", "()V"⟩
abbrev cX1_length : ByteArray := prog_3_method_2_code
def yX1_length : MethodName := ⟨RX1, "length", "()I"⟩
abbrev cX1_isFull : ByteArray := prog_3_method_3_code
def yX1_isFull : MethodName := ⟨RX1, "isFull", "()Z"⟩
abbrev cX1_put : ByteArray := prog_3_method_5_code
def yX1_put : MethodName := ⟨RX1, "put", "(I)V"⟩
abbrev cX1_wipe : ByteArray := prog_3_method_6_code
def yX1_wipe : MethodName := ⟨RX1, "wipe", "()V"⟩
abbrev cX1_tellStrokes : ByteArray := prog_3_method_8_code
def yX1_tellStrokes : MethodName := ⟨RX1, "tellStrokes", "(LStenoChords$Row;)Z"⟩
abbrev cX1_standBehind : ByteArray := prog_3_method_9_code
def yX1_standBehind : MethodName := ⟨RX1, "standBehind", "(II)I"⟩
def RX2 : String := "StenoChords$Reading"
def TX2 : u_T := fun k => match k with
  | 0 => ("StenoChords$Reading", "places", "LStenoChords$Row;", true)
  | 1 => ("StenoChords$Reading", "lengths", "LStenoChords$Row;", true)
  | _ => ("StenoChords$Reading", "leaders", "LStenoChords$Row;", true)
def tyX2 : Nat → FieldType := fun k => match k with
  | 0 => .object "StenoChords$Row"
  | 1 => .object "StenoChords$Row"
  | _ => .object "StenoChords$Row"
abbrev wsX20 : List Cond := u_ws RX2 TX2 3
theorem nmX2 : ∀ a, a < 3 → ∀ b, b < 3 → a ≠ b → (TX2 a).2.1 ≠ (TX2 b).2.1 := by decide +kernel
theorem tyX2_ok : ∀ k, k < 3 → parseFieldDescriptor (TX2 k).2.2.1 = some (tyX2 k) := by decide +kernel
abbrev cX2_init : ByteArray := prog_4_method_1_code
def yX2_init : MethodName := ⟨RX2, "<init>", "()V"⟩
abbrev cX2_size : ByteArray := prog_4_method_2_code
def yX2_size : MethodName := ⟨RX2, "size", "()I"⟩
abbrev cX2_has : ByteArray := prog_4_method_3_code
def yX2_has : MethodName := ⟨RX2, "has", "(I)Z"⟩
abbrev cX2_placeAt : ByteArray := prog_4_method_4_code
def yX2_placeAt : MethodName := ⟨RX2, "placeAt", "(I)I"⟩
abbrev cX2_lengthAt : ByteArray := prog_4_method_5_code
def yX2_lengthAt : MethodName := ⟨RX2, "lengthAt", "(I)I"⟩
abbrev cX2_leaderAt : ByteArray := prog_4_method_6_code
def yX2_leaderAt : MethodName := ⟨RX2, "leaderAt", "(I)I"⟩
abbrev cX2_itemsOf : ByteArray := prog_4_method_7_code
def yX2_itemsOf : MethodName := ⟨RX2, "itemsOf", "(I)I"⟩
abbrev cX2_dropFrom : ByteArray := prog_4_method_8_code
def yX2_dropFrom : MethodName := ⟨RX2, "dropFrom", "(I)V"⟩
abbrev cX2_readOn : ByteArray := prog_4_method_9_code
def yX2_readOn : MethodName := ⟨RX2, "readOn", "(LStenoChords$Row;LStenoChords$State;)V"⟩
def RX3 : String := "StenoChords$Row"
def TX3 : u_T := fun k => match k with
  | 0 => ("StenoChords$Row", "cells", "[I", true)
  | _ => ("StenoChords$Row", "length", "I", false)
def tyX3 : Nat → FieldType := fun k => match k with
  | 0 => .array .int
  | _ => .int
abbrev wsX30 : List Cond := u_ws RX3 TX3 2
theorem nmX3 : ∀ a, a < 2 → ∀ b, b < 2 → a ≠ b → (TX3 a).2.1 ≠ (TX3 b).2.1 := by decide +kernel
theorem tyX3_ok : ∀ k, k < 2 → parseFieldDescriptor (TX3 k).2.2.1 = some (tyX3 k) := by decide +kernel
abbrev cX3_init : ByteArray := prog_5_method_1_code
def yX3_init : MethodName := ⟨RX3, "<init>", "(I)V"⟩
abbrev cX3_length : ByteArray := prog_5_method_2_code
def yX3_length : MethodName := ⟨RX3, "length", "()I"⟩
abbrev cX3_has : ByteArray := prog_5_method_3_code
def yX3_has : MethodName := ⟨RX3, "has", "(I)Z"⟩
abbrev cX3_isFull : ByteArray := prog_5_method_4_code
def yX3_isFull : MethodName := ⟨RX3, "isFull", "()Z"⟩
abbrev cX3_at : ByteArray := prog_5_method_5_code
def yX3_at : MethodName := ⟨RX3, "at", "(I)I"⟩
abbrev cX3_put : ByteArray := prog_5_method_6_code
def yX3_put : MethodName := ⟨RX3, "put", "(I)V"⟩
abbrev cX3_shorten : ByteArray := prog_5_method_7_code
def yX3_shorten : MethodName := ⟨RX3, "shorten", "(I)V"⟩
abbrev cX3_packed : ByteArray := prog_5_method_8_code
def yX3_packed : MethodName := ⟨RX3, "packed", "(II)J"⟩
abbrev cX3_become : ByteArray := prog_5_method_9_code
def yX3_become : MethodName := ⟨RX3, "become", "(LStenoChords$Row;)V"⟩
def RX4 : String := "StenoChords$SavedStates"
def TX4 : u_T := fun k => match k with
  | 0 => ("StenoChords$SavedStates", "ring", "[LStenoChords$State;", true)
  | 1 => ("StenoChords$SavedStates", "oldest", "I", false)
  | _ => ("StenoChords$SavedStates", "size", "I", false)
def tyX4 : Nat → FieldType := fun k => match k with
  | 0 => .array (.object "StenoChords$State")
  | 1 => .int
  | _ => .int
abbrev wsX40 : List Cond := u_ws RX4 TX4 3
theorem nmX4 : ∀ a, a < 3 → ∀ b, b < 3 → a ≠ b → (TX4 a).2.1 ≠ (TX4 b).2.1 := by decide +kernel
theorem tyX4_ok : ∀ k, k < 3 → parseFieldDescriptor (TX4 k).2.2.1 = some (tyX4 k) := by decide +kernel
abbrev cX4_init : ByteArray := prog_6_method_1_code
def yX4_init : MethodName := ⟨RX4, "<init>", "()V"⟩
abbrev cX4_size : ByteArray := prog_6_method_2_code
def yX4_size : MethodName := ⟨RX4, "size", "()I"⟩
abbrev cX4_push : ByteArray := prog_6_method_3_code
def yX4_push : MethodName := ⟨RX4, "push", "(LStenoChords$State;)V"⟩
abbrev cX4_popInto : ByteArray := prog_6_method_4_code
def yX4_popInto : MethodName := ⟨RX4, "popInto", "(LStenoChords$State;)V"⟩
abbrev cX4_slotBehindOldest : ByteArray := prog_6_method_5_code
def yX4_slotBehindOldest : MethodName := ⟨RX4, "slotBehindOldest", "(I)LStenoChords$State;"⟩
def RX5 : String := "StenoChords$State"
def TX5 : u_T := fun k => match k with
  | 0 => ("StenoChords$State", "paper", "LStenoChords$Row;", true)
  | 1 => ("StenoChords$State", "entries", "LStenoChords$Entries;", true)
  | 2 => ("StenoChords$State", "eatsItems", "I", false)
  | 3 => ("StenoChords$State", "longestRead", "I", false)
  | 4 => ("StenoChords$State", "struck", "I", false)
  | 5 => ("StenoChords$State", "eaten", "I", false)
  | 6 => ("StenoChords$State", "asterisks", "I", false)
  | _ => ("StenoChords$State", "keys", "I", false)
def tyX5 : Nat → FieldType := fun k => match k with
  | 0 => .object "StenoChords$Row"
  | 1 => .object "StenoChords$Entries"
  | 2 => .int
  | 3 => .int
  | 4 => .int
  | 5 => .int
  | 6 => .int
  | _ => .int
abbrev wsX50 : List Cond := u_ws RX5 TX5 8
theorem nmX5 : ∀ a, a < 8 → ∀ b, b < 8 → a ≠ b → (TX5 a).2.1 ≠ (TX5 b).2.1 := by decide +kernel
theorem tyX5_ok : ∀ k, k < 8 → parseFieldDescriptor (TX5 k).2.2.1 = some (tyX5 k) := by decide +kernel
abbrev cX5_init : ByteArray := prog_7_method_1_code
def yX5_init : MethodName := ⟨RX5, "<init>", "()V"⟩
abbrev cX5_become : ByteArray := prog_7_method_2_code
def yX5_become : MethodName := ⟨RX5, "become", "(LStenoChords$State;)V"⟩
def RX6 : String := "StenoChords"
def TX6 : u_T := fun k => match k with
  | 0 => ("StenoChords", "now", "LStenoChords$State;", true)
  | 1 => ("StenoChords", "snapshot", "LStenoChords$State;", true)
  | 2 => ("StenoChords", "saved", "LStenoChords$SavedStates;", true)
  | 3 => ("StenoChords", "buffer", "LStenoChords$InputText;", true)
  | 4 => ("StenoChords", "reading", "LStenoChords$Reading;", true)
  | 5 => ("StenoChords", "otherPaper", "LStenoChords$Row;", true)
  | 6 => ("StenoChords", "otherReading", "LStenoChords$Reading;", true)
  | 7 => ("StenoChords", "told", "LStenoChords$Row;", true)
  | 8 => ("StenoChords", "fewest", "LStenoChords$Row;", true)
  | _ => ("StenoChords", "snapshotTaken", "Z", false)
def tyX6 : Nat → FieldType := fun k => match k with
  | 0 => .object "StenoChords$State"
  | 1 => .object "StenoChords$State"
  | 2 => .object "StenoChords$SavedStates"
  | 3 => .object "StenoChords$InputText"
  | 4 => .object "StenoChords$Reading"
  | 5 => .object "StenoChords$Row"
  | 6 => .object "StenoChords$Reading"
  | 7 => .object "StenoChords$Row"
  | 8 => .object "StenoChords$Row"
  | _ => .boolean
abbrev wsX60 : List Cond := u_ws RX6 TX6 10
theorem nmX6 : ∀ a, a < 10 → ∀ b, b < 10 → a ≠ b → (TX6 a).2.1 ≠ (TX6 b).2.1 := by decide +kernel
theorem tyX6_ok : ∀ k, k < 10 → parseFieldDescriptor (TX6 k).2.2.1 = some (tyX6 k) := by decide +kernel
abbrev cX6_init : ByteArray := prog_1_method_1_code
def yX6_init : MethodName := ⟨RX6, "<init>", "()V"⟩
abbrev cX6_strike : ByteArray := prog_1_method_2_code
def yX6_strike : MethodName := ⟨RX6, "strike", "(I)I"⟩
abbrev cX6_tear : ByteArray := prog_1_method_4_code
def yX6_tear : MethodName := ⟨RX6, "tear", "()I"⟩
abbrev cX6_pick : ByteArray := prog_1_method_5_code
def yX6_pick : MethodName := ⟨RX6, "pick", "(II)I"⟩
abbrev cX6_define : ByteArray := prog_1_method_6_code
def yX6_define : MethodName := ⟨RX6, "define", "(I)I"⟩
abbrev cX6_remove : ByteArray := prog_1_method_7_code
def yX6_remove : MethodName := ⟨RX6, "remove", "(I)I"⟩
abbrev cX6_set : ByteArray := prog_1_method_8_code
def yX6_set : MethodName := ⟨RX6, "set", "(II)I"⟩
abbrev cX6_append : ByteArray := prog_1_method_9_code
def yX6_append : MethodName := ⟨RX6, "append", "(I)I"⟩
abbrev cX6_clearBuffer : ByteArray := prog_1_method_10_code
def yX6_clearBuffer : MethodName := ⟨RX6, "clearBuffer", "()I"⟩
abbrev cX6_keep : ByteArray := prog_1_method_12_code
def yX6_keep : MethodName := ⟨RX6, "keep", "()I"⟩
abbrev cX6_goBack : ByteArray := prog_1_method_13_code
def yX6_goBack : MethodName := ⟨RX6, "goBack", "()I"⟩
abbrev cX6_undo : ByteArray := prog_1_method_14_code
def yX6_undo : MethodName := ⟨RX6, "undo", "()I"⟩
abbrev cX6_stroke : ByteArray := prog_1_method_15_code
def yX6_stroke : MethodName := ⟨RX6, "stroke", "(I)I"⟩
abbrev cX6_item : ByteArray := prog_1_method_16_code
def yX6_item : MethodName := ⟨RX6, "item", "(II)I"⟩
abbrev cX6_entry : ByteArray := prog_1_method_17_code
def yX6_entry : MethodName := ⟨RX6, "entry", "(II)I"⟩
abbrev cX6_count : ByteArray := prog_1_method_18_code
def yX6_count : MethodName := ⟨RX6, "count", "(I)I"⟩
abbrev cX6_setting : ByteArray := prog_1_method_19_code
def yX6_setting : MethodName := ⟨RX6, "setting", "(I)I"⟩
abbrev cX6_ifStruck : ByteArray := prog_1_method_20_code
def yX6_ifStruck : MethodName := ⟨RX6, "ifStruck", "(II)I"⟩
abbrev cX6_begun : ByteArray := prog_1_method_21_code
def yX6_begun : MethodName := ⟨RX6, "begun", "(I)I"⟩
abbrev cX6_shortest : ByteArray := prog_1_method_22_code
def yX6_shortest : MethodName := ⟨RX6, "shortest", "(I)I"⟩
abbrev cX6_behind : ByteArray := prog_1_method_23_code
def yX6_behind : MethodName := ⟨RX6, "behind", "(II)I"⟩
abbrev cX6_clashes : ByteArray := prog_1_method_24_code
def yX6_clashes : MethodName := ⟨RX6, "clashes", "()I"⟩
abbrev cX6_least : ByteArray := prog_1_method_25_code
def yX6_least : MethodName := ⟨RX6, "least", "()I"⟩
abbrev cX6_readShare : ByteArray := prog_1_method_26_code
def yX6_readShare : MethodName := ⟨RX6, "readShare", "()D"⟩
abbrev cX6_meanKeys : ByteArray := prog_1_method_27_code
def yX6_meanKeys : MethodName := ⟨RX6, "meanKeys", "()F"⟩
abbrev cX6_canStrike : ByteArray := prog_1_method_29_code
def yX6_canStrike : MethodName := ⟨RX6, "canStrike", "(I)Z"⟩
abbrev cX6_putOrEat : ByteArray := prog_1_method_30_code
def yX6_putOrEat : MethodName := ⟨RX6, "putOrEat", "(I)V"⟩
abbrev cX6_eat : ByteArray := prog_1_method_31_code
def yX6_eat : MethodName := ⟨RX6, "eat", "()V"⟩
abbrev cX6_readPaper : ByteArray := prog_1_method_32_code
def yX6_readPaper : MethodName := ⟨RX6, "readPaper", "()V"⟩
abbrev cX6_strokeOf : ByteArray := prog_1_method_33_code
def yX6_strokeOf : MethodName := ⟨RX6, "strokeOf", "(JI)I"⟩
abbrev cX6_strokesOf : ByteArray := prog_1_method_34_code
def yX6_strokesOf : MethodName := ⟨RX6, "strokesOf", "(J)I"⟩
abbrev cX6_canBeRow : ByteArray := prog_1_method_35_code
def yX6_canBeRow : MethodName := ⟨RX6, "canBeRow", "(LStenoChords$Row;)Z"⟩
abbrev cX6_rowOfItem : ByteArray := prog_1_method_36_code
def yX6_rowOfItem : MethodName := ⟨RX6, "rowOfItem", "(I)J"⟩
abbrev cX6_canBeSet : ByteArray := prog_1_method_37_code
def yX6_canBeSet : MethodName := ⟨RX6, "canBeSet", "(II)Z"⟩
abbrev cX6_settingNumber : ByteArray := prog_1_method_38_code
def yX6_settingNumber : MethodName := ⟨RX6, "settingNumber", "(I)I"⟩
abbrev cX6_itemNumber : ByteArray := prog_1_method_39_code
def yX6_itemNumber : MethodName := ⟨RX6, "itemNumber", "(II)I"⟩
abbrev cX6_entryNumber : ByteArray := prog_1_method_40_code
def yX6_entryNumber : MethodName := ⟨RX6, "entryNumber", "(II)I"⟩
abbrev cX6_countNumber : ByteArray := prog_1_method_41_code
def yX6_countNumber : MethodName := ⟨RX6, "countNumber", "(I)I"⟩
abbrev cX6_itemsStrokeByStroke : ByteArray := prog_1_method_42_code
def yX6_itemsStrokeByStroke : MethodName := ⟨RX6, "itemsStrokeByStroke", "()I"⟩
abbrev cX6_rawItems : ByteArray := prog_1_method_43_code
def yX6_rawItems : MethodName := ⟨RX6, "rawItems", "()I"⟩
abbrev cX6_canTell : ByteArray := prog_1_method_44_code
def yX6_canTell : MethodName := ⟨RX6, "canTell", "(II)Z"⟩
abbrev cX6_isShorter : ByteArray := prog_1_method_45_code
def yX6_isShorter : MethodName := ⟨RX6, "isShorter", "(II)Z"⟩
abbrev cX6_readBehind : ByteArray := prog_1_method_46_code
def yX6_readBehind : MethodName := ⟨RX6, "readBehind", "(II)I"⟩
abbrev cX6_putRow : ByteArray := prog_1_method_47_code
def yX6_putRow : MethodName := ⟨RX6, "putRow", "(J)V"⟩
abbrev cX6_fewestUpTo : ByteArray := prog_1_method_48_code
def yX6_fewestUpTo : MethodName := ⟨RX6, "fewestUpTo", "(I)I"⟩
def RX7 : String := "StenoChordsModel"
def TX7 : u_T := fun k => match k with
  | _ => ("", "", "", false)
def tyX7 : Nat → FieldType := fun k => match k with
  | _ => .int
abbrev wsX70 : List Cond := u_ws RX7 TX7 0
theorem nmX7 : ∀ a, a < 0 → ∀ b, b < 0 → a ≠ b → (TX7 a).2.1 ≠ (TX7 b).2.1 := by decide +kernel
theorem tyX7_ok : ∀ k, k < 0 → parseFieldDescriptor (TX7 k).2.2.1 = some (tyX7 k) := by decide +kernel
def RJ11 : String := "java/lang/Character"
def TJ11 : u_T := fun k => match k with
  | _ => ("", "", "", false)
def tyJ11 : Nat → FieldType := fun k => match k with
  | _ => .int
abbrev wsJ110 : List Cond := u_ws RJ11 TJ11 0
theorem nmJ11 : ∀ a, a < 0 → ∀ b, b < 0 → a ≠ b → (TJ11 a).2.1 ≠ (TJ11 b).2.1 := by decide +kernel
theorem tyJ11_ok : ∀ k, k < 0 → parseFieldDescriptor (TJ11 k).2.2.1 = some (tyJ11 k) := by decide +kernel
abbrev cJ11_isValidCodePoint_9a6ad : ByteArray := prog_10_method_11_code
def yJ11_isValidCodePoint_9a6ad : MethodName := ⟨RJ11, "isValidCodePoint", "(I)Z"⟩
abbrev cJ11_highSurrogate_5068e : ByteArray := prog_10_method_28_code
def yJ11_highSurrogate_5068e : MethodName := ⟨RJ11, "highSurrogate", "(I)C"⟩
abbrev cJ11_lowSurrogate_5068e : ByteArray := prog_10_method_29_code
def yJ11_lowSurrogate_5068e : MethodName := ⟨RJ11, "lowSurrogate", "(I)C"⟩
def RJ6 : String := "java/lang/Integer"
def TJ6 : u_T := fun k => match k with
  | _ => ("", "", "", false)
def tyJ6 : Nat → FieldType := fun k => match k with
  | _ => .int
abbrev wsJ60 : List Cond := u_ws RJ6 TJ6 0
theorem nmJ6 : ∀ a, a < 0 → ∀ b, b < 0 → a ≠ b → (TJ6 a).2.1 ≠ (TJ6 b).2.1 := by decide +kernel
theorem tyJ6_ok : ∀ k, k < 0 → parseFieldDescriptor (TJ6 k).2.2.1 = some (tyJ6 k) := by decide +kernel
abbrev cJ6_bitCount_0f7a4 : ByteArray := prog_15_method_49_code
def yJ6_bitCount_0f7a4 : MethodName := ⟨RJ6, "bitCount", "(I)I"⟩
def RJ13 : String := "java/lang/Long"
def TJ13 : u_T := fun k => match k with
  | _ => ("", "", "", false)
def tyJ13 : Nat → FieldType := fun k => match k with
  | _ => .int
abbrev wsJ130 : List Cond := u_ws RJ13 TJ13 0
theorem nmJ13 : ∀ a, a < 0 → ∀ b, b < 0 → a ≠ b → (TJ13 a).2.1 ≠ (TJ13 b).2.1 := by decide +kernel
theorem tyJ13_ok : ∀ k, k < 0 → parseFieldDescriptor (TJ13 k).2.2.1 = some (tyJ13 k) := by decide +kernel
abbrev cJ13_bitCount_95d88 : ByteArray := prog_16_method_50_code
def yJ13_bitCount_95d88 : MethodName := ⟨RJ13, "bitCount", "(J)I"⟩
def RJ9 : String := "java/lang/Math"
def TJ9 : u_T := fun k => match k with
  | _ => ("", "", "", false)
def tyJ9 : Nat → FieldType := fun k => match k with
  | _ => .int
abbrev wsJ90 : List Cond := u_ws RJ9 TJ9 0
theorem nmJ9 : ∀ a, a < 0 → ∀ b, b < 0 → a ≠ b → (TJ9 a).2.1 ≠ (TJ9 b).2.1 := by decide +kernel
theorem tyJ9_ok : ∀ k, k < 0 → parseFieldDescriptor (TJ9 k).2.2.1 = some (tyJ9 k) := by decide +kernel
abbrev cJ9_floorMod_7cf53 : ByteArray := prog_17_method_50_code
def yJ9_floorMod_7cf53 : MethodName := ⟨RJ9, "floorMod", "(II)I"⟩
abbrev cJ9_max_7cf53 : ByteArray := prog_17_method_65_code
def yJ9_max_7cf53 : MethodName := ⟨RJ9, "max", "(II)I"⟩
abbrev cJ9_min_7cf53 : ByteArray := prog_17_method_69_code
def yJ9_min_7cf53 : MethodName := ⟨RJ9, "min", "(II)I"⟩
def RJ0 : String := "java/lang/String"
def TJ0 : u_T := fun k => match k with
  | _ => ("", "", "", false)
def tyJ0 : Nat → FieldType := fun k => match k with
  | _ => .int
abbrev wsJ00 : List Cond := u_ws RJ0 TJ0 0
theorem nmJ0 : ∀ a, a < 0 → ∀ b, b < 0 → a ≠ b → (TJ0 a).2.1 ≠ (TJ0 b).2.1 := by decide +kernel
theorem tyJ0_ok : ∀ k, k < 0 → parseFieldDescriptor (TJ0 k).2.2.1 = some (tyJ0 k) := by decide +kernel
abbrev cJ0_length_8abf5 : ByteArray := prog_19_method_54_code
def yJ0_length_8abf5 : MethodName := ⟨RJ0, "length", "()I"⟩
abbrev cJ0_indexOf_0f7a4 : ByteArray := prog_19_method_79_code
def yJ0_indexOf_0f7a4 : MethodName := ⟨RJ0, "indexOf", "(I)I"⟩
abbrev cJ0_indexOf_7cf53 : ByteArray := prog_19_method_80_code
def yJ0_indexOf_7cf53 : MethodName := ⟨RJ0, "indexOf", "(II)I"⟩
abbrev cJ0_coder_7d493 : ByteArray := prog_19_method_152_code
def yJ0_coder_7d493 : MethodName := ⟨RJ0, "coder", "()B"⟩
abbrev cJ0_isLatin1_aae02 : ByteArray := prog_19_method_154_code
def yJ0_isLatin1_aae02 : MethodName := ⟨RJ0, "isLatin1", "()Z"⟩
abbrev cJ0_checkBoundsBeginEnd_23922 : ByteArray := prog_19_method_158_code
def yJ0_checkBoundsBeginEnd_23922 : MethodName := ⟨RJ0, "checkBoundsBeginEnd", "(III)V"⟩
def RJ1 : String := "java/lang/StringLatin1"
def TJ1 : u_T := fun k => match k with
  | _ => ("", "", "", false)
def tyJ1 : Nat → FieldType := fun k => match k with
  | _ => .int
abbrev wsJ10 : List Cond := u_ws RJ1 TJ1 0
theorem nmJ1 : ∀ a, a < 0 → ∀ b, b < 0 → a ≠ b → (TJ1 a).2.1 ≠ (TJ1 b).2.1 := by decide +kernel
theorem tyJ1_ok : ∀ k, k < 0 → parseFieldDescriptor (TJ1 k).2.2.1 = some (tyJ1 k) := by decide +kernel
abbrev cJ1_canEncode_9a6ad : ByteArray := prog_20_method_4_code
def yJ1_canEncode_9a6ad : MethodName := ⟨RJ1, "canEncode", "(I)Z"⟩
abbrev cJ1_indexOf_4cfef : ByteArray := prog_20_method_22_code
def yJ1_indexOf_4cfef : MethodName := ⟨RJ1, "indexOf", "([BIII)I"⟩
abbrev cJ1_indexOfChar_4cfef : ByteArray := prog_20_method_23_code
def yJ1_indexOfChar_4cfef : MethodName := ⟨RJ1, "indexOfChar", "([BIII)I"⟩
def RJ2 : String := "java/lang/StringUTF16"
def TJ2 : u_T := fun k => match k with
  | _ => ("", "", "", false)
def tyJ2 : Nat → FieldType := fun k => match k with
  | _ => .int
abbrev wsJ20 : List Cond := u_ws RJ2 TJ2 0
theorem nmJ2 : ∀ a, a < 0 → ∀ b, b < 0 → a ≠ b → (TJ2 a).2.1 ≠ (TJ2 b).2.1 := by decide +kernel
theorem tyJ2_ok : ∀ k, k < 0 → parseFieldDescriptor (TJ2 k).2.2.1 = some (tyJ2 k) := by decide +kernel
abbrev cJ2_getChar_3b067 : ByteArray := prog_21_method_5_code
def yJ2_getChar_3b067 : MethodName := ⟨RJ2, "getChar", "([BI)C"⟩
abbrev cJ2_length_9d52b : ByteArray := prog_21_method_6_code
def yJ2_length_9d52b : MethodName := ⟨RJ2, "length", "([B)I"⟩
abbrev cJ2_indexOf_4cfef : ByteArray := prog_21_method_40_code
def yJ2_indexOf_4cfef : MethodName := ⟨RJ2, "indexOf", "([BIII)I"⟩
abbrev cJ2_indexOfChar_4cfef : ByteArray := prog_21_method_47_code
def yJ2_indexOfChar_4cfef : MethodName := ⟨RJ2, "indexOfChar", "([BIII)I"⟩
abbrev cJ2_indexOfCharUnsafe_4cfef : ByteArray := prog_21_method_48_code
def yJ2_indexOfCharUnsafe_4cfef : MethodName := ⟨RJ2, "indexOfCharUnsafe", "([BIII)I"⟩
abbrev cJ2_indexOfSupplementary_4cfef : ByteArray := prog_21_method_49_code
def yJ2_indexOfSupplementary_4cfef : MethodName := ⟨RJ2, "indexOfSupplementary", "([BIII)I"⟩
abbrev cJ2_checkBoundsBeginEnd_d044e : ByteArray := prog_21_method_93_code
def yJ2_checkBoundsBeginEnd_d044e : MethodName := ⟨RJ2, "checkBoundsBeginEnd", "(II[B)V"⟩
def RJ3 : String := "jdk/internal/util/Preconditions"
def TJ3 : u_T := fun k => match k with
  | _ => ("", "", "", false)
def tyJ3 : Nat → FieldType := fun k => match k with
  | _ => .int
abbrev wsJ30 : List Cond := u_ws RJ3 TJ3 0
theorem nmJ3 : ∀ a, a < 0 → ∀ b, b < 0 → a ≠ b → (TJ3 a).2.1 ≠ (TJ3 b).2.1 := by decide +kernel
theorem tyJ3_ok : ∀ k, k < 0 → parseFieldDescriptor (TJ3 k).2.2.1 = some (tyJ3 k) := by decide +kernel
abbrev cJ3_checkFromToIndex_8c36e : ByteArray := prog_23_method_12_code
def yJ3_checkFromToIndex_8c36e : MethodName := ⟨RJ3, "checkFromToIndex", "(IIILjava/util/function/BiFunction;)I"⟩
def RL : String := "StenoChordsLaw"
abbrev cL_cell : ByteArray := method_2_code
def yL_cell : MethodName := ⟨RL, "cell", "([II)I"⟩
abbrev cL_up : ByteArray := method_3_code
def yL_up : MethodName := ⟨RL, "up", "(II)I"⟩
abbrev cL_looks : ByteArray := method_4_code
def yL_looks : MethodName := ⟨RL, "looks", "(LStenoChords;)J"⟩
abbrev cL_types : ByteArray := method_5_code
def yL_types : MethodName := ⟨RL, "types", "(LStenoChords;II)I"⟩
abbrev cL_isEntry : ByteArray := method_6_code
def yL_isEntry : MethodName := ⟨RL, "isEntry", "(LStenoChords;III)Z"⟩
abbrev cL_isRead : ByteArray := method_7_code
def yL_isRead : MethodName := ⟨RL, "isRead", "(LStenoChords;)Z"⟩
abbrev cL_isOn : ByteArray := method_8_code
def yL_isOn : MethodName := ⟨RL, "isOn", "(LStenoChords;II)Z"⟩
abbrev cL_areEntries : ByteArray := method_9_code
def yL_areEntries : MethodName := ⟨RL, "areEntries", "(LStenoChords;)Z"⟩
abbrev cL_areBegun : ByteArray := method_10_code
def yL_areBegun : MethodName := ⟨RL, "areBegun", "(LStenoChords;II)Z"⟩
abbrev cL_strikes : ByteArray := method_11_code
def yL_strikes : MethodName := ⟨RL, "strikes", "(LStenoChords;I)Z"⟩
abbrev cL_acts : ByteArray := method_12_code
def yL_acts : MethodName := ⟨RL, "acts", "(LStenoChords;II)Z"⟩
abbrev cL_law : ByteArray := code
def yL_law : MethodName := ⟨RL, "law", "([I)Z"⟩
abbrev vwCl : List vw_C := [(RX0, TX0, 4), (RX1, TX1, 1), (RX2, TX2, 3), (RX3, TX3, 2), (RX4, TX4, 3), (RX5, TX5, 8), (RX6, TX6, 10)]
