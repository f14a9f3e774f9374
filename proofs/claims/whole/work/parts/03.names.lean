/-! names, by program out of the Statement and the listing -/
abbrev RFB : String := "HuffForge$BestFinder"
abbrev RFR : String := "HuffForge$BitRow"
abbrev RFD : String := "HuffForge$Draft"
abbrev RFT : String := "HuffForge$Table"
abbrev RFY : String := "HuffForge$Tally"
abbrev RFF : String := "HuffForge"
abbrev RMM : String := "HuffForgeModel"
abbrev RLL : String := "HuffForgeLaw"
abbrev RJA : String := "java/util/Arrays"
def TFB : u_T := fun k => match k with
  | 0 => ("HuffForge$BestFinder", "counts", "[I", true)
  | 1 => ("HuffForge$BestFinder", "symbols", "[I", true)
  | 2 => ("HuffForge$BestFinder", "weights", "[I", true)
  | 3 => ("HuffForge$BestFinder", "groups", "[I", true)
  | 4 => ("HuffForge$BestFinder", "groupsLeft", "I", false)
  | 5 => ("HuffForge$BestFinder", "nodeOf", "[I", true)
  | 6 => ("HuffForge$BestFinder", "parents", "[I", true)
  | 7 => ("HuffForge$BestFinder", "depths", "[I", true)
  | _ => ("HuffForge$BestFinder", "nodes", "I", false)
def tyFB : Nat → FieldType := fun k => match k with
  | 0 => .array .int
  | 1 => .array .int
  | 2 => .array .int
  | 3 => .array .int
  | 4 => .int
  | 5 => .array .int
  | 6 => .array .int
  | 7 => .array .int
  | _ => .int
theorem nmFB : ∀ a, a < 9 → ∀ b, b < 9 → a ≠ b → (TFB a).2.1 ≠ (TFB b).2.1 := by decide +kernel
theorem tyFB_ok : ∀ k, k < 9 → parseFieldDescriptor (TFB k).2.2.1 = some (tyFB k) := by decide +kernel
def TFR : u_T := fun k => match k with
  | 0 => ("HuffForge$BitRow", "cells", "[I", true)
  | 1 => ("HuffForge$BitRow", "size", "I", false)
  | _ => ("HuffForge$BitRow", "place", "I", false)
def tyFR : Nat → FieldType := fun k => match k with
  | 0 => .array .int
  | 1 => .int
  | _ => .int
theorem nmFR : ∀ a, a < 3 → ∀ b, b < 3 → a ≠ b → (TFR a).2.1 ≠ (TFR b).2.1 := by decide +kernel
theorem tyFR_ok : ∀ k, k < 3 → parseFieldDescriptor (TFR k).2.2.1 = some (tyFR k) := by decide +kernel
def TFD : u_T := fun k => match k with
  | 0 => ("HuffForge$Draft", "counts", "[I", true)
  | 1 => ("HuffForge$Draft", "symbols", "[I", true)
  | 2 => ("HuffForge$Draft", "size", "I", false)
  | _ => ("HuffForge$Draft", "seen", "[Z", true)
def tyFD : Nat → FieldType := fun k => match k with
  | 0 => .array .int
  | 1 => .array .int
  | 2 => .int
  | _ => .array .boolean
theorem nmFD : ∀ a, a < 4 → ∀ b, b < 4 → a ≠ b → (TFD a).2.1 ≠ (TFD b).2.1 := by decide +kernel
theorem tyFD_ok : ∀ k, k < 4 → parseFieldDescriptor (TFD k).2.2.1 = some (tyFD k) := by decide +kernel
def TFT : u_T := fun k => match k with
  | 0 => ("HuffForge$Table", "counts", "[I", true)
  | 1 => ("HuffForge$Table", "symbols", "[I", true)
  | 2 => ("HuffForge$Table", "lengths", "[I", true)
  | 3 => ("HuffForge$Table", "codes", "[I", true)
  | _ => ("HuffForge$Table", "size", "I", false)
def tyFT : Nat → FieldType := fun k => match k with
  | 0 => .array .int
  | 1 => .array .int
  | 2 => .array .int
  | 3 => .array .int
  | _ => .int
theorem nmFT : ∀ a, a < 5 → ∀ b, b < 5 → a ≠ b → (TFT a).2.1 ≠ (TFT b).2.1 := by decide +kernel
theorem tyFT_ok : ∀ k, k < 5 → parseFieldDescriptor (TFT k).2.2.1 = some (tyFT k) := by decide +kernel
def TFY : u_T := fun k => match k with
  | 0 => ("HuffForge$Tally", "numbers", "[I", true)
  | _ => ("HuffForge$Tally", "total", "I", false)
def tyFY : Nat → FieldType := fun k => match k with
  | 0 => .array .int
  | _ => .int
theorem nmFY : ∀ a, a < 2 → ∀ b, b < 2 → a ≠ b → (TFY a).2.1 ≠ (TFY b).2.1 := by decide +kernel
theorem tyFY_ok : ∀ k, k < 2 → parseFieldDescriptor (TFY k).2.2.1 = some (tyFY k) := by decide +kernel
def TFF : u_T := fun k => match k with
  | 0 => ("HuffForge", "draft", "LHuffForge$Draft;", true)
  | 1 => ("HuffForge", "table", "LHuffForge$Table;", true)
  | 2 => ("HuffForge", "tally", "LHuffForge$Tally;", true)
  | 3 => ("HuffForge", "finder", "LHuffForge$BestFinder;", true)
  | _ => ("HuffForge", "row", "LHuffForge$BitRow;", true)
def tyFF : Nat → FieldType := fun k => match k with
  | 0 => .object "HuffForge$Draft"
  | 1 => .object "HuffForge$Table"
  | 2 => .object "HuffForge$Tally"
  | 3 => .object "HuffForge$BestFinder"
  | _ => .object "HuffForge$BitRow"
theorem nmFF : ∀ a, a < 5 → ∀ b, b < 5 → a ≠ b → (TFF a).2.1 ≠ (TFF b).2.1 := by decide +kernel
theorem tyFF_ok : ∀ k, k < 5 → parseFieldDescriptor (TFF k).2.2.1 = some (tyFF k) := by decide +kernel
def TMM : u_T := fun k => match k with
  | 0 => ("HuffForgeModel", "thrown", "I", false)
  | 1 => ("HuffForgeModel", "draft", "[I", true)
  | 2 => ("HuffForgeModel", "drafted", "[I", true)
  | 3 => ("HuffForgeModel", "drafts", "I", false)
  | 4 => ("HuffForgeModel", "counts", "[I", true)
  | 5 => ("HuffForgeModel", "symbols", "[I", true)
  | 6 => ("HuffForgeModel", "words", "I", false)
  | 7 => ("HuffForgeModel", "lengths", "[I", true)
  | 8 => ("HuffForgeModel", "codes", "[I", true)
  | 9 => ("HuffForgeModel", "often", "[I", true)
  | 10 => ("HuffForgeModel", "total", "I", false)
  | 11 => ("HuffForgeModel", "row", "[B", true)
  | 12 => ("HuffForgeModel", "size", "I", false)
  | 13 => ("HuffForgeModel", "place", "I", false)
  | 14 => ("HuffForgeModel", "number", "[I", true)
  | 15 => ("HuffForgeModel", "group", "[I", true)
  | 16 => ("HuffForgeModel", "bitsOf", "[I", true)
  | _ => ("HuffForgeModel", "many", "[I", true)
def tyMM : Nat → FieldType := fun k => match k with
  | 0 => .int
  | 1 => .array .int
  | 2 => .array .int
  | 3 => .int
  | 4 => .array .int
  | 5 => .array .int
  | 6 => .int
  | 7 => .array .int
  | 8 => .array .int
  | 9 => .array .int
  | 10 => .int
  | 11 => .array .byte
  | 12 => .int
  | 13 => .int
  | 14 => .array .int
  | 15 => .array .int
  | 16 => .array .int
  | _ => .array .int
theorem nmMM : ∀ a, a < 18 → ∀ b, b < 18 → a ≠ b → (TMM a).2.1 ≠ (TMM b).2.1 := by decide +kernel
theorem tyMM_ok : ∀ k, k < 18 → parseFieldDescriptor (TMM k).2.2.1 = some (tyMM k) := by decide +kernel
abbrev vwCl : List vw_C := [(RFB, TFB, 9), (RFR, TFR, 3), (RFD, TFD, 4), (RFT, TFT, 5), (RFY, TFY, 2), (RFF, TFF, 5), (RMM, TMM, 18)]
abbrev cFF_init : ByteArray := prog_1_method_1_code
abbrev yFF_init : MethodName := ⟨"HuffForge", "<init>", "()V"⟩
abbrev cFD_init : ByteArray := prog_4_method_1_code
abbrev yFD_init : MethodName := ⟨"HuffForge$Draft", "<init>", "()V"⟩
abbrev cFT_init : ByteArray := prog_5_method_1_code
abbrev yFT_init : MethodName := ⟨"HuffForge$Table", "<init>", "()V"⟩
abbrev cFY_init : ByteArray := prog_6_method_1_code
abbrev yFY_init : MethodName := ⟨"HuffForge$Tally", "<init>", "()V"⟩
abbrev cFB_init : ByteArray := prog_2_method_1_code
abbrev yFB_init : MethodName := ⟨"HuffForge$BestFinder", "<init>", "()V"⟩
abbrev cFR_init : ByteArray := prog_3_method_1_code
abbrev yFR_init : MethodName := ⟨"HuffForge$BitRow", "<init>", "()V"⟩
abbrev cFF_count : ByteArray := prog_1_method_2_code
abbrev yFF_count : MethodName := ⟨"HuffForge", "count", "(II)Z"⟩
abbrev cFF_isWordLength : ByteArray := prog_1_method_20_code
abbrev yFF_isWordLength : MethodName := ⟨"HuffForge", "isWordLength", "(I)Z"⟩
abbrev cFF_symbol : ByteArray := prog_1_method_3_code
abbrev yFF_symbol : MethodName := ⟨"HuffForge", "symbol", "(I)I"⟩
abbrev cFF_isSymbol : ByteArray := prog_1_method_19_code
abbrev yFF_isSymbol : MethodName := ⟨"HuffForge", "isSymbol", "(I)Z"⟩
abbrev cFF_wipe : ByteArray := prog_1_method_4_code
abbrev yFF_wipe : MethodName := ⟨"HuffForge", "wipe", "()V"⟩
abbrev cFD_clear : ByteArray := prog_4_method_2_code
abbrev yFD_clear : MethodName := ⟨"HuffForge$Draft", "clear", "()V"⟩
abbrev cJA_fill : ByteArray := prog_16_method_103_code
abbrev yJA_fill : MethodName := ⟨"java/util/Arrays", "fill", "([II)V"⟩
abbrev cFF_make : ByteArray := prog_1_method_5_code
abbrev yFF_make : MethodName := ⟨"HuffForge", "make", "()I"⟩
abbrev cFD_fault : ByteArray := prog_4_method_3_code
abbrev yFD_fault : MethodName := ⟨"HuffForge$Draft", "fault", "()I"⟩
abbrev cFD_sumOfCounts : ByteArray := prog_4_method_4_code
abbrev yFD_sumOfCounts : MethodName := ⟨"HuffForge$Draft", "sumOfCounts", "()I"⟩
abbrev cFD_hasSymbolTwice : ByteArray := prog_4_method_5_code
abbrev yFD_hasSymbolTwice : MethodName := ⟨"HuffForge$Draft", "hasSymbolTwice", "()Z"⟩
abbrev cFD_hasWordTooGreat : ByteArray := prog_4_method_6_code
abbrev yFD_hasWordTooGreat : MethodName := ⟨"HuffForge$Draft", "hasWordTooGreat", "()Z"⟩
abbrev cFT_become : ByteArray := prog_5_method_2_code
abbrev yFT_become : MethodName := ⟨"HuffForge$Table", "become", "([I[I)V"⟩
abbrev cFT_addWord : ByteArray := prog_5_method_3_code
abbrev yFT_addWord : MethodName := ⟨"HuffForge$Table", "addWord", "(III)V"⟩
abbrev cFF_forget : ByteArray := prog_1_method_7_code
abbrev yFF_forget : MethodName := ⟨"HuffForge", "forget", "()V"⟩
abbrev cFY_clear : ByteArray := prog_6_method_3_code
abbrev yFY_clear : MethodName := ⟨"HuffForge$Tally", "clear", "()V"⟩
abbrev cFF_best : ByteArray := prog_1_method_8_code
abbrev yFF_best : MethodName := ⟨"HuffForge", "best", "()J"⟩
abbrev cFB_find : ByteArray := prog_2_method_2_code
abbrev yFB_find : MethodName := ⟨"HuffForge$BestFinder", "find", "([I)V"⟩
abbrev cFB_startGroups : ByteArray := prog_2_method_3_code
abbrev yFB_startGroups : MethodName := ⟨"HuffForge$BestFinder", "startGroups", "([I)V"⟩
abbrev cFB_joinGroups : ByteArray := prog_2_method_4_code
abbrev yFB_joinGroups : MethodName := ⟨"HuffForge$BestFinder", "joinGroups", "()V"⟩
abbrev cFB_takeLeastGroup : ByteArray := prog_2_method_5_code
abbrev yFB_takeLeastGroup : MethodName := ⟨"HuffForge$BestFinder", "takeLeastGroup", "()I"⟩
abbrev cFB_comesBefore : ByteArray := prog_2_method_6_code
abbrev yFB_comesBefore : MethodName := ⟨"HuffForge$BestFinder", "comesBefore", "(II)Z"⟩
abbrev cFB_measureDepths : ByteArray := prog_2_method_7_code
abbrev yFB_measureDepths : MethodName := ⟨"HuffForge$BestFinder", "measureDepths", "()V"⟩
abbrev cFB_countLengths : ByteArray := prog_2_method_8_code
abbrev yFB_countLengths : MethodName := ⟨"HuffForge$BestFinder", "countLengths", "()V"⟩
abbrev cFB_orderSymbols : ByteArray := prog_2_method_9_code
abbrev yFB_orderSymbols : MethodName := ⟨"HuffForge$BestFinder", "orderSymbols", "()V"⟩
abbrev cFF_greatestLength : ByteArray := prog_1_method_22_code
abbrev yFF_greatestLength : MethodName := ⟨"HuffForge", "greatestLength", "([II)I"⟩
abbrev cFB_shortenLengths : ByteArray := prog_2_method_10_code
abbrev yFB_shortenLengths : MethodName := ⟨"HuffForge$BestFinder", "shortenLengths", "()V"⟩
abbrev cFB_dropLongestWord : ByteArray := prog_2_method_11_code
abbrev yFB_dropLongestWord : MethodName := ⟨"HuffForge$BestFinder", "dropLongestWord", "()V"⟩
abbrev cFT_bitsOfAll : ByteArray := prog_5_method_5_code
abbrev yFT_bitsOfAll : MethodName := ⟨"HuffForge$Table", "bitsOfAll", "([I)J"⟩
abbrev cFF_length : ByteArray := prog_1_method_9_code
abbrev yFF_length : MethodName := ⟨"HuffForge", "length", "(I)I"⟩
abbrev cFT_hasWord : ByteArray := prog_5_method_4_code
abbrev yFT_hasWord : MethodName := ⟨"HuffForge$Table", "hasWord", "(I)Z"⟩
abbrev cFF_code : ByteArray := prog_1_method_10_code
abbrev yFF_code : MethodName := ⟨"HuffForge", "code", "(I)I"⟩
abbrev cFF_of : ByteArray := prog_1_method_11_code
abbrev yFF_of : MethodName := ⟨"HuffForge", "of", "(II)I"⟩
abbrev cFF_get : ByteArray := prog_1_method_14_code
abbrev yFF_get : MethodName := ⟨"HuffForge", "get", "()I"⟩
abbrev cFR_left : ByteArray := prog_3_method_3_code
abbrev yFR_left : MethodName := ⟨"HuffForge$BitRow", "left", "()I"⟩
abbrev cFR_ahead : ByteArray := prog_3_method_5_code
abbrev yFR_ahead : MethodName := ⟨"HuffForge$BitRow", "ahead", "(I)I"⟩
abbrev cFT_symbolAhead : ByteArray := prog_5_method_6_code
abbrev yFT_symbolAhead : MethodName := ⟨"HuffForge$Table", "symbolAhead", "(II)I"⟩
abbrev cFF_bits : ByteArray := prog_1_method_15_code
abbrev yFF_bits : MethodName := ⟨"HuffForge", "bits", "(I)I"⟩
abbrev cFF_isBitNumber : ByteArray := prog_1_method_21_code
abbrev yFF_isBitNumber : MethodName := ⟨"HuffForge", "isBitNumber", "(I)Z"⟩
abbrev cFF_seek : ByteArray := prog_1_method_16_code
abbrev yFF_seek : MethodName := ⟨"HuffForge", "seek", "(I)Z"⟩
abbrev cFF_cut : ByteArray := prog_1_method_17_code
abbrev yFF_cut : MethodName := ⟨"HuffForge", "cut", "(I)Z"⟩
abbrev cFF_look : ByteArray := prog_1_method_18_code
abbrev yFF_look : MethodName := ⟨"HuffForge", "look", "(I)I"⟩
abbrev cFY_kinds : ByteArray := prog_6_method_4_code
abbrev yFY_kinds : MethodName := ⟨"HuffForge$Tally", "kinds", "()I"⟩
abbrev cLL_comes : ByteArray := method_3_code
abbrev yLL_comes : MethodName := ⟨"HuffForgeLaw", "comes", "(LHuffForge;II[J)I"⟩
abbrev cFF_comes : ByteArray := prog_1_method_6_code
abbrev yFF_comes : MethodName := ⟨"HuffForge", "comes", "(II)I"⟩
abbrev cFY_add : ByteArray := prog_6_method_2_code
abbrev yFY_add : MethodName := ⟨"HuffForge$Tally", "add", "(II)V"⟩
abbrev cLL_put : ByteArray := method_4_code
abbrev yLL_put : MethodName := ⟨"HuffForgeLaw", "put", "(LHuffForge;I[J)I"⟩
abbrev cFF_put : ByteArray := prog_1_method_12_code
abbrev yFF_put : MethodName := ⟨"HuffForge", "put", "(I)I"⟩
abbrev cFR_hasRoom : ByteArray := prog_3_method_2_code
abbrev yFR_hasRoom : MethodName := ⟨"HuffForge$BitRow", "hasRoom", "(I)Z"⟩
abbrev cFR_append : ByteArray := prog_3_method_4_code
abbrev yFR_append : MethodName := ⟨"HuffForge$BitRow", "append", "(II)V"⟩
abbrev cLL_raw : ByteArray := method_5_code
abbrev yLL_raw : MethodName := ⟨"HuffForgeLaw", "raw", "(LHuffForge;II[J)I"⟩
abbrev cFF_raw : ByteArray := prog_1_method_13_code
abbrev yFF_raw : MethodName := ⟨"HuffForge", "raw", "(II)I"⟩
abbrev cMM_init : ByteArray := prog_8_method_1_code
abbrev yMM_init : MethodName := ⟨"HuffForgeModel", "<init>", "()V"⟩
abbrev cMM_thrown : ByteArray := prog_8_method_2_code
abbrev yMM_thrown : MethodName := ⟨"HuffForgeModel", "thrown", "()I"⟩
abbrev cMM_count : ByteArray := prog_8_method_4_code
abbrev yMM_count : MethodName := ⟨"HuffForgeModel", "count", "(II)Z"⟩
abbrev cMM_symbol : ByteArray := prog_8_method_5_code
abbrev yMM_symbol : MethodName := ⟨"HuffForgeModel", "symbol", "(I)I"⟩
abbrev cMM_isSymbol : ByteArray := prog_8_method_3_code
abbrev yMM_isSymbol : MethodName := ⟨"HuffForgeModel", "isSymbol", "(I)Z"⟩
abbrev cMM_wipe : ByteArray := prog_8_method_6_code
abbrev yMM_wipe : MethodName := ⟨"HuffForgeModel", "wipe", "()V"⟩
abbrev cMM_make : ByteArray := prog_8_method_9_code
abbrev yMM_make : MethodName := ⟨"HuffForgeModel", "make", "()I"⟩
abbrev cMM_wrong : ByteArray := prog_8_method_7_code
abbrev yMM_wrong : MethodName := ⟨"HuffForgeModel", "wrong", "()I"⟩
abbrev cMM_giveWords : ByteArray := prog_8_method_8_code
abbrev yMM_giveWords : MethodName := ⟨"HuffForgeModel", "giveWords", "()V"⟩
abbrev cMM_comes : ByteArray := prog_8_method_10_code
abbrev yMM_comes : MethodName := ⟨"HuffForgeModel", "comes", "(II)I"⟩
abbrev cMM_forget : ByteArray := prog_8_method_11_code
abbrev yMM_forget : MethodName := ⟨"HuffForgeModel", "forget", "()V"⟩
abbrev cMM_best : ByteArray := prog_8_method_15_code
abbrev yMM_best : MethodName := ⟨"HuffForgeModel", "best", "()J"⟩
abbrev cMM_join : ByteArray := prog_8_method_13_code
abbrev yMM_join : MethodName := ⟨"HuffForgeModel", "join", "()V"⟩
abbrev cMM_least : ByteArray := prog_8_method_12_code
abbrev yMM_least : MethodName := ⟨"HuffForgeModel", "least", "(I)I"⟩
abbrev cMM_shorten : ByteArray := prog_8_method_14_code
abbrev yMM_shorten : MethodName := ⟨"HuffForgeModel", "shorten", "()V"⟩
abbrev cMM_length : ByteArray := prog_8_method_16_code
abbrev yMM_length : MethodName := ⟨"HuffForgeModel", "length", "(I)I"⟩
abbrev cMM_code : ByteArray := prog_8_method_17_code
abbrev yMM_code : MethodName := ⟨"HuffForgeModel", "code", "(I)I"⟩
abbrev cMM_of : ByteArray := prog_8_method_18_code
abbrev yMM_of : MethodName := ⟨"HuffForgeModel", "of", "(II)I"⟩
abbrev cMM_put : ByteArray := prog_8_method_20_code
abbrev yMM_put : MethodName := ⟨"HuffForgeModel", "put", "(I)I"⟩
abbrev cMM_lay : ByteArray := prog_8_method_19_code
abbrev yMM_lay : MethodName := ⟨"HuffForgeModel", "lay", "(II)V"⟩
abbrev cMM_raw : ByteArray := prog_8_method_21_code
abbrev yMM_raw : MethodName := ⟨"HuffForgeModel", "raw", "(II)I"⟩
abbrev cMM_get : ByteArray := prog_8_method_23_code
abbrev yMM_get : MethodName := ⟨"HuffForgeModel", "get", "()I"⟩
abbrev cMM_stands : ByteArray := prog_8_method_22_code
abbrev yMM_stands : MethodName := ⟨"HuffForgeModel", "stands", "(II)Z"⟩
abbrev cMM_bits : ByteArray := prog_8_method_24_code
abbrev yMM_bits : MethodName := ⟨"HuffForgeModel", "bits", "(I)I"⟩
abbrev cMM_seek : ByteArray := prog_8_method_25_code
abbrev yMM_seek : MethodName := ⟨"HuffForgeModel", "seek", "(I)Z"⟩
abbrev cMM_cut : ByteArray := prog_8_method_26_code
abbrev yMM_cut : MethodName := ⟨"HuffForgeModel", "cut", "(I)Z"⟩
abbrev cMM_look : ByteArray := prog_8_method_27_code
abbrev yMM_look : MethodName := ⟨"HuffForgeModel", "look", "(I)I"⟩
abbrev cLL_law : ByteArray := code
abbrev yLL_law : MethodName := ⟨"HuffForgeLaw", "law", "([I)Z"⟩
def tt_1 : List Cond := [Cond.selects "HuffForge$Draft" ⟨"HuffForge$Draft", "sumOfCounts", "()I"⟩ ⟨"HuffForge$Draft", "sumOfCounts", "()I"⟩, Cond.selects "HuffForge$Draft" ⟨"HuffForge$Draft", "hasSymbolTwice", "()Z"⟩ ⟨"HuffForge$Draft", "hasSymbolTwice", "()Z"⟩, Cond.selects "HuffForge$Draft" ⟨"HuffForge$Draft", "hasWordTooGreat", "()Z"⟩ ⟨"HuffForge$Draft", "hasWordTooGreat", "()Z"⟩, Cond.selects "HuffForge$Table" ⟨"HuffForge$Table", "addWord", "(III)V"⟩ ⟨"HuffForge$Table", "addWord", "(III)V"⟩, Cond.selects "HuffForge$BestFinder" ⟨"HuffForge$BestFinder", "startGroups", "([I)V"⟩ ⟨"HuffForge$BestFinder", "startGroups", "([I)V"⟩, Cond.selects "HuffForge$BestFinder" ⟨"HuffForge$BestFinder", "joinGroups", "()V"⟩ ⟨"HuffForge$BestFinder", "joinGroups", "()V"⟩, Cond.selects "HuffForge$BestFinder" ⟨"HuffForge$BestFinder", "takeLeastGroup", "()I"⟩ ⟨"HuffForge$BestFinder", "takeLeastGroup", "()I"⟩, Cond.selects "HuffForge$BestFinder" ⟨"HuffForge$BestFinder", "comesBefore", "(II)Z"⟩ ⟨"HuffForge$BestFinder", "comesBefore", "(II)Z"⟩, Cond.selects "HuffForge$BestFinder" ⟨"HuffForge$BestFinder", "measureDepths", "()V"⟩ ⟨"HuffForge$BestFinder", "measureDepths", "()V"⟩, Cond.selects "HuffForge$BestFinder" ⟨"HuffForge$BestFinder", "countLengths", "()V"⟩ ⟨"HuffForge$BestFinder", "countLengths", "()V"⟩, Cond.selects "HuffForge$BestFinder" ⟨"HuffForge$BestFinder", "orderSymbols", "()V"⟩ ⟨"HuffForge$BestFinder", "orderSymbols", "()V"⟩, Cond.selects "HuffForge$BestFinder" ⟨"HuffForge$BestFinder", "shortenLengths", "()V"⟩ ⟨"HuffForge$BestFinder", "shortenLengths", "()V"⟩, Cond.selects "HuffForge$BestFinder" ⟨"HuffForge$BestFinder", "dropLongestWord", "()V"⟩ ⟨"HuffForge$BestFinder", "dropLongestWord", "()V"⟩, Cond.selects "HuffForgeModel" ⟨"HuffForgeModel", "wrong", "()I"⟩ ⟨"HuffForgeModel", "wrong", "()I"⟩, Cond.selects "HuffForgeModel" ⟨"HuffForgeModel", "giveWords", "()V"⟩ ⟨"HuffForgeModel", "giveWords", "()V"⟩, Cond.selects "HuffForgeModel" ⟨"HuffForgeModel", "join", "()V"⟩ ⟨"HuffForgeModel", "join", "()V"⟩, Cond.selects "HuffForgeModel" ⟨"HuffForgeModel", "least", "(I)I"⟩ ⟨"HuffForgeModel", "least", "(I)I"⟩, Cond.selects "HuffForgeModel" ⟨"HuffForgeModel", "shorten", "()V"⟩ ⟨"HuffForgeModel", "shorten", "()V"⟩, Cond.selects "HuffForgeModel" ⟨"HuffForgeModel", "lay", "(II)V"⟩ ⟨"HuffForgeModel", "lay", "(II)V"⟩, Cond.selects "HuffForgeModel" ⟨"HuffForgeModel", "stands", "(II)Z"⟩ ⟨"HuffForgeModel", "stands", "(II)Z"⟩, Cond.initialized "HuffForgeLaw", Cond.initialized "HuffForge", Cond.initialized "HuffForge$Draft", Cond.initialized "HuffForge$Table"]
def tt_2 : List Cond := [Cond.initialized "HuffForge$Tally", Cond.initialized "HuffForge$BestFinder", Cond.initialized "HuffForge$BitRow", Cond.initialized "HuffForgeModel", Cond.initialized "java/util/Arrays", Cond.initialized "java/lang/Math", Cond.classLink "HuffForgeLaw" 8 "HuffForge", Cond.instantiable "HuffForge" 5, Cond.methodLink "HuffForgeLaw" 24 ⟨"HuffForge", "<init>", "()V"⟩, Cond.instanceMethod ⟨"HuffForge", "<init>", "()V"⟩, Cond.code ⟨"HuffForge", "<init>", "()V"⟩ prog_1_method_1_code 1 none, Cond.methodLink "HuffForge" 3 ⟨"java/lang/Object", "<init>", "()V"⟩, Cond.instanceMethod ⟨"java/lang/Object", "<init>", "()V"⟩, Cond.code ⟨"java/lang/Object", "<init>", "()V"⟩ object_method_1_code 1 none, Cond.classLink "HuffForge" 9 "HuffForge$Draft", Cond.instantiable "HuffForge$Draft" 4, Cond.instanceMethod ⟨"HuffForge$Draft", "<init>", "()V"⟩, Cond.code ⟨"HuffForge$Draft", "<init>", "()V"⟩ prog_4_method_1_code 1 none, Cond.methodLink "HuffForge$Draft" 3 ⟨"java/lang/Object", "<init>", "()V"⟩, Cond.fieldLink "HuffForge$Draft" 9 "HuffForge$Draft" "counts" "[I", Cond.fieldLink "HuffForge" 48 "HuffForge$Draft" "counts" "[I", Cond.fieldLink "HuffForge$Draft" 15 "HuffForge$Draft" "symbols" "[I", Cond.fieldLink "HuffForge" 59 "HuffForge$Draft" "symbols" "[I", Cond.fieldLink "HuffForge$Draft" 28 "HuffForge$Draft" "size" "I"]
def tt_3 : List Cond := [Cond.fieldLink "HuffForge" 55 "HuffForge$Draft" "size" "I", Cond.fieldLink "HuffForge$Draft" 18 "HuffForge$Draft" "seen" "[Z", Cond.laysFinal "HuffForge$Draft" "HuffForge$Draft" "counts" "[I", Cond.laysFinal "HuffForge$Draft" "HuffForge$Draft" "symbols" "[I", Cond.lays "HuffForge$Draft" "HuffForge$Draft" "size" "I", Cond.laysFinal "HuffForge$Draft" "HuffForge$Draft" "seen" "[Z", Cond.arrayClass .int, Cond.arrayClass .boolean, Cond.classLink "HuffForge" 16 "HuffForge$Table", Cond.instantiable "HuffForge$Table" 5, Cond.instanceMethod ⟨"HuffForge$Table", "<init>", "()V"⟩, Cond.code ⟨"HuffForge$Table", "<init>", "()V"⟩ prog_5_method_1_code 1 none, Cond.methodLink "HuffForge$Table" 3 ⟨"java/lang/Object", "<init>", "()V"⟩, Cond.fieldLink "HuffForge$Table" 9 "HuffForge$Table" "counts" "[I", Cond.fieldLink "HuffForge" 119 "HuffForge$Table" "counts" "[I", Cond.fieldLink "HuffForge$Table" 15 "HuffForge$Table" "symbols" "[I", Cond.fieldLink "HuffForge" 120 "HuffForge$Table" "symbols" "[I", Cond.fieldLink "HuffForge$Table" 18 "HuffForge$Table" "lengths" "[I", Cond.fieldLink "HuffForge" 113 "HuffForge$Table" "lengths" "[I", Cond.fieldLink "HuffForge$Table" 21 "HuffForge$Table" "codes" "[I", Cond.fieldLink "HuffForge" 116 "HuffForge$Table" "codes" "[I", Cond.fieldLink "HuffForge$Table" 30 "HuffForge$Table" "size" "I", Cond.fieldLink "HuffForge" 73 "HuffForge$Table" "size" "I", Cond.laysFinal "HuffForge$Table" "HuffForge$Table" "counts" "[I"]
def tt_4 : List Cond := [Cond.laysFinal "HuffForge$Table" "HuffForge$Table" "symbols" "[I", Cond.laysFinal "HuffForge$Table" "HuffForge$Table" "lengths" "[I", Cond.laysFinal "HuffForge$Table" "HuffForge$Table" "codes" "[I", Cond.lays "HuffForge$Table" "HuffForge$Table" "size" "I", Cond.classLink "HuffForge" 23 "HuffForge$Tally", Cond.instantiable "HuffForge$Tally" 2, Cond.instanceMethod ⟨"HuffForge$Tally", "<init>", "()V"⟩, Cond.code ⟨"HuffForge$Tally", "<init>", "()V"⟩ prog_6_method_1_code 1 none, Cond.methodLink "HuffForge$Tally" 3 ⟨"java/lang/Object", "<init>", "()V"⟩, Cond.fieldLink "HuffForge$Tally" 9 "HuffForge$Tally" "numbers" "[I", Cond.fieldLink "HuffForge" 96 "HuffForge$Tally" "numbers" "[I", Cond.fieldLink "HuffForge$Tally" 15 "HuffForge$Tally" "total" "I", Cond.fieldLink "HuffForge" 84 "HuffForge$Tally" "total" "I", Cond.laysFinal "HuffForge$Tally" "HuffForge$Tally" "numbers" "[I", Cond.lays "HuffForge$Tally" "HuffForge$Tally" "total" "I", Cond.classLink "HuffForge" 30 "HuffForge$BestFinder", Cond.instantiable "HuffForge$BestFinder" 9, Cond.instanceMethod ⟨"HuffForge$BestFinder", "<init>", "()V"⟩, Cond.code ⟨"HuffForge$BestFinder", "<init>", "()V"⟩ prog_2_method_1_code 1 none, Cond.methodLink "HuffForge$BestFinder" 3 ⟨"java/lang/Object", "<init>", "()V"⟩, Cond.fieldLink "HuffForge$BestFinder" 9 "HuffForge$BestFinder" "counts" "[I", Cond.fieldLink "HuffForge" 104 "HuffForge$BestFinder" "counts" "[I", Cond.fieldLink "HuffForge$BestFinder" 15 "HuffForge$BestFinder" "symbols" "[I", Cond.fieldLink "HuffForge" 105 "HuffForge$BestFinder" "symbols" "[I"]
def tt_5 : List Cond := [Cond.fieldLink "HuffForge$BestFinder" 18 "HuffForge$BestFinder" "weights" "[I", Cond.fieldLink "HuffForge$BestFinder" 21 "HuffForge$BestFinder" "groups" "[I", Cond.fieldLink "HuffForge$BestFinder" 43 "HuffForge$BestFinder" "groupsLeft" "I", Cond.fieldLink "HuffForge$BestFinder" 24 "HuffForge$BestFinder" "nodeOf" "[I", Cond.fieldLink "HuffForge$BestFinder" 27 "HuffForge$BestFinder" "parents" "[I", Cond.fieldLink "HuffForge$BestFinder" 30 "HuffForge$BestFinder" "depths" "[I", Cond.fieldLink "HuffForge$BestFinder" 65 "HuffForge$BestFinder" "nodes" "I", Cond.laysFinal "HuffForge$BestFinder" "HuffForge$BestFinder" "counts" "[I", Cond.laysFinal "HuffForge$BestFinder" "HuffForge$BestFinder" "symbols" "[I", Cond.laysFinal "HuffForge$BestFinder" "HuffForge$BestFinder" "weights" "[I", Cond.laysFinal "HuffForge$BestFinder" "HuffForge$BestFinder" "groups" "[I", Cond.lays "HuffForge$BestFinder" "HuffForge$BestFinder" "groupsLeft" "I", Cond.laysFinal "HuffForge$BestFinder" "HuffForge$BestFinder" "nodeOf" "[I", Cond.laysFinal "HuffForge$BestFinder" "HuffForge$BestFinder" "parents" "[I", Cond.laysFinal "HuffForge$BestFinder" "HuffForge$BestFinder" "depths" "[I", Cond.lays "HuffForge$BestFinder" "HuffForge$BestFinder" "nodes" "I", Cond.classLink "HuffForge" 37 "HuffForge$BitRow", Cond.instantiable "HuffForge$BitRow" 3, Cond.instanceMethod ⟨"HuffForge$BitRow", "<init>", "()V"⟩, Cond.code ⟨"HuffForge$BitRow", "<init>", "()V"⟩ prog_3_method_1_code 1 none, Cond.methodLink "HuffForge$BitRow" 3 ⟨"java/lang/Object", "<init>", "()V"⟩, Cond.fieldLink "HuffForge$BitRow" 9 "HuffForge$BitRow" "cells" "[I", Cond.fieldLink "HuffForge$BitRow" 16 "HuffForge$BitRow" "size" "I", Cond.fieldLink "HuffForge" 131 "HuffForge$BitRow" "size" "I"]
def tt_6 : List Cond := [Cond.fieldLink "HuffForge$BitRow" 20 "HuffForge$BitRow" "place" "I", Cond.fieldLink "HuffForge" 155 "HuffForge$BitRow" "place" "I", Cond.laysFinal "HuffForge$BitRow" "HuffForge$BitRow" "cells" "[I", Cond.lays "HuffForge$BitRow" "HuffForge$BitRow" "size" "I", Cond.lays "HuffForge$BitRow" "HuffForge$BitRow" "place" "I", Cond.fieldLink "HuffForge" 12 "HuffForge" "draft" "LHuffForge$Draft;", Cond.fieldLink "HuffForge" 19 "HuffForge" "table" "LHuffForge$Table;", Cond.fieldLink "HuffForge" 26 "HuffForge" "tally" "LHuffForge$Tally;", Cond.fieldLink "HuffForge" 33 "HuffForge" "finder" "LHuffForge$BestFinder;", Cond.fieldLink "HuffForge" 40 "HuffForge" "row" "LHuffForge$BitRow;", Cond.laysFinal "HuffForge" "HuffForge" "draft" "LHuffForge$Draft;", Cond.laysFinal "HuffForge" "HuffForge" "table" "LHuffForge$Table;", Cond.laysFinal "HuffForge" "HuffForge" "tally" "LHuffForge$Tally;", Cond.laysFinal "HuffForge" "HuffForge" "finder" "LHuffForge$BestFinder;", Cond.laysFinal "HuffForge" "HuffForge" "row" "LHuffForge$BitRow;", Cond.methodLink "HuffForgeLaw" 28 ⟨"HuffForge", "count", "(II)Z"⟩, Cond.instanceMethod ⟨"HuffForge", "count", "(II)Z"⟩, Cond.selects "HuffForge" ⟨"HuffForge", "count", "(II)Z"⟩ ⟨"HuffForge", "count", "(II)Z"⟩, Cond.code ⟨"HuffForge", "count", "(II)Z"⟩ prog_1_method_2_code 3 (some .boolean), Cond.methodLink "HuffForge" 44 ⟨"HuffForge", "isWordLength", "(I)Z"⟩, Cond.static ⟨"HuffForge", "isWordLength", "(I)Z"⟩, Cond.code ⟨"HuffForge", "isWordLength", "(I)Z"⟩ prog_1_method_20_code 1 (some .boolean), Cond.methodLink "HuffForgeLaw" 33 ⟨"HuffForge", "symbol", "(I)I"⟩, Cond.instanceMethod ⟨"HuffForge", "symbol", "(I)I"⟩]
def tt_7 : List Cond := [Cond.selects "HuffForge" ⟨"HuffForge", "symbol", "(I)I"⟩ ⟨"HuffForge", "symbol", "(I)I"⟩, Cond.code ⟨"HuffForge", "symbol", "(I)I"⟩ prog_1_method_3_code 2 (some .int), Cond.methodLink "HuffForge" 52 ⟨"HuffForge", "isSymbol", "(I)Z"⟩, Cond.static ⟨"HuffForge", "isSymbol", "(I)Z"⟩, Cond.code ⟨"HuffForge", "isSymbol", "(I)Z"⟩ prog_1_method_19_code 1 (some .boolean), Cond.methodLink "HuffForgeLaw" 37 ⟨"HuffForge", "wipe", "()V"⟩, Cond.instanceMethod ⟨"HuffForge", "wipe", "()V"⟩, Cond.selects "HuffForge" ⟨"HuffForge", "wipe", "()V"⟩ ⟨"HuffForge", "wipe", "()V"⟩, Cond.code ⟨"HuffForge", "wipe", "()V"⟩ prog_1_method_4_code 1 none, Cond.methodLink "HuffForge" 62 ⟨"HuffForge$Draft", "clear", "()V"⟩, Cond.instanceMethod ⟨"HuffForge$Draft", "clear", "()V"⟩, Cond.selects "HuffForge$Draft" ⟨"HuffForge$Draft", "clear", "()V"⟩ ⟨"HuffForge$Draft", "clear", "()V"⟩, Cond.code ⟨"HuffForge$Draft", "clear", "()V"⟩ prog_4_method_2_code 1 none, Cond.methodLink "HuffForge$Draft" 22 ⟨"java/util/Arrays", "fill", "([II)V"⟩, Cond.static ⟨"java/util/Arrays", "fill", "([II)V"⟩, Cond.code ⟨"java/util/Arrays", "fill", "([II)V"⟩ prog_16_method_103_code 4 none, Cond.methodLink "HuffForgeLaw" 41 ⟨"HuffForge", "make", "()I"⟩, Cond.instanceMethod ⟨"HuffForge", "make", "()I"⟩, Cond.selects "HuffForge" ⟨"HuffForge", "make", "()I"⟩ ⟨"HuffForge", "make", "()I"⟩, Cond.code ⟨"HuffForge", "make", "()I"⟩ prog_1_method_5_code 2 (some .int), Cond.methodLink "HuffForge" 65 ⟨"HuffForge$Draft", "fault", "()I"⟩, Cond.instanceMethod ⟨"HuffForge$Draft", "fault", "()I"⟩, Cond.selects "HuffForge$Draft" ⟨"HuffForge$Draft", "fault", "()I"⟩ ⟨"HuffForge$Draft", "fault", "()I"⟩, Cond.code ⟨"HuffForge$Draft", "fault", "()I"⟩ prog_4_method_3_code 1 (some .int)]
def tt_8 : List Cond := [Cond.methodLink "HuffForge$Draft" 32 ⟨"HuffForge$Draft", "sumOfCounts", "()I"⟩, Cond.instanceMethod ⟨"HuffForge$Draft", "sumOfCounts", "()I"⟩, Cond.code ⟨"HuffForge$Draft", "sumOfCounts", "()I"⟩ prog_4_method_4_code 3 (some .int), Cond.methodLink "HuffForge$Draft" 36 ⟨"HuffForge$Draft", "hasSymbolTwice", "()Z"⟩, Cond.instanceMethod ⟨"HuffForge$Draft", "hasSymbolTwice", "()Z"⟩, Cond.code ⟨"HuffForge$Draft", "hasSymbolTwice", "()Z"⟩ prog_4_method_5_code 2 (some .boolean), Cond.methodLink "HuffForge$Draft" 40 ⟨"HuffForge$Draft", "hasWordTooGreat", "()Z"⟩, Cond.instanceMethod ⟨"HuffForge$Draft", "hasWordTooGreat", "()Z"⟩, Cond.code ⟨"HuffForge$Draft", "hasWordTooGreat", "()Z"⟩ prog_4_method_6_code 3 (some .boolean), Cond.methodLink "HuffForge" 69 ⟨"HuffForge$Table", "become", "([I[I)V"⟩, Cond.instanceMethod ⟨"HuffForge$Table", "become", "([I[I)V"⟩, Cond.selects "HuffForge$Table" ⟨"HuffForge$Table", "become", "([I[I)V"⟩ ⟨"HuffForge$Table", "become", "([I[I)V"⟩, Cond.code ⟨"HuffForge$Table", "become", "([I[I)V"⟩ prog_5_method_2_code 6 none, Cond.methodLink "HuffForge$Table" 24 ⟨"java/util/Arrays", "fill", "([II)V"⟩, Cond.methodLink "HuffForge$Table" 34 ⟨"HuffForge$Table", "addWord", "(III)V"⟩, Cond.instanceMethod ⟨"HuffForge$Table", "addWord", "(III)V"⟩, Cond.code ⟨"HuffForge$Table", "addWord", "(III)V"⟩ prog_5_method_3_code 4 none, Cond.methodLink "HuffForgeLaw" 55 ⟨"HuffForge", "forget", "()V"⟩, Cond.instanceMethod ⟨"HuffForge", "forget", "()V"⟩, Cond.selects "HuffForge" ⟨"HuffForge", "forget", "()V"⟩ ⟨"HuffForge", "forget", "()V"⟩, Cond.code ⟨"HuffForge", "forget", "()V"⟩ prog_1_method_7_code 1 none, Cond.methodLink "HuffForge" 99 ⟨"HuffForge$Tally", "clear", "()V"⟩, Cond.instanceMethod ⟨"HuffForge$Tally", "clear", "()V"⟩, Cond.selects "HuffForge$Tally" ⟨"HuffForge$Tally", "clear", "()V"⟩ ⟨"HuffForge$Tally", "clear", "()V"⟩]
def tt_9 : List Cond := [Cond.code ⟨"HuffForge$Tally", "clear", "()V"⟩ prog_6_method_3_code 1 none, Cond.methodLink "HuffForge$Tally" 19 ⟨"java/util/Arrays", "fill", "([II)V"⟩, Cond.methodLink "HuffForgeLaw" 59 ⟨"HuffForge", "best", "()J"⟩, Cond.instanceMethod ⟨"HuffForge", "best", "()J"⟩, Cond.selects "HuffForge" ⟨"HuffForge", "best", "()J"⟩ ⟨"HuffForge", "best", "()J"⟩, Cond.code ⟨"HuffForge", "best", "()J"⟩ prog_1_method_8_code 1 (some .long), Cond.methodLink "HuffForge" 100 ⟨"HuffForge$BestFinder", "find", "([I)V"⟩, Cond.instanceMethod ⟨"HuffForge$BestFinder", "find", "([I)V"⟩, Cond.selects "HuffForge$BestFinder" ⟨"HuffForge$BestFinder", "find", "([I)V"⟩ ⟨"HuffForge$BestFinder", "find", "([I)V"⟩, Cond.code ⟨"HuffForge$BestFinder", "find", "([I)V"⟩ prog_2_method_2_code 2 none, Cond.methodLink "HuffForge$BestFinder" 33 ⟨"java/util/Arrays", "fill", "([II)V"⟩, Cond.methodLink "HuffForge$BestFinder" 39 ⟨"HuffForge$BestFinder", "startGroups", "([I)V"⟩, Cond.instanceMethod ⟨"HuffForge$BestFinder", "startGroups", "([I)V"⟩, Cond.code ⟨"HuffForge$BestFinder", "startGroups", "([I)V"⟩ prog_2_method_3_code 3 none, Cond.methodLink "HuffForge$BestFinder" 47 ⟨"HuffForge$BestFinder", "joinGroups", "()V"⟩, Cond.instanceMethod ⟨"HuffForge$BestFinder", "joinGroups", "()V"⟩, Cond.code ⟨"HuffForge$BestFinder", "joinGroups", "()V"⟩ prog_2_method_4_code 4 none, Cond.methodLink "HuffForge$BestFinder" 68 ⟨"HuffForge$BestFinder", "takeLeastGroup", "()I"⟩, Cond.instanceMethod ⟨"HuffForge$BestFinder", "takeLeastGroup", "()I"⟩, Cond.code ⟨"HuffForge$BestFinder", "takeLeastGroup", "()I"⟩ prog_2_method_5_code 3 (some .int), Cond.methodLink "HuffForge$BestFinder" 72 ⟨"HuffForge$BestFinder", "comesBefore", "(II)Z"⟩, Cond.instanceMethod ⟨"HuffForge$BestFinder", "comesBefore", "(II)Z"⟩, Cond.code ⟨"HuffForge$BestFinder", "comesBefore", "(II)Z"⟩ prog_2_method_6_code 3 (some .boolean), Cond.methodLink "HuffForge$BestFinder" 50 ⟨"HuffForge$BestFinder", "measureDepths", "()V"⟩]
def tt_10 : List Cond := [Cond.instanceMethod ⟨"HuffForge$BestFinder", "measureDepths", "()V"⟩, Cond.code ⟨"HuffForge$BestFinder", "measureDepths", "()V"⟩ prog_2_method_7_code 2 none, Cond.methodLink "HuffForge$BestFinder" 53 ⟨"HuffForge$BestFinder", "countLengths", "()V"⟩, Cond.instanceMethod ⟨"HuffForge$BestFinder", "countLengths", "()V"⟩, Cond.code ⟨"HuffForge$BestFinder", "countLengths", "()V"⟩ prog_2_method_8_code 2 none, Cond.methodLink "HuffForge$BestFinder" 56 ⟨"HuffForge$BestFinder", "orderSymbols", "()V"⟩, Cond.instanceMethod ⟨"HuffForge$BestFinder", "orderSymbols", "()V"⟩, Cond.code ⟨"HuffForge$BestFinder", "orderSymbols", "()V"⟩ prog_2_method_9_code 5 none, Cond.static ⟨"HuffForge", "greatestLength", "([II)I"⟩, Cond.code ⟨"HuffForge", "greatestLength", "([II)I"⟩ prog_1_method_22_code 3 (some .int), Cond.methodLink "HuffForge" 142 ⟨"java/lang/Math", "min", "(II)I"⟩, Cond.static ⟨"java/lang/Math", "min", "(II)I"⟩, Cond.code ⟨"java/lang/Math", "min", "(II)I"⟩ prog_12_method_69_code 2 (some .int), Cond.methodLink "HuffForge$BestFinder" 59 ⟨"HuffForge$BestFinder", "shortenLengths", "()V"⟩, Cond.instanceMethod ⟨"HuffForge$BestFinder", "shortenLengths", "()V"⟩, Cond.code ⟨"HuffForge$BestFinder", "shortenLengths", "()V"⟩ prog_2_method_10_code 4 none, Cond.methodLink "HuffForge$BestFinder" 62 ⟨"HuffForge$BestFinder", "dropLongestWord", "()V"⟩, Cond.instanceMethod ⟨"HuffForge$BestFinder", "dropLongestWord", "()V"⟩, Cond.code ⟨"HuffForge$BestFinder", "dropLongestWord", "()V"⟩ prog_2_method_11_code 1 none, Cond.methodLink "HuffForge" 106 ⟨"HuffForge$Table", "bitsOfAll", "([I)J"⟩, Cond.instanceMethod ⟨"HuffForge$Table", "bitsOfAll", "([I)J"⟩, Cond.selects "HuffForge$Table" ⟨"HuffForge$Table", "bitsOfAll", "([I)J"⟩ ⟨"HuffForge$Table", "bitsOfAll", "([I)J"⟩, Cond.code ⟨"HuffForge$Table", "bitsOfAll", "([I)J"⟩ prog_5_method_5_code 5 (some .long), Cond.methodLink "HuffForgeLaw" 64 ⟨"HuffForge", "length", "(I)I"⟩]
def tt_11 : List Cond := [Cond.instanceMethod ⟨"HuffForge", "length", "(I)I"⟩, Cond.selects "HuffForge" ⟨"HuffForge", "length", "(I)I"⟩ ⟨"HuffForge", "length", "(I)I"⟩, Cond.code ⟨"HuffForge", "length", "(I)I"⟩ prog_1_method_9_code 2 (some .int), Cond.methodLink "HuffForge" 110 ⟨"HuffForge$Table", "hasWord", "(I)Z"⟩, Cond.instanceMethod ⟨"HuffForge$Table", "hasWord", "(I)Z"⟩, Cond.selects "HuffForge$Table" ⟨"HuffForge$Table", "hasWord", "(I)Z"⟩ ⟨"HuffForge$Table", "hasWord", "(I)Z"⟩, Cond.code ⟨"HuffForge$Table", "hasWord", "(I)Z"⟩ prog_5_method_4_code 2 (some .boolean), Cond.methodLink "HuffForgeLaw" 68 ⟨"HuffForge", "code", "(I)I"⟩, Cond.instanceMethod ⟨"HuffForge", "code", "(I)I"⟩, Cond.selects "HuffForge" ⟨"HuffForge", "code", "(I)I"⟩ ⟨"HuffForge", "code", "(I)I"⟩, Cond.code ⟨"HuffForge", "code", "(I)I"⟩ prog_1_method_10_code 2 (some .int), Cond.methodLink "HuffForgeLaw" 72 ⟨"HuffForge", "of", "(II)I"⟩, Cond.instanceMethod ⟨"HuffForge", "of", "(II)I"⟩, Cond.selects "HuffForge" ⟨"HuffForge", "of", "(II)I"⟩ ⟨"HuffForge", "of", "(II)I"⟩, Cond.code ⟨"HuffForge", "of", "(II)I"⟩ prog_1_method_11_code 3 (some .int), Cond.methodLink "HuffForgeLaw" 83 ⟨"HuffForge", "get", "()I"⟩, Cond.instanceMethod ⟨"HuffForge", "get", "()I"⟩, Cond.selects "HuffForge" ⟨"HuffForge", "get", "()I"⟩ ⟨"HuffForge", "get", "()I"⟩, Cond.code ⟨"HuffForge", "get", "()I"⟩ prog_1_method_14_code 3 (some .int), Cond.methodLink "HuffForge" 139 ⟨"HuffForge$BitRow", "left", "()I"⟩, Cond.instanceMethod ⟨"HuffForge$BitRow", "left", "()I"⟩, Cond.selects "HuffForge$BitRow" ⟨"HuffForge$BitRow", "left", "()I"⟩ ⟨"HuffForge$BitRow", "left", "()I"⟩, Cond.code ⟨"HuffForge$BitRow", "left", "()I"⟩ prog_3_method_3_code 1 (some .int), Cond.methodLink "HuffForge" 148 ⟨"HuffForge$BitRow", "ahead", "(I)I"⟩]
def tt_12 : List Cond := [Cond.instanceMethod ⟨"HuffForge$BitRow", "ahead", "(I)I"⟩, Cond.selects "HuffForge$BitRow" ⟨"HuffForge$BitRow", "ahead", "(I)I"⟩ ⟨"HuffForge$BitRow", "ahead", "(I)I"⟩, Cond.code ⟨"HuffForge$BitRow", "ahead", "(I)I"⟩ prog_3_method_5_code 4 (some .int), Cond.methodLink "HuffForge" 152 ⟨"HuffForge$Table", "symbolAhead", "(II)I"⟩, Cond.instanceMethod ⟨"HuffForge$Table", "symbolAhead", "(II)I"⟩, Cond.selects "HuffForge$Table" ⟨"HuffForge$Table", "symbolAhead", "(II)I"⟩ ⟨"HuffForge$Table", "symbolAhead", "(II)I"⟩, Cond.code ⟨"HuffForge$Table", "symbolAhead", "(II)I"⟩ prog_5_method_6_code 7 (some .int), Cond.methodLink "HuffForgeLaw" 87 ⟨"HuffForge", "bits", "(I)I"⟩, Cond.instanceMethod ⟨"HuffForge", "bits", "(I)I"⟩, Cond.selects "HuffForge" ⟨"HuffForge", "bits", "(I)I"⟩ ⟨"HuffForge", "bits", "(I)I"⟩, Cond.code ⟨"HuffForge", "bits", "(I)I"⟩ prog_1_method_15_code 3 (some .int), Cond.methodLink "HuffForge" 132 ⟨"HuffForge", "isBitNumber", "(I)Z"⟩, Cond.static ⟨"HuffForge", "isBitNumber", "(I)Z"⟩, Cond.code ⟨"HuffForge", "isBitNumber", "(I)Z"⟩ prog_1_method_21_code 1 (some .boolean), Cond.methodLink "HuffForgeLaw" 91 ⟨"HuffForge", "seek", "(I)Z"⟩, Cond.instanceMethod ⟨"HuffForge", "seek", "(I)Z"⟩, Cond.selects "HuffForge" ⟨"HuffForge", "seek", "(I)Z"⟩ ⟨"HuffForge", "seek", "(I)Z"⟩, Cond.code ⟨"HuffForge", "seek", "(I)Z"⟩ prog_1_method_16_code 2 (some .boolean), Cond.methodLink "HuffForgeLaw" 96 ⟨"HuffForge", "cut", "(I)Z"⟩, Cond.instanceMethod ⟨"HuffForge", "cut", "(I)Z"⟩, Cond.selects "HuffForge" ⟨"HuffForge", "cut", "(I)Z"⟩ ⟨"HuffForge", "cut", "(I)Z"⟩, Cond.code ⟨"HuffForge", "cut", "(I)Z"⟩ prog_1_method_17_code 2 (some .boolean), Cond.methodLink "HuffForgeLaw" 100 ⟨"HuffForge", "look", "(I)I"⟩, Cond.instanceMethod ⟨"HuffForge", "look", "(I)I"⟩]
def tt_13 : List Cond := [Cond.selects "HuffForge" ⟨"HuffForge", "look", "(I)I"⟩ ⟨"HuffForge", "look", "(I)I"⟩, Cond.code ⟨"HuffForge", "look", "(I)I"⟩ prog_1_method_18_code 2 (some .int), Cond.methodLink "HuffForge" 158 ⟨"HuffForge$Tally", "kinds", "()I"⟩, Cond.instanceMethod ⟨"HuffForge$Tally", "kinds", "()I"⟩, Cond.selects "HuffForge$Tally" ⟨"HuffForge$Tally", "kinds", "()I"⟩ ⟨"HuffForge$Tally", "kinds", "()I"⟩, Cond.code ⟨"HuffForge$Tally", "kinds", "()I"⟩ prog_6_method_4_code 3 (some .int), Cond.methodLink "HuffForge" 161 ⟨"HuffForge", "greatestLength", "([II)I"⟩, Cond.methodLink "HuffForgeLaw" 46 ⟨"HuffForgeLaw", "comes", "(LHuffForge;II[J)I"⟩, Cond.static ⟨"HuffForgeLaw", "comes", "(LHuffForge;II[J)I"⟩, Cond.codeWith ⟨"HuffForgeLaw", "comes", "(LHuffForge;II[J)I"⟩ method_3_code 5 (some .int) [(0, 10, 13, 13), (0, 10, 17, 15)], Cond.classLink "HuffForgeLaw" 13 "java/lang/IllegalArgumentException", Cond.classLink "HuffForgeLaw" 15 "java/lang/IllegalStateException", Cond.methodLink "HuffForgeLaw" 7 ⟨"HuffForge", "comes", "(II)I"⟩, Cond.instanceMethod ⟨"HuffForge", "comes", "(II)I"⟩, Cond.selects "HuffForge" ⟨"HuffForge", "comes", "(II)I"⟩ ⟨"HuffForge", "comes", "(II)I"⟩, Cond.code ⟨"HuffForge", "comes", "(II)I"⟩ prog_1_method_6_code 3 (some .int), Cond.arrayClass .byte, Cond.constant "HuffForge" 83 1000000, Cond.methodLink "HuffForge" 92 ⟨"HuffForge$Tally", "add", "(II)V"⟩, Cond.instanceMethod ⟨"HuffForge$Tally", "add", "(II)V"⟩, Cond.selects "HuffForge$Tally" ⟨"HuffForge$Tally", "add", "(II)V"⟩ ⟨"HuffForge$Tally", "add", "(II)V"⟩, Cond.code ⟨"HuffForge$Tally", "add", "(II)V"⟩ prog_6_method_2_code 3 none, Cond.methodLink "HuffForgeLaw" 76 ⟨"HuffForgeLaw", "put", "(LHuffForge;I[J)I"⟩, Cond.static ⟨"HuffForgeLaw", "put", "(LHuffForge;I[J)I"⟩]
def tt_14 : List Cond := [Cond.codeWith ⟨"HuffForgeLaw", "put", "(LHuffForge;I[J)I"⟩ method_4_code 4 (some .int) [(0, 9, 12, 13), (0, 9, 15, 15)], Cond.methodLink "HuffForgeLaw" 17 ⟨"HuffForge", "put", "(I)I"⟩, Cond.instanceMethod ⟨"HuffForge", "put", "(I)I"⟩, Cond.selects "HuffForge" ⟨"HuffForge", "put", "(I)I"⟩ ⟨"HuffForge", "put", "(I)I"⟩, Cond.code ⟨"HuffForge", "put", "(I)I"⟩ prog_1_method_12_code 2 (some .int), Cond.methodLink "HuffForge" 123 ⟨"HuffForge$BitRow", "hasRoom", "(I)Z"⟩, Cond.instanceMethod ⟨"HuffForge$BitRow", "hasRoom", "(I)Z"⟩, Cond.selects "HuffForge$BitRow" ⟨"HuffForge$BitRow", "hasRoom", "(I)Z"⟩ ⟨"HuffForge$BitRow", "hasRoom", "(I)Z"⟩, Cond.code ⟨"HuffForge$BitRow", "hasRoom", "(I)Z"⟩ prog_3_method_2_code 2 (some .boolean), Cond.constant "HuffForge$BitRow" 15 65536, Cond.methodLink "HuffForge" 128 ⟨"HuffForge$BitRow", "append", "(II)V"⟩, Cond.instanceMethod ⟨"HuffForge$BitRow", "append", "(II)V"⟩, Cond.selects "HuffForge$BitRow" ⟨"HuffForge$BitRow", "append", "(II)V"⟩ ⟨"HuffForge$BitRow", "append", "(II)V"⟩, Cond.code ⟨"HuffForge$BitRow", "append", "(II)V"⟩ prog_3_method_4_code 6 none, Cond.methodLink "HuffForgeLaw" 80 ⟨"HuffForgeLaw", "raw", "(LHuffForge;II[J)I"⟩, Cond.static ⟨"HuffForgeLaw", "raw", "(LHuffForge;II[J)I"⟩, Cond.codeWith ⟨"HuffForgeLaw", "raw", "(LHuffForge;II[J)I"⟩ method_5_code 5 (some .int) [(0, 10, 13, 13), (0, 10, 17, 15)], Cond.methodLink "HuffForgeLaw" 21 ⟨"HuffForge", "raw", "(II)I"⟩, Cond.instanceMethod ⟨"HuffForge", "raw", "(II)I"⟩, Cond.selects "HuffForge" ⟨"HuffForge", "raw", "(II)I"⟩ ⟨"HuffForge", "raw", "(II)I"⟩, Cond.code ⟨"HuffForge", "raw", "(II)I"⟩ prog_1_method_13_code 3 (some .int), Cond.classLink "HuffForgeLaw" 25 "HuffForgeModel", Cond.instantiable "HuffForgeModel" 18, Cond.methodLink "HuffForgeLaw" 27 ⟨"HuffForgeModel", "<init>", "()V"⟩]
def tt_15 : List Cond := [Cond.instanceMethod ⟨"HuffForgeModel", "<init>", "()V"⟩, Cond.code ⟨"HuffForgeModel", "<init>", "()V"⟩ prog_8_method_1_code 1 none, Cond.methodLink "HuffForgeModel" 1 ⟨"java/lang/Object", "<init>", "()V"⟩, Cond.constant "HuffForgeModel" 31 65536, Cond.fieldLink "HuffForgeModel" 48 "HuffForgeModel" "thrown" "I", Cond.fieldLink "HuffForgeModel" 7 "HuffForgeModel" "draft" "[I", Cond.fieldLink "HuffForgeModel" 13 "HuffForgeModel" "drafted" "[I", Cond.fieldLink "HuffForgeModel" 56 "HuffForgeModel" "drafts" "I", Cond.fieldLink "HuffForgeModel" 16 "HuffForgeModel" "counts" "[I", Cond.fieldLink "HuffForgeModel" 19 "HuffForgeModel" "symbols" "[I", Cond.fieldLink "HuffForgeModel" 65 "HuffForgeModel" "words" "I", Cond.fieldLink "HuffForgeModel" 22 "HuffForgeModel" "lengths" "[I", Cond.fieldLink "HuffForgeModel" 25 "HuffForgeModel" "codes" "[I", Cond.fieldLink "HuffForgeModel" 28 "HuffForgeModel" "often" "[I", Cond.fieldLink "HuffForgeModel" 72 "HuffForgeModel" "total" "I", Cond.fieldLink "HuffForgeModel" 32 "HuffForgeModel" "row" "[B", Cond.fieldLink "HuffForgeModel" 85 "HuffForgeModel" "size" "I", Cond.fieldLink "HuffForgeModel" 92 "HuffForgeModel" "place" "I", Cond.fieldLink "HuffForgeModel" 36 "HuffForgeModel" "number" "[I", Cond.fieldLink "HuffForgeModel" 39 "HuffForgeModel" "group" "[I", Cond.fieldLink "HuffForgeModel" 42 "HuffForgeModel" "bitsOf" "[I", Cond.fieldLink "HuffForgeModel" 45 "HuffForgeModel" "many" "[I", Cond.lays "HuffForgeModel" "HuffForgeModel" "thrown" "I", Cond.laysFinal "HuffForgeModel" "HuffForgeModel" "draft" "[I"]
def tt_16 : List Cond := [Cond.laysFinal "HuffForgeModel" "HuffForgeModel" "drafted" "[I", Cond.lays "HuffForgeModel" "HuffForgeModel" "drafts" "I", Cond.laysFinal "HuffForgeModel" "HuffForgeModel" "counts" "[I", Cond.laysFinal "HuffForgeModel" "HuffForgeModel" "symbols" "[I", Cond.lays "HuffForgeModel" "HuffForgeModel" "words" "I", Cond.laysFinal "HuffForgeModel" "HuffForgeModel" "lengths" "[I", Cond.laysFinal "HuffForgeModel" "HuffForgeModel" "codes" "[I", Cond.laysFinal "HuffForgeModel" "HuffForgeModel" "often" "[I", Cond.lays "HuffForgeModel" "HuffForgeModel" "total" "I", Cond.laysFinal "HuffForgeModel" "HuffForgeModel" "row" "[B", Cond.lays "HuffForgeModel" "HuffForgeModel" "size" "I", Cond.lays "HuffForgeModel" "HuffForgeModel" "place" "I", Cond.laysFinal "HuffForgeModel" "HuffForgeModel" "number" "[I", Cond.laysFinal "HuffForgeModel" "HuffForgeModel" "group" "[I", Cond.laysFinal "HuffForgeModel" "HuffForgeModel" "bitsOf" "[I", Cond.laysFinal "HuffForgeModel" "HuffForgeModel" "many" "[I", Cond.methodLink "HuffForgeLaw" 52 ⟨"HuffForgeModel", "thrown", "()I"⟩, Cond.instanceMethod ⟨"HuffForgeModel", "thrown", "()I"⟩, Cond.selects "HuffForgeModel" ⟨"HuffForgeModel", "thrown", "()I"⟩ ⟨"HuffForgeModel", "thrown", "()I"⟩, Cond.code ⟨"HuffForgeModel", "thrown", "()I"⟩ prog_8_method_2_code 1 (some .int), Cond.methodLink "HuffForgeLaw" 32 ⟨"HuffForgeModel", "count", "(II)Z"⟩, Cond.instanceMethod ⟨"HuffForgeModel", "count", "(II)Z"⟩, Cond.selects "HuffForgeModel" ⟨"HuffForgeModel", "count", "(II)Z"⟩ ⟨"HuffForgeModel", "count", "(II)Z"⟩, Cond.code ⟨"HuffForgeModel", "count", "(II)Z"⟩ prog_8_method_4_code 3 (some .boolean)]
def tt_17 : List Cond := [Cond.methodLink "HuffForgeLaw" 36 ⟨"HuffForgeModel", "symbol", "(I)I"⟩, Cond.instanceMethod ⟨"HuffForgeModel", "symbol", "(I)I"⟩, Cond.selects "HuffForgeModel" ⟨"HuffForgeModel", "symbol", "(I)I"⟩ ⟨"HuffForgeModel", "symbol", "(I)I"⟩, Cond.code ⟨"HuffForgeModel", "symbol", "(I)I"⟩ prog_8_method_5_code 2 (some .int), Cond.methodLink "HuffForgeModel" 52 ⟨"HuffForgeModel", "isSymbol", "(I)Z"⟩, Cond.static ⟨"HuffForgeModel", "isSymbol", "(I)Z"⟩, Cond.code ⟨"HuffForgeModel", "isSymbol", "(I)Z"⟩ prog_8_method_3_code 1 (some .boolean), Cond.methodLink "HuffForgeLaw" 40 ⟨"HuffForgeModel", "wipe", "()V"⟩, Cond.instanceMethod ⟨"HuffForgeModel", "wipe", "()V"⟩, Cond.selects "HuffForgeModel" ⟨"HuffForgeModel", "wipe", "()V"⟩ ⟨"HuffForgeModel", "wipe", "()V"⟩, Cond.code ⟨"HuffForgeModel", "wipe", "()V"⟩ prog_8_method_6_code 2 none, Cond.methodLink "HuffForgeLaw" 45 ⟨"HuffForgeModel", "make", "()I"⟩, Cond.instanceMethod ⟨"HuffForgeModel", "make", "()I"⟩, Cond.selects "HuffForgeModel" ⟨"HuffForgeModel", "make", "()I"⟩ ⟨"HuffForgeModel", "make", "()I"⟩, Cond.code ⟨"HuffForgeModel", "make", "()I"⟩ prog_8_method_9_code 3 (some .int), Cond.methodLink "HuffForgeModel" 61 ⟨"HuffForgeModel", "wrong", "()I"⟩, Cond.instanceMethod ⟨"HuffForgeModel", "wrong", "()I"⟩, Cond.code ⟨"HuffForgeModel", "wrong", "()I"⟩ prog_8_method_7_code 6 (some .int), Cond.constantLong "HuffForgeModel" 59 2, Cond.methodLink "HuffForgeModel" 68 ⟨"HuffForgeModel", "giveWords", "()V"⟩, Cond.instanceMethod ⟨"HuffForgeModel", "giveWords", "()V"⟩, Cond.code ⟨"HuffForgeModel", "giveWords", "()V"⟩ prog_8_method_8_code 5 none, Cond.methodLink "HuffForgeLaw" 51 ⟨"HuffForgeModel", "comes", "(II)I"⟩, Cond.instanceMethod ⟨"HuffForgeModel", "comes", "(II)I"⟩]
def tt_18 : List Cond := [Cond.selects "HuffForgeModel" ⟨"HuffForgeModel", "comes", "(II)I"⟩ ⟨"HuffForgeModel", "comes", "(II)I"⟩, Cond.code ⟨"HuffForgeModel", "comes", "(II)I"⟩ prog_8_method_10_code 3 (some .int), Cond.constant "HuffForgeModel" 71 1000000, Cond.methodLink "HuffForgeLaw" 58 ⟨"HuffForgeModel", "forget", "()V"⟩, Cond.instanceMethod ⟨"HuffForgeModel", "forget", "()V"⟩, Cond.selects "HuffForgeModel" ⟨"HuffForgeModel", "forget", "()V"⟩ ⟨"HuffForgeModel", "forget", "()V"⟩, Cond.code ⟨"HuffForgeModel", "forget", "()V"⟩ prog_8_method_11_code 2 none, Cond.methodLink "HuffForgeLaw" 63 ⟨"HuffForgeModel", "best", "()J"⟩, Cond.instanceMethod ⟨"HuffForgeModel", "best", "()J"⟩, Cond.selects "HuffForgeModel" ⟨"HuffForgeModel", "best", "()J"⟩ ⟨"HuffForgeModel", "best", "()J"⟩, Cond.code ⟨"HuffForgeModel", "best", "()J"⟩ prog_8_method_15_code 4 (some .long), Cond.methodLink "HuffForgeModel" 79 ⟨"HuffForgeModel", "join", "()V"⟩, Cond.instanceMethod ⟨"HuffForgeModel", "join", "()V"⟩, Cond.code ⟨"HuffForgeModel", "join", "()V"⟩ prog_8_method_13_code 4 none, Cond.methodLink "HuffForgeModel" 75 ⟨"HuffForgeModel", "least", "(I)I"⟩, Cond.instanceMethod ⟨"HuffForgeModel", "least", "(I)I"⟩, Cond.code ⟨"HuffForgeModel", "least", "(I)I"⟩ prog_8_method_12_code 4 (some .int), Cond.methodLink "HuffForgeModel" 82 ⟨"HuffForgeModel", "shorten", "()V"⟩, Cond.instanceMethod ⟨"HuffForgeModel", "shorten", "()V"⟩, Cond.code ⟨"HuffForgeModel", "shorten", "()V"⟩ prog_8_method_14_code 3 none, Cond.methodLink "HuffForgeLaw" 67 ⟨"HuffForgeModel", "length", "(I)I"⟩, Cond.instanceMethod ⟨"HuffForgeModel", "length", "(I)I"⟩, Cond.selects "HuffForgeModel" ⟨"HuffForgeModel", "length", "(I)I"⟩ ⟨"HuffForgeModel", "length", "(I)I"⟩, Cond.code ⟨"HuffForgeModel", "length", "(I)I"⟩ prog_8_method_16_code 2 (some .int)]
def tt_19 : List Cond := [Cond.methodLink "HuffForgeLaw" 71 ⟨"HuffForgeModel", "code", "(I)I"⟩, Cond.instanceMethod ⟨"HuffForgeModel", "code", "(I)I"⟩, Cond.selects "HuffForgeModel" ⟨"HuffForgeModel", "code", "(I)I"⟩ ⟨"HuffForgeModel", "code", "(I)I"⟩, Cond.code ⟨"HuffForgeModel", "code", "(I)I"⟩ prog_8_method_17_code 2 (some .int), Cond.methodLink "HuffForgeLaw" 75 ⟨"HuffForgeModel", "of", "(II)I"⟩, Cond.instanceMethod ⟨"HuffForgeModel", "of", "(II)I"⟩, Cond.selects "HuffForgeModel" ⟨"HuffForgeModel", "of", "(II)I"⟩ ⟨"HuffForgeModel", "of", "(II)I"⟩, Cond.code ⟨"HuffForgeModel", "of", "(II)I"⟩ prog_8_method_18_code 3 (some .int), Cond.methodLink "HuffForgeLaw" 79 ⟨"HuffForgeModel", "put", "(I)I"⟩, Cond.instanceMethod ⟨"HuffForgeModel", "put", "(I)I"⟩, Cond.selects "HuffForgeModel" ⟨"HuffForgeModel", "put", "(I)I"⟩ ⟨"HuffForgeModel", "put", "(I)I"⟩, Cond.code ⟨"HuffForgeModel", "put", "(I)I"⟩ prog_8_method_20_code 3 (some .int), Cond.methodLink "HuffForgeModel" 88 ⟨"HuffForgeModel", "lay", "(II)V"⟩, Cond.instanceMethod ⟨"HuffForgeModel", "lay", "(II)V"⟩, Cond.code ⟨"HuffForgeModel", "lay", "(II)V"⟩ prog_8_method_19_code 4 none, Cond.methodLink "HuffForgeLaw" 82 ⟨"HuffForgeModel", "raw", "(II)I"⟩, Cond.instanceMethod ⟨"HuffForgeModel", "raw", "(II)I"⟩, Cond.selects "HuffForgeModel" ⟨"HuffForgeModel", "raw", "(II)I"⟩ ⟨"HuffForgeModel", "raw", "(II)I"⟩, Cond.code ⟨"HuffForgeModel", "raw", "(II)I"⟩ prog_8_method_21_code 3 (some .int), Cond.methodLink "HuffForgeLaw" 86 ⟨"HuffForgeModel", "get", "()I"⟩, Cond.instanceMethod ⟨"HuffForgeModel", "get", "()I"⟩, Cond.selects "HuffForgeModel" ⟨"HuffForgeModel", "get", "()I"⟩ ⟨"HuffForgeModel", "get", "()I"⟩, Cond.code ⟨"HuffForgeModel", "get", "()I"⟩ prog_8_method_23_code 4 (some .int), Cond.methodLink "HuffForgeModel" 95 ⟨"HuffForgeModel", "stands", "(II)Z"⟩]
def tt_20 : List Cond := [Cond.instanceMethod ⟨"HuffForgeModel", "stands", "(II)Z"⟩, Cond.code ⟨"HuffForgeModel", "stands", "(II)Z"⟩ prog_8_method_22_code 5 (some .boolean), Cond.methodLink "HuffForgeLaw" 90 ⟨"HuffForgeModel", "bits", "(I)I"⟩, Cond.instanceMethod ⟨"HuffForgeModel", "bits", "(I)I"⟩, Cond.selects "HuffForgeModel" ⟨"HuffForgeModel", "bits", "(I)I"⟩ ⟨"HuffForgeModel", "bits", "(I)I"⟩, Cond.code ⟨"HuffForgeModel", "bits", "(I)I"⟩ prog_8_method_24_code 4 (some .int), Cond.methodLink "HuffForgeLaw" 95 ⟨"HuffForgeModel", "seek", "(I)Z"⟩, Cond.instanceMethod ⟨"HuffForgeModel", "seek", "(I)Z"⟩, Cond.selects "HuffForgeModel" ⟨"HuffForgeModel", "seek", "(I)Z"⟩ ⟨"HuffForgeModel", "seek", "(I)Z"⟩, Cond.code ⟨"HuffForgeModel", "seek", "(I)Z"⟩ prog_8_method_25_code 2 (some .boolean), Cond.methodLink "HuffForgeLaw" 99 ⟨"HuffForgeModel", "cut", "(I)Z"⟩, Cond.instanceMethod ⟨"HuffForgeModel", "cut", "(I)Z"⟩, Cond.selects "HuffForgeModel" ⟨"HuffForgeModel", "cut", "(I)Z"⟩ ⟨"HuffForgeModel", "cut", "(I)Z"⟩, Cond.code ⟨"HuffForgeModel", "cut", "(I)Z"⟩ prog_8_method_26_code 2 (some .boolean), Cond.methodLink "HuffForgeLaw" 103 ⟨"HuffForgeModel", "look", "(I)I"⟩, Cond.instanceMethod ⟨"HuffForgeModel", "look", "(I)I"⟩, Cond.selects "HuffForgeModel" ⟨"HuffForgeModel", "look", "(I)I"⟩ ⟨"HuffForgeModel", "look", "(I)I"⟩, Cond.code ⟨"HuffForgeModel", "look", "(I)I"⟩ prog_8_method_27_code 5 (some .int), Cond.arrayClass .long]
/-- the words that every method is given -/
def tt : List Cond := tt_1 ++ (tt_2 ++ (tt_3 ++ (tt_4 ++ (tt_5 ++ (tt_6 ++ (tt_7 ++ (tt_8 ++ (tt_9 ++ (tt_10 ++ (tt_11 ++ (tt_12 ++ (tt_13 ++ (tt_14 ++ (tt_15 ++ (tt_16 ++ (tt_17 ++ (tt_18 ++ (tt_19 ++ (tt_20)))))))))))))))))))
theorem tt_mem {big ws : List Cond} (ps : List Nat) (hp : ws = ps.filterMap (fun i => big[i]?)) : ∀ w ∈ ws, w ∈ big := by
  intro w hw
  rw [hp] at hw
  obtain ⟨i, -, hi⟩ := List.mem_filterMap.mp hw
  exact List.mem_of_getElem? hi
set_option maxRecDepth 20000 in
theorem tt_in_1 : ∀ w ∈ tt_1, w ∈ lw_tbl := tt_mem [0, 1, 2, 3, 4, 5, 6, 7, 8, 9, 10, 11, 12, 14, 15, 16, 17, 18, 19, 20, 21, 22, 23, 24] rfl
theorem tt_gd_1 : tt_1.all goodWord = true := by decide +kernel
set_option maxRecDepth 20000 in
theorem tt_in_2 : ∀ w ∈ tt_2, w ∈ lw_tbl := tt_mem [25, 26, 27, 28, 29, 35, 36, 37, 38, 39, 40, 41, 42, 43, 44, 45, 47, 48, 49, 50, 51, 52, 53, 54] rfl
theorem tt_gd_2 : tt_2.all goodWord = true := by decide +kernel
set_option maxRecDepth 20000 in
theorem tt_in_3 : ∀ w ∈ tt_3, w ∈ lw_tbl := tt_mem [55, 56, 57, 59, 61, 63, 66, 67, 68, 69, 71, 72, 73, 74, 75, 76, 77, 78, 79, 80, 81, 82, 83, 84] rfl
theorem tt_gd_3 : tt_3.all goodWord = true := by decide +kernel
set_option maxRecDepth 20000 in
theorem tt_in_4 : ∀ w ∈ tt_4, w ∈ lw_tbl := tt_mem [86, 88, 90, 92, 95, 96, 98, 99, 100, 101, 102, 103, 104, 105, 107, 110, 111, 113, 114, 115, 116, 117, 118, 119] rfl
theorem tt_gd_4 : tt_4.all goodWord = true := by decide +kernel
set_option maxRecDepth 20000 in
theorem tt_in_5 : ∀ w ∈ tt_5, w ∈ lw_tbl := tt_mem [120, 121, 122, 123, 124, 125, 126, 127, 129, 131, 133, 135, 137, 139, 141, 143, 146, 147, 149, 150, 151, 152, 153, 154] rfl
theorem tt_gd_5 : tt_5.all goodWord = true := by decide +kernel
set_option maxRecDepth 20000 in
theorem tt_in_6 : ∀ w ∈ tt_6, w ∈ lw_tbl := tt_mem [155, 156, 157, 159, 161, 164, 165, 166, 167, 168, 169, 171, 173, 175, 177, 180, 181, 182, 183, 184, 185, 186, 187, 188] rfl
theorem tt_gd_6 : tt_6.all goodWord = true := by decide +kernel
set_option maxRecDepth 20000 in
theorem tt_in_7 : ∀ w ∈ tt_7, w ∈ lw_tbl := tt_mem [189, 190, 191, 192, 193, 194, 195, 196, 197, 198, 199, 200, 201, 202, 203, 204, 205, 206, 207, 208, 209, 210, 211, 212] rfl
theorem tt_gd_7 : tt_7.all goodWord = true := by decide +kernel
set_option maxRecDepth 20000 in
theorem tt_in_8 : ∀ w ∈ tt_8, w ∈ lw_tbl := tt_mem [213, 215, 216, 217, 219, 220, 221, 223, 224, 225, 226, 227, 228, 229, 230, 232, 233, 234, 235, 236, 237, 238, 239, 240] rfl
theorem tt_gd_8 : tt_8.all goodWord = true := by decide +kernel
set_option maxRecDepth 20000 in
theorem tt_in_9 : ∀ w ∈ tt_9, w ∈ lw_tbl := tt_mem [241, 242, 243, 244, 245, 246, 247, 248, 249, 250, 251, 252, 254, 255, 256, 258, 259, 260, 262, 263, 264, 266, 267, 268] rfl
theorem tt_gd_9 : tt_9.all goodWord = true := by decide +kernel
set_option maxRecDepth 20000 in
theorem tt_in_10 : ∀ w ∈ tt_10, w ∈ lw_tbl := tt_mem [270, 271, 272, 274, 275, 276, 278, 279, 281, 282, 283, 284, 285, 286, 288, 289, 290, 292, 293, 294, 295, 296, 297, 298] rfl
theorem tt_gd_10 : tt_10.all goodWord = true := by decide +kernel
set_option maxRecDepth 20000 in
theorem tt_in_11 : ∀ w ∈ tt_11, w ∈ lw_tbl := tt_mem [299, 300, 301, 302, 303, 304, 305, 307, 308, 309, 310, 311, 312, 313, 314, 315, 316, 317, 318, 319, 320, 321, 322, 323] rfl
theorem tt_gd_11 : tt_11.all goodWord = true := by decide +kernel
set_option maxRecDepth 20000 in
theorem tt_in_12 : ∀ w ∈ tt_12, w ∈ lw_tbl := tt_mem [324, 325, 326, 327, 328, 329, 330, 331, 332, 333, 334, 335, 336, 337, 338, 339, 340, 341, 342, 343, 344, 345, 346, 347] rfl
theorem tt_gd_12 : tt_12.all goodWord = true := by decide +kernel
set_option maxRecDepth 20000 in
theorem tt_in_13 : ∀ w ∈ tt_13, w ∈ lw_tbl := tt_mem [348, 349, 350, 351, 352, 353, 354, 355, 356, 357, 358, 359, 360, 361, 362, 363, 430, 432, 449, 450, 451, 452, 453, 454] rfl
theorem tt_gd_13 : tt_13.all goodWord = true := by decide +kernel
set_option maxRecDepth 20000 in
theorem tt_in_14 : ∀ w ∈ tt_14, w ∈ lw_tbl := tt_mem [455, 456, 457, 458, 459, 461, 462, 463, 464, 465, 467, 468, 469, 470, 471, 472, 473, 474, 475, 476, 477, 480, 481, 482] rfl
theorem tt_gd_14 : tt_14.all goodWord = true := by decide +kernel
set_option maxRecDepth 20000 in
theorem tt_in_15 : ∀ w ∈ tt_15, w ∈ lw_tbl := tt_mem [483, 484, 485, 486, 487, 488, 489, 490, 491, 492, 493, 494, 495, 496, 497, 498, 499, 500, 501, 502, 503, 504, 505, 507] rfl
theorem tt_gd_15 : tt_15.all goodWord = true := by decide +kernel
set_option maxRecDepth 20000 in
theorem tt_in_16 : ∀ w ∈ tt_16, w ∈ lw_tbl := tt_mem [509, 511, 513, 515, 517, 519, 521, 523, 525, 527, 529, 531, 533, 535, 537, 539, 542, 543, 544, 545, 546, 547, 548, 549] rfl
theorem tt_gd_16 : tt_16.all goodWord = true := by decide +kernel
set_option maxRecDepth 20000 in
theorem tt_in_17 : ∀ w ∈ tt_17, w ∈ lw_tbl := tt_mem [550, 551, 552, 553, 554, 555, 556, 557, 558, 559, 560, 561, 562, 563, 564, 565, 567, 568, 569, 570, 572, 573, 574, 575] rfl
theorem tt_gd_17 : tt_17.all goodWord = true := by decide +kernel
set_option maxRecDepth 20000 in
theorem tt_in_18 : ∀ w ∈ tt_18, w ∈ lw_tbl := tt_mem [576, 577, 578, 579, 580, 581, 582, 583, 584, 585, 586, 587, 589, 590, 591, 593, 594, 595, 597, 598, 599, 600, 601, 602] rfl
theorem tt_gd_18 : tt_18.all goodWord = true := by decide +kernel
set_option maxRecDepth 20000 in
theorem tt_in_19 : ∀ w ∈ tt_19, w ∈ lw_tbl := tt_mem [603, 604, 605, 606, 607, 608, 609, 610, 611, 612, 613, 614, 615, 617, 618, 619, 620, 621, 622, 623, 624, 625, 626, 627] rfl
theorem tt_gd_19 : tt_19.all goodWord = true := by decide +kernel
set_option maxRecDepth 20000 in
theorem tt_in_20 : ∀ w ∈ tt_20, w ∈ lw_tbl := tt_mem [629, 630, 631, 632, 633, 634, 635, 636, 637, 638, 639, 640, 641, 642, 643, 644, 645, 646, 647] rfl
theorem tt_gd_20 : tt_20.all goodWord = true := by decide +kernel
theorem tt_in : ∀ w ∈ tt, w ∈ lw_tbl := fun w h => (List.mem_append.mp h).elim (fun h => tt_in_1 w h) (fun h => (List.mem_append.mp h).elim (fun h => tt_in_2 w h) (fun h => (List.mem_append.mp h).elim (fun h => tt_in_3 w h) (fun h => (List.mem_append.mp h).elim (fun h => tt_in_4 w h) (fun h => (List.mem_append.mp h).elim (fun h => tt_in_5 w h) (fun h => (List.mem_append.mp h).elim (fun h => tt_in_6 w h) (fun h => (List.mem_append.mp h).elim (fun h => tt_in_7 w h) (fun h => (List.mem_append.mp h).elim (fun h => tt_in_8 w h) (fun h => (List.mem_append.mp h).elim (fun h => tt_in_9 w h) (fun h => (List.mem_append.mp h).elim (fun h => tt_in_10 w h) (fun h => (List.mem_append.mp h).elim (fun h => tt_in_11 w h) (fun h => (List.mem_append.mp h).elim (fun h => tt_in_12 w h) (fun h => (List.mem_append.mp h).elim (fun h => tt_in_13 w h) (fun h => (List.mem_append.mp h).elim (fun h => tt_in_14 w h) (fun h => (List.mem_append.mp h).elim (fun h => tt_in_15 w h) (fun h => (List.mem_append.mp h).elim (fun h => tt_in_16 w h) (fun h => (List.mem_append.mp h).elim (fun h => tt_in_17 w h) (fun h => (List.mem_append.mp h).elim (fun h => tt_in_18 w h) (fun h => (List.mem_append.mp h).elim (fun h => tt_in_19 w h) (fun h => tt_in_20 w h)))))))))))))))))))
theorem tt_gd : ∀ w ∈ tt, goodWord w = true := fun w h => (List.mem_append.mp h).elim (fun h => List.all_eq_true.mp tt_gd_1 w h) (fun h => (List.mem_append.mp h).elim (fun h => List.all_eq_true.mp tt_gd_2 w h) (fun h => (List.mem_append.mp h).elim (fun h => List.all_eq_true.mp tt_gd_3 w h) (fun h => (List.mem_append.mp h).elim (fun h => List.all_eq_true.mp tt_gd_4 w h) (fun h => (List.mem_append.mp h).elim (fun h => List.all_eq_true.mp tt_gd_5 w h) (fun h => (List.mem_append.mp h).elim (fun h => List.all_eq_true.mp tt_gd_6 w h) (fun h => (List.mem_append.mp h).elim (fun h => List.all_eq_true.mp tt_gd_7 w h) (fun h => (List.mem_append.mp h).elim (fun h => List.all_eq_true.mp tt_gd_8 w h) (fun h => (List.mem_append.mp h).elim (fun h => List.all_eq_true.mp tt_gd_9 w h) (fun h => (List.mem_append.mp h).elim (fun h => List.all_eq_true.mp tt_gd_10 w h) (fun h => (List.mem_append.mp h).elim (fun h => List.all_eq_true.mp tt_gd_11 w h) (fun h => (List.mem_append.mp h).elim (fun h => List.all_eq_true.mp tt_gd_12 w h) (fun h => (List.mem_append.mp h).elim (fun h => List.all_eq_true.mp tt_gd_13 w h) (fun h => (List.mem_append.mp h).elim (fun h => List.all_eq_true.mp tt_gd_14 w h) (fun h => (List.mem_append.mp h).elim (fun h => List.all_eq_true.mp tt_gd_15 w h) (fun h => (List.mem_append.mp h).elim (fun h => List.all_eq_true.mp tt_gd_16 w h) (fun h => (List.mem_append.mp h).elim (fun h => List.all_eq_true.mp tt_gd_17 w h) (fun h => (List.mem_append.mp h).elim (fun h => List.all_eq_true.mp tt_gd_18 w h) (fun h => (List.mem_append.mp h).elim (fun h => List.all_eq_true.mp tt_gd_19 w h) (fun h => List.all_eq_true.mp tt_gd_20 w h)))))))))))))))))))
theorem tt_good {ws : List Cond} (h : ∀ w ∈ ws, w ∈ tt) : GoodIn tt ws := fun w hw => ⟨h w hw, good_of_word (tt_gd w (h w hw))⟩
theorem tt_c {c : Cond} (h : c ∈ tt) : GoodIn tt (c :: tt) := tt_good (fun _ hw => (List.mem_cons.mp hw).elim (fun e => e ▸ h) id)
theorem tt_V {own C : String} {idx : Nat} {y : MethodName} {c : Cond} (h1 : Cond.methodLink own idx y ∈ tt) (h2 : Cond.instanceMethod y ∈ tt) (h3 : Cond.selects C y y ∈ tt) (h4 : Cond.initialized C ∈ tt) (h : c ∈ tt) : GoodIn tt (wsV own idx C y (c :: tt)) := by
  refine tt_good (fun w hw => ?_)
  simp only [wsV, List.mem_append, List.mem_cons, List.not_mem_nil, or_false] at hw
  rcases hw with (rfl | rfl | rfl | rfl) | rfl | hw <;> assumption
theorem tt_S {own : String} {idx : Nat} {y : MethodName} {c : Cond} (h1 : Cond.methodLink own idx y ∈ tt) (h2 : Cond.static y ∈ tt) (h4 : Cond.initialized y.cls ∈ tt) (h : c ∈ tt) : GoodIn tt (va_wsS own idx y (c :: tt)) := by
  refine tt_good (fun w hw => ?_)
  simp only [va_wsS, List.mem_append, List.mem_cons, List.not_mem_nil, or_false] at hw
  rcases hw with (rfl | rfl | rfl) | rfl | hw <;> assumption
theorem tw_0 : Cond.selects "HuffForge$Draft" ⟨"HuffForge$Draft", "sumOfCounts", "()I"⟩ ⟨"HuffForge$Draft", "sumOfCounts", "()I"⟩ ∈ tt := List.mem_of_getElem? (i := 0) rfl
theorem tw_1 : Cond.selects "HuffForge$Draft" ⟨"HuffForge$Draft", "hasSymbolTwice", "()Z"⟩ ⟨"HuffForge$Draft", "hasSymbolTwice", "()Z"⟩ ∈ tt := List.mem_of_getElem? (i := 1) rfl
theorem tw_2 : Cond.selects "HuffForge$Draft" ⟨"HuffForge$Draft", "hasWordTooGreat", "()Z"⟩ ⟨"HuffForge$Draft", "hasWordTooGreat", "()Z"⟩ ∈ tt := List.mem_of_getElem? (i := 2) rfl
theorem tw_3 : Cond.selects "HuffForge$Table" ⟨"HuffForge$Table", "addWord", "(III)V"⟩ ⟨"HuffForge$Table", "addWord", "(III)V"⟩ ∈ tt := List.mem_of_getElem? (i := 3) rfl
theorem tw_4 : Cond.selects "HuffForge$BestFinder" ⟨"HuffForge$BestFinder", "startGroups", "([I)V"⟩ ⟨"HuffForge$BestFinder", "startGroups", "([I)V"⟩ ∈ tt := List.mem_of_getElem? (i := 4) rfl
theorem tw_5 : Cond.selects "HuffForge$BestFinder" ⟨"HuffForge$BestFinder", "joinGroups", "()V"⟩ ⟨"HuffForge$BestFinder", "joinGroups", "()V"⟩ ∈ tt := List.mem_of_getElem? (i := 5) rfl
theorem tw_6 : Cond.selects "HuffForge$BestFinder" ⟨"HuffForge$BestFinder", "takeLeastGroup", "()I"⟩ ⟨"HuffForge$BestFinder", "takeLeastGroup", "()I"⟩ ∈ tt := List.mem_of_getElem? (i := 6) rfl
theorem tw_7 : Cond.selects "HuffForge$BestFinder" ⟨"HuffForge$BestFinder", "comesBefore", "(II)Z"⟩ ⟨"HuffForge$BestFinder", "comesBefore", "(II)Z"⟩ ∈ tt := List.mem_of_getElem? (i := 7) rfl
theorem tw_8 : Cond.selects "HuffForge$BestFinder" ⟨"HuffForge$BestFinder", "measureDepths", "()V"⟩ ⟨"HuffForge$BestFinder", "measureDepths", "()V"⟩ ∈ tt := List.mem_of_getElem? (i := 8) rfl
theorem tw_9 : Cond.selects "HuffForge$BestFinder" ⟨"HuffForge$BestFinder", "countLengths", "()V"⟩ ⟨"HuffForge$BestFinder", "countLengths", "()V"⟩ ∈ tt := List.mem_of_getElem? (i := 9) rfl
theorem tw_10 : Cond.selects "HuffForge$BestFinder" ⟨"HuffForge$BestFinder", "orderSymbols", "()V"⟩ ⟨"HuffForge$BestFinder", "orderSymbols", "()V"⟩ ∈ tt := List.mem_of_getElem? (i := 10) rfl
theorem tw_11 : Cond.selects "HuffForge$BestFinder" ⟨"HuffForge$BestFinder", "shortenLengths", "()V"⟩ ⟨"HuffForge$BestFinder", "shortenLengths", "()V"⟩ ∈ tt := List.mem_of_getElem? (i := 11) rfl
theorem tw_12 : Cond.selects "HuffForge$BestFinder" ⟨"HuffForge$BestFinder", "dropLongestWord", "()V"⟩ ⟨"HuffForge$BestFinder", "dropLongestWord", "()V"⟩ ∈ tt := List.mem_of_getElem? (i := 12) rfl
theorem tw_13 : Cond.selects "HuffForgeModel" ⟨"HuffForgeModel", "wrong", "()I"⟩ ⟨"HuffForgeModel", "wrong", "()I"⟩ ∈ tt := List.mem_of_getElem? (i := 13) rfl
theorem tw_14 : Cond.selects "HuffForgeModel" ⟨"HuffForgeModel", "giveWords", "()V"⟩ ⟨"HuffForgeModel", "giveWords", "()V"⟩ ∈ tt := List.mem_of_getElem? (i := 14) rfl
theorem tw_15 : Cond.selects "HuffForgeModel" ⟨"HuffForgeModel", "join", "()V"⟩ ⟨"HuffForgeModel", "join", "()V"⟩ ∈ tt := List.mem_of_getElem? (i := 15) rfl
theorem tw_16 : Cond.selects "HuffForgeModel" ⟨"HuffForgeModel", "least", "(I)I"⟩ ⟨"HuffForgeModel", "least", "(I)I"⟩ ∈ tt := List.mem_of_getElem? (i := 16) rfl
theorem tw_17 : Cond.selects "HuffForgeModel" ⟨"HuffForgeModel", "shorten", "()V"⟩ ⟨"HuffForgeModel", "shorten", "()V"⟩ ∈ tt := List.mem_of_getElem? (i := 17) rfl
theorem tw_18 : Cond.selects "HuffForgeModel" ⟨"HuffForgeModel", "lay", "(II)V"⟩ ⟨"HuffForgeModel", "lay", "(II)V"⟩ ∈ tt := List.mem_of_getElem? (i := 18) rfl
theorem tw_19 : Cond.selects "HuffForgeModel" ⟨"HuffForgeModel", "stands", "(II)Z"⟩ ⟨"HuffForgeModel", "stands", "(II)Z"⟩ ∈ tt := List.mem_of_getElem? (i := 19) rfl
theorem tw_20 : Cond.initialized "HuffForgeLaw" ∈ tt := List.mem_of_getElem? (i := 20) rfl
theorem tw_21 : Cond.initialized "HuffForge" ∈ tt := List.mem_of_getElem? (i := 21) rfl
theorem tw_22 : Cond.initialized "HuffForge$Draft" ∈ tt := List.mem_of_getElem? (i := 22) rfl
theorem tw_23 : Cond.initialized "HuffForge$Table" ∈ tt := List.mem_of_getElem? (i := 23) rfl
theorem tw_24 : Cond.initialized "HuffForge$Tally" ∈ tt := List.mem_of_getElem? (i := 24) rfl
theorem tw_25 : Cond.initialized "HuffForge$BestFinder" ∈ tt := List.mem_of_getElem? (i := 25) rfl
theorem tw_26 : Cond.initialized "HuffForge$BitRow" ∈ tt := List.mem_of_getElem? (i := 26) rfl
theorem tw_27 : Cond.initialized "HuffForgeModel" ∈ tt := List.mem_of_getElem? (i := 27) rfl
theorem tw_28 : Cond.initialized "java/util/Arrays" ∈ tt := List.mem_of_getElem? (i := 28) rfl
theorem tw_29 : Cond.initialized "java/lang/Math" ∈ tt := List.mem_of_getElem? (i := 29) rfl
theorem tw_30 : Cond.classLink "HuffForgeLaw" 8 "HuffForge" ∈ tt := List.mem_of_getElem? (i := 30) rfl
theorem tw_31 : Cond.instantiable "HuffForge" 5 ∈ tt := List.mem_of_getElem? (i := 31) rfl
theorem tw_32 : Cond.methodLink "HuffForgeLaw" 24 ⟨"HuffForge", "<init>", "()V"⟩ ∈ tt := List.mem_of_getElem? (i := 32) rfl
theorem tw_33 : Cond.instanceMethod ⟨"HuffForge", "<init>", "()V"⟩ ∈ tt := List.mem_of_getElem? (i := 33) rfl
theorem tw_34 : Cond.code ⟨"HuffForge", "<init>", "()V"⟩ prog_1_method_1_code 1 none ∈ tt := List.mem_of_getElem? (i := 34) rfl
theorem tw_35 : Cond.methodLink "HuffForge" 3 ⟨"java/lang/Object", "<init>", "()V"⟩ ∈ tt := List.mem_of_getElem? (i := 35) rfl
theorem tw_36 : Cond.instanceMethod ⟨"java/lang/Object", "<init>", "()V"⟩ ∈ tt := List.mem_of_getElem? (i := 36) rfl
theorem tw_37 : Cond.code ⟨"java/lang/Object", "<init>", "()V"⟩ object_method_1_code 1 none ∈ tt := List.mem_of_getElem? (i := 37) rfl
theorem tw_38 : Cond.classLink "HuffForge" 9 "HuffForge$Draft" ∈ tt := List.mem_of_getElem? (i := 38) rfl
theorem tw_39 : Cond.instantiable "HuffForge$Draft" 4 ∈ tt := List.mem_of_getElem? (i := 39) rfl
theorem tw_40 : Cond.instanceMethod ⟨"HuffForge$Draft", "<init>", "()V"⟩ ∈ tt := List.mem_of_getElem? (i := 40) rfl
theorem tw_41 : Cond.code ⟨"HuffForge$Draft", "<init>", "()V"⟩ prog_4_method_1_code 1 none ∈ tt := List.mem_of_getElem? (i := 41) rfl
theorem tw_42 : Cond.methodLink "HuffForge$Draft" 3 ⟨"java/lang/Object", "<init>", "()V"⟩ ∈ tt := List.mem_of_getElem? (i := 42) rfl
theorem tw_43 : Cond.fieldLink "HuffForge$Draft" 9 "HuffForge$Draft" "counts" "[I" ∈ tt := List.mem_of_getElem? (i := 43) rfl
theorem tw_44 : Cond.fieldLink "HuffForge" 48 "HuffForge$Draft" "counts" "[I" ∈ tt := List.mem_of_getElem? (i := 44) rfl
theorem tw_45 : Cond.fieldLink "HuffForge$Draft" 15 "HuffForge$Draft" "symbols" "[I" ∈ tt := List.mem_of_getElem? (i := 45) rfl
theorem tw_46 : Cond.fieldLink "HuffForge" 59 "HuffForge$Draft" "symbols" "[I" ∈ tt := List.mem_of_getElem? (i := 46) rfl
theorem tw_47 : Cond.fieldLink "HuffForge$Draft" 28 "HuffForge$Draft" "size" "I" ∈ tt := List.mem_of_getElem? (i := 47) rfl
theorem tw_48 : Cond.fieldLink "HuffForge" 55 "HuffForge$Draft" "size" "I" ∈ tt := List.mem_of_getElem? (i := 48) rfl
theorem tw_49 : Cond.fieldLink "HuffForge$Draft" 18 "HuffForge$Draft" "seen" "[Z" ∈ tt := List.mem_of_getElem? (i := 49) rfl
theorem tw_50 : Cond.laysFinal "HuffForge$Draft" "HuffForge$Draft" "counts" "[I" ∈ tt := List.mem_of_getElem? (i := 50) rfl
theorem tw_51 : Cond.laysFinal "HuffForge$Draft" "HuffForge$Draft" "symbols" "[I" ∈ tt := List.mem_of_getElem? (i := 51) rfl
theorem tw_52 : Cond.lays "HuffForge$Draft" "HuffForge$Draft" "size" "I" ∈ tt := List.mem_of_getElem? (i := 52) rfl
theorem tw_53 : Cond.laysFinal "HuffForge$Draft" "HuffForge$Draft" "seen" "[Z" ∈ tt := List.mem_of_getElem? (i := 53) rfl
theorem tw_54 : Cond.arrayClass .int ∈ tt := List.mem_of_getElem? (i := 54) rfl
theorem tw_55 : Cond.arrayClass .boolean ∈ tt := List.mem_of_getElem? (i := 55) rfl
theorem tw_56 : Cond.classLink "HuffForge" 16 "HuffForge$Table" ∈ tt := List.mem_of_getElem? (i := 56) rfl
theorem tw_57 : Cond.instantiable "HuffForge$Table" 5 ∈ tt := List.mem_of_getElem? (i := 57) rfl
theorem tw_58 : Cond.instanceMethod ⟨"HuffForge$Table", "<init>", "()V"⟩ ∈ tt := List.mem_of_getElem? (i := 58) rfl
theorem tw_59 : Cond.code ⟨"HuffForge$Table", "<init>", "()V"⟩ prog_5_method_1_code 1 none ∈ tt := List.mem_of_getElem? (i := 59) rfl
theorem tw_60 : Cond.methodLink "HuffForge$Table" 3 ⟨"java/lang/Object", "<init>", "()V"⟩ ∈ tt := List.mem_of_getElem? (i := 60) rfl
theorem tw_61 : Cond.fieldLink "HuffForge$Table" 9 "HuffForge$Table" "counts" "[I" ∈ tt := List.mem_of_getElem? (i := 61) rfl
theorem tw_62 : Cond.fieldLink "HuffForge" 119 "HuffForge$Table" "counts" "[I" ∈ tt := List.mem_of_getElem? (i := 62) rfl
theorem tw_63 : Cond.fieldLink "HuffForge$Table" 15 "HuffForge$Table" "symbols" "[I" ∈ tt := List.mem_of_getElem? (i := 63) rfl
theorem tw_64 : Cond.fieldLink "HuffForge" 120 "HuffForge$Table" "symbols" "[I" ∈ tt := List.mem_of_getElem? (i := 64) rfl
theorem tw_65 : Cond.fieldLink "HuffForge$Table" 18 "HuffForge$Table" "lengths" "[I" ∈ tt := List.mem_of_getElem? (i := 65) rfl
theorem tw_66 : Cond.fieldLink "HuffForge" 113 "HuffForge$Table" "lengths" "[I" ∈ tt := List.mem_of_getElem? (i := 66) rfl
theorem tw_67 : Cond.fieldLink "HuffForge$Table" 21 "HuffForge$Table" "codes" "[I" ∈ tt := List.mem_of_getElem? (i := 67) rfl
theorem tw_68 : Cond.fieldLink "HuffForge" 116 "HuffForge$Table" "codes" "[I" ∈ tt := List.mem_of_getElem? (i := 68) rfl
theorem tw_69 : Cond.fieldLink "HuffForge$Table" 30 "HuffForge$Table" "size" "I" ∈ tt := List.mem_of_getElem? (i := 69) rfl
theorem tw_70 : Cond.fieldLink "HuffForge" 73 "HuffForge$Table" "size" "I" ∈ tt := List.mem_of_getElem? (i := 70) rfl
theorem tw_71 : Cond.laysFinal "HuffForge$Table" "HuffForge$Table" "counts" "[I" ∈ tt := List.mem_of_getElem? (i := 71) rfl
theorem tw_72 : Cond.laysFinal "HuffForge$Table" "HuffForge$Table" "symbols" "[I" ∈ tt := List.mem_of_getElem? (i := 72) rfl
theorem tw_73 : Cond.laysFinal "HuffForge$Table" "HuffForge$Table" "lengths" "[I" ∈ tt := List.mem_of_getElem? (i := 73) rfl
theorem tw_74 : Cond.laysFinal "HuffForge$Table" "HuffForge$Table" "codes" "[I" ∈ tt := List.mem_of_getElem? (i := 74) rfl
theorem tw_75 : Cond.lays "HuffForge$Table" "HuffForge$Table" "size" "I" ∈ tt := List.mem_of_getElem? (i := 75) rfl
theorem tw_76 : Cond.classLink "HuffForge" 23 "HuffForge$Tally" ∈ tt := List.mem_of_getElem? (i := 76) rfl
theorem tw_77 : Cond.instantiable "HuffForge$Tally" 2 ∈ tt := List.mem_of_getElem? (i := 77) rfl
theorem tw_78 : Cond.instanceMethod ⟨"HuffForge$Tally", "<init>", "()V"⟩ ∈ tt := List.mem_of_getElem? (i := 78) rfl
theorem tw_79 : Cond.code ⟨"HuffForge$Tally", "<init>", "()V"⟩ prog_6_method_1_code 1 none ∈ tt := List.mem_of_getElem? (i := 79) rfl
theorem tw_80 : Cond.methodLink "HuffForge$Tally" 3 ⟨"java/lang/Object", "<init>", "()V"⟩ ∈ tt := List.mem_of_getElem? (i := 80) rfl
theorem tw_81 : Cond.fieldLink "HuffForge$Tally" 9 "HuffForge$Tally" "numbers" "[I" ∈ tt := List.mem_of_getElem? (i := 81) rfl
theorem tw_82 : Cond.fieldLink "HuffForge" 96 "HuffForge$Tally" "numbers" "[I" ∈ tt := List.mem_of_getElem? (i := 82) rfl
theorem tw_83 : Cond.fieldLink "HuffForge$Tally" 15 "HuffForge$Tally" "total" "I" ∈ tt := List.mem_of_getElem? (i := 83) rfl
theorem tw_84 : Cond.fieldLink "HuffForge" 84 "HuffForge$Tally" "total" "I" ∈ tt := List.mem_of_getElem? (i := 84) rfl
theorem tw_85 : Cond.laysFinal "HuffForge$Tally" "HuffForge$Tally" "numbers" "[I" ∈ tt := List.mem_of_getElem? (i := 85) rfl
theorem tw_86 : Cond.lays "HuffForge$Tally" "HuffForge$Tally" "total" "I" ∈ tt := List.mem_of_getElem? (i := 86) rfl
theorem tw_87 : Cond.classLink "HuffForge" 30 "HuffForge$BestFinder" ∈ tt := List.mem_of_getElem? (i := 87) rfl
theorem tw_88 : Cond.instantiable "HuffForge$BestFinder" 9 ∈ tt := List.mem_of_getElem? (i := 88) rfl
theorem tw_89 : Cond.instanceMethod ⟨"HuffForge$BestFinder", "<init>", "()V"⟩ ∈ tt := List.mem_of_getElem? (i := 89) rfl
theorem tw_90 : Cond.code ⟨"HuffForge$BestFinder", "<init>", "()V"⟩ prog_2_method_1_code 1 none ∈ tt := List.mem_of_getElem? (i := 90) rfl
theorem tw_91 : Cond.methodLink "HuffForge$BestFinder" 3 ⟨"java/lang/Object", "<init>", "()V"⟩ ∈ tt := List.mem_of_getElem? (i := 91) rfl
theorem tw_92 : Cond.fieldLink "HuffForge$BestFinder" 9 "HuffForge$BestFinder" "counts" "[I" ∈ tt := List.mem_of_getElem? (i := 92) rfl
theorem tw_93 : Cond.fieldLink "HuffForge" 104 "HuffForge$BestFinder" "counts" "[I" ∈ tt := List.mem_of_getElem? (i := 93) rfl
theorem tw_94 : Cond.fieldLink "HuffForge$BestFinder" 15 "HuffForge$BestFinder" "symbols" "[I" ∈ tt := List.mem_of_getElem? (i := 94) rfl
theorem tw_95 : Cond.fieldLink "HuffForge" 105 "HuffForge$BestFinder" "symbols" "[I" ∈ tt := List.mem_of_getElem? (i := 95) rfl
theorem tw_96 : Cond.fieldLink "HuffForge$BestFinder" 18 "HuffForge$BestFinder" "weights" "[I" ∈ tt := List.mem_of_getElem? (i := 96) rfl
theorem tw_97 : Cond.fieldLink "HuffForge$BestFinder" 21 "HuffForge$BestFinder" "groups" "[I" ∈ tt := List.mem_of_getElem? (i := 97) rfl
theorem tw_98 : Cond.fieldLink "HuffForge$BestFinder" 43 "HuffForge$BestFinder" "groupsLeft" "I" ∈ tt := List.mem_of_getElem? (i := 98) rfl
theorem tw_99 : Cond.fieldLink "HuffForge$BestFinder" 24 "HuffForge$BestFinder" "nodeOf" "[I" ∈ tt := List.mem_of_getElem? (i := 99) rfl
theorem tw_100 : Cond.fieldLink "HuffForge$BestFinder" 27 "HuffForge$BestFinder" "parents" "[I" ∈ tt := List.mem_of_getElem? (i := 100) rfl
theorem tw_101 : Cond.fieldLink "HuffForge$BestFinder" 30 "HuffForge$BestFinder" "depths" "[I" ∈ tt := List.mem_of_getElem? (i := 101) rfl
theorem tw_102 : Cond.fieldLink "HuffForge$BestFinder" 65 "HuffForge$BestFinder" "nodes" "I" ∈ tt := List.mem_of_getElem? (i := 102) rfl
theorem tw_103 : Cond.laysFinal "HuffForge$BestFinder" "HuffForge$BestFinder" "counts" "[I" ∈ tt := List.mem_of_getElem? (i := 103) rfl
theorem tw_104 : Cond.laysFinal "HuffForge$BestFinder" "HuffForge$BestFinder" "symbols" "[I" ∈ tt := List.mem_of_getElem? (i := 104) rfl
theorem tw_105 : Cond.laysFinal "HuffForge$BestFinder" "HuffForge$BestFinder" "weights" "[I" ∈ tt := List.mem_of_getElem? (i := 105) rfl
theorem tw_106 : Cond.laysFinal "HuffForge$BestFinder" "HuffForge$BestFinder" "groups" "[I" ∈ tt := List.mem_of_getElem? (i := 106) rfl
theorem tw_107 : Cond.lays "HuffForge$BestFinder" "HuffForge$BestFinder" "groupsLeft" "I" ∈ tt := List.mem_of_getElem? (i := 107) rfl
theorem tw_108 : Cond.laysFinal "HuffForge$BestFinder" "HuffForge$BestFinder" "nodeOf" "[I" ∈ tt := List.mem_of_getElem? (i := 108) rfl
theorem tw_109 : Cond.laysFinal "HuffForge$BestFinder" "HuffForge$BestFinder" "parents" "[I" ∈ tt := List.mem_of_getElem? (i := 109) rfl
theorem tw_110 : Cond.laysFinal "HuffForge$BestFinder" "HuffForge$BestFinder" "depths" "[I" ∈ tt := List.mem_of_getElem? (i := 110) rfl
theorem tw_111 : Cond.lays "HuffForge$BestFinder" "HuffForge$BestFinder" "nodes" "I" ∈ tt := List.mem_of_getElem? (i := 111) rfl
theorem tw_112 : Cond.classLink "HuffForge" 37 "HuffForge$BitRow" ∈ tt := List.mem_of_getElem? (i := 112) rfl
theorem tw_113 : Cond.instantiable "HuffForge$BitRow" 3 ∈ tt := List.mem_of_getElem? (i := 113) rfl
theorem tw_114 : Cond.instanceMethod ⟨"HuffForge$BitRow", "<init>", "()V"⟩ ∈ tt := List.mem_of_getElem? (i := 114) rfl
theorem tw_115 : Cond.code ⟨"HuffForge$BitRow", "<init>", "()V"⟩ prog_3_method_1_code 1 none ∈ tt := List.mem_of_getElem? (i := 115) rfl
theorem tw_116 : Cond.methodLink "HuffForge$BitRow" 3 ⟨"java/lang/Object", "<init>", "()V"⟩ ∈ tt := List.mem_of_getElem? (i := 116) rfl
theorem tw_117 : Cond.fieldLink "HuffForge$BitRow" 9 "HuffForge$BitRow" "cells" "[I" ∈ tt := List.mem_of_getElem? (i := 117) rfl
theorem tw_118 : Cond.fieldLink "HuffForge$BitRow" 16 "HuffForge$BitRow" "size" "I" ∈ tt := List.mem_of_getElem? (i := 118) rfl
theorem tw_119 : Cond.fieldLink "HuffForge" 131 "HuffForge$BitRow" "size" "I" ∈ tt := List.mem_of_getElem? (i := 119) rfl
theorem tw_120 : Cond.fieldLink "HuffForge$BitRow" 20 "HuffForge$BitRow" "place" "I" ∈ tt := List.mem_of_getElem? (i := 120) rfl
theorem tw_121 : Cond.fieldLink "HuffForge" 155 "HuffForge$BitRow" "place" "I" ∈ tt := List.mem_of_getElem? (i := 121) rfl
theorem tw_122 : Cond.laysFinal "HuffForge$BitRow" "HuffForge$BitRow" "cells" "[I" ∈ tt := List.mem_of_getElem? (i := 122) rfl
theorem tw_123 : Cond.lays "HuffForge$BitRow" "HuffForge$BitRow" "size" "I" ∈ tt := List.mem_of_getElem? (i := 123) rfl
theorem tw_124 : Cond.lays "HuffForge$BitRow" "HuffForge$BitRow" "place" "I" ∈ tt := List.mem_of_getElem? (i := 124) rfl
theorem tw_125 : Cond.fieldLink "HuffForge" 12 "HuffForge" "draft" "LHuffForge$Draft;" ∈ tt := List.mem_of_getElem? (i := 125) rfl
theorem tw_126 : Cond.fieldLink "HuffForge" 19 "HuffForge" "table" "LHuffForge$Table;" ∈ tt := List.mem_of_getElem? (i := 126) rfl
theorem tw_127 : Cond.fieldLink "HuffForge" 26 "HuffForge" "tally" "LHuffForge$Tally;" ∈ tt := List.mem_of_getElem? (i := 127) rfl
theorem tw_128 : Cond.fieldLink "HuffForge" 33 "HuffForge" "finder" "LHuffForge$BestFinder;" ∈ tt := List.mem_of_getElem? (i := 128) rfl
theorem tw_129 : Cond.fieldLink "HuffForge" 40 "HuffForge" "row" "LHuffForge$BitRow;" ∈ tt := List.mem_of_getElem? (i := 129) rfl
theorem tw_130 : Cond.laysFinal "HuffForge" "HuffForge" "draft" "LHuffForge$Draft;" ∈ tt := List.mem_of_getElem? (i := 130) rfl
theorem tw_131 : Cond.laysFinal "HuffForge" "HuffForge" "table" "LHuffForge$Table;" ∈ tt := List.mem_of_getElem? (i := 131) rfl
theorem tw_132 : Cond.laysFinal "HuffForge" "HuffForge" "tally" "LHuffForge$Tally;" ∈ tt := List.mem_of_getElem? (i := 132) rfl
theorem tw_133 : Cond.laysFinal "HuffForge" "HuffForge" "finder" "LHuffForge$BestFinder;" ∈ tt := List.mem_of_getElem? (i := 133) rfl
theorem tw_134 : Cond.laysFinal "HuffForge" "HuffForge" "row" "LHuffForge$BitRow;" ∈ tt := List.mem_of_getElem? (i := 134) rfl
theorem tw_135 : Cond.methodLink "HuffForgeLaw" 28 ⟨"HuffForge", "count", "(II)Z"⟩ ∈ tt := List.mem_of_getElem? (i := 135) rfl
theorem tw_136 : Cond.instanceMethod ⟨"HuffForge", "count", "(II)Z"⟩ ∈ tt := List.mem_of_getElem? (i := 136) rfl
theorem tw_137 : Cond.selects "HuffForge" ⟨"HuffForge", "count", "(II)Z"⟩ ⟨"HuffForge", "count", "(II)Z"⟩ ∈ tt := List.mem_of_getElem? (i := 137) rfl
theorem tw_138 : Cond.code ⟨"HuffForge", "count", "(II)Z"⟩ prog_1_method_2_code 3 (some .boolean) ∈ tt := List.mem_of_getElem? (i := 138) rfl
theorem tw_139 : Cond.methodLink "HuffForge" 44 ⟨"HuffForge", "isWordLength", "(I)Z"⟩ ∈ tt := List.mem_of_getElem? (i := 139) rfl
theorem tw_140 : Cond.static ⟨"HuffForge", "isWordLength", "(I)Z"⟩ ∈ tt := List.mem_of_getElem? (i := 140) rfl
theorem tw_141 : Cond.code ⟨"HuffForge", "isWordLength", "(I)Z"⟩ prog_1_method_20_code 1 (some .boolean) ∈ tt := List.mem_of_getElem? (i := 141) rfl
theorem tw_142 : Cond.methodLink "HuffForgeLaw" 33 ⟨"HuffForge", "symbol", "(I)I"⟩ ∈ tt := List.mem_of_getElem? (i := 142) rfl
theorem tw_143 : Cond.instanceMethod ⟨"HuffForge", "symbol", "(I)I"⟩ ∈ tt := List.mem_of_getElem? (i := 143) rfl
theorem tw_144 : Cond.selects "HuffForge" ⟨"HuffForge", "symbol", "(I)I"⟩ ⟨"HuffForge", "symbol", "(I)I"⟩ ∈ tt := List.mem_of_getElem? (i := 144) rfl
theorem tw_145 : Cond.code ⟨"HuffForge", "symbol", "(I)I"⟩ prog_1_method_3_code 2 (some .int) ∈ tt := List.mem_of_getElem? (i := 145) rfl
theorem tw_146 : Cond.methodLink "HuffForge" 52 ⟨"HuffForge", "isSymbol", "(I)Z"⟩ ∈ tt := List.mem_of_getElem? (i := 146) rfl
theorem tw_147 : Cond.static ⟨"HuffForge", "isSymbol", "(I)Z"⟩ ∈ tt := List.mem_of_getElem? (i := 147) rfl
theorem tw_148 : Cond.code ⟨"HuffForge", "isSymbol", "(I)Z"⟩ prog_1_method_19_code 1 (some .boolean) ∈ tt := List.mem_of_getElem? (i := 148) rfl
theorem tw_149 : Cond.methodLink "HuffForgeLaw" 37 ⟨"HuffForge", "wipe", "()V"⟩ ∈ tt := List.mem_of_getElem? (i := 149) rfl
theorem tw_150 : Cond.instanceMethod ⟨"HuffForge", "wipe", "()V"⟩ ∈ tt := List.mem_of_getElem? (i := 150) rfl
theorem tw_151 : Cond.selects "HuffForge" ⟨"HuffForge", "wipe", "()V"⟩ ⟨"HuffForge", "wipe", "()V"⟩ ∈ tt := List.mem_of_getElem? (i := 151) rfl
theorem tw_152 : Cond.code ⟨"HuffForge", "wipe", "()V"⟩ prog_1_method_4_code 1 none ∈ tt := List.mem_of_getElem? (i := 152) rfl
theorem tw_153 : Cond.methodLink "HuffForge" 62 ⟨"HuffForge$Draft", "clear", "()V"⟩ ∈ tt := List.mem_of_getElem? (i := 153) rfl
theorem tw_154 : Cond.instanceMethod ⟨"HuffForge$Draft", "clear", "()V"⟩ ∈ tt := List.mem_of_getElem? (i := 154) rfl
theorem tw_155 : Cond.selects "HuffForge$Draft" ⟨"HuffForge$Draft", "clear", "()V"⟩ ⟨"HuffForge$Draft", "clear", "()V"⟩ ∈ tt := List.mem_of_getElem? (i := 155) rfl
theorem tw_156 : Cond.code ⟨"HuffForge$Draft", "clear", "()V"⟩ prog_4_method_2_code 1 none ∈ tt := List.mem_of_getElem? (i := 156) rfl
theorem tw_157 : Cond.methodLink "HuffForge$Draft" 22 ⟨"java/util/Arrays", "fill", "([II)V"⟩ ∈ tt := List.mem_of_getElem? (i := 157) rfl
theorem tw_158 : Cond.static ⟨"java/util/Arrays", "fill", "([II)V"⟩ ∈ tt := List.mem_of_getElem? (i := 158) rfl
theorem tw_159 : Cond.code ⟨"java/util/Arrays", "fill", "([II)V"⟩ prog_16_method_103_code 4 none ∈ tt := List.mem_of_getElem? (i := 159) rfl
theorem tw_160 : Cond.methodLink "HuffForgeLaw" 41 ⟨"HuffForge", "make", "()I"⟩ ∈ tt := List.mem_of_getElem? (i := 160) rfl
theorem tw_161 : Cond.instanceMethod ⟨"HuffForge", "make", "()I"⟩ ∈ tt := List.mem_of_getElem? (i := 161) rfl
theorem tw_162 : Cond.selects "HuffForge" ⟨"HuffForge", "make", "()I"⟩ ⟨"HuffForge", "make", "()I"⟩ ∈ tt := List.mem_of_getElem? (i := 162) rfl
theorem tw_163 : Cond.code ⟨"HuffForge", "make", "()I"⟩ prog_1_method_5_code 2 (some .int) ∈ tt := List.mem_of_getElem? (i := 163) rfl
theorem tw_164 : Cond.methodLink "HuffForge" 65 ⟨"HuffForge$Draft", "fault", "()I"⟩ ∈ tt := List.mem_of_getElem? (i := 164) rfl
theorem tw_165 : Cond.instanceMethod ⟨"HuffForge$Draft", "fault", "()I"⟩ ∈ tt := List.mem_of_getElem? (i := 165) rfl
theorem tw_166 : Cond.selects "HuffForge$Draft" ⟨"HuffForge$Draft", "fault", "()I"⟩ ⟨"HuffForge$Draft", "fault", "()I"⟩ ∈ tt := List.mem_of_getElem? (i := 166) rfl
theorem tw_167 : Cond.code ⟨"HuffForge$Draft", "fault", "()I"⟩ prog_4_method_3_code 1 (some .int) ∈ tt := List.mem_of_getElem? (i := 167) rfl
theorem tw_168 : Cond.methodLink "HuffForge$Draft" 32 ⟨"HuffForge$Draft", "sumOfCounts", "()I"⟩ ∈ tt := List.mem_of_getElem? (i := 168) rfl
theorem tw_169 : Cond.instanceMethod ⟨"HuffForge$Draft", "sumOfCounts", "()I"⟩ ∈ tt := List.mem_of_getElem? (i := 169) rfl
theorem tw_170 : Cond.code ⟨"HuffForge$Draft", "sumOfCounts", "()I"⟩ prog_4_method_4_code 3 (some .int) ∈ tt := List.mem_of_getElem? (i := 170) rfl
theorem tw_171 : Cond.methodLink "HuffForge$Draft" 36 ⟨"HuffForge$Draft", "hasSymbolTwice", "()Z"⟩ ∈ tt := List.mem_of_getElem? (i := 171) rfl
theorem tw_172 : Cond.instanceMethod ⟨"HuffForge$Draft", "hasSymbolTwice", "()Z"⟩ ∈ tt := List.mem_of_getElem? (i := 172) rfl
theorem tw_173 : Cond.code ⟨"HuffForge$Draft", "hasSymbolTwice", "()Z"⟩ prog_4_method_5_code 2 (some .boolean) ∈ tt := List.mem_of_getElem? (i := 173) rfl
theorem tw_174 : Cond.methodLink "HuffForge$Draft" 40 ⟨"HuffForge$Draft", "hasWordTooGreat", "()Z"⟩ ∈ tt := List.mem_of_getElem? (i := 174) rfl
theorem tw_175 : Cond.instanceMethod ⟨"HuffForge$Draft", "hasWordTooGreat", "()Z"⟩ ∈ tt := List.mem_of_getElem? (i := 175) rfl
theorem tw_176 : Cond.code ⟨"HuffForge$Draft", "hasWordTooGreat", "()Z"⟩ prog_4_method_6_code 3 (some .boolean) ∈ tt := List.mem_of_getElem? (i := 176) rfl
theorem tw_177 : Cond.methodLink "HuffForge" 69 ⟨"HuffForge$Table", "become", "([I[I)V"⟩ ∈ tt := List.mem_of_getElem? (i := 177) rfl
theorem tw_178 : Cond.instanceMethod ⟨"HuffForge$Table", "become", "([I[I)V"⟩ ∈ tt := List.mem_of_getElem? (i := 178) rfl
theorem tw_179 : Cond.selects "HuffForge$Table" ⟨"HuffForge$Table", "become", "([I[I)V"⟩ ⟨"HuffForge$Table", "become", "([I[I)V"⟩ ∈ tt := List.mem_of_getElem? (i := 179) rfl
theorem tw_180 : Cond.code ⟨"HuffForge$Table", "become", "([I[I)V"⟩ prog_5_method_2_code 6 none ∈ tt := List.mem_of_getElem? (i := 180) rfl
theorem tw_181 : Cond.methodLink "HuffForge$Table" 24 ⟨"java/util/Arrays", "fill", "([II)V"⟩ ∈ tt := List.mem_of_getElem? (i := 181) rfl
theorem tw_182 : Cond.methodLink "HuffForge$Table" 34 ⟨"HuffForge$Table", "addWord", "(III)V"⟩ ∈ tt := List.mem_of_getElem? (i := 182) rfl
theorem tw_183 : Cond.instanceMethod ⟨"HuffForge$Table", "addWord", "(III)V"⟩ ∈ tt := List.mem_of_getElem? (i := 183) rfl
theorem tw_184 : Cond.code ⟨"HuffForge$Table", "addWord", "(III)V"⟩ prog_5_method_3_code 4 none ∈ tt := List.mem_of_getElem? (i := 184) rfl
theorem tw_185 : Cond.methodLink "HuffForgeLaw" 55 ⟨"HuffForge", "forget", "()V"⟩ ∈ tt := List.mem_of_getElem? (i := 185) rfl
theorem tw_186 : Cond.instanceMethod ⟨"HuffForge", "forget", "()V"⟩ ∈ tt := List.mem_of_getElem? (i := 186) rfl
theorem tw_187 : Cond.selects "HuffForge" ⟨"HuffForge", "forget", "()V"⟩ ⟨"HuffForge", "forget", "()V"⟩ ∈ tt := List.mem_of_getElem? (i := 187) rfl
theorem tw_188 : Cond.code ⟨"HuffForge", "forget", "()V"⟩ prog_1_method_7_code 1 none ∈ tt := List.mem_of_getElem? (i := 188) rfl
theorem tw_189 : Cond.methodLink "HuffForge" 99 ⟨"HuffForge$Tally", "clear", "()V"⟩ ∈ tt := List.mem_of_getElem? (i := 189) rfl
theorem tw_190 : Cond.instanceMethod ⟨"HuffForge$Tally", "clear", "()V"⟩ ∈ tt := List.mem_of_getElem? (i := 190) rfl
theorem tw_191 : Cond.selects "HuffForge$Tally" ⟨"HuffForge$Tally", "clear", "()V"⟩ ⟨"HuffForge$Tally", "clear", "()V"⟩ ∈ tt := List.mem_of_getElem? (i := 191) rfl
theorem tw_192 : Cond.code ⟨"HuffForge$Tally", "clear", "()V"⟩ prog_6_method_3_code 1 none ∈ tt := List.mem_of_getElem? (i := 192) rfl
theorem tw_193 : Cond.methodLink "HuffForge$Tally" 19 ⟨"java/util/Arrays", "fill", "([II)V"⟩ ∈ tt := List.mem_of_getElem? (i := 193) rfl
theorem tw_194 : Cond.methodLink "HuffForgeLaw" 59 ⟨"HuffForge", "best", "()J"⟩ ∈ tt := List.mem_of_getElem? (i := 194) rfl
theorem tw_195 : Cond.instanceMethod ⟨"HuffForge", "best", "()J"⟩ ∈ tt := List.mem_of_getElem? (i := 195) rfl
theorem tw_196 : Cond.selects "HuffForge" ⟨"HuffForge", "best", "()J"⟩ ⟨"HuffForge", "best", "()J"⟩ ∈ tt := List.mem_of_getElem? (i := 196) rfl
theorem tw_197 : Cond.code ⟨"HuffForge", "best", "()J"⟩ prog_1_method_8_code 1 (some .long) ∈ tt := List.mem_of_getElem? (i := 197) rfl
theorem tw_198 : Cond.methodLink "HuffForge" 100 ⟨"HuffForge$BestFinder", "find", "([I)V"⟩ ∈ tt := List.mem_of_getElem? (i := 198) rfl
theorem tw_199 : Cond.instanceMethod ⟨"HuffForge$BestFinder", "find", "([I)V"⟩ ∈ tt := List.mem_of_getElem? (i := 199) rfl
theorem tw_200 : Cond.selects "HuffForge$BestFinder" ⟨"HuffForge$BestFinder", "find", "([I)V"⟩ ⟨"HuffForge$BestFinder", "find", "([I)V"⟩ ∈ tt := List.mem_of_getElem? (i := 200) rfl
theorem tw_201 : Cond.code ⟨"HuffForge$BestFinder", "find", "([I)V"⟩ prog_2_method_2_code 2 none ∈ tt := List.mem_of_getElem? (i := 201) rfl
theorem tw_202 : Cond.methodLink "HuffForge$BestFinder" 33 ⟨"java/util/Arrays", "fill", "([II)V"⟩ ∈ tt := List.mem_of_getElem? (i := 202) rfl
theorem tw_203 : Cond.methodLink "HuffForge$BestFinder" 39 ⟨"HuffForge$BestFinder", "startGroups", "([I)V"⟩ ∈ tt := List.mem_of_getElem? (i := 203) rfl
theorem tw_204 : Cond.instanceMethod ⟨"HuffForge$BestFinder", "startGroups", "([I)V"⟩ ∈ tt := List.mem_of_getElem? (i := 204) rfl
theorem tw_205 : Cond.code ⟨"HuffForge$BestFinder", "startGroups", "([I)V"⟩ prog_2_method_3_code 3 none ∈ tt := List.mem_of_getElem? (i := 205) rfl
theorem tw_206 : Cond.methodLink "HuffForge$BestFinder" 47 ⟨"HuffForge$BestFinder", "joinGroups", "()V"⟩ ∈ tt := List.mem_of_getElem? (i := 206) rfl
theorem tw_207 : Cond.instanceMethod ⟨"HuffForge$BestFinder", "joinGroups", "()V"⟩ ∈ tt := List.mem_of_getElem? (i := 207) rfl
theorem tw_208 : Cond.code ⟨"HuffForge$BestFinder", "joinGroups", "()V"⟩ prog_2_method_4_code 4 none ∈ tt := List.mem_of_getElem? (i := 208) rfl
theorem tw_209 : Cond.methodLink "HuffForge$BestFinder" 68 ⟨"HuffForge$BestFinder", "takeLeastGroup", "()I"⟩ ∈ tt := List.mem_of_getElem? (i := 209) rfl
theorem tw_210 : Cond.instanceMethod ⟨"HuffForge$BestFinder", "takeLeastGroup", "()I"⟩ ∈ tt := List.mem_of_getElem? (i := 210) rfl
theorem tw_211 : Cond.code ⟨"HuffForge$BestFinder", "takeLeastGroup", "()I"⟩ prog_2_method_5_code 3 (some .int) ∈ tt := List.mem_of_getElem? (i := 211) rfl
theorem tw_212 : Cond.methodLink "HuffForge$BestFinder" 72 ⟨"HuffForge$BestFinder", "comesBefore", "(II)Z"⟩ ∈ tt := List.mem_of_getElem? (i := 212) rfl
theorem tw_213 : Cond.instanceMethod ⟨"HuffForge$BestFinder", "comesBefore", "(II)Z"⟩ ∈ tt := List.mem_of_getElem? (i := 213) rfl
theorem tw_214 : Cond.code ⟨"HuffForge$BestFinder", "comesBefore", "(II)Z"⟩ prog_2_method_6_code 3 (some .boolean) ∈ tt := List.mem_of_getElem? (i := 214) rfl
theorem tw_215 : Cond.methodLink "HuffForge$BestFinder" 50 ⟨"HuffForge$BestFinder", "measureDepths", "()V"⟩ ∈ tt := List.mem_of_getElem? (i := 215) rfl
theorem tw_216 : Cond.instanceMethod ⟨"HuffForge$BestFinder", "measureDepths", "()V"⟩ ∈ tt := List.mem_of_getElem? (i := 216) rfl
theorem tw_217 : Cond.code ⟨"HuffForge$BestFinder", "measureDepths", "()V"⟩ prog_2_method_7_code 2 none ∈ tt := List.mem_of_getElem? (i := 217) rfl
theorem tw_218 : Cond.methodLink "HuffForge$BestFinder" 53 ⟨"HuffForge$BestFinder", "countLengths", "()V"⟩ ∈ tt := List.mem_of_getElem? (i := 218) rfl
theorem tw_219 : Cond.instanceMethod ⟨"HuffForge$BestFinder", "countLengths", "()V"⟩ ∈ tt := List.mem_of_getElem? (i := 219) rfl
theorem tw_220 : Cond.code ⟨"HuffForge$BestFinder", "countLengths", "()V"⟩ prog_2_method_8_code 2 none ∈ tt := List.mem_of_getElem? (i := 220) rfl
theorem tw_221 : Cond.methodLink "HuffForge$BestFinder" 56 ⟨"HuffForge$BestFinder", "orderSymbols", "()V"⟩ ∈ tt := List.mem_of_getElem? (i := 221) rfl
theorem tw_222 : Cond.instanceMethod ⟨"HuffForge$BestFinder", "orderSymbols", "()V"⟩ ∈ tt := List.mem_of_getElem? (i := 222) rfl
theorem tw_223 : Cond.code ⟨"HuffForge$BestFinder", "orderSymbols", "()V"⟩ prog_2_method_9_code 5 none ∈ tt := List.mem_of_getElem? (i := 223) rfl
theorem tw_224 : Cond.static ⟨"HuffForge", "greatestLength", "([II)I"⟩ ∈ tt := List.mem_of_getElem? (i := 224) rfl
theorem tw_225 : Cond.code ⟨"HuffForge", "greatestLength", "([II)I"⟩ prog_1_method_22_code 3 (some .int) ∈ tt := List.mem_of_getElem? (i := 225) rfl
theorem tw_226 : Cond.methodLink "HuffForge" 142 ⟨"java/lang/Math", "min", "(II)I"⟩ ∈ tt := List.mem_of_getElem? (i := 226) rfl
theorem tw_227 : Cond.static ⟨"java/lang/Math", "min", "(II)I"⟩ ∈ tt := List.mem_of_getElem? (i := 227) rfl
theorem tw_228 : Cond.code ⟨"java/lang/Math", "min", "(II)I"⟩ prog_12_method_69_code 2 (some .int) ∈ tt := List.mem_of_getElem? (i := 228) rfl
theorem tw_229 : Cond.methodLink "HuffForge$BestFinder" 59 ⟨"HuffForge$BestFinder", "shortenLengths", "()V"⟩ ∈ tt := List.mem_of_getElem? (i := 229) rfl
theorem tw_230 : Cond.instanceMethod ⟨"HuffForge$BestFinder", "shortenLengths", "()V"⟩ ∈ tt := List.mem_of_getElem? (i := 230) rfl
theorem tw_231 : Cond.code ⟨"HuffForge$BestFinder", "shortenLengths", "()V"⟩ prog_2_method_10_code 4 none ∈ tt := List.mem_of_getElem? (i := 231) rfl
theorem tw_232 : Cond.methodLink "HuffForge$BestFinder" 62 ⟨"HuffForge$BestFinder", "dropLongestWord", "()V"⟩ ∈ tt := List.mem_of_getElem? (i := 232) rfl
theorem tw_233 : Cond.instanceMethod ⟨"HuffForge$BestFinder", "dropLongestWord", "()V"⟩ ∈ tt := List.mem_of_getElem? (i := 233) rfl
theorem tw_234 : Cond.code ⟨"HuffForge$BestFinder", "dropLongestWord", "()V"⟩ prog_2_method_11_code 1 none ∈ tt := List.mem_of_getElem? (i := 234) rfl
theorem tw_235 : Cond.methodLink "HuffForge" 106 ⟨"HuffForge$Table", "bitsOfAll", "([I)J"⟩ ∈ tt := List.mem_of_getElem? (i := 235) rfl
theorem tw_236 : Cond.instanceMethod ⟨"HuffForge$Table", "bitsOfAll", "([I)J"⟩ ∈ tt := List.mem_of_getElem? (i := 236) rfl
theorem tw_237 : Cond.selects "HuffForge$Table" ⟨"HuffForge$Table", "bitsOfAll", "([I)J"⟩ ⟨"HuffForge$Table", "bitsOfAll", "([I)J"⟩ ∈ tt := List.mem_of_getElem? (i := 237) rfl
theorem tw_238 : Cond.code ⟨"HuffForge$Table", "bitsOfAll", "([I)J"⟩ prog_5_method_5_code 5 (some .long) ∈ tt := List.mem_of_getElem? (i := 238) rfl
theorem tw_239 : Cond.methodLink "HuffForgeLaw" 64 ⟨"HuffForge", "length", "(I)I"⟩ ∈ tt := List.mem_of_getElem? (i := 239) rfl
theorem tw_240 : Cond.instanceMethod ⟨"HuffForge", "length", "(I)I"⟩ ∈ tt := List.mem_of_getElem? (i := 240) rfl
theorem tw_241 : Cond.selects "HuffForge" ⟨"HuffForge", "length", "(I)I"⟩ ⟨"HuffForge", "length", "(I)I"⟩ ∈ tt := List.mem_of_getElem? (i := 241) rfl
theorem tw_242 : Cond.code ⟨"HuffForge", "length", "(I)I"⟩ prog_1_method_9_code 2 (some .int) ∈ tt := List.mem_of_getElem? (i := 242) rfl
theorem tw_243 : Cond.methodLink "HuffForge" 110 ⟨"HuffForge$Table", "hasWord", "(I)Z"⟩ ∈ tt := List.mem_of_getElem? (i := 243) rfl
theorem tw_244 : Cond.instanceMethod ⟨"HuffForge$Table", "hasWord", "(I)Z"⟩ ∈ tt := List.mem_of_getElem? (i := 244) rfl
theorem tw_245 : Cond.selects "HuffForge$Table" ⟨"HuffForge$Table", "hasWord", "(I)Z"⟩ ⟨"HuffForge$Table", "hasWord", "(I)Z"⟩ ∈ tt := List.mem_of_getElem? (i := 245) rfl
theorem tw_246 : Cond.code ⟨"HuffForge$Table", "hasWord", "(I)Z"⟩ prog_5_method_4_code 2 (some .boolean) ∈ tt := List.mem_of_getElem? (i := 246) rfl
theorem tw_247 : Cond.methodLink "HuffForgeLaw" 68 ⟨"HuffForge", "code", "(I)I"⟩ ∈ tt := List.mem_of_getElem? (i := 247) rfl
theorem tw_248 : Cond.instanceMethod ⟨"HuffForge", "code", "(I)I"⟩ ∈ tt := List.mem_of_getElem? (i := 248) rfl
theorem tw_249 : Cond.selects "HuffForge" ⟨"HuffForge", "code", "(I)I"⟩ ⟨"HuffForge", "code", "(I)I"⟩ ∈ tt := List.mem_of_getElem? (i := 249) rfl
theorem tw_250 : Cond.code ⟨"HuffForge", "code", "(I)I"⟩ prog_1_method_10_code 2 (some .int) ∈ tt := List.mem_of_getElem? (i := 250) rfl
theorem tw_251 : Cond.methodLink "HuffForgeLaw" 72 ⟨"HuffForge", "of", "(II)I"⟩ ∈ tt := List.mem_of_getElem? (i := 251) rfl
theorem tw_252 : Cond.instanceMethod ⟨"HuffForge", "of", "(II)I"⟩ ∈ tt := List.mem_of_getElem? (i := 252) rfl
theorem tw_253 : Cond.selects "HuffForge" ⟨"HuffForge", "of", "(II)I"⟩ ⟨"HuffForge", "of", "(II)I"⟩ ∈ tt := List.mem_of_getElem? (i := 253) rfl
theorem tw_254 : Cond.code ⟨"HuffForge", "of", "(II)I"⟩ prog_1_method_11_code 3 (some .int) ∈ tt := List.mem_of_getElem? (i := 254) rfl
theorem tw_255 : Cond.methodLink "HuffForgeLaw" 83 ⟨"HuffForge", "get", "()I"⟩ ∈ tt := List.mem_of_getElem? (i := 255) rfl
theorem tw_256 : Cond.instanceMethod ⟨"HuffForge", "get", "()I"⟩ ∈ tt := List.mem_of_getElem? (i := 256) rfl
theorem tw_257 : Cond.selects "HuffForge" ⟨"HuffForge", "get", "()I"⟩ ⟨"HuffForge", "get", "()I"⟩ ∈ tt := List.mem_of_getElem? (i := 257) rfl
theorem tw_258 : Cond.code ⟨"HuffForge", "get", "()I"⟩ prog_1_method_14_code 3 (some .int) ∈ tt := List.mem_of_getElem? (i := 258) rfl
theorem tw_259 : Cond.methodLink "HuffForge" 139 ⟨"HuffForge$BitRow", "left", "()I"⟩ ∈ tt := List.mem_of_getElem? (i := 259) rfl
theorem tw_260 : Cond.instanceMethod ⟨"HuffForge$BitRow", "left", "()I"⟩ ∈ tt := List.mem_of_getElem? (i := 260) rfl
theorem tw_261 : Cond.selects "HuffForge$BitRow" ⟨"HuffForge$BitRow", "left", "()I"⟩ ⟨"HuffForge$BitRow", "left", "()I"⟩ ∈ tt := List.mem_of_getElem? (i := 261) rfl
theorem tw_262 : Cond.code ⟨"HuffForge$BitRow", "left", "()I"⟩ prog_3_method_3_code 1 (some .int) ∈ tt := List.mem_of_getElem? (i := 262) rfl
theorem tw_263 : Cond.methodLink "HuffForge" 148 ⟨"HuffForge$BitRow", "ahead", "(I)I"⟩ ∈ tt := List.mem_of_getElem? (i := 263) rfl
theorem tw_264 : Cond.instanceMethod ⟨"HuffForge$BitRow", "ahead", "(I)I"⟩ ∈ tt := List.mem_of_getElem? (i := 264) rfl
theorem tw_265 : Cond.selects "HuffForge$BitRow" ⟨"HuffForge$BitRow", "ahead", "(I)I"⟩ ⟨"HuffForge$BitRow", "ahead", "(I)I"⟩ ∈ tt := List.mem_of_getElem? (i := 265) rfl
theorem tw_266 : Cond.code ⟨"HuffForge$BitRow", "ahead", "(I)I"⟩ prog_3_method_5_code 4 (some .int) ∈ tt := List.mem_of_getElem? (i := 266) rfl
theorem tw_267 : Cond.methodLink "HuffForge" 152 ⟨"HuffForge$Table", "symbolAhead", "(II)I"⟩ ∈ tt := List.mem_of_getElem? (i := 267) rfl
theorem tw_268 : Cond.instanceMethod ⟨"HuffForge$Table", "symbolAhead", "(II)I"⟩ ∈ tt := List.mem_of_getElem? (i := 268) rfl
theorem tw_269 : Cond.selects "HuffForge$Table" ⟨"HuffForge$Table", "symbolAhead", "(II)I"⟩ ⟨"HuffForge$Table", "symbolAhead", "(II)I"⟩ ∈ tt := List.mem_of_getElem? (i := 269) rfl
theorem tw_270 : Cond.code ⟨"HuffForge$Table", "symbolAhead", "(II)I"⟩ prog_5_method_6_code 7 (some .int) ∈ tt := List.mem_of_getElem? (i := 270) rfl
theorem tw_271 : Cond.methodLink "HuffForgeLaw" 87 ⟨"HuffForge", "bits", "(I)I"⟩ ∈ tt := List.mem_of_getElem? (i := 271) rfl
theorem tw_272 : Cond.instanceMethod ⟨"HuffForge", "bits", "(I)I"⟩ ∈ tt := List.mem_of_getElem? (i := 272) rfl
theorem tw_273 : Cond.selects "HuffForge" ⟨"HuffForge", "bits", "(I)I"⟩ ⟨"HuffForge", "bits", "(I)I"⟩ ∈ tt := List.mem_of_getElem? (i := 273) rfl
theorem tw_274 : Cond.code ⟨"HuffForge", "bits", "(I)I"⟩ prog_1_method_15_code 3 (some .int) ∈ tt := List.mem_of_getElem? (i := 274) rfl
theorem tw_275 : Cond.methodLink "HuffForge" 132 ⟨"HuffForge", "isBitNumber", "(I)Z"⟩ ∈ tt := List.mem_of_getElem? (i := 275) rfl
theorem tw_276 : Cond.static ⟨"HuffForge", "isBitNumber", "(I)Z"⟩ ∈ tt := List.mem_of_getElem? (i := 276) rfl
theorem tw_277 : Cond.code ⟨"HuffForge", "isBitNumber", "(I)Z"⟩ prog_1_method_21_code 1 (some .boolean) ∈ tt := List.mem_of_getElem? (i := 277) rfl
theorem tw_278 : Cond.methodLink "HuffForgeLaw" 91 ⟨"HuffForge", "seek", "(I)Z"⟩ ∈ tt := List.mem_of_getElem? (i := 278) rfl
theorem tw_279 : Cond.instanceMethod ⟨"HuffForge", "seek", "(I)Z"⟩ ∈ tt := List.mem_of_getElem? (i := 279) rfl
theorem tw_280 : Cond.selects "HuffForge" ⟨"HuffForge", "seek", "(I)Z"⟩ ⟨"HuffForge", "seek", "(I)Z"⟩ ∈ tt := List.mem_of_getElem? (i := 280) rfl
theorem tw_281 : Cond.code ⟨"HuffForge", "seek", "(I)Z"⟩ prog_1_method_16_code 2 (some .boolean) ∈ tt := List.mem_of_getElem? (i := 281) rfl
theorem tw_282 : Cond.methodLink "HuffForgeLaw" 96 ⟨"HuffForge", "cut", "(I)Z"⟩ ∈ tt := List.mem_of_getElem? (i := 282) rfl
theorem tw_283 : Cond.instanceMethod ⟨"HuffForge", "cut", "(I)Z"⟩ ∈ tt := List.mem_of_getElem? (i := 283) rfl
theorem tw_284 : Cond.selects "HuffForge" ⟨"HuffForge", "cut", "(I)Z"⟩ ⟨"HuffForge", "cut", "(I)Z"⟩ ∈ tt := List.mem_of_getElem? (i := 284) rfl
theorem tw_285 : Cond.code ⟨"HuffForge", "cut", "(I)Z"⟩ prog_1_method_17_code 2 (some .boolean) ∈ tt := List.mem_of_getElem? (i := 285) rfl
theorem tw_286 : Cond.methodLink "HuffForgeLaw" 100 ⟨"HuffForge", "look", "(I)I"⟩ ∈ tt := List.mem_of_getElem? (i := 286) rfl
theorem tw_287 : Cond.instanceMethod ⟨"HuffForge", "look", "(I)I"⟩ ∈ tt := List.mem_of_getElem? (i := 287) rfl
theorem tw_288 : Cond.selects "HuffForge" ⟨"HuffForge", "look", "(I)I"⟩ ⟨"HuffForge", "look", "(I)I"⟩ ∈ tt := List.mem_of_getElem? (i := 288) rfl
theorem tw_289 : Cond.code ⟨"HuffForge", "look", "(I)I"⟩ prog_1_method_18_code 2 (some .int) ∈ tt := List.mem_of_getElem? (i := 289) rfl
theorem tw_290 : Cond.methodLink "HuffForge" 158 ⟨"HuffForge$Tally", "kinds", "()I"⟩ ∈ tt := List.mem_of_getElem? (i := 290) rfl
theorem tw_291 : Cond.instanceMethod ⟨"HuffForge$Tally", "kinds", "()I"⟩ ∈ tt := List.mem_of_getElem? (i := 291) rfl
theorem tw_292 : Cond.selects "HuffForge$Tally" ⟨"HuffForge$Tally", "kinds", "()I"⟩ ⟨"HuffForge$Tally", "kinds", "()I"⟩ ∈ tt := List.mem_of_getElem? (i := 292) rfl
theorem tw_293 : Cond.code ⟨"HuffForge$Tally", "kinds", "()I"⟩ prog_6_method_4_code 3 (some .int) ∈ tt := List.mem_of_getElem? (i := 293) rfl
theorem tw_294 : Cond.methodLink "HuffForge" 161 ⟨"HuffForge", "greatestLength", "([II)I"⟩ ∈ tt := List.mem_of_getElem? (i := 294) rfl
theorem tw_295 : Cond.methodLink "HuffForgeLaw" 46 ⟨"HuffForgeLaw", "comes", "(LHuffForge;II[J)I"⟩ ∈ tt := List.mem_of_getElem? (i := 295) rfl
theorem tw_296 : Cond.static ⟨"HuffForgeLaw", "comes", "(LHuffForge;II[J)I"⟩ ∈ tt := List.mem_of_getElem? (i := 296) rfl
theorem tw_297 : Cond.codeWith ⟨"HuffForgeLaw", "comes", "(LHuffForge;II[J)I"⟩ method_3_code 5 (some .int) [(0, 10, 13, 13), (0, 10, 17, 15)] ∈ tt := List.mem_of_getElem? (i := 297) rfl
theorem tw_298 : Cond.classLink "HuffForgeLaw" 13 "java/lang/IllegalArgumentException" ∈ tt := List.mem_of_getElem? (i := 298) rfl
theorem tw_299 : Cond.classLink "HuffForgeLaw" 15 "java/lang/IllegalStateException" ∈ tt := List.mem_of_getElem? (i := 299) rfl
theorem tw_300 : Cond.methodLink "HuffForgeLaw" 7 ⟨"HuffForge", "comes", "(II)I"⟩ ∈ tt := List.mem_of_getElem? (i := 300) rfl
theorem tw_301 : Cond.instanceMethod ⟨"HuffForge", "comes", "(II)I"⟩ ∈ tt := List.mem_of_getElem? (i := 301) rfl
theorem tw_302 : Cond.selects "HuffForge" ⟨"HuffForge", "comes", "(II)I"⟩ ⟨"HuffForge", "comes", "(II)I"⟩ ∈ tt := List.mem_of_getElem? (i := 302) rfl
theorem tw_303 : Cond.code ⟨"HuffForge", "comes", "(II)I"⟩ prog_1_method_6_code 3 (some .int) ∈ tt := List.mem_of_getElem? (i := 303) rfl
theorem tw_304 : Cond.arrayClass .byte ∈ tt := List.mem_of_getElem? (i := 304) rfl
theorem tw_305 : Cond.constant "HuffForge" 83 1000000 ∈ tt := List.mem_of_getElem? (i := 305) rfl
theorem tw_306 : Cond.methodLink "HuffForge" 92 ⟨"HuffForge$Tally", "add", "(II)V"⟩ ∈ tt := List.mem_of_getElem? (i := 306) rfl
theorem tw_307 : Cond.instanceMethod ⟨"HuffForge$Tally", "add", "(II)V"⟩ ∈ tt := List.mem_of_getElem? (i := 307) rfl
theorem tw_308 : Cond.selects "HuffForge$Tally" ⟨"HuffForge$Tally", "add", "(II)V"⟩ ⟨"HuffForge$Tally", "add", "(II)V"⟩ ∈ tt := List.mem_of_getElem? (i := 308) rfl
theorem tw_309 : Cond.code ⟨"HuffForge$Tally", "add", "(II)V"⟩ prog_6_method_2_code 3 none ∈ tt := List.mem_of_getElem? (i := 309) rfl
theorem tw_310 : Cond.methodLink "HuffForgeLaw" 76 ⟨"HuffForgeLaw", "put", "(LHuffForge;I[J)I"⟩ ∈ tt := List.mem_of_getElem? (i := 310) rfl
theorem tw_311 : Cond.static ⟨"HuffForgeLaw", "put", "(LHuffForge;I[J)I"⟩ ∈ tt := List.mem_of_getElem? (i := 311) rfl
theorem tw_312 : Cond.codeWith ⟨"HuffForgeLaw", "put", "(LHuffForge;I[J)I"⟩ method_4_code 4 (some .int) [(0, 9, 12, 13), (0, 9, 15, 15)] ∈ tt := List.mem_of_getElem? (i := 312) rfl
theorem tw_313 : Cond.methodLink "HuffForgeLaw" 17 ⟨"HuffForge", "put", "(I)I"⟩ ∈ tt := List.mem_of_getElem? (i := 313) rfl
theorem tw_314 : Cond.instanceMethod ⟨"HuffForge", "put", "(I)I"⟩ ∈ tt := List.mem_of_getElem? (i := 314) rfl
theorem tw_315 : Cond.selects "HuffForge" ⟨"HuffForge", "put", "(I)I"⟩ ⟨"HuffForge", "put", "(I)I"⟩ ∈ tt := List.mem_of_getElem? (i := 315) rfl
theorem tw_316 : Cond.code ⟨"HuffForge", "put", "(I)I"⟩ prog_1_method_12_code 2 (some .int) ∈ tt := List.mem_of_getElem? (i := 316) rfl
theorem tw_317 : Cond.methodLink "HuffForge" 123 ⟨"HuffForge$BitRow", "hasRoom", "(I)Z"⟩ ∈ tt := List.mem_of_getElem? (i := 317) rfl
theorem tw_318 : Cond.instanceMethod ⟨"HuffForge$BitRow", "hasRoom", "(I)Z"⟩ ∈ tt := List.mem_of_getElem? (i := 318) rfl
theorem tw_319 : Cond.selects "HuffForge$BitRow" ⟨"HuffForge$BitRow", "hasRoom", "(I)Z"⟩ ⟨"HuffForge$BitRow", "hasRoom", "(I)Z"⟩ ∈ tt := List.mem_of_getElem? (i := 319) rfl
theorem tw_320 : Cond.code ⟨"HuffForge$BitRow", "hasRoom", "(I)Z"⟩ prog_3_method_2_code 2 (some .boolean) ∈ tt := List.mem_of_getElem? (i := 320) rfl
theorem tw_321 : Cond.constant "HuffForge$BitRow" 15 65536 ∈ tt := List.mem_of_getElem? (i := 321) rfl
theorem tw_322 : Cond.methodLink "HuffForge" 128 ⟨"HuffForge$BitRow", "append", "(II)V"⟩ ∈ tt := List.mem_of_getElem? (i := 322) rfl
theorem tw_323 : Cond.instanceMethod ⟨"HuffForge$BitRow", "append", "(II)V"⟩ ∈ tt := List.mem_of_getElem? (i := 323) rfl
theorem tw_324 : Cond.selects "HuffForge$BitRow" ⟨"HuffForge$BitRow", "append", "(II)V"⟩ ⟨"HuffForge$BitRow", "append", "(II)V"⟩ ∈ tt := List.mem_of_getElem? (i := 324) rfl
theorem tw_325 : Cond.code ⟨"HuffForge$BitRow", "append", "(II)V"⟩ prog_3_method_4_code 6 none ∈ tt := List.mem_of_getElem? (i := 325) rfl
theorem tw_326 : Cond.methodLink "HuffForgeLaw" 80 ⟨"HuffForgeLaw", "raw", "(LHuffForge;II[J)I"⟩ ∈ tt := List.mem_of_getElem? (i := 326) rfl
theorem tw_327 : Cond.static ⟨"HuffForgeLaw", "raw", "(LHuffForge;II[J)I"⟩ ∈ tt := List.mem_of_getElem? (i := 327) rfl
theorem tw_328 : Cond.codeWith ⟨"HuffForgeLaw", "raw", "(LHuffForge;II[J)I"⟩ method_5_code 5 (some .int) [(0, 10, 13, 13), (0, 10, 17, 15)] ∈ tt := List.mem_of_getElem? (i := 328) rfl
theorem tw_329 : Cond.methodLink "HuffForgeLaw" 21 ⟨"HuffForge", "raw", "(II)I"⟩ ∈ tt := List.mem_of_getElem? (i := 329) rfl
theorem tw_330 : Cond.instanceMethod ⟨"HuffForge", "raw", "(II)I"⟩ ∈ tt := List.mem_of_getElem? (i := 330) rfl
theorem tw_331 : Cond.selects "HuffForge" ⟨"HuffForge", "raw", "(II)I"⟩ ⟨"HuffForge", "raw", "(II)I"⟩ ∈ tt := List.mem_of_getElem? (i := 331) rfl
theorem tw_332 : Cond.code ⟨"HuffForge", "raw", "(II)I"⟩ prog_1_method_13_code 3 (some .int) ∈ tt := List.mem_of_getElem? (i := 332) rfl
theorem tw_333 : Cond.classLink "HuffForgeLaw" 25 "HuffForgeModel" ∈ tt := List.mem_of_getElem? (i := 333) rfl
theorem tw_334 : Cond.instantiable "HuffForgeModel" 18 ∈ tt := List.mem_of_getElem? (i := 334) rfl
theorem tw_335 : Cond.methodLink "HuffForgeLaw" 27 ⟨"HuffForgeModel", "<init>", "()V"⟩ ∈ tt := List.mem_of_getElem? (i := 335) rfl
theorem tw_336 : Cond.instanceMethod ⟨"HuffForgeModel", "<init>", "()V"⟩ ∈ tt := List.mem_of_getElem? (i := 336) rfl
theorem tw_337 : Cond.code ⟨"HuffForgeModel", "<init>", "()V"⟩ prog_8_method_1_code 1 none ∈ tt := List.mem_of_getElem? (i := 337) rfl
theorem tw_338 : Cond.methodLink "HuffForgeModel" 1 ⟨"java/lang/Object", "<init>", "()V"⟩ ∈ tt := List.mem_of_getElem? (i := 338) rfl
theorem tw_339 : Cond.constant "HuffForgeModel" 31 65536 ∈ tt := List.mem_of_getElem? (i := 339) rfl
theorem tw_340 : Cond.fieldLink "HuffForgeModel" 48 "HuffForgeModel" "thrown" "I" ∈ tt := List.mem_of_getElem? (i := 340) rfl
theorem tw_341 : Cond.fieldLink "HuffForgeModel" 7 "HuffForgeModel" "draft" "[I" ∈ tt := List.mem_of_getElem? (i := 341) rfl
theorem tw_342 : Cond.fieldLink "HuffForgeModel" 13 "HuffForgeModel" "drafted" "[I" ∈ tt := List.mem_of_getElem? (i := 342) rfl
theorem tw_343 : Cond.fieldLink "HuffForgeModel" 56 "HuffForgeModel" "drafts" "I" ∈ tt := List.mem_of_getElem? (i := 343) rfl
theorem tw_344 : Cond.fieldLink "HuffForgeModel" 16 "HuffForgeModel" "counts" "[I" ∈ tt := List.mem_of_getElem? (i := 344) rfl
theorem tw_345 : Cond.fieldLink "HuffForgeModel" 19 "HuffForgeModel" "symbols" "[I" ∈ tt := List.mem_of_getElem? (i := 345) rfl
theorem tw_346 : Cond.fieldLink "HuffForgeModel" 65 "HuffForgeModel" "words" "I" ∈ tt := List.mem_of_getElem? (i := 346) rfl
theorem tw_347 : Cond.fieldLink "HuffForgeModel" 22 "HuffForgeModel" "lengths" "[I" ∈ tt := List.mem_of_getElem? (i := 347) rfl
theorem tw_348 : Cond.fieldLink "HuffForgeModel" 25 "HuffForgeModel" "codes" "[I" ∈ tt := List.mem_of_getElem? (i := 348) rfl
theorem tw_349 : Cond.fieldLink "HuffForgeModel" 28 "HuffForgeModel" "often" "[I" ∈ tt := List.mem_of_getElem? (i := 349) rfl
theorem tw_350 : Cond.fieldLink "HuffForgeModel" 72 "HuffForgeModel" "total" "I" ∈ tt := List.mem_of_getElem? (i := 350) rfl
theorem tw_351 : Cond.fieldLink "HuffForgeModel" 32 "HuffForgeModel" "row" "[B" ∈ tt := List.mem_of_getElem? (i := 351) rfl
theorem tw_352 : Cond.fieldLink "HuffForgeModel" 85 "HuffForgeModel" "size" "I" ∈ tt := List.mem_of_getElem? (i := 352) rfl
theorem tw_353 : Cond.fieldLink "HuffForgeModel" 92 "HuffForgeModel" "place" "I" ∈ tt := List.mem_of_getElem? (i := 353) rfl
theorem tw_354 : Cond.fieldLink "HuffForgeModel" 36 "HuffForgeModel" "number" "[I" ∈ tt := List.mem_of_getElem? (i := 354) rfl
theorem tw_355 : Cond.fieldLink "HuffForgeModel" 39 "HuffForgeModel" "group" "[I" ∈ tt := List.mem_of_getElem? (i := 355) rfl
theorem tw_356 : Cond.fieldLink "HuffForgeModel" 42 "HuffForgeModel" "bitsOf" "[I" ∈ tt := List.mem_of_getElem? (i := 356) rfl
theorem tw_357 : Cond.fieldLink "HuffForgeModel" 45 "HuffForgeModel" "many" "[I" ∈ tt := List.mem_of_getElem? (i := 357) rfl
theorem tw_358 : Cond.lays "HuffForgeModel" "HuffForgeModel" "thrown" "I" ∈ tt := List.mem_of_getElem? (i := 358) rfl
theorem tw_359 : Cond.laysFinal "HuffForgeModel" "HuffForgeModel" "draft" "[I" ∈ tt := List.mem_of_getElem? (i := 359) rfl
theorem tw_360 : Cond.laysFinal "HuffForgeModel" "HuffForgeModel" "drafted" "[I" ∈ tt := List.mem_of_getElem? (i := 360) rfl
theorem tw_361 : Cond.lays "HuffForgeModel" "HuffForgeModel" "drafts" "I" ∈ tt := List.mem_of_getElem? (i := 361) rfl
theorem tw_362 : Cond.laysFinal "HuffForgeModel" "HuffForgeModel" "counts" "[I" ∈ tt := List.mem_of_getElem? (i := 362) rfl
theorem tw_363 : Cond.laysFinal "HuffForgeModel" "HuffForgeModel" "symbols" "[I" ∈ tt := List.mem_of_getElem? (i := 363) rfl
theorem tw_364 : Cond.lays "HuffForgeModel" "HuffForgeModel" "words" "I" ∈ tt := List.mem_of_getElem? (i := 364) rfl
theorem tw_365 : Cond.laysFinal "HuffForgeModel" "HuffForgeModel" "lengths" "[I" ∈ tt := List.mem_of_getElem? (i := 365) rfl
theorem tw_366 : Cond.laysFinal "HuffForgeModel" "HuffForgeModel" "codes" "[I" ∈ tt := List.mem_of_getElem? (i := 366) rfl
theorem tw_367 : Cond.laysFinal "HuffForgeModel" "HuffForgeModel" "often" "[I" ∈ tt := List.mem_of_getElem? (i := 367) rfl
theorem tw_368 : Cond.lays "HuffForgeModel" "HuffForgeModel" "total" "I" ∈ tt := List.mem_of_getElem? (i := 368) rfl
theorem tw_369 : Cond.laysFinal "HuffForgeModel" "HuffForgeModel" "row" "[B" ∈ tt := List.mem_of_getElem? (i := 369) rfl
theorem tw_370 : Cond.lays "HuffForgeModel" "HuffForgeModel" "size" "I" ∈ tt := List.mem_of_getElem? (i := 370) rfl
theorem tw_371 : Cond.lays "HuffForgeModel" "HuffForgeModel" "place" "I" ∈ tt := List.mem_of_getElem? (i := 371) rfl
theorem tw_372 : Cond.laysFinal "HuffForgeModel" "HuffForgeModel" "number" "[I" ∈ tt := List.mem_of_getElem? (i := 372) rfl
theorem tw_373 : Cond.laysFinal "HuffForgeModel" "HuffForgeModel" "group" "[I" ∈ tt := List.mem_of_getElem? (i := 373) rfl
theorem tw_374 : Cond.laysFinal "HuffForgeModel" "HuffForgeModel" "bitsOf" "[I" ∈ tt := List.mem_of_getElem? (i := 374) rfl
theorem tw_375 : Cond.laysFinal "HuffForgeModel" "HuffForgeModel" "many" "[I" ∈ tt := List.mem_of_getElem? (i := 375) rfl
theorem tw_376 : Cond.methodLink "HuffForgeLaw" 52 ⟨"HuffForgeModel", "thrown", "()I"⟩ ∈ tt := List.mem_of_getElem? (i := 376) rfl
theorem tw_377 : Cond.instanceMethod ⟨"HuffForgeModel", "thrown", "()I"⟩ ∈ tt := List.mem_of_getElem? (i := 377) rfl
theorem tw_378 : Cond.selects "HuffForgeModel" ⟨"HuffForgeModel", "thrown", "()I"⟩ ⟨"HuffForgeModel", "thrown", "()I"⟩ ∈ tt := List.mem_of_getElem? (i := 378) rfl
theorem tw_379 : Cond.code ⟨"HuffForgeModel", "thrown", "()I"⟩ prog_8_method_2_code 1 (some .int) ∈ tt := List.mem_of_getElem? (i := 379) rfl
theorem tw_380 : Cond.methodLink "HuffForgeLaw" 32 ⟨"HuffForgeModel", "count", "(II)Z"⟩ ∈ tt := List.mem_of_getElem? (i := 380) rfl
theorem tw_381 : Cond.instanceMethod ⟨"HuffForgeModel", "count", "(II)Z"⟩ ∈ tt := List.mem_of_getElem? (i := 381) rfl
theorem tw_382 : Cond.selects "HuffForgeModel" ⟨"HuffForgeModel", "count", "(II)Z"⟩ ⟨"HuffForgeModel", "count", "(II)Z"⟩ ∈ tt := List.mem_of_getElem? (i := 382) rfl
theorem tw_383 : Cond.code ⟨"HuffForgeModel", "count", "(II)Z"⟩ prog_8_method_4_code 3 (some .boolean) ∈ tt := List.mem_of_getElem? (i := 383) rfl
theorem tw_384 : Cond.methodLink "HuffForgeLaw" 36 ⟨"HuffForgeModel", "symbol", "(I)I"⟩ ∈ tt := List.mem_of_getElem? (i := 384) rfl
theorem tw_385 : Cond.instanceMethod ⟨"HuffForgeModel", "symbol", "(I)I"⟩ ∈ tt := List.mem_of_getElem? (i := 385) rfl
theorem tw_386 : Cond.selects "HuffForgeModel" ⟨"HuffForgeModel", "symbol", "(I)I"⟩ ⟨"HuffForgeModel", "symbol", "(I)I"⟩ ∈ tt := List.mem_of_getElem? (i := 386) rfl
theorem tw_387 : Cond.code ⟨"HuffForgeModel", "symbol", "(I)I"⟩ prog_8_method_5_code 2 (some .int) ∈ tt := List.mem_of_getElem? (i := 387) rfl
theorem tw_388 : Cond.methodLink "HuffForgeModel" 52 ⟨"HuffForgeModel", "isSymbol", "(I)Z"⟩ ∈ tt := List.mem_of_getElem? (i := 388) rfl
theorem tw_389 : Cond.static ⟨"HuffForgeModel", "isSymbol", "(I)Z"⟩ ∈ tt := List.mem_of_getElem? (i := 389) rfl
theorem tw_390 : Cond.code ⟨"HuffForgeModel", "isSymbol", "(I)Z"⟩ prog_8_method_3_code 1 (some .boolean) ∈ tt := List.mem_of_getElem? (i := 390) rfl
theorem tw_391 : Cond.methodLink "HuffForgeLaw" 40 ⟨"HuffForgeModel", "wipe", "()V"⟩ ∈ tt := List.mem_of_getElem? (i := 391) rfl
theorem tw_392 : Cond.instanceMethod ⟨"HuffForgeModel", "wipe", "()V"⟩ ∈ tt := List.mem_of_getElem? (i := 392) rfl
theorem tw_393 : Cond.selects "HuffForgeModel" ⟨"HuffForgeModel", "wipe", "()V"⟩ ⟨"HuffForgeModel", "wipe", "()V"⟩ ∈ tt := List.mem_of_getElem? (i := 393) rfl
theorem tw_394 : Cond.code ⟨"HuffForgeModel", "wipe", "()V"⟩ prog_8_method_6_code 2 none ∈ tt := List.mem_of_getElem? (i := 394) rfl
theorem tw_395 : Cond.methodLink "HuffForgeLaw" 45 ⟨"HuffForgeModel", "make", "()I"⟩ ∈ tt := List.mem_of_getElem? (i := 395) rfl
theorem tw_396 : Cond.instanceMethod ⟨"HuffForgeModel", "make", "()I"⟩ ∈ tt := List.mem_of_getElem? (i := 396) rfl
theorem tw_397 : Cond.selects "HuffForgeModel" ⟨"HuffForgeModel", "make", "()I"⟩ ⟨"HuffForgeModel", "make", "()I"⟩ ∈ tt := List.mem_of_getElem? (i := 397) rfl
theorem tw_398 : Cond.code ⟨"HuffForgeModel", "make", "()I"⟩ prog_8_method_9_code 3 (some .int) ∈ tt := List.mem_of_getElem? (i := 398) rfl
theorem tw_399 : Cond.methodLink "HuffForgeModel" 61 ⟨"HuffForgeModel", "wrong", "()I"⟩ ∈ tt := List.mem_of_getElem? (i := 399) rfl
theorem tw_400 : Cond.instanceMethod ⟨"HuffForgeModel", "wrong", "()I"⟩ ∈ tt := List.mem_of_getElem? (i := 400) rfl
theorem tw_401 : Cond.code ⟨"HuffForgeModel", "wrong", "()I"⟩ prog_8_method_7_code 6 (some .int) ∈ tt := List.mem_of_getElem? (i := 401) rfl
theorem tw_402 : Cond.constantLong "HuffForgeModel" 59 2 ∈ tt := List.mem_of_getElem? (i := 402) rfl
theorem tw_403 : Cond.methodLink "HuffForgeModel" 68 ⟨"HuffForgeModel", "giveWords", "()V"⟩ ∈ tt := List.mem_of_getElem? (i := 403) rfl
theorem tw_404 : Cond.instanceMethod ⟨"HuffForgeModel", "giveWords", "()V"⟩ ∈ tt := List.mem_of_getElem? (i := 404) rfl
theorem tw_405 : Cond.code ⟨"HuffForgeModel", "giveWords", "()V"⟩ prog_8_method_8_code 5 none ∈ tt := List.mem_of_getElem? (i := 405) rfl
theorem tw_406 : Cond.methodLink "HuffForgeLaw" 51 ⟨"HuffForgeModel", "comes", "(II)I"⟩ ∈ tt := List.mem_of_getElem? (i := 406) rfl
theorem tw_407 : Cond.instanceMethod ⟨"HuffForgeModel", "comes", "(II)I"⟩ ∈ tt := List.mem_of_getElem? (i := 407) rfl
theorem tw_408 : Cond.selects "HuffForgeModel" ⟨"HuffForgeModel", "comes", "(II)I"⟩ ⟨"HuffForgeModel", "comes", "(II)I"⟩ ∈ tt := List.mem_of_getElem? (i := 408) rfl
theorem tw_409 : Cond.code ⟨"HuffForgeModel", "comes", "(II)I"⟩ prog_8_method_10_code 3 (some .int) ∈ tt := List.mem_of_getElem? (i := 409) rfl
theorem tw_410 : Cond.constant "HuffForgeModel" 71 1000000 ∈ tt := List.mem_of_getElem? (i := 410) rfl
theorem tw_411 : Cond.methodLink "HuffForgeLaw" 58 ⟨"HuffForgeModel", "forget", "()V"⟩ ∈ tt := List.mem_of_getElem? (i := 411) rfl
theorem tw_412 : Cond.instanceMethod ⟨"HuffForgeModel", "forget", "()V"⟩ ∈ tt := List.mem_of_getElem? (i := 412) rfl
theorem tw_413 : Cond.selects "HuffForgeModel" ⟨"HuffForgeModel", "forget", "()V"⟩ ⟨"HuffForgeModel", "forget", "()V"⟩ ∈ tt := List.mem_of_getElem? (i := 413) rfl
theorem tw_414 : Cond.code ⟨"HuffForgeModel", "forget", "()V"⟩ prog_8_method_11_code 2 none ∈ tt := List.mem_of_getElem? (i := 414) rfl
theorem tw_415 : Cond.methodLink "HuffForgeLaw" 63 ⟨"HuffForgeModel", "best", "()J"⟩ ∈ tt := List.mem_of_getElem? (i := 415) rfl
theorem tw_416 : Cond.instanceMethod ⟨"HuffForgeModel", "best", "()J"⟩ ∈ tt := List.mem_of_getElem? (i := 416) rfl
theorem tw_417 : Cond.selects "HuffForgeModel" ⟨"HuffForgeModel", "best", "()J"⟩ ⟨"HuffForgeModel", "best", "()J"⟩ ∈ tt := List.mem_of_getElem? (i := 417) rfl
theorem tw_418 : Cond.code ⟨"HuffForgeModel", "best", "()J"⟩ prog_8_method_15_code 4 (some .long) ∈ tt := List.mem_of_getElem? (i := 418) rfl
theorem tw_419 : Cond.methodLink "HuffForgeModel" 79 ⟨"HuffForgeModel", "join", "()V"⟩ ∈ tt := List.mem_of_getElem? (i := 419) rfl
theorem tw_420 : Cond.instanceMethod ⟨"HuffForgeModel", "join", "()V"⟩ ∈ tt := List.mem_of_getElem? (i := 420) rfl
theorem tw_421 : Cond.code ⟨"HuffForgeModel", "join", "()V"⟩ prog_8_method_13_code 4 none ∈ tt := List.mem_of_getElem? (i := 421) rfl
theorem tw_422 : Cond.methodLink "HuffForgeModel" 75 ⟨"HuffForgeModel", "least", "(I)I"⟩ ∈ tt := List.mem_of_getElem? (i := 422) rfl
theorem tw_423 : Cond.instanceMethod ⟨"HuffForgeModel", "least", "(I)I"⟩ ∈ tt := List.mem_of_getElem? (i := 423) rfl
theorem tw_424 : Cond.code ⟨"HuffForgeModel", "least", "(I)I"⟩ prog_8_method_12_code 4 (some .int) ∈ tt := List.mem_of_getElem? (i := 424) rfl
theorem tw_425 : Cond.methodLink "HuffForgeModel" 82 ⟨"HuffForgeModel", "shorten", "()V"⟩ ∈ tt := List.mem_of_getElem? (i := 425) rfl
theorem tw_426 : Cond.instanceMethod ⟨"HuffForgeModel", "shorten", "()V"⟩ ∈ tt := List.mem_of_getElem? (i := 426) rfl
theorem tw_427 : Cond.code ⟨"HuffForgeModel", "shorten", "()V"⟩ prog_8_method_14_code 3 none ∈ tt := List.mem_of_getElem? (i := 427) rfl
theorem tw_428 : Cond.methodLink "HuffForgeLaw" 67 ⟨"HuffForgeModel", "length", "(I)I"⟩ ∈ tt := List.mem_of_getElem? (i := 428) rfl
theorem tw_429 : Cond.instanceMethod ⟨"HuffForgeModel", "length", "(I)I"⟩ ∈ tt := List.mem_of_getElem? (i := 429) rfl
theorem tw_430 : Cond.selects "HuffForgeModel" ⟨"HuffForgeModel", "length", "(I)I"⟩ ⟨"HuffForgeModel", "length", "(I)I"⟩ ∈ tt := List.mem_of_getElem? (i := 430) rfl
theorem tw_431 : Cond.code ⟨"HuffForgeModel", "length", "(I)I"⟩ prog_8_method_16_code 2 (some .int) ∈ tt := List.mem_of_getElem? (i := 431) rfl
theorem tw_432 : Cond.methodLink "HuffForgeLaw" 71 ⟨"HuffForgeModel", "code", "(I)I"⟩ ∈ tt := List.mem_of_getElem? (i := 432) rfl
theorem tw_433 : Cond.instanceMethod ⟨"HuffForgeModel", "code", "(I)I"⟩ ∈ tt := List.mem_of_getElem? (i := 433) rfl
theorem tw_434 : Cond.selects "HuffForgeModel" ⟨"HuffForgeModel", "code", "(I)I"⟩ ⟨"HuffForgeModel", "code", "(I)I"⟩ ∈ tt := List.mem_of_getElem? (i := 434) rfl
theorem tw_435 : Cond.code ⟨"HuffForgeModel", "code", "(I)I"⟩ prog_8_method_17_code 2 (some .int) ∈ tt := List.mem_of_getElem? (i := 435) rfl
theorem tw_436 : Cond.methodLink "HuffForgeLaw" 75 ⟨"HuffForgeModel", "of", "(II)I"⟩ ∈ tt := List.mem_of_getElem? (i := 436) rfl
theorem tw_437 : Cond.instanceMethod ⟨"HuffForgeModel", "of", "(II)I"⟩ ∈ tt := List.mem_of_getElem? (i := 437) rfl
theorem tw_438 : Cond.selects "HuffForgeModel" ⟨"HuffForgeModel", "of", "(II)I"⟩ ⟨"HuffForgeModel", "of", "(II)I"⟩ ∈ tt := List.mem_of_getElem? (i := 438) rfl
theorem tw_439 : Cond.code ⟨"HuffForgeModel", "of", "(II)I"⟩ prog_8_method_18_code 3 (some .int) ∈ tt := List.mem_of_getElem? (i := 439) rfl
theorem tw_440 : Cond.methodLink "HuffForgeLaw" 79 ⟨"HuffForgeModel", "put", "(I)I"⟩ ∈ tt := List.mem_of_getElem? (i := 440) rfl
theorem tw_441 : Cond.instanceMethod ⟨"HuffForgeModel", "put", "(I)I"⟩ ∈ tt := List.mem_of_getElem? (i := 441) rfl
theorem tw_442 : Cond.selects "HuffForgeModel" ⟨"HuffForgeModel", "put", "(I)I"⟩ ⟨"HuffForgeModel", "put", "(I)I"⟩ ∈ tt := List.mem_of_getElem? (i := 442) rfl
theorem tw_443 : Cond.code ⟨"HuffForgeModel", "put", "(I)I"⟩ prog_8_method_20_code 3 (some .int) ∈ tt := List.mem_of_getElem? (i := 443) rfl
theorem tw_444 : Cond.methodLink "HuffForgeModel" 88 ⟨"HuffForgeModel", "lay", "(II)V"⟩ ∈ tt := List.mem_of_getElem? (i := 444) rfl
theorem tw_445 : Cond.instanceMethod ⟨"HuffForgeModel", "lay", "(II)V"⟩ ∈ tt := List.mem_of_getElem? (i := 445) rfl
theorem tw_446 : Cond.code ⟨"HuffForgeModel", "lay", "(II)V"⟩ prog_8_method_19_code 4 none ∈ tt := List.mem_of_getElem? (i := 446) rfl
theorem tw_447 : Cond.methodLink "HuffForgeLaw" 82 ⟨"HuffForgeModel", "raw", "(II)I"⟩ ∈ tt := List.mem_of_getElem? (i := 447) rfl
theorem tw_448 : Cond.instanceMethod ⟨"HuffForgeModel", "raw", "(II)I"⟩ ∈ tt := List.mem_of_getElem? (i := 448) rfl
theorem tw_449 : Cond.selects "HuffForgeModel" ⟨"HuffForgeModel", "raw", "(II)I"⟩ ⟨"HuffForgeModel", "raw", "(II)I"⟩ ∈ tt := List.mem_of_getElem? (i := 449) rfl
theorem tw_450 : Cond.code ⟨"HuffForgeModel", "raw", "(II)I"⟩ prog_8_method_21_code 3 (some .int) ∈ tt := List.mem_of_getElem? (i := 450) rfl
theorem tw_451 : Cond.methodLink "HuffForgeLaw" 86 ⟨"HuffForgeModel", "get", "()I"⟩ ∈ tt := List.mem_of_getElem? (i := 451) rfl
theorem tw_452 : Cond.instanceMethod ⟨"HuffForgeModel", "get", "()I"⟩ ∈ tt := List.mem_of_getElem? (i := 452) rfl
theorem tw_453 : Cond.selects "HuffForgeModel" ⟨"HuffForgeModel", "get", "()I"⟩ ⟨"HuffForgeModel", "get", "()I"⟩ ∈ tt := List.mem_of_getElem? (i := 453) rfl
theorem tw_454 : Cond.code ⟨"HuffForgeModel", "get", "()I"⟩ prog_8_method_23_code 4 (some .int) ∈ tt := List.mem_of_getElem? (i := 454) rfl
theorem tw_455 : Cond.methodLink "HuffForgeModel" 95 ⟨"HuffForgeModel", "stands", "(II)Z"⟩ ∈ tt := List.mem_of_getElem? (i := 455) rfl
theorem tw_456 : Cond.instanceMethod ⟨"HuffForgeModel", "stands", "(II)Z"⟩ ∈ tt := List.mem_of_getElem? (i := 456) rfl
theorem tw_457 : Cond.code ⟨"HuffForgeModel", "stands", "(II)Z"⟩ prog_8_method_22_code 5 (some .boolean) ∈ tt := List.mem_of_getElem? (i := 457) rfl
theorem tw_458 : Cond.methodLink "HuffForgeLaw" 90 ⟨"HuffForgeModel", "bits", "(I)I"⟩ ∈ tt := List.mem_of_getElem? (i := 458) rfl
theorem tw_459 : Cond.instanceMethod ⟨"HuffForgeModel", "bits", "(I)I"⟩ ∈ tt := List.mem_of_getElem? (i := 459) rfl
theorem tw_460 : Cond.selects "HuffForgeModel" ⟨"HuffForgeModel", "bits", "(I)I"⟩ ⟨"HuffForgeModel", "bits", "(I)I"⟩ ∈ tt := List.mem_of_getElem? (i := 460) rfl
theorem tw_461 : Cond.code ⟨"HuffForgeModel", "bits", "(I)I"⟩ prog_8_method_24_code 4 (some .int) ∈ tt := List.mem_of_getElem? (i := 461) rfl
theorem tw_462 : Cond.methodLink "HuffForgeLaw" 95 ⟨"HuffForgeModel", "seek", "(I)Z"⟩ ∈ tt := List.mem_of_getElem? (i := 462) rfl
theorem tw_463 : Cond.instanceMethod ⟨"HuffForgeModel", "seek", "(I)Z"⟩ ∈ tt := List.mem_of_getElem? (i := 463) rfl
theorem tw_464 : Cond.selects "HuffForgeModel" ⟨"HuffForgeModel", "seek", "(I)Z"⟩ ⟨"HuffForgeModel", "seek", "(I)Z"⟩ ∈ tt := List.mem_of_getElem? (i := 464) rfl
theorem tw_465 : Cond.code ⟨"HuffForgeModel", "seek", "(I)Z"⟩ prog_8_method_25_code 2 (some .boolean) ∈ tt := List.mem_of_getElem? (i := 465) rfl
theorem tw_466 : Cond.methodLink "HuffForgeLaw" 99 ⟨"HuffForgeModel", "cut", "(I)Z"⟩ ∈ tt := List.mem_of_getElem? (i := 466) rfl
theorem tw_467 : Cond.instanceMethod ⟨"HuffForgeModel", "cut", "(I)Z"⟩ ∈ tt := List.mem_of_getElem? (i := 467) rfl
theorem tw_468 : Cond.selects "HuffForgeModel" ⟨"HuffForgeModel", "cut", "(I)Z"⟩ ⟨"HuffForgeModel", "cut", "(I)Z"⟩ ∈ tt := List.mem_of_getElem? (i := 468) rfl
theorem tw_469 : Cond.code ⟨"HuffForgeModel", "cut", "(I)Z"⟩ prog_8_method_26_code 2 (some .boolean) ∈ tt := List.mem_of_getElem? (i := 469) rfl
theorem tw_470 : Cond.methodLink "HuffForgeLaw" 103 ⟨"HuffForgeModel", "look", "(I)I"⟩ ∈ tt := List.mem_of_getElem? (i := 470) rfl
theorem tw_471 : Cond.instanceMethod ⟨"HuffForgeModel", "look", "(I)I"⟩ ∈ tt := List.mem_of_getElem? (i := 471) rfl
theorem tw_472 : Cond.selects "HuffForgeModel" ⟨"HuffForgeModel", "look", "(I)I"⟩ ⟨"HuffForgeModel", "look", "(I)I"⟩ ∈ tt := List.mem_of_getElem? (i := 472) rfl
theorem tw_473 : Cond.code ⟨"HuffForgeModel", "look", "(I)I"⟩ prog_8_method_27_code 5 (some .int) ∈ tt := List.mem_of_getElem? (i := 473) rfl
theorem tw_474 : Cond.arrayClass .long ∈ tt := List.mem_of_getElem? (i := 474) rfl
theorem hi_FB : ∀ w ∈ u_ws RFB TFB 9, w ∈ tt := tt_mem [103, 104, 105, 106, 107, 108, 109, 110, 111] rfl
theorem hi_FR : ∀ w ∈ u_ws RFR TFR 3, w ∈ tt := tt_mem [122, 123, 124] rfl
theorem hi_FD : ∀ w ∈ u_ws RFD TFD 4, w ∈ tt := tt_mem [50, 51, 52, 53] rfl
theorem hi_FT : ∀ w ∈ u_ws RFT TFT 5, w ∈ tt := tt_mem [71, 72, 73, 74, 75] rfl
theorem hi_FY : ∀ w ∈ u_ws RFY TFY 2, w ∈ tt := tt_mem [85, 86] rfl
theorem hi_FF : ∀ w ∈ u_ws RFF TFF 5, w ∈ tt := tt_mem [130, 131, 132, 133, 134] rfl
theorem hi_MM : ∀ w ∈ u_ws RMM TMM 18, w ∈ tt := tt_mem [358, 359, 360, 361, 362, 363, 364, 365, 366, 367, 368, 369, 370, 371, 372, 373, 374, 375] rfl
