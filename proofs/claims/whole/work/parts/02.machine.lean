def RX0 : String := "StolenFinals$History"
def TX0 : u_T := fun k => match k with
  | 0 => ("StolenFinals$History", "rows", "[[I", true)
  | 1 => ("StolenFinals$History", "counts", "[I", true)
  | 2 => ("StolenFinals$History", "carets", "[I", true)
  | 3 => ("StolenFinals$History", "next", "I", false)
  | _ => ("StolenFinals$History", "kept", "I", false)
def tyX0 : Nat → FieldType := fun k => match k with
  | 0 => .array (.array .int)
  | 1 => .array .int
  | 2 => .array .int
  | 3 => .int
  | _ => .int
abbrev wsX00 : List Cond := u_ws RX0 TX0 5
theorem nmX0 : ∀ a, a < 5 → ∀ b, b < 5 → a ≠ b → (TX0 a).2.1 ≠ (TX0 b).2.1 := by decide +kernel
theorem tyX0_ok : ∀ k, k < 5 → parseFieldDescriptor (TX0 k).2.2.1 = some (tyX0 k) := by decide +kernel
abbrev cX0_init : ByteArray := prog_2_method_1_code
def yX0_init : MethodName := ⟨RX0, "<init>", "()V"⟩
abbrev cX0_clear : ByteArray := prog_2_method_2_code
def yX0_clear : MethodName := ⟨RX0, "clear", "()V"⟩
abbrev cX0_keep : ByteArray := prog_2_method_3_code
def yX0_keep : MethodName := ⟨RX0, "keep", "(LStolenFinals$Row;)V"⟩
abbrev cX0_restore : ByteArray := prog_2_method_4_code
def yX0_restore : MethodName := ⟨RX0, "restore", "(LStolenFinals$Row;)V"⟩
def RX1 : String := "StolenFinals$KeyList"
def TX1 : u_T := fun k => match k with
  | 0 => ("StolenFinals$KeyList", "keys", "[I", true)
  | _ => ("StolenFinals$KeyList", "count", "I", false)
def tyX1 : Nat → FieldType := fun k => match k with
  | 0 => .array .int
  | _ => .int
abbrev wsX10 : List Cond := u_ws RX1 TX1 2
theorem nmX1 : ∀ a, a < 2 → ∀ b, b < 2 → a ≠ b → (TX1 a).2.1 ≠ (TX1 b).2.1 := by decide +kernel
theorem tyX1_ok : ∀ k, k < 2 → parseFieldDescriptor (TX1 k).2.2.1 = some (tyX1 k) := by decide +kernel
abbrev cX1_init : ByteArray := prog_3_method_1_code
def yX1_init : MethodName := ⟨RX1, "<init>", "(I)V"⟩
abbrev cX1_clear : ByteArray := prog_3_method_2_code
def yX1_clear : MethodName := ⟨RX1, "clear", "()V"⟩
abbrev cX1_isFull : ByteArray := prog_3_method_3_code
def yX1_isFull : MethodName := ⟨RX1, "isFull", "()Z"⟩
abbrev cX1_append : ByteArray := prog_3_method_4_code
def yX1_append : MethodName := ⟨RX1, "append", "(I)V"⟩
abbrev cX1_has : ByteArray := prog_3_method_5_code
def yX1_has : MethodName := ⟨RX1, "has", "(I)Z"⟩
abbrev cX1_keyAt : ByteArray := prog_3_method_6_code
def yX1_keyAt : MethodName := ⟨RX1, "keyAt", "(I)I"⟩
abbrev cX1_holds : ByteArray := prog_3_method_7_code
def yX1_holds : MethodName := ⟨RX1, "holds", "(I)Z"⟩
def RX2 : String := "StolenFinals$PartTable"
def TX2 : u_T := fun k => match k with
  | 0 => ("StolenFinals$PartTable", "firstKeys", "[I", true)
  | 1 => ("StolenFinals$PartTable", "secondKeys", "[I", true)
  | 2 => ("StolenFinals$PartTable", "singleNumbers", "[I", true)
  | 3 => ("StolenFinals$PartTable", "singles", "I", false)
  | _ => ("StolenFinals$PartTable", "count", "I", false)
def tyX2 : Nat → FieldType := fun k => match k with
  | 0 => .array .int
  | 1 => .array .int
  | 2 => .array .int
  | 3 => .int
  | _ => .int
abbrev wsX20 : List Cond := u_ws RX2 TX2 5
theorem nmX2 : ∀ a, a < 5 → ∀ b, b < 5 → a ≠ b → (TX2 a).2.1 ≠ (TX2 b).2.1 := by decide +kernel
theorem tyX2_ok : ∀ k, k < 5 → parseFieldDescriptor (TX2 k).2.2.1 = some (tyX2 k) := by decide +kernel
abbrev cX2_init : ByteArray := prog_4_method_1_code
def yX2_init : MethodName := ⟨RX2, "<init>", "(I)V"⟩
abbrev cX2_clear : ByteArray := prog_4_method_2_code
def yX2_clear : MethodName := ⟨RX2, "clear", "()V"⟩
abbrev cX2_appendSingle : ByteArray := prog_4_method_3_code
def yX2_appendSingle : MethodName := ⟨RX2, "appendSingle", "(I)V"⟩
abbrev cX2_appendDouble : ByteArray := prog_4_method_4_code
def yX2_appendDouble : MethodName := ⟨RX2, "appendDouble", "(II)V"⟩
abbrev cX2_has : ByteArray := prog_4_method_5_code
def yX2_has : MethodName := ⟨RX2, "has", "(I)Z"⟩
abbrev cX2_numberOf : ByteArray := prog_4_method_6_code
def yX2_numberOf : MethodName := ⟨RX2, "numberOf", "(I)I"⟩
abbrev cX2_numberWith : ByteArray := prog_4_method_7_code
def yX2_numberWith : MethodName := ⟨RX2, "numberWith", "(II)I"⟩
abbrev cX2_numberWithoutLatest : ByteArray := prog_4_method_8_code
def yX2_numberWithoutLatest : MethodName := ⟨RX2, "numberWithoutLatest", "(I)I"⟩
abbrev cX2_firstKey : ByteArray := prog_4_method_9_code
def yX2_firstKey : MethodName := ⟨RX2, "firstKey", "(I)I"⟩
abbrev cX2_secondKey : ByteArray := prog_4_method_10_code
def yX2_secondKey : MethodName := ⟨RX2, "secondKey", "(I)I"⟩
abbrev cX2_latestKey : ByteArray := prog_4_method_11_code
def yX2_latestKey : MethodName := ⟨RX2, "latestKey", "(I)I"⟩
def RX3 : String := "StolenFinals$Reading"
def TX3 : u_T := fun k => match k with
  | 0 => ("StolenFinals$Reading", "lead", "[I", true)
  | 1 => ("StolenFinals$Reading", "middle", "[I", true)
  | 2 => ("StolenFinals$Reading", "end", "[I", true)
  | 3 => ("StolenFinals$Reading", "lone", "[I", true)
  | 4 => ("StolenFinals$Reading", "first", "[I", true)
  | 5 => ("StolenFinals$Reading", "keys", "[I", true)
  | 6 => ("StolenFinals$Reading", "owners", "[I", true)
  | 7 => ("StolenFinals$Reading", "roles", "[I", true)
  | 8 => ("StolenFinals$Reading", "stolen", "[I", true)
  | 9 => ("StolenFinals$Reading", "items", "I", false)
  | 10 => ("StolenFinals$Reading", "places", "I", false)
  | 11 => ("StolenFinals$Reading", "stolenKeys", "I", false)
  | _ => ("StolenFinals$Reading", "open", "Z", false)
def tyX3 : Nat → FieldType := fun k => match k with
  | 0 => .array .int
  | 1 => .array .int
  | 2 => .array .int
  | 3 => .array .int
  | 4 => .array .int
  | 5 => .array .int
  | 6 => .array .int
  | 7 => .array .int
  | 8 => .array .int
  | 9 => .int
  | 10 => .int
  | 11 => .int
  | _ => .boolean
abbrev wsX30 : List Cond := u_ws RX3 TX3 13
theorem nmX3 : ∀ a, a < 13 → ∀ b, b < 13 → a ≠ b → (TX3 a).2.1 ≠ (TX3 b).2.1 := by decide +kernel
theorem tyX3_ok : ∀ k, k < 13 → parseFieldDescriptor (TX3 k).2.2.1 = some (tyX3 k) := by decide +kernel
abbrev cX3_init : ByteArray := prog_5_method_1_code
def yX3_init : MethodName := ⟨RX3, "<init>", "()V"⟩
abbrev cX3_clear : ByteArray := prog_5_method_2_code
def yX3_clear : MethodName := ⟨RX3, "clear", "()V"⟩
abbrev cX3_standAt : ByteArray := prog_5_method_3_code
def yX3_standAt : MethodName := ⟨RX3, "standAt", "(III)V"⟩
abbrev cX3_take : ByteArray := prog_5_method_4_code
def yX3_take : MethodName := ⟨RX3, "take", "(LStolenFinals$Script;I)V"⟩
abbrev cX3_takeConsonant : ByteArray := prog_5_method_5_code
def yX3_takeConsonant : MethodName := ⟨RX3, "takeConsonant", "(LStolenFinals$Script;I)V"⟩
abbrev cX3_takeVowel : ByteArray := prog_5_method_6_code
def yX3_takeVowel : MethodName := ⟨RX3, "takeVowel", "(LStolenFinals$Script;I)V"⟩
abbrev cX3_begin : ByteArray := prog_5_method_7_code
def yX3_begin : MethodName := ⟨RX3, "begin", "(IIII)V"⟩
abbrev cX3_join : ByteArray := prog_5_method_8_code
def yX3_join : MethodName := ⟨RX3, "join", "(I)V"⟩
abbrev cX3_steal : ByteArray := prog_5_method_9_code
def yX3_steal : MethodName := ⟨RX3, "steal", "()V"⟩
abbrev cX3_hasItem : ByteArray := prog_5_method_10_code
def yX3_hasItem : MethodName := ⟨RX3, "hasItem", "(I)Z"⟩
abbrev cX3_sortOf : ByteArray := prog_5_method_11_code
def yX3_sortOf : MethodName := ⟨RX3, "sortOf", "(I)I"⟩
abbrev cX3_codeAt : ByteArray := prog_5_method_12_code
def yX3_codeAt : MethodName := ⟨RX3, "codeAt", "(LStolenFinals$Script;I)I"⟩
abbrev cX3_placeOf : ByteArray := prog_5_method_13_code
def yX3_placeOf : MethodName := ⟨RX3, "placeOf", "(I)I"⟩
abbrev cX3_placeBehind : ByteArray := prog_5_method_14_code
def yX3_placeBehind : MethodName := ⟨RX3, "placeBehind", "(I)I"⟩
abbrev cX3_blocks : ByteArray := prog_5_method_15_code
def yX3_blocks : MethodName := ⟨RX3, "blocks", "()I"⟩
abbrev cX3_itemFact : ByteArray := prog_5_method_16_code
def yX3_itemFact : MethodName := ⟨RX3, "itemFact", "(LStolenFinals$Script;II)I"⟩
abbrev cX3_placeFact : ByteArray := prog_5_method_17_code
def yX3_placeFact : MethodName := ⟨RX3, "placeFact", "(II)I"⟩
abbrev cX3_like : ByteArray := prog_5_method_18_code
def yX3_like : MethodName := ⟨RX3, "like", "(ILStolenFinals$Reading;I)Z"⟩
abbrev cX3_alikeAtFirst : ByteArray := prog_5_method_19_code
def yX3_alikeAtFirst : MethodName := ⟨RX3, "alikeAtFirst", "(LStolenFinals$Reading;)I"⟩
abbrev cX3_alikeAtLast : ByteArray := prog_5_method_20_code
def yX3_alikeAtLast : MethodName := ⟨RX3, "alikeAtLast", "(LStolenFinals$Reading;I)I"⟩
def RX4 : String := "StolenFinals$Row"
def TX4 : u_T := fun k => match k with
  | 0 => ("StolenFinals$Row", "signs", "[I", true)
  | 1 => ("StolenFinals$Row", "count", "I", false)
  | 2 => ("StolenFinals$Row", "caret", "I", false)
  | _ => ("StolenFinals$Row", "overflowed", "Z", false)
def tyX4 : Nat → FieldType := fun k => match k with
  | 0 => .array .int
  | 1 => .int
  | 2 => .int
  | _ => .boolean
abbrev wsX40 : List Cond := u_ws RX4 TX4 4
theorem nmX4 : ∀ a, a < 4 → ∀ b, b < 4 → a ≠ b → (TX4 a).2.1 ≠ (TX4 b).2.1 := by decide +kernel
theorem tyX4_ok : ∀ k, k < 4 → parseFieldDescriptor (TX4 k).2.2.1 = some (tyX4 k) := by decide +kernel
abbrev cX4_init : ByteArray := prog_6_method_1_code
def yX4_init : MethodName := ⟨RX4, "<init>", "()V"⟩
abbrev cX4_clear : ByteArray := prog_6_method_2_code
def yX4_clear : MethodName := ⟨RX4, "clear", "()V"⟩
abbrev cX4_hasPlace : ByteArray := prog_6_method_3_code
def yX4_hasPlace : MethodName := ⟨RX4, "hasPlace", "(I)Z"⟩
abbrev cX4_signAt : ByteArray := prog_6_method_4_code
def yX4_signAt : MethodName := ⟨RX4, "signAt", "(I)I"⟩
abbrev cX4_append : ByteArray := prog_6_method_5_code
def yX4_append : MethodName := ⟨RX4, "append", "(I)V"⟩
abbrev cX4_appendCode : ByteArray := prog_6_method_6_code
def yX4_appendCode : MethodName := ⟨RX4, "appendCode", "(LStolenFinals$Script;I)V"⟩
abbrev cX4_insert : ByteArray := prog_6_method_7_code
def yX4_insert : MethodName := ⟨RX4, "insert", "(I)V"⟩
abbrev cX4_removeAtCaret : ByteArray := prog_6_method_8_code
def yX4_removeAtCaret : MethodName := ⟨RX4, "removeAtCaret", "()V"⟩
abbrev cX4_breaks : ByteArray := prog_6_method_9_code
def yX4_breaks : MethodName := ⟨RX4, "breaks", "()I"⟩
abbrev cX4_keysAheadOfCaret : ByteArray := prog_6_method_10_code
def yX4_keysAheadOfCaret : MethodName := ⟨RX4, "keysAheadOfCaret", "()I"⟩
abbrev cX4_placeBehindKeys : ByteArray := prog_6_method_11_code
def yX4_placeBehindKeys : MethodName := ⟨RX4, "placeBehindKeys", "(I)I"⟩
abbrev cX4_copyFrom : ByteArray := prog_6_method_12_code
def yX4_copyFrom : MethodName := ⟨RX4, "copyFrom", "(LStolenFinals$Row;)V"⟩
def RX5 : String := "StolenFinals$Script"
def TX5 : u_T := fun k => match k with
  | 0 => ("StolenFinals$Script", "sorts", "[I", true)
  | 1 => ("StolenFinals$Script", "consonants", "LStolenFinals$KeyList;", true)
  | 2 => ("StolenFinals$Script", "vowels", "LStolenFinals$KeyList;", true)
  | 3 => ("StolenFinals$Script", "olds", "LStolenFinals$KeyList;", true)
  | 4 => ("StolenFinals$Script", "twins", "LStolenFinals$KeyList;", true)
  | 5 => ("StolenFinals$Script", "pairFirsts", "LStolenFinals$KeyList;", true)
  | 6 => ("StolenFinals$Script", "pairSeconds", "LStolenFinals$KeyList;", true)
  | 7 => ("StolenFinals$Script", "leads", "LStolenFinals$PartTable;", true)
  | 8 => ("StolenFinals$Script", "middles", "LStolenFinals$PartTable;", true)
  | _ => ("StolenFinals$Script", "ends", "LStolenFinals$PartTable;", true)
def tyX5 : Nat → FieldType := fun k => match k with
  | 0 => .array .int
  | 1 => .object "StolenFinals$KeyList"
  | 2 => .object "StolenFinals$KeyList"
  | 3 => .object "StolenFinals$KeyList"
  | 4 => .object "StolenFinals$KeyList"
  | 5 => .object "StolenFinals$KeyList"
  | 6 => .object "StolenFinals$KeyList"
  | 7 => .object "StolenFinals$PartTable"
  | 8 => .object "StolenFinals$PartTable"
  | _ => .object "StolenFinals$PartTable"
abbrev wsX50 : List Cond := u_ws RX5 TX5 10
theorem nmX5 : ∀ a, a < 10 → ∀ b, b < 10 → a ≠ b → (TX5 a).2.1 ≠ (TX5 b).2.1 := by decide +kernel
theorem tyX5_ok : ∀ k, k < 10 → parseFieldDescriptor (TX5 k).2.2.1 = some (tyX5 k) := by decide +kernel
abbrev cX5_init : ByteArray := prog_7_method_1_code
def yX5_init : MethodName := ⟨RX5, "<init>", "()V"⟩
abbrev cX5_clear : ByteArray := prog_7_method_2_code
def yX5_clear : MethodName := ⟨RX5, "clear", "()V"⟩
abbrev cX5_toldOf : ByteArray := prog_7_method_3_code
def yX5_toldOf : MethodName := ⟨RX5, "toldOf", "(I)LStolenFinals$KeyList;"⟩
abbrev cX5_listOfLine : ByteArray := prog_7_method_4_code
def yX5_listOfLine : MethodName := ⟨RX5, "listOfLine", "(I)LStolenFinals$KeyList;"⟩
abbrev cX5_sortOfKey : ByteArray := prog_7_method_5_code
def yX5_sortOfKey : MethodName := ⟨RX5, "sortOfKey", "(I)I"⟩
abbrev cX5_isKey : ByteArray := prog_7_method_6_code
def yX5_isKey : MethodName := ⟨RX5, "isKey", "(I)Z"⟩
abbrev cX5_canLead : ByteArray := prog_7_method_7_code
def yX5_canLead : MethodName := ⟨RX5, "canLead", "(I)Z"⟩
abbrev cX5_canBeFinal : ByteArray := prog_7_method_8_code
def yX5_canBeFinal : MethodName := ⟨RX5, "canBeFinal", "(I)Z"⟩
abbrev cX5_isVowel : ByteArray := prog_7_method_9_code
def yX5_isVowel : MethodName := ⟨RX5, "isVowel", "(I)Z"⟩
abbrev cX5_tellKey : ByteArray := prog_7_method_10_code
def yX5_tellKey : MethodName := ⟨RX5, "tellKey", "(II)V"⟩
abbrev cX5_tellPair : ByteArray := prog_7_method_11_code
def yX5_tellPair : MethodName := ⟨RX5, "tellPair", "(II)V"⟩
abbrev cX5_holdsPair : ByteArray := prog_7_method_12_code
def yX5_holdsPair : MethodName := ⟨RX5, "holdsPair", "(II)Z"⟩
abbrev cX5_lacksLeadOrVowel : ByteArray := prog_7_method_13_code
def yX5_lacksLeadOrVowel : MethodName := ⟨RX5, "lacksLeadOrVowel", "()Z"⟩
abbrev cX5_giveNumbers : ByteArray := prog_7_method_14_code
def yX5_giveNumbers : MethodName := ⟨RX5, "giveNumbers", "()V"⟩
abbrev cX5_keyCount : ByteArray := prog_7_method_15_code
def yX5_keyCount : MethodName := ⟨RX5, "keyCount", "()I"⟩
abbrev cX5_fact : ByteArray := prog_7_method_16_code
def yX5_fact : MethodName := ⟨RX5, "fact", "(I)I"⟩
abbrev cX5_keyFact : ByteArray := prog_7_method_17_code
def yX5_keyFact : MethodName := ⟨RX5, "keyFact", "(II)I"⟩
abbrev cX5_codeOf : ByteArray := prog_7_method_18_code
def yX5_codeOf : MethodName := ⟨RX5, "codeOf", "(III)I"⟩
abbrev cX5_hasCode : ByteArray := prog_7_method_19_code
def yX5_hasCode : MethodName := ⟨RX5, "hasCode", "(I)Z"⟩
abbrev cX5_partOf : ByteArray := prog_7_method_20_code
def yX5_partOf : MethodName := ⟨RX5, "partOf", "(II)I"⟩
abbrev cX5_slotKey : ByteArray := prog_7_method_21_code
def yX5_slotKey : MethodName := ⟨RX5, "slotKey", "(II)I"⟩
def RX6 : String := "StolenFinals$ScriptReader"
def TX6 : u_T := fun k => match k with
  | 0 => ("StolenFinals$ScriptReader", "tape", "LStolenFinals$Tape;", true)
  | 1 => ("StolenFinals$ScriptReader", "length", "I", false)
  | 2 => ("StolenFinals$ScriptReader", "tokenStart", "I", false)
  | 3 => ("StolenFinals$ScriptReader", "tokenEnd", "I", false)
  | 4 => ("StolenFinals$ScriptReader", "fault", "I", false)
  | _ => ("StolenFinals$ScriptReader", "place", "I", false)
def tyX6 : Nat → FieldType := fun k => match k with
  | 0 => .object "StolenFinals$Tape"
  | 1 => .int
  | 2 => .int
  | 3 => .int
  | 4 => .int
  | _ => .int
abbrev wsX60 : List Cond := u_ws RX6 TX6 6
theorem nmX6 : ∀ a, a < 6 → ∀ b, b < 6 → a ≠ b → (TX6 a).2.1 ≠ (TX6 b).2.1 := by decide +kernel
theorem tyX6_ok : ∀ k, k < 6 → parseFieldDescriptor (TX6 k).2.2.1 = some (tyX6 k) := by decide +kernel
abbrev cX6_init : ByteArray := prog_8_method_1_code
def yX6_init : MethodName := ⟨RX6, "<init>", "()V"⟩
abbrev cX6_read : ByteArray := prog_8_method_2_code
def yX6_read : MethodName := ⟨RX6, "read", "(ILStolenFinals$Script;)V"⟩
abbrev cX6_fail : ByteArray := prog_8_method_3_code
def yX6_fail : MethodName := ⟨RX6, "fail", "(I)V"⟩
abbrev cX6_signAt : ByteArray := prog_8_method_4_code
def yX6_signAt : MethodName := ⟨RX6, "signAt", "(I)I"⟩
abbrev cX6_nextToken : ByteArray := prog_8_method_5_code
def yX6_nextToken : MethodName := ⟨RX6, "nextToken", "()V"⟩
abbrev cX6_tokenIs : ByteArray := prog_8_method_6_code
def yX6_tokenIs : MethodName := ⟨RX6, "tokenIs", "(Ljava/lang/String;)Z"⟩
abbrev cX6_goesOn : ByteArray := prog_8_method_7_code
def yX6_goesOn : MethodName := ⟨RX6, "goesOn", "()Z"⟩
abbrev cX6_lineSort : ByteArray := prog_8_method_8_code
def yX6_lineSort : MethodName := ⟨RX6, "lineSort", "()I"⟩
abbrev cX6_readLine : ByteArray := prog_8_method_9_code
def yX6_readLine : MethodName := ⟨RX6, "readLine", "(LStolenFinals$Script;)V"⟩
abbrev cX6_nextKey : ByteArray := prog_8_method_10_code
def yX6_nextKey : MethodName := ⟨RX6, "nextKey", "()I"⟩
abbrev cX6_readToldKey : ByteArray := prog_8_method_11_code
def yX6_readToldKey : MethodName := ⟨RX6, "readToldKey", "(LStolenFinals$Script;I)V"⟩
abbrev cX6_readTwin : ByteArray := prog_8_method_12_code
def yX6_readTwin : MethodName := ⟨RX6, "readTwin", "(LStolenFinals$Script;)V"⟩
abbrev cX6_readPair : ByteArray := prog_8_method_13_code
def yX6_readPair : MethodName := ⟨RX6, "readPair", "(LStolenFinals$Script;)V"⟩
def RX7 : String := "StolenFinals$Tally"
def TX7 : u_T := fun k => match k with
  | 0 => ("StolenFinals$Tally", "moves", "[[I", true)
  | 1 => ("StolenFinals$Tally", "rows", "[[J", false)
  | 2 => ("StolenFinals$Tally", "longerRows", "[[J", false)
  | 3 => ("StolenFinals$Tally", "blockRows", "[J", false)
  | 4 => ("StolenFinals$Tally", "longerBlockRows", "[J", false)
  | 5 => ("StolenFinals$Tally", "rowsByItems", "[[J", true)
  | 6 => ("StolenFinals$Tally", "rowsWhole", "[J", true)
  | _ => ("StolenFinals$Tally", "prepared", "Z", false)
def tyX7 : Nat → FieldType := fun k => match k with
  | 0 => .array (.array .int)
  | 1 => .array (.array .long)
  | 2 => .array (.array .long)
  | 3 => .array .long
  | 4 => .array .long
  | 5 => .array (.array .long)
  | 6 => .array .long
  | _ => .boolean
abbrev wsX70 : List Cond := u_ws RX7 TX7 8
theorem nmX7 : ∀ a, a < 8 → ∀ b, b < 8 → a ≠ b → (TX7 a).2.1 ≠ (TX7 b).2.1 := by decide +kernel
theorem tyX7_ok : ∀ k, k < 8 → parseFieldDescriptor (TX7 k).2.2.1 = some (tyX7 k) := by decide +kernel
abbrev cX7_init : ByteArray := prog_9_method_1_code
def yX7_init : MethodName := ⟨RX7, "<init>", "()V"⟩
abbrev cX7_clear : ByteArray := prog_9_method_2_code
def yX7_clear : MethodName := ⟨RX7, "clear", "()V"⟩
abbrev cX7_rowsWith : ByteArray := prog_9_method_3_code
def yX7_rowsWith : MethodName := ⟨RX7, "rowsWith", "(II)J"⟩
abbrev cX7_rowsOfBlocks : ByteArray := prog_9_method_4_code
def yX7_rowsOfBlocks : MethodName := ⟨RX7, "rowsOfBlocks", "(I)J"⟩
abbrev cX7_prepare : ByteArray := prog_9_method_5_code
def yX7_prepare : MethodName := ⟨RX7, "prepare", "(LStolenFinals$Script;LStolenFinals$Reading;)V"⟩
abbrev cX7_findMoves : ByteArray := prog_9_method_6_code
def yX7_findMoves : MethodName := ⟨RX7, "findMoves", "(LStolenFinals$Script;LStolenFinals$Reading;)V"⟩
abbrev cX7_stand : ByteArray := prog_9_method_7_code
def yX7_stand : MethodName := ⟨RX7, "stand", "(LStolenFinals$Script;LStolenFinals$Reading;I)Z"⟩
abbrev cX7_stateOf : ByteArray := prog_9_method_8_code
def yX7_stateOf : MethodName := ⟨RX7, "stateOf", "(LStolenFinals$Reading;)I"⟩
abbrev cX7_clearRows : ByteArray := prog_9_method_9_code
def yX7_clearRows : MethodName := ⟨RX7, "clearRows", "([[J)V"⟩
abbrev cX7_lengthen : ByteArray := prog_9_method_10_code
def yX7_lengthen : MethodName := ⟨RX7, "lengthen", "(I)V"⟩
abbrev cX7_pass : ByteArray := prog_9_method_11_code
def yX7_pass : MethodName := ⟨RX7, "pass", "(IIII)V"⟩
abbrev cX7_isLeadState : ByteArray := prog_9_method_12_code
def yX7_isLeadState : MethodName := ⟨RX7, "isLeadState", "(I)Z"⟩
abbrev cX7_isBlockState : ByteArray := prog_9_method_13_code
def yX7_isBlockState : MethodName := ⟨RX7, "isBlockState", "(I)Z"⟩
abbrev cX7_note : ByteArray := prog_9_method_14_code
def yX7_note : MethodName := ⟨RX7, "note", "(I)V"⟩
def RX8 : String := "StolenFinals$Tape"
def TX8 : u_T := fun k => match k with
  | 0 => ("StolenFinals$Tape", "bytes", "[I", true)
  | _ => ("StolenFinals$Tape", "count", "I", false)
def tyX8 : Nat → FieldType := fun k => match k with
  | 0 => .array .int
  | _ => .int
abbrev wsX80 : List Cond := u_ws RX8 TX8 2
theorem nmX8 : ∀ a, a < 2 → ∀ b, b < 2 → a ≠ b → (TX8 a).2.1 ≠ (TX8 b).2.1 := by decide +kernel
theorem tyX8_ok : ∀ k, k < 2 → parseFieldDescriptor (TX8 k).2.2.1 = some (tyX8 k) := by decide +kernel
abbrev cX8_init : ByteArray := prog_10_method_1_code
def yX8_init : MethodName := ⟨RX8, "<init>", "()V"⟩
abbrev cX8_clear : ByteArray := prog_10_method_2_code
def yX8_clear : MethodName := ⟨RX8, "clear", "()V"⟩
abbrev cX8_append : ByteArray := prog_10_method_3_code
def yX8_append : MethodName := ⟨RX8, "append", "(I)V"⟩
abbrev cX8_reaches : ByteArray := prog_10_method_4_code
def yX8_reaches : MethodName := ⟨RX8, "reaches", "(I)Z"⟩
abbrev cX8_byteAt : ByteArray := prog_10_method_5_code
def yX8_byteAt : MethodName := ⟨RX8, "byteAt", "(I)I"⟩
abbrev cX8_twoBytesAt : ByteArray := prog_10_method_6_code
def yX8_twoBytesAt : MethodName := ⟨RX8, "twoBytesAt", "(I)I"⟩
def RX9 : String := "StolenFinals"
def TX9 : u_T := fun k => match k with
  | 0 => ("StolenFinals", "reader", "LStolenFinals$ScriptReader;", true)
  | 1 => ("StolenFinals", "tape", "LStolenFinals$Tape;", true)
  | 2 => ("StolenFinals", "row", "LStolenFinals$Row;", true)
  | 3 => ("StolenFinals", "draft", "LStolenFinals$Row;", true)
  | 4 => ("StolenFinals", "now", "LStolenFinals$Reading;", true)
  | 5 => ("StolenFinals", "scratch", "LStolenFinals$Reading;", true)
  | 6 => ("StolenFinals", "history", "LStolenFinals$History;", true)
  | 7 => ("StolenFinals", "tally", "LStolenFinals$Tally;", true)
  | 8 => ("StolenFinals", "order", "[I", true)
  | 9 => ("StolenFinals", "script", "LStolenFinals$Script;", false)
  | 10 => ("StolenFinals", "spare", "LStolenFinals$Script;", false)
  | 11 => ("StolenFinals", "hasScript", "Z", false)
  | 12 => ("StolenFinals", "latestFault", "I", false)
  | 13 => ("StolenFinals", "faultPlace", "I", false)
  | _ => ("StolenFinals", "latestTrouble", "I", false)
def tyX9 : Nat → FieldType := fun k => match k with
  | 0 => .object "StolenFinals$ScriptReader"
  | 1 => .object "StolenFinals$Tape"
  | 2 => .object "StolenFinals$Row"
  | 3 => .object "StolenFinals$Row"
  | 4 => .object "StolenFinals$Reading"
  | 5 => .object "StolenFinals$Reading"
  | 6 => .object "StolenFinals$History"
  | 7 => .object "StolenFinals$Tally"
  | 8 => .array .int
  | 9 => .object "StolenFinals$Script"
  | 10 => .object "StolenFinals$Script"
  | 11 => .boolean
  | 12 => .int
  | 13 => .int
  | _ => .int
abbrev wsX90 : List Cond := u_ws RX9 TX9 15
theorem nmX9 : ∀ a, a < 15 → ∀ b, b < 15 → a ≠ b → (TX9 a).2.1 ≠ (TX9 b).2.1 := by decide +kernel
theorem tyX9_ok : ∀ k, k < 15 → parseFieldDescriptor (TX9 k).2.2.1 = some (tyX9 k) := by decide +kernel
abbrev cX9_init : ByteArray := prog_1_method_1_code
def yX9_init : MethodName := ⟨RX9, "<init>", "()V"⟩
abbrev cX9_feed : ByteArray := prog_1_method_2_code
def yX9_feed : MethodName := ⟨RX9, "feed", "(IIIII)I"⟩
abbrev cX9_script : ByteArray := prog_1_method_3_code
def yX9_script : MethodName := ⟨RX9, "script", "(I)I"⟩
abbrev cX9_fault : ByteArray := prog_1_method_4_code
def yX9_fault : MethodName := ⟨RX9, "fault", "()I"⟩
abbrev cX9_where : ByteArray := prog_1_method_5_code
def yX9_where : MethodName := ⟨RX9, "where", "()I"⟩
abbrev cX9_about : ByteArray := prog_1_method_6_code
def yX9_about : MethodName := ⟨RX9, "about", "(I)I"⟩
abbrev cX9_rowFact : ByteArray := prog_1_method_7_code
def yX9_rowFact : MethodName := ⟨RX9, "rowFact", "(I)I"⟩
abbrev cX9_letter : ByteArray := prog_1_method_8_code
def yX9_letter : MethodName := ⟨RX9, "letter", "(II)I"⟩
abbrev cX9_code : ByteArray := prog_1_method_9_code
def yX9_code : MethodName := ⟨RX9, "code", "(III)I"⟩
abbrev cX9_parts : ByteArray := prog_1_method_10_code
def yX9_parts : MethodName := ⟨RX9, "parts", "(II)I"⟩
abbrev cX9_spelt : ByteArray := prog_1_method_11_code
def yX9_spelt : MethodName := ⟨RX9, "spelt", "(II)I"⟩
abbrev cX9_key : ByteArray := prog_1_method_12_code
def yX9_key : MethodName := ⟨RX9, "key", "(I)I"⟩
abbrev cX9_brk : ByteArray := prog_1_method_13_code
def yX9_brk : MethodName := ⟨RX9, "brk", "()I"⟩
abbrev cX9_putOne : ByteArray := prog_1_method_14_code
def yX9_putOne : MethodName := ⟨RX9, "putOne", "(I)I"⟩
abbrev cX9_readAnew : ByteArray := prog_1_method_15_code
def yX9_readAnew : MethodName := ⟨RX9, "readAnew", "()I"⟩
abbrev cX9_readRange : ByteArray := prog_1_method_16_code
def yX9_readRange : MethodName := ⟨RX9, "readRange", "(LStolenFinals$Reading;II)V"⟩
abbrev cX9_type : ByteArray := prog_1_method_17_code
def yX9_type : MethodName := ⟨RX9, "type", "(I)I"⟩
abbrev cX9_tapeHasSigns : ByteArray := prog_1_method_18_code
def yX9_tapeHasSigns : MethodName := ⟨RX9, "tapeHasSigns", "(I)Z"⟩
abbrev cX9_isSign : ByteArray := prog_1_method_19_code
def yX9_isSign : MethodName := ⟨RX9, "isSign", "(I)Z"⟩
abbrev cX9_back : ByteArray := prog_1_method_20_code
def yX9_back : MethodName := ⟨RX9, "back", "()I"⟩
abbrev cX9_del : ByteArray := prog_1_method_21_code
def yX9_del : MethodName := ⟨RX9, "del", "()I"⟩
abbrev cX9_goes : ByteArray := prog_1_method_22_code
def yX9_goes : MethodName := ⟨RX9, "goes", "(I)I"⟩
abbrev cX9_tidy : ByteArray := prog_1_method_23_code
def yX9_tidy : MethodName := ⟨RX9, "tidy", "()I"⟩
abbrev cX9_draftBareRow : ByteArray := prog_1_method_24_code
def yX9_draftBareRow : MethodName := ⟨RX9, "draftBareRow", "()V"⟩
abbrev cX9_itemsStandApart : ByteArray := prog_1_method_25_code
def yX9_itemsStandApart : MethodName := ⟨RX9, "itemsStandApart", "(I)Z"⟩
abbrev cX9_codes : ByteArray := prog_1_method_26_code
def yX9_codes : MethodName := ⟨RX9, "codes", "(I)I"⟩
abbrev cX9_tapeHasCodes : ByteArray := prog_1_method_27_code
def yX9_tapeHasCodes : MethodName := ⟨RX9, "tapeHasCodes", "(I)Z"⟩
abbrev cX9_draftBlocks : ByteArray := prog_1_method_28_code
def yX9_draftBlocks : MethodName := ⟨RX9, "draftBlocks", "(I)V"⟩
abbrev cX9_codesStandApart : ByteArray := prog_1_method_29_code
def yX9_codesStandApart : MethodName := ⟨RX9, "codesStandApart", "(II)Z"⟩
abbrev cX9_undo : ByteArray := prog_1_method_30_code
def yX9_undo : MethodName := ⟨RX9, "undo", "()I"⟩
abbrev cX9_at : ByteArray := prog_1_method_31_code
def yX9_at : MethodName := ⟨RX9, "at", "(I)I"⟩
abbrev cX9_of : ByteArray := prog_1_method_32_code
def yX9_of : MethodName := ⟨RX9, "of", "(II)I"⟩
abbrev cX9_item : ByteArray := prog_1_method_33_code
def yX9_item : MethodName := ⟨RX9, "item", "(II)I"⟩
abbrev cX9_within : ByteArray := prog_1_method_34_code
def yX9_within : MethodName := ⟨RX9, "within", "()I"⟩
abbrev cX9_needed : ByteArray := prog_1_method_35_code
def yX9_needed : MethodName := ⟨RX9, "needed", "(I)I"⟩
abbrev cX9_bare : ByteArray := prog_1_method_36_code
def yX9_bare : MethodName := ⟨RX9, "bare", "()I"⟩
abbrev cX9_would : ByteArray := prog_1_method_37_code
def yX9_would : MethodName := ⟨RX9, "would", "(II)I"⟩
abbrev cX9_seek : ByteArray := prog_1_method_38_code
def yX9_seek : MethodName := ⟨RX9, "seek", "(II)I"⟩
abbrev cX9_tapeHasKeys : ByteArray := prog_1_method_39_code
def yX9_tapeHasKeys : MethodName := ⟨RX9, "tapeHasKeys", "(I)Z"⟩
abbrev cX9_blocksLedByTape : ByteArray := prog_1_method_40_code
def yX9_blocksLedByTape : MethodName := ⟨RX9, "blocksLedByTape", "(II)Z"⟩
abbrev cX9_ranked : ByteArray := prog_1_method_41_code
def yX9_ranked : MethodName := ⟨RX9, "ranked", "(I)I"⟩
abbrev cX9_orderOf : ByteArray := prog_1_method_42_code
def yX9_orderOf : MethodName := ⟨RX9, "orderOf", "(I)I"⟩
abbrev cX9_itemsAheadInOrder : ByteArray := prog_1_method_43_code
def yX9_itemsAheadInOrder : MethodName := ⟨RX9, "itemsAheadInOrder", "(I)I"⟩
abbrev cX9_ways : ByteArray := prog_1_method_44_code
def yX9_ways : MethodName := ⟨RX9, "ways", "(II)J"⟩
abbrev cX9_whole : ByteArray := prog_1_method_45_code
def yX9_whole : MethodName := ⟨RX9, "whole", "(I)J"⟩
abbrev cX9_told : ByteArray := prog_1_method_46_code
def yX9_told : MethodName := ⟨RX9, "told", "(II)I"⟩
abbrev cX9_size : ByteArray := prog_1_method_47_code
def yX9_size : MethodName := ⟨RX9, "size", "()I"⟩
abbrev cX9_trouble : ByteArray := prog_1_method_48_code
def yX9_trouble : MethodName := ⟨RX9, "trouble", "()I"⟩
abbrev cX9_accept : ByteArray := prog_1_method_49_code
def yX9_accept : MethodName := ⟨RX9, "accept", "(I)I"⟩
abbrev cX9_refuse : ByteArray := prog_1_method_50_code
def yX9_refuse : MethodName := ⟨RX9, "refuse", "(I)I"⟩
abbrev cX9_isLetter : ByteArray := prog_1_method_51_code
def yX9_isLetter : MethodName := ⟨RX9, "isLetter", "(I)Z"⟩
def RX10 : String := "StolenFinalsModel"
def TX10 : u_T := fun k => match k with
  | 0 => ("StolenFinalsModel", "thrown", "I", false)
  | 1 => ("StolenFinalsModel", "trouble", "I", false)
  | 2 => ("StolenFinalsModel", "fault", "I", false)
  | 3 => ("StolenFinalsModel", "where", "I", false)
  | 4 => ("StolenFinalsModel", "tape", "[I", true)
  | 5 => ("StolenFinalsModel", "taped", "I", false)
  | 6 => ("StolenFinalsModel", "hasScript", "Z", false)
  | 7 => ("StolenFinalsModel", "sort", "[I", true)
  | 8 => ("StolenFinalsModel", "many", "[I", true)
  | 9 => ("StolenFinalsModel", "consonant", "[I", true)
  | 10 => ("StolenFinalsModel", "vowel", "[I", true)
  | 11 => ("StolenFinalsModel", "old", "[I", true)
  | 12 => ("StolenFinalsModel", "twin", "[I", true)
  | 13 => ("StolenFinalsModel", "pair", "[I", true)
  | 14 => ("StolenFinalsModel", "textLong", "I", false)
  | 15 => ("StolenFinalsModel", "place", "I", false)
  | 16 => ("StolenFinalsModel", "spot", "I", false)
  | 17 => ("StolenFinalsModel", "token", "I", false)
  | 18 => ("StolenFinalsModel", "readFault", "I", false)
  | 19 => ("StolenFinalsModel", "readPlace", "I", false)
  | 20 => ("StolenFinalsModel", "leads", "I", false)
  | 21 => ("StolenFinalsModel", "middles", "I", false)
  | 22 => ("StolenFinalsModel", "ends", "I", false)
  | 23 => ("StolenFinalsModel", "endsAlone", "I", false)
  | 24 => ("StolenFinalsModel", "leadOf", "[I", true)
  | 25 => ("StolenFinalsModel", "twinOf", "[I", true)
  | 26 => ("StolenFinalsModel", "endOf", "[I", true)
  | 27 => ("StolenFinalsModel", "middleOf", "[I", true)
  | 28 => ("StolenFinalsModel", "leadKey", "[I", true)
  | 29 => ("StolenFinalsModel", "middleKey", "[I", true)
  | 30 => ("StolenFinalsModel", "endKey", "[I", true)
  | 31 => ("StolenFinalsModel", "row", "[I", true)
  | 32 => ("StolenFinalsModel", "size", "I", false)
  | 33 => ("StolenFinalsModel", "caret", "I", false)
  | 34 => ("StolenFinalsModel", "items", "[I", true)
  | 35 => ("StolenFinalsModel", "iLead", "[I", true)
  | 36 => ("StolenFinalsModel", "iMiddle", "[I", true)
  | 37 => ("StolenFinalsModel", "iEnd", "[I", true)
  | 38 => ("StolenFinalsModel", "iKey", "[I", true)
  | 39 => ("StolenFinalsModel", "iFirst", "[I", true)
  | 40 => ("StolenFinalsModel", "iMany", "[I", true)
  | 41 => ("StolenFinalsModel", "stolen", "[I", true)
  | 42 => ("StolenFinalsModel", "ofItem", "[I", true)
  | 43 => ("StolenFinalsModel", "ofPart", "[I", true)
  | 44 => ("StolenFinalsModel", "isStolen", "[I", true)
  | 45 => ("StolenFinalsModel", "bank", "I", false)
  | 46 => ("StolenFinalsModel", "open", "I", false)
  | 47 => ("StolenFinalsModel", "dueKeys", "[I", true)
  | 48 => ("StolenFinalsModel", "dueFrom", "[I", true)
  | 49 => ("StolenFinalsModel", "out", "[I", true)
  | 50 => ("StolenFinalsModel", "outMany", "I", false)
  | 51 => ("StolenFinalsModel", "outBreaks", "I", false)
  | 52 => ("StolenFinalsModel", "spelling", "[I", true)
  | 53 => ("StolenFinalsModel", "acts", "I", false)
  | 54 => ("StolenFinalsModel", "wasRow", "[I", true)
  | 55 => ("StolenFinalsModel", "wasSize", "[I", true)
  | 56 => ("StolenFinalsModel", "wasCaret", "[I", true)
  | 57 => ("StolenFinalsModel", "one", "[I", true)
  | 58 => ("StolenFinalsModel", "coming", "[I", true)
  | 59 => ("StolenFinalsModel", "now", "[J", true)
  | 60 => ("StolenFinalsModel", "then", "[J", true)
  | 61 => ("StolenFinalsModel", "nextState", "I", false)
  | _ => ("StolenFinalsModel", "nextMore", "I", false)
def tyX10 : Nat → FieldType := fun k => match k with
  | 0 => .int
  | 1 => .int
  | 2 => .int
  | 3 => .int
  | 4 => .array .int
  | 5 => .int
  | 6 => .boolean
  | 7 => .array .int
  | 8 => .array .int
  | 9 => .array .int
  | 10 => .array .int
  | 11 => .array .int
  | 12 => .array .int
  | 13 => .array .int
  | 14 => .int
  | 15 => .int
  | 16 => .int
  | 17 => .int
  | 18 => .int
  | 19 => .int
  | 20 => .int
  | 21 => .int
  | 22 => .int
  | 23 => .int
  | 24 => .array .int
  | 25 => .array .int
  | 26 => .array .int
  | 27 => .array .int
  | 28 => .array .int
  | 29 => .array .int
  | 30 => .array .int
  | 31 => .array .int
  | 32 => .int
  | 33 => .int
  | 34 => .array .int
  | 35 => .array .int
  | 36 => .array .int
  | 37 => .array .int
  | 38 => .array .int
  | 39 => .array .int
  | 40 => .array .int
  | 41 => .array .int
  | 42 => .array .int
  | 43 => .array .int
  | 44 => .array .int
  | 45 => .int
  | 46 => .int
  | 47 => .array .int
  | 48 => .array .int
  | 49 => .array .int
  | 50 => .int
  | 51 => .int
  | 52 => .array .int
  | 53 => .int
  | 54 => .array .int
  | 55 => .array .int
  | 56 => .array .int
  | 57 => .array .int
  | 58 => .array .int
  | 59 => .array .long
  | 60 => .array .long
  | 61 => .int
  | _ => .int
abbrev wsX100 : List Cond := u_ws RX10 TX10 63
theorem nmX10 : ∀ a, a < 63 → ∀ b, b < 63 → a ≠ b → (TX10 a).2.1 ≠ (TX10 b).2.1 := by decide +kernel
theorem tyX10_ok : ∀ k, k < 63 → parseFieldDescriptor (TX10 k).2.2.1 = some (tyX10 k) := by decide +kernel
abbrev cX10_init : ByteArray := prog_12_method_1_code
def yX10_init : MethodName := ⟨RX10, "<init>", "()V"⟩
abbrev cX10_thrown : ByteArray := prog_12_method_2_code
def yX10_thrown : MethodName := ⟨RX10, "thrown", "()I"⟩
abbrev cX10_in : ByteArray := prog_12_method_3_code
def yX10_in : MethodName := ⟨RX10, "in", "(III)Z"⟩
abbrev cX10_no : ByteArray := prog_12_method_4_code
def yX10_no : MethodName := ⟨RX10, "no", "(I)I"⟩
abbrev cX10_isRefused : ByteArray := prog_12_method_5_code
def yX10_isRefused : MethodName := ⟨RX10, "isRefused", "(I)Z"⟩
abbrev cX10_unless : ByteArray := prog_12_method_6_code
def yX10_unless : MethodName := ⟨RX10, "unless", "(Z)I"⟩
abbrev cX10_unless_ : ByteArray := prog_12_method_7_code
def yX10_unless_ : MethodName := ⟨RX10, "unless", "(ZZ)I"⟩
abbrev cX10_feed : ByteArray := prog_12_method_8_code
def yX10_feed : MethodName := ⟨RX10, "feed", "(IIIII)I"⟩
abbrev cX10_laysWord : ByteArray := prog_12_method_9_code
def yX10_laysWord : MethodName := ⟨RX10, "laysWord", "(I)V"⟩
abbrev cX10_see : ByteArray := prog_12_method_10_code
def yX10_see : MethodName := ⟨RX10, "see", "(I)I"⟩
abbrev cX10_goesOn : ByteArray := prog_12_method_11_code
def yX10_goesOn : MethodName := ⟨RX10, "goesOn", "()V"⟩
abbrev cX10_isWord : ByteArray := prog_12_method_12_code
def yX10_isWord : MethodName := ⟨RX10, "isWord", "(Ljava/lang/String;)Z"⟩
abbrev cX10_errs : ByteArray := prog_12_method_13_code
def yX10_errs : MethodName := ⟨RX10, "errs", "(I)Z"⟩
abbrev cX10_keyHere : ByteArray := prog_12_method_14_code
def yX10_keyHere : MethodName := ⟨RX10, "keyHere", "()I"⟩
abbrev cX10_isKeyNext : ByteArray := prog_12_method_15_code
def yX10_isKeyNext : MethodName := ⟨RX10, "isKeyNext", "()Z"⟩
abbrev cX10_readSort : ByteArray := prog_12_method_16_code
def yX10_readSort : MethodName := ⟨RX10, "readSort", "(I)I"⟩
abbrev cX10_readKey : ByteArray := prog_12_method_17_code
def yX10_readKey : MethodName := ⟨RX10, "readKey", "(I)Z"⟩
abbrev cX10_readTwin : ByteArray := prog_12_method_18_code
def yX10_readTwin : MethodName := ⟨RX10, "readTwin", "()Z"⟩
abbrev cX10_canEnd : ByteArray := prog_12_method_19_code
def yX10_canEnd : MethodName := ⟨RX10, "canEnd", "(I)Z"⟩
abbrev cX10_readPair : ByteArray := prog_12_method_20_code
def yX10_readPair : MethodName := ⟨RX10, "readPair", "()Z"⟩
abbrev cX10_readLine : ByteArray := prog_12_method_21_code
def yX10_readLine : MethodName := ⟨RX10, "readLine", "()Z"⟩
abbrev cX10_readAll : ByteArray := prog_12_method_22_code
def yX10_readAll : MethodName := ⟨RX10, "readAll", "(I)Z"⟩
abbrev cX10_takesOver : ByteArray := prog_12_method_23_code
def yX10_takesOver : MethodName := ⟨RX10, "takesOver", "([I)V"⟩
abbrev cX10_script : ByteArray := prog_12_method_24_code
def yX10_script : MethodName := ⟨RX10, "script", "(I)I"⟩
abbrev cX10_fault : ByteArray := prog_12_method_25_code
def yX10_fault : MethodName := ⟨RX10, "fault", "()I"⟩
abbrev cX10_where : ByteArray := prog_12_method_26_code
def yX10_where : MethodName := ⟨RX10, "where", "()I"⟩
abbrev cX10_laysNumbers : ByteArray := prog_12_method_27_code
def yX10_laysNumbers : MethodName := ⟨RX10, "laysNumbers", "()V"⟩
abbrev cX10_laysPair : ByteArray := prog_12_method_28_code
def yX10_laysPair : MethodName := ⟨RX10, "laysPair", "(II)V"⟩
abbrev cX10_pairOf : ByteArray := prog_12_method_29_code
def yX10_pairOf : MethodName := ⟨RX10, "pairOf", "([IIIII)I"⟩
abbrev cX10_isTold : ByteArray := prog_12_method_30_code
def yX10_isTold : MethodName := ⟨RX10, "isTold", "(I)Z"⟩
abbrev cX10_itemAt : ByteArray := prog_12_method_31_code
def yX10_itemAt : MethodName := ⟨RX10, "itemAt", "(I)I"⟩
abbrev cX10_takes : ByteArray := prog_12_method_32_code
def yX10_takes : MethodName := ⟨RX10, "takes", "(III)V"⟩
abbrev cX10_begins : ByteArray := prog_12_method_33_code
def yX10_begins : MethodName := ⟨RX10, "begins", "(IIII)I"⟩
abbrev cX10_isLeadAlone : ByteArray := prog_12_method_34_code
def yX10_isLeadAlone : MethodName := ⟨RX10, "isLeadAlone", "()Z"⟩
abbrev cX10_isWhole : ByteArray := prog_12_method_35_code
def yX10_isWhole : MethodName := ⟨RX10, "isWhole", "()Z"⟩
abbrev cX10_consonantComes : ByteArray := prog_12_method_36_code
def yX10_consonantComes : MethodName := ⟨RX10, "consonantComes", "(II)V"⟩
abbrev cX10_steals : ByteArray := prog_12_method_37_code
def yX10_steals : MethodName := ⟨RX10, "steals", "(II)V"⟩
abbrev cX10_vowelComes : ByteArray := prog_12_method_38_code
def yX10_vowelComes : MethodName := ⟨RX10, "vowelComes", "(II)V"⟩
abbrev cX10_comes : ByteArray := prog_12_method_39_code
def yX10_comes : MethodName := ⟨RX10, "comes", "(II)V"⟩
abbrev cX10_makes : ByteArray := prog_12_method_40_code
def yX10_makes : MethodName := ⟨RX10, "makes", "(I[II)V"⟩
abbrev cX10_makes_ : ByteArray := prog_12_method_41_code
def yX10_makes_ : MethodName := ⟨RX10, "makes", "()V"⟩
abbrev cX10_sortOf : ByteArray := prog_12_method_42_code
def yX10_sortOf : MethodName := ⟨RX10, "sortOf", "(II)I"⟩
abbrev cX10_areLike : ByteArray := prog_12_method_43_code
def yX10_areLike : MethodName := ⟨RX10, "areLike", "(IIII)Z"⟩
abbrev cX10_areDue : ByteArray := prog_12_method_44_code
def yX10_areDue : MethodName := ⟨RX10, "areDue", "(II)Z"⟩
abbrev cX10_dueFromRow : ByteArray := prog_12_method_45_code
def yX10_dueFromRow : MethodName := ⟨RX10, "dueFromRow", "()V"⟩
abbrev cX10_addsKeys : ByteArray := prog_12_method_46_code
def yX10_addsKeys : MethodName := ⟨RX10, "addsKeys", "(I)V"⟩
abbrev cX10_laysBare : ByteArray := prog_12_method_47_code
def yX10_laysBare : MethodName := ⟨RX10, "laysBare", "()V"⟩
abbrev cX10_breaks : ByteArray := prog_12_method_48_code
def yX10_breaks : MethodName := ⟨RX10, "breaks", "()I"⟩
abbrev cX10_blocks : ByteArray := prog_12_method_49_code
def yX10_blocks : MethodName := ⟨RX10, "blocks", "()I"⟩
abbrev cX10_about : ByteArray := prog_12_method_50_code
def yX10_about : MethodName := ⟨RX10, "about", "(I)I"⟩
abbrev cX10_letter : ByteArray := prog_12_method_51_code
def yX10_letter : MethodName := ⟨RX10, "letter", "(II)I"⟩
abbrev cX10_codeOf : ByteArray := prog_12_method_52_code
def yX10_codeOf : MethodName := ⟨RX10, "codeOf", "(III)I"⟩
abbrev cX10_code : ByteArray := prog_12_method_53_code
def yX10_code : MethodName := ⟨RX10, "code", "(III)I"⟩
abbrev cX10_isCode : ByteArray := prog_12_method_54_code
def yX10_isCode : MethodName := ⟨RX10, "isCode", "(I)Z"⟩
abbrev cX10_parts : ByteArray := prog_12_method_55_code
def yX10_parts : MethodName := ⟨RX10, "parts", "(II)I"⟩
abbrev cX10_spells : ByteArray := prog_12_method_56_code
def yX10_spells : MethodName := ⟨RX10, "spells", "(I)I"⟩
abbrev cX10_spelt : ByteArray := prog_12_method_57_code
def yX10_spelt : MethodName := ⟨RX10, "spelt", "(II)I"⟩
abbrev cX10_remembers : ByteArray := prog_12_method_58_code
def yX10_remembers : MethodName := ⟨RX10, "remembers", "()V"⟩
abbrev cX10_comesIn : ByteArray := prog_12_method_59_code
def yX10_comesIn : MethodName := ⟨RX10, "comesIn", "([II)V"⟩
abbrev cX10_comesOne : ByteArray := prog_12_method_60_code
def yX10_comesOne : MethodName := ⟨RX10, "comesOne", "(I)I"⟩
abbrev cX10_key : ByteArray := prog_12_method_61_code
def yX10_key : MethodName := ⟨RX10, "key", "(I)I"⟩
abbrev cX10_brk : ByteArray := prog_12_method_62_code
def yX10_brk : MethodName := ⟨RX10, "brk", "()I"⟩
abbrev cX10_type : ByteArray := prog_12_method_63_code
def yX10_type : MethodName := ⟨RX10, "type", "(I)I"⟩
abbrev cX10_goesAt : ByteArray := prog_12_method_64_code
def yX10_goesAt : MethodName := ⟨RX10, "goesAt", "(I)I"⟩
abbrev cX10_back : ByteArray := prog_12_method_65_code
def yX10_back : MethodName := ⟨RX10, "back", "()I"⟩
abbrev cX10_del : ByteArray := prog_12_method_66_code
def yX10_del : MethodName := ⟨RX10, "del", "()I"⟩
abbrev cX10_goes : ByteArray := prog_12_method_67_code
def yX10_goes : MethodName := ⟨RX10, "goes", "(I)I"⟩
abbrev cX10_tidy : ByteArray := prog_12_method_68_code
def yX10_tidy : MethodName := ⟨RX10, "tidy", "()I"⟩
abbrev cX10_dueFromCodes : ByteArray := prog_12_method_69_code
def yX10_dueFromCodes : MethodName := ⟨RX10, "dueFromCodes", "(I)Z"⟩
abbrev cX10_codes : ByteArray := prog_12_method_70_code
def yX10_codes : MethodName := ⟨RX10, "codes", "(I)I"⟩
abbrev cX10_undo : ByteArray := prog_12_method_71_code
def yX10_undo : MethodName := ⟨RX10, "undo", "()I"⟩
abbrev cX10_isPlace : ByteArray := prog_12_method_72_code
def yX10_isPlace : MethodName := ⟨RX10, "isPlace", "(I)Z"⟩
abbrev cX10_at : ByteArray := prog_12_method_73_code
def yX10_at : MethodName := ⟨RX10, "at", "(I)I"⟩
abbrev cX10_of : ByteArray := prog_12_method_74_code
def yX10_of : MethodName := ⟨RX10, "of", "(II)I"⟩
abbrev cX10_isItem : ByteArray := prog_12_method_75_code
def yX10_isItem : MethodName := ⟨RX10, "isItem", "(I)Z"⟩
abbrev cX10_endTold : ByteArray := prog_12_method_76_code
def yX10_endTold : MethodName := ⟨RX10, "endTold", "(I)I"⟩
abbrev cX10_codeTold : ByteArray := prog_12_method_77_code
def yX10_codeTold : MethodName := ⟨RX10, "codeTold", "(I)I"⟩
abbrev cX10_item : ByteArray := prog_12_method_78_code
def yX10_item : MethodName := ⟨RX10, "item", "(II)I"⟩
abbrev cX10_within : ByteArray := prog_12_method_79_code
def yX10_within : MethodName := ⟨RX10, "within", "()I"⟩
abbrev cX10_needed : ByteArray := prog_12_method_80_code
def yX10_needed : MethodName := ⟨RX10, "needed", "(I)I"⟩
abbrev cX10_bare : ByteArray := prog_12_method_81_code
def yX10_bare : MethodName := ⟨RX10, "bare", "()I"⟩
abbrev cX10_would : ByteArray := prog_12_method_82_code
def yX10_would : MethodName := ⟨RX10, "would", "(II)I"⟩
abbrev cX10_seek : ByteArray := prog_12_method_83_code
def yX10_seek : MethodName := ⟨RX10, "seek", "(II)I"⟩
abbrev cX10_rankOf : ByteArray := prog_12_method_84_code
def yX10_rankOf : MethodName := ⟨RX10, "rankOf", "(I)I"⟩
abbrev cX10_ranked : ByteArray := prog_12_method_85_code
def yX10_ranked : MethodName := ⟨RX10, "ranked", "(I)I"⟩
abbrev cX10_fresh : ByteArray := prog_12_method_86_code
def yX10_fresh : MethodName := ⟨RX10, "fresh", "(I)V"⟩
abbrev cX10_goesFromLead : ByteArray := prog_12_method_87_code
def yX10_goesFromLead : MethodName := ⟨RX10, "goesFromLead", "(II)V"⟩
abbrev cX10_goesFromMiddle : ByteArray := prog_12_method_88_code
def yX10_goesFromMiddle : MethodName := ⟨RX10, "goesFromMiddle", "(IIZ)V"⟩
abbrev cX10_goesFromEnd : ByteArray := prog_12_method_89_code
def yX10_goesFromEnd : MethodName := ⟨RX10, "goesFromEnd", "(II)V"⟩
abbrev cX10_goesFrom : ByteArray := prog_12_method_90_code
def yX10_goesFrom : MethodName := ⟨RX10, "goesFrom", "(II)V"⟩
abbrev cX10_isBlockState : ByteArray := prog_12_method_91_code
def yX10_isBlockState : MethodName := ⟨RX10, "isBlockState", "(I)Z"⟩
abbrev cX10_counts : ByteArray := prog_12_method_92_code
def yX10_counts : MethodName := ⟨RX10, "counts", "(IZ)V"⟩
abbrev cX10_passes : ByteArray := prog_12_method_93_code
def yX10_passes : MethodName := ⟨RX10, "passes", "(IIZ)V"⟩
abbrev cX10_isEmpty : ByteArray := prog_12_method_94_code
def yX10_isEmpty : MethodName := ⟨RX10, "isEmpty", "(I)Z"⟩
abbrev cX10_ways : ByteArray := prog_12_method_95_code
def yX10_ways : MethodName := ⟨RX10, "ways", "(II)J"⟩
abbrev cX10_whole : ByteArray := prog_12_method_96_code
def yX10_whole : MethodName := ⟨RX10, "whole", "(I)J"⟩
abbrev cX10_told : ByteArray := prog_12_method_97_code
def yX10_told : MethodName := ⟨RX10, "told", "(II)I"⟩
abbrev cX10_size : ByteArray := prog_12_method_98_code
def yX10_size : MethodName := ⟨RX10, "size", "()I"⟩
abbrev cX10_trouble : ByteArray := prog_12_method_99_code
def yX10_trouble : MethodName := ⟨RX10, "trouble", "()I"⟩
def RJx145de : String := "java/io/Serializable"
def TJx145de : u_T := fun k => match k with
  | _ => ("", "", "", false)
def tyJx145de : Nat → FieldType := fun k => match k with
  | _ => .int
abbrev wsJx145de0 : List Cond := u_ws RJx145de TJx145de 0
theorem nmJx145de : ∀ a, a < 0 → ∀ b, b < 0 → a ≠ b → (TJx145de a).2.1 ≠ (TJx145de b).2.1 := by decide +kernel
theorem tyJx145de_ok : ∀ k, k < 0 → parseFieldDescriptor (TJx145de k).2.2.1 = some (tyJx145de k) := by decide +kernel
def RJx9f9b0 : String := "java/lang/CharSequence"
def TJx9f9b0 : u_T := fun k => match k with
  | _ => ("", "", "", false)
def tyJx9f9b0 : Nat → FieldType := fun k => match k with
  | _ => .int
abbrev wsJx9f9b00 : List Cond := u_ws RJx9f9b0 TJx9f9b0 0
theorem nmJx9f9b0 : ∀ a, a < 0 → ∀ b, b < 0 → a ≠ b → (TJx9f9b0 a).2.1 ≠ (TJx9f9b0 b).2.1 := by decide +kernel
theorem tyJx9f9b0_ok : ∀ k, k < 0 → parseFieldDescriptor (TJx9f9b0 k).2.2.1 = some (tyJx9f9b0 k) := by decide +kernel
def RJxb160c : String := "java/lang/Comparable"
def TJxb160c : u_T := fun k => match k with
  | _ => ("", "", "", false)
def tyJxb160c : Nat → FieldType := fun k => match k with
  | _ => .int
abbrev wsJxb160c0 : List Cond := u_ws RJxb160c TJxb160c 0
theorem nmJxb160c : ∀ a, a < 0 → ∀ b, b < 0 → a ≠ b → (TJxb160c a).2.1 ≠ (TJxb160c b).2.1 := by decide +kernel
theorem tyJxb160c_ok : ∀ k, k < 0 → parseFieldDescriptor (TJxb160c k).2.2.1 = some (tyJxb160c k) := by decide +kernel
def RJ9 : String := "java/lang/Math"
def TJ9 : u_T := fun k => match k with
  | _ => ("", "", "", false)
def tyJ9 : Nat → FieldType := fun k => match k with
  | _ => .int
abbrev wsJ90 : List Cond := u_ws RJ9 TJ9 0
theorem nmJ9 : ∀ a, a < 0 → ∀ b, b < 0 → a ≠ b → (TJ9 a).2.1 ≠ (TJ9 b).2.1 := by decide +kernel
theorem tyJ9_ok : ∀ k, k < 0 → parseFieldDescriptor (TJ9 k).2.2.1 = some (tyJ9 k) := by decide +kernel
abbrev cJ9_min_7cf53 : ByteArray := prog_17_method_69_code
def yJ9_min_7cf53 : MethodName := ⟨RJ9, "min", "(II)I"⟩
def RJ0 : String := "java/lang/String"
def TJ0 : u_T := fun k => match k with
  | _ => ("", "", "", false)
def tyJ0 : Nat → FieldType := fun k => match k with
  | _ => .int
abbrev wsJ00 : List Cond := u_ws RJ0 TJ0 0
theorem nmJ0 : ∀ a, a < 0 → ∀ b, b < 0 → a ≠ b → (TJ0 a).2.1 ≠ (TJ0 b).2.1 := by decide +kernel
theorem tyJ0_ok : ∀ k, k < 0 → parseFieldDescriptor (TJ0 k).2.2.1 = some (tyJ0 k) := by decide +kernel
abbrev cJ0_length_8abf5 : ByteArray := prog_19_method_54_code
def yJ0_length_8abf5 : MethodName := ⟨RJ0, "length", "()I"⟩
abbrev cJ0_charAt_5068e : ByteArray := prog_19_method_56_code
def yJ0_charAt_5068e : MethodName := ⟨RJ0, "charAt", "(I)C"⟩
abbrev cJ0_coder_7d493 : ByteArray := prog_19_method_152_code
def yJ0_coder_7d493 : MethodName := ⟨RJ0, "coder", "()B"⟩
abbrev cJ0_isLatin1_aae02 : ByteArray := prog_19_method_154_code
def yJ0_isLatin1_aae02 : MethodName := ⟨RJ0, "isLatin1", "()Z"⟩
abbrev cJ0_checkIndex_df160 : ByteArray := prog_19_method_155_code
def yJ0_checkIndex_df160 : MethodName := ⟨RJ0, "checkIndex", "(II)V"⟩
def RJ1 : String := "java/lang/StringLatin1"
def TJ1 : u_T := fun k => match k with
  | _ => ("", "", "", false)
def tyJ1 : Nat → FieldType := fun k => match k with
  | _ => .int
abbrev wsJ10 : List Cond := u_ws RJ1 TJ1 0
theorem nmJ1 : ∀ a, a < 0 → ∀ b, b < 0 → a ≠ b → (TJ1 a).2.1 ≠ (TJ1 b).2.1 := by decide +kernel
theorem tyJ1_ok : ∀ k, k < 0 → parseFieldDescriptor (TJ1 k).2.2.1 = some (tyJ1 k) := by decide +kernel
abbrev cJ1_charAt_3b067 : ByteArray := prog_20_method_2_code
def yJ1_charAt_3b067 : MethodName := ⟨RJ1, "charAt", "([BI)C"⟩
def RJ2 : String := "java/lang/StringUTF16"
def TJ2 : u_T := fun k => match k with
  | _ => ("", "", "", false)
def tyJ2 : Nat → FieldType := fun k => match k with
  | _ => .int
abbrev wsJ20 : List Cond := u_ws RJ2 TJ2 0
theorem nmJ2 : ∀ a, a < 0 → ∀ b, b < 0 → a ≠ b → (TJ2 a).2.1 ≠ (TJ2 b).2.1 := by decide +kernel
theorem tyJ2_ok : ∀ k, k < 0 → parseFieldDescriptor (TJ2 k).2.2.1 = some (tyJ2 k) := by decide +kernel
abbrev cJ2_getChar_3b067 : ByteArray := prog_21_method_5_code
def yJ2_getChar_3b067 : MethodName := ⟨RJ2, "getChar", "([BI)C"⟩
abbrev cJ2_length_9d52b : ByteArray := prog_21_method_6_code
def yJ2_length_9d52b : MethodName := ⟨RJ2, "length", "([B)I"⟩
abbrev cJ2_charAt_3b067 : ByteArray := prog_21_method_83_code
def yJ2_charAt_3b067 : MethodName := ⟨RJ2, "charAt", "([BI)C"⟩
abbrev cJ2_checkIndex_2214a : ByteArray := prog_21_method_91_code
def yJ2_checkIndex_2214a : MethodName := ⟨RJ2, "checkIndex", "(I[B)V"⟩
def RJxfd54e : String := "java/lang/constant/Constable"
def TJxfd54e : u_T := fun k => match k with
  | _ => ("", "", "", false)
def tyJxfd54e : Nat → FieldType := fun k => match k with
  | _ => .int
abbrev wsJxfd54e0 : List Cond := u_ws RJxfd54e TJxfd54e 0
theorem nmJxfd54e : ∀ a, a < 0 → ∀ b, b < 0 → a ≠ b → (TJxfd54e a).2.1 ≠ (TJxfd54e b).2.1 := by decide +kernel
theorem tyJxfd54e_ok : ∀ k, k < 0 → parseFieldDescriptor (TJxfd54e k).2.2.1 = some (tyJxfd54e k) := by decide +kernel
def RJx3cf43 : String := "java/lang/constant/ConstantDesc"
def TJx3cf43 : u_T := fun k => match k with
  | _ => ("", "", "", false)
def tyJx3cf43 : Nat → FieldType := fun k => match k with
  | _ => .int
abbrev wsJx3cf430 : List Cond := u_ws RJx3cf43 TJx3cf43 0
theorem nmJx3cf43 : ∀ a, a < 0 → ∀ b, b < 0 → a ≠ b → (TJx3cf43 a).2.1 ≠ (TJx3cf43 b).2.1 := by decide +kernel
theorem tyJx3cf43_ok : ∀ k, k < 0 → parseFieldDescriptor (TJx3cf43 k).2.2.1 = some (tyJx3cf43 k) := by decide +kernel
def RJ7 : String := "java/util/Arrays"
def TJ7 : u_T := fun k => match k with
  | _ => ("", "", "", false)
def tyJ7 : Nat → FieldType := fun k => match k with
  | _ => .int
abbrev wsJ70 : List Cond := u_ws RJ7 TJ7 0
theorem nmJ7 : ∀ a, a < 0 → ∀ b, b < 0 → a ≠ b → (TJ7 a).2.1 ≠ (TJ7 b).2.1 := by decide +kernel
theorem tyJ7_ok : ∀ k, k < 0 → parseFieldDescriptor (TJ7 k).2.2.1 = some (tyJ7 k) := by decide +kernel
abbrev cJ7_fill_d0a16 : ByteArray := prog_25_method_101_code
def yJ7_fill_d0a16 : MethodName := ⟨RJ7, "fill", "([JJ)V"⟩
abbrev cJ7_fill_53178 : ByteArray := prog_25_method_103_code
def yJ7_fill_53178 : MethodName := ⟨RJ7, "fill", "([II)V"⟩
def RJ3 : String := "jdk/internal/util/Preconditions"
def TJ3 : u_T := fun k => match k with
  | _ => ("", "", "", false)
def tyJ3 : Nat → FieldType := fun k => match k with
  | _ => .int
abbrev wsJ30 : List Cond := u_ws RJ3 TJ3 0
theorem nmJ3 : ∀ a, a < 0 → ∀ b, b < 0 → a ≠ b → (TJ3 a).2.1 ≠ (TJ3 b).2.1 := by decide +kernel
theorem tyJ3_ok : ∀ k, k < 0 → parseFieldDescriptor (TJ3 k).2.2.1 = some (tyJ3 k) := by decide +kernel
abbrev cJ3_checkIndex_8e157 : ByteArray := prog_27_method_11_code
def yJ3_checkIndex_8e157 : MethodName := ⟨RJ3, "checkIndex", "(IILjava/util/function/BiFunction;)I"⟩
def RL : String := "StolenFinalsLaw"
abbrev cL_told : ByteArray := method_3_code
def yL_told : MethodName := ⟨RL, "told", "(LStolenFinals;II[J)I"⟩
abbrev cL_law : ByteArray := code
def yL_law : MethodName := ⟨RL, "law", "([I)Z"⟩
/-! THE MACHINE OF MY OWN: the bytecode of class, reference and law over a memory of integers. -/
/-- values: an int, a long, a cell (0 null, 1 the script, 2.. what was made), what is no cell: (0, k) the k-th text, (1, k) its bytes, (2, _) any reference, (9, _) nothing -/
abbrev zV : Type := Int ⊕ (Int ⊕ (Nat ⊕ (Nat × Nat)))
abbrev zI (x : Int) : zV := .inl x
abbrev zJ (x : Int) : zV := .inr (.inl x)
abbrev zA (a : Nat) : zV := .inr (.inr (.inl a))
abbrev zS (t k : Nat) : zV := .inr (.inr (.inr (t, k)))
abbrev zU : zV := .inr (.inr (.inr (9, 0)))
abbrev zM : Type := Nat → Nat → Int
/-- the layout (kind and length of each cell), what was made besides (cells, slots) -/
abbrev zY : Type := List (Nat × Nat) × (Nat × Nat)
def zt (L : zY) (a : Nat) : Nat := (L.1.getD a (0, 0)).1
def zn (L : zY) (a : Nat) : Nat := (L.1.getD a (0, 0)).2
def zup (m : zM) (a k : Nat) (v : Int) : zM := fun a' k' => if a' = a ∧ k' = k then v else m a' k'
def zwr (x : Int) : Int := Int.bmod x 4294967296
def zwl (x : Int) : Int := Int.bmod x 18446744073709551616
def zand (x y : Int) : Int := ((Int32.ofInt x) &&& (Int32.ofInt y)).toInt
def zshr (x y : Int) : Int := ((Int32.ofInt x) >>> ((Int32.ofInt y) &&& 31)).toInt
def zdiv (x y : Int) : Int := ((Int32.ofInt x) / (Int32.ofInt y)).toInt
def zrem (x y : Int) : Int := ((Int32.ofInt x) - (Int32.ofInt x) / (Int32.ofInt y) * (Int32.ofInt y)).toInt
def zcat (v : zV) : Nat := match v with
  | .inr (.inl _) => 2
  | _ => 1
def zsum (st : List zV) : Nat := (st.map zcat).sum
def zlk {α : Type} : List (Nat × α) → Nat → Option α
  | [], _ => none
  | q :: t, k => bif Nat.beq q.1 k then some q.2 else zlk t k
/-- what a step comes to: the next state; a call (which, its values, the stack below, where it goes on); the end -/
abbrev zR : Type := (Nat × List zV × List zV × zY × zM) ⊕ ((Nat × List zV × List zV × Nat) ⊕ Option zV)
def zgo (pc : Nat) (ls st : List zV) (L : zY) (m : zM) : Option zR := some (.inl (pc, ls, st, L, m))
def zjmp (pc : Nat) (off : Int) (ls st : List zV) (L : zY) (m : zM) : Option zR := if 0 ≤ (pc : Int) + off then zgo ((pc : Int) + off).toNat ls st L m else none
def zlong (v : zV) : Bool := match v with
  | .inr (.inl _) => true
  | _ => false
def zst (ls : List zV) (i : Nat) (v : zV) : Option (List zV) := if i < ls.length ∧ (i = 0 ∨ zlong (ls.getD (i - 1) zU) = false) then some (ls.set i v) else none
def zstl (ls : List zV) (i : Nat) (v : zV) : Option (List zV) := if i + 1 < ls.length ∧ (i = 0 ∨ zlong (ls.getD (i - 1) zU) = false) then some ((ls.set i v).set (i + 1) zU) else none
def zld (k : Nat) (pc : Nat) (ls st : List zV) (i : Nat) (L : zY) (m : zM) : Option zR := match k, ls.getD i zU with
  | 0, .inl x => zgo pc ls (.inl x :: st) L m
  | 1, .inr (.inl x) => zgo pc ls (.inr (.inl x) :: st) L m
  | 2, .inr (.inr (.inl a)) => zgo pc ls (.inr (.inr (.inl a)) :: st) L m
  | 2, .inr (.inr (.inr (t, j))) => if t ≤ 2 then zgo pc ls (.inr (.inr (.inr (t, j))) :: st) L m else none
  | _, _ => none
def zsto (k : Nat) (pc : Nat) (ls st : List zV) (i : Nat) (L : zY) (m : zM) : Option zR := match k, st with
  | 0, .inl x :: r => (zst ls i (.inl x)).bind fun ls => zgo pc ls r L m
  | 1, .inr (.inl x) :: r => (zstl ls i (.inr (.inl x))).bind fun ls => zgo pc ls r L m
  | 2, .inr (.inr (.inl a)) :: r => (zst ls i (.inr (.inr (.inl a)))).bind fun ls => zgo pc ls r L m
  | _, _ => none
def zbin (f : Int → Int → Int) (pc : Nat) (ls st : List zV) (L : zY) (m : zM) : Option zR := match st with
  | .inl y :: .inl x :: r => zgo pc ls (.inl (f x y) :: r) L m
  | _ => none
def zcd (c : Jvm.ClassFile.Cond) (x y : Int) : Bool := match c with
  | .eq => decide (x = y)
  | .ne => decide (x ≠ y)
  | .lt => decide (x < y)
  | .ge => decide (y ≤ x)
  | .gt => decide (y < x)
  | .le => decide (x ≤ y)
/-- new cells: kind t, n slots, all 0 -/
def zclr (m : zM) (a n : Nat) : zM := fun a' k => if a ≤ a' ∧ a' < a + n then 0 else m a' k
def znu (L : zY) (t n : Nat) : zY := (L.1 ++ [(t, n)], L.2)
/-- rows of rows: the outer one, the inner ones behind it -/
def zmna (m : zM) (a n : Nat) : zM := fun a' k => if a' = a then (if k < n then (a + 1 + k : Nat) else 0) else if a ≤ a' ∧ a' < a + 1 + n then 0 else m a' k
def zent (mx : Nat) (args : List zV) : List zV := (args.flatMap fun v => if zlong v then [v, zU] else [v]) ++ List.replicate (mx - (args.map zcat).sum) zU

def zfld : List (Nat × (Nat × Nat × Nat)) := [(80009, (9, 0, 3)), (80015, (9, 1, 0)), (90083, (9, 1, 0)), (60012, (7, 0, 3)), (90016, (7, 0, 3)), (60018, (7, 1, 0)), (60022, (7, 2, 0)), (60025, (7, 3, 0)), (60028, (7, 4, 0)), (90107, (7, 4, 0)), (60031, (7, 5, 0)), (90110, (7, 5, 0)), (40009, (5, 0, 3)), (40015, (5, 1, 0)), (30, (5, 1, 0)), (90130, (5, 1, 0)), (40019, (5, 2, 0)), (39, (5, 2, 0)), (90143, (5, 2, 0)), (40022, (5, 3, 1)), (90248, (5, 3, 1)), (30009, (4, 0, 3)), (70120, (4, 0, 3)), (90309, (4, 0, 3)), (30015, (4, 1, 3)), (70124, (4, 1, 3)), (90312, (4, 1, 3)), (30018, (4, 2, 3)), (70127, (4, 2, 3)), (30021, (4, 3, 3)), (90315, (4, 3, 3)), (30024, (4, 4, 3)), (30027, (4, 5, 3)), (30030, (4, 6, 3)), (30033, (4, 7, 3)), (30036, (4, 8, 3)), (30039, (4, 9, 0)), (70074, (4, 9, 0)), (90131, (4, 9, 0)), (30043, (4, 10, 0)), (30046, (4, 11, 0)), (90137, (4, 11, 0)), (30049, (4, 12, 1)), (70110, (4, 12, 1)), (11, (1, 0, 3)), (16, (1, 1, 3)), (20, (1, 2, 3)), (23, (1, 3, 0)), (27, (1, 4, 0)), (90146, (1, 4, 0)), (70013, (8, 0, 3)), (70018, (8, 1, 3)), (70021, (8, 2, 3)), (70024, (8, 3, 3)), (70028, (8, 4, 3)), (70031, (8, 5, 3)), (70034, (8, 6, 3)), (70037, (8, 7, 1)), (10015, (2, 0, 3)), (10009, (2, 1, 0)), (50076, (2, 1, 0)), (20022, (3, 0, 3)), (20025, (3, 1, 3)), (20009, (3, 2, 3)), (20015, (3, 3, 0)), (20019, (3, 4, 0)), (50100, (3, 4, 0)), (50009, (6, 0, 3)), (50020, (6, 1, 3)), (50024, (6, 2, 3)), (50027, (6, 3, 3)), (50030, (6, 4, 3)), (60133, (6, 4, 3)), (50033, (6, 5, 3)), (50036, (6, 6, 3)), (50042, (6, 7, 3)), (30076, (6, 7, 3)), (70095, (6, 7, 3)), (90156, (6, 7, 3)), (50046, (6, 8, 3)), (30096, (6, 8, 3)), (70104, (6, 8, 3)), (90165, (6, 8, 3)), (50049, (6, 9, 3)), (30090, (6, 9, 3)), (70107, (6, 9, 3)), (90168, (6, 9, 3)), (90012, (10, 0, 3)), (90020, (10, 1, 3)), (90024, (10, 2, 3)), (90028, (10, 3, 3)), (90034, (10, 4, 3)), (90038, (10, 5, 3)), (90044, (10, 6, 3)), (90051, (10, 7, 3)), (90055, (10, 8, 3)), (90062, (10, 9, 3)), (90066, (10, 10, 3)), (90069, (10, 11, 1)), (90073, (10, 12, 0)), (90077, (10, 13, 0)), (90080, (10, 14, 0)), (100129, (11, 0, 0)), (100132, (11, 1, 0)), (100231, (11, 2, 0)), (100009, (11, 3, 0)), (100013, (11, 4, 3)), (100135, (11, 5, 0)), (100244, (11, 6, 1)), (100017, (11, 7, 3)), (100020, (11, 8, 3)), (100023, (11, 9, 3)), (100026, (11, 10, 3)), (100029, (11, 11, 3)), (100032, (11, 12, 3)), (100035, (11, 13, 3)), (100142, (11, 14, 0)), (100152, (11, 15, 0)), (100145, (11, 16, 0)), (100155, (11, 17, 0)), (100172, (11, 18, 0)), (100175, (11, 19, 0)), (100263, (11, 20, 0)), (100266, (11, 21, 0)), (100269, (11, 22, 0)), (100272, (11, 23, 0)), (100038, (11, 24, 3)), (100041, (11, 25, 3)), (100044, (11, 26, 3)), (100047, (11, 27, 3)), (100050, (11, 28, 3)), (100053, (11, 29, 3)), (100056, (11, 30, 3)), (100059, (11, 31, 3)), (100251, (11, 32, 0)), (100254, (11, 33, 0)), (100062, (11, 34, 3)), (100065, (11, 35, 3)), (100068, (11, 36, 3)), (100071, (11, 37, 3)), (100074, (11, 38, 3)), (100077, (11, 39, 3)), (100080, (11, 40, 3)), (100083, (11, 41, 3)), (100086, (11, 42, 3)), (100089, (11, 43, 3)), (100092, (11, 44, 3)), (100279, (11, 45, 0)), (100285, (11, 46, 0)), (100095, (11, 47, 3)), (100098, (11, 48, 3)), (100101, (11, 49, 3)), (100329, (11, 50, 0)), (100332, (11, 51, 0)), (100104, (11, 52, 3)), (100257, (11, 53, 0)), (100107, (11, 54, 3)), (100110, (11, 55, 3)), (100113, (11, 56, 3)), (100116, (11, 57, 3)), (100119, (11, 58, 3)), (100122, (11, 59, 3)), (100126, (11, 60, 3)), (100405, (11, 61, 0)), (100402, (11, 62, 0)), (120009, (51, 0, 5)), (120015, (51, 1, 6))]

def zcal : List (Nat × (Nat × Nat × Nat)) := [(110015, (108, 1, 2)), (90003, (0, 1, 3)), (90011, (75, 1, 2)), (60003, (0, 1, 3)), (60011, (102, 1, 2)), (80003, (0, 1, 3)), (90023, (42, 1, 2)), (40003, (0, 1, 3)), (90033, (22, 1, 2)), (30003, (0, 1, 3)), (90043, (0, 1, 2)), (3, (0, 1, 3)), (90050, (88, 1, 2)), (70005, (0, 1, 3)), (90061, (54, 1, 2)), (50003, (0, 1, 3)), (50017, (4, 2, 2)), (10003, (0, 1, 3)), (50041, (11, 2, 2)), (20003, (0, 1, 3)), (50052, (267, 2, 1)), (110019, (109, 6, 0)), (90088, (104, 2, 0)), (110024, (110, 2, 0)), (90092, (105, 2, 0)), (90096, (157, 2, 0)), (90100, (76, 3, 0)), (60034, (55, 1, 0)), (50058, (5, 1, 0)), (60039, (83, 2, 0)), (60077, (79, 1, 0)), (60057, (106, 2, 0)), (60061, (158, 1, 1)), (60098, (82, 1, 0)), (60082, (80, 2, 0)), (60065, (259, 1, 4)), (120335, (261, 1, 4)), (60070, (78, 2, 0)), (60073, (260, 2, 4)), (120492, (262, 1, 4)), (120495, (264, 2, 1)), (130009, (263, 2, 1)), (121059, (265, 3, 1)), (60050, (77, 2, 0)), (60101, (57, 2, 0)), (60105, (6, 1, 0)), (60110, (86, 2, 0)), (60120, (84, 1, 0)), (60130, (60, 2, 0)), (50065, (58, 2, 0)), (50061, (158, 1, 1)), (60137, (10, 2, 0)), (60140, (7, 2, 0)), (60113, (87, 2, 0)), (60143, (62, 2, 0)), (60146, (61, 2, 0)), (60149, (65, 3, 0)), (50080, (9, 2, 0)), (10019, (8, 2, 0)), (60153, (64, 3, 0)), (50073, (7, 2, 0)), (60116, (85, 3, 0)), (60123, (59, 2, 0)), (60126, (63, 3, 0)), (50069, (57, 2, 0)), (60043, (81, 1, 0)), (60047, (66, 1, 0)), (50083, (60, 2, 0)), (60054, (67, 1, 0)), (50086, (12, 1, 0)), (20028, (267, 2, 1)), (50087, (13, 2, 0)), (20034, (158, 1, 1)), (20038, (14, 3, 0)), (50090, (61, 2, 0)), (50093, (14, 3, 0)), (50097, (62, 2, 0)), (90104, (103, 1, 0)), (90113, (43, 1, 0)), (90114, (23, 1, 0)), (90115, (1, 1, 0)), (90116, (89, 1, 0)), (90117, (68, 1, 0)), (90121, (156, 2, 0)), (110029, (111, 1, 0)), (110034, (112, 1, 0)), (110038, (113, 2, 0)), (90124, (69, 2, 0)), (90127, (114, 2, 0)), (90134, (36, 1, 0)), (30073, (32, 2, 0)), (90140, (50, 1, 0)), (110042, (115, 3, 0)), (90149, (59, 2, 0)), (90152, (70, 3, 0)), (50101, (16, 2, 0)), (50104, (17, 3, 0)), (110046, (116, 4, 0)), (90160, (15, 2, 0)), (90171, (71, 4, 0)), (110051, (117, 3, 0)), (90175, (72, 2, 0)), (90178, (73, 3, 0)), (110055, (118, 3, 0)), (90181, (74, 3, 0)), (50108, (73, 3, 0)), (50111, (19, 2, 0)), (20046, (15, 2, 0)), (50114, (20, 2, 0)), (110059, (119, 2, 0)), (90184, (121, 2, 0)), (90187, (2, 2, 0)), (35, (45, 2, 0)), (40026, (44, 2, 0)), (90191, (48, 2, 0)), (90194, (122, 1, 0)), (90197, (45, 2, 0)), (90200, (25, 3, 0)), (30060, (58, 2, 0)), (30056, (28, 5, 0)), (30066, (27, 3, 0)), (30093, (16, 2, 0)), (30086, (29, 2, 0)), (30099, (21, 2, 0)), (30102, (18, 2, 0)), (20042, (16, 2, 0)), (30105, (30, 1, 0)), (30080, (17, 3, 0)), (30070, (26, 3, 0)), (110063, (120, 1, 0)), (110067, (124, 2, 0)), (90204, (125, 2, 0)), (90207, (106, 2, 0)), (90210, (126, 2, 0)), (110071, (127, 1, 0)), (90213, (49, 1, 0)), (110075, (128, 1, 0)), (110079, (129, 2, 0)), (110083, (130, 1, 0)), (90216, (51, 1, 0)), (90219, (131, 1, 0)), (90228, (132, 2, 0)), (90232, (35, 2, 0)), (30112, (31, 2, 0)), (90235, (34, 2, 0)), (90238, (39, 4, 0)), (90231, (46, 2, 0)), (90222, (53, 2, 0)), (40040, (43, 1, 0)), (40043, (45, 2, 0)), (40036, (46, 2, 0)), (90225, (52, 2, 0)), (110087, (133, 2, 0)), (90242, (134, 2, 0)), (90251, (107, 2, 0)), (80019, (106, 2, 0)), (90245, (135, 2, 0)), (90254, (136, 3, 0)), (90261, (33, 3, 0)), (30108, (71, 4, 0)), (90258, (47, 3, 0)), (40030, (74, 3, 0)), (110091, (137, 1, 0)), (90265, (3, 2, 0)), (42, (43, 1, 0)), (45, (46, 2, 0)), (110095, (138, 2, 0)), (90268, (44, 2, 0)), (110099, (139, 3, 0)), (90271, (38, 3, 0)), (110103, (140, 3, 0)), (90274, (31, 2, 0)), (90277, (37, 4, 0)), (30116, (33, 3, 0)), (110107, (141, 1, 0)), (110111, (142, 2, 0)), (90281, (123, 4, 0)), (90285, (40, 2, 0)), (30120, (39, 4, 0)), (110115, (143, 1, 0)), (110119, (144, 3, 0)), (90289, (41, 3, 0)), (30124, (0, 2, 6)), (110123, (145, 3, 0)), (90293, (146, 2, 0)), (90296, (147, 3, 0)), (90299, (32, 2, 0)), (110127, (148, 2, 0)), (90302, (149, 2, 0)), (90305, (150, 2, 0)), (110131, (151, 3, 0)), (90318, (92, 3, 0)), (70043, (93, 3, 0)), (70064, (59, 2, 0)), (70070, (94, 4, 0)), (70088, (23, 1, 0)), (70091, (24, 4, 0)), (30053, (23, 1, 0)), (70099, (15, 2, 0)), (70080, (25, 3, 0)), (70084, (95, 2, 0)), (70113, (31, 2, 0)), (70116, (32, 2, 0)), (70047, (96, 2, 0)), (70051, (266, 2, 1)), (70057, (101, 2, 0)), (70134, (99, 2, 0)), (70061, (97, 2, 0)), (70130, (98, 5, 0)), (70137, (100, 2, 0)), (90322, (90, 3, 0)), (110136, (152, 2, 0)), (90326, (91, 2, 0)), (110150, (154, 1, 0)), (110154, (155, 1, 0)), (110141, (0, 4, 5)), (110007, (153, 3, 0)), (90330, (56, 2, 0)), (90334, (8, 2, 0)), (90340, (9, 2, 0)), (110018, (159, 1, 2)), (100001, (0, 1, 3)), (110147, (160, 1, 0)), (110023, (166, 6, 0)), (100138, (167, 2, 0)), (110028, (182, 2, 0)), (100158, (161, 3, 1)), (100224, (165, 2, 1)), (100228, (163, 2, 0)), (100234, (180, 2, 0)), (100178, (169, 1, 0)), (100148, (168, 2, 0)), (100221, (179, 1, 0)), (100200, (170, 2, 0)), (100162, (259, 1, 4)), (100168, (260, 2, 4)), (100204, (175, 2, 0)), (100181, (171, 2, 0)), (100185, (173, 1, 0)), (100189, (172, 1, 0)), (100192, (174, 2, 0)), (100214, (176, 1, 0)), (100218, (178, 1, 0)), (100195, (177, 1, 1)), (100237, (162, 2, 0)), (100240, (181, 1, 1)), (100248, (185, 1, 0)), (100275, (186, 3, 0)), (100260, (199, 1, 0)), (100318, (198, 4, 0)), (100315, (197, 3, 0)), (100302, (191, 5, 0)), (100282, (189, 2, 0)), (100291, (190, 4, 0)), (100309, (196, 3, 0)), (100288, (192, 1, 0)), (100298, (187, 5, 1)), (100306, (195, 3, 0)), (100312, (194, 3, 0)), (100295, (193, 1, 0)), (110033, (183, 1, 0)), (110037, (184, 1, 0)), (110041, (208, 2, 0)), (100342, (164, 1, 1)), (100345, (207, 1, 0)), (100321, (200, 3, 0)), (100348, (206, 1, 0)), (110045, (209, 3, 0)), (100351, (188, 2, 0)), (110050, (211, 4, 0)), (100354, (210, 4, 0)), (110054, (213, 3, 0)), (100358, (212, 2, 0)), (110058, (215, 3, 0)), (100361, (214, 2, 0)), (110062, (219, 2, 0)), (100371, (218, 2, 0)), (100367, (217, 3, 0)), (100364, (216, 1, 0)), (110066, (220, 1, 0)), (110070, (221, 2, 0)), (110074, (223, 1, 0)), (100374, (222, 2, 0)), (110078, (224, 1, 0)), (110082, (225, 2, 0)), (110086, (226, 1, 0)), (100377, (203, 1, 0)), (100380, (205, 1, 0)), (100335, (204, 2, 0)), (100338, (202, 3, 0)), (100325, (201, 5, 0)), (110090, (228, 2, 0)), (100383, (227, 2, 0)), (110094, (229, 1, 0)), (110098, (231, 2, 0)), (100386, (230, 2, 0)), (110102, (232, 3, 0)), (110106, (236, 3, 0)), (100392, (233, 2, 0)), (100389, (234, 2, 0)), (100395, (235, 2, 0)), (110110, (237, 1, 0)), (110114, (238, 2, 0)), (110118, (239, 1, 0)), (110122, (240, 3, 0)), (110126, (241, 3, 0)), (110130, (243, 2, 0)), (100399, (242, 2, 0)), (110135, (253, 3, 0)), (100435, (250, 3, 0)), (100421, (251, 4, 0)), (100424, (252, 2, 0)), (100427, (248, 3, 0)), (100408, (244, 2, 0)), (100411, (245, 3, 0)), (100414, (246, 4, 0)), (100418, (247, 3, 0)), (100430, (249, 1, 1)), (110140, (254, 2, 0)), (110146, (255, 3, 0)), (110153, (256, 1, 0)), (110157, (257, 1, 0))]

def znew : List (Nat × (Nat × Nat)) := [(110008, (10, 15)), (90009, (7, 6)), (60009, (9, 2)), (90021, (5, 4)), (90031, (4, 13)), (90041, (1, 5)), (9, (22, 0)), (90048, (8, 8)), (70011, (22, 0)), (70016, (23, 0)), (90059, (6, 10)), (50015, (2, 2)), (50039, (3, 5)), (110016, (11, 63))]

def zcst : List (Nat × Int) := [(90308, 65536), (100398, 100000)]

def zlng : List (Nat × Int) := [(70041, -1), (100433, -1)]

def zstr : List (Nat × Nat) := [(60080, 0), (60086, 1), (60088, 2), (60090, 3), (60092, 4), (60094, 5), (60096, 6), (100198, 7), (100207, 8), (100209, 9), (100211, 10), (100212, 11), (100213, 12), (100217, 13)]

def zgst : List (Nat × Nat) := [(120038, 0), (121053, 1)]

def zwords : List (List Int) := [[108, 101, 97, 100], [98, 111, 116, 104], [102, 105, 110, 97, 108], [118, 111, 119, 101, 108], [111, 108, 100], [116, 119, 105, 110], [112, 97, 105, 114], [108, 101, 97, 100], [98, 111, 116, 104], [102, 105, 110, 97, 108], [118, 111, 119, 101, 108], [111, 108, 100], [116, 119, 105, 110], [112, 97, 105, 114]]

def zcls : List Nat := [0, 0, 0, 0, 1, 1, 1, 1, 1, 1, 1, 2, 2, 2, 2, 2, 2, 2, 2, 2, 2, 2, 3, 3, 3, 3, 3, 3, 3, 3, 3, 3, 3, 3, 3, 3, 3, 3, 3, 3, 3, 3, 4, 4, 4, 4, 4, 4, 4, 4, 4, 4, 4, 4, 5, 5, 5, 5, 5, 5, 5, 5, 5, 5, 5, 5, 5, 5, 5, 5, 5, 5, 5, 5, 5, 6, 6, 6, 6, 6, 6, 6, 6, 6, 6, 6, 6, 6, 7, 7, 7, 7, 7, 7, 7, 7, 7, 7, 7, 7, 7, 7, 8, 8, 8, 8, 8, 8, 9, 9, 9, 9, 9, 9, 9, 9, 9, 9, 9, 9, 9, 9, 9, 9, 9, 9, 9, 9, 9, 9, 9, 9, 9, 9, 9, 9, 9, 9, 9, 9, 9, 9, 9, 9, 9, 9, 9, 9, 9, 9, 9, 9, 9, 9, 9, 9, 9, 9, 9, 10, 10, 10, 10, 10, 10, 10, 10, 10, 10, 10, 10, 10, 10, 10, 10, 10, 10, 10, 10, 10, 10, 10, 10, 10, 10, 10, 10, 10, 10, 10, 10, 10, 10, 10, 10, 10, 10, 10, 10, 10, 10, 10, 10, 10, 10, 10, 10, 10, 10, 10, 10, 10, 10, 10, 10, 10, 10, 10, 10, 10, 10, 10, 10, 10, 10, 10, 10, 10, 10, 10, 10, 10, 10, 10, 10, 10, 10, 10, 10, 10, 10, 10, 10, 10, 10, 10, 10, 10, 10, 10, 10, 10, 10, 10, 10, 10, 10, 10, 11, 12, 12, 12, 12, 12, 13, 14, 15, 15]

def zmxs : List Nat := [1, 1, 3, 3, 2, 1, 1, 2, 2, 2, 3, 3, 1, 2, 3, 2, 3, 4, 2, 2, 2, 2, 1, 1, 4, 3, 6, 7, 5, 2, 3, 2, 2, 3, 2, 2, 3, 4, 3, 4, 3, 5, 1, 1, 2, 2, 2, 5, 3, 2, 3, 3, 4, 3, 1, 1, 2, 2, 2, 2, 3, 3, 2, 3, 3, 4, 2, 4, 1, 2, 3, 4, 2, 4, 6, 1, 5, 2, 2, 2, 3, 1, 1, 3, 2, 4, 3, 5, 1, 1, 4, 2, 4, 7, 4, 3, 3, 5, 6, 2, 2, 4, 1, 1, 3, 2, 2, 2, 1, 6, 3, 1, 1, 2, 2, 3, 4, 3, 6, 2, 1, 2, 2, 5, 4, 3, 2, 1, 1, 3, 3, 4, 4, 4, 3, 4, 6, 1, 2, 3, 3, 2, 3, 1, 4, 6, 3, 5, 4, 3, 4, 3, 2, 4, 1, 1, 2, 2, 1, 1, 1, 3, 2, 2, 1, 2, 6, 3, 2, 2, 3, 2, 1, 1, 2, 5, 3, 1, 6, 1, 4, 2, 2, 1, 1, 3, 3, 6, 2, 2, 4, 6, 1, 1, 7, 6, 7, 4, 5, 1, 6, 7, 4, 4, 3, 3, 3, 3, 2, 4, 4, 5, 2, 3, 7, 4, 2, 4, 2, 2, 1, 3, 3, 1, 1, 3, 4, 8, 4, 2, 2, 2, 3, 2, 2, 2, 3, 2, 4, 1, 7, 6, 3, 5, 2, 3, 5, 4, 3, 1, 6, 6, 3, 6, 6, 4, 1, 1, 7, 1, 2, 1, 1, 2, 2, 3, 5, 4]

def zrks : List Nat := [6, 6, 6, 6, 6, 6, 1, 6, 1, 0, 1, 6, 6, 6, 6, 1, 0, 0, 0, 0, 0, 0, 6, 6, 6, 6, 6, 6, 6, 6, 6, 1, 0, 0, 0, 0, 0, 0, 0, 1, 0, 0, 6, 6, 1, 0, 6, 6, 6, 6, 0, 0, 0, 6, 6, 6, 5, 5, 0, 1, 1, 1, 1, 6, 6, 1, 1, 6, 0, 0, 0, 0, 1, 0, 0, 6, 6, 6, 0, 6, 1, 1, 0, 6, 0, 6, 6, 6, 6, 6, 4, 4, 6, 6, 1, 0, 6, 6, 6, 1, 1, 6, 6, 6, 6, 1, 0, 0, 6, 0, 0, 0, 0, 0, 0, 0, 0, 0, 0, 0, 0, 0, 0, 6, 0, 1, 1, 0, 0, 0, 0, 6, 1, 0, 1, 6, 1, 0, 0, 0, 0, 0, 0, 0, 0, 0, 1, 1, 0, 0, 0, 4, 4, 0, 0, 0, 0, 0, 1, 6, 0, 1, 0, 1, 0, 0, 0, 6, 0, 6, 1, 1, 0, 1, 0, 1, 1, 1, 1, 1, 1, 6, 0, 0, 0, 6, 6, 0, 1, 0, 6, 0, 1, 1, 6, 6, 6, 6, 6, 6, 0, 1, 1, 6, 6, 6, 0, 0, 0, 0, 0, 0, 1, 0, 0, 0, 6, 6, 0, 0, 0, 0, 0, 0, 0, 0, 0, 1, 0, 0, 1, 0, 0, 1, 0, 0, 0, 0, 0, 0, 0, 0, 0, 0, 6, 6, 6, 6, 6, 1, 6, 6, 1, 4, 4, 0, 0, 0, 1, 0, 2, 3, 1, 6, 2, 0, 6, 6]

def zfrs : List Nat := [1, 0, 2, 1, 1, 0, 0, 0, 0, 1, 0, 1, 1, 1, 0, 0, 0, 0, 1, 1, 1, 0, 1, 0, 1, 3, 1, 2, 0, 0, 0, 0, 0, 1, 1, 1, 1, 2, 0, 1, 2, 2, 1, 0, 0, 1, 0, 3, 0, 1, 0, 0, 0, 2, 2, 1, 0, 0, 1, 2, 2, 2, 2, 1, 1, 2, 3, 3, 0, 0, 2, 0, 0, 0, 2, 2, 7, 0, 1, 1, 4, 2, 5, 6, 2, 3, 3, 3, 1, 0, 0, 0, 5, 4, 2, 1, 1, 2, 1, 0, 0, 1, 1, 0, 0, 0, 0, 1, 3, 1, 8, 0, 0, 3, 2, 3, 1, 1, 3, 6, 6, 5, 4, 4, 5, 4, 3, 5, 5, 3, 6, 5, 4, 6, 2, 5, 4, 5, 2, 1, 3, 1, 5, 6, 5, 4, 3, 2, 3, 2, 0, 6, 6, 2, 0, 0, 0, 0, 0, 1, 0, 0, 0, 0, 0, 0, 1, 0, 0, 1, 4, 0, 0, 2, 0, 3, 3, 1, 3, 5, 6, 0, 7, 0, 0, 1, 0, 0, 1, 0, 1, 1, 1, 1, 2, 2, 3, 4, 5, 6, 0, 1, 2, 0, 0, 6, 0, 1, 2, 2, 0, 1, 1, 2, 0, 2, 0, 7, 8, 9, 9, 8, 7, 8, 8, 1, 7, 1, 8, 7, 1, 2, 2, 1, 1, 2, 3, 1, 6, 7, 6, 2, 3, 4, 0, 0, 1, 1, 2, 1, 4, 3, 0, 5, 5, 1, 0, 0, 10, 1, 3, 0, 0, 1, 2, 0, 0, 0]

def zlos : List Nat := [20, 0, 42, 21, 20, 0, 0, 0, 0, 21, 0, 20, 23, 22, 0, 0, 0, 0, 22, 21, 21, 0, 20, 0, 24, 69, 24, 43, 0, 0, 0, 0, 0, 23, 21, 21, 21, 45, 0, 21, 44, 44, 20, 0, 0, 21, 0, 67, 0, 21, 0, 0, 0, 42, 42, 23, 0, 0, 20, 41, 41, 41, 41, 21, 21, 42, 63, 63, 0, 0, 41, 0, 0, 0, 42, 40, 149, 0, 21, 21, 85, 42, 107, 127, 42, 63, 63, 65, 20, 0, 0, 0, 117, 91, 47, 21, 24, 46, 21, 0, 0, 24, 20, 0, 0, 0, 0, 21, 62, 22, 173, 0, 0, 64, 43, 63, 23, 23, 67, 133, 133, 112, 91, 91, 112, 83, 62, 112, 112, 64, 137, 114, 91, 139, 42, 116, 91, 112, 42, 22, 68, 22, 115, 137, 115, 84, 62, 42, 67, 45, 0, 140, 140, 42, 0, 0, 0, 0, 0, 20, 0, 0, 0, 0, 0, 0, 22, 0, 0, 22, 85, 0, 0, 43, 0, 63, 63, 22, 63, 107, 127, 0, 164, 0, 0, 22, 0, 0, 22, 0, 21, 21, 21, 21, 46, 46, 71, 97, 120, 144, 0, 25, 51, 0, 0, 144, 0, 25, 47, 43, 0, 23, 22, 43, 0, 43, 0, 164, 187, 208, 208, 187, 164, 186, 186, 22, 166, 26, 187, 164, 22, 43, 43, 22, 25, 46, 67, 21, 144, 166, 144, 43, 67, 89, 0, 0, 25, 25, 49, 22, 96, 71, 0, 121, 121, 22, 0, 0, 300, 20, 64, 0, 0, 22, 43, 0, 0, 0]

def zc0 : List (Nat × Instr × Nat) := [(0, .aload_n 0, 1), (1, .invokespecial 3, 3), (4, .aload_n 0, 1), (5, .bipush 30, 2), (7, .bipush 80, 2), (9, .multianewarray 9 2, 4), (13, .putfield 11, 3), (16, .aload_n 0, 1), (17, .bipush 30, 2), (19, .newarray .int, 2), (21, .putfield 16, 3), (24, .aload_n 0, 1), (25, .bipush 30, 2), (27, .newarray .int, 2), (29, .putfield 20, 3), (32, .aload_n 0, 1), (33, .iconst 0, 1), (34, .putfield 23, 3), (37, .aload_n 0, 1), (38, .iconst 0, 1), (39, .putfield 27, 3), (42, .return_, 1)]

def zc1 : List (Nat × Instr × Nat) := [(0, .aload_n 0, 1), (1, .iconst 0, 1), (2, .putfield 23, 3), (5, .aload_n 0, 1), (6, .iconst 0, 1), (7, .putfield 27, 3), (10, .return_, 1)]

def zc2 : List (Nat × Instr × Nat) := [(0, .aload_n 0, 1), (1, .getfield 23, 3), (4, .ifCond .lt 12, 3), (7, .aload_n 0, 1), (8, .getfield 23, 3), (11, .bipush 30, 2), (13, .if_icmp .lt 8, 3), (16, .aload_n 0, 1), (17, .iconst 0, 1), (18, .putfield 23, 3), (21, .iconst 0, 1), (22, .istore_n 2, 1), (23, .iload_n 2, 1), (24, .aload_n 1, 1), (25, .getfield 30, 3), (28, .if_icmp .ge 31, 3), (31, .iload_n 2, 1), (32, .bipush 80, 2), (34, .if_icmp .ge 25, 3), (37, .aload_n 0, 1), (38, .getfield 11, 3), (41, .aload_n 0, 1), (42, .getfield 23, 3), (45, .aaload, 1), (46, .iload_n 2, 1), (47, .aload_n 1, 1), (48, .iload_n 2, 1), (49, .invokevirtual 35, 3), (52, .iastore, 1), (53, .iinc 2 1, 3), (56, .goto (-33), 3), (59, .aload_n 0, 1), (60, .getfield 16, 3), (63, .aload_n 0, 1), (64, .getfield 23, 3), (67, .aload_n 1, 1), (68, .getfield 30, 3), (71, .iastore, 1), (72, .aload_n 0, 1), (73, .getfield 20, 3), (76, .aload_n 0, 1), (77, .getfield 23, 3), (80, .aload_n 1, 1), (81, .getfield 39, 3), (84, .iastore, 1), (85, .aload_n 0, 1), (86, .aload_n 0, 1), (87, .getfield 23, 3), (90, .iconst 1, 1), (91, .iadd, 1), (92, .bipush 30, 2), (94, .if_icmp .ge 12, 3), (97, .aload_n 0, 1), (98, .getfield 23, 3), (101, .iconst 1, 1), (102, .iadd, 1), (103, .goto 4, 3), (106, .iconst 0, 1), (107, .putfield 23, 3), (110, .aload_n 0, 1), (111, .aload_n 0, 1), (112, .getfield 27, 3), (115, .bipush 30, 2), (117, .if_icmp .ge 12, 3), (120, .aload_n 0, 1), (121, .getfield 27, 3), (124, .iconst 1, 1), (125, .iadd, 1), (126, .goto 5, 3), (129, .bipush 30, 2), (131, .putfield 27, 3), (134, .return_, 1)]

def zc3 : List (Nat × Instr × Nat) := [(0, .aload_n 0, 1), (1, .getfield 27, 3), (4, .ifCond .gt 4, 3), (7, .return_, 1), (8, .aload_n 0, 1), (9, .dup, 1), (10, .getfield 27, 3), (13, .iconst 1, 1), (14, .isub, 1), (15, .putfield 27, 3), (18, .aload_n 0, 1), (19, .aload_n 0, 1), (20, .getfield 23, 3), (23, .ifCond .le 21, 3), (26, .aload_n 0, 1), (27, .getfield 23, 3), (30, .bipush 30, 2), (32, .if_icmp .ge 12, 3), (35, .aload_n 0, 1), (36, .getfield 23, 3), (39, .iconst 1, 1), (40, .isub, 1), (41, .goto 5, 3), (44, .bipush 29, 2), (46, .putfield 23, 3), (49, .aload_n 1, 1), (50, .invokevirtual 42, 3), (53, .iconst 0, 1), (54, .istore_n 2, 1), (55, .iload_n 2, 1), (56, .aload_n 0, 1), (57, .getfield 16, 3), (60, .aload_n 0, 1), (61, .getfield 23, 3), (64, .iaload, 1), (65, .if_icmp .ge 30, 3), (68, .iload_n 2, 1), (69, .bipush 80, 2), (71, .if_icmp .ge 24, 3), (74, .aload_n 1, 1), (75, .aload_n 0, 1), (76, .getfield 11, 3), (79, .aload_n 0, 1), (80, .getfield 23, 3), (83, .aaload, 1), (84, .iload_n 2, 1), (85, .iaload, 1), (86, .invokevirtual 45, 3), (89, .iinc 2 1, 3), (92, .goto (-37), 3), (95, .aload_n 1, 1), (96, .aload_n 0, 1), (97, .getfield 20, 3), (100, .aload_n 0, 1), (101, .getfield 23, 3), (104, .iaload, 1), (105, .putfield 39, 3), (108, .return_, 1)]

def zc4 : List (Nat × Instr × Nat) := [(0, .aload_n 0, 1), (1, .invokespecial 3, 3), (4, .aload_n 0, 1), (5, .iconst 0, 1), (6, .putfield 9, 3), (9, .aload_n 0, 1), (10, .iload_n 1, 1), (11, .ifCond .ge 7, 3), (14, .iconst 0, 1), (15, .goto 4, 3), (18, .iload_n 1, 1), (19, .newarray .int, 2), (21, .putfield 15, 3), (24, .return_, 1)]

def zc5 : List (Nat × Instr × Nat) := [(0, .aload_n 0, 1), (1, .iconst 0, 1), (2, .putfield 9, 3), (5, .return_, 1)]

def zc6 : List (Nat × Instr × Nat) := [(0, .aload_n 0, 1), (1, .getfield 9, 3), (4, .aload_n 0, 1), (5, .getfield 15, 3), (8, .arraylength, 1), (9, .if_icmp .lt 7, 3), (12, .iconst 1, 1), (13, .goto 4, 3), (16, .iconst 0, 1), (17, .ireturn, 1)]

def zc7 : List (Nat × Instr × Nat) := [(0, .aload_n 0, 1), (1, .getfield 9, 3), (4, .aload_n 0, 1), (5, .getfield 15, 3), (8, .arraylength, 1), (9, .if_icmp .ge 23, 3), (12, .aload_n 0, 1), (13, .getfield 15, 3), (16, .aload_n 0, 1), (17, .getfield 9, 3), (20, .iload_n 1, 1), (21, .iastore, 1), (22, .aload_n 0, 1), (23, .dup, 1), (24, .getfield 9, 3), (27, .iconst 1, 1), (28, .iadd, 1), (29, .putfield 9, 3), (32, .return_, 1)]

def zc8 : List (Nat × Instr × Nat) := [(0, .iload_n 1, 1), (1, .ifCond .lt 15, 3), (4, .iload_n 1, 1), (5, .aload_n 0, 1), (6, .getfield 9, 3), (9, .if_icmp .ge 7, 3), (12, .iconst 1, 1), (13, .goto 4, 3), (16, .iconst 0, 1), (17, .ireturn, 1)]

def zc9 : List (Nat × Instr × Nat) := [(0, .aload_n 0, 1), (1, .iload_n 1, 1), (2, .invokevirtual 19, 3), (5, .ifCond .eq 12, 3), (8, .aload_n 0, 1), (9, .getfield 15, 3), (12, .iload_n 1, 1), (13, .iaload, 1), (14, .goto 5, 3), (17, .bipush (-2), 2), (19, .ireturn, 1)]

def zc10 : List (Nat × Instr × Nat) := [(0, .iconst 0, 1), (1, .istore_n 2, 1), (2, .iload_n 2, 1), (3, .aload_n 0, 1), (4, .getfield 9, 3), (7, .if_icmp .ge 21, 3), (10, .aload_n 0, 1), (11, .getfield 15, 3), (14, .iload_n 2, 1), (15, .iaload, 1), (16, .iload_n 1, 1), (17, .if_icmp .ne 5, 3), (20, .iconst 1, 1), (21, .ireturn, 1), (22, .iinc 2 1, 3), (25, .goto (-23), 3), (28, .iconst 0, 1), (29, .ireturn, 1)]

def zc11 : List (Nat × Instr × Nat) := [(0, .aload_n 0, 1), (1, .invokespecial 3, 3), (4, .aload_n 0, 1), (5, .bipush 26, 2), (7, .newarray .int, 2), (9, .putfield 9, 3), (12, .aload_n 0, 1), (13, .iconst 0, 1), (14, .putfield 15, 3), (17, .aload_n 0, 1), (18, .iconst 0, 1), (19, .putfield 19, 3), (22, .iload_n 1, 1), (23, .ifCond .ge 7, 3), (26, .iconst 0, 1), (27, .goto 4, 3), (30, .iload_n 1, 1), (31, .istore_n 2, 1), (32, .aload_n 0, 1), (33, .iload_n 2, 1), (34, .newarray .int, 2), (36, .putfield 22, 3), (39, .aload_n 0, 1), (40, .iload_n 2, 1), (41, .newarray .int, 2), (43, .putfield 25, 3), (46, .return_, 1)]

def zc12 : List (Nat × Instr × Nat) := [(0, .aload_n 0, 1), (1, .getfield 9, 3), (4, .bipush (-2), 2), (6, .invokestatic 28, 3), (9, .aload_n 0, 1), (10, .iconst 0, 1), (11, .putfield 15, 3), (14, .aload_n 0, 1), (15, .iconst 0, 1), (16, .putfield 19, 3), (19, .return_, 1)]

def zc13 : List (Nat × Instr × Nat) := [(0, .iload_n 1, 1), (1, .invokestatic 34, 3), (4, .ifCond .eq 16, 3), (7, .aload_n 0, 1), (8, .getfield 9, 3), (11, .iload_n 1, 1), (12, .bipush 97, 2), (14, .isub, 1), (15, .aload_n 0, 1), (16, .getfield 19, 3), (19, .iastore, 1), (20, .aload_n 0, 1), (21, .iload_n 1, 1), (22, .bipush (-2), 2), (24, .invokevirtual 38, 3), (27, .aload_n 0, 1), (28, .aload_n 0, 1), (29, .getfield 19, 3), (32, .putfield 15, 3), (35, .return_, 1)]

def zc14 : List (Nat × Instr × Nat) := [(0, .aload_n 0, 1), (1, .getfield 19, 3), (4, .aload_n 0, 1), (5, .getfield 22, 3), (8, .arraylength, 1), (9, .if_icmp .ge 45, 3), (12, .aload_n 0, 1), (13, .getfield 19, 3), (16, .aload_n 0, 1), (17, .getfield 25, 3), (20, .arraylength, 1), (21, .if_icmp .ge 33, 3), (24, .aload_n 0, 1), (25, .getfield 22, 3), (28, .aload_n 0, 1), (29, .getfield 19, 3), (32, .iload_n 1, 1), (33, .iastore, 1), (34, .aload_n 0, 1), (35, .getfield 25, 3), (38, .aload_n 0, 1), (39, .getfield 19, 3), (42, .iload_n 2, 1), (43, .iastore, 1), (44, .aload_n 0, 1), (45, .dup, 1), (46, .getfield 19, 3), (49, .iconst 1, 1), (50, .iadd, 1), (51, .putfield 19, 3), (54, .return_, 1)]

def zc15 : List (Nat × Instr × Nat) := [(0, .iload_n 1, 1), (1, .ifCond .lt 15, 3), (4, .iload_n 1, 1), (5, .aload_n 0, 1), (6, .getfield 19, 3), (9, .if_icmp .ge 7, 3), (12, .iconst 1, 1), (13, .goto 4, 3), (16, .iconst 0, 1), (17, .ireturn, 1)]

def zc16 : List (Nat × Instr × Nat) := [(0, .iload_n 1, 1), (1, .bipush 97, 2), (3, .isub, 1), (4, .istore_n 2, 1), (5, .iload_n 2, 1), (6, .ifCond .lt 18, 3), (9, .iload_n 2, 1), (10, .bipush 26, 2), (12, .if_icmp .ge 12, 3), (15, .aload_n 0, 1), (16, .getfield 9, 3), (19, .iload_n 2, 1), (20, .iaload, 1), (21, .goto 5, 3), (24, .bipush (-2), 2), (26, .ireturn, 1)]

def zc17 : List (Nat × Instr × Nat) := [(0, .iload_n 1, 1), (1, .ifCond .lt 11, 3), (4, .iload_n 1, 1), (5, .aload_n 0, 1), (6, .getfield 15, 3), (9, .if_icmp .lt 6, 3), (12, .bipush (-2), 2), (14, .ireturn, 1), (15, .aload_n 0, 1), (16, .getfield 15, 3), (19, .istore_n 3, 1), (20, .iload_n 3, 1), (21, .aload_n 0, 1), (22, .getfield 19, 3), (25, .if_icmp .ge 36, 3), (28, .aload_n 0, 1), (29, .getfield 22, 3), (32, .iload_n 3, 1), (33, .iaload, 1), (34, .aload_n 0, 1), (35, .getfield 22, 3), (38, .iload_n 1, 1), (39, .iaload, 1), (40, .if_icmp .ne 15, 3), (43, .aload_n 0, 1), (44, .getfield 25, 3), (47, .iload_n 3, 1), (48, .iaload, 1), (49, .iload_n 2, 1), (50, .if_icmp .ne 5, 3), (53, .iload_n 3, 1), (54, .ireturn, 1), (55, .iinc 3 1, 3), (58, .goto (-38), 3), (61, .bipush (-2), 2), (63, .ireturn, 1)]

def zc18 : List (Nat × Instr × Nat) := [(0, .iload_n 1, 1), (1, .aload_n 0, 1), (2, .getfield 15, 3), (5, .if_icmp .lt 24, 3), (8, .iload_n 1, 1), (9, .aload_n 0, 1), (10, .getfield 19, 3), (13, .if_icmp .ge 16, 3), (16, .aload_n 0, 1), (17, .aload_n 0, 1), (18, .getfield 22, 3), (21, .iload_n 1, 1), (22, .iaload, 1), (23, .invokevirtual 42, 3), (26, .goto 4, 3), (29, .iconst 0, 1), (30, .ireturn, 1)]

def zc19 : List (Nat × Instr × Nat) := [(0, .aload_n 0, 1), (1, .iload_n 1, 1), (2, .invokevirtual 46, 3), (5, .ifCond .eq 12, 3), (8, .aload_n 0, 1), (9, .getfield 22, 3), (12, .iload_n 1, 1), (13, .iaload, 1), (14, .goto 5, 3), (17, .bipush (-2), 2), (19, .ireturn, 1)]

def zc20 : List (Nat × Instr × Nat) := [(0, .aload_n 0, 1), (1, .iload_n 1, 1), (2, .invokevirtual 46, 3), (5, .ifCond .eq 12, 3), (8, .aload_n 0, 1), (9, .getfield 25, 3), (12, .iload_n 1, 1), (13, .iaload, 1), (14, .goto 5, 3), (17, .bipush (-2), 2), (19, .ireturn, 1)]

def zc21 : List (Nat × Instr × Nat) := [(0, .iload_n 1, 1), (1, .ifCond .lt 11, 3), (4, .iload_n 1, 1), (5, .aload_n 0, 1), (6, .getfield 19, 3), (9, .if_icmp .lt 6, 3), (12, .bipush (-2), 2), (14, .ireturn, 1), (15, .iload_n 1, 1), (16, .aload_n 0, 1), (17, .getfield 15, 3), (20, .if_icmp .ge 12, 3), (23, .aload_n 0, 1), (24, .getfield 22, 3), (27, .iload_n 1, 1), (28, .iaload, 1), (29, .goto 9, 3), (32, .aload_n 0, 1), (33, .getfield 25, 3), (36, .iload_n 1, 1), (37, .iaload, 1), (38, .ireturn, 1)]

def zc22 : List (Nat × Instr × Nat) := [(0, .aload_n 0, 1), (1, .invokespecial 3, 3), (4, .aload_n 0, 1), (5, .bipush 80, 2), (7, .newarray .int, 2), (9, .putfield 9, 3), (12, .aload_n 0, 1), (13, .bipush 80, 2), (15, .newarray .int, 2), (17, .putfield 15, 3), (20, .aload_n 0, 1), (21, .bipush 80, 2), (23, .newarray .int, 2), (25, .putfield 18, 3), (28, .aload_n 0, 1), (29, .bipush 80, 2), (31, .newarray .int, 2), (33, .putfield 21, 3), (36, .aload_n 0, 1), (37, .bipush 80, 2), (39, .newarray .int, 2), (41, .putfield 24, 3), (44, .aload_n 0, 1), (45, .bipush 80, 2), (47, .newarray .int, 2), (49, .putfield 27, 3), (52, .aload_n 0, 1), (53, .bipush 80, 2), (55, .newarray .int, 2), (57, .putfield 30, 3), (60, .aload_n 0, 1), (61, .bipush 80, 2), (63, .newarray .int, 2), (65, .putfield 33, 3), (68, .aload_n 0, 1), (69, .bipush 80, 2), (71, .newarray .int, 2), (73, .putfield 36, 3), (76, .aload_n 0, 1), (77, .iconst 0, 1), (78, .putfield 39, 3), (81, .aload_n 0, 1), (82, .iconst 0, 1), (83, .putfield 43, 3), (86, .aload_n 0, 1), (87, .iconst 0, 1), (88, .putfield 46, 3), (91, .aload_n 0, 1), (92, .iconst 0, 1), (93, .putfield 49, 3), (96, .return_, 1)]

def zc23 : List (Nat × Instr × Nat) := [(0, .aload_n 0, 1), (1, .iconst 0, 1), (2, .putfield 39, 3), (5, .aload_n 0, 1), (6, .iconst 0, 1), (7, .putfield 43, 3), (10, .aload_n 0, 1), (11, .iconst 0, 1), (12, .putfield 46, 3), (15, .aload_n 0, 1), (16, .iconst 0, 1), (17, .putfield 49, 3), (20, .return_, 1)]

def zc24 : List (Nat × Instr × Nat) := [(0, .aload_n 0, 1), (1, .invokevirtual 53, 3), (4, .aload_n 0, 1), (5, .iload_n 1, 1), (6, .iload_n 2, 1), (7, .bipush (-2), 2), (9, .iconst 0, 1), (10, .invokevirtual 56, 3), (13, .aload_n 0, 1), (14, .getfield 18, 3), (17, .iconst 0, 1), (18, .iload_n 3, 1), (19, .iastore, 1), (20, .aload_n 0, 1), (21, .iconst 1, 1), (22, .putfield 43, 3), (25, .return_, 1)]

def zc25 : List (Nat × Instr × Nat) := [(0, .aload_n 0, 1), (1, .getfield 43, 3), (4, .bipush 80, 2), (6, .if_icmp .ge 12, 3), (9, .aload_n 0, 1), (10, .getfield 39, 3), (13, .bipush 80, 2), (15, .if_icmp .lt 4, 3), (18, .return_, 1), (19, .aload_n 0, 1), (20, .getfield 30, 3), (23, .aload_n 0, 1), (24, .getfield 43, 3), (27, .bipush (-2), 2), (29, .iastore, 1), (30, .aload_n 0, 1), (31, .getfield 33, 3), (34, .aload_n 0, 1), (35, .getfield 43, 3), (38, .bipush (-2), 2), (40, .iastore, 1), (41, .aload_n 0, 1), (42, .getfield 36, 3), (45, .aload_n 0, 1), (46, .getfield 43, 3), (49, .iconst 0, 1), (50, .iastore, 1), (51, .aload_n 1, 1), (52, .iload_n 2, 1), (53, .invokevirtual 60, 3), (56, .lookupswitch 66 #[(-1, 36), (3, 57), (4, 44)], 36), (92, .aload_n 0, 1), (93, .iconst 0, 1), (94, .putfield 49, 3), (97, .goto 31, 3), (100, .aload_n 0, 1), (101, .bipush (-2), 2), (103, .bipush (-2), 2), (105, .iload_n 2, 1), (106, .iconst 3, 1), (107, .invokevirtual 56, 3), (110, .goto 18, 3), (113, .aload_n 0, 1), (114, .aload_n 1, 1), (115, .iload_n 2, 1), (116, .invokevirtual 66, 3), (119, .goto 9, 3), (122, .aload_n 0, 1), (123, .aload_n 1, 1), (124, .iload_n 2, 1), (125, .invokevirtual 70, 3), (128, .aload_n 0, 1), (129, .dup, 1), (130, .getfield 43, 3), (133, .iconst 1, 1), (134, .iadd, 1), (135, .putfield 43, 3), (138, .return_, 1)]

def zc26 : List (Nat × Instr × Nat) := [(0, .aload_n 0, 1), (1, .getfield 39, 3), (4, .iconst 1, 1), (5, .isub, 1), (6, .istore_n 3, 1), (7, .aload_n 0, 1), (8, .getfield 49, 3), (11, .ifCond .eq 11, 3), (14, .aload_n 0, 1), (15, .iload_n 3, 1), (16, .invokevirtual 73, 3), (19, .goto 4, 3), (22, .iconst (-1), 1), (23, .istore 4, 2), (25, .iload 4, 2), (27, .iconst 1, 1), (28, .if_icmp .ne 40, 3), (31, .aload_n 1, 1), (32, .getfield 76, 3), (35, .aload_n 0, 1), (36, .getfield 9, 3), (39, .iload_n 3, 1), (40, .iaload, 1), (41, .iload_n 2, 1), (42, .invokevirtual 80, 3), (45, .istore 5, 2), (47, .iload 5, 2), (49, .bipush (-2), 2), (51, .if_icmp .eq 17, 3), (54, .aload_n 0, 1), (55, .getfield 9, 3), (58, .iload_n 3, 1), (59, .iload 5, 2), (61, .iastore, 1), (62, .aload_n 0, 1), (63, .iconst 0, 1), (64, .invokevirtual 86, 3), (67, .return_, 1), (68, .iload 4, 2), (70, .ifCond .ne 60, 3), (73, .aload_n 0, 1), (74, .getfield 18, 3), (77, .iload_n 3, 1), (78, .iaload, 1), (79, .ifCond .ne 14, 3), (82, .aload_n 1, 1), (83, .getfield 90, 3), (86, .iload_n 2, 1), (87, .invokevirtual 93, 3), (90, .goto 17, 3), (93, .aload_n 1, 1), (94, .getfield 90, 3), (97, .aload_n 0, 1), (98, .getfield 18, 3), (101, .iload_n 3, 1), (102, .iaload, 1), (103, .iload_n 2, 1), (104, .invokevirtual 80, 3), (107, .istore 5, 2), (109, .iload 5, 2), (111, .bipush (-2), 2), (113, .if_icmp .eq 17, 3), (116, .aload_n 0, 1), (117, .getfield 18, 3), (120, .iload_n 3, 1), (121, .iload 5, 2), (123, .iastore, 1), (124, .aload_n 0, 1), (125, .iconst 2, 1), (126, .invokevirtual 86, 3), (129, .return_, 1), (130, .aload_n 1, 1), (131, .getfield 76, 3), (134, .iload_n 2, 1), (135, .invokevirtual 93, 3), (138, .istore 5, 2), (140, .iload 5, 2), (142, .bipush (-2), 2), (144, .if_icmp .ne 16, 3), (147, .aload_n 0, 1), (148, .bipush (-2), 2), (150, .bipush (-2), 2), (152, .iload_n 2, 1), (153, .iconst 3, 1), (154, .invokevirtual 56, 3), (157, .goto 14, 3), (160, .aload_n 0, 1), (161, .iload 5, 2), (163, .bipush (-2), 2), (165, .bipush (-2), 2), (167, .iconst 0, 1), (168, .invokevirtual 56, 3), (171, .return_, 1)]

def zc27 : List (Nat × Instr × Nat) := [(0, .aload_n 0, 1), (1, .getfield 39, 3), (4, .iconst 1, 1), (5, .isub, 1), (6, .istore_n 3, 1), (7, .aload_n 0, 1), (8, .getfield 49, 3), (11, .ifCond .eq 11, 3), (14, .aload_n 0, 1), (15, .iload_n 3, 1), (16, .invokevirtual 73, 3), (19, .goto 4, 3), (22, .iconst (-1), 1), (23, .istore 4, 2), (25, .aload_n 1, 1), (26, .getfield 96, 3), (29, .iload_n 2, 1), (30, .invokevirtual 93, 3), (33, .istore 5, 2), (35, .iload 4, 2), (37, .iconst 1, 1), (38, .if_icmp .ne 24, 3), (41, .aload_n 0, 1), (42, .getfield 15, 3), (45, .iload_n 3, 1), (46, .iload 5, 2), (48, .iastore, 1), (49, .aload_n 0, 1), (50, .getfield 18, 3), (53, .iload_n 3, 1), (54, .iconst 0, 1), (55, .iastore, 1), (56, .aload_n 0, 1), (57, .iconst 1, 1), (58, .invokevirtual 86, 3), (61, .return_, 1), (62, .iload 4, 2), (64, .ifCond .ne 79, 3), (67, .aload_n 0, 1), (68, .getfield 18, 3), (71, .iload_n 3, 1), (72, .iaload, 1), (73, .ifCond .le 70, 3), (76, .aload_n 1, 1), (77, .getfield 76, 3), (80, .aload_n 1, 1), (81, .getfield 90, 3), (84, .aload_n 0, 1), (85, .getfield 18, 3), (88, .iload_n 3, 1), (89, .iaload, 1), (90, .invokevirtual 99, 3), (93, .invokevirtual 93, 3), (96, .istore 6, 2), (98, .iload 6, 2), (100, .bipush (-2), 2), (102, .if_icmp .eq 38, 3), (105, .aload_n 0, 1), (106, .getfield 18, 3), (109, .iload_n 3, 1), (110, .aload_n 1, 1), (111, .getfield 90, 3), (114, .aload_n 0, 1), (115, .getfield 18, 3), (118, .iload_n 3, 1), (119, .iaload, 1), (120, .invokevirtual 102, 3), (123, .iastore, 1), (124, .aload_n 0, 1), (125, .iload 6, 2), (127, .iload 5, 2), (129, .bipush (-2), 2), (131, .iconst 1, 1), (132, .invokevirtual 56, 3), (135, .aload_n 0, 1), (136, .invokevirtual 105, 3), (139, .return_, 1), (140, .goto 46, 3), (143, .iload 4, 2), (145, .iconst (-1), 1), (146, .if_icmp .eq 40, 3), (149, .aload_n 1, 1), (150, .getfield 96, 3), (153, .aload_n 0, 1), (154, .getfield 15, 3), (157, .iload_n 3, 1), (158, .iaload, 1), (159, .iload_n 2, 1), (160, .invokevirtual 80, 3), (163, .istore 6, 2), (165, .iload 6, 2), (167, .bipush (-2), 2), (169, .if_icmp .eq 17, 3), (172, .aload_n 0, 1), (173, .getfield 15, 3), (176, .iload_n 3, 1), (177, .iload 6, 2), (179, .iastore, 1), (180, .aload_n 0, 1), (181, .iconst 1, 1), (182, .invokevirtual 86, 3), (185, .return_, 1), (186, .aload_n 0, 1), (187, .bipush (-2), 2), (189, .iload 5, 2), (191, .bipush (-2), 2), (193, .iconst 1, 1), (194, .invokevirtual 56, 3), (197, .return_, 1)]

def zc28 : List (Nat × Instr × Nat) := [(0, .aload_n 0, 1), (1, .getfield 39, 3), (4, .bipush 80, 2), (6, .if_icmp .ge 12, 3), (9, .aload_n 0, 1), (10, .getfield 43, 3), (13, .bipush 80, 2), (15, .if_icmp .lt 4, 3), (18, .return_, 1), (19, .aload_n 0, 1), (20, .getfield 9, 3), (23, .aload_n 0, 1), (24, .getfield 39, 3), (27, .iload_n 1, 1), (28, .iastore, 1), (29, .aload_n 0, 1), (30, .getfield 15, 3), (33, .aload_n 0, 1), (34, .getfield 39, 3), (37, .iload_n 2, 1), (38, .iastore, 1), (39, .aload_n 0, 1), (40, .getfield 18, 3), (43, .aload_n 0, 1), (44, .getfield 39, 3), (47, .iload_n 1, 1), (48, .bipush (-2), 2), (50, .if_icmp .eq 9, 3), (53, .iload_n 2, 1), (54, .bipush (-2), 2), (56, .if_icmp .ne 8, 3), (59, .bipush (-2), 2), (61, .goto 4, 3), (64, .iconst 0, 1), (65, .iastore, 1), (66, .aload_n 0, 1), (67, .getfield 21, 3), (70, .aload_n 0, 1), (71, .getfield 39, 3), (74, .iload_n 3, 1), (75, .iastore, 1), (76, .aload_n 0, 1), (77, .getfield 24, 3), (80, .aload_n 0, 1), (81, .getfield 39, 3), (84, .aload_n 0, 1), (85, .getfield 43, 3), (88, .iastore, 1), (89, .aload_n 0, 1), (90, .getfield 27, 3), (93, .aload_n 0, 1), (94, .getfield 39, 3), (97, .iconst 1, 1), (98, .iastore, 1), (99, .aload_n 0, 1), (100, .getfield 30, 3), (103, .aload_n 0, 1), (104, .getfield 43, 3), (107, .aload_n 0, 1), (108, .getfield 39, 3), (111, .iastore, 1), (112, .aload_n 0, 1), (113, .getfield 33, 3), (116, .aload_n 0, 1), (117, .getfield 43, 3), (120, .iload 4, 2), (122, .iastore, 1), (123, .aload_n 0, 1), (124, .dup, 1), (125, .getfield 39, 3), (128, .iconst 1, 1), (129, .iadd, 1), (130, .putfield 39, 3), (133, .aload_n 0, 1), (134, .iload_n 3, 1), (135, .bipush (-2), 2), (137, .if_icmp .ne 7, 3), (140, .iconst 1, 1), (141, .goto 4, 3), (144, .iconst 0, 1), (145, .putfield 49, 3), (148, .return_, 1)]

def zc29 : List (Nat × Instr × Nat) := [(0, .aload_n 0, 1), (1, .getfield 39, 3), (4, .ifCond .le 52, 3), (7, .aload_n 0, 1), (8, .getfield 43, 3), (11, .bipush 80, 2), (13, .if_icmp .ge 43, 3), (16, .aload_n 0, 1), (17, .getfield 30, 3), (20, .aload_n 0, 1), (21, .getfield 43, 3), (24, .aload_n 0, 1), (25, .getfield 39, 3), (28, .iconst 1, 1), (29, .isub, 1), (30, .iastore, 1), (31, .aload_n 0, 1), (32, .getfield 33, 3), (35, .aload_n 0, 1), (36, .getfield 43, 3), (39, .iload_n 1, 1), (40, .iastore, 1), (41, .aload_n 0, 1), (42, .getfield 27, 3), (45, .aload_n 0, 1), (46, .getfield 39, 3), (49, .iconst 1, 1), (50, .isub, 1), (51, .dup2, 1), (52, .iaload, 1), (53, .iconst 1, 1), (54, .iadd, 1), (55, .iastore, 1), (56, .return_, 1)]

def zc30 : List (Nat × Instr × Nat) := [(0, .aload_n 0, 1), (1, .getfield 39, 3), (4, .iconst 1, 1), (5, .isub, 1), (6, .istore_n 1, 1), (7, .aload_n 0, 1), (8, .getfield 43, 3), (11, .iconst 1, 1), (12, .isub, 1), (13, .istore_n 2, 1), (14, .iload_n 1, 1), (15, .iconst 1, 1), (16, .if_icmp .lt 7, 3), (19, .iload_n 2, 1), (20, .ifCond .ge 4, 3), (23, .return_, 1), (24, .aload_n 0, 1), (25, .getfield 27, 3), (28, .iload_n 1, 1), (29, .iconst 1, 1), (30, .isub, 1), (31, .dup2, 1), (32, .iaload, 1), (33, .iconst 1, 1), (34, .isub, 1), (35, .iastore, 1), (36, .aload_n 0, 1), (37, .getfield 27, 3), (40, .iload_n 1, 1), (41, .dup2, 1), (42, .iaload, 1), (43, .iconst 1, 1), (44, .iadd, 1), (45, .iastore, 1), (46, .aload_n 0, 1), (47, .getfield 24, 3), (50, .iload_n 1, 1), (51, .iload_n 2, 1), (52, .iastore, 1), (53, .aload_n 0, 1), (54, .getfield 30, 3), (57, .iload_n 2, 1), (58, .iload_n 1, 1), (59, .iastore, 1), (60, .aload_n 0, 1), (61, .getfield 33, 3), (64, .iload_n 2, 1), (65, .iconst 0, 1), (66, .iastore, 1), (67, .aload_n 0, 1), (68, .getfield 36, 3), (71, .iload_n 2, 1), (72, .iconst 1, 1), (73, .iastore, 1), (74, .aload_n 0, 1), (75, .dup, 1), (76, .getfield 46, 3), (79, .iconst 1, 1), (80, .iadd, 1), (81, .putfield 46, 3), (84, .return_, 1)]

def zc31 : List (Nat × Instr × Nat) := [(0, .iload_n 1, 1), (1, .ifCond .lt 15, 3), (4, .iload_n 1, 1), (5, .aload_n 0, 1), (6, .getfield 39, 3), (9, .if_icmp .ge 7, 3), (12, .iconst 1, 1), (13, .goto 4, 3), (16, .iconst 0, 1), (17, .ireturn, 1)]

def zc32 : List (Nat × Instr × Nat) := [(0, .iload_n 1, 1), (1, .ifCond .lt 11, 3), (4, .iload_n 1, 1), (5, .aload_n 0, 1), (6, .getfield 39, 3), (9, .if_icmp .lt 5, 3), (12, .iconst (-1), 1), (13, .ireturn, 1), (14, .aload_n 0, 1), (15, .getfield 21, 3), (18, .iload_n 1, 1), (19, .iaload, 1), (20, .bipush (-2), 2), (22, .if_icmp .eq 5, 3), (25, .iconst 3, 1), (26, .ireturn, 1), (27, .aload_n 0, 1), (28, .getfield 9, 3), (31, .iload_n 1, 1), (32, .iaload, 1), (33, .bipush (-2), 2), (35, .if_icmp .ne 5, 3), (38, .iconst 2, 1), (39, .ireturn, 1), (40, .aload_n 0, 1), (41, .getfield 15, 3), (44, .iload_n 1, 1), (45, .iaload, 1), (46, .bipush (-2), 2), (48, .if_icmp .ne 7, 3), (51, .iconst 1, 1), (52, .goto 4, 3), (55, .iconst 0, 1), (56, .ireturn, 1)]

def zc33 : List (Nat × Instr × Nat) := [(0, .aload_n 0, 1), (1, .iload_n 2, 1), (2, .invokevirtual 73, 3), (5, .ifCond .ne 28, 3), (8, .aload_n 1, 1), (9, .aload_n 0, 1), (10, .getfield 9, 3), (13, .iload_n 2, 1), (14, .iaload, 1), (15, .aload_n 0, 1), (16, .getfield 15, 3), (19, .iload_n 2, 1), (20, .iaload, 1), (21, .aload_n 0, 1), (22, .getfield 18, 3), (25, .iload_n 2, 1), (26, .iaload, 1), (27, .invokevirtual 108, 3), (30, .goto 5, 3), (33, .bipush (-2), 2), (35, .ireturn, 1)]

def zc34 : List (Nat × Instr × Nat) := [(0, .aload_n 0, 1), (1, .iload_n 1, 1), (2, .invokevirtual 112, 3), (5, .ifCond .eq 12, 3), (8, .aload_n 0, 1), (9, .getfield 24, 3), (12, .iload_n 1, 1), (13, .iaload, 1), (14, .goto 4, 3), (17, .iconst 0, 1), (18, .ireturn, 1)]

def zc35 : List (Nat × Instr × Nat) := [(0, .aload_n 0, 1), (1, .iload_n 1, 1), (2, .invokevirtual 112, 3), (5, .ifCond .eq 19, 3), (8, .aload_n 0, 1), (9, .getfield 24, 3), (12, .iload_n 1, 1), (13, .iaload, 1), (14, .aload_n 0, 1), (15, .getfield 27, 3), (18, .iload_n 1, 1), (19, .iaload, 1), (20, .iadd, 1), (21, .goto 4, 3), (24, .iconst 0, 1), (25, .ireturn, 1)]

def zc36 : List (Nat × Instr × Nat) := [(0, .iconst 0, 1), (1, .istore_n 1, 1), (2, .iconst 0, 1), (3, .istore_n 2, 1), (4, .iload_n 2, 1), (5, .aload_n 0, 1), (6, .getfield 39, 3), (9, .if_icmp .ge 20, 3), (12, .aload_n 0, 1), (13, .iload_n 2, 1), (14, .invokevirtual 73, 3), (17, .ifCond .ne 6, 3), (20, .iinc 1 1, 3), (23, .iinc 2 1, 3), (26, .goto (-22), 3), (29, .iload_n 1, 1), (30, .ireturn, 1)]

def zc37 : List (Nat × Instr × Nat) := [(0, .aload_n 0, 1), (1, .iload_n 2, 1), (2, .invokevirtual 112, 3), (5, .ifCond .ne 6, 3), (8, .bipush (-2), 2), (10, .ireturn, 1), (11, .iload_n 3, 1), (12, .tableswitch 81 0 5 #[40, 46, 53, 60, 67, 74], 40), (52, .aload_n 0, 1), (53, .iload_n 2, 1), (54, .invokevirtual 73, 3), (57, .ireturn, 1), (58, .aload_n 0, 1), (59, .getfield 9, 3), (62, .iload_n 2, 1), (63, .iaload, 1), (64, .ireturn, 1), (65, .aload_n 0, 1), (66, .getfield 15, 3), (69, .iload_n 2, 1), (70, .iaload, 1), (71, .ireturn, 1), (72, .aload_n 0, 1), (73, .getfield 18, 3), (76, .iload_n 2, 1), (77, .iaload, 1), (78, .ireturn, 1), (79, .aload_n 0, 1), (80, .aload_n 1, 1), (81, .iload_n 2, 1), (82, .invokevirtual 116, 3), (85, .ireturn, 1), (86, .aload_n 0, 1), (87, .getfield 24, 3), (90, .iload_n 2, 1), (91, .iaload, 1), (92, .ireturn, 1), (93, .aload_n 0, 1), (94, .getfield 27, 3), (97, .iload_n 2, 1), (98, .iaload, 1), (99, .ireturn, 1)]

def zc38 : List (Nat × Instr × Nat) := [(0, .iload_n 1, 1), (1, .ifCond .lt 11, 3), (4, .iload_n 1, 1), (5, .aload_n 0, 1), (6, .getfield 43, 3), (9, .if_icmp .lt 6, 3), (12, .bipush (-2), 2), (14, .ireturn, 1), (15, .iload_n 2, 1), (16, .lookupswitch 42 #[(0, 28), (1, 35)], 28), (44, .aload_n 0, 1), (45, .getfield 30, 3), (48, .iload_n 1, 1), (49, .iaload, 1), (50, .ireturn, 1), (51, .aload_n 0, 1), (52, .getfield 36, 3), (55, .iload_n 1, 1), (56, .iaload, 1), (57, .ireturn, 1), (58, .aload_n 0, 1), (59, .getfield 33, 3), (62, .iload_n 1, 1), (63, .iaload, 1), (64, .ireturn, 1)]

def zc39 : List (Nat × Instr × Nat) := [(0, .aload_n 0, 1), (1, .iload_n 1, 1), (2, .invokevirtual 112, 3), (5, .ifCond .eq 75, 3), (8, .aload_n 2, 1), (9, .iload_n 3, 1), (10, .invokevirtual 112, 3), (13, .ifCond .eq 67, 3), (16, .aload_n 0, 1), (17, .getfield 9, 3), (20, .iload_n 1, 1), (21, .iaload, 1), (22, .aload_n 2, 1), (23, .getfield 9, 3), (26, .iload_n 3, 1), (27, .iaload, 1), (28, .if_icmp .ne 52, 3), (31, .aload_n 0, 1), (32, .getfield 15, 3), (35, .iload_n 1, 1), (36, .iaload, 1), (37, .aload_n 2, 1), (38, .getfield 15, 3), (41, .iload_n 3, 1), (42, .iaload, 1), (43, .if_icmp .ne 37, 3), (46, .aload_n 0, 1), (47, .getfield 18, 3), (50, .iload_n 1, 1), (51, .iaload, 1), (52, .aload_n 2, 1), (53, .getfield 18, 3), (56, .iload_n 3, 1), (57, .iaload, 1), (58, .if_icmp .ne 22, 3), (61, .aload_n 0, 1), (62, .getfield 21, 3), (65, .iload_n 1, 1), (66, .iaload, 1), (67, .aload_n 2, 1), (68, .getfield 21, 3), (71, .iload_n 3, 1), (72, .iaload, 1), (73, .if_icmp .ne 7, 3), (76, .iconst 1, 1), (77, .goto 4, 3), (80, .iconst 0, 1), (81, .ireturn, 1)]

def zc40 : List (Nat × Instr × Nat) := [(0, .iconst 0, 1), (1, .istore_n 2, 1), (2, .iload_n 2, 1), (3, .aload_n 0, 1), (4, .getfield 39, 3), (7, .if_icmp .ge 27, 3), (10, .iload_n 2, 1), (11, .aload_n 1, 1), (12, .getfield 39, 3), (15, .if_icmp .ge 19, 3), (18, .aload_n 0, 1), (19, .iload_n 2, 1), (20, .aload_n 1, 1), (21, .iload_n 2, 1), (22, .invokevirtual 120, 3), (25, .ifCond .eq 9, 3), (28, .iinc 2 1, 3), (31, .goto (-29), 3), (34, .iload_n 2, 1), (35, .ireturn, 1)]

def zc41 : List (Nat × Instr × Nat) := [(0, .aload_n 0, 1), (1, .getfield 39, 3), (4, .aload_n 1, 1), (5, .getfield 39, 3), (8, .invokestatic 124, 3), (11, .iload_n 2, 1), (12, .isub, 1), (13, .istore_n 3, 1), (14, .iconst 0, 1), (15, .istore 4, 2), (17, .iload 4, 2), (19, .iload_n 3, 1), (20, .if_icmp .ge 35, 3), (23, .aload_n 0, 1), (24, .aload_n 0, 1), (25, .getfield 39, 3), (28, .iconst 1, 1), (29, .isub, 1), (30, .iload 4, 2), (32, .isub, 1), (33, .aload_n 1, 1), (34, .aload_n 1, 1), (35, .getfield 39, 3), (38, .iconst 1, 1), (39, .isub, 1), (40, .iload 4, 2), (42, .isub, 1), (43, .invokevirtual 120, 3), (46, .ifCond .eq 9, 3), (49, .iinc 4 1, 3), (52, .goto (-35), 3), (55, .iload 4, 2), (57, .ireturn, 1)]

def zc42 : List (Nat × Instr × Nat) := [(0, .aload_n 0, 1), (1, .invokespecial 3, 3), (4, .aload_n 0, 1), (5, .bipush 80, 2), (7, .newarray .int, 2), (9, .putfield 9, 3), (12, .aload_n 0, 1), (13, .iconst 0, 1), (14, .putfield 15, 3), (17, .aload_n 0, 1), (18, .iconst 0, 1), (19, .putfield 19, 3), (22, .aload_n 0, 1), (23, .iconst 0, 1), (24, .putfield 22, 3), (27, .return_, 1)]

def zc43 : List (Nat × Instr × Nat) := [(0, .aload_n 0, 1), (1, .iconst 0, 1), (2, .putfield 15, 3), (5, .aload_n 0, 1), (6, .iconst 0, 1), (7, .putfield 19, 3), (10, .aload_n 0, 1), (11, .iconst 0, 1), (12, .putfield 22, 3), (15, .return_, 1)]

def zc44 : List (Nat × Instr × Nat) := [(0, .iload_n 1, 1), (1, .ifCond .lt 15, 3), (4, .iload_n 1, 1), (5, .aload_n 0, 1), (6, .getfield 15, 3), (9, .if_icmp .ge 7, 3), (12, .iconst 1, 1), (13, .goto 4, 3), (16, .iconst 0, 1), (17, .ireturn, 1)]

def zc45 : List (Nat × Instr × Nat) := [(0, .aload_n 0, 1), (1, .iload_n 1, 1), (2, .invokevirtual 26, 3), (5, .ifCond .eq 12, 3), (8, .aload_n 0, 1), (9, .getfield 9, 3), (12, .iload_n 1, 1), (13, .iaload, 1), (14, .goto 4, 3), (17, .iconst (-1), 1), (18, .ireturn, 1)]

def zc46 : List (Nat × Instr × Nat) := [(0, .aload_n 0, 1), (1, .getfield 15, 3), (4, .bipush 80, 2), (6, .if_icmp .ge 26, 3), (9, .aload_n 0, 1), (10, .getfield 9, 3), (13, .aload_n 0, 1), (14, .getfield 15, 3), (17, .iload_n 1, 1), (18, .iastore, 1), (19, .aload_n 0, 1), (20, .dup, 1), (21, .getfield 15, 3), (24, .iconst 1, 1), (25, .iadd, 1), (26, .putfield 15, 3), (29, .goto 8, 3), (32, .aload_n 0, 1), (33, .iconst 1, 1), (34, .putfield 22, 3), (37, .return_, 1)]

def zc47 : List (Nat × Instr × Nat) := [(0, .iconst 0, 1), (1, .istore_n 3, 1), (2, .iload_n 3, 1), (3, .bipush 6, 2), (5, .if_icmp .ge 30, 3), (8, .aload_n 1, 1), (9, .iload_n 2, 1), (10, .iload_n 3, 1), (11, .invokevirtual 30, 3), (14, .istore 4, 2), (16, .iload 4, 2), (18, .bipush (-2), 2), (20, .if_icmp .eq 9, 3), (23, .aload_n 0, 1), (24, .iload 4, 2), (26, .invokevirtual 36, 3), (29, .iinc 3 1, 3), (32, .goto (-30), 3), (35, .return_, 1)]

def zc48 : List (Nat × Instr × Nat) := [(0, .aload_n 0, 1), (1, .getfield 15, 3), (4, .bipush 80, 2), (6, .if_icmp .ge 21, 3), (9, .aload_n 0, 1), (10, .getfield 19, 3), (13, .ifCond .lt 14, 3), (16, .aload_n 0, 1), (17, .getfield 19, 3), (20, .aload_n 0, 1), (21, .getfield 15, 3), (24, .if_icmp .le 4, 3), (27, .return_, 1), (28, .aload_n 0, 1), (29, .getfield 15, 3), (32, .istore_n 2, 1), (33, .iload_n 2, 1), (34, .aload_n 0, 1), (35, .getfield 19, 3), (38, .if_icmp .le 23, 3), (41, .aload_n 0, 1), (42, .getfield 9, 3), (45, .iload_n 2, 1), (46, .aload_n 0, 1), (47, .getfield 9, 3), (50, .iload_n 2, 1), (51, .iconst 1, 1), (52, .isub, 1), (53, .iaload, 1), (54, .iastore, 1), (55, .iinc 2 (-1), 3), (58, .goto (-25), 3), (61, .aload_n 0, 1), (62, .getfield 9, 3), (65, .aload_n 0, 1), (66, .getfield 19, 3), (69, .iload_n 1, 1), (70, .iastore, 1), (71, .aload_n 0, 1), (72, .dup, 1), (73, .getfield 15, 3), (76, .iconst 1, 1), (77, .iadd, 1), (78, .putfield 15, 3), (81, .aload_n 0, 1), (82, .dup, 1), (83, .getfield 19, 3), (86, .iconst 1, 1), (87, .iadd, 1), (88, .putfield 19, 3), (91, .return_, 1)]

def zc49 : List (Nat × Instr × Nat) := [(0, .aload_n 0, 1), (1, .aload_n 0, 1), (2, .getfield 19, 3), (5, .invokevirtual 26, 3), (8, .ifCond .ne 4, 3), (11, .return_, 1), (12, .aload_n 0, 1), (13, .dup, 1), (14, .getfield 15, 3), (17, .iconst 1, 1), (18, .isub, 1), (19, .putfield 15, 3), (22, .aload_n 0, 1), (23, .getfield 19, 3), (26, .istore_n 1, 1), (27, .iload_n 1, 1), (28, .aload_n 0, 1), (29, .getfield 15, 3), (32, .if_icmp .ge 23, 3), (35, .aload_n 0, 1), (36, .getfield 9, 3), (39, .iload_n 1, 1), (40, .aload_n 0, 1), (41, .getfield 9, 3), (44, .iload_n 1, 1), (45, .iconst 1, 1), (46, .iadd, 1), (47, .iaload, 1), (48, .iastore, 1), (49, .iinc 1 1, 3), (52, .goto (-25), 3), (55, .return_, 1)]

def zc50 : List (Nat × Instr × Nat) := [(0, .iconst 0, 1), (1, .istore_n 1, 1), (2, .iconst 0, 1), (3, .istore_n 2, 1), (4, .iload_n 2, 1), (5, .aload_n 0, 1), (6, .getfield 15, 3), (9, .if_icmp .ge 23, 3), (12, .aload_n 0, 1), (13, .getfield 9, 3), (16, .iload_n 2, 1), (17, .iaload, 1), (18, .bipush 124, 2), (20, .if_icmp .ne 6, 3), (23, .iinc 1 1, 3), (26, .iinc 2 1, 3), (29, .goto (-25), 3), (32, .iload_n 1, 1), (33, .ireturn, 1)]

def zc51 : List (Nat × Instr × Nat) := [(0, .iconst 0, 1), (1, .istore_n 1, 1), (2, .iconst 0, 1), (3, .istore_n 2, 1), (4, .iload_n 2, 1), (5, .aload_n 0, 1), (6, .getfield 19, 3), (9, .if_icmp .ge 31, 3), (12, .iload_n 2, 1), (13, .aload_n 0, 1), (14, .getfield 15, 3), (17, .if_icmp .ge 23, 3), (20, .aload_n 0, 1), (21, .getfield 9, 3), (24, .iload_n 2, 1), (25, .iaload, 1), (26, .bipush 124, 2), (28, .if_icmp .eq 6, 3), (31, .iinc 1 1, 3), (34, .iinc 2 1, 3), (37, .goto (-33), 3), (40, .iload_n 1, 1), (41, .ireturn, 1)]

def zc52 : List (Nat × Instr × Nat) := [(0, .iload_n 1, 1), (1, .istore_n 2, 1), (2, .iconst 0, 1), (3, .istore_n 3, 1), (4, .iload_n 2, 1), (5, .ifCond .le 31, 3), (8, .iload_n 3, 1), (9, .aload_n 0, 1), (10, .getfield 15, 3), (13, .if_icmp .ge 23, 3), (16, .aload_n 0, 1), (17, .getfield 9, 3), (20, .iload_n 3, 1), (21, .iaload, 1), (22, .bipush 124, 2), (24, .if_icmp .eq 6, 3), (27, .iinc 2 (-1), 3), (30, .iinc 3 1, 3), (33, .goto (-29), 3), (36, .iload_n 3, 1), (37, .ireturn, 1)]

def zc53 : List (Nat × Instr × Nat) := [(0, .aload_n 0, 1), (1, .invokevirtual 40, 3), (4, .iconst 0, 1), (5, .istore_n 2, 1), (6, .iload_n 2, 1), (7, .aload_n 1, 1), (8, .getfield 15, 3), (11, .if_icmp .ge 18, 3), (14, .aload_n 0, 1), (15, .aload_n 1, 1), (16, .iload_n 2, 1), (17, .invokevirtual 43, 3), (20, .invokevirtual 36, 3), (23, .iinc 2 1, 3), (26, .goto (-20), 3), (29, .return_, 1)]

def zc54 : List (Nat × Instr × Nat) := [(0, .aload_n 0, 1), (1, .invokespecial 3, 3), (4, .aload_n 0, 1), (5, .bipush 26, 2), (7, .newarray .int, 2), (9, .putfield 9, 3), (12, .aload_n 0, 1), (13, .new 15, 3), (16, .dup, 1), (17, .bipush 10, 2), (19, .invokespecial 17, 3), (22, .putfield 20, 3), (25, .aload_n 0, 1), (26, .new 15, 3), (29, .dup, 1), (30, .bipush 8, 2), (32, .invokespecial 17, 3), (35, .putfield 24, 3), (38, .aload_n 0, 1), (39, .new 15, 3), (42, .dup, 1), (43, .iconst 4, 1), (44, .invokespecial 17, 3), (47, .putfield 27, 3), (50, .aload_n 0, 1), (51, .new 15, 3), (54, .dup, 1), (55, .iconst 4, 1), (56, .invokespecial 17, 3), (59, .putfield 30, 3), (62, .aload_n 0, 1), (63, .new 15, 3), (66, .dup, 1), (67, .bipush 8, 2), (69, .invokespecial 17, 3), (72, .putfield 33, 3), (75, .aload_n 0, 1), (76, .new 15, 3), (79, .dup, 1), (80, .bipush 8, 2), (82, .invokespecial 17, 3), (85, .putfield 36, 3), (88, .aload_n 0, 1), (89, .new 39, 3), (92, .dup, 1), (93, .bipush 14, 2), (95, .invokespecial 41, 3), (98, .putfield 42, 3), (101, .aload_n 0, 1), (102, .new 39, 3), (105, .dup, 1), (106, .bipush 16, 2), (108, .invokespecial 41, 3), (111, .putfield 46, 3), (114, .aload_n 0, 1), (115, .new 39, 3), (118, .dup, 1), (119, .bipush 19, 2), (121, .invokespecial 41, 3), (124, .putfield 49, 3), (127, .aload_n 0, 1), (128, .getfield 9, 3), (131, .iconst (-1), 1), (132, .invokestatic 52, 3), (135, .return_, 1)]

def zc55 : List (Nat × Instr × Nat) := [(0, .aload_n 0, 1), (1, .getfield 9, 3), (4, .iconst (-1), 1), (5, .invokestatic 52, 3), (8, .aload_n 0, 1), (9, .getfield 20, 3), (12, .invokevirtual 58, 3), (15, .aload_n 0, 1), (16, .getfield 24, 3), (19, .invokevirtual 58, 3), (22, .aload_n 0, 1), (23, .getfield 27, 3), (26, .invokevirtual 58, 3), (29, .aload_n 0, 1), (30, .getfield 30, 3), (33, .invokevirtual 58, 3), (36, .aload_n 0, 1), (37, .getfield 33, 3), (40, .invokevirtual 58, 3), (43, .aload_n 0, 1), (44, .getfield 36, 3), (47, .invokevirtual 58, 3), (50, .return_, 1)]

def zc56 : List (Nat × Instr × Nat) := [(0, .iload_n 1, 1), (1, .tableswitch 42 0 2 #[27, 32, 37], 27), (28, .aload_n 0, 1), (29, .getfield 20, 3), (32, .areturn, 1), (33, .aload_n 0, 1), (34, .getfield 24, 3), (37, .areturn, 1), (38, .aload_n 0, 1), (39, .getfield 27, 3), (42, .areturn, 1), (43, .aconst_null, 1), (44, .areturn, 1)]

def zc57 : List (Nat × Instr × Nat) := [(0, .iload_n 1, 1), (1, .tableswitch 51 3 6 #[31, 36, 41, 46], 31), (32, .aload_n 0, 1), (33, .getfield 24, 3), (36, .areturn, 1), (37, .aload_n 0, 1), (38, .getfield 27, 3), (41, .areturn, 1), (42, .aload_n 0, 1), (43, .getfield 30, 3), (46, .areturn, 1), (47, .aload_n 0, 1), (48, .getfield 33, 3), (51, .areturn, 1), (52, .aload_n 0, 1), (53, .getfield 20, 3), (56, .areturn, 1)]

def zc58 : List (Nat × Instr × Nat) := [(0, .iload_n 1, 1), (1, .invokestatic 61, 3), (4, .ifCond .eq 15, 3), (7, .aload_n 0, 1), (8, .getfield 9, 3), (11, .iload_n 1, 1), (12, .bipush 97, 2), (14, .isub, 1), (15, .iaload, 1), (16, .goto 4, 3), (19, .iconst (-1), 1), (20, .ireturn, 1)]

def zc59 : List (Nat × Instr × Nat) := [(0, .aload_n 0, 1), (1, .iload_n 1, 1), (2, .invokevirtual 65, 3), (5, .iconst (-1), 1), (6, .if_icmp .eq 7, 3), (9, .iconst 1, 1), (10, .goto 4, 3), (13, .iconst 0, 1), (14, .ireturn, 1)]

def zc60 : List (Nat × Instr × Nat) := [(0, .aload_n 0, 1), (1, .iload_n 1, 1), (2, .invokevirtual 65, 3), (5, .istore_n 2, 1), (6, .iload_n 2, 1), (7, .ifCond .eq 8, 3), (10, .iload_n 2, 1), (11, .iconst 1, 1), (12, .if_icmp .ne 7, 3), (15, .iconst 1, 1), (16, .goto 4, 3), (19, .iconst 0, 1), (20, .ireturn, 1)]

def zc61 : List (Nat × Instr × Nat) := [(0, .aload_n 0, 1), (1, .iload_n 1, 1), (2, .invokevirtual 65, 3), (5, .istore_n 2, 1), (6, .iload_n 2, 1), (7, .iconst 1, 1), (8, .if_icmp .eq 8, 3), (11, .iload_n 2, 1), (12, .iconst 2, 1), (13, .if_icmp .ne 7, 3), (16, .iconst 1, 1), (17, .goto 4, 3), (20, .iconst 0, 1), (21, .ireturn, 1)]

def zc62 : List (Nat × Instr × Nat) := [(0, .aload_n 0, 1), (1, .iload_n 1, 1), (2, .invokevirtual 65, 3), (5, .iconst 3, 1), (6, .if_icmp .ne 7, 3), (9, .iconst 1, 1), (10, .goto 4, 3), (13, .iconst 0, 1), (14, .ireturn, 1)]

def zc63 : List (Nat × Instr × Nat) := [(0, .iload_n 2, 1), (1, .invokestatic 61, 3), (4, .ifCond .eq 22, 3), (7, .aload_n 0, 1), (8, .getfield 9, 3), (11, .iload_n 2, 1), (12, .bipush 97, 2), (14, .isub, 1), (15, .iload_n 1, 1), (16, .iastore, 1), (17, .aload_n 0, 1), (18, .iload_n 1, 1), (19, .invokevirtual 69, 3), (22, .iload_n 2, 1), (23, .invokevirtual 73, 3), (26, .return_, 1)]

def zc64 : List (Nat × Instr × Nat) := [(0, .aload_n 0, 1), (1, .getfield 33, 3), (4, .iload_n 1, 1), (5, .invokevirtual 73, 3), (8, .aload_n 0, 1), (9, .getfield 36, 3), (12, .iload_n 2, 1), (13, .invokevirtual 73, 3), (16, .return_, 1)]

def zc65 : List (Nat × Instr × Nat) := [(0, .iconst 0, 1), (1, .istore_n 3, 1), (2, .iload_n 3, 1), (3, .aload_n 0, 1), (4, .getfield 33, 3), (7, .getfield 76, 3), (10, .if_icmp .ge 35, 3), (13, .aload_n 0, 1), (14, .getfield 33, 3), (17, .iload_n 3, 1), (18, .invokevirtual 80, 3), (21, .iload_n 1, 1), (22, .if_icmp .ne 17, 3), (25, .aload_n 0, 1), (26, .getfield 36, 3), (29, .iload_n 3, 1), (30, .invokevirtual 80, 3), (33, .iload_n 2, 1), (34, .if_icmp .ne 5, 3), (37, .iconst 1, 1), (38, .ireturn, 1), (39, .iinc 3 1, 3), (42, .goto (-40), 3), (45, .iconst 0, 1), (46, .ireturn, 1)]

def zc66 : List (Nat × Instr × Nat) := [(0, .iconst 0, 1), (1, .istore_n 1, 1), (2, .iload_n 1, 1), (3, .aload_n 0, 1), (4, .getfield 20, 3), (7, .getfield 76, 3), (10, .if_icmp .ge 40, 3), (13, .aload_n 0, 1), (14, .aload_n 0, 1), (15, .getfield 20, 3), (18, .iload_n 1, 1), (19, .invokevirtual 80, 3), (22, .invokevirtual 83, 3), (25, .ifCond .eq 19, 3), (28, .aload_n 0, 1), (29, .getfield 24, 3), (32, .getfield 76, 3), (35, .ifCond .ne 7, 3), (38, .iconst 1, 1), (39, .goto 4, 3), (42, .iconst 0, 1), (43, .ireturn, 1), (44, .iinc 1 1, 3), (47, .goto (-45), 3), (50, .iconst 1, 1), (51, .ireturn, 1)]

def zc67 : List (Nat × Instr × Nat) := [(0, .aload_n 0, 1), (1, .getfield 42, 3), (4, .invokevirtual 86, 3), (7, .aload_n 0, 1), (8, .getfield 46, 3), (11, .invokevirtual 86, 3), (14, .aload_n 0, 1), (15, .getfield 49, 3), (18, .invokevirtual 86, 3), (21, .aload_n 0, 1), (22, .getfield 49, 3), (25, .bipush (-2), 2), (27, .invokevirtual 87, 3), (30, .iconst 0, 1), (31, .istore_n 1, 1), (32, .iload_n 1, 1), (33, .aload_n 0, 1), (34, .getfield 20, 3), (37, .getfield 76, 3), (40, .if_icmp .ge 50, 3), (43, .aload_n 0, 1), (44, .getfield 20, 3), (47, .iload_n 1, 1), (48, .invokevirtual 80, 3), (51, .istore_n 2, 1), (52, .aload_n 0, 1), (53, .iload_n 2, 1), (54, .invokevirtual 83, 3), (57, .ifCond .eq 11, 3), (60, .aload_n 0, 1), (61, .getfield 42, 3), (64, .iload_n 2, 1), (65, .invokevirtual 87, 3), (68, .aload_n 0, 1), (69, .iload_n 2, 1), (70, .invokevirtual 90, 3), (73, .ifCond .eq 11, 3), (76, .aload_n 0, 1), (77, .getfield 49, 3), (80, .iload_n 2, 1), (81, .invokevirtual 87, 3), (84, .iinc 1 1, 3), (87, .goto (-55), 3), (90, .iconst 0, 1), (91, .istore_n 1, 1), (92, .iload_n 1, 1), (93, .aload_n 0, 1), (94, .getfield 24, 3), (97, .getfield 76, 3), (100, .if_icmp .ge 24, 3), (103, .aload_n 0, 1), (104, .getfield 46, 3), (107, .aload_n 0, 1), (108, .getfield 24, 3), (111, .iload_n 1, 1), (112, .invokevirtual 80, 3), (115, .invokevirtual 87, 3), (118, .iinc 1 1, 3), (121, .goto (-29), 3), (124, .iconst 0, 1), (125, .istore_n 1, 1), (126, .iload_n 1, 1), (127, .aload_n 0, 1), (128, .getfield 30, 3), (131, .getfield 76, 3), (134, .if_icmp .ge 32, 3), (137, .aload_n 0, 1), (138, .getfield 42, 3), (141, .aload_n 0, 1), (142, .getfield 30, 3), (145, .iload_n 1, 1), (146, .invokevirtual 80, 3), (149, .aload_n 0, 1), (150, .getfield 30, 3), (153, .iload_n 1, 1), (154, .invokevirtual 80, 3), (157, .invokevirtual 93, 3), (160, .iinc 1 1, 3), (163, .goto (-37), 3), (166, .iconst 0, 1), (167, .istore_n 1, 1), (168, .iload_n 1, 1), (169, .aload_n 0, 1), (170, .getfield 33, 3), (173, .getfield 76, 3), (176, .if_icmp .ge 51, 3), (179, .aload_n 0, 1), (180, .getfield 33, 3), (183, .iload_n 1, 1), (184, .invokevirtual 80, 3), (187, .istore_n 2, 1), (188, .aload_n 0, 1), (189, .iload_n 2, 1), (190, .invokevirtual 97, 3), (193, .ifCond .eq 10, 3), (196, .aload_n 0, 1), (197, .getfield 46, 3), (200, .goto 7, 3), (203, .aload_n 0, 1), (204, .getfield 49, 3), (207, .astore_n 3, 1), (208, .aload_n 3, 1), (209, .iload_n 2, 1), (210, .aload_n 0, 1), (211, .getfield 36, 3), (214, .iload_n 1, 1), (215, .invokevirtual 80, 3), (218, .invokevirtual 93, 3), (221, .iinc 1 1, 3), (224, .goto (-56), 3), (227, .return_, 1)]

def zc68 : List (Nat × Instr × Nat) := [(0, .aload_n 0, 1), (1, .getfield 20, 3), (4, .getfield 76, 3), (7, .aload_n 0, 1), (8, .getfield 24, 3), (11, .getfield 76, 3), (14, .iadd, 1), (15, .aload_n 0, 1), (16, .getfield 27, 3), (19, .getfield 76, 3), (22, .iadd, 1), (23, .ireturn, 1)]

def zc69 : List (Nat × Instr × Nat) := [(0, .iload_n 1, 1), (1, .tableswitch 75 0 4 #[35, 43, 51, 59, 67], 35), (36, .aload_n 0, 1), (37, .getfield 20, 3), (40, .getfield 76, 3), (43, .ireturn, 1), (44, .aload_n 0, 1), (45, .getfield 24, 3), (48, .getfield 76, 3), (51, .ireturn, 1), (52, .aload_n 0, 1), (53, .getfield 27, 3), (56, .getfield 76, 3), (59, .ireturn, 1), (60, .aload_n 0, 1), (61, .getfield 42, 3), (64, .getfield 100, 3), (67, .ireturn, 1), (68, .aload_n 0, 1), (69, .getfield 46, 3), (72, .getfield 100, 3), (75, .ireturn, 1), (76, .aload_n 0, 1), (77, .getfield 49, 3), (80, .getfield 100, 3), (83, .ireturn, 1)]

def zc70 : List (Nat × Instr × Nat) := [(0, .iload_n 2, 1), (1, .tableswitch 64 0 3 #[31, 37, 46, 55], 31), (32, .aload_n 0, 1), (33, .iload_n 1, 1), (34, .invokevirtual 65, 3), (37, .ireturn, 1), (38, .aload_n 0, 1), (39, .getfield 42, 3), (42, .iload_n 1, 1), (43, .invokevirtual 101, 3), (46, .ireturn, 1), (47, .aload_n 0, 1), (48, .getfield 49, 3), (51, .iload_n 1, 1), (52, .invokevirtual 101, 3), (55, .ireturn, 1), (56, .aload_n 0, 1), (57, .getfield 46, 3), (60, .iload_n 1, 1), (61, .invokevirtual 101, 3), (64, .ireturn, 1), (65, .aload_n 0, 1), (66, .getfield 42, 3), (69, .aload_n 0, 1), (70, .getfield 42, 3), (73, .iload_n 1, 1), (74, .invokevirtual 101, 3), (77, .iload_n 1, 1), (78, .invokevirtual 104, 3), (81, .ireturn, 1)]

def zc71 : List (Nat × Instr × Nat) := [(0, .iload_n 1, 1), (1, .aload_n 0, 1), (2, .getfield 46, 3), (5, .getfield 100, 3), (8, .imul, 1), (9, .iload_n 2, 1), (10, .iadd, 1), (11, .aload_n 0, 1), (12, .getfield 49, 3), (15, .getfield 100, 3), (18, .imul, 1), (19, .iload_n 3, 1), (20, .iadd, 1), (21, .ireturn, 1)]

def zc72 : List (Nat × Instr × Nat) := [(0, .iload_n 1, 1), (1, .ifCond .lt 34, 3), (4, .iload_n 1, 1), (5, .aload_n 0, 1), (6, .getfield 42, 3), (9, .getfield 100, 3), (12, .aload_n 0, 1), (13, .getfield 46, 3), (16, .getfield 100, 3), (19, .imul, 1), (20, .aload_n 0, 1), (21, .getfield 49, 3), (24, .getfield 100, 3), (27, .imul, 1), (28, .if_icmp .ge 7, 3), (31, .iconst 1, 1), (32, .goto 4, 3), (35, .iconst 0, 1), (36, .ireturn, 1)]

def zc73 : List (Nat × Instr × Nat) := [(0, .aload_n 0, 1), (1, .getfield 46, 3), (4, .getfield 100, 3), (7, .ifCond .le 13, 3), (10, .aload_n 0, 1), (11, .getfield 49, 3), (14, .getfield 100, 3), (17, .ifCond .gt 6, 3), (20, .bipush (-2), 2), (22, .ireturn, 1), (23, .iload_n 2, 1), (24, .iconst 2, 1), (25, .if_icmp .ne 13, 3), (28, .iload_n 1, 1), (29, .aload_n 0, 1), (30, .getfield 49, 3), (33, .getfield 100, 3), (36, .irem, 1), (37, .ireturn, 1), (38, .iload_n 1, 1), (39, .aload_n 0, 1), (40, .getfield 49, 3), (43, .getfield 100, 3), (46, .idiv, 1), (47, .istore_n 3, 1), (48, .iload_n 2, 1), (49, .iconst 1, 1), (50, .if_icmp .ne 15, 3), (53, .iload_n 3, 1), (54, .aload_n 0, 1), (55, .getfield 46, 3), (58, .getfield 100, 3), (61, .irem, 1), (62, .goto 12, 3), (65, .iload_n 3, 1), (66, .aload_n 0, 1), (67, .getfield 46, 3), (70, .getfield 100, 3), (73, .idiv, 1), (74, .ireturn, 1)]

def zc74 : List (Nat × Instr × Nat) := [(0, .iload_n 2, 1), (1, .iconst 1, 1), (2, .ishr, 1), (3, .istore_n 3, 1), (4, .iload_n 3, 1), (5, .ifCond .ne 10, 3), (8, .aload_n 0, 1), (9, .getfield 42, 3), (12, .goto 19, 3), (15, .iload_n 3, 1), (16, .iconst 1, 1), (17, .if_icmp .ne 10, 3), (20, .aload_n 0, 1), (21, .getfield 46, 3), (24, .goto 7, 3), (27, .aload_n 0, 1), (28, .getfield 49, 3), (31, .astore 4, 2), (33, .aload_n 0, 1), (34, .iload_n 1, 1), (35, .iload_n 3, 1), (36, .invokevirtual 108, 3), (39, .istore 5, 2), (41, .iload_n 2, 1), (42, .iconst 1, 1), (43, .iand, 1), (44, .ifCond .ne 13, 3), (47, .aload 4, 2), (49, .iload 5, 2), (51, .invokevirtual 111, 3), (54, .goto 10, 3), (57, .aload 4, 2), (59, .iload 5, 2), (61, .invokevirtual 114, 3), (64, .ireturn, 1)]

def zc75 : List (Nat × Instr × Nat) := [(0, .aload_n 0, 1), (1, .invokespecial 3, 3), (4, .aload_n 0, 1), (5, .new 9, 3), (8, .dup, 1), (9, .invokespecial 11, 3), (12, .putfield 12, 3), (15, .aload_n 0, 1), (16, .iconst 0, 1), (17, .putfield 18, 3), (20, .aload_n 0, 1), (21, .iconst 0, 1), (22, .putfield 22, 3), (25, .aload_n 0, 1), (26, .iconst 0, 1), (27, .putfield 25, 3), (30, .aload_n 0, 1), (31, .iconst 0, 1), (32, .putfield 28, 3), (35, .aload_n 0, 1), (36, .iconst (-1), 1), (37, .putfield 31, 3), (40, .return_, 1)]

def zc76 : List (Nat × Instr × Nat) := [(0, .aload_n 0, 1), (1, .iload_n 1, 1), (2, .putfield 18, 3), (5, .aload_n 0, 1), (6, .iconst 0, 1), (7, .putfield 22, 3), (10, .aload_n 0, 1), (11, .iconst 0, 1), (12, .putfield 25, 3), (15, .aload_n 0, 1), (16, .iconst 0, 1), (17, .putfield 28, 3), (20, .aload_n 0, 1), (21, .iconst (-1), 1), (22, .putfield 31, 3), (25, .aload_n 2, 1), (26, .invokevirtual 34, 3), (29, .iconst 1, 1), (30, .istore_n 3, 1), (31, .iconst 0, 1), (32, .istore 4, 2), (34, .iload_n 3, 1), (35, .ifCond .eq 42, 3), (38, .iload 4, 2), (40, .sipush 300, 3), (43, .if_icmp .gt 34, 3), (46, .aload_n 0, 1), (47, .aload_n 2, 1), (48, .invokevirtual 39, 3), (51, .aload_n 0, 1), (52, .getfield 28, 3), (55, .ifCond .ne 14, 3), (58, .aload_n 0, 1), (59, .invokevirtual 43, 3), (62, .ifCond .eq 7, 3), (65, .iconst 1, 1), (66, .goto 4, 3), (69, .iconst 0, 1), (70, .istore_n 3, 1), (71, .iinc 4 1, 3), (74, .goto (-40), 3), (77, .aload_n 0, 1), (78, .getfield 28, 3), (81, .ifCond .ne 15, 3), (84, .aload_n 2, 1), (85, .invokevirtual 47, 3), (88, .ifCond .eq 8, 3), (91, .aload_n 0, 1), (92, .iconst 4, 1), (93, .invokevirtual 50, 3), (96, .aload_n 0, 1), (97, .getfield 28, 3), (100, .ifCond .ne 7, 3), (103, .aload_n 2, 1), (104, .invokevirtual 54, 3), (107, .return_, 1)]

def zc77 : List (Nat × Instr × Nat) := [(0, .aload_n 0, 1), (1, .iload_n 1, 1), (2, .putfield 28, 3), (5, .aload_n 0, 1), (6, .aload_n 0, 1), (7, .getfield 22, 3), (10, .putfield 31, 3), (13, .return_, 1)]

def zc78 : List (Nat × Instr × Nat) := [(0, .iload_n 1, 1), (1, .aload_n 0, 1), (2, .getfield 18, 3), (5, .if_icmp .ge 14, 3), (8, .aload_n 0, 1), (9, .getfield 12, 3), (12, .iload_n 1, 1), (13, .invokevirtual 57, 3), (16, .goto 4, 3), (19, .iconst (-1), 1), (20, .ireturn, 1)]

def zc79 : List (Nat × Instr × Nat) := [(0, .aload_n 0, 1), (1, .getfield 25, 3), (4, .istore_n 1, 1), (5, .iload_n 1, 1), (6, .aload_n 0, 1), (7, .getfield 18, 3), (10, .if_icmp .ge 22, 3), (13, .aload_n 0, 1), (14, .getfield 12, 3), (17, .iload_n 1, 1), (18, .invokevirtual 57, 3), (21, .bipush 32, 2), (23, .if_icmp .ne 9, 3), (26, .iinc 1 1, 3), (29, .goto (-24), 3), (32, .aload_n 0, 1), (33, .iload_n 1, 1), (34, .putfield 22, 3), (37, .iload_n 1, 1), (38, .aload_n 0, 1), (39, .getfield 18, 3), (42, .if_icmp .ge 23, 3), (45, .aload_n 0, 1), (46, .getfield 12, 3), (49, .iload_n 1, 1), (50, .invokevirtual 57, 3), (53, .invokestatic 61, 3), (56, .ifCond .ne 9, 3), (59, .iinc 1 1, 3), (62, .goto 31, 3), (65, .iload_n 1, 1), (66, .aload_n 0, 1), (67, .getfield 18, 3), (70, .if_icmp .ge 23, 3), (73, .aload_n 0, 1), (74, .getfield 12, 3), (77, .iload_n 1, 1), (78, .invokevirtual 57, 3), (81, .invokestatic 61, 3), (84, .ifCond .eq 9, 3), (87, .iinc 1 1, 3), (90, .goto (-25), 3), (93, .aload_n 0, 1), (94, .iload_n 1, 1), (95, .putfield 25, 3), (98, .return_, 1)]

def zc80 : List (Nat × Instr × Nat) := [(0, .aload_n 0, 1), (1, .getfield 25, 3), (4, .aload_n 0, 1), (5, .getfield 22, 3), (8, .isub, 1), (9, .aload_n 1, 1), (10, .invokevirtual 65, 3), (13, .if_icmp .eq 5, 3), (16, .iconst 0, 1), (17, .ireturn, 1), (18, .iconst 0, 1), (19, .istore_n 2, 1), (20, .iload_n 2, 1), (21, .aload_n 1, 1), (22, .invokevirtual 65, 3), (25, .if_icmp .ge 29, 3), (28, .aload_n 0, 1), (29, .aload_n 0, 1), (30, .getfield 22, 3), (33, .iload_n 2, 1), (34, .iadd, 1), (35, .invokevirtual 70, 3), (38, .aload_n 1, 1), (39, .iload_n 2, 1), (40, .invokevirtual 73, 3), (43, .if_icmp .eq 5, 3), (46, .iconst 0, 1), (47, .ireturn, 1), (48, .iinc 2 1, 3), (51, .goto (-31), 3), (54, .iconst 1, 1), (55, .ireturn, 1)]

def zc81 : List (Nat × Instr × Nat) := [(0, .aload_n 0, 1), (1, .invokevirtual 77, 3), (4, .aload_n 0, 1), (5, .getfield 22, 3), (8, .aload_n 0, 1), (9, .getfield 18, 3), (12, .if_icmp .lt 5, 3), (15, .iconst 0, 1), (16, .ireturn, 1), (17, .aload_n 0, 1), (18, .aload_n 0, 1), (19, .getfield 22, 3), (22, .invokevirtual 70, 3), (25, .bipush 59, 2), (27, .if_icmp .eq 10, 3), (30, .aload_n 0, 1), (31, .iconst 1, 1), (32, .invokevirtual 50, 3), (35, .iconst 0, 1), (36, .ireturn, 1), (37, .iconst 1, 1), (38, .ireturn, 1)]

def zc82 : List (Nat × Instr × Nat) := [(0, .aload_n 0, 1), (1, .ldc 80, 2), (3, .invokevirtual 82, 3), (6, .ifCond .eq 5, 3), (9, .iconst 0, 1), (10, .ireturn, 1), (11, .aload_n 0, 1), (12, .ldc 86, 2), (14, .invokevirtual 82, 3), (17, .ifCond .eq 5, 3), (20, .iconst 1, 1), (21, .ireturn, 1), (22, .aload_n 0, 1), (23, .ldc 88, 2), (25, .invokevirtual 82, 3), (28, .ifCond .eq 5, 3), (31, .iconst 2, 1), (32, .ireturn, 1), (33, .aload_n 0, 1), (34, .ldc 90, 2), (36, .invokevirtual 82, 3), (39, .ifCond .eq 5, 3), (42, .iconst 3, 1), (43, .ireturn, 1), (44, .aload_n 0, 1), (45, .ldc 92, 2), (47, .invokevirtual 82, 3), (50, .ifCond .eq 5, 3), (53, .iconst 4, 1), (54, .ireturn, 1), (55, .aload_n 0, 1), (56, .ldc 94, 2), (58, .invokevirtual 82, 3), (61, .ifCond .eq 5, 3), (64, .iconst 5, 1), (65, .ireturn, 1), (66, .aload_n 0, 1), (67, .ldc 96, 2), (69, .invokevirtual 82, 3), (72, .ifCond .eq 8, 3), (75, .bipush 6, 2), (77, .goto 4, 3), (80, .iconst (-1), 1), (81, .ireturn, 1)]

def zc83 : List (Nat × Instr × Nat) := [(0, .aload_n 0, 1), (1, .invokevirtual 77, 3), (4, .aload_n 0, 1), (5, .invokevirtual 98, 3), (8, .istore_n 2, 1), (9, .iload_n 2, 1), (10, .iconst (-1), 1), (11, .if_icmp .ne 11, 3), (14, .aload_n 0, 1), (15, .iconst 1, 1), (16, .invokevirtual 50, 3), (19, .goto 55, 3), (22, .aload_n 1, 1), (23, .iload_n 2, 1), (24, .invokevirtual 101, 3), (27, .invokevirtual 105, 3), (30, .ifCond .eq 11, 3), (33, .aload_n 0, 1), (34, .iconst 3, 1), (35, .invokevirtual 50, 3), (38, .goto 36, 3), (41, .iload_n 2, 1), (42, .iconst 5, 1), (43, .if_icmp .ne 11, 3), (46, .aload_n 0, 1), (47, .aload_n 1, 1), (48, .invokevirtual 110, 3), (51, .goto 23, 3), (54, .iload_n 2, 1), (55, .bipush 6, 2), (57, .if_icmp .ne 11, 3), (60, .aload_n 0, 1), (61, .aload_n 1, 1), (62, .invokevirtual 113, 3), (65, .goto 9, 3), (68, .aload_n 0, 1), (69, .aload_n 1, 1), (70, .iload_n 2, 1), (71, .invokevirtual 116, 3), (74, .return_, 1)]

def zc84 : List (Nat × Instr × Nat) := [(0, .aload_n 0, 1), (1, .invokevirtual 77, 3), (4, .aload_n 0, 1), (5, .aload_n 0, 1), (6, .getfield 22, 3), (9, .invokevirtual 70, 3), (12, .istore_n 1, 1), (13, .aload_n 0, 1), (14, .getfield 25, 3), (17, .aload_n 0, 1), (18, .getfield 22, 3), (21, .isub, 1), (22, .iconst 1, 1), (23, .if_icmp .ne 10, 3), (26, .iload_n 1, 1), (27, .invokestatic 61, 3), (30, .ifCond .ne 10, 3), (33, .aload_n 0, 1), (34, .iconst 1, 1), (35, .invokevirtual 50, 3), (38, .iconst (-1), 1), (39, .ireturn, 1), (40, .iload_n 1, 1), (41, .ireturn, 1)]

def zc85 : List (Nat × Instr × Nat) := [(0, .aload_n 0, 1), (1, .invokevirtual 120, 3), (4, .istore_n 3, 1), (5, .aload_n 0, 1), (6, .getfield 28, 3), (9, .ifCond .eq 4, 3), (12, .return_, 1), (13, .aload_n 1, 1), (14, .iload_n 3, 1), (15, .invokevirtual 123, 3), (18, .ifCond .eq 11, 3), (21, .aload_n 0, 1), (22, .iconst 2, 1), (23, .invokevirtual 50, 3), (26, .goto 9, 3), (29, .aload_n 1, 1), (30, .iload_n 2, 1), (31, .iload_n 3, 1), (32, .invokevirtual 126, 3), (35, .return_, 1)]

def zc86 : List (Nat × Instr × Nat) := [(0, .aload_n 0, 1), (1, .invokevirtual 120, 3), (4, .istore_n 2, 1), (5, .aload_n 0, 1), (6, .getfield 28, 3), (9, .ifCond .eq 4, 3), (12, .return_, 1), (13, .aload_n 1, 1), (14, .iload_n 2, 1), (15, .invokevirtual 130, 3), (18, .ifCond .eq 14, 3), (21, .aload_n 1, 1), (22, .getfield 133, 3), (25, .iload_n 2, 1), (26, .invokevirtual 137, 3), (29, .ifCond .eq 11, 3), (32, .aload_n 0, 1), (33, .iconst 2, 1), (34, .invokevirtual 50, 3), (37, .goto 11, 3), (40, .aload_n 1, 1), (41, .getfield 133, 3), (44, .iload_n 2, 1), (45, .invokevirtual 140, 3), (48, .return_, 1)]

def zc87 : List (Nat × Instr × Nat) := [(0, .aload_n 0, 1), (1, .invokevirtual 120, 3), (4, .istore_n 2, 1), (5, .aload_n 0, 1), (6, .getfield 28, 3), (9, .ifCond .eq 4, 3), (12, .return_, 1), (13, .aload_n 1, 1), (14, .iload_n 2, 1), (15, .invokevirtual 143, 3), (18, .ifCond .ne 17, 3), (21, .aload_n 1, 1), (22, .iload_n 2, 1), (23, .invokevirtual 146, 3), (26, .ifCond .ne 9, 3), (29, .aload_n 0, 1), (30, .iconst 2, 1), (31, .invokevirtual 50, 3), (34, .return_, 1), (35, .aload_n 0, 1), (36, .invokevirtual 120, 3), (39, .istore_n 3, 1), (40, .aload_n 0, 1), (41, .getfield 28, 3), (44, .ifCond .eq 4, 3), (47, .return_, 1), (48, .aload_n 1, 1), (49, .iload_n 2, 1), (50, .invokevirtual 143, 3), (53, .ifCond .eq 11, 3), (56, .aload_n 1, 1), (57, .iload_n 3, 1), (58, .invokevirtual 143, 3), (61, .goto 8, 3), (64, .aload_n 1, 1), (65, .iload_n 3, 1), (66, .invokevirtual 146, 3), (69, .istore 4, 2), (71, .iload 4, 2), (73, .ifCond .eq 12, 3), (76, .aload_n 1, 1), (77, .iload_n 2, 1), (78, .iload_n 3, 1), (79, .invokevirtual 149, 3), (82, .ifCond .eq 11, 3), (85, .aload_n 0, 1), (86, .iconst 2, 1), (87, .invokevirtual 50, 3), (90, .goto 9, 3), (93, .aload_n 1, 1), (94, .iload_n 2, 1), (95, .iload_n 3, 1), (96, .invokevirtual 153, 3), (99, .return_, 1)]

def zc88 : List (Nat × Instr × Nat) := [(0, .aload_n 0, 1), (1, .invokespecial 5, 3), (4, .aload_n 0, 1), (5, .bipush 66, 2), (7, .bipush 26, 2), (9, .multianewarray 11 2, 4), (13, .putfield 13, 3), (16, .aload_n 0, 1), (17, .bipush 66, 2), (19, .bipush 9, 2), (21, .multianewarray 16 2, 4), (25, .putfield 18, 3), (28, .aload_n 0, 1), (29, .bipush 66, 2), (31, .bipush 9, 2), (33, .multianewarray 16 2, 4), (37, .putfield 21, 3), (40, .aload_n 0, 1), (41, .bipush 66, 2), (43, .newarray .long, 2), (45, .putfield 24, 3), (48, .aload_n 0, 1), (49, .bipush 66, 2), (51, .newarray .long, 2), (53, .putfield 28, 3), (56, .aload_n 0, 1), (57, .bipush 9, 2), (59, .bipush 9, 2), (61, .multianewarray 16 2, 4), (65, .putfield 31, 3), (68, .aload_n 0, 1), (69, .bipush 9, 2), (71, .newarray .long, 2), (73, .putfield 34, 3), (76, .aload_n 0, 1), (77, .iconst 0, 1), (78, .putfield 37, 3), (81, .return_, 1)]

def zc89 : List (Nat × Instr × Nat) := [(0, .aload_n 0, 1), (1, .iconst 0, 1), (2, .putfield 37, 3), (5, .return_, 1)]

def zc90 : List (Nat × Instr × Nat) := [(0, .iload_n 1, 1), (1, .ifCond .lt 23, 3), (4, .iload_n 1, 1), (5, .bipush 9, 2), (7, .if_icmp .ge 17, 3), (10, .iload_n 2, 1), (11, .ifCond .lt 13, 3), (14, .iload_n 2, 1), (15, .bipush 9, 2), (17, .if_icmp .ge 7, 3), (20, .iconst 1, 1), (21, .goto 4, 3), (24, .iconst 0, 1), (25, .istore_n 3, 1), (26, .iload_n 3, 1), (27, .ifCond .eq 14, 3), (30, .aload_n 0, 1), (31, .getfield 31, 3), (34, .iload_n 1, 1), (35, .aaload, 1), (36, .iload_n 2, 1), (37, .laload, 1), (38, .goto 6, 3), (41, .ldc2_w 41, 3), (44, .lreturn, 1)]

def zc91 : List (Nat × Instr × Nat) := [(0, .iload_n 1, 1), (1, .ifCond .lt 18, 3), (4, .iload_n 1, 1), (5, .bipush 9, 2), (7, .if_icmp .ge 12, 3), (10, .aload_n 0, 1), (11, .getfield 34, 3), (14, .iload_n 1, 1), (15, .laload, 1), (16, .goto 6, 3), (19, .ldc2_w 41, 3), (22, .lreturn, 1)]

def zc92 : List (Nat × Instr × Nat) := [(0, .aload_n 0, 1), (1, .getfield 37, 3), (4, .ifCond .eq 4, 3), (7, .return_, 1), (8, .aload_n 0, 1), (9, .aload_n 1, 1), (10, .aload_n 2, 1), (11, .invokevirtual 43, 3), (14, .aload_n 0, 1), (15, .aload_n 0, 1), (16, .getfield 18, 3), (19, .invokevirtual 47, 3), (22, .aload_n 0, 1), (23, .getfield 24, 3), (26, .lconst 0, 1), (27, .invokestatic 51, 3), (30, .aload_n 0, 1), (31, .getfield 18, 3), (34, .iconst 0, 1), (35, .aaload, 1), (36, .iconst 0, 1), (37, .lconst 1, 1), (38, .lastore, 1), (39, .aload_n 0, 1), (40, .getfield 24, 3), (43, .iconst 0, 1), (44, .lconst 1, 1), (45, .lastore, 1), (46, .aload_n 0, 1), (47, .iconst 0, 1), (48, .invokevirtual 57, 3), (51, .iconst 1, 1), (52, .istore_n 3, 1), (53, .iload_n 3, 1), (54, .bipush 8, 2), (56, .if_icmp .gt 19, 3), (59, .aload_n 0, 1), (60, .iload_n 3, 1), (61, .invokevirtual 61, 3), (64, .aload_n 0, 1), (65, .iload_n 3, 1), (66, .invokevirtual 57, 3), (69, .iinc 3 1, 3), (72, .goto (-19), 3), (75, .aload_n 0, 1), (76, .iconst 1, 1), (77, .putfield 37, 3), (80, .return_, 1)]

def zc93 : List (Nat × Instr × Nat) := [(0, .iconst 0, 1), (1, .istore_n 3, 1), (2, .iload_n 3, 1), (3, .bipush 66, 2), (5, .if_icmp .ge 98, 3), (8, .iconst 0, 1), (9, .istore 4, 2), (11, .iload 4, 2), (13, .bipush 26, 2), (15, .if_icmp .ge 82, 3), (18, .bipush 97, 2), (20, .iload 4, 2), (22, .iadd, 1), (23, .istore 5, 2), (25, .aload_n 0, 1), (26, .getfield 13, 3), (29, .iload_n 3, 1), (30, .aaload, 1), (31, .iload 4, 2), (33, .iconst (-1), 1), (34, .iastore, 1), (35, .aload_n 1, 1), (36, .iload 5, 2), (38, .invokevirtual 64, 3), (41, .ifCond .eq 50, 3), (44, .aload_n 0, 1), (45, .aload_n 1, 1), (46, .aload_n 2, 1), (47, .iload_n 3, 1), (48, .invokevirtual 70, 3), (51, .ifCond .eq 40, 3), (54, .aload_n 2, 1), (55, .getfield 74, 3), (58, .istore 6, 2), (60, .aload_n 2, 1), (61, .aload_n 1, 1), (62, .iload 5, 2), (64, .invokevirtual 80, 3), (67, .aload_n 0, 1), (68, .getfield 13, 3), (71, .iload_n 3, 1), (72, .aaload, 1), (73, .iload 4, 2), (75, .iconst 2, 1), (76, .aload_n 0, 1), (77, .aload_n 2, 1), (78, .invokevirtual 84, 3), (81, .imul, 1), (82, .aload_n 2, 1), (83, .getfield 74, 3), (86, .iadd, 1), (87, .iload 6, 2), (89, .isub, 1), (90, .iastore, 1), (91, .iinc 4 1, 3), (94, .goto (-83), 3), (97, .iinc 3 1, 3), (100, .goto (-98), 3), (103, .return_, 1)]

def zc94 : List (Nat × Instr × Nat) := [(0, .iload_n 3, 1), (1, .ifCond .ne 9, 3), (4, .aload_n 2, 1), (5, .invokevirtual 88, 3), (8, .iconst 1, 1), (9, .ireturn, 1), (10, .iload_n 3, 1), (11, .bipush 15, 2), (13, .if_icmp .ge 25, 3), (16, .aload_n 2, 1), (17, .iload_n 3, 1), (18, .iconst 1, 1), (19, .isub, 1), (20, .bipush (-2), 2), (22, .bipush (-2), 2), (24, .invokevirtual 91, 3), (27, .aload_n 1, 1), (28, .getfield 95, 3), (31, .iload_n 3, 1), (32, .iconst 1, 1), (33, .isub, 1), (34, .invokevirtual 99, 3), (37, .ireturn, 1), (38, .iload_n 3, 1), (39, .bipush 31, 2), (41, .if_icmp .ge 27, 3), (44, .aload_n 2, 1), (45, .bipush (-2), 2), (47, .iload_n 3, 1), (48, .bipush 15, 2), (50, .isub, 1), (51, .bipush (-2), 2), (53, .invokevirtual 91, 3), (56, .aload_n 1, 1), (57, .getfield 104, 3), (60, .iload_n 3, 1), (61, .bipush 15, 2), (63, .isub, 1), (64, .invokevirtual 99, 3), (67, .ireturn, 1), (68, .iload_n 3, 1), (69, .bipush 47, 2), (71, .if_icmp .ge 25, 3), (74, .aload_n 2, 1), (75, .iconst 0, 1), (76, .iload_n 3, 1), (77, .bipush 31, 2), (79, .isub, 1), (80, .iconst 0, 1), (81, .invokevirtual 91, 3), (84, .aload_n 1, 1), (85, .getfield 104, 3), (88, .iload_n 3, 1), (89, .bipush 31, 2), (91, .isub, 1), (92, .invokevirtual 99, 3), (95, .ireturn, 1), (96, .aload_n 2, 1), (97, .iconst 0, 1), (98, .iconst 0, 1), (99, .iload_n 3, 1), (100, .bipush 47, 2), (102, .isub, 1), (103, .invokevirtual 91, 3), (106, .aload_n 1, 1), (107, .getfield 107, 3), (110, .iload_n 3, 1), (111, .bipush 47, 2), (113, .isub, 1), (114, .invokevirtual 99, 3), (117, .ireturn, 1)]

def zc95 : List (Nat × Instr × Nat) := [(0, .aload_n 1, 1), (1, .getfield 74, 3), (4, .iconst 1, 1), (5, .isub, 1), (6, .istore_n 2, 1), (7, .aload_n 1, 1), (8, .getfield 110, 3), (11, .ifCond .eq 11, 3), (14, .aload_n 1, 1), (15, .iload_n 2, 1), (16, .invokevirtual 113, 3), (19, .ifCond .ne 5, 3), (22, .iconst 0, 1), (23, .ireturn, 1), (24, .aload_n 1, 1), (25, .iload_n 2, 1), (26, .invokevirtual 116, 3), (29, .lookupswitch 46 #[(1, 27), (2, 36)], 27), (56, .iconst 1, 1), (57, .aload_n 1, 1), (58, .getfield 120, 3), (61, .iload_n 2, 1), (62, .iaload, 1), (63, .iadd, 1), (64, .ireturn, 1), (65, .bipush 15, 2), (67, .aload_n 1, 1), (68, .getfield 124, 3), (71, .iload_n 2, 1), (72, .iaload, 1), (73, .iadd, 1), (74, .ireturn, 1), (75, .aload_n 1, 1), (76, .getfield 127, 3), (79, .iload_n 2, 1), (80, .iaload, 1), (81, .ifCond .ne 15, 3), (84, .bipush 31, 2), (86, .aload_n 1, 1), (87, .getfield 124, 3), (90, .iload_n 2, 1), (91, .iaload, 1), (92, .iadd, 1), (93, .goto 12, 3), (96, .bipush 47, 2), (98, .aload_n 1, 1), (99, .getfield 127, 3), (102, .iload_n 2, 1), (103, .iaload, 1), (104, .iadd, 1), (105, .ireturn, 1)]

def zc96 : List (Nat × Instr × Nat) := [(0, .iconst 0, 1), (1, .istore_n 2, 1), (2, .iload_n 2, 1), (3, .bipush 66, 2), (5, .if_icmp .ge 22, 3), (8, .iload_n 2, 1), (9, .aload_n 1, 1), (10, .arraylength, 1), (11, .if_icmp .ge 16, 3), (14, .aload_n 1, 1), (15, .iload_n 2, 1), (16, .aaload, 1), (17, .lconst 0, 1), (18, .invokestatic 51, 3), (21, .iinc 2 1, 3), (24, .goto (-22), 3), (27, .return_, 1)]

def zc97 : List (Nat × Instr × Nat) := [(0, .aload_n 0, 1), (1, .aload_n 0, 1), (2, .getfield 21, 3), (5, .invokevirtual 47, 3), (8, .aload_n 0, 1), (9, .getfield 28, 3), (12, .lconst 0, 1), (13, .invokestatic 51, 3), (16, .iconst 0, 1), (17, .istore_n 2, 1), (18, .iload_n 2, 1), (19, .bipush 66, 2), (21, .if_icmp .ge 60, 3), (24, .iconst 0, 1), (25, .istore_n 3, 1), (26, .iload_n 3, 1), (27, .bipush 26, 2), (29, .if_icmp .ge 46, 3), (32, .aload_n 0, 1), (33, .getfield 13, 3), (36, .iload_n 2, 1), (37, .aaload, 1), (38, .iload_n 3, 1), (39, .iaload, 1), (40, .istore 4, 2), (42, .iload 4, 2), (44, .ifCond .lt 25, 3), (47, .iload 4, 2), (49, .sipush 132, 3), (52, .if_icmp .ge 17, 3), (55, .aload_n 0, 1), (56, .iload_n 1, 1), (57, .iload_n 2, 1), (58, .iload 4, 2), (60, .iconst 1, 1), (61, .ishr, 1), (62, .iload 4, 2), (64, .iconst 1, 1), (65, .iand, 1), (66, .invokevirtual 130, 3), (69, .iinc 3 1, 3), (72, .goto (-46), 3), (75, .iinc 2 1, 3), (78, .goto (-60), 3), (81, .aload_n 0, 1), (82, .getfield 18, 3), (85, .astore_n 2, 1), (86, .aload_n 0, 1), (87, .aload_n 0, 1), (88, .getfield 21, 3), (91, .putfield 18, 3), (94, .aload_n 0, 1), (95, .aload_n 2, 1), (96, .putfield 21, 3), (99, .aload_n 0, 1), (100, .getfield 24, 3), (103, .astore_n 3, 1), (104, .aload_n 0, 1), (105, .aload_n 0, 1), (106, .getfield 28, 3), (109, .putfield 24, 3), (112, .aload_n 0, 1), (113, .aload_n 3, 1), (114, .putfield 28, 3), (117, .return_, 1)]

def zc98 : List (Nat × Instr × Nat) := [(0, .iconst 0, 1), (1, .istore 5, 2), (3, .iload 5, 2), (5, .iload_n 1, 1), (6, .if_icmp .ge 43, 3), (9, .iload 5, 2), (11, .iload 4, 2), (13, .iadd, 1), (14, .bipush 9, 2), (16, .if_icmp .ge 33, 3), (19, .aload_n 0, 1), (20, .getfield 21, 3), (23, .iload_n 3, 1), (24, .aaload, 1), (25, .iload 5, 2), (27, .iload 4, 2), (29, .iadd, 1), (30, .dup2, 1), (31, .laload, 1), (32, .aload_n 0, 1), (33, .getfield 18, 3), (36, .iload_n 2, 1), (37, .aaload, 1), (38, .iload 5, 2), (40, .laload, 1), (41, .ladd, 1), (42, .lastore, 1), (43, .iinc 5 1, 3), (46, .goto (-43), 3), (49, .aload_n 0, 1), (50, .iload_n 2, 1), (51, .invokevirtual 134, 3), (54, .ifCond .eq 13, 3), (57, .iload 4, 2), (59, .iconst 1, 1), (60, .if_icmp .ne 7, 3), (63, .iconst 1, 1), (64, .goto 4, 3), (67, .iconst 0, 1), (68, .istore 5, 2), (70, .iload 5, 2), (72, .ifCond .ne 34, 3), (75, .aload_n 0, 1), (76, .iload_n 3, 1), (77, .invokevirtual 134, 3), (80, .ifCond .ne 11, 3), (83, .aload_n 0, 1), (84, .iload_n 3, 1), (85, .invokevirtual 137, 3), (88, .ifCond .eq 18, 3), (91, .aload_n 0, 1), (92, .getfield 28, 3), (95, .iload_n 3, 1), (96, .dup2, 1), (97, .laload, 1), (98, .aload_n 0, 1), (99, .getfield 24, 3), (102, .iload_n 2, 1), (103, .laload, 1), (104, .ladd, 1), (105, .lastore, 1), (106, .return_, 1)]

def zc99 : List (Nat × Instr × Nat) := [(0, .iload_n 1, 1), (1, .iconst 1, 1), (2, .if_icmp .lt 13, 3), (5, .iload_n 1, 1), (6, .bipush 15, 2), (8, .if_icmp .ge 7, 3), (11, .iconst 1, 1), (12, .goto 4, 3), (15, .iconst 0, 1), (16, .ireturn, 1)]

def zc100 : List (Nat × Instr × Nat) := [(0, .iload_n 1, 1), (1, .bipush 31, 2), (3, .if_icmp .lt 7, 3), (6, .iconst 1, 1), (7, .goto 4, 3), (10, .iconst 0, 1), (11, .ireturn, 1)]

def zc101 : List (Nat × Instr × Nat) := [(0, .iload_n 1, 1), (1, .ifCond .lt 9, 3), (4, .iload_n 1, 1), (5, .bipush 9, 2), (7, .if_icmp .lt 4, 3), (10, .return_, 1), (11, .aload_n 0, 1), (12, .getfield 31, 3), (15, .iload_n 1, 1), (16, .aaload, 1), (17, .lconst 0, 1), (18, .invokestatic 51, 3), (21, .aload_n 0, 1), (22, .getfield 34, 3), (25, .iload_n 1, 1), (26, .lconst 0, 1), (27, .lastore, 1), (28, .iconst 0, 1), (29, .istore_n 2, 1), (30, .iload_n 2, 1), (31, .bipush 66, 2), (33, .if_icmp .ge 65, 3), (36, .iconst 0, 1), (37, .istore_n 3, 1), (38, .iload_n 3, 1), (39, .bipush 9, 2), (41, .if_icmp .ge 28, 3), (44, .aload_n 0, 1), (45, .getfield 31, 3), (48, .iload_n 1, 1), (49, .aaload, 1), (50, .iload_n 3, 1), (51, .dup2, 1), (52, .laload, 1), (53, .aload_n 0, 1), (54, .getfield 18, 3), (57, .iload_n 2, 1), (58, .aaload, 1), (59, .iload_n 3, 1), (60, .laload, 1), (61, .ladd, 1), (62, .lastore, 1), (63, .iinc 3 1, 3), (66, .goto (-28), 3), (69, .aload_n 0, 1), (70, .iload_n 2, 1), (71, .invokevirtual 134, 3), (74, .ifCond .ne 18, 3), (77, .aload_n 0, 1), (78, .getfield 34, 3), (81, .iload_n 1, 1), (82, .dup2, 1), (83, .laload, 1), (84, .aload_n 0, 1), (85, .getfield 24, 3), (88, .iload_n 2, 1), (89, .laload, 1), (90, .ladd, 1), (91, .lastore, 1), (92, .iinc 2 1, 3), (95, .goto (-65), 3), (98, .return_, 1)]

def zc102 : List (Nat × Instr × Nat) := [(0, .aload_n 0, 1), (1, .invokespecial 3, 3), (4, .aload_n 0, 1), (5, .sipush 300, 3), (8, .newarray .int, 2), (10, .putfield 9, 3), (13, .aload_n 0, 1), (14, .iconst 0, 1), (15, .putfield 15, 3), (18, .return_, 1)]

def zc103 : List (Nat × Instr × Nat) := [(0, .aload_n 0, 1), (1, .iconst 0, 1), (2, .putfield 15, 3), (5, .return_, 1)]

def zc104 : List (Nat × Instr × Nat) := [(0, .bipush 24, 2), (2, .istore_n 2, 1), (3, .iload_n 2, 1), (4, .ifCond .lt 45, 3), (7, .aload_n 0, 1), (8, .getfield 15, 3), (11, .sipush 300, 3), (14, .if_icmp .ge 35, 3), (17, .aload_n 0, 1), (18, .getfield 9, 3), (21, .aload_n 0, 1), (22, .getfield 15, 3), (25, .iload_n 1, 1), (26, .iload_n 2, 1), (27, .ishr, 1), (28, .sipush 255, 3), (31, .iand, 1), (32, .iastore, 1), (33, .aload_n 0, 1), (34, .dup, 1), (35, .getfield 15, 3), (38, .iconst 1, 1), (39, .iadd, 1), (40, .putfield 15, 3), (43, .iinc 2 (-8), 3), (46, .goto (-43), 3), (49, .return_, 1)]

def zc105 : List (Nat × Instr × Nat) := [(0, .iload_n 1, 1), (1, .ifCond .lt 15, 3), (4, .iload_n 1, 1), (5, .aload_n 0, 1), (6, .getfield 15, 3), (9, .if_icmp .gt 7, 3), (12, .iconst 1, 1), (13, .goto 4, 3), (16, .iconst 0, 1), (17, .ireturn, 1)]

def zc106 : List (Nat × Instr × Nat) := [(0, .iload_n 1, 1), (1, .ifCond .lt 20, 3), (4, .iload_n 1, 1), (5, .aload_n 0, 1), (6, .getfield 15, 3), (9, .if_icmp .ge 12, 3), (12, .aload_n 0, 1), (13, .getfield 9, 3), (16, .iload_n 1, 1), (17, .iaload, 1), (18, .goto 4, 3), (21, .iconst (-1), 1), (22, .ireturn, 1)]

def zc107 : List (Nat × Instr × Nat) := [(0, .aload_n 0, 1), (1, .iload_n 1, 1), (2, .invokevirtual 19, 3), (5, .sipush 256, 3), (8, .imul, 1), (9, .aload_n 0, 1), (10, .iload_n 1, 1), (11, .iconst 1, 1), (12, .iadd, 1), (13, .invokevirtual 19, 3), (16, .iadd, 1), (17, .ireturn, 1)]

def zc108 : List (Nat × Instr × Nat) := [(0, .aload_n 0, 1), (1, .invokespecial 3, 3), (4, .aload_n 0, 1), (5, .new 9, 3), (8, .dup, 1), (9, .invokespecial 11, 3), (12, .putfield 12, 3), (15, .aload_n 0, 1), (16, .aload_n 0, 1), (17, .getfield 12, 3), (20, .getfield 16, 3), (23, .putfield 20, 3), (26, .aload_n 0, 1), (27, .new 21, 3), (30, .dup, 1), (31, .invokespecial 23, 3), (34, .putfield 24, 3), (37, .aload_n 0, 1), (38, .new 21, 3), (41, .dup, 1), (42, .invokespecial 23, 3), (45, .putfield 28, 3), (48, .aload_n 0, 1), (49, .new 31, 3), (52, .dup, 1), (53, .invokespecial 33, 3), (56, .putfield 34, 3), (59, .aload_n 0, 1), (60, .new 31, 3), (63, .dup, 1), (64, .invokespecial 33, 3), (67, .putfield 38, 3), (70, .aload_n 0, 1), (71, .new 41, 3), (74, .dup, 1), (75, .invokespecial 43, 3), (78, .putfield 44, 3), (81, .aload_n 0, 1), (82, .new 48, 3), (85, .dup, 1), (86, .invokespecial 50, 3), (89, .putfield 51, 3), (92, .aload_n 0, 1), (93, .bipush 80, 2), (95, .newarray .int, 2), (97, .putfield 55, 3), (100, .aload_n 0, 1), (101, .new 59, 3), (104, .dup, 1), (105, .invokespecial 61, 3), (108, .putfield 62, 3), (111, .aload_n 0, 1), (112, .new 59, 3), (115, .dup, 1), (116, .invokespecial 61, 3), (119, .putfield 66, 3), (122, .aload_n 0, 1), (123, .iconst 0, 1), (124, .putfield 69, 3), (127, .aload_n 0, 1), (128, .iconst 0, 1), (129, .putfield 73, 3), (132, .aload_n 0, 1), (133, .iconst (-1), 1), (134, .putfield 77, 3), (137, .aload_n 0, 1), (138, .iconst 0, 1), (139, .putfield 80, 3), (142, .return_, 1)]

def zc109 : List (Nat × Instr × Nat) := [(0, .aload_n 0, 1), (1, .getfield 20, 3), (4, .getfield 83, 3), (7, .bipush 20, 2), (9, .iadd, 1), (10, .sipush 300, 3), (13, .if_icmp .le 5, 3), (16, .iconst (-1), 1), (17, .ireturn, 1), (18, .aload_n 0, 1), (19, .getfield 20, 3), (22, .iload_n 1, 1), (23, .invokevirtual 88, 3), (26, .aload_n 0, 1), (27, .getfield 20, 3), (30, .iload_n 2, 1), (31, .invokevirtual 88, 3), (34, .aload_n 0, 1), (35, .getfield 20, 3), (38, .iload_n 3, 1), (39, .invokevirtual 88, 3), (42, .aload_n 0, 1), (43, .getfield 20, 3), (46, .iload 4, 2), (48, .invokevirtual 88, 3), (51, .aload_n 0, 1), (52, .getfield 20, 3), (55, .iload 5, 2), (57, .invokevirtual 88, 3), (60, .aload_n 0, 1), (61, .getfield 20, 3), (64, .getfield 83, 3), (67, .ireturn, 1)]

def zc110 : List (Nat × Instr × Nat) := [(0, .aload_n 0, 1), (1, .getfield 20, 3), (4, .iload_n 1, 1), (5, .invokevirtual 92, 3), (8, .ifCond .ne 9, 3), (11, .aload_n 0, 1), (12, .iconst 2, 1), (13, .invokevirtual 96, 3), (16, .ireturn, 1), (17, .aload_n 0, 1), (18, .getfield 12, 3), (21, .iload_n 1, 1), (22, .aload_n 0, 1), (23, .getfield 66, 3), (26, .invokevirtual 100, 3), (29, .aload_n 0, 1), (30, .getfield 20, 3), (33, .invokevirtual 104, 3), (36, .aload_n 0, 1), (37, .aload_n 0, 1), (38, .getfield 12, 3), (41, .getfield 107, 3), (44, .putfield 73, 3), (47, .aload_n 0, 1), (48, .getfield 12, 3), (51, .getfield 107, 3), (54, .ifCond .eq 22, 3), (57, .aload_n 0, 1), (58, .iconst 4, 1), (59, .invokevirtual 96, 3), (62, .pop, 1), (63, .aload_n 0, 1), (64, .aload_n 0, 1), (65, .getfield 12, 3), (68, .getfield 110, 3), (71, .putfield 77, 3), (74, .iconst (-1), 1), (75, .ireturn, 1), (76, .aload_n 0, 1), (77, .getfield 66, 3), (80, .astore_n 2, 1), (81, .aload_n 0, 1), (82, .aload_n 0, 1), (83, .getfield 62, 3), (86, .putfield 66, 3), (89, .aload_n 0, 1), (90, .aload_n 2, 1), (91, .putfield 62, 3), (94, .aload_n 0, 1), (95, .iconst 1, 1), (96, .putfield 69, 3), (99, .aload_n 0, 1), (100, .getfield 24, 3), (103, .invokevirtual 113, 3), (106, .aload_n 0, 1), (107, .getfield 34, 3), (110, .invokevirtual 114, 3), (113, .aload_n 0, 1), (114, .getfield 44, 3), (117, .invokevirtual 115, 3), (120, .aload_n 0, 1), (121, .getfield 51, 3), (124, .invokevirtual 116, 3), (127, .aload_n 0, 1), (128, .aload_n 0, 1), (129, .getfield 62, 3), (132, .invokevirtual 117, 3), (135, .invokevirtual 121, 3), (138, .ireturn, 1)]

def zc111 : List (Nat × Instr × Nat) := [(0, .aload_n 0, 1), (1, .getfield 73, 3), (4, .ireturn, 1)]

def zc112 : List (Nat × Instr × Nat) := [(0, .aload_n 0, 1), (1, .getfield 77, 3), (4, .ireturn, 1)]

def zc113 : List (Nat × Instr × Nat) := [(0, .aload_n 0, 1), (1, .getfield 69, 3), (4, .ifCond .eq 13, 3), (7, .iload_n 1, 1), (8, .ifCond .lt 9, 3), (11, .iload_n 1, 1), (12, .bipush 12, 2), (14, .if_icmp .le 9, 3), (17, .aload_n 0, 1), (18, .iconst 1, 1), (19, .invokevirtual 96, 3), (22, .ireturn, 1), (23, .aload_n 0, 1), (24, .iload_n 1, 1), (25, .bipush 6, 2), (27, .if_icmp .ge 14, 3), (30, .aload_n 0, 1), (31, .getfield 62, 3), (34, .iload_n 1, 1), (35, .invokevirtual 124, 3), (38, .goto 8, 3), (41, .aload_n 0, 1), (42, .iload_n 1, 1), (43, .invokevirtual 127, 3), (46, .invokevirtual 121, 3), (49, .ireturn, 1)]

def zc114 : List (Nat × Instr × Nat) := [(0, .iload_n 1, 1), (1, .tableswitch 87 6 11 #[39, 47, 55, 63, 71, 79], 39), (40, .aload_n 0, 1), (41, .getfield 24, 3), (44, .getfield 130, 3), (47, .ireturn, 1), (48, .aload_n 0, 1), (49, .getfield 34, 3), (52, .getfield 131, 3), (55, .ireturn, 1), (56, .aload_n 0, 1), (57, .getfield 34, 3), (60, .invokevirtual 134, 3), (63, .ireturn, 1), (64, .aload_n 0, 1), (65, .getfield 34, 3), (68, .getfield 137, 3), (71, .ireturn, 1), (72, .aload_n 0, 1), (73, .getfield 24, 3), (76, .invokevirtual 140, 3), (79, .ireturn, 1), (80, .aload_n 0, 1), (81, .getfield 24, 3), (84, .getfield 143, 3), (87, .ireturn, 1), (88, .aload_n 0, 1), (89, .getfield 44, 3), (92, .getfield 146, 3), (95, .ireturn, 1)]

def zc115 : List (Nat × Instr × Nat) := [(0, .aload_n 0, 1), (1, .getfield 69, 3), (4, .ifCond .eq 23, 3), (7, .aload_n 0, 1), (8, .getfield 62, 3), (11, .iload_n 1, 1), (12, .invokevirtual 149, 3), (15, .ifCond .eq 12, 3), (18, .iload_n 2, 1), (19, .ifCond .lt 8, 3), (22, .iload_n 2, 1), (23, .iconst 4, 1), (24, .if_icmp .le 9, 3), (27, .aload_n 0, 1), (28, .iconst 1, 1), (29, .invokevirtual 96, 3), (32, .ireturn, 1), (33, .aload_n 0, 1), (34, .aload_n 0, 1), (35, .getfield 62, 3), (38, .iload_n 1, 1), (39, .iload_n 2, 1), (40, .invokevirtual 152, 3), (43, .invokevirtual 121, 3), (46, .ireturn, 1)]

def zc116 : List (Nat × Instr × Nat) := [(0, .aload_n 0, 1), (1, .getfield 69, 3), (4, .ifCond .eq 45, 3), (7, .aload_n 0, 1), (8, .getfield 62, 3), (11, .getfield 156, 3), (14, .iload_n 1, 1), (15, .invokevirtual 160, 3), (18, .ifCond .eq 31, 3), (21, .aload_n 0, 1), (22, .getfield 62, 3), (25, .getfield 165, 3), (28, .iload_n 2, 1), (29, .invokevirtual 160, 3), (32, .ifCond .eq 17, 3), (35, .aload_n 0, 1), (36, .getfield 62, 3), (39, .getfield 168, 3), (42, .iload_n 3, 1), (43, .invokevirtual 160, 3), (46, .ifCond .ne 9, 3), (49, .aload_n 0, 1), (50, .iconst 1, 1), (51, .invokevirtual 96, 3), (54, .ireturn, 1), (55, .aload_n 0, 1), (56, .aload_n 0, 1), (57, .getfield 62, 3), (60, .iload_n 1, 1), (61, .iload_n 2, 1), (62, .iload_n 3, 1), (63, .invokevirtual 171, 3), (66, .invokevirtual 121, 3), (69, .ireturn, 1)]

def zc117 : List (Nat × Instr × Nat) := [(0, .aload_n 0, 1), (1, .getfield 69, 3), (4, .ifCond .eq 23, 3), (7, .aload_n 0, 1), (8, .getfield 62, 3), (11, .iload_n 1, 1), (12, .invokevirtual 175, 3), (15, .ifCond .eq 12, 3), (18, .iload_n 2, 1), (19, .ifCond .lt 8, 3), (22, .iload_n 2, 1), (23, .iconst 2, 1), (24, .if_icmp .le 9, 3), (27, .aload_n 0, 1), (28, .iconst 1, 1), (29, .invokevirtual 96, 3), (32, .ireturn, 1), (33, .aload_n 0, 1), (34, .aload_n 0, 1), (35, .getfield 62, 3), (38, .iload_n 1, 1), (39, .iload_n 2, 1), (40, .invokevirtual 178, 3), (43, .invokevirtual 121, 3), (46, .ireturn, 1)]

def zc118 : List (Nat × Instr × Nat) := [(0, .aload_n 0, 1), (1, .getfield 69, 3), (4, .ifCond .eq 18, 3), (7, .aload_n 0, 1), (8, .getfield 62, 3), (11, .iload_n 1, 1), (12, .invokevirtual 175, 3), (15, .ifCond .eq 7, 3), (18, .iload_n 2, 1), (19, .ifCond .ge 9, 3), (22, .aload_n 0, 1), (23, .iconst 1, 1), (24, .invokevirtual 96, 3), (27, .ireturn, 1), (28, .iload_n 2, 1), (29, .istore_n 3, 1), (30, .iconst 0, 1), (31, .istore 4, 2), (33, .iload 4, 2), (35, .bipush 6, 2), (37, .if_icmp .ge 42, 3), (40, .aload_n 0, 1), (41, .getfield 62, 3), (44, .iload_n 1, 1), (45, .iload 4, 2), (47, .invokevirtual 181, 3), (50, .istore 5, 2), (52, .iload 5, 2), (54, .bipush (-2), 2), (56, .if_icmp .eq 17, 3), (59, .iload_n 3, 1), (60, .ifCond .ne 10, 3), (63, .aload_n 0, 1), (64, .iload 5, 2), (66, .invokevirtual 121, 3), (69, .ireturn, 1), (70, .iinc 3 (-1), 3), (73, .iinc 4 1, 3), (76, .goto (-43), 3), (79, .aload_n 0, 1), (80, .bipush (-2), 2), (82, .invokevirtual 121, 3), (85, .ireturn, 1)]

def zc119 : List (Nat × Instr × Nat) := [(0, .aload_n 0, 1), (1, .getfield 69, 3), (4, .ifCond .eq 14, 3), (7, .aload_n 0, 1), (8, .getfield 62, 3), (11, .iload_n 1, 1), (12, .invokevirtual 149, 3), (15, .ifCond .ne 9, 3), (18, .aload_n 0, 1), (19, .iconst 1, 1), (20, .invokevirtual 96, 3), (23, .ireturn, 1), (24, .aload_n 0, 1), (25, .iload_n 1, 1), (26, .invokevirtual 184, 3), (29, .ireturn, 1)]

def zc120 : List (Nat × Instr × Nat) := [(0, .aload_n 0, 1), (1, .getfield 69, 3), (4, .ifCond .ne 9, 3), (7, .aload_n 0, 1), (8, .iconst 1, 1), (9, .invokevirtual 96, 3), (12, .ireturn, 1), (13, .aload_n 0, 1), (14, .bipush 124, 2), (16, .invokevirtual 184, 3), (19, .ireturn, 1)]

def zc121 : List (Nat × Instr × Nat) := [(0, .aload_n 0, 1), (1, .getfield 24, 3), (4, .getfield 130, 3), (7, .bipush 80, 2), (9, .if_icmp .lt 9, 3), (12, .aload_n 0, 1), (13, .iconst 3, 1), (14, .invokevirtual 96, 3), (17, .ireturn, 1), (18, .aload_n 0, 1), (19, .getfield 44, 3), (22, .aload_n 0, 1), (23, .getfield 24, 3), (26, .invokevirtual 187, 3), (29, .aload_n 0, 1), (30, .getfield 24, 3), (33, .iload_n 1, 1), (34, .invokevirtual 191, 3), (37, .aload_n 0, 1), (38, .invokevirtual 194, 3), (41, .ireturn, 1)]

def zc122 : List (Nat × Instr × Nat) := [(0, .aload_n 0, 1), (1, .getfield 34, 3), (4, .invokevirtual 114, 3), (7, .iconst 0, 1), (8, .istore_n 1, 1), (9, .iload_n 1, 1), (10, .aload_n 0, 1), (11, .getfield 24, 3), (14, .getfield 130, 3), (17, .if_icmp .ge 28, 3), (20, .aload_n 0, 1), (21, .getfield 34, 3), (24, .aload_n 0, 1), (25, .getfield 62, 3), (28, .aload_n 0, 1), (29, .getfield 24, 3), (32, .iload_n 1, 1), (33, .invokevirtual 197, 3), (36, .invokevirtual 200, 3), (39, .iinc 1 1, 3), (42, .goto (-33), 3), (45, .aload_n 0, 1), (46, .aload_n 0, 1), (47, .getfield 34, 3), (50, .getfield 131, 3), (53, .invokevirtual 121, 3), (56, .ireturn, 1)]

def zc123 : List (Nat × Instr × Nat) := [(0, .iload_n 2, 1), (1, .istore 4, 2), (3, .iload 4, 2), (5, .iload_n 3, 1), (6, .if_icmp .ge 38, 3), (9, .iload 4, 2), (11, .aload_n 0, 1), (12, .getfield 24, 3), (15, .getfield 130, 3), (18, .if_icmp .ge 26, 3), (21, .aload_n 1, 1), (22, .aload_n 0, 1), (23, .getfield 62, 3), (26, .aload_n 0, 1), (27, .getfield 24, 3), (30, .iload 4, 2), (32, .invokevirtual 197, 3), (35, .invokevirtual 200, 3), (38, .iinc 4 1, 3), (41, .goto (-38), 3), (44, .return_, 1)]

def zc124 : List (Nat × Instr × Nat) := [(0, .aload_n 0, 1), (1, .getfield 69, 3), (4, .ifCond .ne 9, 3), (7, .aload_n 0, 1), (8, .iconst 1, 1), (9, .invokevirtual 96, 3), (12, .ireturn, 1), (13, .aload_n 0, 1), (14, .getfield 20, 3), (17, .iload_n 1, 1), (18, .invokevirtual 92, 3), (21, .ifCond .ne 9, 3), (24, .aload_n 0, 1), (25, .iconst 2, 1), (26, .invokevirtual 96, 3), (29, .ireturn, 1), (30, .aload_n 0, 1), (31, .iload_n 1, 1), (32, .invokevirtual 204, 3), (35, .ifCond .eq 7, 3), (38, .iconst 0, 1), (39, .goto 4, 3), (42, .iconst 5, 1), (43, .istore_n 2, 1), (44, .iload_n 2, 1), (45, .ifCond .ne 19, 3), (48, .aload_n 0, 1), (49, .getfield 24, 3), (52, .getfield 130, 3), (55, .iload_n 1, 1), (56, .iadd, 1), (57, .bipush 80, 2), (59, .if_icmp .le 5, 3), (62, .iconst 3, 1), (63, .istore_n 2, 1), (64, .iload_n 2, 1), (65, .ifCond .ne 42, 3), (68, .aload_n 0, 1), (69, .getfield 44, 3), (72, .aload_n 0, 1), (73, .getfield 24, 3), (76, .invokevirtual 187, 3), (79, .iconst 0, 1), (80, .istore_n 3, 1), (81, .iload_n 3, 1), (82, .iload_n 1, 1), (83, .if_icmp .ge 24, 3), (86, .aload_n 0, 1), (87, .getfield 24, 3), (90, .aload_n 0, 1), (91, .getfield 20, 3), (94, .iload_n 3, 1), (95, .invokevirtual 207, 3), (98, .invokevirtual 191, 3), (101, .iinc 3 1, 3), (104, .goto (-23), 3), (107, .aload_n 0, 1), (108, .getfield 20, 3), (111, .invokevirtual 104, 3), (114, .iload_n 2, 1), (115, .ifCond .ne 10, 3), (118, .aload_n 0, 1), (119, .invokevirtual 194, 3), (122, .goto 8, 3), (125, .aload_n 0, 1), (126, .iload_n 2, 1), (127, .invokevirtual 96, 3), (130, .ireturn, 1)]

def zc125 : List (Nat × Instr × Nat) := [(0, .iconst 0, 1), (1, .istore_n 2, 1), (2, .iload_n 2, 1), (3, .iload_n 1, 1), (4, .if_icmp .ge 26, 3), (7, .aload_n 0, 1), (8, .aload_n 0, 1), (9, .getfield 20, 3), (12, .iload_n 2, 1), (13, .invokevirtual 207, 3), (16, .invokevirtual 210, 3), (19, .ifCond .ne 5, 3), (22, .iconst 0, 1), (23, .ireturn, 1), (24, .iinc 2 1, 3), (27, .goto (-25), 3), (30, .iconst 1, 1), (31, .ireturn, 1)]

def zc126 : List (Nat × Instr × Nat) := [(0, .iload_n 1, 1), (1, .bipush 124, 2), (3, .if_icmp .eq 14, 3), (6, .aload_n 0, 1), (7, .getfield 62, 3), (10, .iload_n 1, 1), (11, .invokevirtual 149, 3), (14, .ifCond .eq 7, 3), (17, .iconst 1, 1), (18, .goto 4, 3), (21, .iconst 0, 1), (22, .ireturn, 1)]

def zc127 : List (Nat × Instr × Nat) := [(0, .aload_n 0, 1), (1, .getfield 69, 3), (4, .ifCond .ne 9, 3), (7, .aload_n 0, 1), (8, .iconst 1, 1), (9, .invokevirtual 96, 3), (12, .ireturn, 1), (13, .aload_n 0, 1), (14, .getfield 24, 3), (17, .getfield 143, 3), (20, .ifCond .gt 9, 3), (23, .aload_n 0, 1), (24, .iconst 5, 1), (25, .invokevirtual 96, 3), (28, .ireturn, 1), (29, .aload_n 0, 1), (30, .getfield 44, 3), (33, .aload_n 0, 1), (34, .getfield 24, 3), (37, .invokevirtual 187, 3), (40, .aload_n 0, 1), (41, .getfield 24, 3), (44, .dup, 1), (45, .getfield 143, 3), (48, .iconst 1, 1), (49, .isub, 1), (50, .putfield 143, 3), (53, .aload_n 0, 1), (54, .getfield 24, 3), (57, .invokevirtual 213, 3), (60, .aload_n 0, 1), (61, .invokevirtual 194, 3), (64, .ireturn, 1)]

def zc128 : List (Nat × Instr × Nat) := [(0, .aload_n 0, 1), (1, .getfield 69, 3), (4, .ifCond .ne 9, 3), (7, .aload_n 0, 1), (8, .iconst 1, 1), (9, .invokevirtual 96, 3), (12, .ireturn, 1), (13, .aload_n 0, 1), (14, .getfield 24, 3), (17, .getfield 143, 3), (20, .aload_n 0, 1), (21, .getfield 24, 3), (24, .getfield 130, 3), (27, .if_icmp .lt 9, 3), (30, .aload_n 0, 1), (31, .iconst 5, 1), (32, .invokevirtual 96, 3), (35, .ireturn, 1), (36, .aload_n 0, 1), (37, .getfield 44, 3), (40, .aload_n 0, 1), (41, .getfield 24, 3), (44, .invokevirtual 187, 3), (47, .aload_n 0, 1), (48, .getfield 24, 3), (51, .invokevirtual 213, 3), (54, .aload_n 0, 1), (55, .invokevirtual 194, 3), (58, .ireturn, 1)]

def zc129 : List (Nat × Instr × Nat) := [(0, .aload_n 0, 1), (1, .getfield 69, 3), (4, .ifCond .ne 9, 3), (7, .aload_n 0, 1), (8, .iconst 1, 1), (9, .invokevirtual 96, 3), (12, .ireturn, 1), (13, .iload_n 1, 1), (14, .ifCond .lt 14, 3), (17, .iload_n 1, 1), (18, .aload_n 0, 1), (19, .getfield 24, 3), (22, .getfield 130, 3), (25, .if_icmp .le 9, 3), (28, .aload_n 0, 1), (29, .iconst 2, 1), (30, .invokevirtual 96, 3), (33, .ireturn, 1), (34, .aload_n 0, 1), (35, .getfield 44, 3), (38, .aload_n 0, 1), (39, .getfield 24, 3), (42, .invokevirtual 187, 3), (45, .aload_n 0, 1), (46, .getfield 24, 3), (49, .getfield 143, 3), (52, .istore_n 2, 1), (53, .aload_n 0, 1), (54, .getfield 24, 3), (57, .iload_n 1, 1), (58, .putfield 143, 3), (61, .aload_n 0, 1), (62, .iload_n 2, 1), (63, .invokevirtual 121, 3), (66, .ireturn, 1)]

def zc130 : List (Nat × Instr × Nat) := [(0, .aload_n 0, 1), (1, .getfield 69, 3), (4, .ifCond .ne 9, 3), (7, .aload_n 0, 1), (8, .iconst 1, 1), (9, .invokevirtual 96, 3), (12, .ireturn, 1), (13, .aload_n 0, 1), (14, .getfield 24, 3), (17, .invokevirtual 140, 3), (20, .istore_n 1, 1), (21, .aload_n 0, 1), (22, .getfield 24, 3), (25, .invokevirtual 216, 3), (28, .istore_n 2, 1), (29, .aload_n 0, 1), (30, .getfield 44, 3), (33, .aload_n 0, 1), (34, .getfield 24, 3), (37, .invokevirtual 187, 3), (40, .aload_n 0, 1), (41, .invokevirtual 219, 3), (44, .aload_n 0, 1), (45, .getfield 24, 3), (48, .aload_n 0, 1), (49, .getfield 28, 3), (52, .invokevirtual 222, 3), (55, .aload_n 0, 1), (56, .getfield 24, 3), (59, .aload_n 0, 1), (60, .getfield 24, 3), (63, .iload_n 2, 1), (64, .invokevirtual 225, 3), (67, .putfield 143, 3), (70, .aload_n 0, 1), (71, .invokevirtual 194, 3), (74, .pop, 1), (75, .aload_n 0, 1), (76, .iload_n 1, 1), (77, .aload_n 0, 1), (78, .getfield 24, 3), (81, .invokevirtual 140, 3), (84, .isub, 1), (85, .invokevirtual 121, 3), (88, .ireturn, 1)]

def zc131 : List (Nat × Instr × Nat) := [(0, .aload_n 0, 1), (1, .getfield 28, 3), (4, .invokevirtual 113, 3), (7, .iconst 0, 1), (8, .istore_n 1, 1), (9, .iload_n 1, 1), (10, .aload_n 0, 1), (11, .getfield 34, 3), (14, .getfield 131, 3), (17, .if_icmp .ge 74, 3), (20, .iload_n 1, 1), (21, .ifCond .le 20, 3), (24, .aload_n 0, 1), (25, .iload_n 1, 1), (26, .invokevirtual 228, 3), (29, .ifCond .ne 12, 3), (32, .aload_n 0, 1), (33, .getfield 28, 3), (36, .bipush 124, 2), (38, .invokevirtual 231, 3), (41, .aload_n 0, 1), (42, .getfield 34, 3), (45, .iload_n 1, 1), (46, .invokevirtual 232, 3), (49, .istore_n 2, 1), (50, .aload_n 0, 1), (51, .getfield 34, 3), (54, .iload_n 1, 1), (55, .invokevirtual 235, 3), (58, .istore_n 3, 1), (59, .iload_n 3, 1), (60, .iload_n 2, 1), (61, .if_icmp .ge 24, 3), (64, .aload_n 0, 1), (65, .getfield 28, 3), (68, .aload_n 0, 1), (69, .getfield 24, 3), (72, .iload_n 3, 1), (73, .invokevirtual 197, 3), (76, .invokevirtual 231, 3), (79, .iinc 3 1, 3), (82, .goto (-23), 3), (85, .iinc 1 1, 3), (88, .goto (-79), 3), (91, .return_, 1)]

def zc132 : List (Nat × Instr × Nat) := [(0, .aload_n 0, 1), (1, .getfield 38, 3), (4, .invokevirtual 114, 3), (7, .aload_n 0, 1), (8, .getfield 34, 3), (11, .iload_n 1, 1), (12, .invokevirtual 232, 3), (15, .istore_n 2, 1), (16, .aload_n 0, 1), (17, .getfield 34, 3), (20, .iload_n 1, 1), (21, .iconst 1, 1), (22, .isub, 1), (23, .invokevirtual 235, 3), (26, .istore_n 3, 1), (27, .iload_n 3, 1), (28, .iload_n 2, 1), (29, .if_icmp .ge 41, 3), (32, .aload_n 0, 1), (33, .getfield 24, 3), (36, .iload_n 3, 1), (37, .invokevirtual 197, 3), (40, .bipush 124, 2), (42, .if_icmp .eq 22, 3), (45, .aload_n 0, 1), (46, .getfield 38, 3), (49, .aload_n 0, 1), (50, .getfield 62, 3), (53, .aload_n 0, 1), (54, .getfield 24, 3), (57, .iload_n 3, 1), (58, .invokevirtual 197, 3), (61, .invokevirtual 200, 3), (64, .iinc 3 1, 3), (67, .goto (-40), 3), (70, .aload_n 0, 1), (71, .getfield 38, 3), (74, .getfield 131, 3), (77, .iconst 2, 1), (78, .if_icmp .ne 41, 3), (81, .aload_n 0, 1), (82, .getfield 38, 3), (85, .iconst 0, 1), (86, .aload_n 0, 1), (87, .getfield 34, 3), (90, .iload_n 1, 1), (91, .iconst 1, 1), (92, .isub, 1), (93, .invokevirtual 238, 3), (96, .ifCond .eq 23, 3), (99, .aload_n 0, 1), (100, .getfield 38, 3), (103, .iconst 1, 1), (104, .aload_n 0, 1), (105, .getfield 34, 3), (108, .iload_n 1, 1), (109, .invokevirtual 238, 3), (112, .ifCond .eq 7, 3), (115, .iconst 1, 1), (116, .goto 4, 3), (119, .iconst 0, 1), (120, .ireturn, 1)]

def zc133 : List (Nat × Instr × Nat) := [(0, .aload_n 0, 1), (1, .getfield 69, 3), (4, .ifCond .ne 9, 3), (7, .aload_n 0, 1), (8, .iconst 1, 1), (9, .invokevirtual 96, 3), (12, .ireturn, 1), (13, .aload_n 0, 1), (14, .getfield 20, 3), (17, .iload_n 1, 1), (18, .invokevirtual 92, 3), (21, .ifCond .eq 13, 3), (24, .iload_n 1, 1), (25, .ifCond .eq 9, 3), (28, .iload_n 1, 1), (29, .iconst 1, 1), (30, .iand, 1), (31, .ifCond .eq 9, 3), (34, .aload_n 0, 1), (35, .iconst 2, 1), (36, .invokevirtual 96, 3), (39, .ireturn, 1), (40, .aload_n 0, 1), (41, .iload_n 1, 1), (42, .invokevirtual 242, 3), (45, .ifCond .eq 7, 3), (48, .iconst 0, 1), (49, .goto 4, 3), (52, .iconst 5, 1), (53, .istore_n 2, 1), (54, .iload_n 2, 1), (55, .ifCond .ne 40, 3), (58, .aload_n 0, 1), (59, .iload_n 1, 1), (60, .invokevirtual 245, 3), (63, .aload_n 0, 1), (64, .getfield 28, 3), (67, .getfield 248, 3), (70, .ifCond .ne 23, 3), (73, .aload_n 0, 1), (74, .getfield 24, 3), (77, .getfield 130, 3), (80, .aload_n 0, 1), (81, .getfield 28, 3), (84, .getfield 130, 3), (87, .iadd, 1), (88, .bipush 80, 2), (90, .if_icmp .le 5, 3), (93, .iconst 3, 1), (94, .istore_n 2, 1), (95, .aload_n 0, 1), (96, .getfield 20, 3), (99, .invokevirtual 104, 3), (102, .iload_n 2, 1), (103, .ifCond .eq 9, 3), (106, .aload_n 0, 1), (107, .iload_n 2, 1), (108, .invokevirtual 96, 3), (111, .ireturn, 1), (112, .aload_n 0, 1), (113, .getfield 44, 3), (116, .aload_n 0, 1), (117, .getfield 24, 3), (120, .invokevirtual 187, 3), (123, .iconst 0, 1), (124, .istore_n 3, 1), (125, .iload_n 3, 1), (126, .aload_n 0, 1), (127, .getfield 28, 3), (130, .getfield 130, 3), (133, .if_icmp .ge 24, 3), (136, .aload_n 0, 1), (137, .getfield 24, 3), (140, .aload_n 0, 1), (141, .getfield 28, 3), (144, .iload_n 3, 1), (145, .invokevirtual 197, 3), (148, .invokevirtual 191, 3), (151, .iinc 3 1, 3), (154, .goto (-29), 3), (157, .aload_n 0, 1), (158, .invokevirtual 194, 3), (161, .ireturn, 1)]

def zc134 : List (Nat × Instr × Nat) := [(0, .iconst 0, 1), (1, .istore_n 2, 1), (2, .iload_n 2, 1), (3, .iload_n 1, 1), (4, .if_icmp .ge 29, 3), (7, .aload_n 0, 1), (8, .getfield 62, 3), (11, .aload_n 0, 1), (12, .getfield 20, 3), (15, .iload_n 2, 1), (16, .invokevirtual 251, 3), (19, .invokevirtual 175, 3), (22, .ifCond .ne 5, 3), (25, .iconst 0, 1), (26, .ireturn, 1), (27, .iinc 2 2, 3), (30, .goto (-28), 3), (33, .iconst 1, 1), (34, .ireturn, 1)]

def zc135 : List (Nat × Instr × Nat) := [(0, .aload_n 0, 1), (1, .getfield 28, 3), (4, .invokevirtual 113, 3), (7, .aload_n 0, 1), (8, .getfield 24, 3), (11, .getfield 143, 3), (14, .ifCond .le 12, 3), (17, .aload_n 0, 1), (18, .getfield 28, 3), (21, .bipush 124, 2), (23, .invokevirtual 231, 3), (26, .iconst 0, 1), (27, .istore_n 2, 1), (28, .iload_n 2, 1), (29, .iload_n 1, 1), (30, .if_icmp .ge 71, 3), (33, .aload_n 0, 1), (34, .getfield 28, 3), (37, .getfield 248, 3), (40, .ifCond .ne 61, 3), (43, .aload_n 0, 1), (44, .getfield 20, 3), (47, .iload_n 2, 1), (48, .invokevirtual 251, 3), (51, .istore_n 3, 1), (52, .iload_n 2, 1), (53, .ifCond .le 30, 3), (56, .aload_n 0, 1), (57, .aload_n 0, 1), (58, .getfield 20, 3), (61, .iload_n 2, 1), (62, .iconst 2, 1), (63, .isub, 1), (64, .invokevirtual 251, 3), (67, .iload_n 3, 1), (68, .invokevirtual 254, 3), (71, .ifCond .ne 12, 3), (74, .aload_n 0, 1), (75, .getfield 28, 3), (78, .bipush 124, 2), (80, .invokevirtual 231, 3), (83, .aload_n 0, 1), (84, .getfield 28, 3), (87, .aload_n 0, 1), (88, .getfield 62, 3), (91, .iload_n 3, 1), (92, .invokevirtual 258, 3), (95, .iinc 2 2, 3), (98, .goto (-70), 3), (101, .aload_n 0, 1), (102, .getfield 24, 3), (105, .getfield 143, 3), (108, .aload_n 0, 1), (109, .getfield 24, 3), (112, .getfield 130, 3), (115, .if_icmp .ge 12, 3), (118, .aload_n 0, 1), (119, .getfield 28, 3), (122, .bipush 124, 2), (124, .invokevirtual 231, 3), (127, .return_, 1)]

def zc136 : List (Nat × Instr × Nat) := [(0, .aload_n 0, 1), (1, .getfield 38, 3), (4, .invokevirtual 114, 3), (7, .iconst 0, 1), (8, .istore_n 3, 1), (9, .iload_n 3, 1), (10, .bipush 12, 2), (12, .if_icmp .ge 74, 3), (15, .iload_n 3, 1), (16, .bipush 6, 2), (18, .if_icmp .lt 7, 3), (21, .iconst 1, 1), (22, .goto 4, 3), (25, .iconst 0, 1), (26, .istore 4, 2), (28, .aload_n 0, 1), (29, .getfield 62, 3), (32, .iload 4, 2), (34, .ifCond .eq 7, 3), (37, .iload_n 2, 1), (38, .goto 4, 3), (41, .iload_n 1, 1), (42, .iload 4, 2), (44, .ifCond .eq 10, 3), (47, .iload_n 3, 1), (48, .bipush 6, 2), (50, .isub, 1), (51, .goto 4, 3), (54, .iload_n 3, 1), (55, .invokevirtual 181, 3), (58, .istore 5, 2), (60, .iload 5, 2), (62, .bipush (-2), 2), (64, .if_icmp .eq 16, 3), (67, .aload_n 0, 1), (68, .getfield 38, 3), (71, .aload_n 0, 1), (72, .getfield 62, 3), (75, .iload 5, 2), (77, .invokevirtual 200, 3), (80, .iinc 3 1, 3), (83, .goto (-74), 3), (86, .aload_n 0, 1), (87, .getfield 38, 3), (90, .getfield 131, 3), (93, .iconst 2, 1), (94, .if_icmp .ne 39, 3), (97, .aload_n 0, 1), (98, .getfield 38, 3), (101, .aload_n 0, 1), (102, .getfield 62, 3), (105, .iconst 0, 1), (106, .invokevirtual 261, 3), (109, .iload_n 1, 1), (110, .if_icmp .ne 23, 3), (113, .aload_n 0, 1), (114, .getfield 38, 3), (117, .aload_n 0, 1), (118, .getfield 62, 3), (121, .iconst 1, 1), (122, .invokevirtual 261, 3), (125, .iload_n 2, 1), (126, .if_icmp .ne 7, 3), (129, .iconst 1, 1), (130, .goto 4, 3), (133, .iconst 0, 1), (134, .ireturn, 1)]

def zc137 : List (Nat × Instr × Nat) := [(0, .aload_n 0, 1), (1, .getfield 69, 3), (4, .ifCond .ne 9, 3), (7, .aload_n 0, 1), (8, .iconst 1, 1), (9, .invokevirtual 96, 3), (12, .ireturn, 1), (13, .aload_n 0, 1), (14, .getfield 44, 3), (17, .getfield 146, 3), (20, .ifCond .gt 9, 3), (23, .aload_n 0, 1), (24, .iconst 5, 1), (25, .invokevirtual 96, 3), (28, .ireturn, 1), (29, .aload_n 0, 1), (30, .getfield 44, 3), (33, .aload_n 0, 1), (34, .getfield 24, 3), (37, .invokevirtual 265, 3), (40, .aload_n 0, 1), (41, .invokevirtual 194, 3), (44, .pop, 1), (45, .aload_n 0, 1), (46, .aload_n 0, 1), (47, .getfield 44, 3), (50, .getfield 146, 3), (53, .invokevirtual 121, 3), (56, .ireturn, 1)]

def zc138 : List (Nat × Instr × Nat) := [(0, .aload_n 0, 1), (1, .getfield 24, 3), (4, .iload_n 1, 1), (5, .invokevirtual 268, 3), (8, .ifCond .ne 9, 3), (11, .aload_n 0, 1), (12, .iconst 1, 1), (13, .invokevirtual 96, 3), (16, .ireturn, 1), (17, .aload_n 0, 1), (18, .aload_n 0, 1), (19, .getfield 24, 3), (22, .iload_n 1, 1), (23, .invokevirtual 197, 3), (26, .invokevirtual 121, 3), (29, .ireturn, 1)]

def zc139 : List (Nat × Instr × Nat) := [(0, .aload_n 0, 1), (1, .getfield 24, 3), (4, .iload_n 1, 1), (5, .invokevirtual 268, 3), (8, .ifCond .eq 12, 3), (11, .iload_n 2, 1), (12, .ifCond .lt 8, 3), (15, .iload_n 2, 1), (16, .iconst 2, 1), (17, .if_icmp .le 9, 3), (20, .aload_n 0, 1), (21, .iconst 1, 1), (22, .invokevirtual 96, 3), (25, .ireturn, 1), (26, .aload_n 0, 1), (27, .aload_n 0, 1), (28, .getfield 34, 3), (31, .iload_n 1, 1), (32, .iload_n 2, 1), (33, .invokevirtual 271, 3), (36, .invokevirtual 121, 3), (39, .ireturn, 1)]

def zc140 : List (Nat × Instr × Nat) := [(0, .aload_n 0, 1), (1, .getfield 34, 3), (4, .iload_n 1, 1), (5, .invokevirtual 274, 3), (8, .ifCond .eq 13, 3), (11, .iload_n 2, 1), (12, .ifCond .lt 9, 3), (15, .iload_n 2, 1), (16, .bipush 6, 2), (18, .if_icmp .le 9, 3), (21, .aload_n 0, 1), (22, .iconst 1, 1), (23, .invokevirtual 96, 3), (26, .ireturn, 1), (27, .aload_n 0, 1), (28, .aload_n 0, 1), (29, .getfield 34, 3), (32, .aload_n 0, 1), (33, .getfield 62, 3), (36, .iload_n 1, 1), (37, .iload_n 2, 1), (38, .invokevirtual 277, 3), (41, .invokevirtual 121, 3), (44, .ireturn, 1)]

def zc141 : List (Nat × Instr × Nat) := [(0, .aload_n 0, 1), (1, .getfield 69, 3), (4, .ifCond .ne 9, 3), (7, .aload_n 0, 1), (8, .iconst 1, 1), (9, .invokevirtual 96, 3), (12, .ireturn, 1), (13, .aload_n 0, 1), (14, .getfield 24, 3), (17, .getfield 143, 3), (20, .istore_n 1, 1), (21, .iload_n 1, 1), (22, .ifCond .le 37, 3), (25, .iload_n 1, 1), (26, .aload_n 0, 1), (27, .getfield 24, 3), (30, .getfield 130, 3), (33, .if_icmp .ge 26, 3), (36, .aload_n 0, 1), (37, .getfield 34, 3), (40, .iload_n 1, 1), (41, .iconst 1, 1), (42, .isub, 1), (43, .iconst 0, 1), (44, .invokevirtual 271, 3), (47, .aload_n 0, 1), (48, .getfield 34, 3), (51, .iload_n 1, 1), (52, .iconst 0, 1), (53, .invokevirtual 271, 3), (56, .if_icmp .eq 10, 3), (59, .aload_n 0, 1), (60, .bipush (-2), 2), (62, .invokevirtual 121, 3), (65, .ireturn, 1), (66, .aload_n 0, 1), (67, .aload_n 0, 1), (68, .getfield 34, 3), (71, .iload_n 1, 1), (72, .iconst 0, 1), (73, .invokevirtual 271, 3), (76, .invokevirtual 121, 3), (79, .ireturn, 1)]

def zc142 : List (Nat × Instr × Nat) := [(0, .aload_n 0, 1), (1, .getfield 24, 3), (4, .iload_n 1, 1), (5, .invokevirtual 268, 3), (8, .ifCond .ne 9, 3), (11, .aload_n 0, 1), (12, .iconst 1, 1), (13, .invokevirtual 96, 3), (16, .ireturn, 1), (17, .aload_n 0, 1), (18, .getfield 24, 3), (21, .iload_n 1, 1), (22, .invokevirtual 197, 3), (25, .bipush 124, 2), (27, .if_icmp .eq 9, 3), (30, .aload_n 0, 1), (31, .iconst 5, 1), (32, .invokevirtual 96, 3), (35, .ireturn, 1), (36, .aload_n 0, 1), (37, .getfield 38, 3), (40, .invokevirtual 114, 3), (43, .aload_n 0, 1), (44, .aload_n 0, 1), (45, .getfield 38, 3), (48, .iconst 0, 1), (49, .iload_n 1, 1), (50, .invokevirtual 281, 3), (53, .aload_n 0, 1), (54, .aload_n 0, 1), (55, .getfield 38, 3), (58, .iload_n 1, 1), (59, .iconst 1, 1), (60, .iadd, 1), (61, .aload_n 0, 1), (62, .getfield 24, 3), (65, .getfield 130, 3), (68, .invokevirtual 281, 3), (71, .aload_n 0, 1), (72, .getfield 38, 3), (75, .getfield 131, 3), (78, .aload_n 0, 1), (79, .getfield 34, 3), (82, .getfield 131, 3), (85, .if_icmp .ne 28, 3), (88, .aload_n 0, 1), (89, .getfield 38, 3), (92, .aload_n 0, 1), (93, .getfield 34, 3), (96, .invokevirtual 285, 3), (99, .aload_n 0, 1), (100, .getfield 34, 3), (103, .getfield 131, 3), (106, .if_icmp .ne 7, 3), (109, .iconst 1, 1), (110, .goto 4, 3), (113, .iconst 0, 1), (114, .istore_n 2, 1), (115, .aload_n 0, 1), (116, .iload_n 2, 1), (117, .ifCond .eq 7, 3), (120, .iconst 0, 1), (121, .goto 4, 3), (124, .iconst 1, 1), (125, .invokevirtual 121, 3), (128, .ireturn, 1)]

def zc143 : List (Nat × Instr × Nat) := [(0, .aload_n 0, 1), (1, .getfield 69, 3), (4, .ifCond .ne 9, 3), (7, .aload_n 0, 1), (8, .iconst 1, 1), (9, .invokevirtual 96, 3), (12, .ireturn, 1), (13, .aload_n 0, 1), (14, .invokevirtual 219, 3), (17, .aload_n 0, 1), (18, .aload_n 0, 1), (19, .getfield 28, 3), (22, .invokevirtual 140, 3), (25, .invokevirtual 121, 3), (28, .ireturn, 1)]

def zc144 : List (Nat × Instr × Nat) := [(0, .aload_n 0, 1), (1, .getfield 69, 3), (4, .ifCond .eq 20, 3), (7, .aload_n 0, 1), (8, .iload_n 1, 1), (9, .invokevirtual 210, 3), (12, .ifCond .eq 12, 3), (15, .iload_n 2, 1), (16, .ifCond .lt 8, 3), (19, .iload_n 2, 1), (20, .iconst 3, 1), (21, .if_icmp .le 9, 3), (24, .aload_n 0, 1), (25, .iconst 1, 1), (26, .invokevirtual 96, 3), (29, .ireturn, 1), (30, .aload_n 0, 1), (31, .getfield 24, 3), (34, .getfield 130, 3), (37, .bipush 80, 2), (39, .if_icmp .lt 9, 3), (42, .aload_n 0, 1), (43, .iconst 3, 1), (44, .invokevirtual 96, 3), (47, .ireturn, 1), (48, .aload_n 0, 1), (49, .getfield 38, 3), (52, .invokevirtual 114, 3), (55, .aload_n 0, 1), (56, .aload_n 0, 1), (57, .getfield 38, 3), (60, .iconst 0, 1), (61, .aload_n 0, 1), (62, .getfield 24, 3), (65, .getfield 143, 3), (68, .invokevirtual 281, 3), (71, .aload_n 0, 1), (72, .getfield 38, 3), (75, .aload_n 0, 1), (76, .getfield 62, 3), (79, .iload_n 1, 1), (80, .invokevirtual 200, 3), (83, .aload_n 0, 1), (84, .aload_n 0, 1), (85, .getfield 38, 3), (88, .aload_n 0, 1), (89, .getfield 24, 3), (92, .getfield 143, 3), (95, .aload_n 0, 1), (96, .getfield 24, 3), (99, .getfield 130, 3), (102, .invokevirtual 281, 3), (105, .iload_n 2, 1), (106, .ifCond .ne 15, 3), (109, .aload_n 0, 1), (110, .aload_n 0, 1), (111, .getfield 38, 3), (114, .getfield 131, 3), (117, .invokevirtual 121, 3), (120, .ireturn, 1), (121, .iload_n 2, 1), (122, .iconst 3, 1), (123, .if_icmp .ne 15, 3), (126, .aload_n 0, 1), (127, .aload_n 0, 1), (128, .getfield 38, 3), (131, .getfield 137, 3), (134, .invokevirtual 121, 3), (137, .ireturn, 1), (138, .aload_n 0, 1), (139, .getfield 38, 3), (142, .aload_n 0, 1), (143, .getfield 34, 3), (146, .invokevirtual 285, 3), (149, .istore_n 3, 1), (150, .aload_n 0, 1), (151, .iload_n 2, 1), (152, .iconst 1, 1), (153, .if_icmp .ne 7, 3), (156, .iload_n 3, 1), (157, .goto 15, 3), (160, .aload_n 0, 1), (161, .getfield 38, 3), (164, .aload_n 0, 1), (165, .getfield 34, 3), (168, .iload_n 3, 1), (169, .invokevirtual 289, 3), (172, .invokevirtual 121, 3), (175, .ireturn, 1)]

def zc145 : List (Nat × Instr × Nat) := [(0, .aload_n 0, 1), (1, .getfield 34, 3), (4, .iload_n 2, 1), (5, .invokevirtual 274, 3), (8, .ifCond .ne 9, 3), (11, .aload_n 0, 1), (12, .iconst 1, 1), (13, .invokevirtual 96, 3), (16, .ireturn, 1), (17, .iload_n 1, 1), (18, .iconst 1, 1), (19, .if_icmp .lt 20, 3), (22, .iload_n 1, 1), (23, .bipush 20, 2), (25, .if_icmp .gt 14, 3), (28, .aload_n 0, 1), (29, .getfield 20, 3), (32, .iload_n 1, 1), (33, .invokevirtual 92, 3), (36, .ifCond .ne 9, 3), (39, .aload_n 0, 1), (40, .iconst 2, 1), (41, .invokevirtual 96, 3), (44, .ireturn, 1), (45, .aload_n 0, 1), (46, .iload_n 1, 1), (47, .invokevirtual 293, 3), (50, .istore_n 3, 1), (51, .bipush (-2), 2), (53, .istore 4, 2), (55, .iload_n 2, 1), (56, .istore 5, 2), (58, .iload_n 3, 1), (59, .ifCond .eq 44, 3), (62, .iload 4, 2), (64, .bipush (-2), 2), (66, .if_icmp .ne 37, 3), (69, .iload 5, 2), (71, .iload_n 1, 1), (72, .iadd, 1), (73, .aload_n 0, 1), (74, .getfield 34, 3), (77, .getfield 131, 3), (80, .if_icmp .gt 23, 3), (83, .aload_n 0, 1), (84, .iload_n 1, 1), (85, .iload 5, 2), (87, .invokevirtual 296, 3), (90, .ifCond .eq 7, 3), (93, .iload 5, 2), (95, .istore 4, 2), (97, .iinc 5 1, 3), (100, .goto (-42), 3), (103, .aload_n 0, 1), (104, .getfield 20, 3), (107, .invokevirtual 104, 3), (110, .iload_n 3, 1), (111, .ifCond .eq 12, 3), (114, .aload_n 0, 1), (115, .iload 4, 2), (117, .invokevirtual 121, 3), (120, .goto 8, 3), (123, .aload_n 0, 1), (124, .iconst 5, 1), (125, .invokevirtual 96, 3), (128, .ireturn, 1)]

def zc146 : List (Nat × Instr × Nat) := [(0, .iconst 0, 1), (1, .istore_n 2, 1), (2, .iload_n 2, 1), (3, .iload_n 1, 1), (4, .if_icmp .ge 29, 3), (7, .aload_n 0, 1), (8, .getfield 62, 3), (11, .aload_n 0, 1), (12, .getfield 20, 3), (15, .iload_n 2, 1), (16, .invokevirtual 207, 3), (19, .invokevirtual 149, 3), (22, .ifCond .ne 5, 3), (25, .iconst 0, 1), (26, .ireturn, 1), (27, .iinc 2 1, 3), (30, .goto (-28), 3), (33, .iconst 1, 1), (34, .ireturn, 1)]

def zc147 : List (Nat × Instr × Nat) := [(0, .iconst 0, 1), (1, .istore_n 3, 1), (2, .iload_n 3, 1), (3, .iload_n 1, 1), (4, .if_icmp .ge 67, 3), (7, .iload_n 2, 1), (8, .iload_n 3, 1), (9, .iadd, 1), (10, .istore 4, 2), (12, .aload_n 0, 1), (13, .getfield 34, 3), (16, .iload 4, 2), (18, .invokevirtual 274, 3), (21, .ifCond .eq 42, 3), (24, .aload_n 0, 1), (25, .getfield 34, 3), (28, .iload 4, 2), (30, .invokevirtual 299, 3), (33, .ifCond .ne 30, 3), (36, .aload_n 0, 1), (37, .getfield 24, 3), (40, .aload_n 0, 1), (41, .getfield 34, 3), (44, .iload 4, 2), (46, .invokevirtual 235, 3), (49, .invokevirtual 197, 3), (52, .aload_n 0, 1), (53, .getfield 20, 3), (56, .iload_n 3, 1), (57, .invokevirtual 207, 3), (60, .if_icmp .eq 5, 3), (63, .iconst 0, 1), (64, .ireturn, 1), (65, .iinc 3 1, 3), (68, .goto (-66), 3), (71, .iconst 1, 1), (72, .ireturn, 1)]

def zc148 : List (Nat × Instr × Nat) := [(0, .aload_n 0, 1), (1, .getfield 34, 3), (4, .iload_n 1, 1), (5, .invokevirtual 274, 3), (8, .ifCond .ne 9, 3), (11, .aload_n 0, 1), (12, .iconst 1, 1), (13, .invokevirtual 96, 3), (16, .ireturn, 1), (17, .iconst 0, 1), (18, .istore_n 2, 1), (19, .iload_n 2, 1), (20, .aload_n 0, 1), (21, .getfield 34, 3), (24, .getfield 131, 3), (27, .if_icmp .ge 20, 3), (30, .aload_n 0, 1), (31, .getfield 55, 3), (34, .iload_n 2, 1), (35, .aload_n 0, 1), (36, .iload_n 2, 1), (37, .invokevirtual 302, 3), (40, .iastore, 1), (41, .iinc 2 1, 3), (44, .goto (-25), 3), (47, .bipush (-2), 2), (49, .istore_n 2, 1), (50, .iconst 0, 1), (51, .istore_n 3, 1), (52, .iload_n 2, 1), (53, .bipush (-2), 2), (55, .if_icmp .ne 31, 3), (58, .iload_n 3, 1), (59, .aload_n 0, 1), (60, .getfield 34, 3), (63, .getfield 131, 3), (66, .if_icmp .ge 20, 3), (69, .aload_n 0, 1), (70, .iload_n 3, 1), (71, .invokevirtual 305, 3), (74, .iload_n 1, 1), (75, .if_icmp .ne 5, 3), (78, .iload_n 3, 1), (79, .istore_n 2, 1), (80, .iinc 3 1, 3), (83, .goto (-31), 3), (86, .aload_n 0, 1), (87, .iload_n 2, 1), (88, .invokevirtual 121, 3), (91, .ireturn, 1)]

def zc149 : List (Nat × Instr × Nat) := [(0, .aload_n 0, 1), (1, .getfield 34, 3), (4, .iload_n 1, 1), (5, .invokevirtual 299, 3), (8, .istore_n 2, 1), (9, .iload_n 2, 1), (10, .tableswitch 71 0 2 #[26, 39, 55], 26), (36, .aload_n 0, 1), (37, .getfield 34, 3), (40, .aload_n 0, 1), (41, .getfield 62, 3), (44, .iload_n 1, 1), (45, .invokevirtual 261, 3), (48, .ireturn, 1), (49, .iload_n 2, 1), (50, .ldc_w 308, 3), (53, .imul, 1), (54, .aload_n 0, 1), (55, .getfield 34, 3), (58, .getfield 309, 3), (61, .iload_n 1, 1), (62, .iaload, 1), (63, .iadd, 1), (64, .ireturn, 1), (65, .iload_n 2, 1), (66, .ldc_w 308, 3), (69, .imul, 1), (70, .aload_n 0, 1), (71, .getfield 34, 3), (74, .getfield 312, 3), (77, .iload_n 1, 1), (78, .iaload, 1), (79, .iadd, 1), (80, .ireturn, 1), (81, .iload_n 2, 1), (82, .ldc_w 308, 3), (85, .imul, 1), (86, .aload_n 0, 1), (87, .getfield 34, 3), (90, .getfield 315, 3), (93, .iload_n 1, 1), (94, .iaload, 1), (95, .iadd, 1), (96, .ireturn, 1)]

def zc150 : List (Nat × Instr × Nat) := [(0, .iconst 0, 1), (1, .istore_n 2, 1), (2, .iconst 0, 1), (3, .istore_n 3, 1), (4, .iload_n 3, 1), (5, .aload_n 0, 1), (6, .getfield 34, 3), (9, .getfield 131, 3), (12, .if_icmp .ge 47, 3), (15, .aload_n 0, 1), (16, .getfield 55, 3), (19, .iload_n 3, 1), (20, .iaload, 1), (21, .aload_n 0, 1), (22, .getfield 55, 3), (25, .iload_n 1, 1), (26, .iaload, 1), (27, .if_icmp .lt 23, 3), (30, .aload_n 0, 1), (31, .getfield 55, 3), (34, .iload_n 3, 1), (35, .iaload, 1), (36, .aload_n 0, 1), (37, .getfield 55, 3), (40, .iload_n 1, 1), (41, .iaload, 1), (42, .if_icmp .ne 11, 3), (45, .iload_n 3, 1), (46, .iload_n 1, 1), (47, .if_icmp .ge 6, 3), (50, .iinc 2 1, 3), (53, .iinc 3 1, 3), (56, .goto (-52), 3), (59, .iload_n 2, 1), (60, .ireturn, 1)]

def zc151 : List (Nat × Instr × Nat) := [(0, .aload_n 0, 1), (1, .getfield 69, 3), (4, .ifCond .ne 10, 3), (7, .aload_n 0, 1), (8, .iconst 1, 1), (9, .invokevirtual 96, 3), (12, .i2l, 1), (13, .lreturn, 1), (14, .iload_n 1, 1), (15, .ifCond .lt 19, 3), (18, .iload_n 1, 1), (19, .bipush 8, 2), (21, .if_icmp .gt 13, 3), (24, .iload_n 2, 1), (25, .ifCond .lt 9, 3), (28, .iload_n 2, 1), (29, .bipush 8, 2), (31, .if_icmp .le 10, 3), (34, .aload_n 0, 1), (35, .iconst 2, 1), (36, .invokevirtual 96, 3), (39, .i2l, 1), (40, .lreturn, 1), (41, .aload_n 0, 1), (42, .getfield 51, 3), (45, .aload_n 0, 1), (46, .getfield 62, 3), (49, .aload_n 0, 1), (50, .getfield 38, 3), (53, .invokevirtual 318, 3), (56, .aload_n 0, 1), (57, .iconst 0, 1), (58, .invokevirtual 121, 3), (61, .pop, 1), (62, .aload_n 0, 1), (63, .getfield 51, 3), (66, .iload_n 1, 1), (67, .iload_n 2, 1), (68, .invokevirtual 322, 3), (71, .lreturn, 1)]

def zc152 : List (Nat × Instr × Nat) := [(0, .aload_n 0, 1), (1, .getfield 69, 3), (4, .ifCond .ne 10, 3), (7, .aload_n 0, 1), (8, .iconst 1, 1), (9, .invokevirtual 96, 3), (12, .i2l, 1), (13, .lreturn, 1), (14, .iload_n 1, 1), (15, .ifCond .lt 9, 3), (18, .iload_n 1, 1), (19, .bipush 8, 2), (21, .if_icmp .le 10, 3), (24, .aload_n 0, 1), (25, .iconst 2, 1), (26, .invokevirtual 96, 3), (29, .i2l, 1), (30, .lreturn, 1), (31, .aload_n 0, 1), (32, .getfield 51, 3), (35, .aload_n 0, 1), (36, .getfield 62, 3), (39, .aload_n 0, 1), (40, .getfield 38, 3), (43, .invokevirtual 318, 3), (46, .aload_n 0, 1), (47, .iconst 0, 1), (48, .invokevirtual 121, 3), (51, .pop, 1), (52, .aload_n 0, 1), (53, .getfield 51, 3), (56, .iload_n 1, 1), (57, .invokevirtual 326, 3), (60, .lreturn, 1)]

def zc153 : List (Nat × Instr × Nat) := [(0, .aload_n 0, 1), (1, .getfield 62, 3), (4, .iload_n 1, 1), (5, .invokevirtual 330, 3), (8, .astore_n 3, 1), (9, .aload_n 0, 1), (10, .getfield 69, 3), (13, .ifCond .eq 15, 3), (16, .aload_n 3, 1), (17, .ifnull 11, 3), (20, .aload_n 3, 1), (21, .iload_n 2, 1), (22, .invokevirtual 334, 3), (25, .ifCond .ne 11, 3), (28, .new 337, 3), (31, .dup, 1), (32, .invokespecial 339, 3), (35, .athrow, 1), (36, .aload_n 3, 1), (37, .iload_n 2, 1), (38, .invokevirtual 340, 3), (41, .ireturn, 1)]

def zc154 : List (Nat × Instr × Nat) := [(0, .aload_n 0, 1), (1, .getfield 20, 3), (4, .getfield 83, 3), (7, .ireturn, 1)]

def zc155 : List (Nat × Instr × Nat) := [(0, .aload_n 0, 1), (1, .getfield 80, 3), (4, .ireturn, 1)]

def zc156 : List (Nat × Instr × Nat) := [(0, .aload_n 0, 1), (1, .iconst 0, 1), (2, .putfield 80, 3), (5, .aload_n 0, 1), (6, .iconst (-1), 1), (7, .putfield 77, 3), (10, .iload_n 1, 1), (11, .ireturn, 1)]

def zc157 : List (Nat × Instr × Nat) := [(0, .aload_n 0, 1), (1, .iload_n 1, 1), (2, .putfield 80, 3), (5, .aload_n 0, 1), (6, .iconst (-1), 1), (7, .putfield 77, 3), (10, .iconst (-1), 1), (11, .ireturn, 1)]

def zc158 : List (Nat × Instr × Nat) := [(0, .iload_n 0, 1), (1, .bipush 97, 2), (3, .if_icmp .lt 13, 3), (6, .iload_n 0, 1), (7, .bipush 123, 2), (9, .if_icmp .ge 7, 3), (12, .iconst 1, 1), (13, .goto 4, 3), (16, .iconst 0, 1), (17, .ireturn, 1)]

def zc159 : List (Nat × Instr × Nat) := [(0, .aload_n 0, 1), (1, .invokespecial 1, 3), (4, .aload_n 0, 1), (5, .iconst (-1), 1), (6, .putfield 9, 3), (9, .aload_n 0, 1), (10, .sipush 300, 3), (13, .newarray .int, 2), (15, .putfield 13, 3), (18, .aload_n 0, 1), (19, .bipush 52, 2), (21, .newarray .int, 2), (23, .putfield 17, 3), (26, .aload_n 0, 1), (27, .bipush 10, 2), (29, .newarray .int, 2), (31, .putfield 20, 3), (34, .aload_n 0, 1), (35, .bipush 20, 2), (37, .newarray .int, 2), (39, .putfield 23, 3), (42, .aload_n 0, 1), (43, .bipush 16, 2), (45, .newarray .int, 2), (47, .putfield 26, 3), (50, .aload_n 0, 1), (51, .bipush 8, 2), (53, .newarray .int, 2), (55, .putfield 29, 3), (58, .aload_n 0, 1), (59, .bipush 8, 2), (61, .newarray .int, 2), (63, .putfield 32, 3), (66, .aload_n 0, 1), (67, .bipush 32, 2), (69, .newarray .int, 2), (71, .putfield 35, 3), (74, .aload_n 0, 1), (75, .bipush 26, 2), (77, .newarray .int, 2), (79, .putfield 38, 3), (82, .aload_n 0, 1), (83, .bipush 26, 2), (85, .newarray .int, 2), (87, .putfield 41, 3), (90, .aload_n 0, 1), (91, .bipush 26, 2), (93, .newarray .int, 2), (95, .putfield 44, 3), (98, .aload_n 0, 1), (99, .bipush 26, 2), (101, .newarray .int, 2), (103, .putfield 47, 3), (106, .aload_n 0, 1), (107, .bipush 14, 2), (109, .newarray .int, 2), (111, .putfield 50, 3), (114, .aload_n 0, 1), (115, .bipush 32, 2), (117, .newarray .int, 2), (119, .putfield 53, 3), (122, .aload_n 0, 1), (123, .bipush 38, 2), (125, .newarray .int, 2), (127, .putfield 56, 3), (130, .aload_n 0, 1), (131, .bipush 80, 2), (133, .newarray .int, 2), (135, .putfield 59, 3), (138, .aload_n 0, 1), (139, .iconst 3, 1), (140, .newarray .int, 2), (142, .putfield 62, 3), (145, .aload_n 0, 1), (146, .sipush 600, 3), (149, .newarray .int, 2), (151, .putfield 65, 3), (154, .aload_n 0, 1), (155, .sipush 600, 3), (158, .newarray .int, 2), (160, .putfield 68, 3), (163, .aload_n 0, 1), (164, .sipush 600, 3), (167, .newarray .int, 2), (169, .putfield 71, 3), (172, .aload_n 0, 1), (173, .sipush 600, 3), (176, .newarray .int, 2), (178, .putfield 74, 3), (181, .aload_n 0, 1), (182, .sipush 600, 3), (185, .newarray .int, 2), (187, .putfield 77, 3), (190, .aload_n 0, 1), (191, .sipush 600, 3), (194, .newarray .int, 2), (196, .putfield 80, 3), (199, .aload_n 0, 1), (200, .iconst 3, 1), (201, .newarray .int, 2), (203, .putfield 83, 3), (206, .aload_n 0, 1), (207, .sipush 400, 3), (210, .newarray .int, 2), (212, .putfield 86, 3), (215, .aload_n 0, 1), (216, .sipush 400, 3), (219, .newarray .int, 2), (221, .putfield 89, 3), (224, .aload_n 0, 1), (225, .sipush 400, 3), (228, .newarray .int, 2), (230, .putfield 92, 3), (233, .aload_n 0, 1), (234, .sipush 400, 3), (237, .newarray .int, 2), (239, .putfield 95, 3), (242, .aload_n 0, 1), (243, .sipush 201, 3), (246, .newarray .int, 2), (248, .putfield 98, 3), (251, .aload_n 0, 1), (252, .sipush 400, 3), (255, .newarray .int, 2), (257, .putfield 101, 3), (260, .aload_n 0, 1), (261, .bipush 6, 2), (263, .newarray .int, 2), (265, .putfield 104, 3), (268, .aload_n 0, 1), (269, .sipush 2400, 3), (272, .newarray .int, 2), (274, .putfield 107, 3), (277, .aload_n 0, 1), (278, .bipush 30, 2), (280, .newarray .int, 2), (282, .putfield 110, 3), (285, .aload_n 0, 1), (286, .bipush 30, 2), (288, .newarray .int, 2), (290, .putfield 113, 3), (293, .aload_n 0, 1), (294, .iconst 1, 1), (295, .newarray .int, 2), (297, .putfield 116, 3), (300, .aload_n 0, 1), (301, .sipush 400, 3), (304, .newarray .int, 2), (306, .putfield 119, 3), (309, .aload_n 0, 1), (310, .sipush 900, 3), (313, .newarray .long, 2), (315, .putfield 122, 3), (318, .aload_n 0, 1), (319, .sipush 900, 3), (322, .newarray .long, 2), (324, .putfield 126, 3), (327, .return_, 1)]

def zc160 : List (Nat × Instr × Nat) := [(0, .aload_n 0, 1), (1, .getfield 129, 3), (4, .ireturn, 1)]

def zc161 : List (Nat × Instr × Nat) := [(0, .iload_n 0, 1), (1, .iload_n 1, 1), (2, .if_icmp .lt 12, 3), (5, .iload_n 0, 1), (6, .iload_n 2, 1), (7, .if_icmp .gt 7, 3), (10, .iconst 1, 1), (11, .goto 4, 3), (14, .iconst 0, 1), (15, .ireturn, 1)]

def zc162 : List (Nat × Instr × Nat) := [(0, .aload_n 0, 1), (1, .iload_n 1, 1), (2, .putfield 132, 3), (5, .iconst (-1), 1), (6, .ireturn, 1)]

def zc163 : List (Nat × Instr × Nat) := [(0, .aload_n 0, 1), (1, .iconst 0, 1), (2, .putfield 129, 3), (5, .aload_n 0, 1), (6, .iconst (-1), 1), (7, .putfield 9, 3), (10, .aload_n 0, 1), (11, .iload_n 1, 1), (12, .putfield 132, 3), (15, .iload_n 1, 1), (16, .ifCond .eq 7, 3), (19, .iconst 1, 1), (20, .goto 4, 3), (23, .iconst 0, 1), (24, .ireturn, 1)]

def zc164 : List (Nat × Instr × Nat) := [(0, .iload_n 0, 1), (1, .ifCond .eq 7, 3), (4, .iconst 0, 1), (5, .goto 4, 3), (8, .iconst 1, 1), (9, .ireturn, 1)]

def zc165 : List (Nat × Instr × Nat) := [(0, .iload_n 0, 1), (1, .ifCond .ne 7, 3), (4, .iconst 1, 1), (5, .goto 12, 3), (8, .iload_n 1, 1), (9, .ifCond .eq 7, 3), (12, .iconst 0, 1), (13, .goto 4, 3), (16, .iconst 2, 1), (17, .ireturn, 1)]

def zc166 : List (Nat × Instr × Nat) := [(0, .aload_n 0, 1), (1, .iconst 0, 1), (2, .putfield 129, 3), (5, .aload_n 0, 1), (6, .getfield 135, 3), (9, .sipush 280, 3), (12, .if_icmp .le 5, 3), (15, .iconst (-1), 1), (16, .ireturn, 1), (17, .aload_n 0, 1), (18, .iload_n 1, 1), (19, .invokevirtual 138, 3), (22, .aload_n 0, 1), (23, .iload_n 2, 1), (24, .invokevirtual 138, 3), (27, .aload_n 0, 1), (28, .iload_n 3, 1), (29, .invokevirtual 138, 3), (32, .aload_n 0, 1), (33, .iload 4, 2), (35, .invokevirtual 138, 3), (38, .aload_n 0, 1), (39, .iload 5, 2), (41, .invokevirtual 138, 3), (44, .aload_n 0, 1), (45, .getfield 135, 3), (48, .ireturn, 1)]

def zc167 : List (Nat × Instr × Nat) := [(0, .iconst 0, 1), (1, .istore_n 2, 1), (2, .iload_n 2, 1), (3, .iconst 4, 1), (4, .if_icmp .ge 33, 3), (7, .aload_n 0, 1), (8, .getfield 13, 3), (11, .aload_n 0, 1), (12, .getfield 135, 3), (15, .iload_n 2, 1), (16, .iadd, 1), (17, .iload_n 1, 1), (18, .bipush 24, 2), (20, .bipush 8, 2), (22, .iload_n 2, 1), (23, .imul, 1), (24, .isub, 1), (25, .ishr, 1), (26, .sipush 255, 3), (29, .iand, 1), (30, .iastore, 1), (31, .iinc 2 1, 3), (34, .goto (-32), 3), (37, .aload_n 0, 1), (38, .dup, 1), (39, .getfield 135, 3), (42, .iconst 4, 1), (43, .iadd, 1), (44, .putfield 135, 3), (47, .return_, 1)]

def zc168 : List (Nat × Instr × Nat) := [(0, .iload_n 1, 1), (1, .aload_n 0, 1), (2, .getfield 142, 3), (5, .if_icmp .ge 12, 3), (8, .aload_n 0, 1), (9, .getfield 13, 3), (12, .iload_n 1, 1), (13, .iaload, 1), (14, .goto 4, 3), (17, .iconst (-1), 1), (18, .ireturn, 1)]

def zc169 : List (Nat × Instr × Nat) := [(0, .aload_n 0, 1), (1, .aload_n 0, 1), (2, .getfield 145, 3), (5, .invokevirtual 148, 3), (8, .bipush 32, 2), (10, .if_icmp .ne 16, 3), (13, .aload_n 0, 1), (14, .dup, 1), (15, .getfield 145, 3), (18, .iconst 1, 1), (19, .iadd, 1), (20, .putfield 145, 3), (23, .goto (-23), 3), (26, .aload_n 0, 1), (27, .aload_n 0, 1), (28, .getfield 145, 3), (31, .putfield 152, 3), (34, .aload_n 0, 1), (35, .aload_n 0, 1), (36, .getfield 145, 3), (39, .invokevirtual 148, 3), (42, .istore_n 1, 1), (43, .iload_n 1, 1), (44, .iconst (-1), 1), (45, .if_icmp .ne 9, 3), (48, .aload_n 0, 1), (49, .iconst 0, 1), (50, .putfield 155, 3), (53, .return_, 1), (54, .iload_n 1, 1), (55, .bipush 97, 2), (57, .bipush 122, 2), (59, .invokestatic 158, 3), (62, .ifCond .eq 57, 3), (65, .aload_n 0, 1), (66, .aload_n 0, 1), (67, .getfield 145, 3), (70, .invokevirtual 148, 3), (73, .bipush 97, 2), (75, .bipush 122, 2), (77, .invokestatic 158, 3), (80, .ifCond .eq 16, 3), (83, .aload_n 0, 1), (84, .dup, 1), (85, .getfield 145, 3), (88, .iconst 1, 1), (89, .iadd, 1), (90, .putfield 145, 3), (93, .goto (-28), 3), (96, .aload_n 0, 1), (97, .aload_n 0, 1), (98, .getfield 145, 3), (101, .aload_n 0, 1), (102, .getfield 152, 3), (105, .isub, 1), (106, .iconst 5, 1), (107, .if_icmp .le 7, 3), (110, .iconst 1, 1), (111, .goto 4, 3), (114, .iconst 2, 1), (115, .putfield 155, 3), (118, .return_, 1), (119, .aload_n 0, 1), (120, .dup, 1), (121, .getfield 145, 3), (124, .iconst 1, 1), (125, .iadd, 1), (126, .putfield 145, 3), (129, .aload_n 0, 1), (130, .iload_n 1, 1), (131, .bipush 59, 2), (133, .if_icmp .ne 7, 3), (136, .iload_n 1, 1), (137, .goto 4, 3), (140, .iconst 1, 1), (141, .putfield 155, 3), (144, .return_, 1)]

def zc170 : List (Nat × Instr × Nat) := [(0, .aload_n 0, 1), (1, .getfield 155, 3), (4, .iconst 2, 1), (5, .if_icmp .ne 19, 3), (8, .aload_n 0, 1), (9, .getfield 145, 3), (12, .aload_n 0, 1), (13, .getfield 152, 3), (16, .isub, 1), (17, .aload_n 1, 1), (18, .invokevirtual 162, 3), (21, .if_icmp .eq 5, 3), (24, .iconst 0, 1), (25, .ireturn, 1), (26, .iconst 0, 1), (27, .istore_n 2, 1), (28, .iload_n 2, 1), (29, .aload_n 1, 1), (30, .invokevirtual 162, 3), (33, .if_icmp .ge 30, 3), (36, .aload_n 0, 1), (37, .getfield 13, 3), (40, .aload_n 0, 1), (41, .getfield 152, 3), (44, .iload_n 2, 1), (45, .iadd, 1), (46, .iaload, 1), (47, .aload_n 1, 1), (48, .iload_n 2, 1), (49, .invokevirtual 168, 3), (52, .if_icmp .eq 5, 3), (55, .iconst 0, 1), (56, .ireturn, 1), (57, .iinc 2 1, 3), (60, .goto (-32), 3), (63, .iconst 1, 1), (64, .ireturn, 1)]

def zc171 : List (Nat × Instr × Nat) := [(0, .aload_n 0, 1), (1, .iload_n 1, 1), (2, .putfield 172, 3), (5, .aload_n 0, 1), (6, .aload_n 0, 1), (7, .getfield 152, 3), (10, .putfield 175, 3), (13, .iconst 0, 1), (14, .ireturn, 1)]

def zc172 : List (Nat × Instr × Nat) := [(0, .aload_n 0, 1), (1, .getfield 13, 3), (4, .aload_n 0, 1), (5, .getfield 152, 3), (8, .iaload, 1), (9, .bipush 97, 2), (11, .isub, 1), (12, .ireturn, 1)]

def zc173 : List (Nat × Instr × Nat) := [(0, .aload_n 0, 1), (1, .invokevirtual 178, 3), (4, .aload_n 0, 1), (5, .getfield 155, 3), (8, .iconst 2, 1), (9, .if_icmp .ne 16, 3), (12, .aload_n 0, 1), (13, .getfield 145, 3), (16, .aload_n 0, 1), (17, .getfield 152, 3), (20, .isub, 1), (21, .iconst 1, 1), (22, .if_icmp .eq 11, 3), (25, .aload_n 0, 1), (26, .iconst 1, 1), (27, .invokevirtual 181, 3), (30, .ifCond .eq 7, 3), (33, .iconst 1, 1), (34, .goto 4, 3), (37, .iconst 0, 1), (38, .ireturn, 1)]

def zc174 : List (Nat × Instr × Nat) := [(0, .aload_n 0, 1), (1, .getfield 17, 3), (4, .bipush 26, 2), (6, .iload_n 1, 1), (7, .iadd, 1), (8, .iaload, 1), (9, .ireturn, 1)]

def zc175 : List (Nat × Instr × Nat) := [(0, .iload_n 1, 1), (1, .iconst 3, 1), (2, .if_icmp .ne 7, 3), (5, .iconst 1, 1), (6, .goto 13, 3), (9, .iload_n 1, 1), (10, .iconst 4, 1), (11, .if_icmp .ne 7, 3), (14, .iconst 2, 1), (15, .goto 4, 3), (18, .iconst 0, 1), (19, .istore_n 2, 1), (20, .iload_n 2, 1), (21, .iconst 1, 1), (22, .if_icmp .ne 8, 3), (25, .bipush 8, 2), (27, .goto 14, 3), (30, .iload_n 2, 1), (31, .iconst 2, 1), (32, .if_icmp .ne 7, 3), (35, .iconst 4, 1), (36, .goto 5, 3), (39, .bipush 10, 2), (41, .istore_n 3, 1), (42, .aload_n 0, 1), (43, .getfield 20, 3), (46, .iconst 5, 1), (47, .iload_n 2, 1), (48, .iadd, 1), (49, .iaload, 1), (50, .iload_n 3, 1), (51, .if_icmp .ne 9, 3), (54, .aload_n 0, 1), (55, .iconst 3, 1), (56, .invokevirtual 181, 3), (59, .ireturn, 1), (60, .aload_n 0, 1), (61, .invokevirtual 185, 3), (64, .ifCond .ne 5, 3), (67, .iconst 0, 1), (68, .ireturn, 1), (69, .aload_n 0, 1), (70, .aload_n 0, 1), (71, .invokevirtual 189, 3), (74, .invokevirtual 192, 3), (77, .iconst (-1), 1), (78, .if_icmp .eq 9, 3), (81, .aload_n 0, 1), (82, .iconst 2, 1), (83, .invokevirtual 181, 3), (86, .ireturn, 1), (87, .iload_n 2, 1), (88, .iconst 1, 1), (89, .if_icmp .ne 10, 3), (92, .aload_n 0, 1), (93, .getfield 26, 3), (96, .goto 19, 3), (99, .iload_n 2, 1), (100, .iconst 2, 1), (101, .if_icmp .ne 10, 3), (104, .aload_n 0, 1), (105, .getfield 29, 3), (108, .goto 7, 3), (111, .aload_n 0, 1), (112, .getfield 23, 3), (115, .astore 4, 2), (117, .aload 4, 2), (119, .iload_n 3, 1), (120, .aload_n 0, 1), (121, .getfield 20, 3), (124, .iconst 5, 1), (125, .iload_n 2, 1), (126, .iadd, 1), (127, .iaload, 1), (128, .iadd, 1), (129, .aload_n 0, 1), (130, .invokevirtual 189, 3), (133, .iastore, 1), (134, .aload_n 0, 1), (135, .getfield 20, 3), (138, .iconst 5, 1), (139, .iload_n 2, 1), (140, .iadd, 1), (141, .dup2, 1), (142, .iaload, 1), (143, .iconst 1, 1), (144, .iadd, 1), (145, .iastore, 1), (146, .aload_n 0, 1), (147, .getfield 17, 3), (150, .bipush 26, 2), (152, .aload_n 0, 1), (153, .invokevirtual 189, 3), (156, .iadd, 1), (157, .iload_n 1, 1), (158, .iastore, 1), (159, .aload_n 0, 1), (160, .invokevirtual 178, 3), (163, .iconst 1, 1), (164, .ireturn, 1)]

def zc176 : List (Nat × Instr × Nat) := [(0, .aload_n 0, 1), (1, .getfield 20, 3), (4, .bipush 8, 2), (6, .iaload, 1), (7, .iconst 4, 1), (8, .if_icmp .ne 9, 3), (11, .aload_n 0, 1), (12, .iconst 3, 1), (13, .invokevirtual 181, 3), (16, .ireturn, 1), (17, .aload_n 0, 1), (18, .invokevirtual 185, 3), (21, .ifCond .ne 5, 3), (24, .iconst 0, 1), (25, .ireturn, 1), (26, .aload_n 0, 1), (27, .aload_n 0, 1), (28, .invokevirtual 189, 3), (31, .invokevirtual 192, 3), (34, .iconst 0, 1), (35, .iconst 1, 1), (36, .invokestatic 158, 3), (39, .istore_n 1, 1), (40, .iconst 0, 1), (41, .istore_n 2, 1), (42, .iload_n 2, 1), (43, .aload_n 0, 1), (44, .getfield 20, 3), (47, .bipush 8, 2), (49, .iaload, 1), (50, .if_icmp .ge 34, 3), (53, .iload_n 1, 1), (54, .ifCond .eq 22, 3), (57, .aload_n 0, 1), (58, .getfield 32, 3), (61, .iconst 4, 1), (62, .iload_n 2, 1), (63, .iadd, 1), (64, .iaload, 1), (65, .aload_n 0, 1), (66, .invokevirtual 189, 3), (69, .if_icmp .eq 7, 3), (72, .iconst 1, 1), (73, .goto 4, 3), (76, .iconst 0, 1), (77, .istore_n 1, 1), (78, .iinc 2 1, 3), (81, .goto (-39), 3), (84, .iload_n 1, 1), (85, .ifCond .ne 9, 3), (88, .aload_n 0, 1), (89, .iconst 2, 1), (90, .invokevirtual 181, 3), (93, .ireturn, 1), (94, .aload_n 0, 1), (95, .getfield 32, 3), (98, .iconst 4, 1), (99, .aload_n 0, 1), (100, .getfield 20, 3), (103, .bipush 8, 2), (105, .iaload, 1), (106, .iadd, 1), (107, .aload_n 0, 1), (108, .invokevirtual 189, 3), (111, .iastore, 1), (112, .aload_n 0, 1), (113, .getfield 20, 3), (116, .bipush 8, 2), (118, .dup2, 1), (119, .iaload, 1), (120, .iconst 1, 1), (121, .iadd, 1), (122, .iastore, 1), (123, .aload_n 0, 1), (124, .invokevirtual 178, 3), (127, .iconst 1, 1), (128, .ireturn, 1)]

def zc177 : List (Nat × Instr × Nat) := [(0, .iload_n 0, 1), (1, .iconst 1, 1), (2, .iconst 2, 1), (3, .invokestatic 158, 3), (6, .ireturn, 1)]

def zc178 : List (Nat × Instr × Nat) := [(0, .aload_n 0, 1), (1, .getfield 20, 3), (4, .bipush 9, 2), (6, .iaload, 1), (7, .bipush 8, 2), (9, .if_icmp .ne 9, 3), (12, .aload_n 0, 1), (13, .iconst 3, 1), (14, .invokevirtual 181, 3), (17, .ireturn, 1), (18, .aload_n 0, 1), (19, .invokevirtual 185, 3), (22, .ifCond .ne 5, 3), (25, .iconst 0, 1), (26, .ireturn, 1), (27, .aload_n 0, 1), (28, .invokevirtual 189, 3), (31, .istore_n 1, 1), (32, .aload_n 0, 1), (33, .iload_n 1, 1), (34, .invokevirtual 192, 3), (37, .istore_n 2, 1), (38, .iload_n 2, 1), (39, .iconst 3, 1), (40, .if_icmp .eq 16, 3), (43, .iload_n 2, 1), (44, .invokestatic 195, 3), (47, .ifCond .ne 9, 3), (50, .aload_n 0, 1), (51, .iconst 2, 1), (52, .invokevirtual 181, 3), (55, .ireturn, 1), (56, .aload_n 0, 1), (57, .invokevirtual 185, 3), (60, .ifCond .ne 5, 3), (63, .iconst 0, 1), (64, .ireturn, 1), (65, .aload_n 0, 1), (66, .invokevirtual 189, 3), (69, .istore_n 3, 1), (70, .iload_n 2, 1), (71, .iconst 3, 1), (72, .if_icmp .ne 20, 3), (75, .aload_n 0, 1), (76, .iload_n 3, 1), (77, .invokevirtual 192, 3), (80, .iconst 3, 1), (81, .if_icmp .ne 7, 3), (84, .iconst 1, 1), (85, .goto 15, 3), (88, .iconst 0, 1), (89, .goto 11, 3), (92, .aload_n 0, 1), (93, .iload_n 3, 1), (94, .invokevirtual 192, 3), (97, .invokestatic 195, 3), (100, .istore 4, 2), (102, .iconst 0, 1), (103, .istore 5, 2), (105, .iload 5, 2), (107, .aload_n 0, 1), (108, .getfield 20, 3), (111, .bipush 9, 2), (113, .iaload, 1), (114, .if_icmp .ge 55, 3), (117, .iload 4, 2), (119, .ifCond .eq 41, 3), (122, .aload_n 0, 1), (123, .getfield 35, 3), (126, .iconst 2, 1), (127, .bipush 8, 2), (129, .iload 5, 2), (131, .iadd, 1), (132, .imul, 1), (133, .iaload, 1), (134, .iload_n 1, 1), (135, .if_icmp .ne 21, 3), (138, .aload_n 0, 1), (139, .getfield 35, 3), (142, .iconst 2, 1), (143, .bipush 8, 2), (145, .iload 5, 2), (147, .iadd, 1), (148, .imul, 1), (149, .iconst 1, 1), (150, .iadd, 1), (151, .iaload, 1), (152, .iload_n 3, 1), (153, .if_icmp .eq 7, 3), (156, .iconst 1, 1), (157, .goto 4, 3), (160, .iconst 0, 1), (161, .istore 4, 2), (163, .iinc 5 1, 3), (166, .goto (-61), 3), (169, .iload 4, 2), (171, .ifCond .ne 9, 3), (174, .aload_n 0, 1), (175, .iconst 2, 1), (176, .invokevirtual 181, 3), (179, .ireturn, 1), (180, .aload_n 0, 1), (181, .getfield 35, 3), (184, .iconst 2, 1), (185, .bipush 8, 2), (187, .aload_n 0, 1), (188, .getfield 20, 3), (191, .bipush 9, 2), (193, .iaload, 1), (194, .iadd, 1), (195, .imul, 1), (196, .iload_n 1, 1), (197, .iastore, 1), (198, .aload_n 0, 1), (199, .getfield 35, 3), (202, .iconst 2, 1), (203, .bipush 8, 2), (205, .aload_n 0, 1), (206, .getfield 20, 3), (209, .bipush 9, 2), (211, .iaload, 1), (212, .iadd, 1), (213, .imul, 1), (214, .iconst 1, 1), (215, .iadd, 1), (216, .iload_n 3, 1), (217, .iastore, 1), (218, .aload_n 0, 1), (219, .getfield 20, 3), (222, .bipush 9, 2), (224, .dup2, 1), (225, .iaload, 1), (226, .iconst 1, 1), (227, .iadd, 1), (228, .iastore, 1), (229, .aload_n 0, 1), (230, .invokevirtual 178, 3), (233, .iconst 1, 1), (234, .ireturn, 1)]

def zc179 : List (Nat × Instr × Nat) := [(0, .aload_n 0, 1), (1, .ldc 198, 2), (3, .invokevirtual 200, 3), (6, .ifCond .eq 9, 3), (9, .aload_n 0, 1), (10, .iconst 0, 1), (11, .invokevirtual 204, 3), (14, .ireturn, 1), (15, .aload_n 0, 1), (16, .ldc 207, 2), (18, .invokevirtual 200, 3), (21, .ifCond .eq 9, 3), (24, .aload_n 0, 1), (25, .iconst 1, 1), (26, .invokevirtual 204, 3), (29, .ireturn, 1), (30, .aload_n 0, 1), (31, .ldc 209, 2), (33, .invokevirtual 200, 3), (36, .ifCond .eq 9, 3), (39, .aload_n 0, 1), (40, .iconst 2, 1), (41, .invokevirtual 204, 3), (44, .ireturn, 1), (45, .aload_n 0, 1), (46, .ldc 211, 2), (48, .invokevirtual 200, 3), (51, .ifCond .eq 9, 3), (54, .aload_n 0, 1), (55, .iconst 3, 1), (56, .invokevirtual 204, 3), (59, .ireturn, 1), (60, .aload_n 0, 1), (61, .ldc 212, 2), (63, .invokevirtual 200, 3), (66, .ifCond .eq 9, 3), (69, .aload_n 0, 1), (70, .iconst 4, 1), (71, .invokevirtual 204, 3), (74, .ireturn, 1), (75, .aload_n 0, 1), (76, .ldc 213, 2), (78, .invokevirtual 200, 3), (81, .ifCond .eq 10, 3), (84, .aload_n 0, 1), (85, .invokevirtual 214, 3), (88, .goto 24, 3), (91, .aload_n 0, 1), (92, .ldc 217, 2), (94, .invokevirtual 200, 3), (97, .ifCond .eq 10, 3), (100, .aload_n 0, 1), (101, .invokevirtual 218, 3), (104, .goto 8, 3), (107, .aload_n 0, 1), (108, .iconst 1, 1), (109, .invokevirtual 181, 3), (112, .ireturn, 1)]

def zc180 : List (Nat × Instr × Nat) := [(0, .aload_n 0, 1), (1, .iload_n 1, 1), (2, .putfield 142, 3), (5, .aload_n 0, 1), (6, .iconst 0, 1), (7, .putfield 145, 3), (10, .iconst 0, 1), (11, .istore_n 2, 1), (12, .iload_n 2, 1), (13, .bipush 26, 2), (15, .if_icmp .ge 19, 3), (18, .aload_n 0, 1), (19, .getfield 17, 3), (22, .bipush 26, 2), (24, .iload_n 2, 1), (25, .iadd, 1), (26, .iconst (-1), 1), (27, .iastore, 1), (28, .iinc 2 1, 3), (31, .goto (-19), 3), (34, .iconst 0, 1), (35, .istore_n 2, 1), (36, .iload_n 2, 1), (37, .iconst 5, 1), (38, .if_icmp .ge 18, 3), (41, .aload_n 0, 1), (42, .getfield 20, 3), (45, .iconst 5, 1), (46, .iload_n 2, 1), (47, .iadd, 1), (48, .iconst 0, 1), (49, .iastore, 1), (50, .iinc 2 1, 3), (53, .goto (-17), 3), (56, .aload_n 0, 1), (57, .invokevirtual 178, 3), (60, .aload_n 0, 1), (61, .invokevirtual 221, 3), (64, .ifCond .ne 5, 3), (67, .iconst 0, 1), (68, .ireturn, 1), (69, .aload_n 0, 1), (70, .getfield 155, 3), (73, .bipush 59, 2), (75, .if_icmp .ne 16, 3), (78, .aload_n 0, 1), (79, .invokevirtual 178, 3), (82, .aload_n 0, 1), (83, .invokevirtual 221, 3), (86, .ifCond .ne (-17), 3), (89, .iconst 0, 1), (90, .ireturn, 1), (91, .aload_n 0, 1), (92, .getfield 155, 3), (95, .ifCond .eq 9, 3), (98, .aload_n 0, 1), (99, .iconst 1, 1), (100, .invokevirtual 181, 3), (103, .ireturn, 1), (104, .iconst 0, 1), (105, .istore_n 2, 1), (106, .iconst 0, 1), (107, .istore_n 3, 1), (108, .iload_n 3, 1), (109, .aload_n 0, 1), (110, .getfield 20, 3), (113, .iconst 5, 1), (114, .iaload, 1), (115, .if_icmp .ge 36, 3), (118, .iload_n 2, 1), (119, .ifCond .ne 20, 3), (122, .aload_n 0, 1), (123, .aload_n 0, 1), (124, .getfield 23, 3), (127, .bipush 10, 2), (129, .iload_n 3, 1), (130, .iadd, 1), (131, .iaload, 1), (132, .invokevirtual 192, 3), (135, .iconst 2, 1), (136, .if_icmp .eq 7, 3), (139, .iconst 1, 1), (140, .goto 4, 3), (143, .iconst 0, 1), (144, .istore_n 2, 1), (145, .iinc 3 1, 3), (148, .goto (-40), 3), (151, .iload_n 2, 1), (152, .ifCond .eq 13, 3), (155, .aload_n 0, 1), (156, .getfield 20, 3), (159, .bipush 6, 2), (161, .iaload, 1), (162, .ifCond .gt 11, 3), (165, .aload_n 0, 1), (166, .iconst 4, 1), (167, .invokevirtual 181, 3), (170, .ifCond .eq 7, 3), (173, .iconst 1, 1), (174, .goto 4, 3), (177, .iconst 0, 1), (178, .ireturn, 1)]

def zc181 : List (Nat × Instr × Nat) := [(0, .iconst 0, 1), (1, .istore_n 1, 1), (2, .iload_n 1, 1), (3, .aload_n 0, 1), (4, .arraylength, 1), (5, .iconst 2, 1), (6, .idiv, 1), (7, .if_icmp .ge 20, 3), (10, .aload_n 0, 1), (11, .iload_n 1, 1), (12, .aload_n 0, 1), (13, .aload_n 0, 1), (14, .arraylength, 1), (15, .iconst 2, 1), (16, .idiv, 1), (17, .iload_n 1, 1), (18, .iadd, 1), (19, .iaload, 1), (20, .iastore, 1), (21, .iinc 1 1, 3), (24, .goto (-22), 3), (27, .return_, 1)]

def zc182 : List (Nat × Instr × Nat) := [(0, .aload_n 0, 1), (1, .iconst 1, 1), (2, .iload_n 1, 1), (3, .iconst 0, 1), (4, .aload_n 0, 1), (5, .getfield 135, 3), (8, .invokestatic 158, 3), (11, .invokestatic 224, 3), (14, .invokevirtual 228, 3), (17, .ifCond .eq 5, 3), (20, .iconst (-1), 1), (21, .ireturn, 1), (22, .aload_n 0, 1), (23, .iconst 0, 1), (24, .putfield 135, 3), (27, .aload_n 0, 1), (28, .iconst 0, 1), (29, .putfield 231, 3), (32, .aload_n 0, 1), (33, .iload_n 1, 1), (34, .invokevirtual 234, 3), (37, .ifCond .ne 25, 3), (40, .aload_n 0, 1), (41, .aload_n 0, 1), (42, .getfield 172, 3), (45, .putfield 231, 3), (48, .aload_n 0, 1), (49, .aload_n 0, 1), (50, .getfield 175, 3), (53, .putfield 9, 3), (56, .aload_n 0, 1), (57, .iconst 4, 1), (58, .invokevirtual 237, 3), (61, .ireturn, 1), (62, .aload_n 0, 1), (63, .getfield 17, 3), (66, .invokestatic 240, 3), (69, .aload_n 0, 1), (70, .getfield 20, 3), (73, .invokestatic 240, 3), (76, .aload_n 0, 1), (77, .getfield 23, 3), (80, .invokestatic 240, 3), (83, .aload_n 0, 1), (84, .getfield 26, 3), (87, .invokestatic 240, 3), (90, .aload_n 0, 1), (91, .getfield 29, 3), (94, .invokestatic 240, 3), (97, .aload_n 0, 1), (98, .getfield 32, 3), (101, .invokestatic 240, 3), (104, .aload_n 0, 1), (105, .getfield 35, 3), (108, .invokestatic 240, 3), (111, .aload_n 0, 1), (112, .iconst 1, 1), (113, .putfield 244, 3), (116, .aload_n 0, 1), (117, .invokevirtual 248, 3), (120, .aload_n 0, 1), (121, .iconst 0, 1), (122, .putfield 251, 3), (125, .aload_n 0, 1), (126, .iconst 0, 1), (127, .putfield 254, 3), (130, .aload_n 0, 1), (131, .iconst 0, 1), (132, .putfield 257, 3), (135, .aload_n 0, 1), (136, .invokevirtual 260, 3), (139, .aload_n 0, 1), (140, .getfield 20, 3), (143, .iconst 0, 1), (144, .iaload, 1), (145, .aload_n 0, 1), (146, .getfield 20, 3), (149, .iconst 1, 1), (150, .iaload, 1), (151, .iadd, 1), (152, .aload_n 0, 1), (153, .getfield 20, 3), (156, .iconst 2, 1), (157, .iaload, 1), (158, .iadd, 1), (159, .ireturn, 1)]

def zc183 : List (Nat × Instr × Nat) := [(0, .aload_n 0, 1), (1, .iconst 0, 1), (2, .putfield 129, 3), (5, .aload_n 0, 1), (6, .getfield 231, 3), (9, .ireturn, 1)]

def zc184 : List (Nat × Instr × Nat) := [(0, .aload_n 0, 1), (1, .iconst 0, 1), (2, .putfield 129, 3), (5, .aload_n 0, 1), (6, .getfield 132, 3), (9, .iconst 4, 1), (10, .if_icmp .ne 10, 3), (13, .aload_n 0, 1), (14, .getfield 9, 3), (17, .goto 4, 3), (20, .iconst (-1), 1), (21, .ireturn, 1)]

def zc185 : List (Nat × Instr × Nat) := [(0, .aload_n 0, 1), (1, .iconst 0, 1), (2, .putfield 263, 3), (5, .aload_n 0, 1), (6, .iconst 0, 1), (7, .putfield 266, 3), (10, .aload_n 0, 1), (11, .iconst 1, 1), (12, .putfield 269, 3), (15, .iconst 0, 1), (16, .istore_n 1, 1), (17, .iload_n 1, 1), (18, .bipush 26, 2), (20, .if_icmp .ge 41, 3), (23, .aload_n 0, 1), (24, .getfield 38, 3), (27, .iload_n 1, 1), (28, .bipush (-2), 2), (30, .iastore, 1), (31, .aload_n 0, 1), (32, .getfield 41, 3), (35, .iload_n 1, 1), (36, .bipush (-2), 2), (38, .iastore, 1), (39, .aload_n 0, 1), (40, .getfield 44, 3), (43, .iload_n 1, 1), (44, .bipush (-2), 2), (46, .iastore, 1), (47, .aload_n 0, 1), (48, .getfield 47, 3), (51, .iload_n 1, 1), (52, .bipush (-2), 2), (54, .iastore, 1), (55, .iinc 1 1, 3), (58, .goto (-41), 3), (61, .iconst 0, 1), (62, .istore_n 1, 1), (63, .iload_n 1, 1), (64, .aload_n 0, 1), (65, .getfield 20, 3), (68, .iconst 0, 1), (69, .iaload, 1), (70, .if_icmp .ge 111, 3), (73, .aload_n 0, 1), (74, .getfield 23, 3), (77, .iload_n 1, 1), (78, .iaload, 1), (79, .istore_n 2, 1), (80, .aload_n 0, 1), (81, .getfield 17, 3), (84, .iload_n 2, 1), (85, .iaload, 1), (86, .iconst 2, 1), (87, .if_icmp .eq 33, 3), (90, .aload_n 0, 1), (91, .getfield 38, 3), (94, .iload_n 2, 1), (95, .aload_n 0, 1), (96, .getfield 263, 3), (99, .iastore, 1), (100, .aload_n 0, 1), (101, .getfield 50, 3), (104, .aload_n 0, 1), (105, .getfield 263, 3), (108, .iload_n 2, 1), (109, .iastore, 1), (110, .aload_n 0, 1), (111, .dup, 1), (112, .getfield 263, 3), (115, .iconst 1, 1), (116, .iadd, 1), (117, .putfield 263, 3), (120, .aload_n 0, 1), (121, .getfield 17, 3), (124, .iload_n 2, 1), (125, .iaload, 1), (126, .ifCond .eq 49, 3), (129, .aload_n 0, 1), (130, .getfield 44, 3), (133, .iload_n 2, 1), (134, .aload_n 0, 1), (135, .getfield 269, 3), (138, .iastore, 1), (139, .aload_n 0, 1), (140, .getfield 56, 3), (143, .iconst 2, 1), (144, .aload_n 0, 1), (145, .getfield 269, 3), (148, .imul, 1), (149, .iload_n 2, 1), (150, .iastore, 1), (151, .aload_n 0, 1), (152, .getfield 56, 3), (155, .iconst 2, 1), (156, .aload_n 0, 1), (157, .getfield 269, 3), (160, .imul, 1), (161, .iconst 1, 1), (162, .iadd, 1), (163, .iconst (-1), 1), (164, .iastore, 1), (165, .aload_n 0, 1), (166, .dup, 1), (167, .getfield 269, 3), (170, .iconst 1, 1), (171, .iadd, 1), (172, .putfield 269, 3), (175, .iinc 1 1, 3), (178, .goto (-115), 3), (181, .iconst 0, 1), (182, .istore_n 1, 1), (183, .iload_n 1, 1), (184, .aload_n 0, 1), (185, .getfield 20, 3), (188, .iconst 3, 1), (189, .iaload, 1), (190, .if_icmp .ge 49, 3), (193, .aload_n 0, 1), (194, .getfield 41, 3), (197, .aload_n 0, 1), (198, .getfield 32, 3), (201, .iload_n 1, 1), (202, .iaload, 1), (203, .aload_n 0, 1), (204, .getfield 263, 3), (207, .iastore, 1), (208, .aload_n 0, 1), (209, .getfield 50, 3), (212, .aload_n 0, 1), (213, .getfield 263, 3), (216, .aload_n 0, 1), (217, .getfield 32, 3), (220, .iload_n 1, 1), (221, .iaload, 1), (222, .iastore, 1), (223, .aload_n 0, 1), (224, .dup, 1), (225, .getfield 263, 3), (228, .iconst 1, 1), (229, .iadd, 1), (230, .putfield 263, 3), (233, .iinc 1 1, 3), (236, .goto (-53), 3), (239, .iconst 0, 1), (240, .istore_n 1, 1), (241, .iload_n 1, 1), (242, .aload_n 0, 1), (243, .getfield 20, 3), (246, .iconst 1, 1), (247, .iaload, 1), (248, .if_icmp .ge 65, 3), (251, .aload_n 0, 1), (252, .getfield 47, 3), (255, .aload_n 0, 1), (256, .getfield 26, 3), (259, .iload_n 1, 1), (260, .iaload, 1), (261, .aload_n 0, 1), (262, .getfield 266, 3), (265, .iastore, 1), (266, .aload_n 0, 1), (267, .getfield 53, 3), (270, .iconst 2, 1), (271, .aload_n 0, 1), (272, .getfield 266, 3), (275, .imul, 1), (276, .aload_n 0, 1), (277, .getfield 26, 3), (280, .iload_n 1, 1), (281, .iaload, 1), (282, .iastore, 1), (283, .aload_n 0, 1), (284, .getfield 53, 3), (287, .iconst 2, 1), (288, .aload_n 0, 1), (289, .getfield 266, 3), (292, .imul, 1), (293, .iconst 1, 1), (294, .iadd, 1), (295, .iconst (-1), 1), (296, .iastore, 1), (297, .aload_n 0, 1), (298, .dup, 1), (299, .getfield 266, 3), (302, .iconst 1, 1), (303, .iadd, 1), (304, .putfield 266, 3), (307, .iinc 1 1, 3), (310, .goto (-69), 3), (313, .aload_n 0, 1), (314, .aload_n 0, 1), (315, .getfield 269, 3), (318, .putfield 272, 3), (321, .iconst 0, 1), (322, .istore_n 1, 1), (323, .iload_n 1, 1), (324, .aload_n 0, 1), (325, .getfield 20, 3), (328, .iconst 4, 1), (329, .iaload, 1), (330, .if_icmp .ge 31, 3), (333, .aload_n 0, 1), (334, .aload_n 0, 1), (335, .getfield 35, 3), (338, .iconst 2, 1), (339, .iload_n 1, 1), (340, .imul, 1), (341, .iaload, 1), (342, .aload_n 0, 1), (343, .getfield 35, 3), (346, .iconst 2, 1), (347, .iload_n 1, 1), (348, .imul, 1), (349, .iconst 1, 1), (350, .iadd, 1), (351, .iaload, 1), (352, .invokevirtual 275, 3), (355, .iinc 1 1, 3), (358, .goto (-35), 3), (361, .return_, 1)]

def zc186 : List (Nat × Instr × Nat) := [(0, .aload_n 0, 1), (1, .getfield 17, 3), (4, .iload_n 1, 1), (5, .iaload, 1), (6, .iconst 3, 1), (7, .if_icmp .ne 42, 3), (10, .aload_n 0, 1), (11, .getfield 53, 3), (14, .iconst 2, 1), (15, .aload_n 0, 1), (16, .getfield 266, 3), (19, .imul, 1), (20, .iload_n 1, 1), (21, .iastore, 1), (22, .aload_n 0, 1), (23, .getfield 53, 3), (26, .iconst 2, 1), (27, .aload_n 0, 1), (28, .getfield 266, 3), (31, .imul, 1), (32, .iconst 1, 1), (33, .iadd, 1), (34, .iload_n 2, 1), (35, .iastore, 1), (36, .aload_n 0, 1), (37, .dup, 1), (38, .getfield 266, 3), (41, .iconst 1, 1), (42, .iadd, 1), (43, .putfield 266, 3), (46, .goto 39, 3), (49, .aload_n 0, 1), (50, .getfield 56, 3), (53, .iconst 2, 1), (54, .aload_n 0, 1), (55, .getfield 269, 3), (58, .imul, 1), (59, .iload_n 1, 1), (60, .iastore, 1), (61, .aload_n 0, 1), (62, .getfield 56, 3), (65, .iconst 2, 1), (66, .aload_n 0, 1), (67, .getfield 269, 3), (70, .imul, 1), (71, .iconst 1, 1), (72, .iadd, 1), (73, .iload_n 2, 1), (74, .iastore, 1), (75, .aload_n 0, 1), (76, .dup, 1), (77, .getfield 269, 3), (80, .iconst 1, 1), (81, .iadd, 1), (82, .putfield 269, 3), (85, .return_, 1)]

def zc187 : List (Nat × Instr × Nat) := [(0, .iload_n 1, 1), (1, .istore 5, 2), (3, .iload 5, 2), (5, .iload_n 2, 1), (6, .if_icmp .ge 35, 3), (9, .aload_n 0, 1), (10, .iconst 2, 1), (11, .iload 5, 2), (13, .imul, 1), (14, .iaload, 1), (15, .iload_n 3, 1), (16, .if_icmp .ne 19, 3), (19, .aload_n 0, 1), (20, .iconst 2, 1), (21, .iload 5, 2), (23, .imul, 1), (24, .iconst 1, 1), (25, .iadd, 1), (26, .iaload, 1), (27, .iload 4, 2), (29, .if_icmp .ne 6, 3), (32, .iload 5, 2), (34, .ireturn, 1), (35, .iinc 5 1, 3), (38, .goto (-35), 3), (41, .bipush (-2), 2), (43, .ireturn, 1)]

def zc188 : List (Nat × Instr × Nat) := [(0, .aload_n 0, 1), (1, .getfield 244, 3), (4, .ifCond .eq 31, 3), (7, .iload_n 1, 1), (8, .bipush 97, 2), (10, .bipush 122, 2), (12, .invokestatic 158, 3), (15, .ifCond .eq 20, 3), (18, .aload_n 0, 1), (19, .getfield 17, 3), (22, .iload_n 1, 1), (23, .bipush 97, 2), (25, .isub, 1), (26, .iaload, 1), (27, .iconst (-1), 1), (28, .if_icmp .eq 7, 3), (31, .iconst 1, 1), (32, .goto 4, 3), (35, .iconst 0, 1), (36, .ireturn, 1)]

def zc189 : List (Nat × Instr × Nat) := [(0, .sipush 200, 3), (3, .aload_n 0, 1), (4, .getfield 279, 3), (7, .imul, 1), (8, .iload_n 1, 1), (9, .iadd, 1), (10, .ireturn, 1)]

def zc190 : List (Nat × Instr × Nat) := [(0, .aload_n 0, 1), (1, .getfield 86, 3), (4, .sipush 200, 3), (7, .aload_n 0, 1), (8, .getfield 279, 3), (11, .imul, 1), (12, .iload_n 1, 1), (13, .iadd, 1), (14, .iload_n 2, 1), (15, .iastore, 1), (16, .aload_n 0, 1), (17, .getfield 89, 3), (20, .sipush 200, 3), (23, .aload_n 0, 1), (24, .getfield 279, 3), (27, .imul, 1), (28, .iload_n 1, 1), (29, .iadd, 1), (30, .iload_n 3, 1), (31, .iastore, 1), (32, .aload_n 0, 1), (33, .getfield 80, 3), (36, .aload_n 0, 1), (37, .iload_n 2, 1), (38, .invokevirtual 282, 3), (41, .dup2, 1), (42, .iaload, 1), (43, .iconst 1, 1), (44, .iadd, 1), (45, .iastore, 1), (46, .return_, 1)]

def zc191 : List (Nat × Instr × Nat) := [(0, .aload_n 0, 1), (1, .getfield 62, 3), (4, .aload_n 0, 1), (5, .getfield 279, 3), (8, .iaload, 1), (9, .istore 5, 2), (11, .aload_n 0, 1), (12, .getfield 65, 3), (15, .aload_n 0, 1), (16, .iload 5, 2), (18, .invokevirtual 282, 3), (21, .iload_n 2, 1), (22, .iastore, 1), (23, .aload_n 0, 1), (24, .getfield 68, 3), (27, .aload_n 0, 1), (28, .iload 5, 2), (30, .invokevirtual 282, 3), (33, .iload_n 3, 1), (34, .iastore, 1), (35, .aload_n 0, 1), (36, .getfield 71, 3), (39, .aload_n 0, 1), (40, .iload 5, 2), (42, .invokevirtual 282, 3), (45, .bipush (-2), 2), (47, .iastore, 1), (48, .aload_n 0, 1), (49, .getfield 74, 3), (52, .aload_n 0, 1), (53, .iload 5, 2), (55, .invokevirtual 282, 3), (58, .iload 4, 2), (60, .iastore, 1), (61, .aload_n 0, 1), (62, .getfield 77, 3), (65, .aload_n 0, 1), (66, .iload 5, 2), (68, .invokevirtual 282, 3), (71, .iload_n 1, 1), (72, .iastore, 1), (73, .aload_n 0, 1), (74, .getfield 80, 3), (77, .aload_n 0, 1), (78, .iload 5, 2), (80, .invokevirtual 282, 3), (83, .iconst 0, 1), (84, .iastore, 1), (85, .aload_n 0, 1), (86, .getfield 62, 3), (89, .aload_n 0, 1), (90, .getfield 279, 3), (93, .dup2, 1), (94, .iaload, 1), (95, .iconst 1, 1), (96, .iadd, 1), (97, .iastore, 1), (98, .iload 5, 2), (100, .ireturn, 1)]

def zc192 : List (Nat × Instr × Nat) := [(0, .aload_n 0, 1), (1, .getfield 285, 3), (4, .iconst (-1), 1), (5, .if_icmp .eq 43, 3), (8, .aload_n 0, 1), (9, .getfield 65, 3), (12, .aload_n 0, 1), (13, .aload_n 0, 1), (14, .getfield 285, 3), (17, .invokevirtual 282, 3), (20, .iaload, 1), (21, .bipush (-2), 2), (23, .if_icmp .eq 25, 3), (26, .aload_n 0, 1), (27, .getfield 68, 3), (30, .aload_n 0, 1), (31, .aload_n 0, 1), (32, .getfield 285, 3), (35, .invokevirtual 282, 3), (38, .iaload, 1), (39, .bipush (-2), 2), (41, .if_icmp .ne 7, 3), (44, .iconst 1, 1), (45, .goto 4, 3), (48, .iconst 0, 1), (49, .ireturn, 1)]

def zc193 : List (Nat × Instr × Nat) := [(0, .aload_n 0, 1), (1, .getfield 285, 3), (4, .iconst (-1), 1), (5, .if_icmp .eq 43, 3), (8, .aload_n 0, 1), (9, .getfield 65, 3), (12, .aload_n 0, 1), (13, .aload_n 0, 1), (14, .getfield 285, 3), (17, .invokevirtual 282, 3), (20, .iaload, 1), (21, .bipush (-2), 2), (23, .if_icmp .eq 25, 3), (26, .aload_n 0, 1), (27, .getfield 68, 3), (30, .aload_n 0, 1), (31, .aload_n 0, 1), (32, .getfield 285, 3), (35, .invokevirtual 282, 3), (38, .iaload, 1), (39, .bipush (-2), 2), (41, .if_icmp .eq 7, 3), (44, .iconst 1, 1), (45, .goto 4, 3), (48, .iconst 0, 1), (49, .ireturn, 1)]

def zc194 : List (Nat × Instr × Nat) := [(0, .aload_n 0, 1), (1, .invokevirtual 288, 3), (4, .ifCond .eq 66, 3), (7, .aload_n 0, 1), (8, .getfield 65, 3), (11, .aload_n 0, 1), (12, .aload_n 0, 1), (13, .getfield 285, 3), (16, .invokevirtual 282, 3), (19, .iaload, 1), (20, .aload_n 0, 1), (21, .getfield 38, 3), (24, .iload_n 2, 1), (25, .iaload, 1), (26, .if_icmp .ne 44, 3), (29, .aload_n 0, 1), (30, .getfield 41, 3), (33, .iload_n 2, 1), (34, .iaload, 1), (35, .bipush (-2), 2), (37, .if_icmp .eq 33, 3), (40, .aload_n 0, 1), (41, .getfield 65, 3), (44, .aload_n 0, 1), (45, .aload_n 0, 1), (46, .getfield 285, 3), (49, .invokevirtual 282, 3), (52, .aload_n 0, 1), (53, .getfield 41, 3), (56, .iload_n 2, 1), (57, .iaload, 1), (58, .iastore, 1), (59, .aload_n 0, 1), (60, .iload_n 1, 1), (61, .aload_n 0, 1), (62, .getfield 285, 3), (65, .iconst 0, 1), (66, .invokevirtual 291, 3), (69, .return_, 1), (70, .aload_n 0, 1), (71, .invokevirtual 295, 3), (74, .ifCond .eq 62, 3), (77, .aload_n 0, 1), (78, .getfield 71, 3), (81, .aload_n 0, 1), (82, .aload_n 0, 1), (83, .getfield 285, 3), (86, .invokevirtual 282, 3), (89, .iaload, 1), (90, .bipush (-2), 2), (92, .if_icmp .ne 44, 3), (95, .aload_n 0, 1), (96, .getfield 44, 3), (99, .iload_n 2, 1), (100, .iaload, 1), (101, .bipush (-2), 2), (103, .if_icmp .eq 33, 3), (106, .aload_n 0, 1), (107, .getfield 71, 3), (110, .aload_n 0, 1), (111, .aload_n 0, 1), (112, .getfield 285, 3), (115, .invokevirtual 282, 3), (118, .aload_n 0, 1), (119, .getfield 44, 3), (122, .iload_n 2, 1), (123, .iaload, 1), (124, .iastore, 1), (125, .aload_n 0, 1), (126, .iload_n 1, 1), (127, .aload_n 0, 1), (128, .getfield 285, 3), (131, .iconst 2, 1), (132, .invokevirtual 291, 3), (135, .return_, 1), (136, .aload_n 0, 1), (137, .invokevirtual 295, 3), (140, .ifCond .eq 19, 3), (143, .aload_n 0, 1), (144, .getfield 71, 3), (147, .aload_n 0, 1), (148, .aload_n 0, 1), (149, .getfield 285, 3), (152, .invokevirtual 282, 3), (155, .iaload, 1), (156, .goto 5, 3), (159, .bipush (-2), 2), (161, .istore_n 3, 1), (162, .iload_n 3, 1), (163, .bipush (-2), 2), (165, .if_icmp .eq 38, 3), (168, .iload_n 3, 1), (169, .aload_n 0, 1), (170, .getfield 272, 3), (173, .if_icmp .ge 30, 3), (176, .aload_n 0, 1), (177, .getfield 56, 3), (180, .aload_n 0, 1), (181, .getfield 272, 3), (184, .aload_n 0, 1), (185, .getfield 269, 3), (188, .aload_n 0, 1), (189, .getfield 56, 3), (192, .iconst 2, 1), (193, .iload_n 3, 1), (194, .imul, 1), (195, .iaload, 1), (196, .iload_n 2, 1), (197, .invokestatic 298, 3), (200, .goto 5, 3), (203, .bipush (-2), 2), (205, .istore 4, 2), (207, .iload 4, 2), (209, .bipush (-2), 2), (211, .if_icmp .eq 29, 3), (214, .aload_n 0, 1), (215, .getfield 71, 3), (218, .aload_n 0, 1), (219, .aload_n 0, 1), (220, .getfield 285, 3), (223, .invokevirtual 282, 3), (226, .iload 4, 2), (228, .iastore, 1), (229, .aload_n 0, 1), (230, .iload_n 1, 1), (231, .aload_n 0, 1), (232, .getfield 285, 3), (235, .iconst 2, 1), (236, .invokevirtual 291, 3), (239, .return_, 1), (240, .aload_n 0, 1), (241, .getfield 38, 3), (244, .iload_n 2, 1), (245, .iaload, 1), (246, .bipush (-2), 2), (248, .if_icmp .eq 7, 3), (251, .iconst 1, 1), (252, .goto 4, 3), (255, .iconst 0, 1), (256, .istore 5, 2), (258, .aload_n 0, 1), (259, .iload_n 1, 1), (260, .aload_n 0, 1), (261, .getfield 38, 3), (264, .iload_n 2, 1), (265, .iaload, 1), (266, .bipush (-2), 2), (268, .iload_n 2, 1), (269, .invokevirtual 302, 3), (272, .istore 6, 2), (274, .aload_n 0, 1), (275, .iload_n 1, 1), (276, .iload 6, 2), (278, .iload 5, 2), (280, .ifCond .eq 7, 3), (283, .iconst 0, 1), (284, .goto 4, 3), (287, .iconst 3, 1), (288, .invokevirtual 291, 3), (291, .aload_n 0, 1), (292, .iload 5, 2), (294, .ifCond .eq 8, 3), (297, .iload 6, 2), (299, .goto 4, 3), (302, .iconst (-1), 1), (303, .putfield 285, 3), (306, .return_, 1)]

def zc195 : List (Nat × Instr × Nat) := [(0, .aload_n 0, 1), (1, .getfield 285, 3), (4, .istore_n 3, 1), (5, .aload_n 0, 1), (6, .getfield 71, 3), (9, .aload_n 0, 1), (10, .iload_n 3, 1), (11, .invokevirtual 282, 3), (14, .iaload, 1), (15, .istore 4, 2), (17, .aload_n 0, 1), (18, .getfield 56, 3), (21, .iconst 2, 1), (22, .iload 4, 2), (24, .imul, 1), (25, .iconst 1, 1), (26, .iadd, 1), (27, .iaload, 1), (28, .iconst (-1), 1), (29, .if_icmp .eq 17, 3), (32, .aload_n 0, 1), (33, .getfield 56, 3), (36, .iconst 2, 1), (37, .iload 4, 2), (39, .imul, 1), (40, .iconst 1, 1), (41, .iadd, 1), (42, .iaload, 1), (43, .goto 12, 3), (46, .aload_n 0, 1), (47, .getfield 56, 3), (50, .iconst 2, 1), (51, .iload 4, 2), (53, .imul, 1), (54, .iaload, 1), (55, .istore 5, 2), (57, .aload_n 0, 1), (58, .getfield 71, 3), (61, .aload_n 0, 1), (62, .iload_n 3, 1), (63, .invokevirtual 282, 3), (66, .aload_n 0, 1), (67, .getfield 56, 3), (70, .iconst 2, 1), (71, .iload 4, 2), (73, .imul, 1), (74, .iconst 1, 1), (75, .iadd, 1), (76, .iaload, 1), (77, .iconst (-1), 1), (78, .if_icmp .eq 20, 3), (81, .aload_n 0, 1), (82, .getfield 44, 3), (85, .aload_n 0, 1), (86, .getfield 56, 3), (89, .iconst 2, 1), (90, .iload 4, 2), (92, .imul, 1), (93, .iaload, 1), (94, .iaload, 1), (95, .goto 5, 3), (98, .bipush (-2), 2), (100, .iastore, 1), (101, .aload_n 0, 1), (102, .getfield 80, 3), (105, .aload_n 0, 1), (106, .iload_n 3, 1), (107, .invokevirtual 282, 3), (110, .dup2, 1), (111, .iaload, 1), (112, .iconst 1, 1), (113, .isub, 1), (114, .iastore, 1), (115, .aload_n 0, 1), (116, .aload_n 0, 1), (117, .iload_n 1, 1), (118, .iconst 1, 1), (119, .isub, 1), (120, .aload_n 0, 1), (121, .getfield 38, 3), (124, .iload 5, 2), (126, .iaload, 1), (127, .aload_n 0, 1), (128, .getfield 47, 3), (131, .iload_n 2, 1), (132, .iaload, 1), (133, .iload 5, 2), (135, .invokevirtual 302, 3), (138, .putfield 285, 3), (141, .aload_n 0, 1), (142, .iload_n 1, 1), (143, .iconst 1, 1), (144, .isub, 1), (145, .aload_n 0, 1), (146, .getfield 285, 3), (149, .iconst 0, 1), (150, .invokevirtual 291, 3), (153, .aload_n 0, 1), (154, .iload_n 1, 1), (155, .aload_n 0, 1), (156, .getfield 285, 3), (159, .iconst 1, 1), (160, .invokevirtual 291, 3), (163, .aload_n 0, 1), (164, .getfield 92, 3), (167, .sipush 200, 3), (170, .aload_n 0, 1), (171, .getfield 279, 3), (174, .imul, 1), (175, .iload_n 1, 1), (176, .iadd, 1), (177, .iconst 1, 1), (178, .isub, 1), (179, .iconst 1, 1), (180, .iastore, 1), (181, .aload_n 0, 1), (182, .getfield 83, 3), (185, .aload_n 0, 1), (186, .getfield 279, 3), (189, .dup2, 1), (190, .iaload, 1), (191, .iconst 1, 1), (192, .iadd, 1), (193, .iastore, 1), (194, .return_, 1)]

def zc196 : List (Nat × Instr × Nat) := [(0, .aload_n 0, 1), (1, .invokevirtual 288, 3), (4, .ifCond .eq 33, 3), (7, .aload_n 0, 1), (8, .getfield 68, 3), (11, .aload_n 0, 1), (12, .aload_n 0, 1), (13, .getfield 285, 3), (16, .invokevirtual 282, 3), (19, .aload_n 0, 1), (20, .getfield 47, 3), (23, .iload_n 2, 1), (24, .iaload, 1), (25, .iastore, 1), (26, .aload_n 0, 1), (27, .iload_n 1, 1), (28, .aload_n 0, 1), (29, .getfield 285, 3), (32, .iconst 1, 1), (33, .invokevirtual 291, 3), (36, .return_, 1), (37, .aload_n 0, 1), (38, .getfield 285, 3), (41, .iconst (-1), 1), (42, .if_icmp .eq 37, 3), (45, .aload_n 0, 1), (46, .getfield 71, 3), (49, .aload_n 0, 1), (50, .aload_n 0, 1), (51, .getfield 285, 3), (54, .invokevirtual 282, 3), (57, .iaload, 1), (58, .bipush (-2), 2), (60, .if_icmp .ne 19, 3), (63, .aload_n 0, 1), (64, .getfield 68, 3), (67, .aload_n 0, 1), (68, .aload_n 0, 1), (69, .getfield 285, 3), (72, .invokevirtual 282, 3), (75, .iaload, 1), (76, .goto 5, 3), (79, .bipush (-2), 2), (81, .istore_n 3, 1), (82, .iload_n 3, 1), (83, .bipush (-2), 2), (85, .if_icmp .eq 42, 3), (88, .iload_n 3, 1), (89, .aload_n 0, 1), (90, .getfield 20, 3), (93, .iconst 1, 1), (94, .iaload, 1), (95, .if_icmp .ge 32, 3), (98, .aload_n 0, 1), (99, .getfield 53, 3), (102, .aload_n 0, 1), (103, .getfield 20, 3), (106, .iconst 1, 1), (107, .iaload, 1), (108, .aload_n 0, 1), (109, .getfield 266, 3), (112, .aload_n 0, 1), (113, .getfield 53, 3), (116, .iconst 2, 1), (117, .iload_n 3, 1), (118, .imul, 1), (119, .iaload, 1), (120, .iload_n 2, 1), (121, .invokestatic 298, 3), (124, .goto 5, 3), (127, .bipush (-2), 2), (129, .istore 4, 2), (131, .iload 4, 2), (133, .bipush (-2), 2), (135, .if_icmp .eq 29, 3), (138, .aload_n 0, 1), (139, .getfield 68, 3), (142, .aload_n 0, 1), (143, .aload_n 0, 1), (144, .getfield 285, 3), (147, .invokevirtual 282, 3), (150, .iload 4, 2), (152, .iastore, 1), (153, .aload_n 0, 1), (154, .iload_n 1, 1), (155, .aload_n 0, 1), (156, .getfield 285, 3), (159, .iconst 1, 1), (160, .invokevirtual 291, 3), (163, .return_, 1), (164, .aload_n 0, 1), (165, .getfield 285, 3), (168, .iconst (-1), 1), (169, .if_icmp .eq 19, 3), (172, .aload_n 0, 1), (173, .getfield 71, 3), (176, .aload_n 0, 1), (177, .aload_n 0, 1), (178, .getfield 285, 3), (181, .invokevirtual 282, 3), (184, .iaload, 1), (185, .goto 5, 3), (188, .bipush (-2), 2), (190, .istore 5, 2), (192, .iload 5, 2), (194, .bipush (-2), 2), (196, .if_icmp .ne 7, 3), (199, .iconst (-1), 1), (200, .goto 41, 3), (203, .aload_n 0, 1), (204, .getfield 56, 3), (207, .iconst 2, 1), (208, .iload 5, 2), (210, .imul, 1), (211, .iconst 1, 1), (212, .iadd, 1), (213, .iaload, 1), (214, .iconst (-1), 1), (215, .if_icmp .eq 17, 3), (218, .aload_n 0, 1), (219, .getfield 56, 3), (222, .iconst 2, 1), (223, .iload 5, 2), (225, .imul, 1), (226, .iconst 1, 1), (227, .iadd, 1), (228, .iaload, 1), (229, .goto 12, 3), (232, .aload_n 0, 1), (233, .getfield 56, 3), (236, .iconst 2, 1), (237, .iload 5, 2), (239, .imul, 1), (240, .iaload, 1), (241, .istore 6, 2), (243, .iload 6, 2), (245, .iconst (-1), 1), (246, .if_icmp .eq 22, 3), (249, .aload_n 0, 1), (250, .getfield 38, 3), (253, .iload 6, 2), (255, .iaload, 1), (256, .bipush (-2), 2), (258, .if_icmp .eq 10, 3), (261, .aload_n 0, 1), (262, .iload_n 1, 1), (263, .iload_n 2, 1), (264, .invokevirtual 306, 3), (267, .return_, 1), (268, .aload_n 0, 1), (269, .aload_n 0, 1), (270, .iload_n 1, 1), (271, .bipush (-2), 2), (273, .aload_n 0, 1), (274, .getfield 47, 3), (277, .iload_n 2, 1), (278, .iaload, 1), (279, .iload_n 2, 1), (280, .invokevirtual 302, 3), (283, .putfield 285, 3), (286, .aload_n 0, 1), (287, .iload_n 1, 1), (288, .aload_n 0, 1), (289, .getfield 285, 3), (292, .iconst 1, 1), (293, .invokevirtual 291, 3), (296, .return_, 1)]

def zc197 : List (Nat × Instr × Nat) := [(0, .aload_n 0, 1), (1, .getfield 92, 3), (4, .sipush 200, 3), (7, .aload_n 0, 1), (8, .getfield 279, 3), (11, .imul, 1), (12, .iload_n 1, 1), (13, .iadd, 1), (14, .iconst 0, 1), (15, .iastore, 1), (16, .iload_n 2, 1), (17, .bipush 124, 2), (19, .if_icmp .ne 43, 3), (22, .aload_n 0, 1), (23, .iconst (-1), 1), (24, .putfield 285, 3), (27, .aload_n 0, 1), (28, .getfield 86, 3), (31, .sipush 200, 3), (34, .aload_n 0, 1), (35, .getfield 279, 3), (38, .imul, 1), (39, .iload_n 1, 1), (40, .iadd, 1), (41, .bipush (-2), 2), (43, .iastore, 1), (44, .aload_n 0, 1), (45, .getfield 89, 3), (48, .sipush 200, 3), (51, .aload_n 0, 1), (52, .getfield 279, 3), (55, .imul, 1), (56, .iload_n 1, 1), (57, .iadd, 1), (58, .bipush (-2), 2), (60, .iastore, 1), (61, .return_, 1), (62, .iload_n 2, 1), (63, .bipush 97, 2), (65, .isub, 1), (66, .istore_n 3, 1), (67, .aload_n 0, 1), (68, .getfield 17, 3), (71, .iload_n 3, 1), (72, .iaload, 1), (73, .iconst 4, 1), (74, .if_icmp .ne 27, 3), (77, .aload_n 0, 1), (78, .iload_n 1, 1), (79, .aload_n 0, 1), (80, .iload_n 1, 1), (81, .bipush (-2), 2), (83, .bipush (-2), 2), (85, .iload_n 3, 1), (86, .invokevirtual 302, 3), (89, .iconst 3, 1), (90, .invokevirtual 291, 3), (93, .aload_n 0, 1), (94, .iconst (-1), 1), (95, .putfield 285, 3), (98, .goto 28, 3), (101, .aload_n 0, 1), (102, .getfield 17, 3), (105, .iload_n 3, 1), (106, .iaload, 1), (107, .iconst 3, 1), (108, .if_icmp .ne 12, 3), (111, .aload_n 0, 1), (112, .iload_n 1, 1), (113, .iload_n 3, 1), (114, .invokevirtual 309, 3), (117, .goto 9, 3), (120, .aload_n 0, 1), (121, .iload_n 1, 1), (122, .iload_n 3, 1), (123, .invokevirtual 312, 3), (126, .return_, 1)]

def zc198 : List (Nat × Instr × Nat) := [(0, .aload_n 0, 1), (1, .iload_n 1, 1), (2, .putfield 279, 3), (5, .aload_n 0, 1), (6, .getfield 62, 3), (9, .aload_n 0, 1), (10, .getfield 279, 3), (13, .iconst 0, 1), (14, .iastore, 1), (15, .aload_n 0, 1), (16, .getfield 83, 3), (19, .aload_n 0, 1), (20, .getfield 279, 3), (23, .iconst 0, 1), (24, .iastore, 1), (25, .aload_n 0, 1), (26, .iconst (-1), 1), (27, .putfield 285, 3), (30, .iconst 0, 1), (31, .istore 4, 2), (33, .iload 4, 2), (35, .iload_n 3, 1), (36, .if_icmp .ge 19, 3), (39, .aload_n 0, 1), (40, .iload 4, 2), (42, .aload_n 2, 1), (43, .iload 4, 2), (45, .iaload, 1), (46, .invokevirtual 315, 3), (49, .iinc 4 1, 3), (52, .goto (-19), 3), (55, .return_, 1)]

def zc199 : List (Nat × Instr × Nat) := [(0, .aload_n 0, 1), (1, .iconst 0, 1), (2, .aload_n 0, 1), (3, .getfield 59, 3), (6, .aload_n 0, 1), (7, .getfield 251, 3), (10, .invokevirtual 318, 3), (13, .return_, 1)]

def zc200 : List (Nat × Instr × Nat) := [(0, .sipush 200, 3), (3, .iload_n 1, 1), (4, .imul, 1), (5, .iload_n 2, 1), (6, .iadd, 1), (7, .istore_n 3, 1), (8, .aload_n 0, 1), (9, .getfield 65, 3), (12, .iload_n 3, 1), (13, .iaload, 1), (14, .bipush (-2), 2), (16, .if_icmp .eq 7, 3), (19, .iconst 1, 1), (20, .goto 4, 3), (23, .iconst 0, 1), (24, .istore 4, 2), (26, .aload_n 0, 1), (27, .getfield 68, 3), (30, .iload_n 3, 1), (31, .iaload, 1), (32, .bipush (-2), 2), (34, .if_icmp .eq 7, 3), (37, .iconst 1, 1), (38, .goto 4, 3), (41, .iconst 0, 1), (42, .istore 5, 2), (44, .iload 4, 2), (46, .ifCond .eq 12, 3), (49, .iload 5, 2), (51, .ifCond .eq 7, 3), (54, .iconst 0, 1), (55, .goto 22, 3), (58, .iload 4, 2), (60, .ifCond .eq 7, 3), (63, .iconst 1, 1), (64, .goto 13, 3), (67, .iload 5, 2), (69, .ifCond .eq 7, 3), (72, .iconst 2, 1), (73, .goto 4, 3), (76, .iconst 3, 1), (77, .ireturn, 1)]

def zc201 : List (Nat × Instr × Nat) := [(0, .sipush 200, 3), (3, .iload_n 1, 1), (4, .imul, 1), (5, .iload_n 2, 1), (6, .iadd, 1), (7, .istore 5, 2), (9, .sipush 200, 3), (12, .iload_n 3, 1), (13, .imul, 1), (14, .iload 4, 2), (16, .iadd, 1), (17, .istore 6, 2), (19, .aload_n 0, 1), (20, .getfield 65, 3), (23, .iload 5, 2), (25, .iaload, 1), (26, .aload_n 0, 1), (27, .getfield 65, 3), (30, .iload 6, 2), (32, .iaload, 1), (33, .if_icmp .ne 68, 3), (36, .aload_n 0, 1), (37, .getfield 68, 3), (40, .iload 5, 2), (42, .iaload, 1), (43, .aload_n 0, 1), (44, .getfield 68, 3), (47, .iload 6, 2), (49, .iaload, 1), (50, .if_icmp .ne 51, 3), (53, .aload_n 0, 1), (54, .getfield 71, 3), (57, .iload 5, 2), (59, .iaload, 1), (60, .aload_n 0, 1), (61, .getfield 71, 3), (64, .iload 6, 2), (66, .iaload, 1), (67, .if_icmp .ne 34, 3), (70, .aload_n 0, 1), (71, .iload_n 1, 1), (72, .iload_n 2, 1), (73, .invokevirtual 321, 3), (76, .iconst 3, 1), (77, .if_icmp .ne 20, 3), (80, .aload_n 0, 1), (81, .getfield 74, 3), (84, .iload 5, 2), (86, .iaload, 1), (87, .aload_n 0, 1), (88, .getfield 74, 3), (91, .iload 6, 2), (93, .iaload, 1), (94, .if_icmp .ne 7, 3), (97, .iconst 1, 1), (98, .goto 4, 3), (101, .iconst 0, 1), (102, .ireturn, 1)]

def zc202 : List (Nat × Instr × Nat) := [(0, .aload_n 0, 1), (1, .getfield 62, 3), (4, .iconst 1, 1), (5, .iaload, 1), (6, .iload_n 2, 1), (7, .if_icmp .eq 5, 3), (10, .iconst 0, 1), (11, .ireturn, 1), (12, .iconst 0, 1), (13, .istore_n 3, 1), (14, .iload_n 3, 1), (15, .iload_n 2, 1), (16, .if_icmp .ge 22, 3), (19, .aload_n 0, 1), (20, .iconst 1, 1), (21, .iload_n 3, 1), (22, .iload_n 1, 1), (23, .iload_n 3, 1), (24, .invokevirtual 325, 3), (27, .ifCond .ne 5, 3), (30, .iconst 0, 1), (31, .ireturn, 1), (32, .iinc 3 1, 3), (35, .goto (-21), 3), (38, .iconst 1, 1), (39, .ireturn, 1)]

def zc203 : List (Nat × Instr × Nat) := [(0, .iconst 0, 1), (1, .istore_n 1, 1), (2, .aload_n 0, 1), (3, .getfield 62, 3), (6, .iconst 2, 1), (7, .aload_n 0, 1), (8, .getfield 62, 3), (11, .iconst 0, 1), (12, .iaload, 1), (13, .iastore, 1), (14, .iconst 0, 1), (15, .istore_n 2, 1), (16, .iload_n 2, 1), (17, .aload_n 0, 1), (18, .getfield 62, 3), (21, .iconst 0, 1), (22, .iaload, 1), (23, .if_icmp .ge 120, 3), (26, .aload_n 0, 1), (27, .getfield 98, 3), (30, .iload_n 2, 1), (31, .iload_n 1, 1), (32, .iastore, 1), (33, .aload_n 0, 1), (34, .getfield 65, 3), (37, .sipush 400, 3), (40, .iload_n 2, 1), (41, .iadd, 1), (42, .aload_n 0, 1), (43, .getfield 65, 3), (46, .iload_n 2, 1), (47, .iaload, 1), (48, .iastore, 1), (49, .aload_n 0, 1), (50, .getfield 68, 3), (53, .sipush 400, 3), (56, .iload_n 2, 1), (57, .iadd, 1), (58, .aload_n 0, 1), (59, .getfield 68, 3), (62, .iload_n 2, 1), (63, .iaload, 1), (64, .iastore, 1), (65, .aload_n 0, 1), (66, .getfield 71, 3), (69, .sipush 400, 3), (72, .iload_n 2, 1), (73, .iadd, 1), (74, .aload_n 0, 1), (75, .getfield 71, 3), (78, .iload_n 2, 1), (79, .iaload, 1), (80, .iastore, 1), (81, .aload_n 0, 1), (82, .getfield 74, 3), (85, .sipush 400, 3), (88, .iload_n 2, 1), (89, .iadd, 1), (90, .aload_n 0, 1), (91, .getfield 74, 3), (94, .iload_n 2, 1), (95, .iaload, 1), (96, .iastore, 1), (97, .iconst 0, 1), (98, .istore_n 3, 1), (99, .iload_n 3, 1), (100, .aload_n 0, 1), (101, .getfield 80, 3), (104, .iload_n 2, 1), (105, .iaload, 1), (106, .if_icmp .ge 31, 3), (109, .aload_n 0, 1), (110, .getfield 95, 3), (113, .iload_n 1, 1), (114, .aload_n 0, 1), (115, .getfield 59, 3), (118, .aload_n 0, 1), (119, .getfield 77, 3), (122, .iload_n 2, 1), (123, .iaload, 1), (124, .iload_n 3, 1), (125, .iadd, 1), (126, .iaload, 1), (127, .iastore, 1), (128, .iinc 1 1, 3), (131, .iinc 3 1, 3), (134, .goto (-35), 3), (137, .iinc 2 1, 3), (140, .goto (-124), 3), (143, .aload_n 0, 1), (144, .getfield 98, 3), (147, .aload_n 0, 1), (148, .getfield 62, 3), (151, .iconst 0, 1), (152, .iaload, 1), (153, .iload_n 1, 1), (154, .iastore, 1), (155, .return_, 1)]

def zc204 : List (Nat × Instr × Nat) := [(0, .aload_n 0, 1), (1, .getfield 98, 3), (4, .iload_n 1, 1), (5, .iaload, 1), (6, .istore_n 2, 1), (7, .iload_n 2, 1), (8, .aload_n 0, 1), (9, .getfield 98, 3), (12, .iload_n 1, 1), (13, .iconst 1, 1), (14, .iadd, 1), (15, .iaload, 1), (16, .if_icmp .ge 34, 3), (19, .aload_n 0, 1), (20, .getfield 101, 3), (23, .aload_n 0, 1), (24, .getfield 329, 3), (27, .aload_n 0, 1), (28, .getfield 95, 3), (31, .iload_n 2, 1), (32, .iaload, 1), (33, .iastore, 1), (34, .aload_n 0, 1), (35, .dup, 1), (36, .getfield 329, 3), (39, .iconst 1, 1), (40, .iadd, 1), (41, .putfield 329, 3), (44, .iinc 2 1, 3), (47, .goto (-40), 3), (50, .return_, 1)]

def zc205 : List (Nat × Instr × Nat) := [(0, .aload_n 0, 1), (1, .iconst 0, 1), (2, .putfield 329, 3), (5, .aload_n 0, 1), (6, .iconst 0, 1), (7, .putfield 332, 3), (10, .iconst 0, 1), (11, .istore_n 1, 1), (12, .iload_n 1, 1), (13, .aload_n 0, 1), (14, .getfield 62, 3), (17, .iconst 2, 1), (18, .iaload, 1), (19, .if_icmp .ge 91, 3), (22, .aload_n 0, 1), (23, .getfield 329, 3), (26, .istore_n 2, 1), (27, .aload_n 0, 1), (28, .iload_n 1, 1), (29, .invokevirtual 335, 3), (32, .iload_n 1, 1), (33, .ifCond .ne 6, 3), (36, .goto 68, 3), (39, .aload_n 0, 1), (40, .iconst 1, 1), (41, .aload_n 0, 1), (42, .getfield 101, 3), (45, .aload_n 0, 1), (46, .getfield 329, 3), (49, .invokevirtual 318, 3), (52, .aload_n 0, 1), (53, .iconst 2, 1), (54, .iload_n 1, 1), (55, .iconst 1, 1), (56, .iadd, 1), (57, .invokevirtual 338, 3), (60, .ifCond .ne 44, 3), (63, .aload_n 0, 1), (64, .iload_n 2, 1), (65, .putfield 329, 3), (68, .aload_n 0, 1), (69, .getfield 101, 3), (72, .aload_n 0, 1), (73, .getfield 329, 3), (76, .bipush 124, 2), (78, .iastore, 1), (79, .aload_n 0, 1), (80, .dup, 1), (81, .getfield 329, 3), (84, .iconst 1, 1), (85, .iadd, 1), (86, .putfield 329, 3), (89, .aload_n 0, 1), (90, .dup, 1), (91, .getfield 332, 3), (94, .iconst 1, 1), (95, .iadd, 1), (96, .putfield 332, 3), (99, .aload_n 0, 1), (100, .iload_n 1, 1), (101, .invokevirtual 335, 3), (104, .iinc 1 1, 3), (107, .goto (-95), 3), (110, .return_, 1)]

def zc206 : List (Nat × Instr × Nat) := [(0, .iconst 0, 1), (1, .istore_n 1, 1), (2, .iconst 0, 1), (3, .istore_n 2, 1), (4, .iload_n 2, 1), (5, .aload_n 0, 1), (6, .getfield 251, 3), (9, .if_icmp .ge 28, 3), (12, .iload_n 1, 1), (13, .aload_n 0, 1), (14, .getfield 59, 3), (17, .iload_n 2, 1), (18, .iaload, 1), (19, .bipush 124, 2), (21, .if_icmp .ne 7, 3), (24, .iconst 1, 1), (25, .goto 4, 3), (28, .iconst 0, 1), (29, .iadd, 1), (30, .istore_n 1, 1), (31, .iinc 2 1, 3), (34, .goto (-30), 3), (37, .iload_n 1, 1), (38, .ireturn, 1)]

def zc207 : List (Nat × Instr × Nat) := [(0, .iconst 0, 1), (1, .istore_n 1, 1), (2, .iconst 0, 1), (3, .istore_n 2, 1), (4, .iload_n 2, 1), (5, .aload_n 0, 1), (6, .getfield 62, 3), (9, .iconst 0, 1), (10, .iaload, 1), (11, .if_icmp .ge 26, 3), (14, .iload_n 1, 1), (15, .aload_n 0, 1), (16, .iconst 0, 1), (17, .iload_n 2, 1), (18, .invokevirtual 321, 3), (21, .ifCond .ne 7, 3), (24, .iconst 1, 1), (25, .goto 4, 3), (28, .iconst 0, 1), (29, .iadd, 1), (30, .istore_n 1, 1), (31, .iinc 2 1, 3), (34, .goto (-30), 3), (37, .iload_n 1, 1), (38, .ireturn, 1)]

def zc208 : List (Nat × Instr × Nat) := [(0, .aload_n 0, 1), (1, .aload_n 0, 1), (2, .getfield 244, 3), (5, .ifCond .eq 17, 3), (8, .iload_n 1, 1), (9, .iconst 0, 1), (10, .bipush 12, 2), (12, .invokestatic 158, 3), (15, .ifCond .eq 7, 3), (18, .iconst 1, 1), (19, .goto 4, 3), (22, .iconst 0, 1), (23, .invokestatic 342, 3), (26, .invokevirtual 228, 3), (29, .ifCond .eq 5, 3), (32, .iconst (-1), 1), (33, .ireturn, 1), (34, .iload_n 1, 1), (35, .tableswitch 131 0 11 #[61, 68, 75, 82, 87, 92, 97, 102, 109, 114, 121, 126], 61), (96, .aload_n 0, 1), (97, .getfield 20, 3), (100, .iconst 0, 1), (101, .iaload, 1), (102, .ireturn, 1), (103, .aload_n 0, 1), (104, .getfield 20, 3), (107, .iconst 1, 1), (108, .iaload, 1), (109, .ireturn, 1), (110, .aload_n 0, 1), (111, .getfield 20, 3), (114, .iconst 2, 1), (115, .iaload, 1), (116, .ireturn, 1), (117, .aload_n 0, 1), (118, .getfield 263, 3), (121, .ireturn, 1), (122, .aload_n 0, 1), (123, .getfield 266, 3), (126, .ireturn, 1), (127, .aload_n 0, 1), (128, .getfield 269, 3), (131, .ireturn, 1), (132, .aload_n 0, 1), (133, .getfield 251, 3), (136, .ireturn, 1), (137, .aload_n 0, 1), (138, .getfield 62, 3), (141, .iconst 0, 1), (142, .iaload, 1), (143, .ireturn, 1), (144, .aload_n 0, 1), (145, .invokevirtual 345, 3), (148, .ireturn, 1), (149, .aload_n 0, 1), (150, .getfield 83, 3), (153, .iconst 0, 1), (154, .iaload, 1), (155, .ireturn, 1), (156, .aload_n 0, 1), (157, .invokevirtual 348, 3), (160, .ireturn, 1), (161, .aload_n 0, 1), (162, .getfield 254, 3), (165, .ireturn, 1), (166, .aload_n 0, 1), (167, .getfield 257, 3), (170, .ireturn, 1)]

def zc209 : List (Nat × Instr × Nat) := [(0, .aload_n 0, 1), (1, .aload_n 0, 1), (2, .iload_n 1, 1), (3, .invokevirtual 351, 3), (6, .ifCond .eq 16, 3), (9, .iload_n 2, 1), (10, .iconst 0, 1), (11, .iconst 4, 1), (12, .invokestatic 158, 3), (15, .ifCond .eq 7, 3), (18, .iconst 1, 1), (19, .goto 4, 3), (22, .iconst 0, 1), (23, .invokestatic 342, 3), (26, .invokevirtual 228, 3), (29, .ifCond .eq 5, 3), (32, .iconst (-1), 1), (33, .ireturn, 1), (34, .iload_n 1, 1), (35, .bipush 97, 2), (37, .isub, 1), (38, .istore_n 3, 1), (39, .iload_n 2, 1), (40, .ifCond .ne 12, 3), (43, .aload_n 0, 1), (44, .getfield 17, 3), (47, .iload_n 3, 1), (48, .iaload, 1), (49, .goto 51, 3), (52, .iload_n 2, 1), (53, .iconst 1, 1), (54, .if_icmp .ne 12, 3), (57, .aload_n 0, 1), (58, .getfield 38, 3), (61, .iload_n 3, 1), (62, .iaload, 1), (63, .goto 37, 3), (66, .iload_n 2, 1), (67, .iconst 2, 1), (68, .if_icmp .ne 12, 3), (71, .aload_n 0, 1), (72, .getfield 44, 3), (75, .iload_n 3, 1), (76, .iaload, 1), (77, .goto 23, 3), (80, .iload_n 2, 1), (81, .iconst 3, 1), (82, .if_icmp .ne 12, 3), (85, .aload_n 0, 1), (86, .getfield 47, 3), (89, .iload_n 3, 1), (90, .iaload, 1), (91, .goto 9, 3), (94, .aload_n 0, 1), (95, .getfield 41, 3), (98, .iload_n 3, 1), (99, .iaload, 1), (100, .ireturn, 1)]

def zc210 : List (Nat × Instr × Nat) := [(0, .iload_n 1, 1), (1, .aload_n 0, 1), (2, .getfield 266, 3), (5, .imul, 1), (6, .iload_n 2, 1), (7, .iadd, 1), (8, .aload_n 0, 1), (9, .getfield 269, 3), (12, .imul, 1), (13, .iload_n 3, 1), (14, .iadd, 1), (15, .ireturn, 1)]

def zc211 : List (Nat × Instr × Nat) := [(0, .aload_n 0, 1), (1, .getfield 244, 3), (4, .ifCond .eq 49, 3), (7, .iload_n 1, 1), (8, .iconst 0, 1), (9, .aload_n 0, 1), (10, .getfield 263, 3), (13, .iconst 1, 1), (14, .isub, 1), (15, .invokestatic 158, 3), (18, .ifCond .eq 35, 3), (21, .iload_n 2, 1), (22, .iconst 0, 1), (23, .aload_n 0, 1), (24, .getfield 266, 3), (27, .iconst 1, 1), (28, .isub, 1), (29, .invokestatic 158, 3), (32, .ifCond .eq 21, 3), (35, .iload_n 3, 1), (36, .iconst 0, 1), (37, .aload_n 0, 1), (38, .getfield 269, 3), (41, .iconst 1, 1), (42, .isub, 1), (43, .invokestatic 158, 3), (46, .ifCond .eq 7, 3), (49, .iconst 1, 1), (50, .goto 4, 3), (53, .iconst 0, 1), (54, .istore 4, 2), (56, .aload_n 0, 1), (57, .iload 4, 2), (59, .invokestatic 342, 3), (62, .invokevirtual 228, 3), (65, .ifCond .eq 7, 3), (68, .iconst (-1), 1), (69, .goto 10, 3), (72, .aload_n 0, 1), (73, .iload_n 1, 1), (74, .iload_n 2, 1), (75, .iload_n 3, 1), (76, .invokevirtual 354, 3), (79, .ireturn, 1)]

def zc212 : List (Nat × Instr × Nat) := [(0, .aload_n 0, 1), (1, .getfield 244, 3), (4, .ifCond .eq 31, 3), (7, .iload_n 1, 1), (8, .iconst 0, 1), (9, .aload_n 0, 1), (10, .getfield 263, 3), (13, .aload_n 0, 1), (14, .getfield 266, 3), (17, .imul, 1), (18, .aload_n 0, 1), (19, .getfield 269, 3), (22, .imul, 1), (23, .iconst 1, 1), (24, .isub, 1), (25, .invokestatic 158, 3), (28, .ifCond .eq 7, 3), (31, .iconst 1, 1), (32, .goto 4, 3), (35, .iconst 0, 1), (36, .ireturn, 1)]

def zc213 : List (Nat × Instr × Nat) := [(0, .aload_n 0, 1), (1, .aload_n 0, 1), (2, .iload_n 1, 1), (3, .invokevirtual 358, 3), (6, .ifCond .eq 16, 3), (9, .iload_n 2, 1), (10, .iconst 0, 1), (11, .iconst 2, 1), (12, .invokestatic 158, 3), (15, .ifCond .eq 7, 3), (18, .iconst 1, 1), (19, .goto 4, 3), (22, .iconst 0, 1), (23, .invokestatic 342, 3), (26, .invokevirtual 228, 3), (29, .ifCond .eq 5, 3), (32, .iconst (-1), 1), (33, .ireturn, 1), (34, .iload_n 2, 1), (35, .ifCond .ne 17, 3), (38, .iload_n 1, 1), (39, .aload_n 0, 1), (40, .getfield 269, 3), (43, .idiv, 1), (44, .aload_n 0, 1), (45, .getfield 266, 3), (48, .idiv, 1), (49, .goto 28, 3), (52, .iload_n 2, 1), (53, .iconst 1, 1), (54, .if_icmp .ne 17, 3), (57, .iload_n 1, 1), (58, .aload_n 0, 1), (59, .getfield 269, 3), (62, .idiv, 1), (63, .aload_n 0, 1), (64, .getfield 266, 3), (67, .irem, 1), (68, .goto 9, 3), (71, .iload_n 1, 1), (72, .aload_n 0, 1), (73, .getfield 269, 3), (76, .irem, 1), (77, .ireturn, 1)]

def zc214 : List (Nat × Instr × Nat) := [(0, .iload_n 1, 1), (1, .aload_n 0, 1), (2, .getfield 269, 3), (5, .idiv, 1), (6, .aload_n 0, 1), (7, .getfield 266, 3), (10, .idiv, 1), (11, .istore_n 2, 1), (12, .iload_n 1, 1), (13, .aload_n 0, 1), (14, .getfield 269, 3), (17, .idiv, 1), (18, .aload_n 0, 1), (19, .getfield 266, 3), (22, .irem, 1), (23, .istore_n 3, 1), (24, .iload_n 1, 1), (25, .aload_n 0, 1), (26, .getfield 269, 3), (29, .irem, 1), (30, .istore 4, 2), (32, .iconst 0, 1), (33, .istore 5, 2), (35, .aload_n 0, 1), (36, .getfield 104, 3), (39, .iload 5, 2), (41, .aload_n 0, 1), (42, .getfield 50, 3), (45, .iload_n 2, 1), (46, .iaload, 1), (47, .bipush 97, 2), (49, .iadd, 1), (50, .iastore, 1), (51, .iinc 5 1, 3), (54, .aload_n 0, 1), (55, .getfield 38, 3), (58, .aload_n 0, 1), (59, .getfield 50, 3), (62, .iload_n 2, 1), (63, .iaload, 1), (64, .iaload, 1), (65, .iload_n 2, 1), (66, .if_icmp .eq 22, 3), (69, .aload_n 0, 1), (70, .getfield 104, 3), (73, .iload 5, 2), (75, .aload_n 0, 1), (76, .getfield 50, 3), (79, .iload_n 2, 1), (80, .iaload, 1), (81, .bipush 97, 2), (83, .iadd, 1), (84, .iastore, 1), (85, .iinc 5 1, 3), (88, .iconst 0, 1), (89, .istore 6, 2), (91, .iload 6, 2), (93, .iconst 2, 1), (94, .if_icmp .ge 48, 3), (97, .aload_n 0, 1), (98, .getfield 53, 3), (101, .iconst 2, 1), (102, .iload_n 3, 1), (103, .imul, 1), (104, .iload 6, 2), (106, .iadd, 1), (107, .iaload, 1), (108, .iconst (-1), 1), (109, .if_icmp .eq 27, 3), (112, .aload_n 0, 1), (113, .getfield 104, 3), (116, .iload 5, 2), (118, .aload_n 0, 1), (119, .getfield 53, 3), (122, .iconst 2, 1), (123, .iload_n 3, 1), (124, .imul, 1), (125, .iload 6, 2), (127, .iadd, 1), (128, .iaload, 1), (129, .bipush 97, 2), (131, .iadd, 1), (132, .iastore, 1), (133, .iinc 5 1, 3), (136, .iinc 6 1, 3), (139, .goto (-48), 3), (142, .iconst 0, 1), (143, .istore 6, 2), (145, .iload 6, 2), (147, .iconst 2, 1), (148, .if_icmp .ge 55, 3), (151, .iload 4, 2), (153, .ifCond .le 50, 3), (156, .aload_n 0, 1), (157, .getfield 56, 3), (160, .iconst 2, 1), (161, .iload 4, 2), (163, .imul, 1), (164, .iload 6, 2), (166, .iadd, 1), (167, .iaload, 1), (168, .iconst (-1), 1), (169, .if_icmp .eq 28, 3), (172, .aload_n 0, 1), (173, .getfield 104, 3), (176, .iload 5, 2), (178, .aload_n 0, 1), (179, .getfield 56, 3), (182, .iconst 2, 1), (183, .iload 4, 2), (185, .imul, 1), (186, .iload 6, 2), (188, .iadd, 1), (189, .iaload, 1), (190, .bipush 97, 2), (192, .iadd, 1), (193, .iastore, 1), (194, .iinc 5 1, 3), (197, .iinc 6 1, 3), (200, .goto (-55), 3), (203, .iload 5, 2), (205, .ireturn, 1)]

def zc215 : List (Nat × Instr × Nat) := [(0, .aload_n 0, 1), (1, .aload_n 0, 1), (2, .iload_n 1, 1), (3, .invokevirtual 358, 3), (6, .ifCond .eq 11, 3), (9, .iload_n 2, 1), (10, .ifCond .lt 7, 3), (13, .iconst 1, 1), (14, .goto 4, 3), (17, .iconst 0, 1), (18, .invokestatic 342, 3), (21, .invokevirtual 228, 3), (24, .ifCond .eq 5, 3), (27, .iconst (-1), 1), (28, .ireturn, 1), (29, .aload_n 0, 1), (30, .iload_n 1, 1), (31, .invokevirtual 361, 3), (34, .istore_n 3, 1), (35, .iload_n 2, 1), (36, .iload_n 3, 1), (37, .if_icmp .ge 12, 3), (40, .aload_n 0, 1), (41, .getfield 104, 3), (44, .iload_n 2, 1), (45, .iaload, 1), (46, .goto 5, 3), (49, .bipush (-2), 2), (51, .ireturn, 1)]

def zc216 : List (Nat × Instr × Nat) := [(0, .aload_n 0, 1), (1, .getfield 257, 3), (4, .bipush 30, 2), (6, .if_icmp .ne 91, 3), (9, .aload_n 0, 1), (10, .dup, 1), (11, .getfield 257, 3), (14, .iconst 1, 1), (15, .isub, 1), (16, .putfield 257, 3), (19, .iconst 0, 1), (20, .istore_n 1, 1), (21, .iload_n 1, 1), (22, .aload_n 0, 1), (23, .getfield 257, 3), (26, .if_icmp .ge 37, 3), (29, .aload_n 0, 1), (30, .getfield 110, 3), (33, .iload_n 1, 1), (34, .aload_n 0, 1), (35, .getfield 110, 3), (38, .iload_n 1, 1), (39, .iconst 1, 1), (40, .iadd, 1), (41, .iaload, 1), (42, .iastore, 1), (43, .aload_n 0, 1), (44, .getfield 113, 3), (47, .iload_n 1, 1), (48, .aload_n 0, 1), (49, .getfield 113, 3), (52, .iload_n 1, 1), (53, .iconst 1, 1), (54, .iadd, 1), (55, .iaload, 1), (56, .iastore, 1), (57, .iinc 1 1, 3), (60, .goto (-39), 3), (63, .iconst 0, 1), (64, .istore_n 1, 1), (65, .iload_n 1, 1), (66, .aload_n 0, 1), (67, .getfield 257, 3), (70, .bipush 80, 2), (72, .imul, 1), (73, .if_icmp .ge 24, 3), (76, .aload_n 0, 1), (77, .getfield 107, 3), (80, .iload_n 1, 1), (81, .aload_n 0, 1), (82, .getfield 107, 3), (85, .iload_n 1, 1), (86, .bipush 80, 2), (88, .iadd, 1), (89, .iaload, 1), (90, .iastore, 1), (91, .iinc 1 1, 3), (94, .goto (-29), 3), (97, .iconst 0, 1), (98, .istore_n 1, 1), (99, .iload_n 1, 1), (100, .aload_n 0, 1), (101, .getfield 251, 3), (104, .if_icmp .ge 29, 3), (107, .aload_n 0, 1), (108, .getfield 107, 3), (111, .bipush 80, 2), (113, .aload_n 0, 1), (114, .getfield 257, 3), (117, .imul, 1), (118, .iload_n 1, 1), (119, .iadd, 1), (120, .aload_n 0, 1), (121, .getfield 59, 3), (124, .iload_n 1, 1), (125, .iaload, 1), (126, .iastore, 1), (127, .iinc 1 1, 3), (130, .goto (-31), 3), (133, .aload_n 0, 1), (134, .getfield 110, 3), (137, .aload_n 0, 1), (138, .getfield 257, 3), (141, .aload_n 0, 1), (142, .getfield 251, 3), (145, .iastore, 1), (146, .aload_n 0, 1), (147, .getfield 113, 3), (150, .aload_n 0, 1), (151, .getfield 257, 3), (154, .aload_n 0, 1), (155, .getfield 254, 3), (158, .iastore, 1), (159, .aload_n 0, 1), (160, .dup, 1), (161, .getfield 257, 3), (164, .iconst 1, 1), (165, .iadd, 1), (166, .putfield 257, 3), (169, .return_, 1)]

def zc217 : List (Nat × Instr × Nat) := [(0, .aload_n 0, 1), (1, .invokevirtual 364, 3), (4, .aload_n 0, 1), (5, .getfield 251, 3), (8, .iconst 1, 1), (9, .isub, 1), (10, .istore_n 3, 1), (11, .iload_n 3, 1), (12, .aload_n 0, 1), (13, .getfield 254, 3), (16, .if_icmp .lt 23, 3), (19, .aload_n 0, 1), (20, .getfield 59, 3), (23, .iload_n 3, 1), (24, .iload_n 2, 1), (25, .iadd, 1), (26, .aload_n 0, 1), (27, .getfield 59, 3), (30, .iload_n 3, 1), (31, .iaload, 1), (32, .iastore, 1), (33, .iinc 3 (-1), 3), (36, .goto (-25), 3), (39, .iconst 0, 1), (40, .istore_n 3, 1), (41, .iload_n 3, 1), (42, .iload_n 2, 1), (43, .if_icmp .ge 23, 3), (46, .aload_n 0, 1), (47, .getfield 59, 3), (50, .aload_n 0, 1), (51, .getfield 254, 3), (54, .iload_n 3, 1), (55, .iadd, 1), (56, .aload_n 1, 1), (57, .iload_n 3, 1), (58, .iaload, 1), (59, .iastore, 1), (60, .iinc 3 1, 3), (63, .goto (-22), 3), (66, .aload_n 0, 1), (67, .dup, 1), (68, .getfield 251, 3), (71, .iload_n 2, 1), (72, .iadd, 1), (73, .putfield 251, 3), (76, .aload_n 0, 1), (77, .dup, 1), (78, .getfield 254, 3), (81, .iload_n 2, 1), (82, .iadd, 1), (83, .putfield 254, 3), (86, .aload_n 0, 1), (87, .invokevirtual 260, 3), (90, .return_, 1)]

def zc218 : List (Nat × Instr × Nat) := [(0, .aload_n 0, 1), (1, .getfield 251, 3), (4, .bipush 80, 2), (6, .if_icmp .ne 9, 3), (9, .aload_n 0, 1), (10, .iconst 3, 1), (11, .invokevirtual 237, 3), (14, .ireturn, 1), (15, .aload_n 0, 1), (16, .getfield 116, 3), (19, .iconst 0, 1), (20, .iload_n 1, 1), (21, .iastore, 1), (22, .aload_n 0, 1), (23, .aload_n 0, 1), (24, .getfield 116, 3), (27, .iconst 1, 1), (28, .invokevirtual 367, 3), (31, .aload_n 0, 1), (32, .getfield 62, 3), (35, .iconst 0, 1), (36, .iaload, 1), (37, .ireturn, 1)]

def zc219 : List (Nat × Instr × Nat) := [(0, .aload_n 0, 1), (1, .aload_n 0, 1), (2, .iload_n 1, 1), (3, .invokevirtual 351, 3), (6, .invokestatic 342, 3), (9, .invokevirtual 228, 3), (12, .ifCond .eq 7, 3), (15, .iconst (-1), 1), (16, .goto 8, 3), (19, .aload_n 0, 1), (20, .iload_n 1, 1), (21, .invokevirtual 371, 3), (24, .ireturn, 1)]

def zc220 : List (Nat × Instr × Nat) := [(0, .aload_n 0, 1), (1, .aload_n 0, 1), (2, .getfield 244, 3), (5, .invokestatic 342, 3), (8, .invokevirtual 228, 3), (11, .ifCond .eq 7, 3), (14, .iconst (-1), 1), (15, .goto 9, 3), (18, .aload_n 0, 1), (19, .bipush 124, 2), (21, .invokevirtual 371, 3), (24, .ireturn, 1)]

def zc221 : List (Nat × Instr × Nat) := [(0, .aload_n 0, 1), (1, .aload_n 0, 1), (2, .getfield 244, 3), (5, .iload_n 1, 1), (6, .iconst 0, 1), (7, .aload_n 0, 1), (8, .getfield 135, 3), (11, .invokestatic 158, 3), (14, .invokestatic 224, 3), (17, .invokevirtual 228, 3), (20, .ifCond .eq 5, 3), (23, .iconst (-1), 1), (24, .ireturn, 1), (25, .aload_n 0, 1), (26, .iconst 0, 1), (27, .putfield 135, 3), (30, .iconst 0, 1), (31, .istore_n 2, 1), (32, .iload_n 2, 1), (33, .iload_n 1, 1), (34, .if_icmp .ge 39, 3), (37, .aload_n 0, 1), (38, .getfield 13, 3), (41, .iload_n 2, 1), (42, .iaload, 1), (43, .bipush 124, 2), (45, .if_icmp .eq 22, 3), (48, .aload_n 0, 1), (49, .aload_n 0, 1), (50, .getfield 13, 3), (53, .iload_n 2, 1), (54, .iaload, 1), (55, .invokevirtual 351, 3), (58, .ifCond .ne 9, 3), (61, .aload_n 0, 1), (62, .iconst 5, 1), (63, .invokevirtual 237, 3), (66, .ireturn, 1), (67, .iinc 2 1, 3), (70, .goto (-38), 3), (73, .aload_n 0, 1), (74, .getfield 251, 3), (77, .iload_n 1, 1), (78, .iadd, 1), (79, .bipush 80, 2), (81, .if_icmp .le 9, 3), (84, .aload_n 0, 1), (85, .iconst 3, 1), (86, .invokevirtual 237, 3), (89, .ireturn, 1), (90, .aload_n 0, 1), (91, .aload_n 0, 1), (92, .getfield 13, 3), (95, .iload_n 1, 1), (96, .invokevirtual 367, 3), (99, .aload_n 0, 1), (100, .getfield 62, 3), (103, .iconst 0, 1), (104, .iaload, 1), (105, .ireturn, 1)]

def zc222 : List (Nat × Instr × Nat) := [(0, .aload_n 0, 1), (1, .invokevirtual 364, 3), (4, .iload_n 1, 1), (5, .istore_n 2, 1), (6, .iload_n 2, 1), (7, .iconst 1, 1), (8, .iadd, 1), (9, .aload_n 0, 1), (10, .getfield 251, 3), (13, .if_icmp .ge 23, 3), (16, .aload_n 0, 1), (17, .getfield 59, 3), (20, .iload_n 2, 1), (21, .aload_n 0, 1), (22, .getfield 59, 3), (25, .iload_n 2, 1), (26, .iconst 1, 1), (27, .iadd, 1), (28, .iaload, 1), (29, .iastore, 1), (30, .iinc 2 1, 3), (33, .goto (-27), 3), (36, .aload_n 0, 1), (37, .dup, 1), (38, .getfield 251, 3), (41, .iconst 1, 1), (42, .isub, 1), (43, .putfield 251, 3), (46, .aload_n 0, 1), (47, .iload_n 1, 1), (48, .putfield 254, 3), (51, .aload_n 0, 1), (52, .invokevirtual 260, 3), (55, .aload_n 0, 1), (56, .getfield 62, 3), (59, .iconst 0, 1), (60, .iaload, 1), (61, .ireturn, 1)]

def zc223 : List (Nat × Instr × Nat) := [(0, .aload_n 0, 1), (1, .aload_n 0, 1), (2, .getfield 244, 3), (5, .ifCond .ne 7, 3), (8, .iconst 1, 1), (9, .goto 15, 3), (12, .aload_n 0, 1), (13, .getfield 254, 3), (16, .ifCond .ne 7, 3), (19, .iconst 5, 1), (20, .goto 4, 3), (23, .iconst 0, 1), (24, .invokevirtual 228, 3), (27, .ifCond .eq 5, 3), (30, .iconst (-1), 1), (31, .ireturn, 1), (32, .aload_n 0, 1), (33, .aload_n 0, 1), (34, .getfield 254, 3), (37, .iconst 1, 1), (38, .isub, 1), (39, .invokevirtual 374, 3), (42, .ireturn, 1)]

def zc224 : List (Nat × Instr × Nat) := [(0, .aload_n 0, 1), (1, .aload_n 0, 1), (2, .getfield 244, 3), (5, .ifCond .ne 7, 3), (8, .iconst 1, 1), (9, .goto 19, 3), (12, .aload_n 0, 1), (13, .getfield 254, 3), (16, .aload_n 0, 1), (17, .getfield 251, 3), (20, .if_icmp .ne 7, 3), (23, .iconst 5, 1), (24, .goto 4, 3), (27, .iconst 0, 1), (28, .invokevirtual 228, 3), (31, .ifCond .eq 5, 3), (34, .iconst (-1), 1), (35, .ireturn, 1), (36, .aload_n 0, 1), (37, .aload_n 0, 1), (38, .getfield 254, 3), (41, .invokevirtual 374, 3), (44, .ireturn, 1)]

def zc225 : List (Nat × Instr × Nat) := [(0, .aload_n 0, 1), (1, .aload_n 0, 1), (2, .getfield 244, 3), (5, .iload_n 1, 1), (6, .iconst 0, 1), (7, .aload_n 0, 1), (8, .getfield 251, 3), (11, .invokestatic 158, 3), (14, .invokestatic 224, 3), (17, .invokevirtual 228, 3), (20, .ifCond .eq 5, 3), (23, .iconst (-1), 1), (24, .ireturn, 1), (25, .aload_n 0, 1), (26, .getfield 254, 3), (29, .istore_n 2, 1), (30, .aload_n 0, 1), (31, .invokevirtual 364, 3), (34, .aload_n 0, 1), (35, .iload_n 1, 1), (36, .putfield 254, 3), (39, .iload_n 2, 1), (40, .ireturn, 1)]

def zc226 : List (Nat × Instr × Nat) := [(0, .aload_n 0, 1), (1, .aload_n 0, 1), (2, .getfield 244, 3), (5, .invokestatic 342, 3), (8, .invokevirtual 228, 3), (11, .ifCond .eq 5, 3), (14, .iconst (-1), 1), (15, .ireturn, 1), (16, .aload_n 0, 1), (17, .invokevirtual 348, 3), (20, .istore_n 1, 1), (21, .iconst 0, 1), (22, .istore_n 2, 1), (23, .iconst 0, 1), (24, .istore_n 3, 1), (25, .iload_n 3, 1), (26, .aload_n 0, 1), (27, .getfield 254, 3), (30, .if_icmp .ge 28, 3), (33, .iload_n 2, 1), (34, .aload_n 0, 1), (35, .getfield 59, 3), (38, .iload_n 3, 1), (39, .iaload, 1), (40, .bipush 124, 2), (42, .if_icmp .ne 7, 3), (45, .iconst 0, 1), (46, .goto 4, 3), (49, .iconst 1, 1), (50, .iadd, 1), (51, .istore_n 2, 1), (52, .iinc 3 1, 3), (55, .goto (-30), 3), (58, .aload_n 0, 1), (59, .invokevirtual 377, 3), (62, .aload_n 0, 1), (63, .invokevirtual 380, 3), (66, .aload_n 0, 1), (67, .invokevirtual 364, 3), (70, .aload_n 0, 1), (71, .aload_n 0, 1), (72, .getfield 329, 3), (75, .putfield 251, 3), (78, .aload_n 0, 1), (79, .iconst 0, 1), (80, .putfield 254, 3), (83, .iconst 0, 1), (84, .istore_n 3, 1), (85, .iload_n 3, 1), (86, .aload_n 0, 1), (87, .getfield 251, 3), (90, .if_icmp .ge 21, 3), (93, .aload_n 0, 1), (94, .getfield 59, 3), (97, .iload_n 3, 1), (98, .aload_n 0, 1), (99, .getfield 101, 3), (102, .iload_n 3, 1), (103, .iaload, 1), (104, .iastore, 1), (105, .iinc 3 1, 3), (108, .goto (-23), 3), (111, .iconst 0, 1), (112, .istore_n 3, 1), (113, .iload_n 3, 1), (114, .iload_n 2, 1), (115, .if_icmp .ge 38, 3), (118, .iload_n 3, 1), (119, .aload_n 0, 1), (120, .getfield 59, 3), (123, .aload_n 0, 1), (124, .getfield 254, 3), (127, .iaload, 1), (128, .bipush 124, 2), (130, .if_icmp .ne 7, 3), (133, .iconst 0, 1), (134, .goto 4, 3), (137, .iconst 1, 1), (138, .iadd, 1), (139, .istore_n 3, 1), (140, .aload_n 0, 1), (141, .dup, 1), (142, .getfield 254, 3), (145, .iconst 1, 1), (146, .iadd, 1), (147, .putfield 254, 3), (150, .goto (-37), 3), (153, .aload_n 0, 1), (154, .invokevirtual 260, 3), (157, .iload_n 1, 1), (158, .aload_n 0, 1), (159, .getfield 332, 3), (162, .isub, 1), (163, .ireturn, 1)]

def zc227 : List (Nat × Instr × Nat) := [(0, .aload_n 0, 1), (1, .getfield 62, 3), (4, .iconst 2, 1), (5, .iconst 0, 1), (6, .iastore, 1), (7, .iconst 0, 1), (8, .istore_n 2, 1), (9, .iconst 0, 1), (10, .istore_n 3, 1), (11, .iload_n 3, 1), (12, .iload_n 1, 1), (13, .if_icmp .ge 195, 3), (16, .sipush 256, 3), (19, .aload_n 0, 1), (20, .getfield 13, 3), (23, .iload_n 3, 1), (24, .iaload, 1), (25, .imul, 1), (26, .aload_n 0, 1), (27, .getfield 13, 3), (30, .iload_n 3, 1), (31, .iconst 1, 1), (32, .iadd, 1), (33, .iaload, 1), (34, .iadd, 1), (35, .istore 4, 2), (37, .aload_n 0, 1), (38, .iload 4, 2), (40, .invokevirtual 361, 3), (43, .istore 5, 2), (45, .iload_n 2, 1), (46, .iload 5, 2), (48, .iadd, 1), (49, .bipush 80, 2), (51, .if_icmp .le 5, 3), (54, .iconst 0, 1), (55, .ireturn, 1), (56, .sipush 400, 3), (59, .aload_n 0, 1), (60, .getfield 62, 3), (63, .iconst 2, 1), (64, .iaload, 1), (65, .iadd, 1), (66, .istore 6, 2), (68, .aload_n 0, 1), (69, .getfield 65, 3), (72, .iload 6, 2), (74, .iload 4, 2), (76, .aload_n 0, 1), (77, .getfield 269, 3), (80, .idiv, 1), (81, .aload_n 0, 1), (82, .getfield 266, 3), (85, .idiv, 1), (86, .iastore, 1), (87, .aload_n 0, 1), (88, .getfield 68, 3), (91, .iload 6, 2), (93, .iload 4, 2), (95, .aload_n 0, 1), (96, .getfield 269, 3), (99, .idiv, 1), (100, .aload_n 0, 1), (101, .getfield 266, 3), (104, .irem, 1), (105, .iastore, 1), (106, .aload_n 0, 1), (107, .getfield 71, 3), (110, .iload 6, 2), (112, .iload 4, 2), (114, .aload_n 0, 1), (115, .getfield 269, 3), (118, .irem, 1), (119, .ifCond .ne 8, 3), (122, .bipush (-2), 2), (124, .goto 10, 3), (127, .iload 4, 2), (129, .aload_n 0, 1), (130, .getfield 269, 3), (133, .irem, 1), (134, .iastore, 1), (135, .aload_n 0, 1), (136, .getfield 74, 3), (139, .iload 6, 2), (141, .iconst 0, 1), (142, .iastore, 1), (143, .aload_n 0, 1), (144, .getfield 98, 3), (147, .aload_n 0, 1), (148, .getfield 62, 3), (151, .iconst 2, 1), (152, .iaload, 1), (153, .iload_n 2, 1), (154, .iastore, 1), (155, .aload_n 0, 1), (156, .getfield 62, 3), (159, .iconst 2, 1), (160, .dup2, 1), (161, .iaload, 1), (162, .iconst 1, 1), (163, .iadd, 1), (164, .iastore, 1), (165, .iconst 0, 1), (166, .istore 7, 2), (168, .iload 7, 2), (170, .iload 5, 2), (172, .if_icmp .ge 25, 3), (175, .aload_n 0, 1), (176, .getfield 95, 3), (179, .iload_n 2, 1), (180, .iload 7, 2), (182, .iadd, 1), (183, .aload_n 0, 1), (184, .getfield 104, 3), (187, .iload 7, 2), (189, .iaload, 1), (190, .iastore, 1), (191, .iinc 7 1, 3), (194, .goto (-26), 3), (197, .iload_n 2, 1), (198, .iload 5, 2), (200, .iadd, 1), (201, .istore_n 2, 1), (202, .iinc 3 2, 3), (205, .goto (-194), 3), (208, .aload_n 0, 1), (209, .getfield 98, 3), (212, .aload_n 0, 1), (213, .getfield 62, 3), (216, .iconst 2, 1), (217, .iaload, 1), (218, .iload_n 2, 1), (219, .iastore, 1), (220, .iconst 1, 1), (221, .ireturn, 1)]

def zc228 : List (Nat × Instr × Nat) := [(0, .aload_n 0, 1), (1, .aload_n 0, 1), (2, .getfield 244, 3), (5, .iload_n 1, 1), (6, .iconst 1, 1), (7, .aload_n 0, 1), (8, .getfield 135, 3), (11, .invokestatic 158, 3), (14, .ifCond .eq 13, 3), (17, .iload_n 1, 1), (18, .iconst 2, 1), (19, .irem, 1), (20, .ifCond .ne 7, 3), (23, .iconst 1, 1), (24, .goto 4, 3), (27, .iconst 0, 1), (28, .invokestatic 224, 3), (31, .invokevirtual 228, 3), (34, .ifCond .eq 5, 3), (37, .iconst (-1), 1), (38, .ireturn, 1), (39, .aload_n 0, 1), (40, .iconst 0, 1), (41, .putfield 135, 3), (44, .iconst 0, 1), (45, .istore_n 2, 1), (46, .iload_n 2, 1), (47, .iload_n 1, 1), (48, .if_icmp .ge 41, 3), (51, .aload_n 0, 1), (52, .sipush 256, 3), (55, .aload_n 0, 1), (56, .getfield 13, 3), (59, .iload_n 2, 1), (60, .iaload, 1), (61, .imul, 1), (62, .aload_n 0, 1), (63, .getfield 13, 3), (66, .iload_n 2, 1), (67, .iconst 1, 1), (68, .iadd, 1), (69, .iaload, 1), (70, .iadd, 1), (71, .invokevirtual 358, 3), (74, .ifCond .ne 9, 3), (77, .aload_n 0, 1), (78, .iconst 5, 1), (79, .invokevirtual 237, 3), (82, .ireturn, 1), (83, .iinc 2 2, 3), (86, .goto (-40), 3), (89, .aload_n 0, 1), (90, .iload_n 1, 1), (91, .invokevirtual 383, 3), (94, .ifCond .ne 9, 3), (97, .aload_n 0, 1), (98, .iconst 3, 1), (99, .invokevirtual 237, 3), (102, .ireturn, 1), (103, .aload_n 0, 1), (104, .invokevirtual 380, 3), (107, .iconst 0, 1), (108, .istore_n 2, 1), (109, .aload_n 0, 1), (110, .getfield 254, 3), (113, .ifCond .le 13, 3), (116, .aload_n 0, 1), (117, .getfield 119, 3), (120, .iconst 0, 1), (121, .bipush 124, 2), (123, .iastore, 1), (124, .iconst 1, 1), (125, .istore_n 2, 1), (126, .iconst 0, 1), (127, .istore_n 3, 1), (128, .iload_n 3, 1), (129, .aload_n 0, 1), (130, .getfield 329, 3), (133, .if_icmp .ge 24, 3), (136, .aload_n 0, 1), (137, .getfield 119, 3), (140, .iload_n 2, 1), (141, .aload_n 0, 1), (142, .getfield 101, 3), (145, .iload_n 3, 1), (146, .iaload, 1), (147, .iastore, 1), (148, .iinc 2 1, 3), (151, .iinc 3 1, 3), (154, .goto (-26), 3), (157, .aload_n 0, 1), (158, .getfield 254, 3), (161, .aload_n 0, 1), (162, .getfield 251, 3), (165, .if_icmp .ge 14, 3), (168, .aload_n 0, 1), (169, .getfield 119, 3), (172, .iload_n 2, 1), (173, .bipush 124, 2), (175, .iastore, 1), (176, .iinc 2 1, 3), (179, .aload_n 0, 1), (180, .getfield 251, 3), (183, .iload_n 2, 1), (184, .iadd, 1), (185, .bipush 80, 2), (187, .if_icmp .le 9, 3), (190, .aload_n 0, 1), (191, .iconst 3, 1), (192, .invokevirtual 237, 3), (195, .ireturn, 1), (196, .aload_n 0, 1), (197, .aload_n 0, 1), (198, .getfield 119, 3), (201, .iload_n 2, 1), (202, .invokevirtual 367, 3), (205, .aload_n 0, 1), (206, .getfield 62, 3), (209, .iconst 0, 1), (210, .iaload, 1), (211, .ireturn, 1)]

def zc229 : List (Nat × Instr × Nat) := [(0, .aload_n 0, 1), (1, .aload_n 0, 1), (2, .getfield 244, 3), (5, .ifCond .ne 7, 3), (8, .iconst 1, 1), (9, .goto 15, 3), (12, .aload_n 0, 1), (13, .getfield 257, 3), (16, .ifCond .ne 7, 3), (19, .iconst 5, 1), (20, .goto 4, 3), (23, .iconst 0, 1), (24, .invokevirtual 228, 3), (27, .ifCond .eq 5, 3), (30, .iconst (-1), 1), (31, .ireturn, 1), (32, .aload_n 0, 1), (33, .dup, 1), (34, .getfield 257, 3), (37, .iconst 1, 1), (38, .isub, 1), (39, .putfield 257, 3), (42, .aload_n 0, 1), (43, .aload_n 0, 1), (44, .getfield 110, 3), (47, .aload_n 0, 1), (48, .getfield 257, 3), (51, .iaload, 1), (52, .putfield 251, 3), (55, .aload_n 0, 1), (56, .aload_n 0, 1), (57, .getfield 113, 3), (60, .aload_n 0, 1), (61, .getfield 257, 3), (64, .iaload, 1), (65, .putfield 254, 3), (68, .iconst 0, 1), (69, .istore_n 1, 1), (70, .iload_n 1, 1), (71, .aload_n 0, 1), (72, .getfield 251, 3), (75, .if_icmp .ge 29, 3), (78, .aload_n 0, 1), (79, .getfield 59, 3), (82, .iload_n 1, 1), (83, .aload_n 0, 1), (84, .getfield 107, 3), (87, .bipush 80, 2), (89, .aload_n 0, 1), (90, .getfield 257, 3), (93, .imul, 1), (94, .iload_n 1, 1), (95, .iadd, 1), (96, .iaload, 1), (97, .iastore, 1), (98, .iinc 1 1, 3), (101, .goto (-31), 3), (104, .aload_n 0, 1), (105, .invokevirtual 260, 3), (108, .aload_n 0, 1), (109, .getfield 257, 3), (112, .ireturn, 1)]

def zc230 : List (Nat × Instr × Nat) := [(0, .aload_n 0, 1), (1, .getfield 244, 3), (4, .ifCond .eq 21, 3), (7, .iload_n 1, 1), (8, .iconst 0, 1), (9, .aload_n 0, 1), (10, .getfield 251, 3), (13, .iconst 1, 1), (14, .isub, 1), (15, .invokestatic 158, 3), (18, .ifCond .eq 7, 3), (21, .iconst 1, 1), (22, .goto 4, 3), (25, .iconst 0, 1), (26, .ireturn, 1)]

def zc231 : List (Nat × Instr × Nat) := [(0, .aload_n 0, 1), (1, .aload_n 0, 1), (2, .iload_n 1, 1), (3, .invokevirtual 386, 3), (6, .invokestatic 342, 3), (9, .invokevirtual 228, 3), (12, .ifCond .eq 7, 3), (15, .iconst (-1), 1), (16, .goto 9, 3), (19, .aload_n 0, 1), (20, .getfield 59, 3), (23, .iload_n 1, 1), (24, .iaload, 1), (25, .ireturn, 1)]

def zc232 : List (Nat × Instr × Nat) := [(0, .aload_n 0, 1), (1, .aload_n 0, 1), (2, .iload_n 1, 1), (3, .invokevirtual 386, 3), (6, .ifCond .eq 16, 3), (9, .iload_n 2, 1), (10, .iconst 0, 1), (11, .iconst 2, 1), (12, .invokestatic 158, 3), (15, .ifCond .eq 7, 3), (18, .iconst 1, 1), (19, .goto 4, 3), (22, .iconst 0, 1), (23, .invokestatic 342, 3), (26, .invokevirtual 228, 3), (29, .ifCond .eq 5, 3), (32, .iconst (-1), 1), (33, .ireturn, 1), (34, .iload_n 2, 1), (35, .ifCond .ne 12, 3), (38, .aload_n 0, 1), (39, .getfield 86, 3), (42, .iload_n 1, 1), (43, .iaload, 1), (44, .goto 23, 3), (47, .iload_n 2, 1), (48, .iconst 1, 1), (49, .if_icmp .ne 12, 3), (52, .aload_n 0, 1), (53, .getfield 92, 3), (56, .iload_n 1, 1), (57, .iaload, 1), (58, .goto 9, 3), (61, .aload_n 0, 1), (62, .getfield 89, 3), (65, .iload_n 1, 1), (66, .iaload, 1), (67, .ireturn, 1)]

def zc233 : List (Nat × Instr × Nat) := [(0, .aload_n 0, 1), (1, .getfield 244, 3), (4, .ifCond .eq 23, 3), (7, .iload_n 1, 1), (8, .iconst 0, 1), (9, .aload_n 0, 1), (10, .getfield 62, 3), (13, .iconst 0, 1), (14, .iaload, 1), (15, .iconst 1, 1), (16, .isub, 1), (17, .invokestatic 158, 3), (20, .ifCond .eq 7, 3), (23, .iconst 1, 1), (24, .goto 4, 3), (27, .iconst 0, 1), (28, .ireturn, 1)]

def zc234 : List (Nat × Instr × Nat) := [(0, .aload_n 0, 1), (1, .iconst 0, 1), (2, .iload_n 1, 1), (3, .invokevirtual 321, 3), (6, .ifCond .eq 8, 3), (9, .bipush (-2), 2), (11, .goto 24, 3), (14, .aload_n 0, 1), (15, .getfield 71, 3), (18, .iload_n 1, 1), (19, .iaload, 1), (20, .bipush (-2), 2), (22, .if_icmp .ne 7, 3), (25, .iconst 0, 1), (26, .goto 9, 3), (29, .aload_n 0, 1), (30, .getfield 71, 3), (33, .iload_n 1, 1), (34, .iaload, 1), (35, .ireturn, 1)]

def zc235 : List (Nat × Instr × Nat) := [(0, .aload_n 0, 1), (1, .iconst 0, 1), (2, .iload_n 1, 1), (3, .invokevirtual 321, 3), (6, .ifCond .eq 8, 3), (9, .bipush (-2), 2), (11, .goto 24, 3), (14, .aload_n 0, 1), (15, .aload_n 0, 1), (16, .getfield 65, 3), (19, .iload_n 1, 1), (20, .iaload, 1), (21, .aload_n 0, 1), (22, .getfield 68, 3), (25, .iload_n 1, 1), (26, .iaload, 1), (27, .aload_n 0, 1), (28, .iload_n 1, 1), (29, .invokevirtual 389, 3), (32, .invokevirtual 354, 3), (35, .ireturn, 1)]

def zc236 : List (Nat × Instr × Nat) := [(0, .aload_n 0, 1), (1, .aload_n 0, 1), (2, .iload_n 1, 1), (3, .invokevirtual 392, 3), (6, .ifCond .eq 17, 3), (9, .iload_n 2, 1), (10, .iconst 0, 1), (11, .bipush 6, 2), (13, .invokestatic 158, 3), (16, .ifCond .eq 7, 3), (19, .iconst 1, 1), (20, .goto 4, 3), (23, .iconst 0, 1), (24, .invokestatic 342, 3), (27, .invokevirtual 228, 3), (30, .ifCond .eq 5, 3), (33, .iconst (-1), 1), (34, .ireturn, 1), (35, .iload_n 2, 1), (36, .tableswitch 80 0 5 #[40, 47, 54, 61, 67, 73], 40), (76, .aload_n 0, 1), (77, .iconst 0, 1), (78, .iload_n 1, 1), (79, .invokevirtual 321, 3), (82, .ireturn, 1), (83, .aload_n 0, 1), (84, .getfield 65, 3), (87, .iload_n 1, 1), (88, .iaload, 1), (89, .ireturn, 1), (90, .aload_n 0, 1), (91, .getfield 68, 3), (94, .iload_n 1, 1), (95, .iaload, 1), (96, .ireturn, 1), (97, .aload_n 0, 1), (98, .iload_n 1, 1), (99, .invokevirtual 389, 3), (102, .ireturn, 1), (103, .aload_n 0, 1), (104, .iload_n 1, 1), (105, .invokevirtual 395, 3), (108, .ireturn, 1), (109, .aload_n 0, 1), (110, .getfield 77, 3), (113, .iload_n 1, 1), (114, .iaload, 1), (115, .ireturn, 1), (116, .aload_n 0, 1), (117, .getfield 80, 3), (120, .iload_n 1, 1), (121, .iaload, 1), (122, .ireturn, 1)]

def zc237 : List (Nat × Instr × Nat) := [(0, .aload_n 0, 1), (1, .aload_n 0, 1), (2, .getfield 244, 3), (5, .invokestatic 342, 3), (8, .invokevirtual 228, 3), (11, .ifCond .eq 5, 3), (14, .iconst (-1), 1), (15, .ireturn, 1), (16, .aload_n 0, 1), (17, .getfield 254, 3), (20, .ifCond .le 55, 3), (23, .aload_n 0, 1), (24, .getfield 254, 3), (27, .aload_n 0, 1), (28, .getfield 251, 3), (31, .if_icmp .ge 44, 3), (34, .aload_n 0, 1), (35, .getfield 86, 3), (38, .aload_n 0, 1), (39, .getfield 254, 3), (42, .iaload, 1), (43, .bipush (-2), 2), (45, .if_icmp .eq 30, 3), (48, .aload_n 0, 1), (49, .getfield 86, 3), (52, .aload_n 0, 1), (53, .getfield 254, 3), (56, .iaload, 1), (57, .aload_n 0, 1), (58, .getfield 86, 3), (61, .aload_n 0, 1), (62, .getfield 254, 3), (65, .iconst 1, 1), (66, .isub, 1), (67, .iaload, 1), (68, .if_icmp .ne 7, 3), (71, .iconst 1, 1), (72, .goto 4, 3), (75, .iconst 0, 1), (76, .istore_n 1, 1), (77, .iload_n 1, 1), (78, .ifCond .eq 15, 3), (81, .aload_n 0, 1), (82, .getfield 86, 3), (85, .aload_n 0, 1), (86, .getfield 254, 3), (89, .iaload, 1), (90, .goto 5, 3), (93, .bipush (-2), 2), (95, .ireturn, 1)]

def zc238 : List (Nat × Instr × Nat) := [(0, .aload_n 0, 1), (1, .aload_n 0, 1), (2, .iload_n 1, 1), (3, .invokevirtual 386, 3), (6, .invokestatic 342, 3), (9, .invokevirtual 228, 3), (12, .ifCond .eq 5, 3), (15, .iconst (-1), 1), (16, .ireturn, 1), (17, .aload_n 0, 1), (18, .getfield 59, 3), (21, .iload_n 1, 1), (22, .iaload, 1), (23, .bipush 124, 2), (25, .if_icmp .eq 9, 3), (28, .aload_n 0, 1), (29, .iconst 5, 1), (30, .invokevirtual 237, 3), (33, .ireturn, 1), (34, .iconst 0, 1), (35, .istore_n 2, 1), (36, .iconst 0, 1), (37, .istore_n 3, 1), (38, .iload_n 3, 1), (39, .aload_n 0, 1), (40, .getfield 251, 3), (43, .if_icmp .ge 29, 3), (46, .iload_n 3, 1), (47, .iload_n 1, 1), (48, .if_icmp .eq 18, 3), (51, .aload_n 0, 1), (52, .getfield 101, 3), (55, .iload_n 2, 1), (56, .aload_n 0, 1), (57, .getfield 59, 3), (60, .iload_n 3, 1), (61, .iaload, 1), (62, .iastore, 1), (63, .iinc 2 1, 3), (66, .iinc 3 1, 3), (69, .goto (-31), 3), (72, .aload_n 0, 1), (73, .iconst 1, 1), (74, .aload_n 0, 1), (75, .getfield 101, 3), (78, .iload_n 2, 1), (79, .invokevirtual 318, 3), (82, .aload_n 0, 1), (83, .iconst 0, 1), (84, .aload_n 0, 1), (85, .getfield 62, 3), (88, .iconst 0, 1), (89, .iaload, 1), (90, .invokevirtual 338, 3), (93, .ifCond .eq 7, 3), (96, .iconst 0, 1), (97, .goto 4, 3), (100, .iconst 1, 1), (101, .ireturn, 1)]

def zc239 : List (Nat × Instr × Nat) := [(0, .aload_n 0, 1), (1, .aload_n 0, 1), (2, .getfield 244, 3), (5, .invokestatic 342, 3), (8, .invokevirtual 228, 3), (11, .ifCond .eq 5, 3), (14, .iconst (-1), 1), (15, .ireturn, 1), (16, .aload_n 0, 1), (17, .invokevirtual 377, 3), (20, .aload_n 0, 1), (21, .invokevirtual 380, 3), (24, .aload_n 0, 1), (25, .getfield 332, 3), (28, .ireturn, 1)]

def zc240 : List (Nat × Instr × Nat) := [(0, .aload_n 0, 1), (1, .getfield 244, 3), (4, .ifCond .eq 30, 3), (7, .iload_n 1, 1), (8, .bipush 124, 2), (10, .if_icmp .eq 11, 3), (13, .aload_n 0, 1), (14, .iload_n 1, 1), (15, .invokevirtual 351, 3), (18, .ifCond .eq 16, 3), (21, .iload_n 2, 1), (22, .iconst 0, 1), (23, .iconst 3, 1), (24, .invokestatic 158, 3), (27, .ifCond .eq 7, 3), (30, .iconst 1, 1), (31, .goto 4, 3), (34, .iconst 0, 1), (35, .istore_n 3, 1), (36, .aload_n 0, 1), (37, .iload_n 3, 1), (38, .ifCond .ne 7, 3), (41, .iconst 1, 1), (42, .goto 17, 3), (45, .aload_n 0, 1), (46, .getfield 251, 3), (49, .bipush 80, 2), (51, .if_icmp .ne 7, 3), (54, .iconst 3, 1), (55, .goto 4, 3), (58, .iconst 0, 1), (59, .invokevirtual 228, 3), (62, .ifCond .eq 5, 3), (65, .iconst (-1), 1), (66, .ireturn, 1), (67, .iconst 0, 1), (68, .istore 4, 2), (70, .iload 4, 2), (72, .aload_n 0, 1), (73, .getfield 251, 3), (76, .if_icmp .gt 57, 3), (79, .aload_n 0, 1), (80, .getfield 101, 3), (83, .iload 4, 2), (85, .iload 4, 2), (87, .aload_n 0, 1), (88, .getfield 254, 3), (91, .if_icmp .ge 13, 3), (94, .aload_n 0, 1), (95, .getfield 59, 3), (98, .iload 4, 2), (100, .iaload, 1), (101, .goto 25, 3), (104, .iload 4, 2), (106, .aload_n 0, 1), (107, .getfield 254, 3), (110, .if_icmp .ne 7, 3), (113, .iload_n 1, 1), (114, .goto 12, 3), (117, .aload_n 0, 1), (118, .getfield 59, 3), (121, .iload 4, 2), (123, .iconst 1, 1), (124, .isub, 1), (125, .iaload, 1), (126, .iastore, 1), (127, .iinc 4 1, 3), (130, .goto (-60), 3), (133, .aload_n 0, 1), (134, .iconst 1, 1), (135, .aload_n 0, 1), (136, .getfield 101, 3), (139, .aload_n 0, 1), (140, .getfield 251, 3), (143, .iconst 1, 1), (144, .iadd, 1), (145, .invokevirtual 318, 3), (148, .iconst 0, 1), (149, .istore 4, 2), (151, .aload_n 0, 1), (152, .getfield 62, 3), (155, .iconst 0, 1), (156, .iaload, 1), (157, .aload_n 0, 1), (158, .getfield 62, 3), (161, .iconst 1, 1), (162, .iaload, 1), (163, .if_icmp .ge 12, 3), (166, .aload_n 0, 1), (167, .getfield 62, 3), (170, .iconst 0, 1), (171, .iaload, 1), (172, .goto 9, 3), (175, .aload_n 0, 1), (176, .getfield 62, 3), (179, .iconst 1, 1), (180, .iaload, 1), (181, .istore 5, 2), (183, .iload 4, 2), (185, .iload 5, 2), (187, .if_icmp .ge 22, 3), (190, .aload_n 0, 1), (191, .iconst 0, 1), (192, .iload 4, 2), (194, .iconst 1, 1), (195, .iload 4, 2), (197, .invokevirtual 325, 3), (200, .ifCond .eq 9, 3), (203, .iinc 4 1, 3), (206, .goto (-23), 3), (209, .iconst 0, 1), (210, .istore 6, 2), (212, .iload 6, 2), (214, .iload 5, 2), (216, .iload 4, 2), (218, .isub, 1), (219, .if_icmp .ge 40, 3), (222, .aload_n 0, 1), (223, .iconst 0, 1), (224, .aload_n 0, 1), (225, .getfield 62, 3), (228, .iconst 0, 1), (229, .iaload, 1), (230, .iconst 1, 1), (231, .isub, 1), (232, .iload 6, 2), (234, .isub, 1), (235, .iconst 1, 1), (236, .aload_n 0, 1), (237, .getfield 62, 3), (240, .iconst 1, 1), (241, .iaload, 1), (242, .iconst 1, 1), (243, .isub, 1), (244, .iload 6, 2), (246, .isub, 1), (247, .invokevirtual 325, 3), (250, .ifCond .eq 9, 3), (253, .iinc 6 1, 3), (256, .goto (-44), 3), (259, .iload_n 2, 1), (260, .ifCond .ne 12, 3), (263, .aload_n 0, 1), (264, .getfield 62, 3), (267, .iconst 1, 1), (268, .iaload, 1), (269, .goto 29, 3), (272, .iload_n 2, 1), (273, .iconst 1, 1), (274, .if_icmp .ne 8, 3), (277, .iload 4, 2), (279, .goto 19, 3), (282, .iload_n 2, 1), (283, .iconst 2, 1), (284, .if_icmp .ne 8, 3), (287, .iload 6, 2), (289, .goto 9, 3), (292, .aload_n 0, 1), (293, .getfield 83, 3), (296, .iconst 1, 1), (297, .iaload, 1), (298, .ireturn, 1)]

def zc241 : List (Nat × Instr × Nat) := [(0, .aload_n 0, 1), (1, .aload_n 0, 1), (2, .iload_n 2, 1), (3, .invokevirtual 392, 3), (6, .iload_n 1, 1), (7, .iconst 1, 1), (8, .bipush 20, 2), (10, .invokestatic 158, 3), (13, .ifCond .eq 15, 3), (16, .iload_n 1, 1), (17, .aload_n 0, 1), (18, .getfield 135, 3), (21, .if_icmp .gt 7, 3), (24, .iconst 1, 1), (25, .goto 4, 3), (28, .iconst 0, 1), (29, .invokestatic 224, 3), (32, .invokevirtual 228, 3), (35, .ifCond .eq 5, 3), (38, .iconst (-1), 1), (39, .ireturn, 1), (40, .aload_n 0, 1), (41, .iconst 0, 1), (42, .putfield 135, 3), (45, .iconst 0, 1), (46, .istore_n 3, 1), (47, .iload_n 3, 1), (48, .iload_n 1, 1), (49, .if_icmp .ge 28, 3), (52, .aload_n 0, 1), (53, .aload_n 0, 1), (54, .getfield 13, 3), (57, .iload_n 3, 1), (58, .iaload, 1), (59, .invokevirtual 351, 3), (62, .ifCond .ne 9, 3), (65, .aload_n 0, 1), (66, .iconst 5, 1), (67, .invokevirtual 237, 3), (70, .ireturn, 1), (71, .iinc 3 1, 3), (74, .goto (-27), 3), (77, .iload_n 2, 1), (78, .istore_n 3, 1), (79, .iload_n 3, 1), (80, .iload_n 1, 1), (81, .iadd, 1), (82, .aload_n 0, 1), (83, .getfield 62, 3), (86, .iconst 0, 1), (87, .iaload, 1), (88, .if_icmp .gt 82, 3), (91, .iconst 1, 1), (92, .istore 4, 2), (94, .iconst 0, 1), (95, .istore 5, 2), (97, .iload 5, 2), (99, .iload_n 1, 1), (100, .if_icmp .ge 57, 3), (103, .iload 4, 2), (105, .ifCond .eq 43, 3), (108, .aload_n 0, 1), (109, .iconst 0, 1), (110, .iload_n 3, 1), (111, .iload 5, 2), (113, .iadd, 1), (114, .invokevirtual 321, 3), (117, .ifCond .ne 31, 3), (120, .aload_n 0, 1), (121, .getfield 59, 3), (124, .aload_n 0, 1), (125, .getfield 77, 3), (128, .iload_n 3, 1), (129, .iload 5, 2), (131, .iadd, 1), (132, .iaload, 1), (133, .iaload, 1), (134, .aload_n 0, 1), (135, .getfield 13, 3), (138, .iload 5, 2), (140, .iaload, 1), (141, .if_icmp .ne 7, 3), (144, .iconst 1, 1), (145, .goto 4, 3), (148, .iconst 0, 1), (149, .istore 4, 2), (151, .iinc 5 1, 3), (154, .goto (-57), 3), (157, .iload 4, 2), (159, .ifCond .eq 5, 3), (162, .iload_n 3, 1), (163, .ireturn, 1), (164, .iinc 3 1, 3), (167, .goto (-88), 3), (170, .bipush (-2), 2), (172, .ireturn, 1)]

def zc242 : List (Nat × Instr × Nat) := [(0, .aload_n 0, 1), (1, .iconst 0, 1), (2, .iload_n 1, 1), (3, .invokevirtual 321, 3), (6, .istore_n 2, 1), (7, .ldc_w 398, 3), (10, .iload_n 2, 1), (11, .imul, 1), (12, .iload_n 2, 1), (13, .ifCond .ne 11, 3), (16, .aload_n 0, 1), (17, .iload_n 1, 1), (18, .invokevirtual 395, 3), (21, .goto 37, 3), (24, .iload_n 2, 1), (25, .iconst 1, 1), (26, .if_icmp .ne 12, 3), (29, .aload_n 0, 1), (30, .getfield 65, 3), (33, .iload_n 1, 1), (34, .iaload, 1), (35, .goto 23, 3), (38, .iload_n 2, 1), (39, .iconst 2, 1), (40, .if_icmp .ne 12, 3), (43, .aload_n 0, 1), (44, .getfield 68, 3), (47, .iload_n 1, 1), (48, .iaload, 1), (49, .goto 9, 3), (52, .aload_n 0, 1), (53, .getfield 74, 3), (56, .iload_n 1, 1), (57, .iaload, 1), (58, .iadd, 1), (59, .ireturn, 1)]

def zc243 : List (Nat × Instr × Nat) := [(0, .aload_n 0, 1), (1, .aload_n 0, 1), (2, .iload_n 1, 1), (3, .invokevirtual 392, 3), (6, .invokestatic 342, 3), (9, .invokevirtual 228, 3), (12, .ifCond .eq 5, 3), (15, .iconst (-1), 1), (16, .ireturn, 1), (17, .iconst 0, 1), (18, .istore_n 2, 1), (19, .iload_n 2, 1), (20, .aload_n 0, 1), (21, .getfield 62, 3), (24, .iconst 0, 1), (25, .iaload, 1), (26, .if_icmp .ge 80, 3), (29, .iconst 0, 1), (30, .istore_n 3, 1), (31, .iconst 0, 1), (32, .istore 4, 2), (34, .iload 4, 2), (36, .aload_n 0, 1), (37, .getfield 62, 3), (40, .iconst 0, 1), (41, .iaload, 1), (42, .if_icmp .ge 51, 3), (45, .iload_n 3, 1), (46, .aload_n 0, 1), (47, .iload 4, 2), (49, .invokevirtual 399, 3), (52, .aload_n 0, 1), (53, .iload_n 2, 1), (54, .invokevirtual 399, 3), (57, .if_icmp .lt 23, 3), (60, .aload_n 0, 1), (61, .iload 4, 2), (63, .invokevirtual 399, 3), (66, .aload_n 0, 1), (67, .iload_n 2, 1), (68, .invokevirtual 399, 3), (71, .if_icmp .ne 13, 3), (74, .iload 4, 2), (76, .iload_n 2, 1), (77, .if_icmp .ge 7, 3), (80, .iconst 1, 1), (81, .goto 4, 3), (84, .iconst 0, 1), (85, .iadd, 1), (86, .istore_n 3, 1), (87, .iinc 4 1, 3), (90, .goto (-56), 3), (93, .iload_n 3, 1), (94, .iload_n 1, 1), (95, .if_icmp .ne 5, 3), (98, .iload_n 2, 1), (99, .ireturn, 1), (100, .iinc 2 1, 3), (103, .goto (-84), 3), (106, .iconst (-1), 1), (107, .ireturn, 1)]

def zc244 : List (Nat × Instr × Nat) := [(0, .aload_n 0, 1), (1, .iconst 1, 1), (2, .putfield 402, 3), (5, .aload_n 0, 1), (6, .aload_n 0, 1), (7, .getfield 17, 3), (10, .iload_n 1, 1), (11, .iaload, 1), (12, .iconst 3, 1), (13, .if_icmp .ne 15, 3), (16, .bipush 40, 2), (18, .aload_n 0, 1), (19, .getfield 47, 3), (22, .iload_n 1, 1), (23, .iaload, 1), (24, .iadd, 1), (25, .goto 26, 3), (28, .aload_n 0, 1), (29, .getfield 38, 3), (32, .iload_n 1, 1), (33, .iaload, 1), (34, .bipush (-2), 2), (36, .if_icmp .eq 14, 3), (39, .iconst 1, 1), (40, .aload_n 0, 1), (41, .getfield 38, 3), (44, .iload_n 1, 1), (45, .iaload, 1), (46, .iadd, 1), (47, .goto 4, 3), (50, .iconst 0, 1), (51, .putfield 405, 3), (54, .return_, 1)]

def zc245 : List (Nat × Instr × Nat) := [(0, .aload_n 0, 1), (1, .getfield 17, 3), (4, .iload_n 2, 1), (5, .iaload, 1), (6, .iconst 3, 1), (7, .if_icmp .ne 24, 3), (10, .aload_n 0, 1), (11, .bipush 20, 2), (13, .aload_n 0, 1), (14, .getfield 47, 3), (17, .iload_n 2, 1), (18, .iaload, 1), (19, .iadd, 1), (20, .putfield 405, 3), (23, .aload_n 0, 1), (24, .iconst 0, 1), (25, .putfield 402, 3), (28, .goto 51, 3), (31, .aload_n 0, 1), (32, .getfield 17, 3), (35, .iload_n 2, 1), (36, .iaload, 1), (37, .iconst 4, 1), (38, .if_icmp .eq 41, 3), (41, .aload_n 0, 1), (42, .getfield 38, 3), (45, .iload_n 2, 1), (46, .iaload, 1), (47, .iload_n 1, 1), (48, .if_icmp .ne 31, 3), (51, .aload_n 0, 1), (52, .getfield 41, 3), (55, .iload_n 2, 1), (56, .iaload, 1), (57, .bipush (-2), 2), (59, .if_icmp .eq 20, 3), (62, .aload_n 0, 1), (63, .iconst 1, 1), (64, .aload_n 0, 1), (65, .getfield 41, 3), (68, .iload_n 2, 1), (69, .iaload, 1), (70, .iadd, 1), (71, .putfield 405, 3), (74, .aload_n 0, 1), (75, .iconst 0, 1), (76, .putfield 402, 3), (79, .return_, 1)]

def zc246 : List (Nat × Instr × Nat) := [(0, .aload_n 0, 1), (1, .getfield 17, 3), (4, .iload_n 2, 1), (5, .iaload, 1), (6, .iconst 3, 1), (7, .if_icmp .ne 79, 3), (10, .iload_n 1, 1), (11, .aload_n 0, 1), (12, .getfield 20, 3), (15, .iconst 1, 1), (16, .iaload, 1), (17, .if_icmp .ge 32, 3), (20, .aload_n 0, 1), (21, .getfield 53, 3), (24, .aload_n 0, 1), (25, .getfield 20, 3), (28, .iconst 1, 1), (29, .iaload, 1), (30, .aload_n 0, 1), (31, .getfield 266, 3), (34, .aload_n 0, 1), (35, .getfield 53, 3), (38, .iconst 2, 1), (39, .iload_n 1, 1), (40, .imul, 1), (41, .iaload, 1), (42, .iload_n 2, 1), (43, .invokestatic 298, 3), (46, .goto 5, 3), (49, .bipush (-2), 2), (51, .istore 4, 2), (53, .iload 4, 2), (55, .bipush (-2), 2), (57, .if_icmp .eq 26, 3), (60, .aload_n 0, 1), (61, .iload_n 3, 1), (62, .ifCond .eq 8, 3), (65, .bipush 20, 2), (67, .goto 5, 3), (70, .bipush 40, 2), (72, .iload 4, 2), (74, .iadd, 1), (75, .putfield 405, 3), (78, .aload_n 0, 1), (79, .iconst 0, 1), (80, .putfield 402, 3), (83, .goto 46, 3), (86, .iload_n 3, 1), (87, .ifCond .eq 42, 3), (90, .aload_n 0, 1), (91, .getfield 17, 3), (94, .iload_n 2, 1), (95, .iaload, 1), (96, .iconst 4, 1), (97, .if_icmp .eq 32, 3), (100, .aload_n 0, 1), (101, .getfield 44, 3), (104, .iload_n 2, 1), (105, .iaload, 1), (106, .bipush (-2), 2), (108, .if_icmp .eq 21, 3), (111, .aload_n 0, 1), (112, .bipush 60, 2), (114, .aload_n 0, 1), (115, .getfield 44, 3), (118, .iload_n 2, 1), (119, .iaload, 1), (120, .iadd, 1), (121, .putfield 405, 3), (124, .aload_n 0, 1), (125, .iconst 0, 1), (126, .putfield 402, 3), (129, .return_, 1)]

def zc247 : List (Nat × Instr × Nat) := [(0, .aload_n 0, 1), (1, .getfield 17, 3), (4, .iload_n 2, 1), (5, .iaload, 1), (6, .iconst 3, 1), (7, .if_icmp .ne 66, 3), (10, .aload_n 0, 1), (11, .getfield 56, 3), (14, .iconst 2, 1), (15, .iload_n 1, 1), (16, .imul, 1), (17, .iconst 1, 1), (18, .iadd, 1), (19, .iaload, 1), (20, .iconst (-1), 1), (21, .if_icmp .eq 16, 3), (24, .aload_n 0, 1), (25, .getfield 56, 3), (28, .iconst 2, 1), (29, .iload_n 1, 1), (30, .imul, 1), (31, .iconst 1, 1), (32, .iadd, 1), (33, .iaload, 1), (34, .goto 11, 3), (37, .aload_n 0, 1), (38, .getfield 56, 3), (41, .iconst 2, 1), (42, .iload_n 1, 1), (43, .imul, 1), (44, .iaload, 1), (45, .istore_n 3, 1), (46, .aload_n 0, 1), (47, .getfield 38, 3), (50, .iload_n 3, 1), (51, .iaload, 1), (52, .bipush (-2), 2), (54, .if_icmp .eq 16, 3), (57, .aload_n 0, 1), (58, .bipush 20, 2), (60, .aload_n 0, 1), (61, .getfield 47, 3), (64, .iload_n 2, 1), (65, .iaload, 1), (66, .iadd, 1), (67, .putfield 405, 3), (70, .goto 65, 3), (73, .aload_n 0, 1), (74, .getfield 17, 3), (77, .iload_n 2, 1), (78, .iaload, 1), (79, .iconst 4, 1), (80, .if_icmp .eq 55, 3), (83, .iload_n 1, 1), (84, .aload_n 0, 1), (85, .getfield 272, 3), (88, .if_icmp .ge 47, 3), (91, .aload_n 0, 1), (92, .getfield 56, 3), (95, .aload_n 0, 1), (96, .getfield 272, 3), (99, .aload_n 0, 1), (100, .getfield 269, 3), (103, .aload_n 0, 1), (104, .getfield 56, 3), (107, .iconst 2, 1), (108, .iload_n 1, 1), (109, .imul, 1), (110, .iaload, 1), (111, .iload_n 2, 1), (112, .invokestatic 298, 3), (115, .istore_n 3, 1), (116, .iload_n 3, 1), (117, .bipush (-2), 2), (119, .if_icmp .eq 16, 3), (122, .aload_n 0, 1), (123, .bipush 60, 2), (125, .iload_n 3, 1), (126, .iadd, 1), (127, .putfield 405, 3), (130, .aload_n 0, 1), (131, .iconst 0, 1), (132, .putfield 402, 3), (135, .return_, 1)]

def zc248 : List (Nat × Instr × Nat) := [(0, .aload_n 0, 1), (1, .iload_n 2, 1), (2, .invokevirtual 408, 3), (5, .iload_n 1, 1), (6, .iconst 1, 1), (7, .bipush 19, 2), (9, .invokestatic 158, 3), (12, .ifCond .eq 14, 3), (15, .aload_n 0, 1), (16, .iload_n 1, 1), (17, .iconst 1, 1), (18, .isub, 1), (19, .iload_n 2, 1), (20, .invokevirtual 411, 3), (23, .goto 66, 3), (26, .iload_n 1, 1), (27, .bipush 20, 2), (29, .bipush 39, 2), (31, .invokestatic 158, 3), (34, .ifCond .eq 16, 3), (37, .aload_n 0, 1), (38, .iload_n 1, 1), (39, .bipush 20, 2), (41, .isub, 1), (42, .iload_n 2, 1), (43, .iconst 1, 1), (44, .invokevirtual 414, 3), (47, .goto 42, 3), (50, .iload_n 1, 1), (51, .bipush 40, 2), (53, .bipush 59, 2), (55, .invokestatic 158, 3), (58, .ifCond .eq 16, 3), (61, .aload_n 0, 1), (62, .iload_n 1, 1), (63, .bipush 40, 2), (65, .isub, 1), (66, .iload_n 2, 1), (67, .iconst 0, 1), (68, .invokevirtual 414, 3), (71, .goto 18, 3), (74, .iload_n 1, 1), (75, .bipush 60, 2), (77, .if_icmp .lt 12, 3), (80, .aload_n 0, 1), (81, .iload_n 1, 1), (82, .bipush 60, 2), (84, .isub, 1), (85, .iload_n 2, 1), (86, .invokevirtual 418, 3), (89, .return_, 1)]

def zc249 : List (Nat × Instr × Nat) := [(0, .iload_n 0, 1), (1, .ifCond .eq 20, 3), (4, .iload_n 0, 1), (5, .bipush 20, 2), (7, .bipush 39, 2), (9, .invokestatic 158, 3), (12, .ifCond .ne 9, 3), (15, .iload_n 0, 1), (16, .bipush 60, 2), (18, .if_icmp .lt 7, 3), (21, .iconst 1, 1), (22, .goto 4, 3), (25, .iconst 0, 1), (26, .ireturn, 1)]

def zc250 : List (Nat × Instr × Nat) := [(0, .iconst 0, 1), (1, .istore_n 3, 1), (2, .iload_n 3, 1), (3, .aload_n 0, 1), (4, .getfield 122, 3), (7, .arraylength, 1), (8, .if_icmp .ge 24, 3), (11, .aload_n 0, 1), (12, .getfield 122, 3), (15, .iload_n 3, 1), (16, .iload_n 3, 1), (17, .ifCond .ne 7, 3), (20, .lconst 1, 1), (21, .goto 4, 3), (24, .lconst 0, 1), (25, .lastore, 1), (26, .iinc 3 1, 3), (29, .goto (-27), 3), (32, .iconst 0, 1), (33, .istore_n 3, 1), (34, .iload_n 3, 1), (35, .iload_n 1, 1), (36, .if_icmp .ge 121, 3), (39, .iconst 0, 1), (40, .istore 4, 2), (42, .iload 4, 2), (44, .aload_n 0, 1), (45, .getfield 126, 3), (48, .arraylength, 1), (49, .if_icmp .ge 17, 3), (52, .aload_n 0, 1), (53, .getfield 126, 3), (56, .iload 4, 2), (58, .lconst 0, 1), (59, .lastore, 1), (60, .iinc 4 1, 3), (63, .goto (-21), 3), (66, .iconst 0, 1), (67, .istore 4, 2), (69, .iload 4, 2), (71, .bipush 90, 2), (73, .if_icmp .ge 45, 3), (76, .iconst 0, 1), (77, .istore 5, 2), (79, .iload 5, 2), (81, .bipush 26, 2), (83, .if_icmp .ge 29, 3), (86, .aload_n 0, 1), (87, .getfield 17, 3), (90, .iload 5, 2), (92, .iaload, 1), (93, .iconst (-1), 1), (94, .if_icmp .eq 12, 3), (97, .aload_n 0, 1), (98, .iload 4, 2), (100, .iload 5, 2), (102, .iload_n 2, 1), (103, .invokevirtual 421, 3), (106, .iinc 5 1, 3), (109, .goto (-30), 3), (112, .iinc 4 1, 3), (115, .goto (-46), 3), (118, .iconst 0, 1), (119, .istore 4, 2), (121, .iload 4, 2), (123, .aload_n 0, 1), (124, .getfield 122, 3), (127, .arraylength, 1), (128, .if_icmp .ge 23, 3), (131, .aload_n 0, 1), (132, .getfield 122, 3), (135, .iload 4, 2), (137, .aload_n 0, 1), (138, .getfield 126, 3), (141, .iload 4, 2), (143, .laload, 1), (144, .lastore, 1), (145, .iinc 4 1, 3), (148, .goto (-27), 3), (151, .iinc 3 1, 3), (154, .goto (-120), 3), (157, .return_, 1)]

def zc251 : List (Nat × Instr × Nat) := [(0, .iload_n 1, 1), (1, .ifCond .le 12, 3), (4, .aload_n 0, 1), (5, .iload_n 1, 1), (6, .invokevirtual 424, 3), (9, .ifCond .eq 4, 3), (12, .return_, 1), (13, .aload_n 0, 1), (14, .iload_n 1, 1), (15, .iload_n 2, 1), (16, .invokevirtual 427, 3), (19, .iload_n 3, 1), (20, .ifCond .eq 29, 3), (23, .aload_n 0, 1), (24, .getfield 402, 3), (27, .iconst 1, 1), (28, .if_icmp .ne 21, 3), (31, .iload_n 1, 1), (32, .invokestatic 430, 3), (35, .ifCond .eq 10, 3), (38, .aload_n 0, 1), (39, .getfield 405, 3), (42, .ifCond .ne 7, 3), (45, .iconst 1, 1), (46, .goto 4, 3), (49, .iconst 0, 1), (50, .istore 4, 2), (52, .iconst 0, 1), (53, .istore 5, 2), (55, .iload 5, 2), (57, .aload_n 0, 1), (58, .getfield 402, 3), (61, .iadd, 1), (62, .bipush 8, 2), (64, .if_icmp .gt 49, 3), (67, .iload 4, 2), (69, .ifCond .ne 44, 3), (72, .aload_n 0, 1), (73, .getfield 126, 3), (76, .bipush 90, 2), (78, .iload 5, 2), (80, .aload_n 0, 1), (81, .getfield 402, 3), (84, .iadd, 1), (85, .imul, 1), (86, .aload_n 0, 1), (87, .getfield 405, 3), (90, .iadd, 1), (91, .dup2, 1), (92, .laload, 1), (93, .aload_n 0, 1), (94, .getfield 122, 3), (97, .bipush 90, 2), (99, .iload 5, 2), (101, .imul, 1), (102, .iload_n 1, 1), (103, .iadd, 1), (104, .laload, 1), (105, .ladd, 1), (106, .lastore, 1), (107, .iinc 5 1, 3), (110, .goto (-55), 3), (113, .return_, 1)]

def zc252 : List (Nat × Instr × Nat) := [(0, .iconst 0, 1), (1, .istore_n 2, 1), (2, .iload_n 2, 1), (3, .bipush 8, 2), (5, .if_icmp .gt 27, 3), (8, .aload_n 0, 1), (9, .getfield 122, 3), (12, .bipush 90, 2), (14, .iload_n 2, 1), (15, .imul, 1), (16, .iload_n 1, 1), (17, .iadd, 1), (18, .laload, 1), (19, .lconst 0, 1), (20, .lcmp, 1), (21, .ifCond .eq 5, 3), (24, .iconst 0, 1), (25, .ireturn, 1), (26, .iinc 2 1, 3), (29, .goto (-27), 3), (32, .iconst 1, 1), (33, .ireturn, 1)]

def zc253 : List (Nat × Instr × Nat) := [(0, .aload_n 0, 1), (1, .aload_n 0, 1), (2, .getfield 244, 3), (5, .iload_n 1, 1), (6, .iconst 0, 1), (7, .bipush 8, 2), (9, .invokestatic 158, 3), (12, .ifCond .eq 17, 3), (15, .iload_n 2, 1), (16, .iconst 0, 1), (17, .bipush 8, 2), (19, .invokestatic 158, 3), (22, .ifCond .eq 7, 3), (25, .iconst 1, 1), (26, .goto 4, 3), (29, .iconst 0, 1), (30, .invokestatic 224, 3), (33, .invokevirtual 228, 3), (36, .ifCond .eq 7, 3), (39, .ldc2_w 433, 3), (42, .lreturn, 1), (43, .aload_n 0, 1), (44, .iload_n 1, 1), (45, .iconst 0, 1), (46, .invokevirtual 435, 3), (49, .lconst 0, 1), (50, .lstore_n 3, 1), (51, .iconst 0, 1), (52, .istore 5, 2), (54, .iload 5, 2), (56, .bipush 90, 2), (58, .if_icmp .ge 24, 3), (61, .lload_n 3, 1), (62, .aload_n 0, 1), (63, .getfield 122, 3), (66, .bipush 90, 2), (68, .iload_n 2, 1), (69, .imul, 1), (70, .iload 5, 2), (72, .iadd, 1), (73, .laload, 1), (74, .ladd, 1), (75, .lstore_n 3, 1), (76, .iinc 5 1, 3), (79, .goto (-25), 3), (82, .lload_n 3, 1), (83, .lreturn, 1)]

def zc254 : List (Nat × Instr × Nat) := [(0, .aload_n 0, 1), (1, .aload_n 0, 1), (2, .getfield 244, 3), (5, .iload_n 1, 1), (6, .iconst 0, 1), (7, .bipush 8, 2), (9, .invokestatic 158, 3), (12, .invokestatic 224, 3), (15, .invokevirtual 228, 3), (18, .ifCond .eq 7, 3), (21, .ldc2_w 433, 3), (24, .lreturn, 1), (25, .aload_n 0, 1), (26, .iload_n 1, 1), (27, .iconst 1, 1), (28, .invokevirtual 435, 3), (31, .lconst 0, 1), (32, .lstore_n 2, 1), (33, .iconst 0, 1), (34, .istore 4, 2), (36, .iload 4, 2), (38, .bipush 90, 2), (40, .if_icmp .ge 53, 3), (43, .iconst 0, 1), (44, .istore 5, 2), (46, .iload 5, 2), (48, .bipush 8, 2), (50, .if_icmp .gt 37, 3), (53, .lload_n 2, 1), (54, .iload 4, 2), (56, .invokestatic 430, 3), (59, .ifCond .eq 19, 3), (62, .aload_n 0, 1), (63, .getfield 122, 3), (66, .bipush 90, 2), (68, .iload 5, 2), (70, .imul, 1), (71, .iload 4, 2), (73, .iadd, 1), (74, .laload, 1), (75, .goto 4, 3), (78, .lconst 0, 1), (79, .ladd, 1), (80, .lstore_n 2, 1), (81, .iinc 5 1, 3), (84, .goto (-38), 3), (87, .iinc 4 1, 3), (90, .goto (-54), 3), (93, .lload_n 2, 1), (94, .lreturn, 1)]

def zc255 : List (Nat × Instr × Nat) := [(0, .aload_n 0, 1), (1, .iconst 0, 1), (2, .putfield 129, 3), (5, .aload_n 0, 1), (6, .getfield 244, 3), (9, .ifCond .eq 12, 3), (12, .iload_n 1, 1), (13, .iconst 0, 1), (14, .iconst 2, 1), (15, .invokestatic 158, 3), (18, .ifCond .ne 7, 3), (21, .iconst 0, 1), (22, .goto 9, 3), (25, .aload_n 0, 1), (26, .getfield 20, 3), (29, .iload_n 1, 1), (30, .iaload, 1), (31, .istore_n 3, 1), (32, .iload_n 2, 1), (33, .iconst 0, 1), (34, .iload_n 3, 1), (35, .iconst 1, 1), (36, .isub, 1), (37, .invokestatic 158, 3), (40, .ifCond .ne 10, 3), (43, .aload_n 0, 1), (44, .iconst 1, 1), (45, .putfield 129, 3), (48, .iconst 0, 1), (49, .ireturn, 1), (50, .bipush 97, 2), (52, .iload_n 1, 1), (53, .ifCond .ne 12, 3), (56, .aload_n 0, 1), (57, .getfield 23, 3), (60, .iload_n 2, 1), (61, .iaload, 1), (62, .goto 23, 3), (65, .iload_n 1, 1), (66, .iconst 1, 1), (67, .if_icmp .ne 12, 3), (70, .aload_n 0, 1), (71, .getfield 26, 3), (74, .iload_n 2, 1), (75, .iaload, 1), (76, .goto 9, 3), (79, .aload_n 0, 1), (80, .getfield 29, 3), (83, .iload_n 2, 1), (84, .iaload, 1), (85, .iadd, 1), (86, .ireturn, 1)]

def zc256 : List (Nat × Instr × Nat) := [(0, .aload_n 0, 1), (1, .iconst 0, 1), (2, .putfield 129, 3), (5, .aload_n 0, 1), (6, .getfield 135, 3), (9, .ireturn, 1)]

def zc257 : List (Nat × Instr × Nat) := [(0, .aload_n 0, 1), (1, .iconst 0, 1), (2, .putfield 129, 3), (5, .aload_n 0, 1), (6, .getfield 132, 3), (9, .ireturn, 1)]

def zc258 : List (Nat × Instr × Nat) := [(0, .new 8, 3), (3, .dup, 1), (4, .invokespecial 15, 3), (7, .astore_n 1, 1), (8, .new 16, 3), (11, .dup, 1), (12, .invokespecial 18, 3), (15, .astore_n 2, 1), (16, .iconst 1, 1), (17, .newarray .long, 2), (19, .astore_n 3, 1), (20, .iconst 0, 1), (21, .istore 4, 2), (23, .iload 4, 2), (25, .aload_n 0, 1), (26, .arraylength, 1), (27, .bipush 6, 2), (29, .isub, 1), (30, .if_icmp .gt 1041, 3), (33, .aload_n 0, 1), (34, .iload 4, 2), (36, .iaload, 1), (37, .bipush 31, 2), (39, .iand, 1), (40, .tableswitch 1025 0 31 #[144, 217, 242, 255, 268, 293, 330, 379, 416, 453, 478, 491, 516, 529, 542, 567, 580, 605, 618, 643, 680, 717, 730, 755, 768, 805, 842, 867, 905, 931, 999, 1012], 144), (184, .aload_n 1, 1), (185, .aload_n 0, 1), (186, .iload 4, 2), (188, .iconst 1, 1), (189, .iadd, 1), (190, .iaload, 1), (191, .aload_n 0, 1), (192, .iload 4, 2), (194, .iconst 2, 1), (195, .iadd, 1), (196, .iaload, 1), (197, .aload_n 0, 1), (198, .iload 4, 2), (200, .iconst 3, 1), (201, .iadd, 1), (202, .iaload, 1), (203, .aload_n 0, 1), (204, .iload 4, 2), (206, .iconst 4, 1), (207, .iadd, 1), (208, .iaload, 1), (209, .aload_n 0, 1), (210, .iload 4, 2), (212, .iconst 5, 1), (213, .iadd, 1), (214, .iaload, 1), (215, .invokevirtual 19, 3), (218, .aload_n 2, 1), (219, .aload_n 0, 1), (220, .iload 4, 2), (222, .iconst 1, 1), (223, .iadd, 1), (224, .iaload, 1), (225, .aload_n 0, 1), (226, .iload 4, 2), (228, .iconst 2, 1), (229, .iadd, 1), (230, .iaload, 1), (231, .aload_n 0, 1), (232, .iload 4, 2), (234, .iconst 3, 1), (235, .iadd, 1), (236, .iaload, 1), (237, .aload_n 0, 1), (238, .iload 4, 2), (240, .iconst 4, 1), (241, .iadd, 1), (242, .iaload, 1), (243, .aload_n 0, 1), (244, .iload 4, 2), (246, .iconst 5, 1), (247, .iadd, 1), (248, .iaload, 1), (249, .invokevirtual 23, 3), (252, .if_icmp .eq 813, 3), (255, .iconst 0, 1), (256, .ireturn, 1), (257, .aload_n 1, 1), (258, .aload_n 0, 1), (259, .iload 4, 2), (261, .iconst 1, 1), (262, .iadd, 1), (263, .iaload, 1), (264, .invokevirtual 24, 3), (267, .aload_n 2, 1), (268, .aload_n 0, 1), (269, .iload 4, 2), (271, .iconst 1, 1), (272, .iadd, 1), (273, .iaload, 1), (274, .invokevirtual 28, 3), (277, .if_icmp .eq 788, 3), (280, .iconst 0, 1), (281, .ireturn, 1), (282, .aload_n 1, 1), (283, .invokevirtual 29, 3), (286, .aload_n 2, 1), (287, .invokevirtual 33, 3), (290, .if_icmp .eq 775, 3), (293, .iconst 0, 1), (294, .ireturn, 1), (295, .aload_n 1, 1), (296, .invokevirtual 34, 3), (299, .aload_n 2, 1), (300, .invokevirtual 37, 3), (303, .if_icmp .eq 762, 3), (306, .iconst 0, 1), (307, .ireturn, 1), (308, .aload_n 1, 1), (309, .aload_n 0, 1), (310, .iload 4, 2), (312, .iconst 1, 1), (313, .iadd, 1), (314, .iaload, 1), (315, .invokevirtual 38, 3), (318, .aload_n 2, 1), (319, .aload_n 0, 1), (320, .iload 4, 2), (322, .iconst 1, 1), (323, .iadd, 1), (324, .iaload, 1), (325, .invokevirtual 41, 3), (328, .if_icmp .eq 737, 3), (331, .iconst 0, 1), (332, .ireturn, 1), (333, .aload_n 1, 1), (334, .aload_n 0, 1), (335, .iload 4, 2), (337, .iconst 1, 1), (338, .iadd, 1), (339, .iaload, 1), (340, .aload_n 0, 1), (341, .iload 4, 2), (343, .iconst 2, 1), (344, .iadd, 1), (345, .iaload, 1), (346, .invokevirtual 42, 3), (349, .aload_n 2, 1), (350, .aload_n 0, 1), (351, .iload 4, 2), (353, .iconst 1, 1), (354, .iadd, 1), (355, .iaload, 1), (356, .aload_n 0, 1), (357, .iload 4, 2), (359, .iconst 2, 1), (360, .iadd, 1), (361, .iaload, 1), (362, .invokevirtual 45, 3), (365, .if_icmp .eq 700, 3), (368, .iconst 0, 1), (369, .ireturn, 1), (370, .aload_n 1, 1), (371, .aload_n 0, 1), (372, .iload 4, 2), (374, .iconst 1, 1), (375, .iadd, 1), (376, .iaload, 1), (377, .aload_n 0, 1), (378, .iload 4, 2), (380, .iconst 2, 1), (381, .iadd, 1), (382, .iaload, 1), (383, .aload_n 0, 1), (384, .iload 4, 2), (386, .iconst 3, 1), (387, .iadd, 1), (388, .iaload, 1), (389, .invokevirtual 46, 3), (392, .aload_n 2, 1), (393, .aload_n 0, 1), (394, .iload 4, 2), (396, .iconst 1, 1), (397, .iadd, 1), (398, .iaload, 1), (399, .aload_n 0, 1), (400, .iload 4, 2), (402, .iconst 2, 1), (403, .iadd, 1), (404, .iaload, 1), (405, .aload_n 0, 1), (406, .iload 4, 2), (408, .iconst 3, 1), (409, .iadd, 1), (410, .iaload, 1), (411, .invokevirtual 50, 3), (414, .if_icmp .eq 651, 3), (417, .iconst 0, 1), (418, .ireturn, 1), (419, .aload_n 1, 1), (420, .aload_n 0, 1), (421, .iload 4, 2), (423, .iconst 1, 1), (424, .iadd, 1), (425, .iaload, 1), (426, .aload_n 0, 1), (427, .iload 4, 2), (429, .iconst 2, 1), (430, .iadd, 1), (431, .iaload, 1), (432, .invokevirtual 51, 3), (435, .aload_n 2, 1), (436, .aload_n 0, 1), (437, .iload 4, 2), (439, .iconst 1, 1), (440, .iadd, 1), (441, .iaload, 1), (442, .aload_n 0, 1), (443, .iload 4, 2), (445, .iconst 2, 1), (446, .iadd, 1), (447, .iaload, 1), (448, .invokevirtual 54, 3), (451, .if_icmp .eq 614, 3), (454, .iconst 0, 1), (455, .ireturn, 1), (456, .aload_n 1, 1), (457, .aload_n 0, 1), (458, .iload 4, 2), (460, .iconst 1, 1), (461, .iadd, 1), (462, .iaload, 1), (463, .aload_n 0, 1), (464, .iload 4, 2), (466, .iconst 2, 1), (467, .iadd, 1), (468, .iaload, 1), (469, .invokevirtual 55, 3), (472, .aload_n 2, 1), (473, .aload_n 0, 1), (474, .iload 4, 2), (476, .iconst 1, 1), (477, .iadd, 1), (478, .iaload, 1), (479, .aload_n 0, 1), (480, .iload 4, 2), (482, .iconst 2, 1), (483, .iadd, 1), (484, .iaload, 1), (485, .invokevirtual 58, 3), (488, .if_icmp .eq 577, 3), (491, .iconst 0, 1), (492, .ireturn, 1), (493, .aload_n 1, 1), (494, .aload_n 0, 1), (495, .iload 4, 2), (497, .iconst 1, 1), (498, .iadd, 1), (499, .iaload, 1), (500, .invokevirtual 59, 3), (503, .aload_n 2, 1), (504, .aload_n 0, 1), (505, .iload 4, 2), (507, .iconst 1, 1), (508, .iadd, 1), (509, .iaload, 1), (510, .invokevirtual 62, 3), (513, .if_icmp .eq 552, 3), (516, .iconst 0, 1), (517, .ireturn, 1), (518, .aload_n 1, 1), (519, .invokevirtual 63, 3), (522, .aload_n 2, 1), (523, .invokevirtual 66, 3), (526, .if_icmp .eq 539, 3), (529, .iconst 0, 1), (530, .ireturn, 1), (531, .aload_n 1, 1), (532, .aload_n 0, 1), (533, .iload 4, 2), (535, .iconst 1, 1), (536, .iadd, 1), (537, .iaload, 1), (538, .invokevirtual 67, 3), (541, .aload_n 2, 1), (542, .aload_n 0, 1), (543, .iload 4, 2), (545, .iconst 1, 1), (546, .iadd, 1), (547, .iaload, 1), (548, .invokevirtual 70, 3), (551, .if_icmp .eq 514, 3), (554, .iconst 0, 1), (555, .ireturn, 1), (556, .aload_n 1, 1), (557, .invokevirtual 71, 3), (560, .aload_n 2, 1), (561, .invokevirtual 74, 3), (564, .if_icmp .eq 501, 3), (567, .iconst 0, 1), (568, .ireturn, 1), (569, .aload_n 1, 1), (570, .invokevirtual 75, 3), (573, .aload_n 2, 1), (574, .invokevirtual 78, 3), (577, .if_icmp .eq 488, 3), (580, .iconst 0, 1), (581, .ireturn, 1), (582, .aload_n 1, 1), (583, .aload_n 0, 1), (584, .iload 4, 2), (586, .iconst 1, 1), (587, .iadd, 1), (588, .iaload, 1), (589, .invokevirtual 79, 3), (592, .aload_n 2, 1), (593, .aload_n 0, 1), (594, .iload 4, 2), (596, .iconst 1, 1), (597, .iadd, 1), (598, .iaload, 1), (599, .invokevirtual 82, 3), (602, .if_icmp .eq 463, 3), (605, .iconst 0, 1), (606, .ireturn, 1), (607, .aload_n 1, 1), (608, .invokevirtual 83, 3), (611, .aload_n 2, 1), (612, .invokevirtual 86, 3), (615, .if_icmp .eq 450, 3), (618, .iconst 0, 1), (619, .ireturn, 1), (620, .aload_n 1, 1), (621, .aload_n 0, 1), (622, .iload 4, 2), (624, .iconst 1, 1), (625, .iadd, 1), (626, .iaload, 1), (627, .invokevirtual 87, 3), (630, .aload_n 2, 1), (631, .aload_n 0, 1), (632, .iload 4, 2), (634, .iconst 1, 1), (635, .iadd, 1), (636, .iaload, 1), (637, .invokevirtual 90, 3), (640, .if_icmp .eq 425, 3), (643, .iconst 0, 1), (644, .ireturn, 1), (645, .aload_n 1, 1), (646, .invokevirtual 91, 3), (649, .aload_n 2, 1), (650, .invokevirtual 94, 3), (653, .if_icmp .eq 412, 3), (656, .iconst 0, 1), (657, .ireturn, 1), (658, .aload_n 1, 1), (659, .aload_n 0, 1), (660, .iload 4, 2), (662, .iconst 1, 1), (663, .iadd, 1), (664, .iaload, 1), (665, .invokevirtual 95, 3), (668, .aload_n 2, 1), (669, .aload_n 0, 1), (670, .iload 4, 2), (672, .iconst 1, 1), (673, .iadd, 1), (674, .iaload, 1), (675, .invokevirtual 98, 3), (678, .if_icmp .eq 387, 3), (681, .iconst 0, 1), (682, .ireturn, 1), (683, .aload_n 1, 1), (684, .aload_n 0, 1), (685, .iload 4, 2), (687, .iconst 1, 1), (688, .iadd, 1), (689, .iaload, 1), (690, .aload_n 0, 1), (691, .iload 4, 2), (693, .iconst 2, 1), (694, .iadd, 1), (695, .iaload, 1), (696, .invokevirtual 99, 3), (699, .aload_n 2, 1), (700, .aload_n 0, 1), (701, .iload 4, 2), (703, .iconst 1, 1), (704, .iadd, 1), (705, .iaload, 1), (706, .aload_n 0, 1), (707, .iload 4, 2), (709, .iconst 2, 1), (710, .iadd, 1), (711, .iaload, 1), (712, .invokevirtual 102, 3), (715, .if_icmp .eq 350, 3), (718, .iconst 0, 1), (719, .ireturn, 1), (720, .aload_n 1, 1), (721, .aload_n 0, 1), (722, .iload 4, 2), (724, .iconst 1, 1), (725, .iadd, 1), (726, .iaload, 1), (727, .aload_n 0, 1), (728, .iload 4, 2), (730, .iconst 2, 1), (731, .iadd, 1), (732, .iaload, 1), (733, .invokevirtual 103, 3), (736, .aload_n 2, 1), (737, .aload_n 0, 1), (738, .iload 4, 2), (740, .iconst 1, 1), (741, .iadd, 1), (742, .iaload, 1), (743, .aload_n 0, 1), (744, .iload 4, 2), (746, .iconst 2, 1), (747, .iadd, 1), (748, .iaload, 1), (749, .invokevirtual 106, 3), (752, .if_icmp .eq 313, 3), (755, .iconst 0, 1), (756, .ireturn, 1), (757, .aload_n 1, 1), (758, .invokevirtual 107, 3), (761, .aload_n 2, 1), (762, .invokevirtual 110, 3), (765, .if_icmp .eq 300, 3), (768, .iconst 0, 1), (769, .ireturn, 1), (770, .aload_n 1, 1), (771, .aload_n 0, 1), (772, .iload 4, 2), (774, .iconst 1, 1), (775, .iadd, 1), (776, .iaload, 1), (777, .invokevirtual 111, 3), (780, .aload_n 2, 1), (781, .aload_n 0, 1), (782, .iload 4, 2), (784, .iconst 1, 1), (785, .iadd, 1), (786, .iaload, 1), (787, .invokevirtual 114, 3), (790, .if_icmp .eq 275, 3), (793, .iconst 0, 1), (794, .ireturn, 1), (795, .aload_n 1, 1), (796, .invokevirtual 115, 3), (799, .aload_n 2, 1), (800, .invokevirtual 118, 3), (803, .if_icmp .eq 262, 3), (806, .iconst 0, 1), (807, .ireturn, 1), (808, .aload_n 1, 1), (809, .aload_n 0, 1), (810, .iload 4, 2), (812, .iconst 1, 1), (813, .iadd, 1), (814, .iaload, 1), (815, .aload_n 0, 1), (816, .iload 4, 2), (818, .iconst 2, 1), (819, .iadd, 1), (820, .iaload, 1), (821, .invokevirtual 119, 3), (824, .aload_n 2, 1), (825, .aload_n 0, 1), (826, .iload 4, 2), (828, .iconst 1, 1), (829, .iadd, 1), (830, .iaload, 1), (831, .aload_n 0, 1), (832, .iload 4, 2), (834, .iconst 2, 1), (835, .iadd, 1), (836, .iaload, 1), (837, .invokevirtual 122, 3), (840, .if_icmp .eq 225, 3), (843, .iconst 0, 1), (844, .ireturn, 1), (845, .aload_n 1, 1), (846, .aload_n 0, 1), (847, .iload 4, 2), (849, .iconst 1, 1), (850, .iadd, 1), (851, .iaload, 1), (852, .aload_n 0, 1), (853, .iload 4, 2), (855, .iconst 2, 1), (856, .iadd, 1), (857, .iaload, 1), (858, .invokevirtual 123, 3), (861, .aload_n 2, 1), (862, .aload_n 0, 1), (863, .iload 4, 2), (865, .iconst 1, 1), (866, .iadd, 1), (867, .iaload, 1), (868, .aload_n 0, 1), (869, .iload 4, 2), (871, .iconst 2, 1), (872, .iadd, 1), (873, .iaload, 1), (874, .invokevirtual 126, 3), (877, .if_icmp .eq 188, 3), (880, .iconst 0, 1), (881, .ireturn, 1), (882, .aload_n 1, 1), (883, .aload_n 0, 1), (884, .iload 4, 2), (886, .iconst 1, 1), (887, .iadd, 1), (888, .iaload, 1), (889, .invokevirtual 127, 3), (892, .aload_n 2, 1), (893, .aload_n 0, 1), (894, .iload 4, 2), (896, .iconst 1, 1), (897, .iadd, 1), (898, .iaload, 1), (899, .invokevirtual 130, 3), (902, .if_icmp .eq 163, 3), (905, .iconst 0, 1), (906, .ireturn, 1), (907, .aload_n 1, 1), (908, .aload_n 0, 1), (909, .iload 4, 2), (911, .iconst 1, 1), (912, .iadd, 1), (913, .iaload, 1), (914, .aload_n 0, 1), (915, .iload 4, 2), (917, .iconst 2, 1), (918, .iadd, 1), (919, .iaload, 1), (920, .invokevirtual 131, 3), (923, .aload_n 2, 1), (924, .aload_n 0, 1), (925, .iload 4, 2), (927, .iconst 1, 1), (928, .iadd, 1), (929, .iaload, 1), (930, .aload_n 0, 1), (931, .iload 4, 2), (933, .iconst 2, 1), (934, .iadd, 1), (935, .iaload, 1), (936, .invokevirtual 135, 3), (939, .lcmp, 1), (940, .ifCond .eq 125, 3), (943, .iconst 0, 1), (944, .ireturn, 1), (945, .aload_n 1, 1), (946, .aload_n 0, 1), (947, .iload 4, 2), (949, .iconst 1, 1), (950, .iadd, 1), (951, .iaload, 1), (952, .invokevirtual 136, 3), (955, .aload_n 2, 1), (956, .aload_n 0, 1), (957, .iload 4, 2), (959, .iconst 1, 1), (960, .iadd, 1), (961, .iaload, 1), (962, .invokevirtual 140, 3), (965, .lcmp, 1), (966, .ifCond .eq 99, 3), (969, .iconst 0, 1), (970, .ireturn, 1), (971, .aload_n 1, 1), (972, .aload_n 0, 1), (973, .iload 4, 2), (975, .iconst 1, 1), (976, .iadd, 1), (977, .iaload, 1), (978, .aload_n 0, 1), (979, .iload 4, 2), (981, .iconst 2, 1), (982, .iadd, 1), (983, .iaload, 1), (984, .aload_n 3, 1), (985, .invokestatic 141, 3), (988, .istore 5, 2), (990, .aload_n 2, 1), (991, .aload_n 0, 1), (992, .iload 4, 2), (994, .iconst 1, 1), (995, .iadd, 1), (996, .iaload, 1), (997, .aload_n 0, 1), (998, .iload 4, 2), (1000, .iconst 2, 1), (1001, .iadd, 1), (1002, .iaload, 1), (1003, .invokevirtual 146, 3), (1006, .istore 6, 2), (1008, .aload_n 2, 1), (1009, .invokevirtual 147, 3), (1012, .iload 5, 2), (1014, .if_icmp .eq 5, 3), (1017, .iconst 0, 1), (1018, .ireturn, 1), (1019, .iload 5, 2), (1021, .ifCond .ne 15, 3), (1024, .aload_n 3, 1), (1025, .iconst 0, 1), (1026, .laload, 1), (1027, .iload 6, 2), (1029, .i2l, 1), (1030, .lcmp, 1), (1031, .ifCond .eq 5, 3), (1034, .iconst 0, 1), (1035, .ireturn, 1), (1036, .goto 29, 3), (1039, .aload_n 1, 1), (1040, .invokevirtual 150, 3), (1043, .aload_n 2, 1), (1044, .invokevirtual 153, 3), (1047, .if_icmp .eq 18, 3), (1050, .iconst 0, 1), (1051, .ireturn, 1), (1052, .aload_n 1, 1), (1053, .invokevirtual 154, 3), (1056, .aload_n 2, 1), (1057, .invokevirtual 157, 3), (1060, .if_icmp .eq 5, 3), (1063, .iconst 0, 1), (1064, .ireturn, 1), (1065, .iinc 4 6, 3), (1068, .goto (-1045), 3), (1071, .iconst 1, 1), (1072, .ireturn, 1)]

def zc259 : List (Nat × Instr × Nat) := [(0, .aload_n 0, 1), (1, .getfield 9, 3), (4, .arraylength, 1), (5, .aload_n 0, 1), (6, .invokevirtual 335, 3), (9, .ishr, 1), (10, .ireturn, 1)]

def zc260 : List (Nat × Instr × Nat) := [(0, .aload_n 0, 1), (1, .invokevirtual 492, 3), (4, .ifCond .eq 12, 3), (7, .aload_n 0, 1), (8, .getfield 9, 3), (11, .iload_n 1, 1), (12, .invokestatic 495, 3), (15, .ireturn, 1), (16, .aload_n 0, 1), (17, .getfield 9, 3), (20, .iload_n 1, 1), (21, .invokestatic 498, 3), (24, .ireturn, 1)]

def zc261 : List (Nat × Instr × Nat) := [(0, .getstatic 38, 3), (3, .ifCond .eq 10, 3), (6, .aload_n 0, 1), (7, .getfield 15, 3), (10, .goto 4, 3), (13, .iconst 1, 1), (14, .ireturn, 1)]

def zc262 : List (Nat × Instr × Nat) := [(0, .getstatic 38, 3), (3, .ifCond .eq 14, 3), (6, .aload_n 0, 1), (7, .getfield 15, 3), (10, .ifCond .ne 7, 3), (13, .iconst 1, 1), (14, .goto 4, 3), (17, .iconst 0, 1), (18, .ireturn, 1)]

def zc263 : List (Nat × Instr × Nat) := [(0, .iload_n 0, 1), (1, .iload_n 1, 1), (2, .getstatic 1053, 3), (5, .invokestatic 1059, 3), (8, .pop, 1), (9, .return_, 1)]

def zc264 : List (Nat × Instr × Nat) := [(0, .iload_n 1, 1), (1, .aload_n 0, 1), (2, .arraylength, 1), (3, .invokestatic 9, 3), (6, .aload_n 0, 1), (7, .iload_n 1, 1), (8, .baload, 1), (9, .sipush 255, 3), (12, .iand, 1), (13, .i2c, 1), (14, .ireturn, 1)]

def zc265 : List (Nat × Instr × Nat) := [(0, .iload_n 0, 1), (1, .ifCond .lt 8, 3), (4, .iload_n 0, 1), (5, .iload_n 1, 1), (6, .if_icmp .lt 10, 3), (9, .aload_n 2, 1), (10, .iload_n 0, 1), (11, .iload_n 1, 1), (12, .invokestatic 95, 3), (15, .athrow, 1), (16, .iload_n 0, 1), (17, .ireturn, 1)]

def zc266 : List (Nat × Instr × Nat) := [(0, .iconst 0, 1), (1, .istore_n 3, 1), (2, .aload_n 0, 1), (3, .arraylength, 1), (4, .istore 4, 2), (6, .iload_n 3, 1), (7, .iload 4, 2), (9, .if_icmp .ge 13, 3), (12, .aload_n 0, 1), (13, .iload_n 3, 1), (14, .lload_n 1, 1), (15, .lastore, 1), (16, .iinc 3 1, 3), (19, .goto (-13), 3), (22, .return_, 1)]

def zc267 : List (Nat × Instr × Nat) := [(0, .iconst 0, 1), (1, .istore_n 2, 1), (2, .aload_n 0, 1), (3, .arraylength, 1), (4, .istore_n 3, 1), (5, .iload_n 2, 1), (6, .iload_n 3, 1), (7, .if_icmp .ge 13, 3), (10, .aload_n 0, 1), (11, .iload_n 2, 1), (12, .iload_n 1, 1), (13, .iastore, 1), (14, .iinc 2 1, 3), (17, .goto (-12), 3), (20, .return_, 1)]

def zcodes : List (List (Nat × Instr × Nat)) := [zc0, zc1, zc2, zc3, zc4, zc5, zc6, zc7, zc8, zc9, zc10, zc11, zc12, zc13, zc14, zc15, zc16, zc17, zc18, zc19, zc20, zc21, zc22, zc23, zc24, zc25, zc26, zc27, zc28, zc29, zc30, zc31, zc32, zc33, zc34, zc35, zc36, zc37, zc38, zc39, zc40, zc41, zc42, zc43, zc44, zc45, zc46, zc47, zc48, zc49, zc50, zc51, zc52, zc53, zc54, zc55, zc56, zc57, zc58, zc59, zc60, zc61, zc62, zc63, zc64, zc65, zc66, zc67, zc68, zc69, zc70, zc71, zc72, zc73, zc74, zc75, zc76, zc77, zc78, zc79, zc80, zc81, zc82, zc83, zc84, zc85, zc86, zc87, zc88, zc89, zc90, zc91, zc92, zc93, zc94, zc95, zc96, zc97, zc98, zc99, zc100, zc101, zc102, zc103, zc104, zc105, zc106, zc107, zc108, zc109, zc110, zc111, zc112, zc113, zc114, zc115, zc116, zc117, zc118, zc119, zc120, zc121, zc122, zc123, zc124, zc125, zc126, zc127, zc128, zc129, zc130, zc131, zc132, zc133, zc134, zc135, zc136, zc137, zc138, zc139, zc140, zc141, zc142, zc143, zc144, zc145, zc146, zc147, zc148, zc149, zc150, zc151, zc152, zc153, zc154, zc155, zc156, zc157, zc158, zc159, zc160, zc161, zc162, zc163, zc164, zc165, zc166, zc167, zc168, zc169, zc170, zc171, zc172, zc173, zc174, zc175, zc176, zc177, zc178, zc179, zc180, zc181, zc182, zc183, zc184, zc185, zc186, zc187, zc188, zc189, zc190, zc191, zc192, zc193, zc194, zc195, zc196, zc197, zc198, zc199, zc200, zc201, zc202, zc203, zc204, zc205, zc206, zc207, zc208, zc209, zc210, zc211, zc212, zc213, zc214, zc215, zc216, zc217, zc218, zc219, zc220, zc221, zc222, zc223, zc224, zc225, zc226, zc227, zc228, zc229, zc230, zc231, zc232, zc233, zc234, zc235, zc236, zc237, zc238, zc239, zc240, zc241, zc242, zc243, zc244, zc245, zc246, zc247, zc248, zc249, zc250, zc251, zc252, zc253, zc254, zc255, zc256, zc257, zc258, zc259, zc260, zc261, zc262, zc263, zc264, zc265, zc266, zc267]

def zkey (ci k : Nat) : Nat := ci * 10000 + k
def zgf (f : Nat × Nat × Nat) (pc : Nat) (ls st : List zV) (L : zY) (m : zM) : Option zR := match f, st with
  | (t, k, 0), .inr (.inr (.inl a)) :: r => if zt L a = t then zgo pc ls (.inl (m a k) :: r) L m else none
  | (t, k, 1), .inr (.inr (.inl a)) :: r => if zt L a = t then zgo pc ls (.inl (m a k) :: r) L m else none
  | (t, k, 2), .inr (.inr (.inl a)) :: r => if zt L a = t then zgo pc ls (.inr (.inl (m a k)) :: r) L m else none
  | (t, k, 3), .inr (.inr (.inl a)) :: r => if zt L a = t then zgo pc ls (.inr (.inr (.inl (m a k).toNat)) :: r) L m else none
  | (_, _, 5), .inr (.inr (.inr (0, j))) :: r => zgo pc ls (.inr (.inr (.inr (1, j))) :: r) L m
  | (_, _, 6), .inr (.inr (.inr (0, _))) :: r => zgo pc ls (.inl 0 :: r) L m
  | _, _ => none
def zpf (f : Nat × Nat × Nat) (pc : Nat) (ls st : List zV) (L : zY) (m : zM) : Option zR := match f, st with
  | (t, k, 0), .inl x :: .inr (.inr (.inl a)) :: r => if zt L a = t then zgo pc ls r L (zup m a k x) else none
  | (t, k, 1), .inl x :: .inr (.inr (.inl a)) :: r => if zt L a = t ∧ (x = 0 ∨ x = 1) then zgo pc ls r L (zup m a k x) else none
  | (t, k, 3), .inr (.inr (.inl v)) :: .inr (.inr (.inl a)) :: r => if zt L a = t ∧ v < L.1.length then zgo pc ls r L (zup m a k (v : Int)) else none
  | _, _ => none
/-- the law's own 'told': what it answers, or that it throws (then cells are made that nobody holds) -/
def ztold (st : List zV) (L : zY) (m : zM) : Option (List zV × zY × zM) := match st with
  | .inr (.inr (.inl o)) :: .inl k :: .inl sort :: .inr (.inr (.inl a)) :: r =>
    if zt L a = 10 ∧ zt L o = 21 ∧ 0 < zn L o ∧ zsum r ≤ 8 ∧ zt L (m a 9).toNat = 6 then
      let c := (m a 9).toNat
      let q := (m c (if sort = 0 then 1 else if sort = 1 then 2 else 3)).toNat
      let ks := (m q 0).toNat
      if zt L q = 2 ∧ 2 ≤ ks ∧ zt L ks = 20 ∧ m q 1 ≤ zn L ks then
        if m a 11 = 1 ∧ 0 ≤ sort ∧ sort ≤ 2 ∧ 0 ≤ k ∧ k < m q 1 then some (.inl 0 :: r, L, zup m o 0 (m ks k.toNat))
        else some (.inl 1 :: r, (L.1, (L.2.1 + 1, L.2.2 + 6)), m)
      else none
    else none
  | _ => none
def zcl (mi : Nat) : Nat := zcls.getD mi 99
def zmx (mi : Nat) : Nat := zmxs.getD mi 0
def zfr (mi : Nat) : Nat := zfrs.getD mi 0
def zlo (mi : Nat) : Nat := zlos.getD mi 0
def zcall (fr lo : Nat) (c : Nat × Nat × Nat) (pc : Nat) (ls st : List zV) (L : zY) (m : zM) : Option zR := match c with
  | (k, n, 0) => if zfr k + 1 ≤ fr ∧ 8 + (zmx k + 11) + zlo k ≤ lo ∧ n ≤ st.length ∧ zsum (st.drop n) ≤ 8 ∧ zsum (st.take n) ≤ zmx k then (match (st.take n).reverse with
      | .inr (.inr (.inl a)) :: as => if zt L a = zcl k + 1 then some (.inr (.inl (k, .inr (.inr (.inl a)) :: as, st.drop n, pc))) else none
      | _ => none) else none
  | (k, n, 1) => if zfr k + 1 ≤ fr ∧ 8 + (zmx k + 11) + zlo k ≤ lo ∧ n ≤ st.length ∧ zsum (st.drop n) ≤ 8 ∧ zsum (st.take n) ≤ zmx k then some (.inr (.inl (k, (st.take n).reverse, st.drop n, pc))) else none
  | (k, n, 2) => if zfr k + 1 ≤ fr ∧ 8 + (zmx k + 11) + zlo k ≤ lo ∧ n ≤ st.length ∧ zsum (st.drop n) ≤ 8 ∧ zsum (st.take n) ≤ zmx k then (match (st.take n).reverse with
      | .inr (.inr (.inl a)) :: as => if 2 ≤ a then some (.inr (.inl (k, .inr (.inr (.inl a)) :: as, st.drop n, pc))) else none
      | _ => none) else none
  | (_, _, 3) => (match st with
      | .inr (.inr (.inl a)) :: r => if 2 ≤ a ∧ 1 ≤ fr ∧ 20 ≤ lo ∧ zsum r ≤ 8 then zgo pc ls r L m else none
      | _ => none)
  | (k, n, 4) => if zfr k + 1 ≤ fr ∧ 8 + (zmx k + 11) + zlo k ≤ lo ∧ n ≤ st.length ∧ zsum (st.drop n) ≤ 8 ∧ zsum (st.take n) ≤ zmx k then (match (st.take n).reverse with
      | .inr (.inr (.inr (0, j))) :: as => some (.inr (.inl (k, .inr (.inr (.inr (0, j))) :: as, st.drop n, pc)))
      | _ => none) else none
  | (_, _, 6) => (match st with
      | .inl y :: .inl x :: r => if 1 ≤ fr ∧ 21 ≤ lo ∧ zsum r ≤ 8 then zgo pc ls (.inl (if y < x then y else x) :: r) L m else none
      | _ => none)
  | (_, _, 5) => if 9 ≤ fr ∧ 300 ≤ lo then (ztold st L m).bind fun q => zgo pc ls q.1 q.2.1 q.2.2 else none
  | _ => none
def zwlen (j : Nat) : Nat := (zwords.getD j []).length
def zex (ci rk fr lo : Nat) (i : Instr) (n pc : Nat) (ls st : List zV) (L : zY) (m : zM) : Option zR := match i with
  | .aload k => zld 2 (pc + n) ls st k L m
  | .aload_n k => zld 2 (pc + n) ls st k L m
  | .iload k => zld 0 (pc + n) ls st k L m
  | .iload_n k => zld 0 (pc + n) ls st k L m
  | .lload k => zld 1 (pc + n) ls st k L m
  | .lload_n k => zld 1 (pc + n) ls st k L m
  | .astore k => zsto 2 (pc + n) ls st k L m
  | .astore_n k => zsto 2 (pc + n) ls st k L m
  | .istore k => zsto 0 (pc + n) ls st k L m
  | .istore_n k => zsto 0 (pc + n) ls st k L m
  | .lstore k => zsto 1 (pc + n) ls st k L m
  | .lstore_n k => zsto 1 (pc + n) ls st k L m
  | .iinc k c => match ls.getD k zU with
    | .inl x => if -128 ≤ c ∧ c < 128 then (zst ls k (.inl (zwr (x + c)))).bind fun ls => zgo (pc + n) ls st L m else none
    | _ => none
  | .aconst_null => zgo (pc + n) ls (.inr (.inr (.inl 0)) :: st) L m
  | .iconst c => if -128 ≤ c ∧ c < 128 then zgo (pc + n) ls (.inl c :: st) L m else none
  | .bipush c => if -128 ≤ c ∧ c < 128 then zgo (pc + n) ls (.inl c :: st) L m else none
  | .sipush c => if -32768 ≤ c ∧ c < 32768 then zgo (pc + n) ls (.inl c :: st) L m else none
  | .lconst c => zgo (pc + n) ls (.inr (.inl ((c : Nat) : Int)) :: st) L m
  | .ldc k => (match zlk zcst (zkey ci k), zlk zstr (zkey ci k) with
    | some v, _ => zgo (pc + n) ls (.inl v :: st) L m
    | none, some j => zgo (pc + n) ls (.inr (.inr (.inr (0, j))) :: st) L m
    | none, none => none)
  | .ldc_w k => (match zlk zcst (zkey ci k) with
    | some v => zgo (pc + n) ls (.inl v :: st) L m
    | none => none)
  | .ldc2_w k => (match zlk zlng (zkey ci k) with
    | some v => zgo (pc + n) ls (.inr (.inl v) :: st) L m
    | none => none)
  | .iadd => zbin (fun x y => zwr (x + y)) (pc + n) ls st L m
  | .isub => zbin (fun x y => zwr (x - y)) (pc + n) ls st L m
  | .imul => zbin (fun x y => zwr (x * y)) (pc + n) ls st L m
  | .iand => zbin zand (pc + n) ls st L m
  | .ishr => zbin zshr (pc + n) ls st L m
  | .idiv => (match st with
    | .inl y :: .inl x :: r => if y ≠ 0 then zgo (pc + n) ls (.inl (zdiv x y) :: r) L m else none
    | _ => none)
  | .irem => (match st with
    | .inl y :: .inl x :: r => if y ≠ 0 then zgo (pc + n) ls (.inl (zrem x y) :: r) L m else none
    | _ => none)
  | .ladd => (match st with
    | .inr (.inl y) :: .inr (.inl x) :: r => zgo (pc + n) ls (.inr (.inl (zwl (x + y))) :: r) L m
    | _ => none)
  | .lcmp => (match st with
    | .inr (.inl y) :: .inr (.inl x) :: r => zgo (pc + n) ls (.inl (if y < x then 1 else if x = y then 0 else -1) :: r) L m
    | _ => none)
  | .i2l => (match st with
    | .inl x :: r => zgo (pc + n) ls (.inr (.inl x) :: r) L m
    | _ => none)
  | .i2c => (match st with
    | .inl x :: r => if 0 ≤ x ∧ x < 65536 then zgo (pc + n) ls (.inl x :: r) L m else none
    | _ => none)
  | .dup => (match st with
    | v :: r => if zcat v = 1 then zgo (pc + n) ls (v :: v :: r) L m else none
    | _ => none)
  | .dup2 => (match st with
    | v :: w :: r => if zcat v = 1 ∧ zcat w = 1 then zgo (pc + n) ls (v :: w :: v :: w :: r) L m else none
    | _ => none)
  | .pop => (match st with
    | v :: r => if zcat v = 1 then zgo (pc + n) ls r L m else none
    | _ => none)
  | .goto off => zjmp pc off ls st L m
  | .ifCond c off => (match st with
    | .inl x :: r => bif zcd c x 0 then zjmp pc off ls r L m else zgo (pc + n) ls r L m
    | _ => none)
  | .if_icmp c off => (match st with
    | .inl y :: .inl x :: r => bif zcd c x y then zjmp pc off ls r L m else zgo (pc + n) ls r L m
    | _ => none)
  | .ifnull off => (match st with
    | .inr (.inr (.inl a)) :: r => if a = 0 then zjmp pc off ls r L m else zgo (pc + n) ls r L m
    | _ => none)
  | .tableswitch d lo hi offs => (match st with
    | .inl x :: r => if x < lo ∨ hi < x then zjmp pc d ls r L m else (match offs[(x - lo).toNat]? with
      | some off => zjmp pc off ls r L m
      | none => none)
    | _ => none)
  | .lookupswitch d ps => (match st with
    | .inl x :: r => if (ps.toList.zip (ps.toList.drop 1)).all (fun (a, next) => a.1 < next.1) = true then zjmp pc (Op.lookupswitch.offset ps.toList d x) ls r L m else none
    | _ => none)
  | .getfield k => (match zlk zfld (zkey ci k) with
    | some f => zgf f (pc + n) ls st L m
    | none => none)
  | .putfield k => (match zlk zfld (zkey ci k) with
    | some f => zpf f (pc + n) ls st L m
    | none => none)
  | .getstatic k => (match zlk zgst (zkey ci k) with
    | some 0 => zgo (pc + n) ls (.inl 1 :: st) L m
    | some _ => zgo (pc + n) ls (.inr (.inr (.inr (2, 0))) :: st) L m
    | none => none)
  | .iaload => (match st with
    | .inl j :: .inr (.inr (.inl a)) :: r => if zt L a = 20 ∧ 0 ≤ j ∧ j < zn L a then zgo (pc + n) ls (.inl (m a j.toNat) :: r) L m else none
    | _ => none)
  | .laload => (match st with
    | .inl j :: .inr (.inr (.inl a)) :: r => if zt L a = 21 ∧ 0 ≤ j ∧ j < zn L a then zgo (pc + n) ls (.inr (.inl (m a j.toNat)) :: r) L m else none
    | _ => none)
  | .aaload => (match st with
    | .inl j :: .inr (.inr (.inl a)) :: r => if (zt L a = 22 ∨ zt L a = 23) ∧ 0 ≤ j ∧ j < zn L a then zgo (pc + n) ls (.inr (.inr (.inl (m a j.toNat).toNat)) :: r) L m else none
    | _ => none)
  | .baload => (match st with
    | .inl j :: .inr (.inr (.inr (1, w))) :: r => if 0 ≤ j ∧ j < zwlen w then zgo (pc + n) ls (.inl ((zwords.getD w []).getD j.toNat 0) :: r) L m else none
    | _ => none)
  | .iastore => (match st with
    | .inl x :: .inl j :: .inr (.inr (.inl a)) :: r => if 2 ≤ a ∧ zt L a = 20 ∧ 0 ≤ j ∧ j < zn L a then zgo (pc + n) ls r L (zup m a j.toNat x) else none
    | _ => none)
  | .lastore => (match st with
    | .inr (.inl x) :: .inl j :: .inr (.inr (.inl a)) :: r => if zt L a = 21 ∧ 0 ≤ j ∧ j < zn L a then zgo (pc + n) ls r L (zup m a j.toNat x) else none
    | _ => none)
  | .arraylength => (match st with
    | .inr (.inr (.inl a)) :: r => if 20 ≤ zt L a ∧ zt L a ≤ 23 then zgo (pc + n) ls (.inl (zn L a : Int) :: r) L m else none
    | .inr (.inr (.inr (1, w))) :: r => zgo (pc + n) ls (.inl (zwlen w : Int) :: r) L m
    | _ => none)
  | .new k => (match zlk znew (zkey ci k) with
    | some (t, f) => if L.2.1 = 0 ∧ 0 < t ∧ t < 20 then zgo (pc + n) ls (.inr (.inr (.inl L.1.length)) :: st) (znu L t f) (zclr m L.1.length 1) else none
    | none => none)
  | .newarray ty => (match st with
    | .inl x :: r => if L.2.1 = 0 ∧ 0 ≤ x ∧ x < 100000 then (match ty with
      | .int => zgo (pc + n) ls (.inr (.inr (.inl L.1.length)) :: r) (znu L 20 x.toNat) (zclr m L.1.length 1)
      | .long => zgo (pc + n) ls (.inr (.inr (.inl L.1.length)) :: r) (znu L 21 x.toNat) (zclr m L.1.length 1)
      | _ => none) else none
    | _ => none)
  | .multianewarray k 2 => (match zlk znew (zkey ci k), st with
    | some (t, _), .inl y :: .inl x :: r => if L.2.1 = 0 ∧ (t = 22 ∨ t = 23) ∧ 0 ≤ x ∧ x < 1000 ∧ 0 ≤ y ∧ y < 1000 then zgo (pc + n) ls (.inr (.inr (.inl L.1.length)) :: r) (L.1 ++ ((t, x.toNat) :: List.replicate x.toNat (t - 2, y.toNat)), L.2) (zmna m L.1.length x.toNat) else none
    | _, _ => none)
  | .invokevirtual k => (match zlk zcal (zkey ci k) with
    | some (q, a, 0) => zcall fr lo (q, a, 0) (pc + n) ls st L m
    | some (q, a, 4) => zcall fr lo (q, a, 4) (pc + n) ls st L m
    | _ => none)
  | .invokestatic k => (match zlk zcal (zkey ci k) with
    | some (q, a, 1) => zcall fr lo (q, a, 1) (pc + n) ls st L m
    | some (q, a, 5) => zcall fr lo (q, a, 5) (pc + n) ls st L m
    | some (q, a, 6) => zcall fr lo (q, a, 6) (pc + n) ls st L m
    | _ => none)
  | .invokespecial k => (match zlk zcal (zkey ci k) with
    | some (q, a, 2) => zcall fr lo (q, a, 2) (pc + n) ls st L m
    | some (q, a, 3) => zcall fr lo (q, a, 3) (pc + n) ls st L m
    | _ => none)
  | .ireturn => (match st with
    | [.inl x] => if rk = 0 ∨ (rk = 1 ∧ (x = 0 ∨ x = 1)) ∨ (rk = 2 ∧ 0 ≤ x ∧ x < 65536) ∨ (rk = 3 ∧ -128 ≤ x ∧ x < 128) then some (.inr (.inr (some (.inl x)))) else none
    | _ => none)
  | .lreturn => (match st with
    | [.inr (.inl x)] => if rk = 4 then some (.inr (.inr (some (.inr (.inl x))))) else none
    | _ => none)
  | .areturn => (match st with
    | [.inr (.inr (.inl a))] => if rk = 5 then some (.inr (.inr (some (.inr (.inr (.inl a)))))) else none
    | _ => none)
  | .return_ => (match st with
    | [] => if rk = 6 then some (.inr (.inr none)) else none
    | _ => none)
  | _ => none
def zins (mi pc : Nat) : Option (Instr × Nat) := zlk (zcodes.getD mi []) pc
def zrk (mi : Nat) : Nat := zrks.getD mi 99
def zstep (mi pc : Nat) (ls st : List zV) (L : zY) (m : zM) : Option zR := match zins mi pc with
  | some (i, n) => zex (zcl mi) (zrk mi) (zfr mi) (zlo mi) i n pc ls st L m
  | none => none
def zpu (v : Option zV) (st : List zV) : List zV := match v with
  | some v => v :: st
  | none => st
def zev : Nat → Nat → Nat → List zV → List zV → zY → zM → Option (Option zV × zY × zM)
  | 0, _, _, _, _, _, _ => none
  | n + 1, mi, pc, ls, st, L, m => match zstep mi pc ls st L m with
    | none => none
    | some (.inl (pc', ls', st', L', m')) => zev n mi pc' ls' st' L' m'
    | some (.inr (.inl (k, as, st', pc'))) => (match zev n k 0 (zent (zmx k) as) [] L m with
      | none => none
      | some (r, L', m') => zev n mi pc' ls (zpu r st') L' m')
    | some (.inr (.inr r)) => some (r, L, m)
