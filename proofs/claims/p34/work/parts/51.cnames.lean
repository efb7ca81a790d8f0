theorem goodIn_r {big : List Cond} (ws : List Cond) (ps : List Nat) (hp : ws = ps.filterMap (fun i => big[i]?)) (h : ws.all goodWord = true) : GoodIn big ws := by
  intro w hw
  have h1 := List.all_eq_true.mp h w hw
  rw [hp] at hw
  obtain ⟨i, -, hi⟩ := List.mem_filterMap.mp hw
  have hm : w ∈ big := by first | exact List.mem_of_getElem? hi | exact List.getElem?_mem hi
  exact ⟨hm, good_of_word h1⟩
theorem goodIn_app {big a b : List Cond} (ha : GoodIn big a) (hb : GoodIn big b) : GoodIn big (a ++ b) := fun w h => (List.mem_append.mp h).elim (ha w) (hb w)
def wsJ7_fill_53178 : List Cond := .code yJ7_fill_53178 cJ7_fill_53178 4 none :: ([])
def wsX0_init : List Cond := .code yX0_init cX0_init 1 none :: ([.methodLink RX0 3 objectInit, .instanceMethod objectInit, .code objectInit ⟨#[0xb1]⟩ 1 none, .arrayClass .int, .fieldLink RX0 9 "GuildCharter$Earnest" "row" "[I", .fieldLink RX0 15 "GuildCharter$Earnest" "sold" "[I", .arrayClass .boolean, .fieldLink RX0 18 "GuildCharter$Earnest" "sales" "[Z", .fieldLink RX0 22 "GuildCharter$Earnest" "places" "[I", .fieldLink RX0 25 "GuildCharter$Earnest" "befores" "[I", .fieldLink RX0 28 "GuildCharter$Earnest" "afters" "[I", .methodLink RX0 31 yJ7_fill_53178, .static yJ7_fill_53178, .initialized RJ7, .code yJ7_fill_53178 cJ7_fill_53178 4 none] ++ wsX00)
def wsX1_init : List Cond := .code yX1_init cX1_init 1 none :: ([.methodLink RX1 3 objectInit, .instanceMethod objectInit, .code objectInit ⟨#[0xb1]⟩ 1 none, .arrayClass .int, .fieldLink RX1 9 "GuildCharter$Image" "row" "[I", .fieldLink RX1 15 "GuildCharter$Image" "sold" "[I"] ++ wsX10)
def wsJ0_coder_7d493 : List Cond := .code yJ0_coder_7d493 cJ0_coder_7d493 1 (some .byte) :: ([.fieldLink RJ0 38 "java/lang/String" "COMPACT_STRINGS" "Z", .fieldLink RJ0 15 "java/lang/String" "coder" "B"])
def wsJ0_length_8abf5 : List Cond := .code yJ0_length_8abf5 cJ0_length_8abf5 1 (some .int) :: ([.fieldLink RJ0 9 "java/lang/String" "value" "[B", .methodLink RJ0 335 yJ0_coder_7d493, .instanceMethod yJ0_coder_7d493, .selects RJ0 yJ0_coder_7d493 yJ0_coder_7d493, .initialized RJ0, .code yJ0_coder_7d493 cJ0_coder_7d493 1 (some .byte), .fieldLink RJ0 38 "java/lang/String" "COMPACT_STRINGS" "Z", .fieldLink RJ0 15 "java/lang/String" "coder" "B"])
def wsJ0_isLatin1_aae02 : List Cond := .code yJ0_isLatin1_aae02 cJ0_isLatin1_aae02 1 (some .boolean) :: ([.fieldLink RJ0 38 "java/lang/String" "COMPACT_STRINGS" "Z", .fieldLink RJ0 15 "java/lang/String" "coder" "B"])
def wsJ3_checkIndex_8e157 : List Cond := .code yJ3_checkIndex_8e157 cJ3_checkIndex_8e157 3 (some .int) :: ([])
def wsJ0_checkIndex_df160 : List Cond := .code yJ0_checkIndex_df160 cJ0_checkIndex_df160 2 none :: ([.fieldLink RJ0 1053 "jdk/internal/util/Preconditions" "SIOOBE_FORMATTER" "Ljava/util/function/BiFunction;", .methodLink RJ0 1059 yJ3_checkIndex_8e157, .static yJ3_checkIndex_8e157, .initialized RJ3, .code yJ3_checkIndex_8e157 cJ3_checkIndex_8e157 3 (some .int)])
def wsJ1_charAt_3b067 : List Cond := .code yJ1_charAt_3b067 cJ1_charAt_3b067 2 (some .char) :: ([.methodLink RJ1 9 yJ0_checkIndex_df160, .static yJ0_checkIndex_df160, .initialized RJ0, .code yJ0_checkIndex_df160 cJ0_checkIndex_df160 2 none, .fieldLink RJ0 1053 "jdk/internal/util/Preconditions" "SIOOBE_FORMATTER" "Ljava/util/function/BiFunction;", .methodLink RJ0 1059 yJ3_checkIndex_8e157, .static yJ3_checkIndex_8e157, .initialized RJ3, .code yJ3_checkIndex_8e157 cJ3_checkIndex_8e157 3 (some .int)])
def wsJ0_charAt_5068e_r1 : List Cond := [Cond.fieldLink RJ0 9 "java/lang/String" "value" "[B", Cond.methodLink RJ0 492 yJ0_isLatin1_aae02, Cond.instanceMethod yJ0_isLatin1_aae02, Cond.selects RJ0 yJ0_isLatin1_aae02 yJ0_isLatin1_aae02, Cond.initialized RJ0, Cond.code yJ0_isLatin1_aae02 cJ0_isLatin1_aae02 1 (some .boolean), Cond.fieldLink RJ0 38 "java/lang/String" "COMPACT_STRINGS" "Z", Cond.fieldLink RJ0 15 "java/lang/String" "coder" "B", Cond.methodLink RJ0 495 yJ1_charAt_3b067, Cond.static yJ1_charAt_3b067, Cond.initialized RJ1, Cond.code yJ1_charAt_3b067 cJ1_charAt_3b067 2 (some .char), Cond.methodLink RJ1 9 yJ0_checkIndex_df160, Cond.static yJ0_checkIndex_df160, Cond.code yJ0_checkIndex_df160 cJ0_checkIndex_df160 2 none, Cond.fieldLink RJ0 1053 "jdk/internal/util/Preconditions" "SIOOBE_FORMATTER" "Ljava/util/function/BiFunction;", Cond.methodLink RJ0 1059 yJ3_checkIndex_8e157, Cond.static yJ3_checkIndex_8e157, Cond.initialized RJ3, Cond.code yJ3_checkIndex_8e157 cJ3_checkIndex_8e157 3 (some .int), Cond.methodLink RJ0 498 yJ2_charAt_3b067, Cond.static yJ2_charAt_3b067, Cond.initialized RJ2, Cond.code yJ2_charAt_3b067 cJ2_charAt_3b067 2 (some .char)]
def wsJ0_charAt_5068e_r2 : List Cond := [Cond.methodLink RJ2 67 yJ2_checkIndex_2214a, Cond.static yJ2_checkIndex_2214a, Cond.code yJ2_checkIndex_2214a cJ2_checkIndex_2214a 2 none, Cond.methodLink RJ2 48 yJ2_length_9d52b, Cond.static yJ2_length_9d52b, Cond.code yJ2_length_9d52b cJ2_length_9d52b 1 (some .int), Cond.methodLink RJ2 414 yJ0_checkIndex_df160, Cond.methodLink RJ2 71 yJ2_getChar_3b067, Cond.static yJ2_getChar_3b067, Cond.code yJ2_getChar_3b067 cJ2_getChar_3b067 2 (some .char), Cond.fieldLink RJ2 44 "java/lang/StringUTF16" "$assertionsDisabled" "Z", Cond.fieldLink RJ2 59 "java/lang/StringUTF16" "HI_BYTE_SHIFT" "I", Cond.fieldLink RJ2 63 "java/lang/StringUTF16" "LO_BYTE_SHIFT" "I"]
def wsJ0_charAt_5068e : List Cond := .code yJ0_charAt_5068e cJ0_charAt_5068e 2 (some .char) :: ((wsJ0_charAt_5068e_r1 ++ wsJ0_charAt_5068e_r2))
def wsX8_packed_r1 : List Cond := [Cond.methodLink RX8 39 yJ0_length_8abf5, Cond.instanceMethod yJ0_length_8abf5, Cond.selects RJ0 yJ0_length_8abf5 yJ0_length_8abf5, Cond.initialized RJ0, Cond.code yJ0_length_8abf5 cJ0_length_8abf5 1 (some .int), Cond.fieldLink RJ0 9 "java/lang/String" "value" "[B", Cond.methodLink RJ0 335 yJ0_coder_7d493, Cond.instanceMethod yJ0_coder_7d493, Cond.selects RJ0 yJ0_coder_7d493 yJ0_coder_7d493, Cond.code yJ0_coder_7d493 cJ0_coder_7d493 1 (some .byte), Cond.fieldLink RJ0 38 "java/lang/String" "COMPACT_STRINGS" "Z", Cond.fieldLink RJ0 15 "java/lang/String" "coder" "B", Cond.methodLink RX8 44 yJ0_charAt_5068e, Cond.instanceMethod yJ0_charAt_5068e, Cond.selects RJ0 yJ0_charAt_5068e yJ0_charAt_5068e, Cond.code yJ0_charAt_5068e cJ0_charAt_5068e 2 (some .char), Cond.methodLink RJ0 492 yJ0_isLatin1_aae02, Cond.instanceMethod yJ0_isLatin1_aae02, Cond.selects RJ0 yJ0_isLatin1_aae02 yJ0_isLatin1_aae02, Cond.code yJ0_isLatin1_aae02 cJ0_isLatin1_aae02 1 (some .boolean), Cond.methodLink RJ0 495 yJ1_charAt_3b067, Cond.static yJ1_charAt_3b067, Cond.initialized RJ1, Cond.code yJ1_charAt_3b067 cJ1_charAt_3b067 2 (some .char)]
def wsX8_packed_r2 : List Cond := [Cond.methodLink RJ1 9 yJ0_checkIndex_df160, Cond.static yJ0_checkIndex_df160, Cond.code yJ0_checkIndex_df160 cJ0_checkIndex_df160 2 none, Cond.fieldLink RJ0 1053 "jdk/internal/util/Preconditions" "SIOOBE_FORMATTER" "Ljava/util/function/BiFunction;", Cond.methodLink RJ0 1059 yJ3_checkIndex_8e157, Cond.static yJ3_checkIndex_8e157, Cond.initialized RJ3, Cond.code yJ3_checkIndex_8e157 cJ3_checkIndex_8e157 3 (some .int), Cond.methodLink RJ0 498 yJ2_charAt_3b067, Cond.static yJ2_charAt_3b067, Cond.initialized RJ2, Cond.code yJ2_charAt_3b067 cJ2_charAt_3b067 2 (some .char), Cond.methodLink RJ2 67 yJ2_checkIndex_2214a, Cond.static yJ2_checkIndex_2214a, Cond.code yJ2_checkIndex_2214a cJ2_checkIndex_2214a 2 none, Cond.methodLink RJ2 48 yJ2_length_9d52b, Cond.static yJ2_length_9d52b, Cond.code yJ2_length_9d52b cJ2_length_9d52b 1 (some .int), Cond.methodLink RJ2 414 yJ0_checkIndex_df160, Cond.methodLink RJ2 71 yJ2_getChar_3b067, Cond.static yJ2_getChar_3b067, Cond.code yJ2_getChar_3b067 cJ2_getChar_3b067 2 (some .char), Cond.fieldLink RJ2 44 "java/lang/StringUTF16" "$assertionsDisabled" "Z", Cond.fieldLink RJ2 59 "java/lang/StringUTF16" "HI_BYTE_SHIFT" "I"]
def wsX8_packed_r3 : List Cond := [Cond.fieldLink RJ2 63 "java/lang/StringUTF16" "LO_BYTE_SHIFT" "I"]
def wsX8_packed : List Cond := .code yX8_packed cX8_packed 4 (some .long) :: ((wsX8_packed_r1 ++ (wsX8_packed_r2 ++ wsX8_packed_r3)))
def wsX8_init_r1 : List Cond := [Cond.methodLink RX8 3 objectInit, Cond.instanceMethod objectInit, Cond.code objectInit ⟨#[0xb1]⟩ 1 none, Cond.arrayClass .long, Cond.fieldLink RX8 27 "GuildCharter$Tokens" "keyNames" "[J", Cond.arrayClass .byte, Cond.fieldLink RX8 31 "GuildCharter$Tokens" "text" "[B", Cond.fieldLink RX8 35 "GuildCharter$Tokens" "faultPlace" "I", Cond.methodLink RX8 11 yX8_packed, Cond.static yX8_packed, Cond.initialized RX8, Cond.code yX8_packed cX8_packed 4 (some .long), Cond.methodLink RX8 39 yJ0_length_8abf5, Cond.instanceMethod yJ0_length_8abf5, Cond.selects RJ0 yJ0_length_8abf5 yJ0_length_8abf5, Cond.initialized RJ0, Cond.code yJ0_length_8abf5 cJ0_length_8abf5 1 (some .int), Cond.fieldLink RJ0 9 "java/lang/String" "value" "[B", Cond.methodLink RJ0 335 yJ0_coder_7d493, Cond.instanceMethod yJ0_coder_7d493, Cond.selects RJ0 yJ0_coder_7d493 yJ0_coder_7d493, Cond.code yJ0_coder_7d493 cJ0_coder_7d493 1 (some .byte), Cond.fieldLink RJ0 38 "java/lang/String" "COMPACT_STRINGS" "Z", Cond.fieldLink RJ0 15 "java/lang/String" "coder" "B"]
def wsX8_init_r2 : List Cond := [Cond.methodLink RX8 44 yJ0_charAt_5068e, Cond.instanceMethod yJ0_charAt_5068e, Cond.selects RJ0 yJ0_charAt_5068e yJ0_charAt_5068e, Cond.code yJ0_charAt_5068e cJ0_charAt_5068e 2 (some .char), Cond.methodLink RJ0 492 yJ0_isLatin1_aae02, Cond.instanceMethod yJ0_isLatin1_aae02, Cond.selects RJ0 yJ0_isLatin1_aae02 yJ0_isLatin1_aae02, Cond.code yJ0_isLatin1_aae02 cJ0_isLatin1_aae02 1 (some .boolean), Cond.methodLink RJ0 495 yJ1_charAt_3b067, Cond.static yJ1_charAt_3b067, Cond.initialized RJ1, Cond.code yJ1_charAt_3b067 cJ1_charAt_3b067 2 (some .char), Cond.methodLink RJ1 9 yJ0_checkIndex_df160, Cond.static yJ0_checkIndex_df160, Cond.code yJ0_checkIndex_df160 cJ0_checkIndex_df160 2 none, Cond.fieldLink RJ0 1053 "jdk/internal/util/Preconditions" "SIOOBE_FORMATTER" "Ljava/util/function/BiFunction;", Cond.methodLink RJ0 1059 yJ3_checkIndex_8e157, Cond.static yJ3_checkIndex_8e157, Cond.initialized RJ3, Cond.code yJ3_checkIndex_8e157 cJ3_checkIndex_8e157 3 (some .int), Cond.methodLink RJ0 498 yJ2_charAt_3b067, Cond.static yJ2_charAt_3b067, Cond.initialized RJ2, Cond.code yJ2_charAt_3b067 cJ2_charAt_3b067 2 (some .char)]
def wsX8_init_r3 : List Cond := [Cond.methodLink RJ2 67 yJ2_checkIndex_2214a, Cond.static yJ2_checkIndex_2214a, Cond.code yJ2_checkIndex_2214a cJ2_checkIndex_2214a 2 none, Cond.methodLink RJ2 48 yJ2_length_9d52b, Cond.static yJ2_length_9d52b, Cond.code yJ2_length_9d52b cJ2_length_9d52b 1 (some .int), Cond.methodLink RJ2 414 yJ0_checkIndex_df160, Cond.methodLink RJ2 71 yJ2_getChar_3b067, Cond.static yJ2_getChar_3b067, Cond.code yJ2_getChar_3b067 cJ2_getChar_3b067 2 (some .char), Cond.fieldLink RJ2 44 "java/lang/StringUTF16" "$assertionsDisabled" "Z", Cond.fieldLink RJ2 59 "java/lang/StringUTF16" "HI_BYTE_SHIFT" "I", Cond.fieldLink RJ2 63 "java/lang/StringUTF16" "LO_BYTE_SHIFT" "I"]
def wsX8_init : List Cond := .code yX8_init cX8_init 1 none :: ((wsX8_init_r1 ++ (wsX8_init_r2 ++ wsX8_init_r3)) ++ wsX80)
def wsX4_init : List Cond := .code yX4_init cX4_init 1 none :: ([.methodLink RX4 3 objectInit, .instanceMethod objectInit, .code objectInit ⟨#[0xb1]⟩ 1 none, .arrayClass .long, .fieldLink RX4 9 "GuildCharter$Port" "wordNames" "[J", .arrayClass .int, .fieldLink RX4 15 "GuildCharter$Port" "worths" "[I", .arrayClass .boolean, .fieldLink RX4 19 "GuildCharter$Port" "paired" "[Z", .fieldLink RX4 23 "GuildCharter$Port" "pairWorths" "[I", .fieldLink RX4 26 "GuildCharter$Port" "ruleNames" "[J", .fieldLink RX4 29 "GuildCharter$Port" "firstAlts" "[I", .fieldLink RX4 32 "GuildCharter$Port" "altSizes" "[I", .fieldLink RX4 35 "GuildCharter$Port" "altParts" "[I", .fieldLink RX4 38 "GuildCharter$Port" "turns" "[I", .fieldLink RX4 41 "GuildCharter$Port" "length" "I"] ++ wsX40)
def wsX2_init_r1 : List Cond := [Cond.methodLink RX2 3 objectInit, Cond.instanceMethod objectInit, Cond.code objectInit ⟨#[0xb1]⟩ 1 none, Cond.classLink RX2 9 RX8, Cond.instantiable RX8 10, Cond.initialized RX8, Cond.fieldLink RX2 12 "GuildCharter$Parser" "tokens" "LGuildCharter$Tokens;", Cond.classLink RX2 18 RX4, Cond.instantiable RX4 16, Cond.initialized RX4, Cond.fieldLink RX2 21 "GuildCharter$Parser" "port" "LGuildCharter$Port;", Cond.arrayClass .long, Cond.fieldLink RX2 25 "GuildCharter$Parser" "partNames" "[J", Cond.arrayClass .int, Cond.fieldLink RX2 29 "GuildCharter$Parser" "partPlaces" "[I", Cond.instanceMethod yX8_init, Cond.code yX8_init cX8_init 1 none, Cond.methodLink RX8 3 objectInit, Cond.fieldLink RX8 27 "GuildCharter$Tokens" "keyNames" "[J", Cond.arrayClass .byte, Cond.fieldLink RX8 31 "GuildCharter$Tokens" "text" "[B", Cond.fieldLink RX8 35 "GuildCharter$Tokens" "faultPlace" "I", Cond.methodLink RX8 11 yX8_packed, Cond.static yX8_packed]
def wsX2_init_r2 : List Cond := [Cond.code yX8_packed cX8_packed 4 (some .long), Cond.methodLink RX8 39 yJ0_length_8abf5, Cond.instanceMethod yJ0_length_8abf5, Cond.selects RJ0 yJ0_length_8abf5 yJ0_length_8abf5, Cond.initialized RJ0, Cond.code yJ0_length_8abf5 cJ0_length_8abf5 1 (some .int), Cond.fieldLink RJ0 9 "java/lang/String" "value" "[B", Cond.methodLink RJ0 335 yJ0_coder_7d493, Cond.instanceMethod yJ0_coder_7d493, Cond.selects RJ0 yJ0_coder_7d493 yJ0_coder_7d493, Cond.code yJ0_coder_7d493 cJ0_coder_7d493 1 (some .byte), Cond.fieldLink RJ0 38 "java/lang/String" "COMPACT_STRINGS" "Z", Cond.fieldLink RJ0 15 "java/lang/String" "coder" "B", Cond.methodLink RX8 44 yJ0_charAt_5068e, Cond.instanceMethod yJ0_charAt_5068e, Cond.selects RJ0 yJ0_charAt_5068e yJ0_charAt_5068e, Cond.code yJ0_charAt_5068e cJ0_charAt_5068e 2 (some .char), Cond.methodLink RJ0 492 yJ0_isLatin1_aae02, Cond.instanceMethod yJ0_isLatin1_aae02, Cond.selects RJ0 yJ0_isLatin1_aae02 yJ0_isLatin1_aae02, Cond.code yJ0_isLatin1_aae02 cJ0_isLatin1_aae02 1 (some .boolean), Cond.methodLink RJ0 495 yJ1_charAt_3b067, Cond.static yJ1_charAt_3b067, Cond.initialized RJ1]
def wsX2_init_r3 : List Cond := [Cond.code yJ1_charAt_3b067 cJ1_charAt_3b067 2 (some .char), Cond.methodLink RJ1 9 yJ0_checkIndex_df160, Cond.static yJ0_checkIndex_df160, Cond.code yJ0_checkIndex_df160 cJ0_checkIndex_df160 2 none, Cond.fieldLink RJ0 1053 "jdk/internal/util/Preconditions" "SIOOBE_FORMATTER" "Ljava/util/function/BiFunction;", Cond.methodLink RJ0 1059 yJ3_checkIndex_8e157, Cond.static yJ3_checkIndex_8e157, Cond.initialized RJ3, Cond.code yJ3_checkIndex_8e157 cJ3_checkIndex_8e157 3 (some .int), Cond.methodLink RJ0 498 yJ2_charAt_3b067, Cond.static yJ2_charAt_3b067, Cond.initialized RJ2, Cond.code yJ2_charAt_3b067 cJ2_charAt_3b067 2 (some .char), Cond.methodLink RJ2 67 yJ2_checkIndex_2214a, Cond.static yJ2_checkIndex_2214a, Cond.code yJ2_checkIndex_2214a cJ2_checkIndex_2214a 2 none, Cond.methodLink RJ2 48 yJ2_length_9d52b, Cond.static yJ2_length_9d52b, Cond.code yJ2_length_9d52b cJ2_length_9d52b 1 (some .int), Cond.methodLink RJ2 414 yJ0_checkIndex_df160, Cond.methodLink RJ2 71 yJ2_getChar_3b067, Cond.static yJ2_getChar_3b067, Cond.code yJ2_getChar_3b067 cJ2_getChar_3b067 2 (some .char), Cond.fieldLink RJ2 44 "java/lang/StringUTF16" "$assertionsDisabled" "Z"]
def wsX2_init_r4 : List Cond := [Cond.fieldLink RJ2 59 "java/lang/StringUTF16" "HI_BYTE_SHIFT" "I", Cond.fieldLink RJ2 63 "java/lang/StringUTF16" "LO_BYTE_SHIFT" "I", Cond.methodLink RX2 20 yX4_init, Cond.instanceMethod yX4_init, Cond.code yX4_init cX4_init 1 none, Cond.methodLink RX4 3 objectInit, Cond.fieldLink RX4 9 "GuildCharter$Port" "wordNames" "[J", Cond.fieldLink RX4 15 "GuildCharter$Port" "worths" "[I", Cond.arrayClass .boolean, Cond.fieldLink RX4 19 "GuildCharter$Port" "paired" "[Z", Cond.fieldLink RX4 23 "GuildCharter$Port" "pairWorths" "[I", Cond.fieldLink RX4 26 "GuildCharter$Port" "ruleNames" "[J", Cond.fieldLink RX4 29 "GuildCharter$Port" "firstAlts" "[I", Cond.fieldLink RX4 32 "GuildCharter$Port" "altSizes" "[I", Cond.fieldLink RX4 35 "GuildCharter$Port" "altParts" "[I", Cond.fieldLink RX4 38 "GuildCharter$Port" "turns" "[I", Cond.fieldLink RX4 41 "GuildCharter$Port" "length" "I"]
def wsX2_init : List Cond := .code yX2_init cX2_init 1 none :: ((wsX2_init_r1 ++ (wsX2_init_r2 ++ (wsX2_init_r3 ++ wsX2_init_r4))) ++ wsX80 ++ wsX20 ++ wsX40)
def wsX3_init : List Cond := .code yX3_init cX3_init 1 none :: ([.methodLink RX3 3 objectInit, .instanceMethod objectInit, .code objectInit ⟨#[0xb1]⟩ 1 none, .arrayClass .int, .fieldLink RX3 9 "GuildCharter$Play" "owners" "[I", .fieldLink RX3 15 "GuildCharter$Play" "results" "[I", .fieldLink RX3 18 "GuildCharter$Play" "lotEnds" "[I", .fieldLink RX3 21 "GuildCharter$Play" "bribed" "I"] ++ wsX30)
def wsX5_init : List Cond := .code yX5_init cX5_init 1 none :: ([.methodLink RX5 3 objectInit, .instanceMethod objectInit, .code objectInit ⟨#[0xb1]⟩ 1 none, .arrayClass .long, .fieldLink RX5 9 "GuildCharter$Reader" "columns" "[J", .fieldLink RX5 15 "GuildCharter$Reader" "choices" "[J"] ++ wsX50)
def wsX6_init : List Cond := .code yX6_init cX6_init 1 none :: ([.methodLink RX6 3 objectInit, .instanceMethod objectInit, .code objectInit ⟨#[0xb1]⟩ 1 none, .arrayClass .int, .fieldLink RX6 9 "GuildCharter$Sightings" "places" "[I", .fieldLink RX6 15 "GuildCharter$Sightings" "words" "[I", .arrayClass .boolean, .fieldLink RX6 18 "GuildCharter$Sightings" "stoods" "[Z", .fieldLink RX6 22 "GuildCharter$Sightings" "toldAt" "[I", .fieldLink RX6 25 "GuildCharter$Sightings" "untoldAt" "[I"] ++ wsX60)
def wsX7_init : List Cond := .code yX7_init cX7_init 1 none :: ([.methodLink RX7 3 objectInit, .instanceMethod objectInit, .code objectInit ⟨#[0xb1]⟩ 1 none, .arrayClass .int, .fieldLink RX7 9 "GuildCharter$Tally" "row" "[I", .fieldLink RX7 15 "GuildCharter$Tally" "ways" "[I"] ++ wsX70)
def wsX9_init : List Cond := .code yX9_init cX9_init 1 none :: ([.methodLink RX9 3 objectInit, .instanceMethod objectInit, .code objectInit ⟨#[0xb1]⟩ 1 none, .arrayClass .int, .fieldLink RX9 9 "GuildCharter$Tree" "parents" "[I", .fieldLink RX9 15 "GuildCharter$Tree" "depths" "[I", .fieldLink RX9 18 "GuildCharter$Tree" "meanings" "[I", .fieldLink RX9 21 "GuildCharter$Tree" "rows" "[I"] ++ wsX90)
def wsX10_init_r1 : List Cond := [Cond.methodLink RX10 1 objectInit, Cond.instanceMethod objectInit, Cond.code objectInit ⟨#[0xb1]⟩ 1 none, Cond.arrayClass .byte, Cond.fieldLink RX10 9 "GuildCharter" "tape" "[B", Cond.classLink RX10 13 RX2, Cond.instantiable RX2 4, Cond.initialized RX2, Cond.fieldLink RX10 16 "GuildCharter" "parser" "LGuildCharter$Parser;", Cond.classLink RX10 20 RX4, Cond.instantiable RX4 16, Cond.initialized RX4, Cond.fieldLink RX10 23 "GuildCharter" "told" "LGuildCharter$Port;", Cond.fieldLink RX10 27 "GuildCharter" "spare" "LGuildCharter$Port;", Cond.classLink RX10 30 RX0, Cond.instantiable RX0 9, Cond.initialized RX0, Cond.fieldLink RX10 33 "GuildCharter" "earnest" "LGuildCharter$Earnest;", Cond.classLink RX10 37 RX1, Cond.instantiable RX1 4, Cond.initialized RX1, Cond.fieldLink RX10 40 "GuildCharter" "boxes" "[LGuildCharter$Image;", Cond.classLink RX10 44 RX5, Cond.instantiable RX5 2]
def wsX10_init_r2 : List Cond := [Cond.initialized RX5, Cond.fieldLink RX10 47 "GuildCharter" "reader" "LGuildCharter$Reader;", Cond.classLink RX10 51 RX7, Cond.instantiable RX7 3, Cond.initialized RX7, Cond.fieldLink RX10 54 "GuildCharter" "tally" "LGuildCharter$Tally;", Cond.classLink RX10 58 RX3, Cond.instantiable RX3 9, Cond.initialized RX3, Cond.fieldLink RX10 61 "GuildCharter" "play" "LGuildCharter$Play;", Cond.classLink RX10 65 RX9, Cond.instantiable RX9 11, Cond.initialized RX9, Cond.fieldLink RX10 68 "GuildCharter" "wholeTree" "LGuildCharter$Tree;", Cond.fieldLink RX10 72 "GuildCharter" "earnestTree" "LGuildCharter$Tree;", Cond.fieldLink RX10 75 "GuildCharter" "holeTree" "LGuildCharter$Tree;", Cond.classLink RX10 78 RX6, Cond.instantiable RX6 7, Cond.initialized RX6, Cond.fieldLink RX10 81 "GuildCharter" "sightings" "LGuildCharter$Sightings;", Cond.arrayClass .int, Cond.fieldLink RX10 85 "GuildCharter" "lying" "[I", Cond.fieldLink RX10 89 "GuildCharter" "scratch" "[I", Cond.instanceMethod yX2_init]
def wsX10_init_r3 : List Cond := [Cond.code yX2_init cX2_init 1 none, Cond.methodLink RX2 3 objectInit, Cond.classLink RX2 9 RX8, Cond.instantiable RX8 10, Cond.initialized RX8, Cond.fieldLink RX2 12 "GuildCharter$Parser" "tokens" "LGuildCharter$Tokens;", Cond.classLink RX2 18 RX4, Cond.fieldLink RX2 21 "GuildCharter$Parser" "port" "LGuildCharter$Port;", Cond.arrayClass .long, Cond.fieldLink RX2 25 "GuildCharter$Parser" "partNames" "[J", Cond.fieldLink RX2 29 "GuildCharter$Parser" "partPlaces" "[I", Cond.instanceMethod yX8_init, Cond.code yX8_init cX8_init 1 none, Cond.methodLink RX8 3 objectInit, Cond.fieldLink RX8 27 "GuildCharter$Tokens" "keyNames" "[J", Cond.fieldLink RX8 31 "GuildCharter$Tokens" "text" "[B", Cond.fieldLink RX8 35 "GuildCharter$Tokens" "faultPlace" "I", Cond.methodLink RX8 11 yX8_packed, Cond.static yX8_packed, Cond.code yX8_packed cX8_packed 4 (some .long), Cond.methodLink RX8 39 yJ0_length_8abf5, Cond.instanceMethod yJ0_length_8abf5, Cond.selects RJ0 yJ0_length_8abf5 yJ0_length_8abf5, Cond.initialized RJ0]
def wsX10_init_r4 : List Cond := [Cond.code yJ0_length_8abf5 cJ0_length_8abf5 1 (some .int), Cond.fieldLink RJ0 9 "java/lang/String" "value" "[B", Cond.methodLink RJ0 335 yJ0_coder_7d493, Cond.instanceMethod yJ0_coder_7d493, Cond.selects RJ0 yJ0_coder_7d493 yJ0_coder_7d493, Cond.code yJ0_coder_7d493 cJ0_coder_7d493 1 (some .byte), Cond.fieldLink RJ0 38 "java/lang/String" "COMPACT_STRINGS" "Z", Cond.fieldLink RJ0 15 "java/lang/String" "coder" "B", Cond.methodLink RX8 44 yJ0_charAt_5068e, Cond.instanceMethod yJ0_charAt_5068e, Cond.selects RJ0 yJ0_charAt_5068e yJ0_charAt_5068e, Cond.code yJ0_charAt_5068e cJ0_charAt_5068e 2 (some .char), Cond.methodLink RJ0 492 yJ0_isLatin1_aae02, Cond.instanceMethod yJ0_isLatin1_aae02, Cond.selects RJ0 yJ0_isLatin1_aae02 yJ0_isLatin1_aae02, Cond.code yJ0_isLatin1_aae02 cJ0_isLatin1_aae02 1 (some .boolean), Cond.methodLink RJ0 495 yJ1_charAt_3b067, Cond.static yJ1_charAt_3b067, Cond.initialized RJ1, Cond.code yJ1_charAt_3b067 cJ1_charAt_3b067 2 (some .char), Cond.methodLink RJ1 9 yJ0_checkIndex_df160, Cond.static yJ0_checkIndex_df160, Cond.code yJ0_checkIndex_df160 cJ0_checkIndex_df160 2 none, Cond.fieldLink RJ0 1053 "jdk/internal/util/Preconditions" "SIOOBE_FORMATTER" "Ljava/util/function/BiFunction;"]
def wsX10_init_r5 : List Cond := [Cond.methodLink RJ0 1059 yJ3_checkIndex_8e157, Cond.static yJ3_checkIndex_8e157, Cond.initialized RJ3, Cond.code yJ3_checkIndex_8e157 cJ3_checkIndex_8e157 3 (some .int), Cond.methodLink RJ0 498 yJ2_charAt_3b067, Cond.static yJ2_charAt_3b067, Cond.initialized RJ2, Cond.code yJ2_charAt_3b067 cJ2_charAt_3b067 2 (some .char), Cond.methodLink RJ2 67 yJ2_checkIndex_2214a, Cond.static yJ2_checkIndex_2214a, Cond.code yJ2_checkIndex_2214a cJ2_checkIndex_2214a 2 none, Cond.methodLink RJ2 48 yJ2_length_9d52b, Cond.static yJ2_length_9d52b, Cond.code yJ2_length_9d52b cJ2_length_9d52b 1 (some .int), Cond.methodLink RJ2 414 yJ0_checkIndex_df160, Cond.methodLink RJ2 71 yJ2_getChar_3b067, Cond.static yJ2_getChar_3b067, Cond.code yJ2_getChar_3b067 cJ2_getChar_3b067 2 (some .char), Cond.fieldLink RJ2 44 "java/lang/StringUTF16" "$assertionsDisabled" "Z", Cond.fieldLink RJ2 59 "java/lang/StringUTF16" "HI_BYTE_SHIFT" "I", Cond.fieldLink RJ2 63 "java/lang/StringUTF16" "LO_BYTE_SHIFT" "I", Cond.methodLink RX2 20 yX4_init, Cond.instanceMethod yX4_init, Cond.code yX4_init cX4_init 1 none]
def wsX10_init_r6 : List Cond := [Cond.methodLink RX4 3 objectInit, Cond.fieldLink RX4 9 "GuildCharter$Port" "wordNames" "[J", Cond.fieldLink RX4 15 "GuildCharter$Port" "worths" "[I", Cond.arrayClass .boolean, Cond.fieldLink RX4 19 "GuildCharter$Port" "paired" "[Z", Cond.fieldLink RX4 23 "GuildCharter$Port" "pairWorths" "[I", Cond.fieldLink RX4 26 "GuildCharter$Port" "ruleNames" "[J", Cond.fieldLink RX4 29 "GuildCharter$Port" "firstAlts" "[I", Cond.fieldLink RX4 32 "GuildCharter$Port" "altSizes" "[I", Cond.fieldLink RX4 35 "GuildCharter$Port" "altParts" "[I", Cond.fieldLink RX4 38 "GuildCharter$Port" "turns" "[I", Cond.fieldLink RX4 41 "GuildCharter$Port" "length" "I", Cond.methodLink RX10 22 yX4_init, Cond.methodLink RX10 32 yX0_init, Cond.instanceMethod yX0_init, Cond.code yX0_init cX0_init 1 none, Cond.methodLink RX0 3 objectInit, Cond.fieldLink RX0 9 "GuildCharter$Earnest" "row" "[I", Cond.fieldLink RX0 15 "GuildCharter$Earnest" "sold" "[I", Cond.fieldLink RX0 18 "GuildCharter$Earnest" "sales" "[Z", Cond.fieldLink RX0 22 "GuildCharter$Earnest" "places" "[I", Cond.fieldLink RX0 25 "GuildCharter$Earnest" "befores" "[I", Cond.fieldLink RX0 28 "GuildCharter$Earnest" "afters" "[I", Cond.methodLink RX0 31 yJ7_fill_53178]
def wsX10_init_r7 : List Cond := [Cond.static yJ7_fill_53178, Cond.initialized RJ7, Cond.code yJ7_fill_53178 cJ7_fill_53178 4 none, Cond.instanceMethod yX1_init, Cond.code yX1_init cX1_init 1 none, Cond.methodLink RX1 3 objectInit, Cond.fieldLink RX1 9 "GuildCharter$Image" "row" "[I", Cond.fieldLink RX1 15 "GuildCharter$Image" "sold" "[I", Cond.instanceMethod yX5_init, Cond.code yX5_init cX5_init 1 none, Cond.methodLink RX5 3 objectInit, Cond.fieldLink RX5 9 "GuildCharter$Reader" "columns" "[J", Cond.fieldLink RX5 15 "GuildCharter$Reader" "choices" "[J", Cond.instanceMethod yX7_init, Cond.code yX7_init cX7_init 1 none, Cond.methodLink RX7 3 objectInit, Cond.fieldLink RX7 9 "GuildCharter$Tally" "row" "[I", Cond.fieldLink RX7 15 "GuildCharter$Tally" "ways" "[I", Cond.instanceMethod yX3_init, Cond.code yX3_init cX3_init 1 none, Cond.methodLink RX3 3 objectInit, Cond.fieldLink RX3 9 "GuildCharter$Play" "owners" "[I", Cond.fieldLink RX3 15 "GuildCharter$Play" "results" "[I", Cond.fieldLink RX3 18 "GuildCharter$Play" "lotEnds" "[I"]
def wsX10_init_r8 : List Cond := [Cond.fieldLink RX3 21 "GuildCharter$Play" "bribed" "I", Cond.instanceMethod yX9_init, Cond.code yX9_init cX9_init 1 none, Cond.methodLink RX9 3 objectInit, Cond.fieldLink RX9 9 "GuildCharter$Tree" "parents" "[I", Cond.fieldLink RX9 15 "GuildCharter$Tree" "depths" "[I", Cond.fieldLink RX9 18 "GuildCharter$Tree" "meanings" "[I", Cond.fieldLink RX9 21 "GuildCharter$Tree" "rows" "[I", Cond.instanceMethod yX6_init, Cond.code yX6_init cX6_init 1 none, Cond.methodLink RX6 3 objectInit, Cond.fieldLink RX6 9 "GuildCharter$Sightings" "places" "[I", Cond.fieldLink RX6 15 "GuildCharter$Sightings" "words" "[I", Cond.fieldLink RX6 18 "GuildCharter$Sightings" "stoods" "[Z", Cond.fieldLink RX6 22 "GuildCharter$Sightings" "toldAt" "[I", Cond.fieldLink RX6 25 "GuildCharter$Sightings" "untoldAt" "[I"]
def wsX10_init : List Cond := .code yX10_init cX10_init 1 none :: ((wsX10_init_r1 ++ (wsX10_init_r2 ++ (wsX10_init_r3 ++ (wsX10_init_r4 ++ (wsX10_init_r5 ++ (wsX10_init_r6 ++ (wsX10_init_r7 ++ wsX10_init_r8))))))) ++ wsX100 ++ wsX20 ++ wsX40 ++ wsX00 ++ wsX10 ++ wsX50 ++ wsX70 ++ wsX30 ++ wsX90 ++ wsX60 ++ wsX80)
def wsX11_clearBank : List Cond := .code yX11_clearBank cX11_clearBank 2 none :: ([.fieldLink RX11 20 "GuildCharterModel" "words" "[I", .fieldLink RX11 227 "GuildCharterModel" "rb" "I", .fieldLink RX11 24 "GuildCharterModel" "pairs" "[I", .fieldLink RX11 27 "GuildCharterModel" "rules" "[I", .fieldLink RX11 30 "GuildCharterModel" "alts" "[I", .fieldLink RX11 33 "GuildCharterModel" "length" "[I", .fieldLink RX11 36 "GuildCharterModel" "turnMany" "[I", .fieldLink RX11 64 "GuildCharterModel" "isLength" "[Z", .fieldLink RX11 60 "GuildCharterModel" "isPair" "[Z"] ++ wsX110)
def wsX11_toldTurn : List Cond := .code yX11_toldTurn cX11_toldTurn 2 (some .int) :: ([.fieldLink RX11 36 "GuildCharterModel" "turnMany" "[I", .fieldLink RX11 233 "GuildCharterModel" "bank" "I", .fieldLink RX11 39 "GuildCharterModel" "turnOf" "[I"] ++ wsX110)
def wsX11_begin : List Cond := .code yX11_begin cX11_begin 2 none :: ([.fieldLink RX11 336 "GuildCharterModel" "many" "I", .fieldLink RX11 339 "GuildCharterModel" "acts" "I", .fieldLink RX11 342 "GuildCharterModel" "undone" "I", .fieldLink RX11 95 "GuildCharterModel" "turnNow" "[I", .methodLink RX11 345 yX11_toldTurn, .instanceMethod yX11_toldTurn, .selects RX11 yX11_toldTurn yX11_toldTurn, .initialized RX11, .code yX11_toldTurn cX11_toldTurn 2 (some .int), .fieldLink RX11 36 "GuildCharterModel" "turnMany" "[I", .fieldLink RX11 233 "GuildCharterModel" "bank" "I", .fieldLink RX11 39 "GuildCharterModel" "turnOf" "[I"] ++ wsX110)
def wsX11_init_r1 : List Cond := [Cond.methodLink RX11 1 objectInit, Cond.instanceMethod objectInit, Cond.code objectInit ⟨#[0xb1]⟩ 1 none, Cond.arrayClass .byte, Cond.fieldLink RX11 7 "GuildCharterModel" "tape" "[B", Cond.fieldLink RX11 13 "GuildCharterModel" "text" "[B", Cond.fieldLink RX11 16 "GuildCharterModel" "faultPlace" "I", Cond.arrayClass .int, Cond.fieldLink RX11 20 "GuildCharterModel" "words" "[I", Cond.fieldLink RX11 24 "GuildCharterModel" "pairs" "[I", Cond.fieldLink RX11 27 "GuildCharterModel" "rules" "[I", Cond.fieldLink RX11 30 "GuildCharterModel" "alts" "[I", Cond.fieldLink RX11 33 "GuildCharterModel" "length" "[I", Cond.fieldLink RX11 36 "GuildCharterModel" "turnMany" "[I", Cond.fieldLink RX11 39 "GuildCharterModel" "turnOf" "[I", Cond.fieldLink RX11 42 "GuildCharterModel" "worthOf" "[I", Cond.fieldLink RX11 45 "GuildCharterModel" "pairWorth" "[I", Cond.fieldLink RX11 48 "GuildCharterModel" "altRule" "[I", Cond.fieldLink RX11 51 "GuildCharterModel" "altMany" "[I", Cond.fieldLink RX11 54 "GuildCharterModel" "altName" "[I", Cond.fieldLink RX11 57 "GuildCharterModel" "altPlace" "[I", Cond.arrayClass .boolean, Cond.fieldLink RX11 60 "GuildCharterModel" "isPair" "[Z", Cond.fieldLink RX11 64 "GuildCharterModel" "isLength" "[Z"]
def wsX11_init_r2 : List Cond := [Cond.arrayClass .long, Cond.fieldLink RX11 67 "GuildCharterModel" "wName" "[J", Cond.fieldLink RX11 71 "GuildCharterModel" "rName" "[J", Cond.fieldLink RX11 74 "GuildCharterModel" "altWord" "[J", Cond.fieldLink RX11 77 "GuildCharterModel" "tried" "[I", Cond.fieldLink RX11 80 "GuildCharterModel" "ends" "[I", Cond.fieldLink RX11 83 "GuildCharterModel" "waysTo" "[J", Cond.fieldLink RX11 86 "GuildCharterModel" "step" "[J", Cond.fieldLink RX11 89 "GuildCharterModel" "stepNext" "[J", Cond.fieldLink RX11 92 "GuildCharterModel" "row" "[I", Cond.fieldLink RX11 95 "GuildCharterModel" "turnNow" "[I", Cond.fieldLink RX11 98 "GuildCharterModel" "holes" "[I", Cond.fieldLink RX11 101 "GuildCharterModel" "actPlace" "[I", Cond.fieldLink RX11 104 "GuildCharterModel" "actWhat" "[I", Cond.fieldLink RX11 107 "GuildCharterModel" "list" "[I", Cond.fieldLink RX11 110 "GuildCharterModel" "meansTo" "[I", Cond.fieldLink RX11 113 "GuildCharterModel" "left" "[I", Cond.fieldLink RX11 116 "GuildCharterModel" "leftNext" "[I", Cond.fieldLink RX11 119 "GuildCharterModel" "path" "[I", Cond.fieldLink RX11 122 "GuildCharterModel" "playTurn" "[I", Cond.fieldLink RX11 125 "GuildCharterModel" "bribed" "I", Cond.fieldLink RX11 128 "GuildCharterModel" "laidRow" "[I", Cond.fieldLink RX11 131 "GuildCharterModel" "shortestOf" "[I", Cond.fieldLink RX11 134 "GuildCharterModel" "sPlace" "[I"]
def wsX11_init_r3 : List Cond := [Cond.fieldLink RX11 137 "GuildCharterModel" "sWord" "[I", Cond.fieldLink RX11 140 "GuildCharterModel" "sTold" "[I", Cond.fieldLink RX11 143 "GuildCharterModel" "sUntold" "[I", Cond.fieldLink RX11 146 "GuildCharterModel" "sStood" "[Z", Cond.fieldLink RX11 149 "GuildCharterModel" "boxMany" "[I", Cond.fieldLink RX11 152 "GuildCharterModel" "boxRow" "[I", Cond.fieldLink RX11 155 "GuildCharterModel" "boxTurn" "[I", Cond.methodLink RX11 158 yX11_clearBank, Cond.instanceMethod yX11_clearBank, Cond.selects RX11 yX11_clearBank yX11_clearBank, Cond.initialized RX11, Cond.code yX11_clearBank cX11_clearBank 2 none, Cond.fieldLink RX11 227 "GuildCharterModel" "rb" "I", Cond.methodLink RX11 161 yX11_begin, Cond.instanceMethod yX11_begin, Cond.selects RX11 yX11_begin yX11_begin, Cond.code yX11_begin cX11_begin 2 none, Cond.fieldLink RX11 336 "GuildCharterModel" "many" "I", Cond.fieldLink RX11 339 "GuildCharterModel" "acts" "I", Cond.fieldLink RX11 342 "GuildCharterModel" "undone" "I", Cond.methodLink RX11 345 yX11_toldTurn, Cond.instanceMethod yX11_toldTurn, Cond.selects RX11 yX11_toldTurn yX11_toldTurn, Cond.code yX11_toldTurn cX11_toldTurn 2 (some .int)]
def wsX11_init_r4 : List Cond := [Cond.fieldLink RX11 233 "GuildCharterModel" "bank" "I"]
def wsX11_init : List Cond := .code yX11_init cX11_init 2 none :: ((wsX11_init_r1 ++ (wsX11_init_r2 ++ (wsX11_init_r3 ++ wsX11_init_r4))) ++ wsX110)
set_option maxRecDepth 20000 in
theorem ggX0_init_J7_fill_53178 : GoodIn wsX0_init wsJ7_fill_53178 := goodIn_r _ [15] (by decide +kernel) (by decide +kernel)
set_option maxRecDepth 20000 in
theorem gX0_init_J7_fill_53178 : GoodIn wsX0_init (va_wsS RX0 31 yJ7_fill_53178 wsJ7_fill_53178) := goodIn_app (goodIn_of _ (by decide +kernel)) ggX0_init_J7_fill_53178
theorem dX0_init_0 : decode cX0_init 0 = .ok (.aload_n 0, 1) := by decide +kernel
theorem dX0_init_1 : decode cX0_init 1 = .ok (.invokespecial 3, 3) := by decide +kernel
theorem dX0_init_4 : decode cX0_init 4 = .ok (.aload_n 0, 1) := by decide +kernel
theorem dX0_init_5 : decode cX0_init 5 = .ok (.bipush 6, 2) := by decide +kernel
theorem dX0_init_7 : decode cX0_init 7 = .ok (.newarray .int, 2) := by decide +kernel
theorem dX0_init_9 : decode cX0_init 9 = .ok (.putfield 9, 3) := by decide +kernel
theorem dX0_init_12 : decode cX0_init 12 = .ok (.aload_n 0, 1) := by decide +kernel
theorem dX0_init_13 : decode cX0_init 13 = .ok (.bipush 6, 2) := by decide +kernel
theorem dX0_init_15 : decode cX0_init 15 = .ok (.newarray .int, 2) := by decide +kernel
theorem dX0_init_17 : decode cX0_init 17 = .ok (.putfield 15, 3) := by decide +kernel
theorem dX0_init_20 : decode cX0_init 20 = .ok (.aload_n 0, 1) := by decide +kernel
theorem dX0_init_21 : decode cX0_init 21 = .ok (.bipush 40, 2) := by decide +kernel
theorem dX0_init_23 : decode cX0_init 23 = .ok (.newarray .boolean, 2) := by decide +kernel
theorem dX0_init_25 : decode cX0_init 25 = .ok (.putfield 18, 3) := by decide +kernel
theorem dX0_init_28 : decode cX0_init 28 = .ok (.aload_n 0, 1) := by decide +kernel
theorem dX0_init_29 : decode cX0_init 29 = .ok (.bipush 40, 2) := by decide +kernel
theorem dX0_init_31 : decode cX0_init 31 = .ok (.newarray .int, 2) := by decide +kernel
theorem dX0_init_33 : decode cX0_init 33 = .ok (.putfield 22, 3) := by decide +kernel
theorem dX0_init_36 : decode cX0_init 36 = .ok (.aload_n 0, 1) := by decide +kernel
theorem dX0_init_37 : decode cX0_init 37 = .ok (.bipush 40, 2) := by decide +kernel
theorem dX0_init_39 : decode cX0_init 39 = .ok (.newarray .int, 2) := by decide +kernel
theorem dX0_init_41 : decode cX0_init 41 = .ok (.putfield 25, 3) := by decide +kernel
theorem dX0_init_44 : decode cX0_init 44 = .ok (.aload_n 0, 1) := by decide +kernel
theorem dX0_init_45 : decode cX0_init 45 = .ok (.bipush 40, 2) := by decide +kernel
theorem dX0_init_47 : decode cX0_init 47 = .ok (.newarray .int, 2) := by decide +kernel
theorem dX0_init_49 : decode cX0_init 49 = .ok (.putfield 28, 3) := by decide +kernel
theorem dX0_init_52 : decode cX0_init 52 = .ok (.aload_n 0, 1) := by decide +kernel
theorem dX0_init_53 : decode cX0_init 53 = .ok (.getfield 15, 3) := by decide +kernel
theorem dX0_init_56 : decode cX0_init 56 = .ok (.iconst (-1), 1) := by decide +kernel
theorem dX0_init_57 : decode cX0_init 57 = .ok (.invokestatic 31, 3) := by decide +kernel
theorem dX0_init_60 : decode cX0_init 60 = .ok (.return_, 1) := by decide +kernel
theorem dX1_init_0 : decode cX1_init 0 = .ok (.aload_n 0, 1) := by decide +kernel
theorem dX1_init_1 : decode cX1_init 1 = .ok (.invokespecial 3, 3) := by decide +kernel
theorem dX1_init_4 : decode cX1_init 4 = .ok (.aload_n 0, 1) := by decide +kernel
theorem dX1_init_5 : decode cX1_init 5 = .ok (.bipush 6, 2) := by decide +kernel
theorem dX1_init_7 : decode cX1_init 7 = .ok (.newarray .int, 2) := by decide +kernel
theorem dX1_init_9 : decode cX1_init 9 = .ok (.putfield 9, 3) := by decide +kernel
theorem dX1_init_12 : decode cX1_init 12 = .ok (.aload_n 0, 1) := by decide +kernel
theorem dX1_init_13 : decode cX1_init 13 = .ok (.bipush 6, 2) := by decide +kernel
theorem dX1_init_15 : decode cX1_init 15 = .ok (.newarray .int, 2) := by decide +kernel
theorem dX1_init_17 : decode cX1_init 17 = .ok (.putfield 15, 3) := by decide +kernel
theorem dX1_init_20 : decode cX1_init 20 = .ok (.return_, 1) := by decide +kernel
set_option maxRecDepth 20000 in
theorem ggX2_init_X8_init : GoodIn wsX2_init wsX8_init := goodIn_r _ [17, 18, 2, 3, 12, 19, 20, 21, 22, 23, 24, 6, 25, 26, 27, 28, 29, 30, 31, 32, 33, 34, 35, 36, 37, 38, 39, 40, 41, 42, 43, 44, 45, 46, 47, 48, 49, 50, 51, 52, 53, 54, 55, 56, 57, 58, 59, 60, 61, 62, 63, 64, 65, 66, 67, 68, 69, 70, 71, 72, 73, 74, 90, 91, 92, 93, 94, 95, 96, 97, 98, 99] (by decide +kernel) (by decide +kernel)
set_option maxRecDepth 20000 in
theorem gX2_init_X8_init_n11 : GoodIn wsX2_init (wsX8_init) := ggX2_init_X8_init
set_option maxRecDepth 20000 in
theorem ggX2_init_X4_init : GoodIn wsX2_init wsX4_init := goodIn_r _ [77, 78, 2, 3, 12, 79, 14, 80, 81, 82, 83, 84, 85, 86, 87, 88, 89, 104, 105, 106, 107, 108, 109, 110, 111, 112, 113, 114, 115, 116, 117, 118, 119] (by decide +kernel) (by decide +kernel)
set_option maxRecDepth 20000 in
theorem gX2_init_X4_init : GoodIn wsX2_init (wsX4_init) := ggX2_init_X4_init
theorem dX2_init_0 : decode cX2_init 0 = .ok (.aload_n 0, 1) := by decide +kernel
theorem dX2_init_1 : decode cX2_init 1 = .ok (.invokespecial 3, 3) := by decide +kernel
theorem dX2_init_4 : decode cX2_init 4 = .ok (.aload_n 0, 1) := by decide +kernel
theorem dX2_init_5 : decode cX2_init 5 = .ok (.new 9, 3) := by decide +kernel
theorem dX2_init_8 : decode cX2_init 8 = .ok (.dup, 1) := by decide +kernel
theorem dX2_init_9 : decode cX2_init 9 = .ok (.invokespecial 11, 3) := by decide +kernel
theorem dX2_init_12 : decode cX2_init 12 = .ok (.putfield 12, 3) := by decide +kernel
theorem dX2_init_15 : decode cX2_init 15 = .ok (.aload_n 0, 1) := by decide +kernel
theorem dX2_init_16 : decode cX2_init 16 = .ok (.new 18, 3) := by decide +kernel
theorem dX2_init_19 : decode cX2_init 19 = .ok (.dup, 1) := by decide +kernel
theorem dX2_init_20 : decode cX2_init 20 = .ok (.invokespecial 20, 3) := by decide +kernel
theorem dX2_init_23 : decode cX2_init 23 = .ok (.putfield 21, 3) := by decide +kernel
theorem dX2_init_26 : decode cX2_init 26 = .ok (.aload_n 0, 1) := by decide +kernel
theorem dX2_init_27 : decode cX2_init 27 = .ok (.bipush 96, 2) := by decide +kernel
theorem dX2_init_29 : decode cX2_init 29 = .ok (.newarray .long, 2) := by decide +kernel
theorem dX2_init_31 : decode cX2_init 31 = .ok (.putfield 25, 3) := by decide +kernel
theorem dX2_init_34 : decode cX2_init 34 = .ok (.aload_n 0, 1) := by decide +kernel
theorem dX2_init_35 : decode cX2_init 35 = .ok (.bipush 96, 2) := by decide +kernel
theorem dX2_init_37 : decode cX2_init 37 = .ok (.newarray .int, 2) := by decide +kernel
theorem dX2_init_39 : decode cX2_init 39 = .ok (.putfield 29, 3) := by decide +kernel
theorem dX2_init_42 : decode cX2_init 42 = .ok (.return_, 1) := by decide +kernel
theorem dX3_init_0 : decode cX3_init 0 = .ok (.aload_n 0, 1) := by decide +kernel
theorem dX3_init_1 : decode cX3_init 1 = .ok (.invokespecial 3, 3) := by decide +kernel
theorem dX3_init_4 : decode cX3_init 4 = .ok (.aload_n 0, 1) := by decide +kernel
theorem dX3_init_5 : decode cX3_init 5 = .ok (.bipush 6, 2) := by decide +kernel
theorem dX3_init_7 : decode cX3_init 7 = .ok (.newarray .int, 2) := by decide +kernel
theorem dX3_init_9 : decode cX3_init 9 = .ok (.putfield 9, 3) := by decide +kernel
theorem dX3_init_12 : decode cX3_init 12 = .ok (.aload_n 0, 1) := by decide +kernel
theorem dX3_init_13 : decode cX3_init 13 = .ok (.sipush 3000, 3) := by decide +kernel
theorem dX3_init_16 : decode cX3_init 16 = .ok (.newarray .int, 2) := by decide +kernel
theorem dX3_init_18 : decode cX3_init 18 = .ok (.putfield 15, 3) := by decide +kernel
theorem dX3_init_21 : decode cX3_init 21 = .ok (.aload_n 0, 1) := by decide +kernel
theorem dX3_init_22 : decode cX3_init 22 = .ok (.bipush 6, 2) := by decide +kernel
theorem dX3_init_24 : decode cX3_init 24 = .ok (.newarray .int, 2) := by decide +kernel
theorem dX3_init_26 : decode cX3_init 26 = .ok (.putfield 18, 3) := by decide +kernel
theorem dX3_init_29 : decode cX3_init 29 = .ok (.aload_n 0, 1) := by decide +kernel
theorem dX3_init_30 : decode cX3_init 30 = .ok (.iconst (-1), 1) := by decide +kernel
theorem dX3_init_31 : decode cX3_init 31 = .ok (.putfield 21, 3) := by decide +kernel
theorem dX3_init_34 : decode cX3_init 34 = .ok (.return_, 1) := by decide +kernel
theorem dX4_init_0 : decode cX4_init 0 = .ok (.aload_n 0, 1) := by decide +kernel
theorem dX4_init_1 : decode cX4_init 1 = .ok (.invokespecial 3, 3) := by decide +kernel
theorem dX4_init_4 : decode cX4_init 4 = .ok (.aload_n 0, 1) := by decide +kernel
theorem dX4_init_5 : decode cX4_init 5 = .ok (.bipush 8, 2) := by decide +kernel
theorem dX4_init_7 : decode cX4_init 7 = .ok (.newarray .long, 2) := by decide +kernel
theorem dX4_init_9 : decode cX4_init 9 = .ok (.putfield 9, 3) := by decide +kernel
theorem dX4_init_12 : decode cX4_init 12 = .ok (.aload_n 0, 1) := by decide +kernel
theorem dX4_init_13 : decode cX4_init 13 = .ok (.bipush 24, 2) := by decide +kernel
theorem dX4_init_15 : decode cX4_init 15 = .ok (.newarray .int, 2) := by decide +kernel
theorem dX4_init_17 : decode cX4_init 17 = .ok (.putfield 15, 3) := by decide +kernel
theorem dX4_init_20 : decode cX4_init 20 = .ok (.aload_n 0, 1) := by decide +kernel
theorem dX4_init_21 : decode cX4_init 21 = .ok (.bipush 64, 2) := by decide +kernel
theorem dX4_init_23 : decode cX4_init 23 = .ok (.newarray .boolean, 2) := by decide +kernel
theorem dX4_init_25 : decode cX4_init 25 = .ok (.putfield 19, 3) := by decide +kernel
theorem dX4_init_28 : decode cX4_init 28 = .ok (.aload_n 0, 1) := by decide +kernel
theorem dX4_init_29 : decode cX4_init 29 = .ok (.sipush 192, 3) := by decide +kernel
theorem dX4_init_32 : decode cX4_init 32 = .ok (.newarray .int, 2) := by decide +kernel
theorem dX4_init_34 : decode cX4_init 34 = .ok (.putfield 23, 3) := by decide +kernel
theorem dX4_init_37 : decode cX4_init 37 = .ok (.aload_n 0, 1) := by decide +kernel
theorem dX4_init_38 : decode cX4_init 38 = .ok (.bipush 8, 2) := by decide +kernel
theorem dX4_init_40 : decode cX4_init 40 = .ok (.newarray .long, 2) := by decide +kernel
theorem dX4_init_42 : decode cX4_init 42 = .ok (.putfield 26, 3) := by decide +kernel
theorem dX4_init_45 : decode cX4_init 45 = .ok (.aload_n 0, 1) := by decide +kernel
theorem dX4_init_46 : decode cX4_init 46 = .ok (.bipush 9, 2) := by decide +kernel
theorem dX4_init_48 : decode cX4_init 48 = .ok (.newarray .int, 2) := by decide +kernel
theorem dX4_init_50 : decode cX4_init 50 = .ok (.putfield 29, 3) := by decide +kernel
theorem dX4_init_53 : decode cX4_init 53 = .ok (.aload_n 0, 1) := by decide +kernel
theorem dX4_init_54 : decode cX4_init 54 = .ok (.bipush 24, 2) := by decide +kernel
theorem dX4_init_56 : decode cX4_init 56 = .ok (.newarray .int, 2) := by decide +kernel
theorem dX4_init_58 : decode cX4_init 58 = .ok (.putfield 32, 3) := by decide +kernel
theorem dX4_init_61 : decode cX4_init 61 = .ok (.aload_n 0, 1) := by decide +kernel
theorem dX4_init_62 : decode cX4_init 62 = .ok (.bipush 96, 2) := by decide +kernel
theorem dX4_init_64 : decode cX4_init 64 = .ok (.newarray .int, 2) := by decide +kernel
theorem dX4_init_66 : decode cX4_init 66 = .ok (.putfield 35, 3) := by decide +kernel
theorem dX4_init_69 : decode cX4_init 69 = .ok (.aload_n 0, 1) := by decide +kernel
theorem dX4_init_70 : decode cX4_init 70 = .ok (.bipush 6, 2) := by decide +kernel
theorem dX4_init_72 : decode cX4_init 72 = .ok (.newarray .int, 2) := by decide +kernel
theorem dX4_init_74 : decode cX4_init 74 = .ok (.putfield 38, 3) := by decide +kernel
theorem dX4_init_77 : decode cX4_init 77 = .ok (.aload_n 0, 1) := by decide +kernel
theorem dX4_init_78 : decode cX4_init 78 = .ok (.iconst 3, 1) := by decide +kernel
theorem dX4_init_79 : decode cX4_init 79 = .ok (.putfield 41, 3) := by decide +kernel
theorem dX4_init_82 : decode cX4_init 82 = .ok (.return_, 1) := by decide +kernel
theorem dX5_init_0 : decode cX5_init 0 = .ok (.aload_n 0, 1) := by decide +kernel
theorem dX5_init_1 : decode cX5_init 1 = .ok (.invokespecial 3, 3) := by decide +kernel
theorem dX5_init_4 : decode cX5_init 4 = .ok (.aload_n 0, 1) := by decide +kernel
theorem dX5_init_5 : decode cX5_init 5 = .ok (.bipush 112, 2) := by decide +kernel
theorem dX5_init_7 : decode cX5_init 7 = .ok (.newarray .long, 2) := by decide +kernel
theorem dX5_init_9 : decode cX5_init 9 = .ok (.putfield 9, 3) := by decide +kernel
theorem dX5_init_12 : decode cX5_init 12 = .ok (.aload_n 0, 1) := by decide +kernel
theorem dX5_init_13 : decode cX5_init 13 = .ok (.bipush 112, 2) := by decide +kernel
theorem dX5_init_15 : decode cX5_init 15 = .ok (.newarray .long, 2) := by decide +kernel
theorem dX5_init_17 : decode cX5_init 17 = .ok (.putfield 15, 3) := by decide +kernel
theorem dX5_init_20 : decode cX5_init 20 = .ok (.return_, 1) := by decide +kernel
theorem dX6_init_0 : decode cX6_init 0 = .ok (.aload_n 0, 1) := by decide +kernel
theorem dX6_init_1 : decode cX6_init 1 = .ok (.invokespecial 3, 3) := by decide +kernel
theorem dX6_init_4 : decode cX6_init 4 = .ok (.aload_n 0, 1) := by decide +kernel
theorem dX6_init_5 : decode cX6_init 5 = .ok (.bipush 30, 2) := by decide +kernel
theorem dX6_init_7 : decode cX6_init 7 = .ok (.newarray .int, 2) := by decide +kernel
theorem dX6_init_9 : decode cX6_init 9 = .ok (.putfield 9, 3) := by decide +kernel
theorem dX6_init_12 : decode cX6_init 12 = .ok (.aload_n 0, 1) := by decide +kernel
theorem dX6_init_13 : decode cX6_init 13 = .ok (.bipush 30, 2) := by decide +kernel
theorem dX6_init_15 : decode cX6_init 15 = .ok (.newarray .int, 2) := by decide +kernel
theorem dX6_init_17 : decode cX6_init 17 = .ok (.putfield 15, 3) := by decide +kernel
theorem dX6_init_20 : decode cX6_init 20 = .ok (.aload_n 0, 1) := by decide +kernel
theorem dX6_init_21 : decode cX6_init 21 = .ok (.bipush 30, 2) := by decide +kernel
theorem dX6_init_23 : decode cX6_init 23 = .ok (.newarray .boolean, 2) := by decide +kernel
theorem dX6_init_25 : decode cX6_init 25 = .ok (.putfield 18, 3) := by decide +kernel
theorem dX6_init_28 : decode cX6_init 28 = .ok (.aload_n 0, 1) := by decide +kernel
theorem dX6_init_29 : decode cX6_init 29 = .ok (.bipush 30, 2) := by decide +kernel
theorem dX6_init_31 : decode cX6_init 31 = .ok (.newarray .int, 2) := by decide +kernel
theorem dX6_init_33 : decode cX6_init 33 = .ok (.putfield 22, 3) := by decide +kernel
theorem dX6_init_36 : decode cX6_init 36 = .ok (.aload_n 0, 1) := by decide +kernel
theorem dX6_init_37 : decode cX6_init 37 = .ok (.bipush 30, 2) := by decide +kernel
theorem dX6_init_39 : decode cX6_init 39 = .ok (.newarray .int, 2) := by decide +kernel
theorem dX6_init_41 : decode cX6_init 41 = .ok (.putfield 25, 3) := by decide +kernel
theorem dX6_init_44 : decode cX6_init 44 = .ok (.return_, 1) := by decide +kernel
theorem dX7_init_0 : decode cX7_init 0 = .ok (.aload_n 0, 1) := by decide +kernel
theorem dX7_init_1 : decode cX7_init 1 = .ok (.invokespecial 3, 3) := by decide +kernel
theorem dX7_init_4 : decode cX7_init 4 = .ok (.aload_n 0, 1) := by decide +kernel
theorem dX7_init_5 : decode cX7_init 5 = .ok (.bipush 6, 2) := by decide +kernel
theorem dX7_init_7 : decode cX7_init 7 = .ok (.newarray .int, 2) := by decide +kernel
theorem dX7_init_9 : decode cX7_init 9 = .ok (.putfield 9, 3) := by decide +kernel
theorem dX7_init_12 : decode cX7_init 12 = .ok (.aload_n 0, 1) := by decide +kernel
theorem dX7_init_13 : decode cX7_init 13 = .ok (.sipush 784, 3) := by decide +kernel
theorem dX7_init_16 : decode cX7_init 16 = .ok (.newarray .int, 2) := by decide +kernel
theorem dX7_init_18 : decode cX7_init 18 = .ok (.putfield 15, 3) := by decide +kernel
theorem dX7_init_21 : decode cX7_init 21 = .ok (.return_, 1) := by decide +kernel
set_option maxRecDepth 20000 in
theorem ggX8_init_X8_packed : GoodIn wsX8_init wsX8_packed := goodIn_r _ [12, 13, 14, 15, 16, 17, 18, 19, 20, 21, 22, 23, 24, 25, 26, 27, 28, 29, 30, 31, 32, 33, 34, 35, 36, 37, 38, 39, 40, 41, 42, 43, 44, 45, 46, 47, 48, 49, 50, 51, 52, 53, 54, 55, 56, 57, 58, 59, 60, 61] (by decide +kernel) (by decide +kernel)
set_option maxRecDepth 20000 in
theorem gX8_init_X8_packed : GoodIn wsX8_init (va_wsS RX8 11 yX8_packed wsX8_packed) := goodIn_app (goodIn_of _ (by decide +kernel)) ggX8_init_X8_packed
theorem dX8_init_0 : decode cX8_init 0 = .ok (.aload_n 0, 1) := by decide +kernel
theorem dX8_init_1 : decode cX8_init 1 = .ok (.invokespecial 3, 3) := by decide +kernel
theorem dX8_init_4 : decode cX8_init 4 = .ok (.aload_n 0, 1) := by decide +kernel
theorem dX8_init_5 : decode cX8_init 5 = .ok (.bipush 6, 2) := by decide +kernel
theorem dX8_init_7 : decode cX8_init 7 = .ok (.newarray .long, 2) := by decide +kernel
theorem dX8_init_9 : decode cX8_init 9 = .ok (.dup, 1) := by decide +kernel
theorem dX8_init_10 : decode cX8_init 10 = .ok (.iconst 0, 1) := by decide +kernel
theorem dX8_init_11 : decode cX8_init 11 = .ok (.ldc 9, 2) := by decide +kernel
theorem dX8_init_13 : decode cX8_init 13 = .ok (.invokestatic 11, 3) := by decide +kernel
theorem dX8_init_16 : decode cX8_init 16 = .ok (.lastore, 1) := by decide +kernel
theorem dX8_init_17 : decode cX8_init 17 = .ok (.dup, 1) := by decide +kernel
theorem dX8_init_18 : decode cX8_init 18 = .ok (.iconst 1, 1) := by decide +kernel
theorem dX8_init_19 : decode cX8_init 19 = .ok (.ldc 17, 2) := by decide +kernel
theorem dX8_init_21 : decode cX8_init 21 = .ok (.invokestatic 11, 3) := by decide +kernel
theorem dX8_init_24 : decode cX8_init 24 = .ok (.lastore, 1) := by decide +kernel
theorem dX8_init_25 : decode cX8_init 25 = .ok (.dup, 1) := by decide +kernel
theorem dX8_init_26 : decode cX8_init 26 = .ok (.iconst 2, 1) := by decide +kernel
theorem dX8_init_27 : decode cX8_init 27 = .ok (.ldc 19, 2) := by decide +kernel
theorem dX8_init_29 : decode cX8_init 29 = .ok (.invokestatic 11, 3) := by decide +kernel
theorem dX8_init_32 : decode cX8_init 32 = .ok (.lastore, 1) := by decide +kernel
theorem dX8_init_33 : decode cX8_init 33 = .ok (.dup, 1) := by decide +kernel
theorem dX8_init_34 : decode cX8_init 34 = .ok (.iconst 3, 1) := by decide +kernel
theorem dX8_init_35 : decode cX8_init 35 = .ok (.ldc 21, 2) := by decide +kernel
theorem dX8_init_37 : decode cX8_init 37 = .ok (.invokestatic 11, 3) := by decide +kernel
theorem dX8_init_40 : decode cX8_init 40 = .ok (.lastore, 1) := by decide +kernel
theorem dX8_init_41 : decode cX8_init 41 = .ok (.dup, 1) := by decide +kernel
theorem dX8_init_42 : decode cX8_init 42 = .ok (.iconst 4, 1) := by decide +kernel
theorem dX8_init_43 : decode cX8_init 43 = .ok (.ldc 23, 2) := by decide +kernel
theorem dX8_init_45 : decode cX8_init 45 = .ok (.invokestatic 11, 3) := by decide +kernel
theorem dX8_init_48 : decode cX8_init 48 = .ok (.lastore, 1) := by decide +kernel
theorem dX8_init_49 : decode cX8_init 49 = .ok (.dup, 1) := by decide +kernel
theorem dX8_init_50 : decode cX8_init 50 = .ok (.iconst 5, 1) := by decide +kernel
theorem dX8_init_51 : decode cX8_init 51 = .ok (.ldc 25, 2) := by decide +kernel
theorem dX8_init_53 : decode cX8_init 53 = .ok (.invokestatic 11, 3) := by decide +kernel
theorem dX8_init_56 : decode cX8_init 56 = .ok (.lastore, 1) := by decide +kernel
theorem dX8_init_57 : decode cX8_init 57 = .ok (.putfield 27, 3) := by decide +kernel
theorem dX8_init_60 : decode cX8_init 60 = .ok (.aload_n 0, 1) := by decide +kernel
theorem dX8_init_61 : decode cX8_init 61 = .ok (.iconst 0, 1) := by decide +kernel
theorem dX8_init_62 : decode cX8_init 62 = .ok (.newarray .byte, 2) := by decide +kernel
theorem dX8_init_64 : decode cX8_init 64 = .ok (.putfield 31, 3) := by decide +kernel
theorem dX8_init_67 : decode cX8_init 67 = .ok (.aload_n 0, 1) := by decide +kernel
theorem dX8_init_68 : decode cX8_init 68 = .ok (.iconst (-1), 1) := by decide +kernel
theorem dX8_init_69 : decode cX8_init 69 = .ok (.putfield 35, 3) := by decide +kernel
theorem dX8_init_72 : decode cX8_init 72 = .ok (.return_, 1) := by decide +kernel
set_option maxRecDepth 20000 in
theorem ggX8_packed_J0_length_8abf5 : GoodIn wsX8_packed wsJ0_length_8abf5 := goodIn_r _ [5, 6, 7, 8, 9, 4, 10, 11, 12] (by decide +kernel) (by decide +kernel)
set_option maxRecDepth 20000 in
theorem gX8_packed_J0_length_8abf5 : GoodIn wsX8_packed (wsV RX8 39 RJ0 yJ0_length_8abf5 wsJ0_length_8abf5) := goodIn_app (goodIn_of _ (by decide +kernel)) ggX8_packed_J0_length_8abf5
set_option maxRecDepth 20000 in
theorem ggX8_packed_J0_charAt_5068e : GoodIn wsX8_packed wsJ0_charAt_5068e := goodIn_r _ [16, 6, 17, 18, 19, 4, 20, 11, 12, 21, 22, 23, 24, 25, 26, 27, 28, 29, 30, 31, 32, 33, 34, 35, 36, 37, 38, 39, 40, 41, 42, 43, 44, 45, 46, 47, 48, 49] (by decide +kernel) (by decide +kernel)
set_option maxRecDepth 20000 in
theorem gX8_packed_J0_charAt_5068e : GoodIn wsX8_packed (wsV RX8 44 RJ0 yJ0_charAt_5068e wsJ0_charAt_5068e) := goodIn_app (goodIn_of _ (by decide +kernel)) ggX8_packed_J0_charAt_5068e
theorem dX8_packed_0 : decode cX8_packed 0 = .ok (.lconst 0, 1) := by decide +kernel
theorem dX8_packed_1 : decode cX8_packed 1 = .ok (.lstore_n 1, 1) := by decide +kernel
theorem dX8_packed_2 : decode cX8_packed 2 = .ok (.iconst 0, 1) := by decide +kernel
theorem dX8_packed_3 : decode cX8_packed 3 = .ok (.istore_n 3, 1) := by decide +kernel
theorem dX8_packed_4 : decode cX8_packed 4 = .ok (.iload_n 3, 1) := by decide +kernel
theorem dX8_packed_5 : decode cX8_packed 5 = .ok (.aload_n 0, 1) := by decide +kernel
theorem dX8_packed_6 : decode cX8_packed 6 = .ok (.invokevirtual 39, 3) := by decide +kernel
theorem dX8_packed_9 : decode cX8_packed 9 = .ok (.if_icmp .ge 23, 3) := by decide +kernel
theorem dX8_packed_12 : decode cX8_packed 12 = .ok (.lload_n 1, 1) := by decide +kernel
theorem dX8_packed_13 : decode cX8_packed 13 = .ok (.iconst 5, 1) := by decide +kernel
theorem dX8_packed_14 : decode cX8_packed 14 = .ok (.lshl, 1) := by decide +kernel
theorem dX8_packed_15 : decode cX8_packed 15 = .ok (.aload_n 0, 1) := by decide +kernel
theorem dX8_packed_16 : decode cX8_packed 16 = .ok (.iload_n 3, 1) := by decide +kernel
theorem dX8_packed_17 : decode cX8_packed 17 = .ok (.invokevirtual 44, 3) := by decide +kernel
theorem dX8_packed_20 : decode cX8_packed 20 = .ok (.bipush 96, 2) := by decide +kernel
theorem dX8_packed_22 : decode cX8_packed 22 = .ok (.isub, 1) := by decide +kernel
theorem dX8_packed_23 : decode cX8_packed 23 = .ok (.i2l, 1) := by decide +kernel
theorem dX8_packed_24 : decode cX8_packed 24 = .ok (.lor, 1) := by decide +kernel
theorem dX8_packed_25 : decode cX8_packed 25 = .ok (.lstore_n 1, 1) := by decide +kernel
theorem dX8_packed_26 : decode cX8_packed 26 = .ok (.iinc 3 1, 3) := by decide +kernel
theorem dX8_packed_29 : decode cX8_packed 29 = .ok (.goto (-25), 3) := by decide +kernel
theorem dX8_packed_32 : decode cX8_packed 32 = .ok (.lload_n 1, 1) := by decide +kernel
theorem dX8_packed_33 : decode cX8_packed 33 = .ok (.lreturn, 1) := by decide +kernel
theorem dX9_init_0 : decode cX9_init 0 = .ok (.aload_n 0, 1) := by decide +kernel
theorem dX9_init_1 : decode cX9_init 1 = .ok (.invokespecial 3, 3) := by decide +kernel
theorem dX9_init_4 : decode cX9_init 4 = .ok (.aload_n 0, 1) := by decide +kernel
theorem dX9_init_5 : decode cX9_init 5 = .ok (.sipush 3000, 3) := by decide +kernel
theorem dX9_init_8 : decode cX9_init 8 = .ok (.newarray .int, 2) := by decide +kernel
theorem dX9_init_10 : decode cX9_init 10 = .ok (.putfield 9, 3) := by decide +kernel
theorem dX9_init_13 : decode cX9_init 13 = .ok (.aload_n 0, 1) := by decide +kernel
theorem dX9_init_14 : decode cX9_init 14 = .ok (.sipush 3000, 3) := by decide +kernel
theorem dX9_init_17 : decode cX9_init 17 = .ok (.newarray .int, 2) := by decide +kernel
theorem dX9_init_19 : decode cX9_init 19 = .ok (.putfield 15, 3) := by decide +kernel
theorem dX9_init_22 : decode cX9_init 22 = .ok (.aload_n 0, 1) := by decide +kernel
theorem dX9_init_23 : decode cX9_init 23 = .ok (.sipush 9000, 3) := by decide +kernel
theorem dX9_init_26 : decode cX9_init 26 = .ok (.newarray .int, 2) := by decide +kernel
theorem dX9_init_28 : decode cX9_init 28 = .ok (.putfield 18, 3) := by decide +kernel
theorem dX9_init_31 : decode cX9_init 31 = .ok (.aload_n 0, 1) := by decide +kernel
theorem dX9_init_32 : decode cX9_init 32 = .ok (.sipush 3000, 3) := by decide +kernel
theorem dX9_init_35 : decode cX9_init 35 = .ok (.newarray .int, 2) := by decide +kernel
theorem dX9_init_37 : decode cX9_init 37 = .ok (.putfield 21, 3) := by decide +kernel
theorem dX9_init_40 : decode cX9_init 40 = .ok (.return_, 1) := by decide +kernel
set_option maxRecDepth 20000 in
theorem ggX10_init_X2_init : GoodIn wsX10_init wsX2_init := goodIn_r _ [49, 50, 2, 3, 51, 52, 53, 54, 55, 11, 12, 56, 57, 58, 45, 59, 60, 61, 62, 63, 4, 64, 65, 66, 67, 68, 69, 70, 71, 72, 73, 74, 75, 76, 77, 78, 79, 80, 81, 82, 83, 84, 85, 86, 87, 88, 89, 90, 91, 92, 93, 94, 95, 96, 97, 98, 99, 100, 101, 102, 103, 104, 105, 106, 107, 108, 109, 110, 111, 112, 113, 114, 115, 116, 117, 118, 119, 120, 121, 122, 123, 124, 125, 126, 127, 128, 129, 130, 131, 132, 268, 269, 270, 271, 272, 273, 274, 275, 276, 277, 203, 204, 205, 206, 207, 208, 209, 210, 211, 212, 213, 214, 215, 216, 217, 218, 219, 220, 221, 222] (by decide +kernel) (by decide +kernel)
set_option maxRecDepth 20000 in
theorem gX10_init_X2_init_n15 : GoodIn wsX10_init (wsX2_init) := ggX10_init_X2_init
set_option maxRecDepth 20000 in
theorem ggX10_init_X4_init : GoodIn wsX10_init wsX4_init := goodIn_r _ [120, 121, 2, 3, 57, 122, 45, 123, 124, 125, 126, 127, 128, 129, 130, 131, 132, 207, 208, 209, 210, 211, 212, 213, 214, 215, 216, 217, 218, 219, 220, 221, 222] (by decide +kernel) (by decide +kernel)
set_option maxRecDepth 20000 in
theorem gX10_init_X4_init : GoodIn wsX10_init (wsX4_init) := ggX10_init_X4_init
set_option maxRecDepth 20000 in
theorem ggX10_init_X0_init : GoodIn wsX10_init wsX0_init := goodIn_r _ [136, 137, 2, 3, 45, 138, 139, 124, 140, 141, 142, 143, 144, 145, 146, 147, 223, 224, 225, 226, 227, 228, 229, 230, 231] (by decide +kernel) (by decide +kernel)
set_option maxRecDepth 20000 in
theorem gX10_init_X0_init : GoodIn wsX10_init (wsX0_init) := ggX10_init_X0_init
set_option maxRecDepth 20000 in
theorem ggX10_init_X1_init : GoodIn wsX10_init wsX1_init := goodIn_r _ [149, 150, 2, 3, 45, 151, 152, 232, 233, 234, 235] (by decide +kernel) (by decide +kernel)
set_option maxRecDepth 20000 in
theorem gX10_init_X1_init_n39 : GoodIn wsX10_init (wsX1_init) := ggX10_init_X1_init
set_option maxRecDepth 20000 in
theorem ggX10_init_X5_init : GoodIn wsX10_init wsX5_init := goodIn_r _ [154, 155, 2, 3, 57, 156, 157, 236, 237] (by decide +kernel) (by decide +kernel)
set_option maxRecDepth 20000 in
theorem gX10_init_X5_init_n46 : GoodIn wsX10_init (wsX5_init) := ggX10_init_X5_init
set_option maxRecDepth 20000 in
theorem ggX10_init_X7_init : GoodIn wsX10_init wsX7_init := goodIn_r _ [159, 160, 2, 3, 45, 161, 162, 238, 239, 240] (by decide +kernel) (by decide +kernel)
set_option maxRecDepth 20000 in
theorem gX10_init_X7_init_n53 : GoodIn wsX10_init (wsX7_init) := ggX10_init_X7_init
set_option maxRecDepth 20000 in
theorem ggX10_init_X3_init : GoodIn wsX10_init wsX3_init := goodIn_r _ [164, 165, 2, 3, 45, 166, 167, 168, 169, 241, 242, 243, 244, 245, 246, 247, 248, 249] (by decide +kernel) (by decide +kernel)
set_option maxRecDepth 20000 in
theorem gX10_init_X3_init_n60 : GoodIn wsX10_init (wsX3_init) := ggX10_init_X3_init
set_option maxRecDepth 20000 in
theorem ggX10_init_X9_init : GoodIn wsX10_init wsX9_init := goodIn_r _ [171, 172, 2, 3, 45, 173, 174, 175, 176, 250, 251, 252, 253, 254, 255, 256, 257, 258, 259, 260] (by decide +kernel) (by decide +kernel)
set_option maxRecDepth 20000 in
theorem gX10_init_X9_init_n67 : GoodIn wsX10_init (wsX9_init) := ggX10_init_X9_init
set_option maxRecDepth 20000 in
theorem ggX10_init_X6_init : GoodIn wsX10_init wsX6_init := goodIn_r _ [178, 179, 2, 3, 45, 180, 181, 124, 182, 183, 184, 261, 262, 263, 264, 265, 266, 267] (by decide +kernel) (by decide +kernel)
set_option maxRecDepth 20000 in
theorem gX10_init_X6_init_n80 : GoodIn wsX10_init (wsX6_init) := ggX10_init_X6_init
theorem dX10_init_0 : decode cX10_init 0 = .ok (.aload_n 0, 1) := by decide +kernel
theorem dX10_init_1 : decode cX10_init 1 = .ok (.invokespecial 1, 3) := by decide +kernel
theorem dX10_init_4 : decode cX10_init 4 = .ok (.aload_n 0, 1) := by decide +kernel
theorem dX10_init_5 : decode cX10_init 5 = .ok (.sipush 1600, 3) := by decide +kernel
theorem dX10_init_8 : decode cX10_init 8 = .ok (.newarray .byte, 2) := by decide +kernel
theorem dX10_init_10 : decode cX10_init 10 = .ok (.putfield 9, 3) := by decide +kernel
theorem dX10_init_13 : decode cX10_init 13 = .ok (.aload_n 0, 1) := by decide +kernel
theorem dX10_init_14 : decode cX10_init 14 = .ok (.new 13, 3) := by decide +kernel
theorem dX10_init_17 : decode cX10_init 17 = .ok (.dup, 1) := by decide +kernel
theorem dX10_init_18 : decode cX10_init 18 = .ok (.invokespecial 15, 3) := by decide +kernel
theorem dX10_init_21 : decode cX10_init 21 = .ok (.putfield 16, 3) := by decide +kernel
theorem dX10_init_24 : decode cX10_init 24 = .ok (.aload_n 0, 1) := by decide +kernel
theorem dX10_init_25 : decode cX10_init 25 = .ok (.new 20, 3) := by decide +kernel
theorem dX10_init_28 : decode cX10_init 28 = .ok (.dup, 1) := by decide +kernel
theorem dX10_init_29 : decode cX10_init 29 = .ok (.invokespecial 22, 3) := by decide +kernel
theorem dX10_init_32 : decode cX10_init 32 = .ok (.putfield 23, 3) := by decide +kernel
theorem dX10_init_35 : decode cX10_init 35 = .ok (.aload_n 0, 1) := by decide +kernel
theorem dX10_init_36 : decode cX10_init 36 = .ok (.new 20, 3) := by decide +kernel
theorem dX10_init_39 : decode cX10_init 39 = .ok (.dup, 1) := by decide +kernel
theorem dX10_init_40 : decode cX10_init 40 = .ok (.invokespecial 22, 3) := by decide +kernel
theorem dX10_init_43 : decode cX10_init 43 = .ok (.putfield 27, 3) := by decide +kernel
theorem dX10_init_46 : decode cX10_init 46 = .ok (.aload_n 0, 1) := by decide +kernel
theorem dX10_init_47 : decode cX10_init 47 = .ok (.new 30, 3) := by decide +kernel
theorem dX10_init_50 : decode cX10_init 50 = .ok (.dup, 1) := by decide +kernel
theorem dX10_init_51 : decode cX10_init 51 = .ok (.invokespecial 32, 3) := by decide +kernel
theorem dX10_init_54 : decode cX10_init 54 = .ok (.putfield 33, 3) := by decide +kernel
theorem dX10_init_57 : decode cX10_init 57 = .ok (.aload_n 0, 1) := by decide +kernel
theorem dX10_init_58 : decode cX10_init 58 = .ok (.iconst 3, 1) := by decide +kernel
theorem dX10_init_59 : decode cX10_init 59 = .ok (.anewarray 37, 3) := by decide +kernel
theorem dX10_init_62 : decode cX10_init 62 = .ok (.dup, 1) := by decide +kernel
theorem dX10_init_63 : decode cX10_init 63 = .ok (.iconst 0, 1) := by decide +kernel
theorem dX10_init_64 : decode cX10_init 64 = .ok (.new 37, 3) := by decide +kernel
theorem dX10_init_67 : decode cX10_init 67 = .ok (.dup, 1) := by decide +kernel
theorem dX10_init_68 : decode cX10_init 68 = .ok (.invokespecial 39, 3) := by decide +kernel
theorem dX10_init_71 : decode cX10_init 71 = .ok (.aastore, 1) := by decide +kernel
theorem dX10_init_72 : decode cX10_init 72 = .ok (.dup, 1) := by decide +kernel
theorem dX10_init_73 : decode cX10_init 73 = .ok (.iconst 1, 1) := by decide +kernel
theorem dX10_init_74 : decode cX10_init 74 = .ok (.new 37, 3) := by decide +kernel
theorem dX10_init_77 : decode cX10_init 77 = .ok (.dup, 1) := by decide +kernel
theorem dX10_init_78 : decode cX10_init 78 = .ok (.invokespecial 39, 3) := by decide +kernel
theorem dX10_init_81 : decode cX10_init 81 = .ok (.aastore, 1) := by decide +kernel
theorem dX10_init_82 : decode cX10_init 82 = .ok (.dup, 1) := by decide +kernel
theorem dX10_init_83 : decode cX10_init 83 = .ok (.iconst 2, 1) := by decide +kernel
theorem dX10_init_84 : decode cX10_init 84 = .ok (.new 37, 3) := by decide +kernel
theorem dX10_init_87 : decode cX10_init 87 = .ok (.dup, 1) := by decide +kernel
theorem dX10_init_88 : decode cX10_init 88 = .ok (.invokespecial 39, 3) := by decide +kernel
theorem dX10_init_91 : decode cX10_init 91 = .ok (.aastore, 1) := by decide +kernel
theorem dX10_init_92 : decode cX10_init 92 = .ok (.putfield 40, 3) := by decide +kernel
theorem dX10_init_95 : decode cX10_init 95 = .ok (.aload_n 0, 1) := by decide +kernel
theorem dX10_init_96 : decode cX10_init 96 = .ok (.new 44, 3) := by decide +kernel
theorem dX10_init_99 : decode cX10_init 99 = .ok (.dup, 1) := by decide +kernel
theorem dX10_init_100 : decode cX10_init 100 = .ok (.invokespecial 46, 3) := by decide +kernel
theorem dX10_init_103 : decode cX10_init 103 = .ok (.putfield 47, 3) := by decide +kernel
theorem dX10_init_106 : decode cX10_init 106 = .ok (.aload_n 0, 1) := by decide +kernel
theorem dX10_init_107 : decode cX10_init 107 = .ok (.new 51, 3) := by decide +kernel
theorem dX10_init_110 : decode cX10_init 110 = .ok (.dup, 1) := by decide +kernel
theorem dX10_init_111 : decode cX10_init 111 = .ok (.invokespecial 53, 3) := by decide +kernel
theorem dX10_init_114 : decode cX10_init 114 = .ok (.putfield 54, 3) := by decide +kernel
theorem dX10_init_117 : decode cX10_init 117 = .ok (.aload_n 0, 1) := by decide +kernel
theorem dX10_init_118 : decode cX10_init 118 = .ok (.new 58, 3) := by decide +kernel
theorem dX10_init_121 : decode cX10_init 121 = .ok (.dup, 1) := by decide +kernel
theorem dX10_init_122 : decode cX10_init 122 = .ok (.invokespecial 60, 3) := by decide +kernel
theorem dX10_init_125 : decode cX10_init 125 = .ok (.putfield 61, 3) := by decide +kernel
theorem dX10_init_128 : decode cX10_init 128 = .ok (.aload_n 0, 1) := by decide +kernel
theorem dX10_init_129 : decode cX10_init 129 = .ok (.new 65, 3) := by decide +kernel
theorem dX10_init_132 : decode cX10_init 132 = .ok (.dup, 1) := by decide +kernel
theorem dX10_init_133 : decode cX10_init 133 = .ok (.invokespecial 67, 3) := by decide +kernel
theorem dX10_init_136 : decode cX10_init 136 = .ok (.putfield 68, 3) := by decide +kernel
theorem dX10_init_139 : decode cX10_init 139 = .ok (.aload_n 0, 1) := by decide +kernel
theorem dX10_init_140 : decode cX10_init 140 = .ok (.new 65, 3) := by decide +kernel
theorem dX10_init_143 : decode cX10_init 143 = .ok (.dup, 1) := by decide +kernel
theorem dX10_init_144 : decode cX10_init 144 = .ok (.invokespecial 67, 3) := by decide +kernel
theorem dX10_init_147 : decode cX10_init 147 = .ok (.putfield 72, 3) := by decide +kernel
theorem dX10_init_150 : decode cX10_init 150 = .ok (.aload_n 0, 1) := by decide +kernel
theorem dX10_init_151 : decode cX10_init 151 = .ok (.new 65, 3) := by decide +kernel
theorem dX10_init_154 : decode cX10_init 154 = .ok (.dup, 1) := by decide +kernel
theorem dX10_init_155 : decode cX10_init 155 = .ok (.invokespecial 67, 3) := by decide +kernel
theorem dX10_init_158 : decode cX10_init 158 = .ok (.putfield 75, 3) := by decide +kernel
theorem dX10_init_161 : decode cX10_init 161 = .ok (.aload_n 0, 1) := by decide +kernel
theorem dX10_init_162 : decode cX10_init 162 = .ok (.new 78, 3) := by decide +kernel
theorem dX10_init_165 : decode cX10_init 165 = .ok (.dup, 1) := by decide +kernel
theorem dX10_init_166 : decode cX10_init 166 = .ok (.invokespecial 80, 3) := by decide +kernel
theorem dX10_init_169 : decode cX10_init 169 = .ok (.putfield 81, 3) := by decide +kernel
theorem dX10_init_172 : decode cX10_init 172 = .ok (.aload_n 0, 1) := by decide +kernel
theorem dX10_init_173 : decode cX10_init 173 = .ok (.bipush 6, 2) := by decide +kernel
theorem dX10_init_175 : decode cX10_init 175 = .ok (.newarray .int, 2) := by decide +kernel
theorem dX10_init_177 : decode cX10_init 177 = .ok (.putfield 85, 3) := by decide +kernel
theorem dX10_init_180 : decode cX10_init 180 = .ok (.aload_n 0, 1) := by decide +kernel
theorem dX10_init_181 : decode cX10_init 181 = .ok (.bipush 16, 2) := by decide +kernel
theorem dX10_init_183 : decode cX10_init 183 = .ok (.newarray .int, 2) := by decide +kernel
theorem dX10_init_185 : decode cX10_init 185 = .ok (.putfield 89, 3) := by decide +kernel
theorem dX10_init_188 : decode cX10_init 188 = .ok (.return_, 1) := by decide +kernel
set_option maxRecDepth 20000 in
theorem ggX11_init_X11_clearBank : GoodIn wsX11_init wsX11_clearBank := goodIn_r _ [60, 9, 61, 10, 11, 12, 13, 14, 24, 23, 74, 75, 76, 77, 78, 79, 80, 81, 82, 83, 84, 85, 86, 87, 88, 89, 90, 91, 92, 93, 94, 95, 96, 97, 98, 99, 100, 101, 102, 103, 104, 105, 106, 107, 108, 109, 110, 111, 112, 113, 114, 115, 116, 117, 118, 119, 120, 121, 122, 123, 124, 125, 126, 127, 128, 129, 130, 131, 132, 133, 134, 135, 136, 137, 138, 139, 140, 141, 142, 143, 144] (by decide +kernel) (by decide +kernel)
set_option maxRecDepth 20000 in
theorem gX11_init_X11_clearBank : GoodIn wsX11_init (wsV RX11 158 RX11 yX11_clearBank wsX11_clearBank) := goodIn_app (goodIn_of _ (by decide +kernel)) ggX11_init_X11_clearBank
set_option maxRecDepth 20000 in
theorem ggX11_init_X11_begin : GoodIn wsX11_init wsX11_begin := goodIn_r _ [65, 66, 67, 68, 35, 69, 70, 71, 59, 72, 14, 73, 15, 74, 75, 76, 77, 78, 79, 80, 81, 82, 83, 84, 85, 86, 87, 88, 89, 90, 91, 92, 93, 94, 95, 96, 97, 98, 99, 100, 101, 102, 103, 104, 105, 106, 107, 108, 109, 110, 111, 112, 113, 114, 115, 116, 117, 118, 119, 120, 121, 122, 123, 124, 125, 126, 127, 128, 129, 130, 131, 132, 133, 134, 135, 136, 137, 138, 139, 140, 141, 142, 143, 144] (by decide +kernel) (by decide +kernel)
set_option maxRecDepth 20000 in
theorem gX11_init_X11_begin : GoodIn wsX11_init (wsV RX11 161 RX11 yX11_begin wsX11_begin) := goodIn_app (goodIn_of _ (by decide +kernel)) ggX11_init_X11_begin
theorem dX11_init_0 : decode cX11_init 0 = .ok (.aload_n 0, 1) := by decide +kernel
theorem dX11_init_1 : decode cX11_init 1 = .ok (.invokespecial 1, 3) := by decide +kernel
theorem dX11_init_4 : decode cX11_init 4 = .ok (.aload_n 0, 1) := by decide +kernel
theorem dX11_init_5 : decode cX11_init 5 = .ok (.sipush 1620, 3) := by decide +kernel
theorem dX11_init_8 : decode cX11_init 8 = .ok (.newarray .byte, 2) := by decide +kernel
theorem dX11_init_10 : decode cX11_init 10 = .ok (.putfield 7, 3) := by decide +kernel
theorem dX11_init_13 : decode cX11_init 13 = .ok (.aload_n 0, 1) := by decide +kernel
theorem dX11_init_14 : decode cX11_init 14 = .ok (.sipush 1600, 3) := by decide +kernel
theorem dX11_init_17 : decode cX11_init 17 = .ok (.newarray .byte, 2) := by decide +kernel
theorem dX11_init_19 : decode cX11_init 19 = .ok (.putfield 13, 3) := by decide +kernel
theorem dX11_init_22 : decode cX11_init 22 = .ok (.aload_n 0, 1) := by decide +kernel
theorem dX11_init_23 : decode cX11_init 23 = .ok (.iconst (-1), 1) := by decide +kernel
theorem dX11_init_24 : decode cX11_init 24 = .ok (.putfield 16, 3) := by decide +kernel
theorem dX11_init_27 : decode cX11_init 27 = .ok (.aload_n 0, 1) := by decide +kernel
theorem dX11_init_28 : decode cX11_init 28 = .ok (.iconst 2, 1) := by decide +kernel
theorem dX11_init_29 : decode cX11_init 29 = .ok (.newarray .int, 2) := by decide +kernel
theorem dX11_init_31 : decode cX11_init 31 = .ok (.putfield 20, 3) := by decide +kernel
theorem dX11_init_34 : decode cX11_init 34 = .ok (.aload_n 0, 1) := by decide +kernel
theorem dX11_init_35 : decode cX11_init 35 = .ok (.iconst 2, 1) := by decide +kernel
theorem dX11_init_36 : decode cX11_init 36 = .ok (.newarray .int, 2) := by decide +kernel
theorem dX11_init_38 : decode cX11_init 38 = .ok (.putfield 24, 3) := by decide +kernel
theorem dX11_init_41 : decode cX11_init 41 = .ok (.aload_n 0, 1) := by decide +kernel
theorem dX11_init_42 : decode cX11_init 42 = .ok (.iconst 2, 1) := by decide +kernel
theorem dX11_init_43 : decode cX11_init 43 = .ok (.newarray .int, 2) := by decide +kernel
theorem dX11_init_45 : decode cX11_init 45 = .ok (.putfield 27, 3) := by decide +kernel
theorem dX11_init_48 : decode cX11_init 48 = .ok (.aload_n 0, 1) := by decide +kernel
theorem dX11_init_49 : decode cX11_init 49 = .ok (.iconst 2, 1) := by decide +kernel
theorem dX11_init_50 : decode cX11_init 50 = .ok (.newarray .int, 2) := by decide +kernel
theorem dX11_init_52 : decode cX11_init 52 = .ok (.putfield 30, 3) := by decide +kernel
theorem dX11_init_55 : decode cX11_init 55 = .ok (.aload_n 0, 1) := by decide +kernel
theorem dX11_init_56 : decode cX11_init 56 = .ok (.iconst 2, 1) := by decide +kernel
theorem dX11_init_57 : decode cX11_init 57 = .ok (.newarray .int, 2) := by decide +kernel
theorem dX11_init_59 : decode cX11_init 59 = .ok (.putfield 33, 3) := by decide +kernel
theorem dX11_init_62 : decode cX11_init 62 = .ok (.aload_n 0, 1) := by decide +kernel
theorem dX11_init_63 : decode cX11_init 63 = .ok (.iconst 2, 1) := by decide +kernel
theorem dX11_init_64 : decode cX11_init 64 = .ok (.newarray .int, 2) := by decide +kernel
theorem dX11_init_66 : decode cX11_init 66 = .ok (.putfield 36, 3) := by decide +kernel
theorem dX11_init_69 : decode cX11_init 69 = .ok (.aload_n 0, 1) := by decide +kernel
theorem dX11_init_70 : decode cX11_init 70 = .ok (.bipush 12, 2) := by decide +kernel
theorem dX11_init_72 : decode cX11_init 72 = .ok (.newarray .int, 2) := by decide +kernel
theorem dX11_init_74 : decode cX11_init 74 = .ok (.putfield 39, 3) := by decide +kernel
theorem dX11_init_77 : decode cX11_init 77 = .ok (.aload_n 0, 1) := by decide +kernel
theorem dX11_init_78 : decode cX11_init 78 = .ok (.bipush 48, 2) := by decide +kernel
theorem dX11_init_80 : decode cX11_init 80 = .ok (.newarray .int, 2) := by decide +kernel
theorem dX11_init_82 : decode cX11_init 82 = .ok (.putfield 42, 3) := by decide +kernel
theorem dX11_init_85 : decode cX11_init 85 = .ok (.aload_n 0, 1) := by decide +kernel
theorem dX11_init_86 : decode cX11_init 86 = .ok (.sipush 384, 3) := by decide +kernel
theorem dX11_init_89 : decode cX11_init 89 = .ok (.newarray .int, 2) := by decide +kernel
theorem dX11_init_91 : decode cX11_init 91 = .ok (.putfield 45, 3) := by decide +kernel
theorem dX11_init_94 : decode cX11_init 94 = .ok (.aload_n 0, 1) := by decide +kernel
theorem dX11_init_95 : decode cX11_init 95 = .ok (.bipush 48, 2) := by decide +kernel
theorem dX11_init_97 : decode cX11_init 97 = .ok (.newarray .int, 2) := by decide +kernel
theorem dX11_init_99 : decode cX11_init 99 = .ok (.putfield 48, 3) := by decide +kernel
theorem dX11_init_102 : decode cX11_init 102 = .ok (.aload_n 0, 1) := by decide +kernel
theorem dX11_init_103 : decode cX11_init 103 = .ok (.bipush 48, 2) := by decide +kernel
theorem dX11_init_105 : decode cX11_init 105 = .ok (.newarray .int, 2) := by decide +kernel
theorem dX11_init_107 : decode cX11_init 107 = .ok (.putfield 51, 3) := by decide +kernel
theorem dX11_init_110 : decode cX11_init 110 = .ok (.aload_n 0, 1) := by decide +kernel
theorem dX11_init_111 : decode cX11_init 111 = .ok (.sipush 192, 3) := by decide +kernel
theorem dX11_init_114 : decode cX11_init 114 = .ok (.newarray .int, 2) := by decide +kernel
theorem dX11_init_116 : decode cX11_init 116 = .ok (.putfield 54, 3) := by decide +kernel
theorem dX11_init_119 : decode cX11_init 119 = .ok (.aload_n 0, 1) := by decide +kernel
theorem dX11_init_120 : decode cX11_init 120 = .ok (.sipush 192, 3) := by decide +kernel
theorem dX11_init_123 : decode cX11_init 123 = .ok (.newarray .int, 2) := by decide +kernel
theorem dX11_init_125 : decode cX11_init 125 = .ok (.putfield 57, 3) := by decide +kernel
theorem dX11_init_128 : decode cX11_init 128 = .ok (.aload_n 0, 1) := by decide +kernel
theorem dX11_init_129 : decode cX11_init 129 = .ok (.sipush 128, 3) := by decide +kernel
theorem dX11_init_132 : decode cX11_init 132 = .ok (.newarray .boolean, 2) := by decide +kernel
theorem dX11_init_134 : decode cX11_init 134 = .ok (.putfield 60, 3) := by decide +kernel
theorem dX11_init_137 : decode cX11_init 137 = .ok (.aload_n 0, 1) := by decide +kernel
theorem dX11_init_138 : decode cX11_init 138 = .ok (.iconst 2, 1) := by decide +kernel
theorem dX11_init_139 : decode cX11_init 139 = .ok (.newarray .boolean, 2) := by decide +kernel
theorem dX11_init_141 : decode cX11_init 141 = .ok (.putfield 64, 3) := by decide +kernel
theorem dX11_init_144 : decode cX11_init 144 = .ok (.aload_n 0, 1) := by decide +kernel
theorem dX11_init_145 : decode cX11_init 145 = .ok (.bipush 16, 2) := by decide +kernel
theorem dX11_init_147 : decode cX11_init 147 = .ok (.newarray .long, 2) := by decide +kernel
theorem dX11_init_149 : decode cX11_init 149 = .ok (.putfield 67, 3) := by decide +kernel
theorem dX11_init_152 : decode cX11_init 152 = .ok (.aload_n 0, 1) := by decide +kernel
theorem dX11_init_153 : decode cX11_init 153 = .ok (.bipush 16, 2) := by decide +kernel
theorem dX11_init_155 : decode cX11_init 155 = .ok (.newarray .long, 2) := by decide +kernel
theorem dX11_init_157 : decode cX11_init 157 = .ok (.putfield 71, 3) := by decide +kernel
theorem dX11_init_160 : decode cX11_init 160 = .ok (.aload_n 0, 1) := by decide +kernel
theorem dX11_init_161 : decode cX11_init 161 = .ok (.sipush 192, 3) := by decide +kernel
theorem dX11_init_164 : decode cX11_init 164 = .ok (.newarray .long, 2) := by decide +kernel
theorem dX11_init_166 : decode cX11_init 166 = .ok (.putfield 74, 3) := by decide +kernel
theorem dX11_init_169 : decode cX11_init 169 = .ok (.aload_n 0, 1) := by decide +kernel
theorem dX11_init_170 : decode cX11_init 170 = .ok (.bipush 6, 2) := by decide +kernel
theorem dX11_init_172 : decode cX11_init 172 = .ok (.newarray .int, 2) := by decide +kernel
theorem dX11_init_174 : decode cX11_init 174 = .ok (.putfield 77, 3) := by decide +kernel
theorem dX11_init_177 : decode cX11_init 177 = .ok (.aload_n 0, 1) := by decide +kernel
theorem dX11_init_178 : decode cX11_init 178 = .ok (.bipush 56, 2) := by decide +kernel
theorem dX11_init_180 : decode cX11_init 180 = .ok (.newarray .int, 2) := by decide +kernel
theorem dX11_init_182 : decode cX11_init 182 = .ok (.putfield 80, 3) := by decide +kernel
theorem dX11_init_185 : decode cX11_init 185 = .ok (.aload_n 0, 1) := by decide +kernel
theorem dX11_init_186 : decode cX11_init 186 = .ok (.sipush 448, 3) := by decide +kernel
theorem dX11_init_189 : decode cX11_init 189 = .ok (.newarray .long, 2) := by decide +kernel
theorem dX11_init_191 : decode cX11_init 191 = .ok (.putfield 83, 3) := by decide +kernel
theorem dX11_init_194 : decode cX11_init 194 = .ok (.aload_n 0, 1) := by decide +kernel
theorem dX11_init_195 : decode cX11_init 195 = .ok (.bipush 7, 2) := by decide +kernel
theorem dX11_init_197 : decode cX11_init 197 = .ok (.newarray .long, 2) := by decide +kernel
theorem dX11_init_199 : decode cX11_init 199 = .ok (.putfield 86, 3) := by decide +kernel
theorem dX11_init_202 : decode cX11_init 202 = .ok (.aload_n 0, 1) := by decide +kernel
theorem dX11_init_203 : decode cX11_init 203 = .ok (.bipush 7, 2) := by decide +kernel
theorem dX11_init_205 : decode cX11_init 205 = .ok (.newarray .long, 2) := by decide +kernel
theorem dX11_init_207 : decode cX11_init 207 = .ok (.putfield 89, 3) := by decide +kernel
theorem dX11_init_210 : decode cX11_init 210 = .ok (.aload_n 0, 1) := by decide +kernel
theorem dX11_init_211 : decode cX11_init 211 = .ok (.bipush 6, 2) := by decide +kernel
theorem dX11_init_213 : decode cX11_init 213 = .ok (.newarray .int, 2) := by decide +kernel
theorem dX11_init_215 : decode cX11_init 215 = .ok (.putfield 92, 3) := by decide +kernel
theorem dX11_init_218 : decode cX11_init 218 = .ok (.aload_n 0, 1) := by decide +kernel
theorem dX11_init_219 : decode cX11_init 219 = .ok (.bipush 6, 2) := by decide +kernel
theorem dX11_init_221 : decode cX11_init 221 = .ok (.newarray .int, 2) := by decide +kernel
theorem dX11_init_223 : decode cX11_init 223 = .ok (.putfield 95, 3) := by decide +kernel
theorem dX11_init_226 : decode cX11_init 226 = .ok (.aload_n 0, 1) := by decide +kernel
theorem dX11_init_227 : decode cX11_init 227 = .ok (.bipush 6, 2) := by decide +kernel
theorem dX11_init_229 : decode cX11_init 229 = .ok (.newarray .int, 2) := by decide +kernel
theorem dX11_init_231 : decode cX11_init 231 = .ok (.dup, 1) := by decide +kernel
theorem dX11_init_232 : decode cX11_init 232 = .ok (.iconst 0, 1) := by decide +kernel
theorem dX11_init_233 : decode cX11_init 233 = .ok (.iconst (-1), 1) := by decide +kernel
theorem dX11_init_234 : decode cX11_init 234 = .ok (.iastore, 1) := by decide +kernel
theorem dX11_init_235 : decode cX11_init 235 = .ok (.dup, 1) := by decide +kernel
theorem dX11_init_236 : decode cX11_init 236 = .ok (.iconst 1, 1) := by decide +kernel
theorem dX11_init_237 : decode cX11_init 237 = .ok (.iconst (-1), 1) := by decide +kernel
theorem dX11_init_238 : decode cX11_init 238 = .ok (.iastore, 1) := by decide +kernel
theorem dX11_init_239 : decode cX11_init 239 = .ok (.dup, 1) := by decide +kernel
theorem dX11_init_240 : decode cX11_init 240 = .ok (.iconst 2, 1) := by decide +kernel
theorem dX11_init_241 : decode cX11_init 241 = .ok (.iconst (-1), 1) := by decide +kernel
theorem dX11_init_242 : decode cX11_init 242 = .ok (.iastore, 1) := by decide +kernel
theorem dX11_init_243 : decode cX11_init 243 = .ok (.dup, 1) := by decide +kernel
theorem dX11_init_244 : decode cX11_init 244 = .ok (.iconst 3, 1) := by decide +kernel
theorem dX11_init_245 : decode cX11_init 245 = .ok (.iconst (-1), 1) := by decide +kernel
theorem dX11_init_246 : decode cX11_init 246 = .ok (.iastore, 1) := by decide +kernel
theorem dX11_init_247 : decode cX11_init 247 = .ok (.dup, 1) := by decide +kernel
theorem dX11_init_248 : decode cX11_init 248 = .ok (.iconst 4, 1) := by decide +kernel
theorem dX11_init_249 : decode cX11_init 249 = .ok (.iconst (-1), 1) := by decide +kernel
theorem dX11_init_250 : decode cX11_init 250 = .ok (.iastore, 1) := by decide +kernel
theorem dX11_init_251 : decode cX11_init 251 = .ok (.dup, 1) := by decide +kernel
theorem dX11_init_252 : decode cX11_init 252 = .ok (.iconst 5, 1) := by decide +kernel
theorem dX11_init_253 : decode cX11_init 253 = .ok (.iconst (-1), 1) := by decide +kernel
theorem dX11_init_254 : decode cX11_init 254 = .ok (.iastore, 1) := by decide +kernel
theorem dX11_init_255 : decode cX11_init 255 = .ok (.putfield 98, 3) := by decide +kernel
theorem dX11_init_258 : decode cX11_init 258 = .ok (.aload_n 0, 1) := by decide +kernel
theorem dX11_init_259 : decode cX11_init 259 = .ok (.bipush 40, 2) := by decide +kernel
theorem dX11_init_261 : decode cX11_init 261 = .ok (.newarray .int, 2) := by decide +kernel
theorem dX11_init_263 : decode cX11_init 263 = .ok (.putfield 101, 3) := by decide +kernel
theorem dX11_init_266 : decode cX11_init 266 = .ok (.aload_n 0, 1) := by decide +kernel
theorem dX11_init_267 : decode cX11_init 267 = .ok (.bipush 40, 2) := by decide +kernel
theorem dX11_init_269 : decode cX11_init 269 = .ok (.newarray .int, 2) := by decide +kernel
theorem dX11_init_271 : decode cX11_init 271 = .ok (.putfield 104, 3) := by decide +kernel
theorem dX11_init_274 : decode cX11_init 274 = .ok (.aload_n 0, 1) := by decide +kernel
theorem dX11_init_275 : decode cX11_init 275 = .ok (.sipush 3001, 3) := by decide +kernel
theorem dX11_init_278 : decode cX11_init 278 = .ok (.newarray .int, 2) := by decide +kernel
theorem dX11_init_280 : decode cX11_init 280 = .ok (.putfield 107, 3) := by decide +kernel
theorem dX11_init_283 : decode cX11_init 283 = .ok (.aload_n 0, 1) := by decide +kernel
theorem dX11_init_284 : decode cX11_init 284 = .ok (.sipush 9003, 3) := by decide +kernel
theorem dX11_init_287 : decode cX11_init 287 = .ok (.newarray .int, 2) := by decide +kernel
theorem dX11_init_289 : decode cX11_init 289 = .ok (.putfield 110, 3) := by decide +kernel
theorem dX11_init_292 : decode cX11_init 292 = .ok (.aload_n 0, 1) := by decide +kernel
theorem dX11_init_293 : decode cX11_init 293 = .ok (.sipush 3001, 3) := by decide +kernel
theorem dX11_init_296 : decode cX11_init 296 = .ok (.newarray .int, 2) := by decide +kernel
theorem dX11_init_298 : decode cX11_init 298 = .ok (.putfield 113, 3) := by decide +kernel
theorem dX11_init_301 : decode cX11_init 301 = .ok (.aload_n 0, 1) := by decide +kernel
theorem dX11_init_302 : decode cX11_init 302 = .ok (.sipush 3001, 3) := by decide +kernel
theorem dX11_init_305 : decode cX11_init 305 = .ok (.newarray .int, 2) := by decide +kernel
theorem dX11_init_307 : decode cX11_init 307 = .ok (.putfield 116, 3) := by decide +kernel
theorem dX11_init_310 : decode cX11_init 310 = .ok (.aload_n 0, 1) := by decide +kernel
theorem dX11_init_311 : decode cX11_init 311 = .ok (.bipush 7, 2) := by decide +kernel
theorem dX11_init_313 : decode cX11_init 313 = .ok (.newarray .int, 2) := by decide +kernel
theorem dX11_init_315 : decode cX11_init 315 = .ok (.putfield 119, 3) := by decide +kernel
theorem dX11_init_318 : decode cX11_init 318 = .ok (.aload_n 0, 1) := by decide +kernel
theorem dX11_init_319 : decode cX11_init 319 = .ok (.bipush 6, 2) := by decide +kernel
theorem dX11_init_321 : decode cX11_init 321 = .ok (.newarray .int, 2) := by decide +kernel
theorem dX11_init_323 : decode cX11_init 323 = .ok (.putfield 122, 3) := by decide +kernel
theorem dX11_init_326 : decode cX11_init 326 = .ok (.aload_n 0, 1) := by decide +kernel
theorem dX11_init_327 : decode cX11_init 327 = .ok (.iconst (-1), 1) := by decide +kernel
theorem dX11_init_328 : decode cX11_init 328 = .ok (.putfield 125, 3) := by decide +kernel
theorem dX11_init_331 : decode cX11_init 331 = .ok (.aload_n 0, 1) := by decide +kernel
theorem dX11_init_332 : decode cX11_init 332 = .ok (.bipush 6, 2) := by decide +kernel
theorem dX11_init_334 : decode cX11_init 334 = .ok (.newarray .int, 2) := by decide +kernel
theorem dX11_init_336 : decode cX11_init 336 = .ok (.putfield 128, 3) := by decide +kernel
theorem dX11_init_339 : decode cX11_init 339 = .ok (.aload_n 0, 1) := by decide +kernel
theorem dX11_init_340 : decode cX11_init 340 = .ok (.bipush 8, 2) := by decide +kernel
theorem dX11_init_342 : decode cX11_init 342 = .ok (.newarray .int, 2) := by decide +kernel
theorem dX11_init_344 : decode cX11_init 344 = .ok (.putfield 131, 3) := by decide +kernel
theorem dX11_init_347 : decode cX11_init 347 = .ok (.aload_n 0, 1) := by decide +kernel
theorem dX11_init_348 : decode cX11_init 348 = .ok (.bipush 30, 2) := by decide +kernel
theorem dX11_init_350 : decode cX11_init 350 = .ok (.newarray .int, 2) := by decide +kernel
theorem dX11_init_352 : decode cX11_init 352 = .ok (.putfield 134, 3) := by decide +kernel
theorem dX11_init_355 : decode cX11_init 355 = .ok (.aload_n 0, 1) := by decide +kernel
theorem dX11_init_356 : decode cX11_init 356 = .ok (.bipush 30, 2) := by decide +kernel
theorem dX11_init_358 : decode cX11_init 358 = .ok (.newarray .int, 2) := by decide +kernel
theorem dX11_init_360 : decode cX11_init 360 = .ok (.putfield 137, 3) := by decide +kernel
theorem dX11_init_363 : decode cX11_init 363 = .ok (.aload_n 0, 1) := by decide +kernel
theorem dX11_init_364 : decode cX11_init 364 = .ok (.bipush 30, 2) := by decide +kernel
theorem dX11_init_366 : decode cX11_init 366 = .ok (.newarray .int, 2) := by decide +kernel
theorem dX11_init_368 : decode cX11_init 368 = .ok (.putfield 140, 3) := by decide +kernel
theorem dX11_init_371 : decode cX11_init 371 = .ok (.aload_n 0, 1) := by decide +kernel
theorem dX11_init_372 : decode cX11_init 372 = .ok (.bipush 30, 2) := by decide +kernel
theorem dX11_init_374 : decode cX11_init 374 = .ok (.newarray .int, 2) := by decide +kernel
theorem dX11_init_376 : decode cX11_init 376 = .ok (.putfield 143, 3) := by decide +kernel
theorem dX11_init_379 : decode cX11_init 379 = .ok (.aload_n 0, 1) := by decide +kernel
theorem dX11_init_380 : decode cX11_init 380 = .ok (.bipush 30, 2) := by decide +kernel
theorem dX11_init_382 : decode cX11_init 382 = .ok (.newarray .boolean, 2) := by decide +kernel
theorem dX11_init_384 : decode cX11_init 384 = .ok (.putfield 146, 3) := by decide +kernel
theorem dX11_init_387 : decode cX11_init 387 = .ok (.aload_n 0, 1) := by decide +kernel
theorem dX11_init_388 : decode cX11_init 388 = .ok (.iconst 3, 1) := by decide +kernel
theorem dX11_init_389 : decode cX11_init 389 = .ok (.newarray .int, 2) := by decide +kernel
theorem dX11_init_391 : decode cX11_init 391 = .ok (.putfield 149, 3) := by decide +kernel
theorem dX11_init_394 : decode cX11_init 394 = .ok (.aload_n 0, 1) := by decide +kernel
theorem dX11_init_395 : decode cX11_init 395 = .ok (.bipush 18, 2) := by decide +kernel
theorem dX11_init_397 : decode cX11_init 397 = .ok (.newarray .int, 2) := by decide +kernel
theorem dX11_init_399 : decode cX11_init 399 = .ok (.putfield 152, 3) := by decide +kernel
theorem dX11_init_402 : decode cX11_init 402 = .ok (.aload_n 0, 1) := by decide +kernel
theorem dX11_init_403 : decode cX11_init 403 = .ok (.bipush 18, 2) := by decide +kernel
theorem dX11_init_405 : decode cX11_init 405 = .ok (.newarray .int, 2) := by decide +kernel
theorem dX11_init_407 : decode cX11_init 407 = .ok (.putfield 155, 3) := by decide +kernel
theorem dX11_init_410 : decode cX11_init 410 = .ok (.aload_n 0, 1) := by decide +kernel
theorem dX11_init_411 : decode cX11_init 411 = .ok (.invokevirtual 158, 3) := by decide +kernel
theorem dX11_init_414 : decode cX11_init 414 = .ok (.aload_n 0, 1) := by decide +kernel
theorem dX11_init_415 : decode cX11_init 415 = .ok (.invokevirtual 161, 3) := by decide +kernel
theorem dX11_init_418 : decode cX11_init 418 = .ok (.iconst 0, 1) := by decide +kernel
theorem dX11_init_419 : decode cX11_init 419 = .ok (.istore_n 1, 1) := by decide +kernel
theorem dX11_init_420 : decode cX11_init 420 = .ok (.iload_n 1, 1) := by decide +kernel
theorem dX11_init_421 : decode cX11_init 421 = .ok (.iconst 3, 1) := by decide +kernel
theorem dX11_init_422 : decode cX11_init 422 = .ok (.if_icmp .ge 16, 3) := by decide +kernel
theorem dX11_init_425 : decode cX11_init 425 = .ok (.aload_n 0, 1) := by decide +kernel
theorem dX11_init_426 : decode cX11_init 426 = .ok (.getfield 149, 3) := by decide +kernel
theorem dX11_init_429 : decode cX11_init 429 = .ok (.iload_n 1, 1) := by decide +kernel
theorem dX11_init_430 : decode cX11_init 430 = .ok (.iconst (-1), 1) := by decide +kernel
theorem dX11_init_431 : decode cX11_init 431 = .ok (.iastore, 1) := by decide +kernel
theorem dX11_init_432 : decode cX11_init 432 = .ok (.iinc 1 1, 3) := by decide +kernel
theorem dX11_init_435 : decode cX11_init 435 = .ok (.goto (-15), 3) := by decide +kernel
theorem dX11_init_438 : decode cX11_init 438 = .ok (.return_, 1) := by decide +kernel
theorem dX11_clearBank_0 : decode cX11_clearBank 0 = .ok (.aload_n 0, 1) := by decide +kernel
theorem dX11_clearBank_1 : decode cX11_clearBank 1 = .ok (.getfield 20, 3) := by decide +kernel
theorem dX11_clearBank_4 : decode cX11_clearBank 4 = .ok (.aload_n 0, 1) := by decide +kernel
theorem dX11_clearBank_5 : decode cX11_clearBank 5 = .ok (.getfield 227, 3) := by decide +kernel
theorem dX11_clearBank_8 : decode cX11_clearBank 8 = .ok (.iconst 0, 1) := by decide +kernel
theorem dX11_clearBank_9 : decode cX11_clearBank 9 = .ok (.iastore, 1) := by decide +kernel
theorem dX11_clearBank_10 : decode cX11_clearBank 10 = .ok (.aload_n 0, 1) := by decide +kernel
theorem dX11_clearBank_11 : decode cX11_clearBank 11 = .ok (.getfield 24, 3) := by decide +kernel
theorem dX11_clearBank_14 : decode cX11_clearBank 14 = .ok (.aload_n 0, 1) := by decide +kernel
theorem dX11_clearBank_15 : decode cX11_clearBank 15 = .ok (.getfield 227, 3) := by decide +kernel
theorem dX11_clearBank_18 : decode cX11_clearBank 18 = .ok (.iconst 0, 1) := by decide +kernel
theorem dX11_clearBank_19 : decode cX11_clearBank 19 = .ok (.iastore, 1) := by decide +kernel
theorem dX11_clearBank_20 : decode cX11_clearBank 20 = .ok (.aload_n 0, 1) := by decide +kernel
theorem dX11_clearBank_21 : decode cX11_clearBank 21 = .ok (.getfield 27, 3) := by decide +kernel
theorem dX11_clearBank_24 : decode cX11_clearBank 24 = .ok (.aload_n 0, 1) := by decide +kernel
theorem dX11_clearBank_25 : decode cX11_clearBank 25 = .ok (.getfield 227, 3) := by decide +kernel
theorem dX11_clearBank_28 : decode cX11_clearBank 28 = .ok (.iconst 0, 1) := by decide +kernel
theorem dX11_clearBank_29 : decode cX11_clearBank 29 = .ok (.iastore, 1) := by decide +kernel
theorem dX11_clearBank_30 : decode cX11_clearBank 30 = .ok (.aload_n 0, 1) := by decide +kernel
theorem dX11_clearBank_31 : decode cX11_clearBank 31 = .ok (.getfield 30, 3) := by decide +kernel
theorem dX11_clearBank_34 : decode cX11_clearBank 34 = .ok (.aload_n 0, 1) := by decide +kernel
theorem dX11_clearBank_35 : decode cX11_clearBank 35 = .ok (.getfield 227, 3) := by decide +kernel
theorem dX11_clearBank_38 : decode cX11_clearBank 38 = .ok (.iconst 0, 1) := by decide +kernel
theorem dX11_clearBank_39 : decode cX11_clearBank 39 = .ok (.iastore, 1) := by decide +kernel
theorem dX11_clearBank_40 : decode cX11_clearBank 40 = .ok (.aload_n 0, 1) := by decide +kernel
theorem dX11_clearBank_41 : decode cX11_clearBank 41 = .ok (.getfield 33, 3) := by decide +kernel
theorem dX11_clearBank_44 : decode cX11_clearBank 44 = .ok (.aload_n 0, 1) := by decide +kernel
theorem dX11_clearBank_45 : decode cX11_clearBank 45 = .ok (.getfield 227, 3) := by decide +kernel
theorem dX11_clearBank_48 : decode cX11_clearBank 48 = .ok (.iconst 3, 1) := by decide +kernel
theorem dX11_clearBank_49 : decode cX11_clearBank 49 = .ok (.iastore, 1) := by decide +kernel
theorem dX11_clearBank_50 : decode cX11_clearBank 50 = .ok (.aload_n 0, 1) := by decide +kernel
theorem dX11_clearBank_51 : decode cX11_clearBank 51 = .ok (.getfield 36, 3) := by decide +kernel
theorem dX11_clearBank_54 : decode cX11_clearBank 54 = .ok (.aload_n 0, 1) := by decide +kernel
theorem dX11_clearBank_55 : decode cX11_clearBank 55 = .ok (.getfield 227, 3) := by decide +kernel
theorem dX11_clearBank_58 : decode cX11_clearBank 58 = .ok (.iconst 0, 1) := by decide +kernel
theorem dX11_clearBank_59 : decode cX11_clearBank 59 = .ok (.iastore, 1) := by decide +kernel
theorem dX11_clearBank_60 : decode cX11_clearBank 60 = .ok (.aload_n 0, 1) := by decide +kernel
theorem dX11_clearBank_61 : decode cX11_clearBank 61 = .ok (.getfield 64, 3) := by decide +kernel
theorem dX11_clearBank_64 : decode cX11_clearBank 64 = .ok (.aload_n 0, 1) := by decide +kernel
theorem dX11_clearBank_65 : decode cX11_clearBank 65 = .ok (.getfield 227, 3) := by decide +kernel
theorem dX11_clearBank_68 : decode cX11_clearBank 68 = .ok (.iconst 0, 1) := by decide +kernel
theorem dX11_clearBank_69 : decode cX11_clearBank 69 = .ok (.bastore, 1) := by decide +kernel
theorem dX11_clearBank_70 : decode cX11_clearBank 70 = .ok (.bipush 64, 2) := by decide +kernel
theorem dX11_clearBank_72 : decode cX11_clearBank 72 = .ok (.aload_n 0, 1) := by decide +kernel
theorem dX11_clearBank_73 : decode cX11_clearBank 73 = .ok (.getfield 227, 3) := by decide +kernel
theorem dX11_clearBank_76 : decode cX11_clearBank 76 = .ok (.imul, 1) := by decide +kernel
theorem dX11_clearBank_77 : decode cX11_clearBank 77 = .ok (.istore_n 1, 1) := by decide +kernel
theorem dX11_clearBank_78 : decode cX11_clearBank 78 = .ok (.iload_n 1, 1) := by decide +kernel
theorem dX11_clearBank_79 : decode cX11_clearBank 79 = .ok (.bipush 64, 2) := by decide +kernel
theorem dX11_clearBank_81 : decode cX11_clearBank 81 = .ok (.aload_n 0, 1) := by decide +kernel
theorem dX11_clearBank_82 : decode cX11_clearBank 82 = .ok (.getfield 227, 3) := by decide +kernel
theorem dX11_clearBank_85 : decode cX11_clearBank 85 = .ok (.imul, 1) := by decide +kernel
theorem dX11_clearBank_86 : decode cX11_clearBank 86 = .ok (.bipush 64, 2) := by decide +kernel
theorem dX11_clearBank_88 : decode cX11_clearBank 88 = .ok (.iadd, 1) := by decide +kernel
theorem dX11_clearBank_89 : decode cX11_clearBank 89 = .ok (.if_icmp .ge 16, 3) := by decide +kernel
theorem dX11_clearBank_92 : decode cX11_clearBank 92 = .ok (.aload_n 0, 1) := by decide +kernel
theorem dX11_clearBank_93 : decode cX11_clearBank 93 = .ok (.getfield 60, 3) := by decide +kernel
theorem dX11_clearBank_96 : decode cX11_clearBank 96 = .ok (.iload_n 1, 1) := by decide +kernel
theorem dX11_clearBank_97 : decode cX11_clearBank 97 = .ok (.iconst 0, 1) := by decide +kernel
theorem dX11_clearBank_98 : decode cX11_clearBank 98 = .ok (.bastore, 1) := by decide +kernel
theorem dX11_clearBank_99 : decode cX11_clearBank 99 = .ok (.iinc 1 1, 3) := by decide +kernel
theorem dX11_clearBank_102 : decode cX11_clearBank 102 = .ok (.goto (-24), 3) := by decide +kernel
theorem dX11_clearBank_105 : decode cX11_clearBank 105 = .ok (.return_, 1) := by decide +kernel
theorem dX11_toldTurn_0 : decode cX11_toldTurn 0 = .ok (.aload_n 0, 1) := by decide +kernel
theorem dX11_toldTurn_1 : decode cX11_toldTurn 1 = .ok (.getfield 36, 3) := by decide +kernel
theorem dX11_toldTurn_4 : decode cX11_toldTurn 4 = .ok (.aload_n 0, 1) := by decide +kernel
theorem dX11_toldTurn_5 : decode cX11_toldTurn 5 = .ok (.getfield 233, 3) := by decide +kernel
theorem dX11_toldTurn_8 : decode cX11_toldTurn 8 = .ok (.iaload, 1) := by decide +kernel
theorem dX11_toldTurn_9 : decode cX11_toldTurn 9 = .ok (.ifCond .ne 9, 3) := by decide +kernel
theorem dX11_toldTurn_12 : decode cX11_toldTurn 12 = .ok (.iload_n 1, 1) := by decide +kernel
theorem dX11_toldTurn_13 : decode cX11_toldTurn 13 = .ok (.iconst 3, 1) := by decide +kernel
theorem dX11_toldTurn_14 : decode cX11_toldTurn 14 = .ok (.irem, 1) := by decide +kernel
theorem dX11_toldTurn_15 : decode cX11_toldTurn 15 = .ok (.goto 27, 3) := by decide +kernel
theorem dX11_toldTurn_42 : decode cX11_toldTurn 42 = .ok (.ireturn, 1) := by decide +kernel
set_option maxRecDepth 20000 in
theorem ggX11_begin_X11_toldTurn : GoodIn wsX11_begin wsX11_toldTurn := goodIn_r _ [9, 10, 11, 12, 13, 14, 15, 16, 17, 18, 19, 20, 21, 22, 23, 24, 25, 26, 27, 28, 29, 30, 31, 32, 33, 34, 35, 36, 37, 38, 39, 40, 41, 42, 43, 44, 45, 46, 47, 48, 49, 50, 51, 52, 53, 54, 55, 56, 57, 58, 59, 60, 61, 62, 63, 64, 65, 66, 67, 68, 69, 70, 71, 72, 73, 74, 75, 76, 77, 78, 79, 80, 81, 82, 83] (by decide +kernel) (by decide +kernel)
set_option maxRecDepth 20000 in
theorem gX11_begin_X11_toldTurn : GoodIn wsX11_begin (wsV RX11 345 RX11 yX11_toldTurn wsX11_toldTurn) := goodIn_app (goodIn_of _ (by decide +kernel)) ggX11_begin_X11_toldTurn
theorem dX11_begin_0 : decode cX11_begin 0 = .ok (.aload_n 0, 1) := by decide +kernel
theorem dX11_begin_1 : decode cX11_begin 1 = .ok (.iconst 0, 1) := by decide +kernel
theorem dX11_begin_2 : decode cX11_begin 2 = .ok (.putfield 336, 3) := by decide +kernel
theorem dX11_begin_5 : decode cX11_begin 5 = .ok (.aload_n 0, 1) := by decide +kernel
theorem dX11_begin_6 : decode cX11_begin 6 = .ok (.iconst 0, 1) := by decide +kernel
theorem dX11_begin_7 : decode cX11_begin 7 = .ok (.putfield 339, 3) := by decide +kernel
theorem dX11_begin_10 : decode cX11_begin 10 = .ok (.aload_n 0, 1) := by decide +kernel
theorem dX11_begin_11 : decode cX11_begin 11 = .ok (.iconst 0, 1) := by decide +kernel
theorem dX11_begin_12 : decode cX11_begin 12 = .ok (.putfield 342, 3) := by decide +kernel
theorem dX11_begin_15 : decode cX11_begin 15 = .ok (.iconst 0, 1) := by decide +kernel
theorem dX11_begin_16 : decode cX11_begin 16 = .ok (.istore_n 1, 1) := by decide +kernel
theorem dX11_begin_17 : decode cX11_begin 17 = .ok (.iload_n 1, 1) := by decide +kernel
theorem dX11_begin_18 : decode cX11_begin 18 = .ok (.bipush 6, 2) := by decide +kernel
theorem dX11_begin_20 : decode cX11_begin 20 = .ok (.if_icmp .ge 20, 3) := by decide +kernel
theorem dX11_begin_23 : decode cX11_begin 23 = .ok (.aload_n 0, 1) := by decide +kernel
theorem dX11_begin_24 : decode cX11_begin 24 = .ok (.getfield 95, 3) := by decide +kernel
theorem dX11_begin_27 : decode cX11_begin 27 = .ok (.iload_n 1, 1) := by decide +kernel
theorem dX11_begin_28 : decode cX11_begin 28 = .ok (.aload_n 0, 1) := by decide +kernel
theorem dX11_begin_29 : decode cX11_begin 29 = .ok (.iload_n 1, 1) := by decide +kernel
theorem dX11_begin_30 : decode cX11_begin 30 = .ok (.invokevirtual 345, 3) := by decide +kernel
theorem dX11_begin_33 : decode cX11_begin 33 = .ok (.iastore, 1) := by decide +kernel
theorem dX11_begin_34 : decode cX11_begin 34 = .ok (.iinc 1 1, 3) := by decide +kernel
theorem dX11_begin_37 : decode cX11_begin 37 = .ok (.goto (-20), 3) := by decide +kernel
theorem dX11_begin_40 : decode cX11_begin 40 = .ok (.return_, 1) := by decide +kernel
set_option maxRecDepth 20000 in
theorem ggJ0_length_8abf5_J0_coder_7d493 : GoodIn wsJ0_length_8abf5 wsJ0_coder_7d493 := goodIn_r _ [6, 7, 8] (by decide +kernel) (by decide +kernel)
set_option maxRecDepth 20000 in
theorem gJ0_length_8abf5_J0_coder_7d493 : GoodIn wsJ0_length_8abf5 (wsV RJ0 335 RJ0 yJ0_coder_7d493 wsJ0_coder_7d493) := goodIn_app (goodIn_of _ (by decide +kernel)) ggJ0_length_8abf5_J0_coder_7d493
theorem dJ0_length_8abf5_0 : decode cJ0_length_8abf5 0 = .ok (.aload_n 0, 1) := by decide +kernel
theorem dJ0_length_8abf5_1 : decode cJ0_length_8abf5 1 = .ok (.getfield 9, 3) := by decide +kernel
theorem dJ0_length_8abf5_4 : decode cJ0_length_8abf5 4 = .ok (.arraylength, 1) := by decide +kernel
theorem dJ0_length_8abf5_5 : decode cJ0_length_8abf5 5 = .ok (.aload_n 0, 1) := by decide +kernel
theorem dJ0_length_8abf5_6 : decode cJ0_length_8abf5 6 = .ok (.invokevirtual 335, 3) := by decide +kernel
theorem dJ0_length_8abf5_9 : decode cJ0_length_8abf5 9 = .ok (.ishr, 1) := by decide +kernel
theorem dJ0_length_8abf5_10 : decode cJ0_length_8abf5 10 = .ok (.ireturn, 1) := by decide +kernel
set_option maxRecDepth 20000 in
theorem ggJ0_charAt_5068e_J0_isLatin1_aae02 : GoodIn wsJ0_charAt_5068e wsJ0_isLatin1_aae02 := goodIn_r _ [6, 7, 8] (by decide +kernel) (by decide +kernel)
set_option maxRecDepth 20000 in
theorem gJ0_charAt_5068e_J0_isLatin1_aae02 : GoodIn wsJ0_charAt_5068e (wsV RJ0 492 RJ0 yJ0_isLatin1_aae02 wsJ0_isLatin1_aae02) := goodIn_app (goodIn_of _ (by decide +kernel)) ggJ0_charAt_5068e_J0_isLatin1_aae02
set_option maxRecDepth 20000 in
theorem ggJ0_charAt_5068e_J1_charAt_3b067 : GoodIn wsJ0_charAt_5068e wsJ1_charAt_3b067 := goodIn_r _ [12, 13, 14, 5, 15, 16, 17, 18, 19, 20] (by decide +kernel) (by decide +kernel)
set_option maxRecDepth 20000 in
theorem gJ0_charAt_5068e_J1_charAt_3b067 : GoodIn wsJ0_charAt_5068e (va_wsS RJ0 495 yJ1_charAt_3b067 wsJ1_charAt_3b067) := goodIn_app (goodIn_of _ (by decide +kernel)) ggJ0_charAt_5068e_J1_charAt_3b067
theorem dJ0_charAt_5068e_0 : decode cJ0_charAt_5068e 0 = .ok (.aload_n 0, 1) := by decide +kernel
theorem dJ0_charAt_5068e_1 : decode cJ0_charAt_5068e 1 = .ok (.invokevirtual 492, 3) := by decide +kernel
theorem dJ0_charAt_5068e_4 : decode cJ0_charAt_5068e 4 = .ok (.ifCond .eq 12, 3) := by decide +kernel
theorem dJ0_charAt_5068e_7 : decode cJ0_charAt_5068e 7 = .ok (.aload_n 0, 1) := by decide +kernel
theorem dJ0_charAt_5068e_8 : decode cJ0_charAt_5068e 8 = .ok (.getfield 9, 3) := by decide +kernel
theorem dJ0_charAt_5068e_11 : decode cJ0_charAt_5068e 11 = .ok (.iload_n 1, 1) := by decide +kernel
theorem dJ0_charAt_5068e_12 : decode cJ0_charAt_5068e 12 = .ok (.invokestatic 495, 3) := by decide +kernel
theorem dJ0_charAt_5068e_15 : decode cJ0_charAt_5068e 15 = .ok (.ireturn, 1) := by decide +kernel
theorem dJ0_coder_7d493_0 : decode cJ0_coder_7d493 0 = .ok (.getstatic 38, 3) := by decide +kernel
theorem dJ0_coder_7d493_3 : decode cJ0_coder_7d493 3 = .ok (.ifCond .eq 10, 3) := by decide +kernel
theorem dJ0_coder_7d493_6 : decode cJ0_coder_7d493 6 = .ok (.aload_n 0, 1) := by decide +kernel
theorem dJ0_coder_7d493_7 : decode cJ0_coder_7d493 7 = .ok (.getfield 15, 3) := by decide +kernel
theorem dJ0_coder_7d493_10 : decode cJ0_coder_7d493 10 = .ok (.goto 4, 3) := by decide +kernel
theorem dJ0_coder_7d493_14 : decode cJ0_coder_7d493 14 = .ok (.ireturn, 1) := by decide +kernel
theorem dJ0_isLatin1_aae02_0 : decode cJ0_isLatin1_aae02 0 = .ok (.getstatic 38, 3) := by decide +kernel
theorem dJ0_isLatin1_aae02_3 : decode cJ0_isLatin1_aae02 3 = .ok (.ifCond .eq 14, 3) := by decide +kernel
theorem dJ0_isLatin1_aae02_6 : decode cJ0_isLatin1_aae02 6 = .ok (.aload_n 0, 1) := by decide +kernel
theorem dJ0_isLatin1_aae02_7 : decode cJ0_isLatin1_aae02 7 = .ok (.getfield 15, 3) := by decide +kernel
theorem dJ0_isLatin1_aae02_10 : decode cJ0_isLatin1_aae02 10 = .ok (.ifCond .ne 7, 3) := by decide +kernel
theorem dJ0_isLatin1_aae02_13 : decode cJ0_isLatin1_aae02 13 = .ok (.iconst 1, 1) := by decide +kernel
theorem dJ0_isLatin1_aae02_14 : decode cJ0_isLatin1_aae02 14 = .ok (.goto 4, 3) := by decide +kernel
theorem dJ0_isLatin1_aae02_18 : decode cJ0_isLatin1_aae02 18 = .ok (.ireturn, 1) := by decide +kernel
set_option maxRecDepth 20000 in
theorem ggJ0_checkIndex_df160_J3_checkIndex_8e157 : GoodIn wsJ0_checkIndex_df160 wsJ3_checkIndex_8e157 := goodIn_r _ [5] (by decide +kernel) (by decide +kernel)
set_option maxRecDepth 20000 in
theorem gJ0_checkIndex_df160_J3_checkIndex_8e157 : GoodIn wsJ0_checkIndex_df160 (va_wsS RJ0 1059 yJ3_checkIndex_8e157 wsJ3_checkIndex_8e157) := goodIn_app (goodIn_of _ (by decide +kernel)) ggJ0_checkIndex_df160_J3_checkIndex_8e157
theorem dJ0_checkIndex_df160_0 : decode cJ0_checkIndex_df160 0 = .ok (.iload_n 0, 1) := by decide +kernel
theorem dJ0_checkIndex_df160_1 : decode cJ0_checkIndex_df160 1 = .ok (.iload_n 1, 1) := by decide +kernel
theorem dJ0_checkIndex_df160_2 : decode cJ0_checkIndex_df160 2 = .ok (.getstatic 1053, 3) := by decide +kernel
theorem dJ0_checkIndex_df160_5 : decode cJ0_checkIndex_df160 5 = .ok (.invokestatic 1059, 3) := by decide +kernel
theorem dJ0_checkIndex_df160_8 : decode cJ0_checkIndex_df160 8 = .ok (.pop, 1) := by decide +kernel
theorem dJ0_checkIndex_df160_9 : decode cJ0_checkIndex_df160 9 = .ok (.return_, 1) := by decide +kernel
set_option maxRecDepth 20000 in
theorem ggJ1_charAt_3b067_J0_checkIndex_df160 : GoodIn wsJ1_charAt_3b067 wsJ0_checkIndex_df160 := goodIn_r _ [4, 5, 6, 7, 8, 9] (by decide +kernel) (by decide +kernel)
set_option maxRecDepth 20000 in
theorem gJ1_charAt_3b067_J0_checkIndex_df160 : GoodIn wsJ1_charAt_3b067 (va_wsS RJ1 9 yJ0_checkIndex_df160 wsJ0_checkIndex_df160) := goodIn_app (goodIn_of _ (by decide +kernel)) ggJ1_charAt_3b067_J0_checkIndex_df160
theorem dJ1_charAt_3b067_0 : decode cJ1_charAt_3b067 0 = .ok (.iload_n 1, 1) := by decide +kernel
theorem dJ1_charAt_3b067_1 : decode cJ1_charAt_3b067 1 = .ok (.aload_n 0, 1) := by decide +kernel
theorem dJ1_charAt_3b067_2 : decode cJ1_charAt_3b067 2 = .ok (.arraylength, 1) := by decide +kernel
theorem dJ1_charAt_3b067_3 : decode cJ1_charAt_3b067 3 = .ok (.invokestatic 9, 3) := by decide +kernel
theorem dJ1_charAt_3b067_6 : decode cJ1_charAt_3b067 6 = .ok (.aload_n 0, 1) := by decide +kernel
theorem dJ1_charAt_3b067_7 : decode cJ1_charAt_3b067 7 = .ok (.iload_n 1, 1) := by decide +kernel
theorem dJ1_charAt_3b067_8 : decode cJ1_charAt_3b067 8 = .ok (.baload, 1) := by decide +kernel
theorem dJ1_charAt_3b067_9 : decode cJ1_charAt_3b067 9 = .ok (.sipush 255, 3) := by decide +kernel
theorem dJ1_charAt_3b067_12 : decode cJ1_charAt_3b067 12 = .ok (.iand, 1) := by decide +kernel
theorem dJ1_charAt_3b067_13 : decode cJ1_charAt_3b067 13 = .ok (.i2c, 1) := by decide +kernel
theorem dJ1_charAt_3b067_14 : decode cJ1_charAt_3b067 14 = .ok (.ireturn, 1) := by decide +kernel
theorem dJ7_fill_53178_0 : decode cJ7_fill_53178 0 = .ok (.iconst 0, 1) := by decide +kernel
theorem dJ7_fill_53178_1 : decode cJ7_fill_53178 1 = .ok (.istore_n 2, 1) := by decide +kernel
theorem dJ7_fill_53178_2 : decode cJ7_fill_53178 2 = .ok (.aload_n 0, 1) := by decide +kernel
theorem dJ7_fill_53178_3 : decode cJ7_fill_53178 3 = .ok (.arraylength, 1) := by decide +kernel
theorem dJ7_fill_53178_4 : decode cJ7_fill_53178 4 = .ok (.istore_n 3, 1) := by decide +kernel
theorem dJ7_fill_53178_5 : decode cJ7_fill_53178 5 = .ok (.iload_n 2, 1) := by decide +kernel
theorem dJ7_fill_53178_6 : decode cJ7_fill_53178 6 = .ok (.iload_n 3, 1) := by decide +kernel
theorem dJ7_fill_53178_7 : decode cJ7_fill_53178 7 = .ok (.if_icmp .ge 13, 3) := by decide +kernel
theorem dJ7_fill_53178_10 : decode cJ7_fill_53178 10 = .ok (.aload_n 0, 1) := by decide +kernel
theorem dJ7_fill_53178_11 : decode cJ7_fill_53178 11 = .ok (.iload_n 2, 1) := by decide +kernel
theorem dJ7_fill_53178_12 : decode cJ7_fill_53178 12 = .ok (.iload_n 1, 1) := by decide +kernel
theorem dJ7_fill_53178_13 : decode cJ7_fill_53178 13 = .ok (.iastore, 1) := by decide +kernel
theorem dJ7_fill_53178_14 : decode cJ7_fill_53178 14 = .ok (.iinc 2 1, 3) := by decide +kernel
theorem dJ7_fill_53178_17 : decode cJ7_fill_53178 17 = .ok (.goto (-12), 3) := by decide +kernel
theorem dJ7_fill_53178_20 : decode cJ7_fill_53178 20 = .ok (.return_, 1) := by decide +kernel
theorem dJ3_checkIndex_8e157_0 : decode cJ3_checkIndex_8e157 0 = .ok (.iload_n 0, 1) := by decide +kernel
theorem dJ3_checkIndex_8e157_1 : decode cJ3_checkIndex_8e157 1 = .ok (.ifCond .lt 8, 3) := by decide +kernel
theorem dJ3_checkIndex_8e157_4 : decode cJ3_checkIndex_8e157 4 = .ok (.iload_n 0, 1) := by decide +kernel
theorem dJ3_checkIndex_8e157_5 : decode cJ3_checkIndex_8e157 5 = .ok (.iload_n 1, 1) := by decide +kernel
theorem dJ3_checkIndex_8e157_6 : decode cJ3_checkIndex_8e157 6 = .ok (.if_icmp .lt 10, 3) := by decide +kernel
theorem dJ3_checkIndex_8e157_16 : decode cJ3_checkIndex_8e157 16 = .ok (.iload_n 0, 1) := by decide +kernel
theorem dJ3_checkIndex_8e157_17 : decode cJ3_checkIndex_8e157 17 = .ok (.ireturn, 1) := by decide +kernel
