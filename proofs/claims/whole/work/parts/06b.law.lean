def wsL_about_r1 : List Cond := [Cond.classLink RL 13 "java/util/NoSuchElementException", Cond.methodLink RL 7 yX9_about, Cond.instanceMethod yX9_about, Cond.selects RX9 yX9_about yX9_about, Cond.initialized RX9, Cond.code yX9_about cX9_about 3 (some .int), Cond.classLink RX9 195 "java/util/NoSuchElementException", Cond.initialized "java/util/NoSuchElementException", Cond.fieldLink RX9 46 "LawNumberer" "items" "LLawNumberer$Items;", Cond.fieldLink RX9 113 "LawNumberer$Items" "levels" "[I", Cond.fieldLink RX9 162 "LawNumberer$Items" "under" "[I", Cond.fieldLink RX9 151 "LawNumberer$Items" "struck" "[Z", Cond.fieldLink RX9 22 "LawNumberer" "scheme" "LLawNumberer$Levels;", Cond.fieldLink RX9 209 "LawNumberer$Items" "came" "[I", Cond.methodLink RX9 148 yX3_has, Cond.instanceMethod yX3_has, Cond.selects RX3 yX3_has yX3_has, Cond.initialized RX3, Cond.code yX3_has cX3_has 2 (some .boolean), Cond.fieldLink RX3 28 "LawNumberer$Items" "size" "I", Cond.methodLink RX9 120 yX6_isThrough, Cond.instanceMethod yX6_isThrough, Cond.selects RX6 yX6_isThrough yX6_isThrough, Cond.initialized RX6]
def wsL_about_r2 : List Cond := [Cond.code yX6_isThrough cX6_isThrough 2 (some .boolean), Cond.fieldLink RX6 19 "LawNumberer$Levels" "size" "I", Cond.fieldLink RX6 15 "LawNumberer$Levels" "through" "[Z", Cond.methodLink RX9 202 yX3_placeInRow, Cond.instanceMethod yX3_placeInRow, Cond.selects RX3 yX3_placeInRow yX3_placeInRow, Cond.code yX3_placeInRow cX3_placeInRow 6 (some .int), Cond.fieldLink RX3 25 "LawNumberer$Items" "order" "[I", Cond.fieldLink RX3 9 "LawNumberer$Items" "levels" "[I", Cond.fieldLink RX3 15 "LawNumberer$Items" "under" "[I", Cond.methodLink RX3 39 yX3_placeOf, Cond.instanceMethod yX3_placeOf, Cond.selects RX3 yX3_placeOf yX3_placeOf, Cond.code yX3_placeOf cX3_placeOf 3 (some .int), Cond.methodLink RX3 43 yX3_isInRow, Cond.instanceMethod yX3_isInRow, Cond.selects RX3 yX3_isInRow yX3_isInRow, Cond.code yX3_isInRow cX3_isInRow 5 (some .boolean), Cond.methodLink RX3 35 yX3_has, Cond.methodLink RX9 206 yX3_placeOf]
def wsL_about : List Cond := .codeWith yL_about cL_about 5 (some .int) [(0, 10, 13, 13)] :: ((wsL_about_r1 ++ wsL_about_r2) ++ wsX90 ++ wsX30 ++ wsX60 ++ (vx_atS RX9 199 "java/util/NoSuchElementException" ["java/lang/RuntimeException", "java/lang/Exception"]).filter goodWord)
def wsL_octet : List Cond := .codeWith yL_octet cL_octet 4 (some .int) [(0, 9, 12, 13)] :: ([.classLink RL 13 "java/util/NoSuchElementException", .methodLink RL 15 yX9_octet, .instanceMethod yX9_octet, .selects RX9 yX9_octet yX9_octet, .initialized RX9, .code yX9_octet cX9_octet 2 (some .int), .classLink RX9 195 "java/util/NoSuchElementException", .initialized "java/util/NoSuchElementException", .fieldLink RX9 16 "LawNumberer" "out" "LLawNumberer$Text;", .fieldLink RX9 78 "LawNumberer$Text" "length" "I", .methodLink RX9 231 yX8_byteAt, .instanceMethod yX8_byteAt, .selects RX8 yX8_byteAt yX8_byteAt, .initialized RX8, .code yX8_byteAt cX8_byteAt 2 (some .int), .fieldLink RX8 15 "LawNumberer$Text" "length" "I", .fieldLink RX8 9 "LawNumberer$Text" "bytes" "[I"] ++ wsX90 ++ wsX80 ++ (vx_atS RX9 199 "java/util/NoSuchElementException" ["java/lang/RuntimeException", "java/lang/Exception"]).filter goodWord)
def wsL_law0_r1 : List Cond := [Cond.classLink RL 8 RX9, Cond.instantiable RX9 15, Cond.initialized RX9, Cond.classLink RL 20 RX10, Cond.instantiable RX10 42, Cond.initialized RX10, Cond.arrayClass .long, Cond.methodLink RL 19 yX9_init, Cond.instanceMethod yX9_init, Cond.code yX9_init cX9_init 1 none, Cond.methodLink RX9 1 objectInit, Cond.instanceMethod objectInit, Cond.code objectInit ⟨#[0xb1]⟩ 1 none, Cond.classLink RX9 7 RX8, Cond.instantiable RX8 2, Cond.initialized RX8, Cond.fieldLink RX9 10 "LawNumberer" "tape" "LLawNumberer$Text;", Cond.fieldLink RX9 16 "LawNumberer" "out" "LLawNumberer$Text;", Cond.classLink RX9 19 RX6, Cond.instantiable RX6 3, Cond.initialized RX6, Cond.fieldLink RX9 22 "LawNumberer" "scheme" "LLawNumberer$Levels;", Cond.fieldLink RX9 26 "LawNumberer" "told" "LLawNumberer$Levels;", Cond.classLink RX9 29 RX7]
def wsL_law0_r2 : List Cond := [Cond.instantiable RX7 3, Cond.initialized RX7, Cond.fieldLink RX9 32 "LawNumberer" "levelsReader" "LLawNumberer$LevelsReader;", Cond.classLink RX9 36 RX4, Cond.instantiable RX4 5, Cond.initialized RX4, Cond.fieldLink RX9 39 "LawNumberer" "labelReader" "LLawNumberer$LabelReader;", Cond.classLink RX9 43 RX3, Cond.instantiable RX3 7, Cond.initialized RX3, Cond.fieldLink RX9 46 "LawNumberer" "items" "LLawNumberer$Items;", Cond.classLink RX9 50 RX2, Cond.instantiable RX2 6, Cond.initialized RX2, Cond.fieldLink RX9 53 "LawNumberer" "history" "LLawNumberer$History;", Cond.classLink RX9 57 RX0, Cond.instantiable RX0 5, Cond.initialized RX0, Cond.fieldLink RX9 60 "LawNumberer" "acts" "LLawNumberer$Acts;", Cond.arrayClass .int, Cond.fieldLink RX9 64 "LawNumberer" "path" "[I", Cond.fieldLink RX9 68 "LawNumberer$Levels" "forms" "[I", Cond.fieldLink RX9 71 "LawNumberer$Levels" "size" "I", Cond.fieldLink RX9 75 "LawNumberer" "faultPlace" "I"]
def wsL_law0_r3 : List Cond := [Cond.instanceMethod yX8_init, Cond.code yX8_init cX8_init 1 none, Cond.methodLink RX8 3 objectInit, Cond.fieldLink RX8 9 "LawNumberer$Text" "bytes" "[I", Cond.instanceMethod yX6_init, Cond.code yX6_init cX6_init 1 none, Cond.methodLink RX6 3 objectInit, Cond.fieldLink RX6 9 "LawNumberer$Levels" "forms" "[I", Cond.arrayClass .boolean, Cond.fieldLink RX6 15 "LawNumberer$Levels" "through" "[Z", Cond.instanceMethod yX7_init, Cond.code yX7_init cX7_init 1 none, Cond.methodLink RX7 3 objectInit, Cond.instanceMethod yX4_init, Cond.code yX4_init cX4_init 1 none, Cond.methodLink RX4 3 objectInit, Cond.classLink RX4 9 RX8, Cond.fieldLink RX4 12 "LawNumberer$LabelReader" "written" "LLawNumberer$Text;", Cond.instanceMethod yX3_init, Cond.code yX3_init cX3_init 1 none, Cond.methodLink RX3 3 objectInit, Cond.fieldLink RX3 9 "LawNumberer$Items" "levels" "[I", Cond.fieldLink RX3 15 "LawNumberer$Items" "under" "[I", Cond.fieldLink RX3 18 "LawNumberer$Items" "came" "[I"]
def wsL_law0_r4 : List Cond := [Cond.fieldLink RX3 21 "LawNumberer$Items" "struck" "[Z", Cond.fieldLink RX3 25 "LawNumberer$Items" "order" "[I", Cond.methodLink RX9 52 yX2_init, Cond.instanceMethod yX2_init, Cond.code yX2_init cX2_init 1 none, Cond.methodLink RX2 3 objectInit, Cond.fieldLink RX2 11 "LawNumberer$History" "givenTo" "[I", Cond.fieldLink RX2 15 "LawNumberer$History" "days" "[I", Cond.fieldLink RX2 18 "LawNumberer$History" "labels" "[I", Cond.fieldLink RX2 21 "LawNumberer$History" "earlier" "[I", Cond.fieldLink RX2 24 "LawNumberer$History" "last" "[I", Cond.methodLink RX2 27 yJ7_fill_53178, Cond.static yJ7_fill_53178, Cond.initialized RJ7, Cond.code yJ7_fill_53178 cJ7_fill_53178 4 none, Cond.instanceMethod yX0_init, Cond.code yX0_init cX0_init 1 none, Cond.methodLink RX0 3 objectInit, Cond.fieldLink RX0 9 "LawNumberer$Acts" "kinds" "[I", Cond.fieldLink RX0 15 "LawNumberer$Acts" "actItems" "[I", Cond.fieldLink RX0 18 "LawNumberer$Acts" "marks" "[I", Cond.methodLink RL 22 yX10_init, Cond.instanceMethod yX10_init, Cond.code yX10_init cX10_init 1 none]
def wsL_law0_r5 : List Cond := [Cond.methodLink RX10 1 objectInit, Cond.arrayClass .byte, Cond.fieldLink RX10 7 "LawNumbererModel" "tape" "[B", Cond.fieldLink RX10 13 "LawNumbererModel" "form" "[I", Cond.fieldLink RX10 17 "LawNumbererModel" "newForm" "[I", Cond.fieldLink RX10 20 "LawNumbererModel" "through" "[Z", Cond.fieldLink RX10 24 "LawNumbererModel" "newThrough" "[Z", Cond.fieldLink RX10 27 "LawNumbererModel" "levels" "I", Cond.fieldLink RX10 31 "LawNumbererModel" "place" "I", Cond.fieldLink RX10 34 "LawNumbererModel" "level" "[I", Cond.fieldLink RX10 37 "LawNumbererModel" "up" "[I", Cond.fieldLink RX10 40 "LawNumbererModel" "came" "[I", Cond.fieldLink RX10 43 "LawNumbererModel" "order" "[I", Cond.fieldLink RX10 46 "LawNumbererModel" "struck" "[Z", Cond.constant RX10 49 (165000), Cond.fieldLink RX10 50 "LawNumbererModel" "changed" "[I", Cond.fieldLink RX10 53 "LawNumbererModel" "changedOn" "[I", Cond.fieldLink RX10 56 "LawNumbererModel" "changedTo" "[I", Cond.fieldLink RX10 59 "LawNumbererModel" "actKind" "[I", Cond.fieldLink RX10 62 "LawNumbererModel" "actItem" "[I", Cond.fieldLink RX10 65 "LawNumbererModel" "actFrom" "[I", Cond.fieldLink RX10 68 "LawNumbererModel" "hand" "[I", Cond.fieldLink RX10 71 "LawNumbererModel" "out" "[B", Cond.fieldLink RX10 74 "LawNumbererModel" "worth" "[I"]
def wsL_law0_r6 : List Cond := [Cond.fieldLink RX10 77 "LawNumbererModel" "sign" "[I", Cond.fieldLink RX10 80 "LawNumbererModel" "again" "[B", Cond.fieldLink RX10 83 "LawNumbererModel" "wanted" "[I", Cond.methodLink RL 23 yX9_feed, Cond.instanceMethod yX9_feed, Cond.selects RX9 yX9_feed yX9_feed, Cond.code yX9_feed cX9_feed 6 (some .int), Cond.fieldLink RX9 78 "LawNumberer$Text" "length" "I", Cond.methodLink RX9 81 yX8_putFour, Cond.instanceMethod yX8_putFour, Cond.selects RX8 yX8_putFour yX8_putFour, Cond.code yX8_putFour cX8_putFour 2 none, Cond.methodLink RX8 19 yX8_put, Cond.instanceMethod yX8_put, Cond.selects RX8 yX8_put yX8_put, Cond.code yX8_put cX8_put 2 none, Cond.fieldLink RX8 15 "LawNumberer$Text" "length" "I", Cond.methodLink RL 27 yX10_feed, Cond.instanceMethod yX10_feed, Cond.selects RX10 yX10_feed yX10_feed, Cond.code yX10_feed cX10_feed 6 (some .int), Cond.fieldLink RX10 86 "LawNumbererModel" "thrown" "I", Cond.fieldLink RX10 89 "LawNumbererModel" "length" "I", Cond.methodLink RX10 92 yX10_four]
def wsL_law0_r7 : List Cond := [Cond.instanceMethod yX10_four, Cond.selects RX10 yX10_four yX10_four, Cond.code yX10_four cX10_four 3 none, Cond.methodLink RL 28 yX9_end, Cond.instanceMethod yX9_end, Cond.selects RX9 yX9_end yX9_end, Cond.code yX9_end cX9_end 2 (some .boolean), Cond.methodLink RL 32 yX10_end, Cond.instanceMethod yX10_end, Cond.selects RX10 yX10_end yX10_end, Cond.code yX10_end cX10_end 2 (some .boolean), Cond.methodLink RL 33 yX9_levels, Cond.instanceMethod yX9_levels, Cond.selects RX9 yX9_levels yX9_levels, Cond.code yX9_levels cX9_levels 1 (some .int), Cond.fieldLink RX9 89 "LawNumberer$LevelsReader" "fault" "I", Cond.fieldLink RX9 92 "LawNumberer" "faultKind" "I", Cond.fieldLink RX9 95 "LawNumberer$LevelsReader" "faultPlace" "I", Cond.fieldLink RX9 105 "LawNumberer" "today" "I", Cond.methodLink RX9 85 yX7_readInto, Cond.instanceMethod yX7_readInto, Cond.selects RX7 yX7_readInto yX7_readInto, Cond.code yX7_readInto cX7_readInto 6 none, Cond.fieldLink RX7 9 "LawNumberer$Levels" "size" "I"]
def wsL_law0_r8 : List Cond := [Cond.fieldLink RX7 15 "LawNumberer$LevelsReader" "fault" "I", Cond.fieldLink RX7 20 "LawNumberer$LevelsReader" "faultPlace" "I", Cond.fieldLink RX7 23 "LawNumberer$LevelsReader" "due" "I", Cond.fieldLink RX7 26 "LawNumberer$Text" "length" "I", Cond.methodLink RX7 31 yX8_byteAt, Cond.instanceMethod yX8_byteAt, Cond.selects RX8 yX8_byteAt yX8_byteAt, Cond.code yX8_byteAt cX8_byteAt 2 (some .int), Cond.methodLink RX7 35 yX7_takeSemicolon, Cond.instanceMethod yX7_takeSemicolon, Cond.selects RX7 yX7_takeSemicolon yX7_takeSemicolon, Cond.code yX7_takeSemicolon cX7_takeSemicolon 2 none, Cond.methodLink RX7 51 yX7_failAt, Cond.instanceMethod yX7_failAt, Cond.selects RX7 yX7_failAt yX7_failAt, Cond.code yX7_failAt cX7_failAt 3 none, Cond.methodLink RX7 39 yX7_isSmallLetter, Cond.static yX7_isSmallLetter, Cond.code yX7_isSmallLetter cX7_isSmallLetter 1 (some .boolean), Cond.methodLink RX7 43 yX7_wordEnd, Cond.static yX7_wordEnd, Cond.code yX7_wordEnd cX7_wordEnd 3 (some .int), Cond.methodLink RX7 47 yX7_takeWord, Cond.instanceMethod yX7_takeWord]
def wsL_law0_r9 : List Cond := [Cond.selects RX7 yX7_takeWord yX7_takeWord, Cond.code yX7_takeWord cX7_takeWord 6 none, Cond.methodLink RX7 57 yX8_isWord, Cond.instanceMethod yX8_isWord, Cond.selects RX8 yX8_isWord yX8_isWord, Cond.code yX8_isWord cX8_isWord 5 (some .boolean), Cond.methodLink RX8 23 yJ0_length_8abf5, Cond.instanceMethod yJ0_length_8abf5, Cond.selects RJ0 yJ0_length_8abf5 yJ0_length_8abf5, Cond.initialized RJ0, Cond.code yJ0_length_8abf5 cJ0_length_8abf5 1 (some .int), Cond.fieldLink RJ0 9 "java/lang/String" "value" "[B", Cond.methodLink RJ0 335 yJ0_coder_7d493, Cond.instanceMethod yJ0_coder_7d493, Cond.selects RJ0 yJ0_coder_7d493 yJ0_coder_7d493, Cond.code yJ0_coder_7d493 cJ0_coder_7d493 1 (some .byte), Cond.fieldLink RJ0 38 "java/lang/String" "COMPACT_STRINGS" "Z", Cond.fieldLink RJ0 15 "java/lang/String" "coder" "B", Cond.methodLink RX8 28 yX8_byteAt, Cond.methodLink RX8 32 yJ0_charAt_5068e, Cond.instanceMethod yJ0_charAt_5068e, Cond.selects RJ0 yJ0_charAt_5068e yJ0_charAt_5068e, Cond.code yJ0_charAt_5068e cJ0_charAt_5068e 2 (some .char), Cond.methodLink RJ0 492 yJ0_isLatin1_aae02]
def wsL_law0_r10 : List Cond := [Cond.instanceMethod yJ0_isLatin1_aae02, Cond.selects RJ0 yJ0_isLatin1_aae02 yJ0_isLatin1_aae02, Cond.code yJ0_isLatin1_aae02 cJ0_isLatin1_aae02 1 (some .boolean), Cond.methodLink RJ0 495 yJ1_charAt_3b067, Cond.static yJ1_charAt_3b067, Cond.initialized RJ1, Cond.code yJ1_charAt_3b067 cJ1_charAt_3b067 2 (some .char), Cond.methodLink RJ1 9 yJ0_checkIndex_df160, Cond.static yJ0_checkIndex_df160, Cond.code yJ0_checkIndex_df160 cJ0_checkIndex_df160 2 none, Cond.fieldLink RJ0 1053 "jdk/internal/util/Preconditions" "SIOOBE_FORMATTER" "Ljava/util/function/BiFunction;", Cond.methodLink RJ0 1059 yJ3_checkIndex_8e157, Cond.static yJ3_checkIndex_8e157, Cond.initialized RJ3, Cond.code yJ3_checkIndex_8e157 cJ3_checkIndex_8e157 3 (some .int), Cond.methodLink RJ0 498 yJ2_charAt_3b067, Cond.static yJ2_charAt_3b067, Cond.initialized RJ2, Cond.code yJ2_charAt_3b067 cJ2_charAt_3b067 2 (some .char), Cond.methodLink RJ2 67 yJ2_checkIndex_2214a, Cond.static yJ2_checkIndex_2214a, Cond.code yJ2_checkIndex_2214a cJ2_checkIndex_2214a 2 none, Cond.methodLink RJ2 48 yJ2_length_9d52b, Cond.static yJ2_length_9d52b]
def wsL_law0_r11 : List Cond := [Cond.code yJ2_length_9d52b cJ2_length_9d52b 1 (some .int), Cond.methodLink RJ2 414 yJ0_checkIndex_df160, Cond.methodLink RJ2 71 yJ2_getChar_3b067, Cond.static yJ2_getChar_3b067, Cond.code yJ2_getChar_3b067 cJ2_getChar_3b067 2 (some .char), Cond.fieldLink RJ2 44 "java/lang/StringUTF16" "$assertionsDisabled" "Z", Cond.fieldLink RJ2 59 "java/lang/StringUTF16" "HI_BYTE_SHIFT" "I", Cond.fieldLink RJ2 63 "java/lang/StringUTF16" "LO_BYTE_SHIFT" "I", Cond.methodLink RX7 61 yX6_makeLastThrough, Cond.instanceMethod yX6_makeLastThrough, Cond.selects RX6 yX6_makeLastThrough yX6_makeLastThrough, Cond.code yX6_makeLastThrough cX6_makeLastThrough 1 none, Cond.fieldLink RX6 19 "LawNumberer$Levels" "size" "I", Cond.methodLink RX7 64 yX7_formNamed, Cond.static yX7_formNamed, Cond.code yX7_formNamed cX7_formNamed 3 (some .int), Cond.methodLink RX7 68 yX6_append, Cond.instanceMethod yX6_append, Cond.selects RX6 yX6_append yX6_append, Cond.code yX6_append cX6_append 2 none, Cond.methodLink RX9 96 yX6_become, Cond.instanceMethod yX6_become, Cond.selects RX6 yX6_become yX6_become, Cond.code yX6_become cX6_become 3 none]
def wsL_law0_r12 : List Cond := [Cond.methodLink RX9 100 yX3_clear, Cond.instanceMethod yX3_clear, Cond.selects RX3 yX3_clear yX3_clear, Cond.code yX3_clear cX3_clear 1 none, Cond.fieldLink RX3 28 "LawNumberer$Items" "size" "I", Cond.fieldLink RX3 32 "LawNumberer$Items" "struckSize" "I", Cond.methodLink RX9 103 yX2_clear, Cond.instanceMethod yX2_clear, Cond.selects RX2 yX2_clear yX2_clear, Cond.code yX2_clear cX2_clear 1 none, Cond.fieldLink RX2 33 "LawNumberer$History" "size" "I", Cond.methodLink RX9 104 yX0_clear, Cond.instanceMethod yX0_clear, Cond.selects RX0 yX0_clear yX0_clear, Cond.code yX0_clear cX0_clear 1 none, Cond.fieldLink RX0 21 "LawNumberer$Acts" "next" "I", Cond.fieldLink RX0 25 "LawNumberer$Acts" "size" "I", Cond.methodLink RL 37 yX10_levels, Cond.instanceMethod yX10_levels, Cond.selects RX10 yX10_levels yX10_levels, Cond.code yX10_levels cX10_levels 2 (some .int), Cond.fieldLink RX10 102 "LawNumbererModel" "fault" "I", Cond.fieldLink RX10 136 "LawNumbererModel" "newLevels" "I", Cond.fieldLink RX10 157 "LawNumbererModel" "items" "I"]
def wsL_law0_r13 : List Cond := [Cond.fieldLink RX10 160 "LawNumbererModel" "changes" "I", Cond.fieldLink RX10 163 "LawNumbererModel" "acts" "I", Cond.fieldLink RX10 166 "LawNumbererModel" "day" "I", Cond.methodLink RX10 151 yX10_taken, Cond.instanceMethod yX10_taken, Cond.selects RX10 yX10_taken yX10_taken, Cond.code yX10_taken cX10_taken 1 none, Cond.fieldLink RX10 96 "LawNumbererModel" "size" "I", Cond.fieldLink RX10 99 "LawNumbererModel" "p" "I", Cond.methodLink RX10 154 yX10_readLevels, Cond.instanceMethod yX10_readLevels, Cond.selects RX10 yX10_readLevels yX10_readLevels, Cond.code yX10_readLevels cX10_readLevels 2 (some .boolean), Cond.fieldLink RX10 112 "LawNumbererModel" "word" "J", Cond.fieldLink RX10 109 "LawNumbererModel" "at" "I", Cond.constantLong RX10 149 (32765938003961704), Cond.constantLong RX10 120 (59), Cond.methodLink RX10 139 yX10_next, Cond.instanceMethod yX10_next, Cond.selects RX10 yX10_next yX10_next, Cond.code yX10_next cX10_next 3 none, Cond.constantLong RX10 122 (-1), Cond.methodLink RX10 105 yX10_peek, Cond.instanceMethod yX10_peek]
def wsL_law0_r14 : List Cond := [Cond.selects RX10 yX10_peek yX10_peek, Cond.code yX10_peek cX10_peek 1 (some .int), Cond.methodLink RX10 116 yX10_isSmall, Cond.static yX10_isSmall, Cond.code yX10_isSmall cX10_isSmall 1 (some .boolean), Cond.methodLink RX10 142 yX10_formOf, Cond.instanceMethod yX10_formOf, Cond.selects RX10 yX10_formOf yX10_formOf, Cond.code yX10_formOf cX10_formOf 1 (some .int), Cond.constantLong RX10 128 (121450625394034), Cond.constantLong RX10 130 (491495711086), Cond.constantLong RX10 132 (119183001281906), Cond.constantLong RX10 134 (495756340332), Cond.methodLink RX10 145 yX10_cant, Cond.instanceMethod yX10_cant, Cond.selects RX10 yX10_cant yX10_cant, Cond.code yX10_cant cX10_cant 1 (some .boolean), Cond.methodLink RX10 124 yX10_wrong, Cond.instanceMethod yX10_wrong, Cond.selects RX10 yX10_wrong yX10_wrong, Cond.code yX10_wrong cX10_wrong 3 (some .boolean), Cond.methodLink RL 38 yX9_fault, Cond.instanceMethod yX9_fault, Cond.selects RX9 yX9_fault yX9_fault]
def wsL_law0_r15 : List Cond := [Cond.code yX9_fault cX9_fault 1 (some .int), Cond.methodLink RL 41 yX10_fault, Cond.instanceMethod yX10_fault, Cond.selects RX10 yX10_fault yX10_fault, Cond.code yX10_fault cX10_fault 1 (some .int), Cond.methodLink RL 42 yX9_add, Cond.instanceMethod yX9_add, Cond.selects RX9 yX9_add yX9_add, Cond.code yX9_add cX9_add 10 (some .int), Cond.fieldLink RX9 108 "LawNumberer$Items" "size" "I", Cond.fieldLink RX9 113 "LawNumberer$Items" "levels" "[I", Cond.fieldLink RX9 136 "LawNumberer$History" "size" "I", Cond.methodLink RX9 109 yX9_isPlaceTold, Cond.instanceMethod yX9_isPlaceTold, Cond.selects RX9 yX9_isPlaceTold yX9_isPlaceTold, Cond.code yX9_isPlaceTold cX9_isPlaceTold 3 (some .boolean), Cond.fieldLink RX9 162 "LawNumberer$Items" "under" "[I", Cond.methodLink RX9 148 yX3_has, Cond.instanceMethod yX3_has, Cond.selects RX3 yX3_has yX3_has, Cond.code yX3_has cX3_has 2 (some .boolean), Cond.methodLink RX9 116 yX9_placeOfNew, Cond.instanceMethod yX9_placeOfNew, Cond.selects RX9 yX9_placeOfNew yX9_placeOfNew]
def wsL_law0_r16 : List Cond := [Cond.code yX9_placeOfNew cX9_placeOfNew 3 (some .int), Cond.methodLink RX9 269 yX3_placeBehind, Cond.instanceMethod yX3_placeBehind, Cond.selects RX3 yX3_placeBehind yX3_placeBehind, Cond.code yX3_placeBehind cX3_placeBehind 3 (some .int), Cond.methodLink RX3 39 yX3_placeOf, Cond.instanceMethod yX3_placeOf, Cond.selects RX3 yX3_placeOf yX3_placeOf, Cond.code yX3_placeOf cX3_placeOf 3 (some .int), Cond.methodLink RX9 206 yX3_placeOf, Cond.methodLink RX9 120 yX6_isThrough, Cond.instanceMethod yX6_isThrough, Cond.selects RX6 yX6_isThrough yX6_isThrough, Cond.code yX6_isThrough cX6_isThrough 2 (some .boolean), Cond.methodLink RX9 124 yX9_labelAhead, Cond.instanceMethod yX9_labelAhead, Cond.selects RX9 yX9_labelAhead yX9_labelAhead, Cond.code yX9_labelAhead cX9_labelAhead 7 (some .int), Cond.fieldLink RX9 159 "LawNumberer$Items" "order" "[I", Cond.methodLink RX9 165 yX3_isInRow, Cond.instanceMethod yX3_isInRow, Cond.selects RX3 yX3_isInRow yX3_isInRow, Cond.code yX3_isInRow cX3_isInRow 5 (some .boolean), Cond.methodLink RX3 35 yX3_has]
def wsL_law0_r17 : List Cond := [Cond.methodLink RX9 262 yX2_latest, Cond.instanceMethod yX2_latest, Cond.selects RX2 yX2_latest yX2_latest, Cond.code yX2_latest cX2_latest 2 (some .int), Cond.methodLink RX9 128 yX9_labelFrom, Cond.instanceMethod yX9_labelFrom, Cond.selects RX9 yX9_labelFrom yX9_labelFrom, Cond.code yX9_labelFrom cX9_labelFrom 7 (some .int), Cond.methodLink RX9 131 yX5_between, Cond.static yX5_between, Cond.initialized RX5, Cond.code yX5_between cX5_between 4 (some .int), Cond.methodLink RX5 23 yX5_numberOf, Cond.static yX5_numberOf, Cond.code yX5_numberOf cX5_numberOf 1 (some .int), Cond.methodLink RX5 26 yX5_plain, Cond.static yX5_plain, Cond.code yX5_plain cX5_plain 1 (some .int), Cond.methodLink RX5 29 yX5_leastAbove, Cond.static yX5_leastAbove, Cond.code yX5_leastAbove cX5_leastAbove 6 (some .int), Cond.methodLink RX5 15 yX5_lettersIn, Cond.static yX5_lettersIn, Cond.code yX5_lettersIn cX5_lettersIn 2 (some .int)]
def wsL_law0_r18 : List Cond := [Cond.methodLink RX5 11 yX5_letterOf, Cond.static yX5_letterOf, Cond.code yX5_letterOf cX5_letterOf 2 (some .int), Cond.methodLink RX5 32 yX5_fillWithA, Cond.static yX5_fillWithA, Cond.code yX5_fillWithA cX5_fillWithA 5 (some .int), Cond.methodLink RX5 19 yX5_setLetter, Cond.static yX5_setLetter, Cond.code yX5_setLetter cX5_setLetter 4 (some .int), Cond.methodLink RX9 137 yX0_open, Cond.instanceMethod yX0_open, Cond.selects RX0 yX0_open yX0_open, Cond.code yX0_open cX0_open 4 none, Cond.methodLink RX0 28 Lib.Math.min.name, Cond.static Lib.Math.min.name, Cond.initialized "java/lang/Math", Cond.code Lib.Math.min.name Lib.Math.min.code 2 (some .int), Cond.methodLink RX9 141 yX3_insert, Cond.instanceMethod yX3_insert, Cond.selects RX3 yX3_insert yX3_insert, Cond.code yX3_insert cX3_insert 5 none, Cond.methodLink RX3 47 arraycopyName, Cond.native arraycopyName, Cond.static arraycopyName]
def wsL_law0_r19 : List Cond := [Cond.initialized "java/lang/System", Cond.methodLink RX9 145 yX2_give, Cond.instanceMethod yX2_give, Cond.selects RX2 yX2_give yX2_give, Cond.code yX2_give cX2_give 4 none, Cond.methodLink RX2 39 yX2_latest, Cond.methodLink RX2 43 yX2_hasRoom, Cond.instanceMethod yX2_hasRoom, Cond.selects RX2 yX2_hasRoom yX2_hasRoom, Cond.code yX2_hasRoom cX2_hasRoom 2 (some .boolean), Cond.constant RX2 47 (40960), Cond.methodLink RX2 48 Lib.Math.min.name, Cond.methodLink RX2 54 yJ7_copyOf_59c91, Cond.static yJ7_copyOf_59c91, Cond.code yJ7_copyOf_59c91 cJ7_copyOf_59c91 3 (some (.array .int)), Cond.methodLink RJ7 316 ⟨"[I", "clone", "()Ljava/lang/Object;"⟩, Cond.sameMethod "[I" "java/lang/Object" "clone" "()Ljava/lang/Object;", Cond.native ⟨"java/lang/Object", "clone", "()Ljava/lang/Object;"⟩, Cond.instanceMethod ⟨"java/lang/Object", "clone", "()Ljava/lang/Object;"⟩, Cond.selects "[I" ⟨"[I", "clone", "()Ljava/lang/Object;"⟩ ⟨"java/lang/Object", "clone", "()Ljava/lang/Object;"⟩, Cond.classLink RJ7 317 "[I", Cond.methodLink RJ7 304 Lib.Math.min.name, Cond.methodLink RJ7 150 arraycopyName, Cond.methodLink RL 45 yX10_add]
def wsL_law0_r20 : List Cond := [Cond.instanceMethod yX10_add, Cond.selects RX10 yX10_add yX10_add, Cond.code yX10_add cX10_add 9 (some .int), Cond.constant RX10 173 (531441), Cond.methodLink RX10 181 yX10_isItem, Cond.instanceMethod yX10_isItem, Cond.selects RX10 yX10_isItem yX10_isItem, Cond.code yX10_isItem cX10_isItem 2 (some .boolean), Cond.methodLink RX10 184 yX10_placeOf, Cond.instanceMethod yX10_placeOf, Cond.selects RX10 yX10_placeOf yX10_placeOf, Cond.code yX10_placeOf cX10_placeOf 3 (some .int), Cond.methodLink RX10 187 yX10_isUnder, Cond.instanceMethod yX10_isUnder, Cond.selects RX10 yX10_isUnder yX10_isUnder, Cond.code yX10_isUnder cX10_isUnder 4 (some .boolean), Cond.methodLink RX10 190 yX10_isInRow, Cond.instanceMethod yX10_isInRow, Cond.selects RX10 yX10_isInRow yX10_isInRow, Cond.code yX10_isInRow cX10_isInRow 3 (some .boolean), Cond.methodLink RX10 193 yX10_labelOf, Cond.instanceMethod yX10_labelOf, Cond.selects RX10 yX10_labelOf yX10_labelOf, Cond.code yX10_labelOf cX10_labelOf 4 (some .int)]
def wsL_law0_r21 : List Cond := [Cond.methodLink RX10 196 yX10_least, Cond.instanceMethod yX10_least, Cond.selects RX10 yX10_least yX10_least, Cond.code yX10_least cX10_least 7 (some .int), Cond.methodLink RX10 174 yX10_lettersOf, Cond.static yX10_lettersOf, Cond.code yX10_lettersOf cX10_lettersOf 2 (some .int), Cond.methodLink RX10 169 yX10_letterAt, Cond.static yX10_letterAt, Cond.code yX10_letterAt cX10_letterAt 4 (some .int), Cond.methodLink RX10 178 yX10_suffixInHand, Cond.instanceMethod yX10_suffixInHand, Cond.selects RX10 yX10_suffixInHand yX10_suffixInHand, Cond.code yX10_suffixInHand cX10_suffixInHand 1 (some .int), Cond.methodLink RX10 199 yX10_act, Cond.instanceMethod yX10_act, Cond.selects RX10 yX10_act yX10_act, Cond.code yX10_act cX10_act 4 none, Cond.methodLink RX10 203 yX10_change, Cond.instanceMethod yX10_change, Cond.selects RX10 yX10_change yX10_change, Cond.code yX10_change cX10_change 3 none, Cond.methodLink RL 46 yX9_strike, Cond.instanceMethod yX9_strike]
def wsL_law0_r22 : List Cond := [Cond.selects RX9 yX9_strike yX9_strike, Cond.code yX9_strike cX9_strike 2 (some .boolean), Cond.fieldLink RX9 151 "LawNumberer$Items" "struck" "[Z", Cond.methodLink RX9 155 yX3_setStruck, Cond.instanceMethod yX3_setStruck, Cond.selects RX3 yX3_setStruck yX3_setStruck, Cond.code yX3_setStruck cX3_setStruck 3 none, Cond.methodLink RL 49 yX10_strike, Cond.instanceMethod yX10_strike, Cond.selects RX10 yX10_strike yX10_strike, Cond.code yX10_strike cX10_strike 2 (some .boolean), Cond.methodLink RL 50 yX9_renumber, Cond.instanceMethod yX9_renumber, Cond.selects RX9 yX9_renumber yX9_renumber, Cond.code yX9_renumber cX9_renumber 6 (some .boolean), Cond.methodLink RX9 169 yX5_plain, Cond.methodLink RL 53 yX10_renumber, Cond.instanceMethod yX10_renumber, Cond.selects RX10 yX10_renumber yX10_renumber, Cond.code yX10_renumber cX10_renumber 5 (some .boolean), Cond.methodLink RL 54 yX9_error, Cond.instanceMethod yX9_error, Cond.selects RX9 yX9_error yX9_error, Cond.code yX9_error cX9_error 5 (some .boolean)]
def wsL_law0_r23 : List Cond := [Cond.methodLink RX9 173 yX5_withSuffix, Cond.static yX5_withSuffix, Cond.code yX5_withSuffix cX5_withSuffix 6 (some .int), Cond.methodLink RL 58 yX10_error, Cond.instanceMethod yX10_error, Cond.selects RX10 yX10_error yX10_error, Cond.code yX10_error cX10_error 7 (some .boolean), Cond.methodLink RX10 206 yX10_isGreat, Cond.static yX10_isGreat, Cond.code yX10_isGreat cX10_isGreat 1 (some .boolean), Cond.methodLink RL 59 yX9_undo, Cond.instanceMethod yX9_undo, Cond.selects RX9 yX9_undo yX9_undo, Cond.code yX9_undo cX9_undo 2 (some .boolean), Cond.methodLink RX9 176 yX0_latestKind, Cond.instanceMethod yX0_latestKind, Cond.selects RX0 yX0_latestKind yX0_latestKind, Cond.code yX0_latestKind cX0_latestKind 1 (some .int), Cond.methodLink RX0 34 yX0_latestSlot, Cond.instanceMethod yX0_latestSlot, Cond.selects RX0 yX0_latestSlot yX0_latestSlot, Cond.code yX0_latestSlot cX0_latestSlot 1 (some .int), Cond.methodLink RX9 180 yX0_latestMark, Cond.instanceMethod yX0_latestMark]
def wsL_law0_r24 : List Cond := [Cond.selects RX0 yX0_latestMark yX0_latestMark, Cond.code yX0_latestMark cX0_latestMark 1 (some .int), Cond.methodLink RX9 183 yX2_cutTo, Cond.instanceMethod yX2_cutTo, Cond.selects RX2 yX2_cutTo yX2_cutTo, Cond.code yX2_cutTo cX2_cutTo 2 none, Cond.methodLink RX9 186 yX3_dropLast, Cond.instanceMethod yX3_dropLast, Cond.selects RX3 yX3_dropLast yX3_dropLast, Cond.code yX3_dropLast cX3_dropLast 2 none, Cond.methodLink RX9 189 yX0_latestItem, Cond.instanceMethod yX0_latestItem, Cond.selects RX0 yX0_latestItem yX0_latestItem, Cond.code yX0_latestItem cX0_latestItem 1 (some .int), Cond.methodLink RX9 192 yX0_close, Cond.instanceMethod yX0_close, Cond.selects RX0 yX0_close yX0_close, Cond.code yX0_close cX0_close 1 none, Cond.methodLink RL 63 yX10_undo, Cond.instanceMethod yX10_undo, Cond.selects RX10 yX10_undo yX10_undo, Cond.code yX10_undo cX10_undo 4 (some .boolean), Cond.methodLink RL 64 yX9_wait, Cond.instanceMethod yX9_wait]
def wsL_law0_r25 : List Cond := [Cond.selects RX9 yX9_wait yX9_wait, Cond.code yX9_wait cX9_wait 2 (some .boolean), Cond.methodLink RL 67 yX10_wait, Cond.instanceMethod yX10_wait, Cond.selects RX10 yX10_wait yX10_wait, Cond.code yX10_wait cX10_wait 2 (some .boolean), Cond.methodLink RL 68 yL_about, Cond.static yL_about, Cond.initialized RL, Cond.codeWith yL_about cL_about 5 (some .int) [(0, 10, 13, 13)], Cond.classLink RL 13 "java/util/NoSuchElementException", Cond.methodLink RL 7 yX9_about, Cond.instanceMethod yX9_about, Cond.selects RX9 yX9_about yX9_about, Cond.code yX9_about cX9_about 3 (some .int), Cond.classLink RX9 195 "java/util/NoSuchElementException", Cond.initialized "java/util/NoSuchElementException", Cond.fieldLink RX9 209 "LawNumberer$Items" "came" "[I", Cond.methodLink RX9 202 yX3_placeInRow, Cond.instanceMethod yX3_placeInRow, Cond.selects RX3 yX3_placeInRow yX3_placeInRow, Cond.code yX3_placeInRow cX3_placeInRow 6 (some .int), Cond.methodLink RX3 43 yX3_isInRow, Cond.methodLink RL 73 yX10_about]
def wsL_law0_r26 : List Cond := [Cond.instanceMethod yX10_about, Cond.selects RX10 yX10_about yX10_about, Cond.code yX10_about cX10_about 5 (some .int), Cond.methodLink RX10 209 yX10_throwsIf, Cond.instanceMethod yX10_throwsIf, Cond.selects RX10 yX10_throwsIf yX10_throwsIf, Cond.code yX10_throwsIf cX10_throwsIf 2 (some .boolean), Cond.methodLink RL 74 yX10_thrown, Cond.instanceMethod yX10_thrown, Cond.selects RX10 yX10_thrown yX10_thrown, Cond.code yX10_thrown cX10_thrown 1 (some .int), Cond.methodLink RL 77 yX9_label, Cond.instanceMethod yX9_label, Cond.selects RX9 yX9_label yX9_label, Cond.code yX9_label cX9_label 4 (some .int), Cond.methodLink RX9 214 yX2_asOf, Cond.instanceMethod yX2_asOf, Cond.selects RX2 yX2_asOf yX2_asOf, Cond.code yX2_asOf cX2_asOf 4 (some .int), Cond.methodLink RX9 217 yX6_formOf, Cond.instanceMethod yX6_formOf, Cond.selects RX6 yX6_formOf yX6_formOf, Cond.code yX6_formOf cX6_formOf 2 (some .int), Cond.methodLink RX9 220 yX1_writeLabel]
def wsL_law0_r27 : List Cond := [Cond.static yX1_writeLabel, Cond.initialized RX1, Cond.code yX1_writeLabel cX1_writeLabel 6 none, Cond.methodLink RX1 9 yX5_numberOf, Cond.methodLink RX1 15 yX1_writeRoman, Cond.static yX1_writeRoman, Cond.code yX1_writeRoman cX1_writeRoman 5 none, Cond.fieldLink RX1 41 "LawNumberer$Forms" "STEPS" "[I", Cond.fieldLink RX1 45 "LawNumberer$Forms" "FIRST_SIGNS" "[C", Cond.fieldLink RX1 49 "LawNumberer$Forms" "SECOND_SIGNS" "[C", Cond.methodLink RX1 31 yX8_put, Cond.methodLink RX1 21 yX1_writeLetters, Cond.static yX1_writeLetters, Cond.code yX1_writeLetters cX1_writeLetters 3 none, Cond.methodLink RX1 25 yX1_writeDigits, Cond.static yX1_writeDigits, Cond.code yX1_writeDigits cX1_writeDigits 2 none, Cond.methodLink RX1 28 yX5_lettersIn, Cond.methodLink RX1 37 yX5_letterOf, Cond.methodLink RL 80 yX10_label, Cond.instanceMethod yX10_label, Cond.selects RX10 yX10_label yX10_label, Cond.code yX10_label cX10_label 4 (some .int), Cond.fieldLink RX10 213 "LawNumbererModel" "outMany" "I"]
def wsL_law0_r28 : List Cond := [Cond.methodLink RX10 231 yX10_write, Cond.instanceMethod yX10_write, Cond.selects RX10 yX10_write yX10_write, Cond.code yX10_write cX10_write 6 none, Cond.methodLink RX10 222 yX10_decimal, Cond.instanceMethod yX10_decimal, Cond.selects RX10 yX10_decimal yX10_decimal, Cond.code yX10_decimal cX10_decimal 2 none, Cond.methodLink RX10 219 yX10_put, Cond.instanceMethod yX10_put, Cond.selects RX10 yX10_put yX10_put, Cond.code yX10_put cX10_put 2 none, Cond.methodLink RX10 225 yX10_letters, Cond.instanceMethod yX10_letters, Cond.selects RX10 yX10_letters yX10_letters, Cond.code yX10_letters cX10_letters 4 none, Cond.methodLink RX10 228 yX10_roman, Cond.instanceMethod yX10_roman, Cond.selects RX10 yX10_roman yX10_roman, Cond.code yX10_roman cX10_roman 5 none, Cond.methodLink RX10 216 yX10_romanLetter, Cond.static yX10_romanLetter, Cond.code yX10_romanLetter cX10_romanLetter 1 (some .int), Cond.methodLink RL 81 yX9_cited]
def wsL_law0_r29 : List Cond := [Cond.instanceMethod yX9_cited, Cond.selects RX9 yX9_cited yX9_cited, Cond.code yX9_cited cX9_cited 5 (some .int), Cond.methodLink RX9 226 yX8_put, Cond.methodLink RL 84 yX10_cited, Cond.instanceMethod yX10_cited, Cond.selects RX10 yX10_cited yX10_cited, Cond.code yX10_cited cX10_cited 4 (some .int), Cond.methodLink RX10 234 yX10_over, Cond.instanceMethod yX10_over, Cond.selects RX10 yX10_over yX10_over, Cond.code yX10_over cX10_over 4 (some .int), Cond.methodLink RL 85 yL_octet, Cond.static yL_octet, Cond.codeWith yL_octet cL_octet 4 (some .int) [(0, 9, 12, 13)], Cond.methodLink RL 15 yX9_octet, Cond.instanceMethod yX9_octet, Cond.selects RX9 yX9_octet yX9_octet, Cond.code yX9_octet cX9_octet 2 (some .int), Cond.methodLink RX9 231 yX8_byteAt, Cond.methodLink RL 88 yX10_octet, Cond.instanceMethod yX10_octet, Cond.selects RX10 yX10_octet yX10_octet, Cond.code yX10_octet cX10_octet 2 (some .int)]
def wsL_law0_r30 : List Cond := [Cond.methodLink RL 89 yX9_cite, Cond.instanceMethod yX9_cite, Cond.selects RX9 yX9_cite yX9_cite, Cond.code yX9_cite cX9_cite 6 (some .int), Cond.fieldLink RX9 237 "LawNumberer" "bearing" "I", Cond.methodLink RX9 234 yX9_readCitation, Cond.instanceMethod yX9_readCitation, Cond.selects RX9 yX9_readCitation yX9_readCitation, Cond.code yX9_readCitation cX9_readCitation 3 (some .int), Cond.fieldLink RX9 246 "LawNumberer$LabelReader" "fault" "I", Cond.fieldLink RX9 272 "LawNumberer$LabelReader" "faultPlace" "I", Cond.fieldLink RX9 250 "LawNumberer$LabelReader" "label" "I", Cond.fieldLink RX9 247 "LawNumberer$LabelReader" "behind" "I", Cond.methodLink RX9 243 yX4_readAt, Cond.instanceMethod yX4_readAt, Cond.selects RX4 yX4_readAt yX4_readAt, Cond.code yX4_readAt cX4_readAt 7 none, Cond.fieldLink RX4 18 "LawNumberer$LabelReader" "fault" "I", Cond.fieldLink RX4 22 "LawNumberer$LabelReader" "faultPlace" "I", Cond.fieldLink RX4 27 "LawNumberer$LabelReader" "label" "I", Cond.fieldLink RX4 42 "LawNumberer$LabelReader" "behind" "I", Cond.methodLink RX4 30 yX4_numeralsEnd, Cond.static yX4_numeralsEnd, Cond.code yX4_numeralsEnd cX4_numeralsEnd 4 (some .int)]
def wsL_law0_r31 : List Cond := [Cond.fieldLink RX4 62 "LawNumberer$Text" "length" "I", Cond.methodLink RX4 38 yX8_byteAt, Cond.methodLink RX4 80 yX1_isNumeral, Cond.static yX1_isNumeral, Cond.code yX1_isNumeral cX1_isNumeral 2 (some .boolean), Cond.methodLink RX1 52 yX1_romanWorth, Cond.static yX1_romanWorth, Cond.code yX1_romanWorth cX1_romanWorth 1 (some .int), Cond.methodLink RX4 34 yX4_failAt, Cond.instanceMethod yX4_failAt, Cond.selects RX4 yX4_failAt yX4_failAt, Cond.code yX4_failAt cX4_failAt 3 none, Cond.methodLink RX4 45 yX4_capitalsEnd, Cond.static yX4_capitalsEnd, Cond.code yX4_capitalsEnd cX4_capitalsEnd 3 (some .int), Cond.methodLink RX4 49 yX1_numberIn, Cond.static yX1_numberIn, Cond.code yX1_numberIn cX1_numberIn 4 (some .int), Cond.methodLink RX1 55 yX1_romanIn, Cond.static yX1_romanIn, Cond.code yX1_romanIn cX1_romanIn 8 (some .int), Cond.methodLink RX1 63 yX8_byteAt, Cond.methodLink RX1 59 yX1_placesIn, Cond.static yX1_placesIn]
def wsL_law0_r32 : List Cond := [Cond.code yX1_placesIn cX1_placesIn 7 (some .int), Cond.methodLink RX4 55 yX4_meant, Cond.instanceMethod yX4_meant, Cond.selects RX4 yX4_meant yX4_meant, Cond.code yX4_meant cX4_meant 6 (some .int), Cond.methodLink RX4 73 yX5_plain, Cond.methodLink RX4 76 yX5_withSuffix, Cond.methodLink RX4 58 yX4_isAsWritten, Cond.instanceMethod yX4_isAsWritten, Cond.selects RX4 yX4_isAsWritten yX4_isAsWritten, Cond.code yX4_isAsWritten cX4_isAsWritten 4 (some .boolean), Cond.methodLink RX4 65 yX1_writeLabel, Cond.methodLink RX4 69 yX8_isPart, Cond.instanceMethod yX8_isPart, Cond.selects RX8 yX8_isPart yX8_isPart, Cond.code yX8_isPart cX8_isPart 5 (some .boolean), Cond.methodLink RX9 240 yX9_bearsPath, Cond.instanceMethod yX9_bearsPath, Cond.selects RX9 yX9_bearsPath yX9_bearsPath, Cond.code yX9_bearsPath cX9_bearsPath 5 (some .boolean), Cond.methodLink RL 92 yX10_cite, Cond.instanceMethod yX10_cite, Cond.selects RX10 yX10_cite yX10_cite, Cond.code yX10_cite cX10_cite 8 (some .int)]
def wsL_law0_r33 : List Cond := [Cond.fieldLink RX10 237 "LawNumbererModel" "kind" "I", Cond.fieldLink RX10 240 "LawNumbererModel" "where" "I", Cond.fieldLink RX10 268 "LawNumbererModel" "bearers" "I", Cond.methodLink RX10 265 yX10_readCitation, Cond.instanceMethod yX10_readCitation, Cond.selects RX10 yX10_readCitation yX10_readCitation, Cond.code yX10_readCitation cX10_readCitation 2 (some .int), Cond.fieldLink RX10 256 "LawNumbererModel" "read" "I", Cond.methodLink RX10 262 yX10_readLabel, Cond.instanceMethod yX10_readLabel, Cond.selects RX10 yX10_readLabel yX10_readLabel, Cond.code yX10_readLabel cX10_readLabel 7 (some .boolean), Cond.constant RX10 255 (100000), Cond.methodLink RX10 246 yX10_fitsForm, Cond.static yX10_fitsForm, Cond.code yX10_fitsForm cX10_fitsForm 4 (some .boolean), Cond.methodLink RX10 243 yX10_isDigit, Cond.static yX10_isDigit, Cond.code yX10_isDigit cX10_isDigit 1 (some .boolean), Cond.methodLink RX10 249 yX10_breaks, Cond.instanceMethod yX10_breaks, Cond.selects RX10 yX10_breaks yX10_breaks, Cond.code yX10_breaks cX10_breaks 3 (some .boolean), Cond.methodLink RX10 252 yX10_romanWorth]
def wsL_law0_r34 : List Cond := [Cond.static yX10_romanWorth, Cond.code yX10_romanWorth cX10_romanWorth 1 (some .int), Cond.methodLink RX10 259 yX10_isWritten, Cond.instanceMethod yX10_isWritten, Cond.selects RX10 yX10_isWritten yX10_isWritten, Cond.code yX10_isWritten cX10_isWritten 6 (some .boolean), Cond.methodLink RL 93 yX9_place, Cond.instanceMethod yX9_place, Cond.selects RX9 yX9_place yX9_place, Cond.code yX9_place cX9_place 1 (some .int), Cond.methodLink RL 96 yX10_place, Cond.instanceMethod yX10_place, Cond.selects RX10 yX10_place yX10_place, Cond.code yX10_place cX10_place 1 (some .int), Cond.methodLink RL 97 yX9_bearers, Cond.instanceMethod yX9_bearers, Cond.selects RX9 yX9_bearers yX9_bearers, Cond.code yX9_bearers cX9_bearers 1 (some .int), Cond.methodLink RL 100 yX10_bearers, Cond.instanceMethod yX10_bearers, Cond.selects RX10 yX10_bearers yX10_bearers, Cond.code yX10_bearers cX10_bearers 1 (some .int), Cond.methodLink RL 101 yX9_read, Cond.instanceMethod yX9_read]
def wsL_law0_r35 : List Cond := [Cond.selects RX9 yX9_read yX9_read, Cond.code yX9_read cX9_read 3 (some .int), Cond.fieldLink RX9 259 "LawNumberer" "readSuffix" "I", Cond.methodLink RX9 253 yX5_numberOf, Cond.methodLink RX9 256 yX5_suffixOf, Cond.static yX5_suffixOf, Cond.code yX5_suffixOf cX5_suffixOf 3 (some .int), Cond.methodLink RL 104 yX10_read, Cond.instanceMethod yX10_read, Cond.selects RX10 yX10_read yX10_read, Cond.code yX10_read cX10_read 3 (some .int), Cond.fieldLink RX10 271 "LawNumbererModel" "suffix" "I", Cond.methodLink RL 105 yX9_suffix, Cond.instanceMethod yX9_suffix, Cond.selects RX9 yX9_suffix yX9_suffix, Cond.code yX9_suffix cX9_suffix 1 (some .int), Cond.methodLink RL 108 yX10_suffix, Cond.instanceMethod yX10_suffix, Cond.selects RX10 yX10_suffix yX10_suffix, Cond.code yX10_suffix cX10_suffix 1 (some .int), Cond.methodLink RL 109 yX9_clash, Cond.instanceMethod yX9_clash, Cond.selects RX9 yX9_clash yX9_clash, Cond.code yX9_clash cX9_clash 5 (some .int)]
def wsL_law0_r36 : List Cond := [Cond.methodLink RL 112 yX10_clash, Cond.instanceMethod yX10_clash, Cond.selects RX10 yX10_clash yX10_clash, Cond.code yX10_clash cX10_clash 6 (some .int), Cond.methodLink RL 113 yX9_at, Cond.instanceMethod yX9_at, Cond.selects RX9 yX9_at yX9_at, Cond.code yX9_at cX9_at 2 (some .int), Cond.methodLink RL 116 yX10_at, Cond.instanceMethod yX10_at, Cond.selects RX10 yX10_at yX10_at, Cond.code yX10_at cX10_at 2 (some .int), Cond.methodLink RL 117 yX9_count, Cond.instanceMethod yX9_count, Cond.selects RX9 yX9_count yX9_count, Cond.code yX9_count cX9_count 2 (some .int), Cond.fieldLink RX9 265 "LawNumberer$Items" "struckSize" "I", Cond.fieldLink RX9 268 "LawNumberer$Acts" "size" "I", Cond.methodLink RL 120 yX10_count, Cond.instanceMethod yX10_count, Cond.selects RX10 yX10_count yX10_count, Cond.code yX10_count cX10_count 4 (some .int)]
def wsL_law0 : List Cond := (wsL_law0_r1 ++ (wsL_law0_r2 ++ (wsL_law0_r3 ++ (wsL_law0_r4 ++ (wsL_law0_r5 ++ (wsL_law0_r6 ++ (wsL_law0_r7 ++ (wsL_law0_r8 ++ (wsL_law0_r9 ++ (wsL_law0_r10 ++ (wsL_law0_r11 ++ (wsL_law0_r12 ++ (wsL_law0_r13 ++ (wsL_law0_r14 ++ (wsL_law0_r15 ++ (wsL_law0_r16 ++ (wsL_law0_r17 ++ (wsL_law0_r18 ++ (wsL_law0_r19 ++ (wsL_law0_r20 ++ (wsL_law0_r21 ++ (wsL_law0_r22 ++ (wsL_law0_r23 ++ (wsL_law0_r24 ++ (wsL_law0_r25 ++ (wsL_law0_r26 ++ (wsL_law0_r27 ++ (wsL_law0_r28 ++ (wsL_law0_r29 ++ (wsL_law0_r30 ++ (wsL_law0_r31 ++ (wsL_law0_r32 ++ (wsL_law0_r33 ++ (wsL_law0_r34 ++ (wsL_law0_r35 ++ wsL_law0_r36))))))))))))))))))))))))))))))))))) ++ wsX90 ++ wsX100 ++ wsX80 ++ wsX60 ++ wsX70 ++ wsX40 ++ wsX30 ++ wsX20 ++ wsX00 ++ ([] : List Cond)
def wsL_law : List Cond := wsL_law0 ++ (vx_atS RX9 199 "java/util/NoSuchElementException" ["java/lang/RuntimeException", "java/lang/Exception"]).filter goodWord
theorem mem_r {big : List Cond} (ws : List Cond) (ps : List Nat) (hp : ws = ps.filterMap (fun i => big[i]?)) : ∀ w ∈ ws, w ∈ big := by
  intro w hw
  rw [hp] at hw
  obtain ⟨i, -, hi⟩ := List.mem_filterMap.mp hw
  first | exact List.mem_of_getElem? hi | exact List.getElem?_mem hi
theorem mem_app {big a b : List Cond} (ha : ∀ w ∈ a, w ∈ big) (hb : ∀ w ∈ b, w ∈ big) : ∀ w ∈ a ++ b, w ∈ big := fun w h => (List.mem_append.mp h).elim (ha w) (hb w)
theorem wsL_m1 : ∀ w ∈ wsL_law0_r1, w ∈ lw_tbl := mem_r _ [66, 67, 44, 806, 807, 53, 1177, 68, 69, 70, 71, 72, 73, 74, 75, 45, 244, 245, 91, 92, 46, 246, 247, 111] (by decide +kernel)
theorem wsL_m2 : ∀ w ∈ wsL_law0_r2, w ∈ lw_tbl := mem_r _ [112, 47, 248, 129, 130, 48, 249, 157, 158, 49, 250, 192, 193, 50, 251, 221, 222, 52, 252, 90, 253, 98, 100, 256] (by decide +kernel)
theorem wsL_m3 : ∀ w ∈ wsL_law0_r3, w ∈ lw_tbl := mem_r _ [77, 78, 79, 80, 94, 95, 96, 97, 110, 99, 114, 115, 116, 132, 133, 134, 135, 145, 160, 161, 162, 163, 165, 167] (by decide +kernel)
theorem wsL_m4 : ∀ w ∈ wsL_law0_r4, w ∈ lw_tbl := mem_r _ [169, 171, 194, 195, 196, 197, 201, 202, 203, 204, 205, 198, 199, 51, 200, 224, 225, 226, 227, 228, 229, 808, 809, 810] (by decide +kernel)
theorem wsL_m5 : ∀ w ∈ wsL_law0_r5, w ∈ lw_tbl := mem_r _ [811, 421, 814, 818, 819, 820, 821, 822, 826, 829, 830, 831, 832, 833, 812, 835, 836, 837, 839, 840, 841, 843, 844, 846] (by decide +kernel)
theorem wsL_m6 : ∀ w ∈ wsL_law0_r6, w ∈ lw_tbl := mem_r _ [847, 851, 852, 290, 291, 292, 293, 82, 294, 295, 296, 297, 298, 299, 300, 301, 81, 944, 945, 946, 947, 813, 815, 948] (by decide +kernel)
theorem wsL_m7 : ∀ w ∈ wsL_law0_r7, w ∈ lw_tbl := mem_r _ [950, 15, 951, 302, 303, 304, 305, 952, 953, 954, 955, 306, 307, 308, 309, 118, 255, 120, 254, 310, 311, 312, 313, 101] (by decide +kernel)
theorem wsL_m8 : ∀ w ∈ wsL_law0_r8, w ∈ lw_tbl := mem_r _ [117, 119, 121, 83, 314, 315, 316, 317, 318, 320, 0, 321, 322, 324, 1, 325, 326, 327, 328, 329, 330, 331, 332, 334] (by decide +kernel)
theorem wsL_m9 : ∀ w ∈ wsL_law0_r9, w ∈ lw_tbl := mem_r _ [2, 335, 337, 338, 339, 340, 341, 342, 343, 54, 344, 1191, 345, 346, 347, 348, 349, 1192, 351, 352, 353, 354, 355, 356] (by decide +kernel)
theorem wsL_m10 : ∀ w ∈ wsL_law0_r10, w ∈ lw_tbl := mem_r _ [357, 358, 359, 360, 361, 55, 362, 363, 364, 365, 366, 368, 369, 56, 370, 371, 372, 57, 373, 374, 375, 376, 377, 378] (by decide +kernel)
theorem wsL_m11 : ∀ w ∈ wsL_law0_r11, w ∈ lw_tbl := mem_r _ [379, 380, 381, 382, 383, 384, 386, 388, 390, 391, 392, 393, 102, 394, 395, 396, 401, 402, 403, 404, 405, 406, 407, 408] (by decide +kernel)
theorem wsL_m12 : ∀ w ∈ wsL_law0_r12, w ∈ lw_tbl := mem_r _ [409, 410, 411, 412, 173, 175, 413, 414, 415, 416, 206, 417, 418, 419, 420, 230, 231, 956, 957, 958, 959, 825, 823, 834] (by decide +kernel)
theorem wsL_m13 : ∀ w ∈ wsL_law0_r13, w ∈ lw_tbl := mem_r _ [838, 842, 824, 960, 962, 16, 963, 816, 817, 964, 966, 17, 967, 827, 828, 997, 979, 968, 970, 18, 971, 980, 972, 974] (by decide +kernel)
theorem wsL_m14 : ∀ w ∈ wsL_law0_r14, w ∈ lw_tbl := mem_r _ [19, 975, 976, 977, 978, 981, 983, 20, 984, 985, 986, 987, 988, 989, 991, 21, 992, 993, 995, 22, 996, 422, 423, 424] (by decide +kernel)
theorem wsL_m15 : ∀ w ∈ wsL_law0_r15, w ∈ lw_tbl := mem_r _ [425, 998, 999, 1000, 1001, 426, 427, 428, 429, 174, 164, 207, 430, 432, 3, 433, 166, 434, 435, 436, 437, 438, 440, 4] (by decide +kernel)
theorem wsL_m16 : ∀ w ∈ wsL_law0_r16, w ∈ lw_tbl := mem_r _ [441, 442, 443, 444, 445, 446, 447, 448, 449, 450, 451, 452, 453, 454, 455, 457, 5, 458, 172, 459, 460, 461, 462, 463] (by decide +kernel)
theorem wsL_m17 : ∀ w ∈ wsL_law0_r17, w ∈ lw_tbl := mem_r _ [464, 465, 466, 467, 468, 470, 6, 471, 472, 473, 58, 474, 475, 476, 477, 478, 479, 480, 481, 482, 483, 484, 485, 486] (by decide +kernel)
theorem wsL_m18 : ∀ w ∈ wsL_law0_r18, w ∈ lw_tbl := mem_r _ [487, 488, 489, 490, 491, 492, 493, 494, 495, 496, 497, 498, 499, 500, 501, 59, 502, 503, 504, 505, 506, 507, 509, 508] (by decide +kernel)
theorem wsL_m19 : ∀ w ∈ wsL_law0_r19, w ∈ lw_tbl := mem_r _ [60, 510, 511, 512, 513, 514, 515, 517, 7, 518, 519, 520, 521, 522, 523, 524, 525, 526, 527, 528, 530, 531, 532, 1006] (by decide +kernel)
theorem wsL_m20 : ∀ w ∈ wsL_law0_r20, w ∈ lw_tbl := mem_r _ [1007, 1008, 1009, 1030, 1010, 1012, 23, 1013, 1014, 1016, 24, 1017, 1018, 1020, 25, 1021, 1022, 1024, 26, 1025, 1026, 1028, 27, 1029] (by decide +kernel)
theorem wsL_m21 : ∀ w ∈ wsL_law0_r21, w ∈ lw_tbl := mem_r _ [1031, 1033, 28, 1034, 1035, 1036, 1037, 1038, 1039, 1040, 1041, 1043, 29, 1044, 1045, 1047, 30, 1048, 1049, 1051, 31, 1052, 533, 534] (by decide +kernel)
theorem wsL_m22 : ∀ w ∈ wsL_law0_r22, w ∈ lw_tbl := mem_r _ [535, 536, 170, 537, 538, 539, 540, 1053, 1054, 1055, 1056, 541, 542, 543, 544, 545, 1057, 1058, 1059, 1060, 546, 547, 548, 549] (by decide +kernel)
theorem wsL_m23 : ∀ w ∈ wsL_law0_r23, w ∈ lw_tbl := mem_r _ [550, 551, 552, 1061, 1062, 1063, 1064, 1065, 1066, 1067, 553, 554, 555, 556, 557, 558, 559, 560, 561, 563, 8, 564, 565, 566] (by decide +kernel)
theorem wsL_m24 : ∀ w ∈ wsL_law0_r24, w ∈ lw_tbl := mem_r _ [567, 568, 569, 570, 571, 572, 573, 574, 575, 576, 577, 578, 579, 580, 581, 582, 583, 584, 1068, 1069, 1070, 1071, 585, 586] (by decide +kernel)
theorem wsL_m25 : ∀ w ∈ wsL_law0_r25, w ∈ lw_tbl := mem_r _ [587, 588, 1072, 1073, 1074, 1075, 719, 720, 43, 721, 722, 723, 724, 725, 726, 727, 64, 168, 792, 793, 794, 795, 796, 1076] (by decide +kernel)
theorem wsL_m26 : ∀ w ∈ wsL_law0_r26, w ∈ lw_tbl := mem_r _ [1077, 1078, 1079, 1080, 1082, 32, 1083, 940, 941, 942, 943, 589, 590, 591, 592, 593, 594, 595, 596, 597, 598, 599, 600, 601] (by decide +kernel)
theorem wsL_m27 : ∀ w ∈ wsL_law0_r27, w ∈ lw_tbl := mem_r _ [602, 65, 603, 604, 605, 606, 607, 608, 610, 613, 612, 615, 616, 617, 618, 619, 620, 621, 622, 1084, 1085, 1086, 1087, 845] (by decide +kernel)
theorem wsL_m28 : ∀ w ∈ wsL_law0_r28, w ∈ lw_tbl := mem_r _ [1088, 1090, 33, 1091, 1092, 1094, 34, 1095, 1096, 1098, 35, 1099, 1100, 1102, 36, 1103, 1104, 1106, 37, 1107, 1108, 1109, 1110, 623] (by decide +kernel)
theorem wsL_m29 : ∀ w ∈ wsL_law0_r29, w ∈ lw_tbl := mem_r _ [624, 625, 626, 627, 1111, 1112, 1113, 1114, 1115, 1117, 38, 1118, 798, 799, 800, 801, 802, 803, 804, 682, 1119, 1120, 1121, 1122] (by decide +kernel)
theorem wsL_m30 : ∀ w ∈ wsL_law0_r30, w ∈ lw_tbl := mem_r _ [628, 629, 630, 631, 257, 632, 634, 9, 635, 142, 144, 138, 140, 636, 637, 638, 639, 141, 143, 137, 139, 640, 641, 642] (by decide +kernel)
theorem wsL_m31 : ∀ w ∈ wsL_law0_r31, w ∈ lw_tbl := mem_r _ [84, 643, 644, 645, 646, 647, 648, 649, 650, 652, 10, 653, 654, 655, 656, 657, 658, 659, 660, 661, 662, 663, 664, 665] (by decide +kernel)
theorem wsL_m32 : ∀ w ∈ wsL_law0_r32, w ∈ lw_tbl := mem_r _ [666, 667, 669, 11, 670, 671, 672, 673, 675, 12, 676, 677, 678, 679, 680, 681, 683, 685, 13, 686, 1123, 1124, 1125, 1126] (by decide +kernel)
theorem wsL_m33 : ∀ w ∈ wsL_law0_r33, w ∈ lw_tbl := mem_r _ [849, 850, 853, 1127, 1129, 39, 1130, 848, 1131, 1133, 40, 1134, 1148, 1135, 1136, 1137, 1138, 1139, 1140, 1141, 1143, 41, 1144, 1145] (by decide +kernel)
theorem wsL_m34 : ∀ w ∈ wsL_law0_r34, w ∈ lw_tbl := mem_r _ [1146, 1147, 1149, 1151, 42, 1152, 687, 688, 689, 690, 1002, 1003, 1004, 1005, 691, 692, 693, 694, 1153, 1154, 1155, 1156, 695, 696] (by decide +kernel)
theorem wsL_m35 : ∀ w ∈ wsL_law0_r35, w ∈ lw_tbl := mem_r _ [697, 698, 258, 699, 700, 701, 702, 1157, 1158, 1159, 1160, 854, 703, 704, 705, 706, 1161, 1162, 1163, 1164, 707, 708, 709, 710] (by decide +kernel)
theorem wsL_m36 : ∀ w ∈ wsL_law0_r36, w ∈ lw_tbl := mem_r _ [1165, 1166, 1167, 1168, 711, 712, 713, 714, 1169, 1170, 1171, 1172, 715, 716, 717, 718, 176, 232, 1173, 1174, 1175, 1176] (by decide +kernel)
theorem wsL_xX9 : ∀ w ∈ wsX90, w ∈ lw_tbl := mem_r _ [259, 261, 263, 265, 267, 269, 271, 273, 275, 277, 279, 281, 283, 285, 287] (by decide +kernel)
theorem wsL_xX10 : ∀ w ∈ wsX100, w ∈ lw_tbl := mem_r _ [855, 857, 859, 861, 863, 865, 867, 869, 871, 873, 875, 877, 879, 881, 883, 885, 887, 889, 891, 893, 895, 897, 899, 901, 903, 905, 907, 909, 911, 913, 915, 917, 919, 921, 923, 925, 927, 929, 931, 933, 935, 937] (by decide +kernel)
theorem wsL_xX8 : ∀ w ∈ wsX80, w ∈ lw_tbl := mem_r _ [85, 87] (by decide +kernel)
theorem wsL_xX6 : ∀ w ∈ wsX60, w ∈ lw_tbl := mem_r _ [103, 105, 107] (by decide +kernel)
theorem wsL_xX7 : ∀ w ∈ wsX70, w ∈ lw_tbl := mem_r _ [122, 124, 126] (by decide +kernel)
theorem wsL_xX4 : ∀ w ∈ wsX40, w ∈ lw_tbl := mem_r _ [146, 148, 150, 152, 154] (by decide +kernel)
theorem wsL_xX3 : ∀ w ∈ wsX30, w ∈ lw_tbl := mem_r _ [177, 179, 181, 183, 185, 187, 189] (by decide +kernel)
theorem wsL_xX2 : ∀ w ∈ wsX20, w ∈ lw_tbl := mem_r _ [208, 210, 212, 214, 216, 218] (by decide +kernel)
theorem wsL_xX0 : ∀ w ∈ wsX00, w ∈ lw_tbl := mem_r _ [233, 235, 237, 239, 241] (by decide +kernel)
theorem wsL_law_in0 : ∀ w ∈ wsL_law0, w ∈ lw_tbl := mem_app (mem_app (mem_app (mem_app (mem_app (mem_app (mem_app (mem_app (mem_app (mem_app (mem_app wsL_m1 (mem_app wsL_m2 (mem_app wsL_m3 (mem_app wsL_m4 (mem_app wsL_m5 (mem_app wsL_m6 (mem_app wsL_m7 (mem_app wsL_m8 (mem_app wsL_m9 (mem_app wsL_m10 (mem_app wsL_m11 (mem_app wsL_m12 (mem_app wsL_m13 (mem_app wsL_m14 (mem_app wsL_m15 (mem_app wsL_m16 (mem_app wsL_m17 (mem_app wsL_m18 (mem_app wsL_m19 (mem_app wsL_m20 (mem_app wsL_m21 (mem_app wsL_m22 (mem_app wsL_m23 (mem_app wsL_m24 (mem_app wsL_m25 (mem_app wsL_m26 (mem_app wsL_m27 (mem_app wsL_m28 (mem_app wsL_m29 (mem_app wsL_m30 (mem_app wsL_m31 (mem_app wsL_m32 (mem_app wsL_m33 (mem_app wsL_m34 (mem_app wsL_m35 (wsL_m36)))))))))))))))))))))))))))))))))))) wsL_xX9) wsL_xX10) wsL_xX8) wsL_xX6) wsL_xX7) wsL_xX4) wsL_xX3) wsL_xX2) wsL_xX0) (fun _ h => nomatch h)
theorem wsL_law_x0 : ∀ w ∈ (vx_atS RX9 199 "java/util/NoSuchElementException" ["java/lang/RuntimeException", "java/lang/Exception"]).filter goodWord, w ∈ lw_tbl := by decide +kernel
theorem wsL_law_in : ∀ w ∈ wsL_law, w ∈ lw_tbl := fun w h => (List.mem_append.mp h).elim (fun h => wsL_law_in0 w h) (fun h => wsL_law_x0 w h)
theorem inlX0 : ∀ w ∈ wsX00, w ∈ wsL_law := fun _ h => List.mem_append_left _ (List.mem_append_left _ (List.mem_append_right _ h))
theorem inX0 : ∀ w ∈ wsX00, w ∈ lw_tbl := fun w h => wsL_law_in w (inlX0 w h)
theorem inlX2 : ∀ w ∈ wsX20, w ∈ wsL_law := fun _ h => List.mem_append_left _ (List.mem_append_left _ (List.mem_append_left _ (List.mem_append_right _ h)))
theorem inX2 : ∀ w ∈ wsX20, w ∈ lw_tbl := fun w h => wsL_law_in w (inlX2 w h)
theorem inlX3 : ∀ w ∈ wsX30, w ∈ wsL_law := fun _ h => List.mem_append_left _ (List.mem_append_left _ (List.mem_append_left _ (List.mem_append_left _ (List.mem_append_right _ h))))
theorem inX3 : ∀ w ∈ wsX30, w ∈ lw_tbl := fun w h => wsL_law_in w (inlX3 w h)
theorem inlX4 : ∀ w ∈ wsX40, w ∈ wsL_law := fun _ h => List.mem_append_left _ (List.mem_append_left _ (List.mem_append_left _ (List.mem_append_left _ (List.mem_append_left _ (List.mem_append_right _ h)))))
theorem inX4 : ∀ w ∈ wsX40, w ∈ lw_tbl := fun w h => wsL_law_in w (inlX4 w h)
theorem inlX6 : ∀ w ∈ wsX60, w ∈ wsL_law := fun _ h => List.mem_append_left _ (List.mem_append_left _ (List.mem_append_left _ (List.mem_append_left _ (List.mem_append_left _ (List.mem_append_left _ (List.mem_append_left _ (List.mem_append_right _ h)))))))
theorem inX6 : ∀ w ∈ wsX60, w ∈ lw_tbl := fun w h => wsL_law_in w (inlX6 w h)
theorem inlX7 : ∀ w ∈ wsX70, w ∈ wsL_law := fun _ h => List.mem_append_left _ (List.mem_append_left _ (List.mem_append_left _ (List.mem_append_left _ (List.mem_append_left _ (List.mem_append_left _ (List.mem_append_right _ h))))))
theorem inX7 : ∀ w ∈ wsX70, w ∈ lw_tbl := fun w h => wsL_law_in w (inlX7 w h)
theorem inlX8 : ∀ w ∈ wsX80, w ∈ wsL_law := fun _ h => List.mem_append_left _ (List.mem_append_left _ (List.mem_append_left _ (List.mem_append_left _ (List.mem_append_left _ (List.mem_append_left _ (List.mem_append_left _ (List.mem_append_left _ (List.mem_append_right _ h))))))))
theorem inX8 : ∀ w ∈ wsX80, w ∈ lw_tbl := fun w h => wsL_law_in w (inlX8 w h)
theorem inlX9 : ∀ w ∈ wsX90, w ∈ wsL_law := fun _ h => List.mem_append_left _ (List.mem_append_left _ (List.mem_append_left _ (List.mem_append_left _ (List.mem_append_left _ (List.mem_append_left _ (List.mem_append_left _ (List.mem_append_left _ (List.mem_append_left _ (List.mem_append_left _ (List.mem_append_right _ h))))))))))
theorem inX9 : ∀ w ∈ wsX90, w ∈ lw_tbl := fun w h => wsL_law_in w (inlX9 w h)
theorem inlX10 : ∀ w ∈ wsX100, w ∈ wsL_law := fun _ h => List.mem_append_left _ (List.mem_append_left _ (List.mem_append_left _ (List.mem_append_left _ (List.mem_append_left _ (List.mem_append_left _ (List.mem_append_left _ (List.mem_append_left _ (List.mem_append_left _ (List.mem_append_right _ h)))))))))
set_option maxRecDepth 20000 in
theorem ggL_about_X9_about : GoodIn wsL_about wsX9_about := goodIn_ca (goodIn_r _ [6, 7, 8, 9, 10, 11, 12, 13, 14, 15, 16, 17, 18, 19, 20, 21, 22, 23, 24, 25, 26, 27, 28, 29, 30, 31, 32, 33, 34, 35, 36, 37, 38, 39, 40, 41, 42, 43, 44, 45, 46, 47, 48, 49, 50, 51, 52, 53, 54, 55, 56, 57, 58, 59, 60, 61, 62, 63, 64, 65, 66, 67, 68, 69] (by decide +kernel) (by decide +kernel)) (goodIn_sub (fun _ h => List.mem_cons_of_mem _ (List.mem_append_right _ h)) (by decide +kernel))
set_option maxRecDepth 20000 in
theorem gL_about_X9_about : GoodIn wsL_about (wsV RL 7 RX9 yX9_about wsX9_about) := goodIn_app (goodIn_of _ (by decide +kernel)) ggL_about_X9_about
theorem dL_about_0 : decode cL_about 0 = .ok (.aload_n 3, 1) := by decide +kernel
theorem dL_about_1 : decode cL_about 1 = .ok (.iconst 0, 1) := by decide +kernel
theorem dL_about_2 : decode cL_about 2 = .ok (.aload_n 0, 1) := by decide +kernel
theorem dL_about_3 : decode cL_about 3 = .ok (.iload_n 1, 1) := by decide +kernel
theorem dL_about_4 : decode cL_about 4 = .ok (.iload_n 2, 1) := by decide +kernel
theorem dL_about_5 : decode cL_about 5 = .ok (.invokevirtual 7, 3) := by decide +kernel
theorem dL_about_8 : decode cL_about 8 = .ok (.i2l, 1) := by decide +kernel
theorem dL_about_9 : decode cL_about 9 = .ok (.lastore, 1) := by decide +kernel
theorem dL_about_10 : decode cL_about 10 = .ok (.goto 7, 3) := by decide +kernel
theorem dL_about_13 : decode cL_about 13 = .ok (.astore 4, 2) := by decide +kernel
theorem dL_about_15 : decode cL_about 15 = .ok (.iconst 1, 1) := by decide +kernel
theorem dL_about_16 : decode cL_about 16 = .ok (.ireturn, 1) := by decide +kernel
theorem dL_about_17 : decode cL_about 17 = .ok (.iconst 0, 1) := by decide +kernel
theorem dL_about_18 : decode cL_about 18 = .ok (.ireturn, 1) := by decide +kernel
set_option maxRecDepth 20000 in
theorem ggL_octet_X9_octet : GoodIn wsL_octet wsX9_octet := goodIn_ca (goodIn_r _ [6, 7, 8, 9, 10, 11, 12, 13, 14, 15, 16, 17, 18, 19, 20, 21, 22, 23, 24, 25, 26, 27, 28, 29, 30, 31, 32, 33, 34] (by decide +kernel) (by decide +kernel)) (goodIn_sub (fun _ h => List.mem_cons_of_mem _ (List.mem_append_right _ h)) (by decide +kernel))
set_option maxRecDepth 20000 in
theorem gL_octet_X9_octet : GoodIn wsL_octet (wsV RL 15 RX9 yX9_octet wsX9_octet) := goodIn_app (goodIn_of _ (by decide +kernel)) ggL_octet_X9_octet
theorem dL_octet_0 : decode cL_octet 0 = .ok (.aload_n 2, 1) := by decide +kernel
theorem dL_octet_1 : decode cL_octet 1 = .ok (.iconst 0, 1) := by decide +kernel
theorem dL_octet_2 : decode cL_octet 2 = .ok (.aload_n 0, 1) := by decide +kernel
theorem dL_octet_3 : decode cL_octet 3 = .ok (.iload_n 1, 1) := by decide +kernel
theorem dL_octet_4 : decode cL_octet 4 = .ok (.invokevirtual 15, 3) := by decide +kernel
theorem dL_octet_7 : decode cL_octet 7 = .ok (.i2l, 1) := by decide +kernel
theorem dL_octet_8 : decode cL_octet 8 = .ok (.lastore, 1) := by decide +kernel
theorem dL_octet_9 : decode cL_octet 9 = .ok (.goto 6, 3) := by decide +kernel
theorem dL_octet_12 : decode cL_octet 12 = .ok (.astore_n 3, 1) := by decide +kernel
theorem dL_octet_13 : decode cL_octet 13 = .ok (.iconst 1, 1) := by decide +kernel
theorem dL_octet_14 : decode cL_octet 14 = .ok (.ireturn, 1) := by decide +kernel
theorem dL_octet_15 : decode cL_octet 15 = .ok (.iconst 0, 1) := by decide +kernel
theorem dL_octet_16 : decode cL_octet 16 = .ok (.ireturn, 1) := by decide +kernel
set_option maxRecDepth 20000 in
theorem ggL_law_X9_init : GoodIn wsL_law wsX9_init := goodIn_r _ [9, 10, 11, 12, 13, 14, 15, 16, 17, 18, 19, 20, 21, 22, 23, 24, 25, 26, 27, 28, 29, 30, 31, 32, 33, 34, 35, 36, 37, 38, 39, 40, 41, 42, 43, 44, 45, 46, 47, 48, 49, 50, 51, 52, 53, 54, 55, 56, 57, 58, 59, 60, 61, 62, 63, 64, 65, 66, 67, 68, 69, 70, 71, 72, 73, 74, 75, 76, 77, 78, 79, 80, 81, 82, 83, 84, 85, 86, 87, 88, 89, 90, 91, 92, 919, 920, 862, 863, 864, 865, 866, 867, 868, 869, 870, 871, 872, 873, 874, 875, 876, 921, 922, 923, 924, 925, 926, 927, 928, 929, 930, 931, 932, 933, 934, 935, 936, 937, 938, 939, 940, 941, 942, 943, 944, 945, 946, 947, 948, 949] (by decide +kernel) (by decide +kernel)
set_option maxRecDepth 20000 in
theorem gL_law_X9_init : GoodIn wsL_law (wsX9_init) := ggL_law_X9_init
set_option maxRecDepth 20000 in
theorem ggL_law_X10_init : GoodIn wsL_law wsX10_init := goodIn_r _ [95, 96, 11, 12, 97, 98, 43, 99, 100, 56, 101, 102, 103, 104, 105, 106, 107, 108, 109, 110, 111, 112, 113, 114, 115, 116, 117, 118, 119, 120, 121, 122, 877, 878, 879, 880, 881, 882, 883, 884, 885, 886, 887, 888, 889, 890, 891, 892, 893, 894, 895, 896, 897, 898, 899, 900, 901, 902, 903, 904, 905, 906, 907, 908, 909, 910, 911, 912, 913, 914, 915, 916, 917, 918] (by decide +kernel) (by decide +kernel)
set_option maxRecDepth 20000 in
theorem gL_law_X10_init : GoodIn wsL_law (wsX10_init) := ggL_law_X10_init
set_option maxRecDepth 20000 in
theorem ggL_law_X9_feed : GoodIn wsL_law wsX9_feed := goodIn_r _ [126, 16, 127, 128, 129, 130, 15, 131, 132, 133, 134, 135, 136, 51, 862, 863, 864, 865, 866, 867, 868, 869, 870, 871, 872, 873, 874, 875, 876, 919, 920] (by decide +kernel) (by decide +kernel)
set_option maxRecDepth 20000 in
theorem gL_law_X9_feed : GoodIn wsL_law (wsV RL 23 RX9 yX9_feed wsX9_feed) := goodIn_app (goodIn_of _ (by decide +kernel)) ggL_law_X9_feed
set_option maxRecDepth 20000 in
theorem ggL_law_X10_feed : GoodIn wsL_law wsX10_feed := goodIn_r _ [140, 141, 142, 143, 144, 145, 5, 146, 98, 877, 878, 879, 880, 881, 882, 883, 884, 885, 886, 887, 888, 889, 890, 891, 892, 893, 894, 895, 896, 897, 898, 899, 900, 901, 902, 903, 904, 905, 906, 907, 908, 909, 910, 911, 912, 913, 914, 915, 916, 917, 918] (by decide +kernel) (by decide +kernel)
set_option maxRecDepth 20000 in
theorem gL_law_X10_feed : GoodIn wsL_law (wsV RL 27 RX10 yX10_feed wsX10_feed) := goodIn_app (goodIn_of _ (by decide +kernel)) ggL_law_X10_feed
set_option maxRecDepth 20000 in
theorem ggL_law_X9_end : GoodIn wsL_law wsX9_end := goodIn_r _ [150, 16, 127, 862, 863, 864, 865, 866, 867, 868, 869, 870, 871, 872, 873, 874, 875, 876, 919, 920] (by decide +kernel) (by decide +kernel)
set_option maxRecDepth 20000 in
theorem gL_law_X9_end : GoodIn wsL_law (wsV RL 28 RX9 yX9_end wsX9_end) := goodIn_app (goodIn_of _ (by decide +kernel)) ggL_law_X9_end
set_option maxRecDepth 20000 in
theorem ggL_law_X10_end : GoodIn wsL_law wsX10_end := goodIn_r _ [154, 141, 142, 877, 878, 879, 880, 881, 882, 883, 884, 885, 886, 887, 888, 889, 890, 891, 892, 893, 894, 895, 896, 897, 898, 899, 900, 901, 902, 903, 904, 905, 906, 907, 908, 909, 910, 911, 912, 913, 914, 915, 916, 917, 918] (by decide +kernel) (by decide +kernel)
set_option maxRecDepth 20000 in
theorem gL_law_X10_end : GoodIn wsL_law (wsV RL 32 RX10 yX10_end wsX10_end) := goodIn_app (goodIn_of _ (by decide +kernel)) ggL_law_X10_end
set_option maxRecDepth 20000 in
theorem ggL_law_X9_levels : GoodIn wsL_law wsX9_levels := goodIn_r _ [158, 26, 22, 16, 127, 159, 160, 161, 47, 21, 34, 38, 42, 162, 46, 163, 164, 165, 25, 166, 167, 168, 169, 170, 171, 172, 173, 174, 15, 175, 136, 51, 176, 177, 178, 179, 180, 181, 182, 183, 184, 185, 186, 187, 188, 189, 190, 191, 192, 193, 194, 195, 196, 197, 198, 199, 200, 201, 202, 203, 204, 205, 206, 207, 208, 209, 210, 211, 212, 213, 214, 215, 216, 217, 218, 219, 220, 221, 222, 223, 224, 225, 226, 227, 228, 229, 230, 231, 232, 233, 234, 235, 236, 237, 238, 239, 240, 241, 242, 243, 244, 245, 246, 247, 248, 249, 250, 20, 251, 252, 57, 253, 254, 255, 256, 257, 258, 259, 55, 260, 261, 262, 263, 264, 265, 266, 33, 267, 268, 269, 270, 271, 272, 37, 273, 82, 274, 83, 84, 85, 86, 275, 276, 277, 41, 278, 279, 280, 862, 863, 864, 865, 866, 867, 868, 869, 870, 871, 872, 873, 874, 875, 876, 919, 920, 924, 925, 926, 921, 922, 923, 932, 933, 934, 935, 936, 937, 938, 939, 940, 941, 942, 943, 944, 945, 946, 947, 948, 949] (by decide +kernel) (by decide +kernel)
set_option maxRecDepth 20000 in
theorem gL_law_X9_levels : GoodIn wsL_law (wsV RL 33 RX9 yX9_levels wsX9_levels) := goodIn_app (goodIn_of _ (by decide +kernel)) ggL_law_X9_levels
set_option maxRecDepth 20000 in
theorem ggL_law_X10_levels : GoodIn wsL_law wsX10_levels := goodIn_r _ [284, 141, 285, 104, 286, 103, 99, 100, 101, 102, 287, 288, 289, 290, 291, 292, 293, 5, 294, 142, 295, 296, 297, 298, 299, 300, 301, 302, 303, 304, 305, 306, 307, 308, 309, 310, 311, 312, 313, 98, 314, 315, 316, 317, 318, 319, 320, 321, 322, 323, 324, 325, 326, 327, 328, 329, 330, 331, 332, 877, 878, 879, 880, 881, 882, 883, 884, 885, 886, 887, 888, 889, 890, 891, 892, 893, 894, 895, 896, 897, 898, 899, 900, 901, 902, 903, 904, 905, 906, 907, 908, 909, 910, 911, 912, 913, 914, 915, 916, 917, 918] (by decide +kernel) (by decide +kernel)
set_option maxRecDepth 20000 in
theorem gL_law_X10_levels : GoodIn wsL_law (wsV RL 37 RX10 yX10_levels wsX10_levels) := goodIn_app (goodIn_of _ (by decide +kernel)) ggL_law_X10_levels
set_option maxRecDepth 20000 in
theorem ggL_law_X9_fault : GoodIn wsL_law wsX9_fault := goodIn_r _ [336, 160, 862, 863, 864, 865, 866, 867, 868, 869, 870, 871, 872, 873, 874, 875, 876] (by decide +kernel) (by decide +kernel)
set_option maxRecDepth 20000 in
theorem gL_law_X9_fault : GoodIn wsL_law (wsV RL 38 RX9 yX9_fault wsX9_fault) := goodIn_app (goodIn_of _ (by decide +kernel)) ggL_law_X9_fault
set_option maxRecDepth 20000 in
theorem ggL_law_X10_fault : GoodIn wsL_law wsX10_fault := goodIn_r _ [340, 141, 285, 877, 878, 879, 880, 881, 882, 883, 884, 885, 886, 887, 888, 889, 890, 891, 892, 893, 894, 895, 896, 897, 898, 899, 900, 901, 902, 903, 904, 905, 906, 907, 908, 909, 910, 911, 912, 913, 914, 915, 916, 917, 918] (by decide +kernel) (by decide +kernel)
set_option maxRecDepth 20000 in
theorem gL_law_X10_fault : GoodIn wsL_law (wsV RL 41 RX10 yX10_fault wsX10_fault) := goodIn_app (goodIn_of _ (by decide +kernel)) ggL_law_X10_fault
set_option maxRecDepth 20000 in
theorem ggL_law_X9_add : GoodIn wsL_law wsX9_add := goodIn_r _ [344, 34, 345, 346, 21, 42, 38, 347, 162, 348, 349, 350, 2, 351, 46, 352, 353, 354, 355, 33, 356, 268, 357, 358, 359, 360, 361, 362, 363, 364, 69, 73, 365, 366, 367, 368, 369, 370, 371, 372, 20, 373, 252, 57, 374, 375, 376, 377, 378, 379, 380, 381, 382, 70, 383, 384, 385, 386, 37, 387, 82, 80, 388, 389, 390, 391, 392, 393, 394, 395, 396, 397, 398, 399, 400, 401, 402, 403, 404, 405, 406, 407, 408, 409, 410, 411, 412, 413, 414, 415, 416, 417, 418, 419, 41, 420, 90, 279, 91, 92, 280, 421, 422, 423, 424, 425, 426, 427, 428, 429, 430, 431, 432, 71, 72, 433, 434, 435, 436, 78, 274, 79, 81, 437, 438, 439, 440, 441, 442, 443, 444, 445, 85, 446, 447, 448, 449, 450, 451, 452, 43, 453, 454, 862, 863, 864, 865, 866, 867, 868, 869, 870, 871, 872, 873, 874, 875, 876, 932, 933, 934, 935, 936, 937, 938, 939, 940, 941, 942, 943, 944, 921, 922, 923, 945, 946, 947, 948, 949] (by decide +kernel) (by decide +kernel)
set_option maxRecDepth 20000 in
theorem gL_law_X9_add : GoodIn wsL_law (wsV RL 42 RX9 yX9_add wsX9_add) := goodIn_app (goodIn_of _ (by decide +kernel)) ggL_law_X9_add
set_option maxRecDepth 20000 in
theorem ggL_law_X10_add : GoodIn wsL_law wsX10_add := goodIn_r _ [458, 141, 287, 105, 103, 106, 108, 290, 459, 109, 107, 460, 461, 462, 5, 463, 464, 465, 466, 467, 468, 469, 470, 471, 472, 473, 474, 475, 101, 476, 477, 478, 479, 288, 111, 112, 113, 480, 481, 482, 483, 117, 484, 485, 486, 487, 488, 489, 490, 491, 492, 493, 494, 495, 496, 497, 289, 114, 115, 116, 498, 499, 500, 501, 877, 878, 879, 880, 881, 882, 883, 884, 885, 886, 887, 888, 889, 890, 891, 892, 893, 894, 895, 896, 897, 898, 899, 900, 901, 902, 903, 904, 905, 906, 907, 908, 909, 910, 911, 912, 913, 914, 915, 916, 917, 918] (by decide +kernel) (by decide +kernel)
set_option maxRecDepth 20000 in
theorem gL_law_X10_add : GoodIn wsL_law (wsV RL 45 RX10 yX10_add wsX10_add) := goodIn_app (goodIn_of _ (by decide +kernel)) ggL_law_X10_add
set_option maxRecDepth 20000 in
theorem ggL_law_X9_strike : GoodIn wsL_law wsX9_strike := goodIn_r _ [505, 34, 506, 42, 38, 347, 353, 354, 355, 33, 356, 268, 417, 418, 419, 41, 420, 90, 279, 91, 92, 280, 421, 422, 423, 424, 507, 508, 509, 510, 72, 269, 383, 862, 863, 864, 865, 866, 867, 868, 869, 870, 871, 872, 873, 874, 875, 876, 932, 933, 934, 935, 936, 937, 938, 939, 940, 941, 942, 943, 944, 945, 946, 947, 948, 949] (by decide +kernel) (by decide +kernel)
set_option maxRecDepth 20000 in
theorem gL_law_X9_strike : GoodIn wsL_law (wsV RL 46 RX9 yX9_strike wsX9_strike) := goodIn_app (goodIn_of _ (by decide +kernel)) ggL_law_X9_strike
set_option maxRecDepth 20000 in
theorem ggL_law_X10_strike : GoodIn wsL_law wsX10_strike := goodIn_r _ [514, 141, 109, 460, 461, 462, 5, 463, 287, 494, 495, 496, 497, 289, 114, 115, 116, 288, 877, 878, 879, 880, 881, 882, 883, 884, 885, 886, 887, 888, 889, 890, 891, 892, 893, 894, 895, 896, 897, 898, 899, 900, 901, 902, 903, 904, 905, 906, 907, 908, 909, 910, 911, 912, 913, 914, 915, 916, 917, 918] (by decide +kernel) (by decide +kernel)
set_option maxRecDepth 20000 in
theorem gL_law_X10_strike : GoodIn wsL_law (wsV RL 49 RX10 yX10_strike wsX10_strike) := goodIn_app (goodIn_of _ (by decide +kernel)) ggL_law_X10_strike
set_option maxRecDepth 20000 in
theorem ggL_law_X9_renumber : GoodIn wsL_law wsX9_renumber := goodIn_r _ [518, 34, 42, 38, 347, 21, 346, 345, 378, 352, 506, 162, 353, 354, 355, 33, 356, 268, 417, 418, 419, 41, 420, 90, 279, 91, 92, 280, 421, 422, 423, 424, 370, 371, 372, 20, 373, 252, 57, 379, 380, 381, 382, 69, 70, 383, 433, 434, 435, 37, 436, 78, 274, 79, 80, 81, 82, 437, 385, 386, 387, 438, 439, 440, 441, 442, 443, 444, 445, 85, 446, 447, 448, 449, 450, 451, 452, 43, 453, 454, 430, 431, 432, 519, 400, 394, 401, 862, 863, 864, 865, 866, 867, 868, 869, 870, 871, 872, 873, 874, 875, 876, 939, 940, 941, 942, 943, 944, 932, 933, 934, 935, 936, 937, 938, 945, 946, 947, 948, 949, 921, 922, 923] (by decide +kernel) (by decide +kernel)
set_option maxRecDepth 20000 in
theorem gL_law_X9_renumber : GoodIn wsL_law (wsV RL 50 RX9 yX9_renumber wsX9_renumber) := goodIn_app (goodIn_of _ (by decide +kernel)) ggL_law_X9_renumber
set_option maxRecDepth 20000 in
theorem ggL_law_X10_renumber : GoodIn wsL_law wsX10_renumber := goodIn_r _ [523, 141, 287, 108, 109, 459, 460, 461, 462, 5, 463, 494, 495, 496, 497, 289, 114, 115, 116, 288, 472, 473, 474, 475, 105, 101, 106, 498, 499, 500, 501, 111, 112, 290, 113, 877, 878, 879, 880, 881, 882, 883, 884, 885, 886, 887, 888, 889, 890, 891, 892, 893, 894, 895, 896, 897, 898, 899, 900, 901, 902, 903, 904, 905, 906, 907, 908, 909, 910, 911, 912, 913, 914, 915, 916, 917, 918] (by decide +kernel) (by decide +kernel)
set_option maxRecDepth 20000 in
theorem gL_law_X10_renumber : GoodIn wsL_law (wsV RL 53 RX10 yX10_renumber wsX10_renumber) := goodIn_app (goodIn_of _ (by decide +kernel)) ggL_law_X10_renumber
set_option maxRecDepth 20000 in
theorem ggL_law_X9_error : GoodIn wsL_law wsX9_error := goodIn_r _ [527, 34, 42, 38, 347, 162, 519, 400, 394, 401, 528, 529, 530, 414, 415, 416, 353, 354, 355, 33, 356, 268, 417, 418, 419, 41, 420, 90, 279, 91, 92, 280, 421, 422, 423, 424, 433, 434, 435, 37, 436, 78, 274, 79, 80, 81, 82, 437, 385, 386, 387, 438, 439, 440, 441, 442, 443, 444, 445, 85, 446, 447, 448, 449, 450, 451, 452, 43, 453, 454, 430, 431, 432, 862, 863, 864, 865, 866, 867, 868, 869, 870, 871, 872, 873, 874, 875, 876, 939, 940, 941, 942, 943, 944, 932, 933, 934, 935, 936, 937, 938, 945, 946, 947, 948, 949] (by decide +kernel) (by decide +kernel)
set_option maxRecDepth 20000 in
theorem gL_law_X9_error : GoodIn wsL_law (wsV RL 54 RX9 yX9_error wsX9_error) := goodIn_app (goodIn_of _ (by decide +kernel)) ggL_law_X9_error
set_option maxRecDepth 20000 in
theorem ggL_law_X10_error : GoodIn wsL_law wsX10_error := goodIn_r _ [534, 141, 117, 459, 460, 461, 462, 5, 463, 287, 535, 536, 537, 494, 495, 496, 497, 289, 114, 115, 116, 288, 490, 491, 492, 493, 498, 499, 500, 501, 111, 112, 290, 113, 877, 878, 879, 880, 881, 882, 883, 884, 885, 886, 887, 888, 889, 890, 891, 892, 893, 894, 895, 896, 897, 898, 899, 900, 901, 902, 903, 904, 905, 906, 907, 908, 909, 910, 911, 912, 913, 914, 915, 916, 917, 918] (by decide +kernel) (by decide +kernel)
set_option maxRecDepth 20000 in
theorem gL_law_X10_error : GoodIn wsL_law (wsV RL 58 RX10 yX10_error wsX10_error) := goodIn_app (goodIn_of _ (by decide +kernel)) ggL_law_X10_error
set_option maxRecDepth 20000 in
theorem ggL_law_X9_undo : GoodIn wsL_law wsX9_undo := goodIn_r _ [541, 42, 38, 34, 542, 543, 544, 41, 545, 280, 90, 546, 547, 548, 549, 279, 550, 551, 552, 553, 92, 554, 555, 556, 37, 557, 274, 82, 78, 81, 558, 559, 560, 33, 561, 268, 73, 429, 430, 431, 432, 365, 366, 367, 368, 562, 563, 564, 565, 91, 507, 508, 509, 510, 72, 269, 383, 354, 355, 356, 566, 567, 568, 569, 862, 863, 864, 865, 866, 867, 868, 869, 870, 871, 872, 873, 874, 875, 876, 945, 946, 947, 948, 949, 939, 940, 941, 942, 943, 944, 932, 933, 934, 935, 936, 937, 938] (by decide +kernel) (by decide +kernel)
set_option maxRecDepth 20000 in
theorem gL_law_X9_undo : GoodIn wsL_law (wsV RL 59 RX9 yX9_undo wsX9_undo) := goodIn_app (goodIn_of _ (by decide +kernel)) ggL_law_X9_undo
set_option maxRecDepth 20000 in
theorem ggL_law_X10_undo : GoodIn wsL_law wsX10_undo := goodIn_r _ [573, 141, 289, 116, 288, 115, 114, 109, 287, 108, 464, 465, 466, 5, 467, 877, 878, 879, 880, 881, 882, 883, 884, 885, 886, 887, 888, 889, 890, 891, 892, 893, 894, 895, 896, 897, 898, 899, 900, 901, 902, 903, 904, 905, 906, 907, 908, 909, 910, 911, 912, 913, 914, 915, 916, 917, 918] (by decide +kernel) (by decide +kernel)
set_option maxRecDepth 20000 in
theorem gL_law_X10_undo : GoodIn wsL_law (wsV RL 63 RX10 yX10_undo wsX10_undo) := goodIn_app (goodIn_of _ (by decide +kernel)) ggL_law_X10_undo
set_option maxRecDepth 20000 in
theorem ggL_law_X9_wait : GoodIn wsL_law wsX9_wait := goodIn_r _ [577, 162, 862, 863, 864, 865, 866, 867, 868, 869, 870, 871, 872, 873, 874, 875, 876] (by decide +kernel) (by decide +kernel)
set_option maxRecDepth 20000 in
theorem gL_law_X9_wait : GoodIn wsL_law (wsV RL 64 RX9 yX9_wait wsX9_wait) := goodIn_app (goodIn_of _ (by decide +kernel)) ggL_law_X9_wait
set_option maxRecDepth 20000 in
theorem ggL_law_X10_wait : GoodIn wsL_law wsX10_wait := goodIn_r _ [581, 141, 290, 877, 878, 879, 880, 881, 882, 883, 884, 885, 886, 887, 888, 889, 890, 891, 892, 893, 894, 895, 896, 897, 898, 899, 900, 901, 902, 903, 904, 905, 906, 907, 908, 909, 910, 911, 912, 913, 914, 915, 916, 917, 918] (by decide +kernel) (by decide +kernel)
set_option maxRecDepth 20000 in
theorem gL_law_X10_wait : GoodIn wsL_law (wsV RL 67 RX10 yX10_wait wsX10_wait) := goodIn_app (goodIn_of _ (by decide +kernel)) ggL_law_X10_wait
set_option maxRecDepth 20000 in
theorem ggL_law_L_about : GoodIn wsL_law wsL_about := goodIn_ca (goodIn_r _ [585, 586, 587, 588, 589, 2, 590, 591, 592, 34, 346, 352, 506, 21, 593, 353, 354, 355, 33, 356, 268, 370, 371, 372, 20, 373, 252, 57, 594, 595, 596, 597, 73, 69, 70, 365, 366, 367, 368, 598, 380, 381, 382, 383, 369, 862, 863, 864, 865, 866, 867, 868, 869, 870, 871, 872, 873, 874, 875, 876, 932, 933, 934, 935, 936, 937, 938, 921, 922, 923] (by decide +kernel) (by decide +kernel)) (goodIn_sub (fun _ h => List.mem_append_right _ h) (by decide +kernel))
set_option maxRecDepth 20000 in
theorem gL_law_L_about : GoodIn wsL_law (va_wsS RL 68 yL_about wsL_about) := goodIn_app (goodIn_of _ (by decide +kernel)) ggL_law_L_about
set_option maxRecDepth 20000 in
theorem ggL_law_X10_about : GoodIn wsL_law wsX10_about := goodIn_r _ [602, 105, 106, 109, 108, 107, 460, 461, 462, 5, 463, 287, 603, 604, 605, 606, 141, 464, 465, 466, 467, 472, 473, 474, 475, 101, 877, 878, 879, 880, 881, 882, 883, 884, 885, 886, 887, 888, 889, 890, 891, 892, 893, 894, 895, 896, 897, 898, 899, 900, 901, 902, 903, 904, 905, 906, 907, 908, 909, 910, 911, 912, 913, 914, 915, 916, 917, 918] (by decide +kernel) (by decide +kernel)
set_option maxRecDepth 20000 in
theorem gL_law_X10_about : GoodIn wsL_law (wsV RL 73 RX10 yX10_about wsX10_about) := goodIn_app (goodIn_of _ (by decide +kernel)) ggL_law_X10_about
set_option maxRecDepth 20000 in
theorem ggL_law_X10_thrown : GoodIn wsL_law wsX10_thrown := goodIn_r _ [610, 141, 877, 878, 879, 880, 881, 882, 883, 884, 885, 886, 887, 888, 889, 890, 891, 892, 893, 894, 895, 896, 897, 898, 899, 900, 901, 902, 903, 904, 905, 906, 907, 908, 909, 910, 911, 912, 913, 914, 915, 916, 917, 918] (by decide +kernel) (by decide +kernel)
set_option maxRecDepth 20000 in
theorem gL_law_X10_thrown : GoodIn wsL_law (wsV RL 74 RX10 yX10_thrown wsX10_thrown) := goodIn_app (goodIn_of _ (by decide +kernel)) ggL_law_X10_thrown
set_option maxRecDepth 20000 in
theorem ggL_law_X9_label : GoodIn wsL_law wsX9_label := goodIn_r _ [614, 38, 34, 17, 127, 21, 346, 615, 616, 617, 37, 618, 82, 79, 81, 80, 353, 354, 355, 33, 356, 268, 619, 620, 621, 20, 622, 252, 55, 623, 624, 625, 626, 627, 397, 394, 398, 628, 629, 630, 631, 632, 633, 634, 133, 134, 15, 135, 136, 51, 635, 636, 637, 638, 639, 640, 641, 406, 407, 408, 409, 410, 642, 862, 863, 864, 865, 866, 867, 868, 869, 870, 871, 872, 873, 874, 875, 876, 919, 920, 932, 933, 934, 935, 936, 937, 938, 939, 940, 941, 942, 943, 944, 921, 922, 923] (by decide +kernel) (by decide +kernel)
set_option maxRecDepth 20000 in
theorem gL_law_X9_label : GoodIn wsL_law (wsV RL 77 RX9 yX9_label wsX9_label) := goodIn_app (goodIn_of _ (by decide +kernel)) ggL_law_X9_label
set_option maxRecDepth 20000 in
theorem ggL_law_X10_label : GoodIn wsL_law wsX10_label := goodIn_r _ [646, 141, 647, 99, 105, 460, 461, 462, 5, 463, 287, 476, 477, 478, 479, 288, 111, 112, 113, 648, 649, 650, 651, 459, 652, 653, 654, 655, 656, 657, 658, 659, 118, 660, 661, 662, 663, 664, 665, 666, 667, 119, 120, 668, 669, 670, 484, 485, 486, 487, 488, 489, 877, 878, 879, 880, 881, 882, 883, 884, 885, 886, 887, 888, 889, 890, 891, 892, 893, 894, 895, 896, 897, 898, 899, 900, 901, 902, 903, 904, 905, 906, 907, 908, 909, 910, 911, 912, 913, 914, 915, 916, 917, 918] (by decide +kernel) (by decide +kernel)
set_option maxRecDepth 20000 in
theorem gL_law_X10_label : GoodIn wsL_law (wsV RL 80 RX10 yX10_label wsX10_label) := goodIn_app (goodIn_of _ (by decide +kernel)) ggL_law_X10_label
set_option maxRecDepth 20000 in
theorem ggL_law_X9_cited : GoodIn wsL_law wsX9_cited := goodIn_r _ [674, 34, 346, 44, 38, 352, 17, 127, 21, 353, 354, 355, 33, 356, 268, 615, 616, 617, 37, 618, 82, 79, 81, 80, 675, 133, 134, 15, 135, 136, 51, 619, 620, 621, 20, 622, 252, 55, 623, 624, 625, 626, 627, 397, 394, 398, 628, 629, 630, 631, 632, 633, 634, 635, 636, 637, 638, 639, 640, 641, 406, 407, 408, 409, 410, 642, 862, 863, 864, 865, 866, 867, 868, 869, 870, 871, 872, 873, 874, 875, 876, 932, 933, 934, 935, 936, 937, 938, 919, 920, 939, 940, 941, 942, 943, 944, 921, 922, 923] (by decide +kernel) (by decide +kernel)
set_option maxRecDepth 20000 in
theorem gL_law_X9_cited : GoodIn wsL_law (wsV RL 81 RX9 yX9_cited wsX9_cited) := goodIn_app (goodIn_of _ (by decide +kernel)) ggL_law_X9_cited
set_option maxRecDepth 20000 in
theorem ggL_law_X10_cited : GoodIn wsL_law wsX10_cited := goodIn_r _ [679, 141, 105, 647, 99, 460, 461, 462, 5, 463, 287, 680, 681, 682, 683, 106, 476, 477, 478, 479, 288, 111, 112, 113, 656, 657, 658, 659, 118, 648, 649, 650, 651, 459, 652, 653, 654, 655, 660, 661, 662, 663, 664, 665, 666, 667, 119, 120, 668, 669, 670, 484, 485, 486, 487, 488, 489, 877, 878, 879, 880, 881, 882, 883, 884, 885, 886, 887, 888, 889, 890, 891, 892, 893, 894, 895, 896, 897, 898, 899, 900, 901, 902, 903, 904, 905, 906, 907, 908, 909, 910, 911, 912, 913, 914, 915, 916, 917, 918] (by decide +kernel) (by decide +kernel)
set_option maxRecDepth 20000 in
theorem gL_law_X10_cited : GoodIn wsL_law (wsV RL 84 RX10 yX10_cited wsX10_cited) := goodIn_app (goodIn_of _ (by decide +kernel)) ggL_law_X10_cited
set_option maxRecDepth 20000 in
theorem ggL_law_L_octet : GoodIn wsL_law wsL_octet := goodIn_ca (goodIn_r _ [686, 586, 687, 688, 689, 2, 690, 591, 592, 17, 127, 691, 173, 174, 15, 175, 136, 51, 862, 863, 864, 865, 866, 867, 868, 869, 870, 871, 872, 873, 874, 875, 876, 919, 920] (by decide +kernel) (by decide +kernel)) (goodIn_sub (fun _ h => List.mem_append_right _ h) (by decide +kernel))
set_option maxRecDepth 20000 in
theorem gL_law_L_octet : GoodIn wsL_law (va_wsS RL 85 yL_octet wsL_octet) := goodIn_app (goodIn_of _ (by decide +kernel)) ggL_law_L_octet
set_option maxRecDepth 20000 in
theorem ggL_law_X10_octet : GoodIn wsL_law wsX10_octet := goodIn_r _ [695, 647, 118, 603, 604, 605, 5, 606, 141, 877, 878, 879, 880, 881, 882, 883, 884, 885, 886, 887, 888, 889, 890, 891, 892, 893, 894, 895, 896, 897, 898, 899, 900, 901, 902, 903, 904, 905, 906, 907, 908, 909, 910, 911, 912, 913, 914, 915, 916, 917, 918] (by decide +kernel) (by decide +kernel)
set_option maxRecDepth 20000 in
theorem gL_law_X10_octet : GoodIn wsL_law (wsV RL 88 RX10 yX10_octet wsX10_octet) := goodIn_app (goodIn_of _ (by decide +kernel)) ggL_law_X10_octet
set_option maxRecDepth 20000 in
theorem ggL_law_X9_cite : GoodIn wsL_law wsX9_cite := goodIn_r _ [699, 160, 47, 16, 127, 700, 34, 345, 378, 346, 701, 702, 703, 2, 704, 21, 46, 30, 705, 706, 44, 707, 708, 619, 620, 621, 20, 622, 252, 55, 709, 710, 711, 29, 712, 713, 714, 715, 716, 717, 718, 719, 720, 721, 173, 174, 15, 175, 136, 51, 722, 723, 625, 724, 725, 726, 727, 728, 729, 730, 731, 732, 733, 734, 735, 736, 737, 738, 739, 740, 741, 742, 743, 744, 745, 746, 747, 748, 749, 400, 394, 401, 750, 529, 530, 414, 415, 416, 751, 752, 753, 754, 65, 755, 624, 626, 627, 397, 398, 628, 629, 630, 631, 632, 633, 634, 133, 134, 135, 635, 636, 637, 638, 639, 640, 641, 406, 407, 408, 409, 410, 642, 756, 757, 758, 759, 210, 691, 760, 761, 762, 763, 38, 352, 353, 354, 355, 33, 356, 268, 615, 616, 617, 37, 618, 82, 79, 81, 80, 862, 863, 864, 865, 866, 867, 868, 869, 870, 871, 872, 873, 874, 875, 876, 919, 920, 932, 933, 934, 935, 936, 937, 938, 921, 922, 923, 927, 928, 929, 930, 931, 939, 940, 941, 942, 943, 944] (by decide +kernel) (by decide +kernel)
set_option maxRecDepth 20000 in
theorem gL_law_X9_cite : GoodIn wsL_law (wsV RL 89 RX9 yX9_cite wsX9_cite) := goodIn_app (goodIn_of _ (by decide +kernel)) ggL_law_X9_cite
set_option maxRecDepth 20000 in
theorem ggL_law_X10_cite : GoodIn wsL_law wsX10_cite := goodIn_r _ [767, 141, 285, 104, 768, 769, 770, 287, 108, 105, 122, 291, 292, 293, 5, 294, 142, 295, 296, 771, 772, 773, 774, 99, 775, 103, 776, 777, 778, 779, 780, 117, 98, 459, 310, 311, 312, 313, 781, 782, 783, 784, 785, 786, 314, 315, 316, 668, 669, 670, 787, 788, 789, 790, 791, 792, 793, 535, 536, 537, 490, 491, 492, 493, 794, 795, 796, 797, 647, 121, 118, 648, 649, 650, 651, 652, 653, 654, 655, 656, 657, 658, 659, 660, 661, 662, 663, 664, 665, 666, 667, 119, 120, 484, 485, 486, 487, 488, 489, 680, 681, 682, 683, 106, 476, 477, 478, 479, 288, 111, 112, 113, 877, 878, 879, 880, 881, 882, 883, 884, 885, 886, 887, 888, 889, 890, 891, 892, 893, 894, 895, 896, 897, 898, 899, 900, 901, 902, 903, 904, 905, 906, 907, 908, 909, 910, 911, 912, 913, 914, 915, 916, 917, 918] (by decide +kernel) (by decide +kernel)
set_option maxRecDepth 20000 in
theorem gL_law_X10_cite : GoodIn wsL_law (wsV RL 92 RX10 yX10_cite wsX10_cite) := goodIn_app (goodIn_of _ (by decide +kernel)) ggL_law_X10_cite
set_option maxRecDepth 20000 in
theorem ggL_law_X9_place : GoodIn wsL_law wsX9_place := goodIn_r _ [801, 47, 862, 863, 864, 865, 866, 867, 868, 869, 870, 871, 872, 873, 874, 875, 876] (by decide +kernel) (by decide +kernel)
set_option maxRecDepth 20000 in
theorem gL_law_X9_place : GoodIn wsL_law (wsV RL 93 RX9 yX9_place wsX9_place) := goodIn_app (goodIn_of _ (by decide +kernel)) ggL_law_X9_place
set_option maxRecDepth 20000 in
theorem ggL_law_X10_place : GoodIn wsL_law wsX10_place := goodIn_r _ [805, 141, 104, 877, 878, 879, 880, 881, 882, 883, 884, 885, 886, 887, 888, 889, 890, 891, 892, 893, 894, 895, 896, 897, 898, 899, 900, 901, 902, 903, 904, 905, 906, 907, 908, 909, 910, 911, 912, 913, 914, 915, 916, 917, 918] (by decide +kernel) (by decide +kernel)
set_option maxRecDepth 20000 in
theorem gL_law_X10_place : GoodIn wsL_law (wsV RL 96 RX10 yX10_place wsX10_place) := goodIn_app (goodIn_of _ (by decide +kernel)) ggL_law_X10_place
set_option maxRecDepth 20000 in
theorem ggL_law_X9_bearers : GoodIn wsL_law wsX9_bearers := goodIn_r _ [809, 700, 862, 863, 864, 865, 866, 867, 868, 869, 870, 871, 872, 873, 874, 875, 876] (by decide +kernel) (by decide +kernel)
set_option maxRecDepth 20000 in
theorem gL_law_X9_bearers : GoodIn wsL_law (wsV RL 97 RX9 yX9_bearers wsX9_bearers) := goodIn_app (goodIn_of _ (by decide +kernel)) ggL_law_X9_bearers
set_option maxRecDepth 20000 in
theorem ggL_law_X10_bearers : GoodIn wsL_law wsX10_bearers := goodIn_r _ [813, 141, 770, 877, 878, 879, 880, 881, 882, 883, 884, 885, 886, 887, 888, 889, 890, 891, 892, 893, 894, 895, 896, 897, 898, 899, 900, 901, 902, 903, 904, 905, 906, 907, 908, 909, 910, 911, 912, 913, 914, 915, 916, 917, 918] (by decide +kernel) (by decide +kernel)
set_option maxRecDepth 20000 in
theorem gL_law_X10_bearers : GoodIn wsL_law (wsV RL 100 RX10 yX10_bearers wsX10_bearers) := goodIn_app (goodIn_of _ (by decide +kernel)) ggL_law_X10_bearers
set_option maxRecDepth 20000 in
theorem ggL_law_X9_read : GoodIn wsL_law wsX9_read := goodIn_r _ [817, 30, 16, 705, 708, 127, 707, 818, 709, 710, 711, 29, 712, 713, 714, 715, 716, 717, 718, 719, 720, 721, 173, 174, 15, 175, 136, 51, 722, 723, 625, 724, 725, 726, 727, 728, 729, 730, 731, 732, 733, 734, 735, 736, 737, 738, 739, 740, 741, 742, 743, 744, 745, 746, 747, 748, 749, 400, 394, 401, 750, 529, 530, 414, 415, 416, 751, 752, 753, 754, 65, 755, 624, 626, 627, 397, 398, 628, 629, 630, 631, 632, 633, 634, 133, 134, 135, 635, 636, 637, 638, 639, 640, 641, 406, 407, 408, 409, 410, 642, 756, 757, 758, 759, 210, 819, 820, 821, 822, 405, 862, 863, 864, 865, 866, 867, 868, 869, 870, 871, 872, 873, 874, 875, 876, 927, 928, 929, 930, 931, 919, 920] (by decide +kernel) (by decide +kernel)
set_option maxRecDepth 20000 in
theorem gL_law_X9_read : GoodIn wsL_law (wsV RL 101 RX9 yX9_read wsX9_read) := goodIn_app (goodIn_of _ (by decide +kernel)) ggL_law_X9_read
set_option maxRecDepth 20000 in
theorem ggL_law_X10_read : GoodIn wsL_law wsX10_read := goodIn_r _ [826, 141, 296, 295, 827, 775, 459, 291, 292, 293, 5, 294, 142, 776, 777, 778, 779, 780, 117, 98, 310, 311, 312, 313, 781, 782, 783, 784, 785, 786, 314, 315, 316, 668, 669, 670, 787, 788, 789, 790, 768, 769, 791, 792, 793, 535, 536, 537, 490, 491, 492, 493, 794, 795, 796, 797, 647, 121, 118, 648, 649, 650, 651, 652, 653, 654, 655, 656, 657, 658, 659, 660, 661, 662, 663, 664, 665, 666, 667, 119, 120, 484, 485, 486, 487, 488, 489, 877, 878, 879, 880, 881, 882, 883, 884, 885, 886, 887, 888, 889, 890, 891, 892, 893, 894, 895, 896, 897, 898, 899, 900, 901, 902, 903, 904, 905, 906, 907, 908, 909, 910, 911, 912, 913, 914, 915, 916, 917, 918] (by decide +kernel) (by decide +kernel)
set_option maxRecDepth 20000 in
theorem gL_law_X10_read : GoodIn wsL_law (wsV RL 104 RX10 yX10_read wsX10_read) := goodIn_app (goodIn_of _ (by decide +kernel)) ggL_law_X10_read
set_option maxRecDepth 20000 in
theorem ggL_law_X9_suffix : GoodIn wsL_law wsX9_suffix := goodIn_r _ [831, 818, 862, 863, 864, 865, 866, 867, 868, 869, 870, 871, 872, 873, 874, 875, 876] (by decide +kernel) (by decide +kernel)
set_option maxRecDepth 20000 in
theorem gL_law_X9_suffix : GoodIn wsL_law (wsV RL 105 RX9 yX9_suffix wsX9_suffix) := goodIn_app (goodIn_of _ (by decide +kernel)) ggL_law_X9_suffix
set_option maxRecDepth 20000 in
theorem ggL_law_X10_suffix : GoodIn wsL_law wsX10_suffix := goodIn_r _ [835, 141, 827, 877, 878, 879, 880, 881, 882, 883, 884, 885, 886, 887, 888, 889, 890, 891, 892, 893, 894, 895, 896, 897, 898, 899, 900, 901, 902, 903, 904, 905, 906, 907, 908, 909, 910, 911, 912, 913, 914, 915, 916, 917, 918] (by decide +kernel) (by decide +kernel)
set_option maxRecDepth 20000 in
theorem gL_law_X10_suffix : GoodIn wsL_law (wsV RL 108 RX10 yX10_suffix wsX10_suffix) := goodIn_app (goodIn_of _ (by decide +kernel)) ggL_law_X10_suffix
set_option maxRecDepth 20000 in
theorem ggL_law_X9_clash : GoodIn wsL_law wsX9_clash := goodIn_r _ [839, 34, 345, 378, 346, 38, 352, 21, 384, 385, 386, 37, 387, 82, 80, 370, 371, 372, 20, 373, 252, 57, 374, 375, 376, 2, 377, 379, 380, 381, 33, 382, 69, 70, 383, 354, 355, 356, 268, 862, 863, 864, 865, 866, 867, 868, 869, 870, 871, 872, 873, 874, 875, 876, 932, 933, 934, 935, 936, 937, 938, 939, 940, 941, 942, 943, 944, 921, 922, 923] (by decide +kernel) (by decide +kernel)
set_option maxRecDepth 20000 in
theorem gL_law_X9_clash : GoodIn wsL_law (wsV RL 109 RX9 yX9_clash wsX9_clash) := goodIn_app (goodIn_of _ (by decide +kernel)) ggL_law_X9_clash
set_option maxRecDepth 20000 in
theorem ggL_law_X10_clash : GoodIn wsL_law wsX10_clash := goodIn_r _ [843, 141, 287, 108, 290, 476, 477, 478, 5, 479, 288, 111, 112, 113, 472, 473, 474, 475, 105, 101, 106, 877, 878, 879, 880, 881, 882, 883, 884, 885, 886, 887, 888, 889, 890, 891, 892, 893, 894, 895, 896, 897, 898, 899, 900, 901, 902, 903, 904, 905, 906, 907, 908, 909, 910, 911, 912, 913, 914, 915, 916, 917, 918] (by decide +kernel) (by decide +kernel)
set_option maxRecDepth 20000 in
theorem gL_law_X10_clash : GoodIn wsL_law (wsV RL 112 RX10 yX10_clash wsX10_clash) := goodIn_app (goodIn_of _ (by decide +kernel)) ggL_law_X10_clash
set_option maxRecDepth 20000 in
theorem ggL_law_X9_at : GoodIn wsL_law wsX9_at := goodIn_r _ [847, 34, 345, 378, 862, 863, 864, 865, 866, 867, 868, 869, 870, 871, 872, 873, 874, 875, 876, 932, 933, 934, 935, 936, 937, 938] (by decide +kernel) (by decide +kernel)
set_option maxRecDepth 20000 in
theorem gL_law_X9_at : GoodIn wsL_law (wsV RL 113 RX9 yX9_at wsX9_at) := goodIn_app (goodIn_of _ (by decide +kernel)) ggL_law_X9_at
set_option maxRecDepth 20000 in
theorem ggL_law_X10_at : GoodIn wsL_law wsX10_at := goodIn_r _ [851, 141, 287, 108, 877, 878, 879, 880, 881, 882, 883, 884, 885, 886, 887, 888, 889, 890, 891, 892, 893, 894, 895, 896, 897, 898, 899, 900, 901, 902, 903, 904, 905, 906, 907, 908, 909, 910, 911, 912, 913, 914, 915, 916, 917, 918] (by decide +kernel) (by decide +kernel)
set_option maxRecDepth 20000 in
theorem gL_law_X10_at : GoodIn wsL_law (wsV RL 116 RX10 yX10_at wsX10_at) := goodIn_app (goodIn_of _ (by decide +kernel)) ggL_law_X10_at
set_option maxRecDepth 20000 in
theorem ggL_law_X9_count : GoodIn wsL_law wsX9_count := goodIn_r _ [855, 21, 46, 34, 345, 856, 162, 42, 857, 17, 127, 16, 862, 863, 864, 865, 866, 867, 868, 869, 870, 871, 872, 873, 874, 875, 876, 921, 922, 923, 932, 933, 934, 935, 936, 937, 938, 945, 946, 947, 948, 949, 919, 920] (by decide +kernel) (by decide +kernel)
set_option maxRecDepth 20000 in
theorem gL_law_X9_count : GoodIn wsL_law (wsV RL 117 RX9 yX9_count wsX9_count) := goodIn_app (goodIn_of _ (by decide +kernel)) ggL_law_X9_count
set_option maxRecDepth 20000 in
theorem ggL_law_X10_count : GoodIn wsL_law wsX10_count := goodIn_r _ [861, 141, 103, 287, 109, 290, 289, 647, 142, 877, 878, 879, 880, 881, 882, 883, 884, 885, 886, 887, 888, 889, 890, 891, 892, 893, 894, 895, 896, 897, 898, 899, 900, 901, 902, 903, 904, 905, 906, 907, 908, 909, 910, 911, 912, 913, 914, 915, 916, 917, 918] (by decide +kernel) (by decide +kernel)
set_option maxRecDepth 20000 in
theorem gL_law_X10_count : GoodIn wsL_law (wsV RL 120 RX10 yX10_count wsX10_count) := goodIn_app (goodIn_of _ (by decide +kernel)) ggL_law_X10_count
theorem dL_law_0 : decode cL_law 0 = .ok (.new 8, 3) := by decide +kernel
theorem dL_law_3 : decode cL_law 3 = .ok (.dup, 1) := by decide +kernel
theorem dL_law_4 : decode cL_law 4 = .ok (.invokespecial 19, 3) := by decide +kernel
theorem dL_law_7 : decode cL_law 7 = .ok (.astore_n 1, 1) := by decide +kernel
theorem dL_law_8 : decode cL_law 8 = .ok (.new 20, 3) := by decide +kernel
theorem dL_law_11 : decode cL_law 11 = .ok (.dup, 1) := by decide +kernel
theorem dL_law_12 : decode cL_law 12 = .ok (.invokespecial 22, 3) := by decide +kernel
theorem dL_law_15 : decode cL_law 15 = .ok (.astore_n 2, 1) := by decide +kernel
theorem dL_law_16 : decode cL_law 16 = .ok (.iconst 1, 1) := by decide +kernel
theorem dL_law_17 : decode cL_law 17 = .ok (.newarray .long, 2) := by decide +kernel
theorem dL_law_19 : decode cL_law 19 = .ok (.astore_n 3, 1) := by decide +kernel
theorem dL_law_20 : decode cL_law 20 = .ok (.iconst 0, 1) := by decide +kernel
theorem dL_law_21 : decode cL_law 21 = .ok (.istore 4, 2) := by decide +kernel
theorem dL_law_23 : decode cL_law 23 = .ok (.iload 4, 2) := by decide +kernel
theorem dL_law_25 : decode cL_law 25 = .ok (.aload_n 0, 1) := by decide +kernel
theorem dL_law_26 : decode cL_law 26 = .ok (.arraylength, 1) := by decide +kernel
theorem dL_law_27 : decode cL_law 27 = .ok (.bipush 6, 2) := by decide +kernel
theorem dL_law_29 : decode cL_law 29 = .ok (.isub, 1) := by decide +kernel
theorem dL_law_30 : decode cL_law 30 = .ok (.if_icmp .gt 768, 3) := by decide +kernel
theorem dL_law_33 : decode cL_law 33 = .ok (.aload_n 0, 1) := by decide +kernel
theorem dL_law_34 : decode cL_law 34 = .ok (.iload 4, 2) := by decide +kernel
theorem dL_law_36 : decode cL_law 36 = .ok (.iaload, 1) := by decide +kernel
theorem dL_law_37 : decode cL_law 37 = .ok (.bipush 31, 2) := by decide +kernel
theorem dL_law_39 : decode cL_law 39 = .ok (.iand, 1) := by decide +kernel
theorem dL_law_40 : decode cL_law 40 = .ok (.tableswitch 752 0 21 #[104, 177, 202, 215, 228, 265, 290, 315, 364, 377, 402, 470, 507, 544, 600, 625, 638, 651, 676, 689, 702, 727], 104) := by decide +kernel
theorem dL_law_144 : decode cL_law 144 = .ok (.aload_n 1, 1) := by decide +kernel
theorem dL_law_145 : decode cL_law 145 = .ok (.aload_n 0, 1) := by decide +kernel
theorem dL_law_146 : decode cL_law 146 = .ok (.iload 4, 2) := by decide +kernel
theorem dL_law_148 : decode cL_law 148 = .ok (.iconst 1, 1) := by decide +kernel
theorem dL_law_149 : decode cL_law 149 = .ok (.iadd, 1) := by decide +kernel
theorem dL_law_150 : decode cL_law 150 = .ok (.iaload, 1) := by decide +kernel
theorem dL_law_151 : decode cL_law 151 = .ok (.aload_n 0, 1) := by decide +kernel
theorem dL_law_152 : decode cL_law 152 = .ok (.iload 4, 2) := by decide +kernel
theorem dL_law_154 : decode cL_law 154 = .ok (.iconst 2, 1) := by decide +kernel
theorem dL_law_155 : decode cL_law 155 = .ok (.iadd, 1) := by decide +kernel
theorem dL_law_156 : decode cL_law 156 = .ok (.iaload, 1) := by decide +kernel
theorem dL_law_157 : decode cL_law 157 = .ok (.aload_n 0, 1) := by decide +kernel
theorem dL_law_158 : decode cL_law 158 = .ok (.iload 4, 2) := by decide +kernel
theorem dL_law_160 : decode cL_law 160 = .ok (.iconst 3, 1) := by decide +kernel
theorem dL_law_161 : decode cL_law 161 = .ok (.iadd, 1) := by decide +kernel
theorem dL_law_162 : decode cL_law 162 = .ok (.iaload, 1) := by decide +kernel
theorem dL_law_163 : decode cL_law 163 = .ok (.aload_n 0, 1) := by decide +kernel
theorem dL_law_164 : decode cL_law 164 = .ok (.iload 4, 2) := by decide +kernel
theorem dL_law_166 : decode cL_law 166 = .ok (.iconst 4, 1) := by decide +kernel
theorem dL_law_167 : decode cL_law 167 = .ok (.iadd, 1) := by decide +kernel
theorem dL_law_168 : decode cL_law 168 = .ok (.iaload, 1) := by decide +kernel
theorem dL_law_169 : decode cL_law 169 = .ok (.aload_n 0, 1) := by decide +kernel
theorem dL_law_170 : decode cL_law 170 = .ok (.iload 4, 2) := by decide +kernel
theorem dL_law_172 : decode cL_law 172 = .ok (.iconst 5, 1) := by decide +kernel
theorem dL_law_173 : decode cL_law 173 = .ok (.iadd, 1) := by decide +kernel
theorem dL_law_174 : decode cL_law 174 = .ok (.iaload, 1) := by decide +kernel
theorem dL_law_175 : decode cL_law 175 = .ok (.invokevirtual 23, 3) := by decide +kernel
theorem dL_law_178 : decode cL_law 178 = .ok (.aload_n 2, 1) := by decide +kernel
theorem dL_law_179 : decode cL_law 179 = .ok (.aload_n 0, 1) := by decide +kernel
theorem dL_law_180 : decode cL_law 180 = .ok (.iload 4, 2) := by decide +kernel
theorem dL_law_182 : decode cL_law 182 = .ok (.iconst 1, 1) := by decide +kernel
theorem dL_law_183 : decode cL_law 183 = .ok (.iadd, 1) := by decide +kernel
theorem dL_law_184 : decode cL_law 184 = .ok (.iaload, 1) := by decide +kernel
theorem dL_law_185 : decode cL_law 185 = .ok (.aload_n 0, 1) := by decide +kernel
theorem dL_law_186 : decode cL_law 186 = .ok (.iload 4, 2) := by decide +kernel
theorem dL_law_188 : decode cL_law 188 = .ok (.iconst 2, 1) := by decide +kernel
theorem dL_law_189 : decode cL_law 189 = .ok (.iadd, 1) := by decide +kernel
theorem dL_law_190 : decode cL_law 190 = .ok (.iaload, 1) := by decide +kernel
theorem dL_law_191 : decode cL_law 191 = .ok (.aload_n 0, 1) := by decide +kernel
theorem dL_law_192 : decode cL_law 192 = .ok (.iload 4, 2) := by decide +kernel
theorem dL_law_194 : decode cL_law 194 = .ok (.iconst 3, 1) := by decide +kernel
theorem dL_law_195 : decode cL_law 195 = .ok (.iadd, 1) := by decide +kernel
theorem dL_law_196 : decode cL_law 196 = .ok (.iaload, 1) := by decide +kernel
theorem dL_law_197 : decode cL_law 197 = .ok (.aload_n 0, 1) := by decide +kernel
theorem dL_law_198 : decode cL_law 198 = .ok (.iload 4, 2) := by decide +kernel
theorem dL_law_200 : decode cL_law 200 = .ok (.iconst 4, 1) := by decide +kernel
theorem dL_law_201 : decode cL_law 201 = .ok (.iadd, 1) := by decide +kernel
theorem dL_law_202 : decode cL_law 202 = .ok (.iaload, 1) := by decide +kernel
theorem dL_law_203 : decode cL_law 203 = .ok (.aload_n 0, 1) := by decide +kernel
theorem dL_law_204 : decode cL_law 204 = .ok (.iload 4, 2) := by decide +kernel
theorem dL_law_206 : decode cL_law 206 = .ok (.iconst 5, 1) := by decide +kernel
theorem dL_law_207 : decode cL_law 207 = .ok (.iadd, 1) := by decide +kernel
theorem dL_law_208 : decode cL_law 208 = .ok (.iaload, 1) := by decide +kernel
theorem dL_law_209 : decode cL_law 209 = .ok (.invokevirtual 27, 3) := by decide +kernel
theorem dL_law_212 : decode cL_law 212 = .ok (.if_icmp .eq 580, 3) := by decide +kernel
theorem dL_law_215 : decode cL_law 215 = .ok (.iconst 0, 1) := by decide +kernel
theorem dL_law_216 : decode cL_law 216 = .ok (.ireturn, 1) := by decide +kernel
theorem dL_law_217 : decode cL_law 217 = .ok (.aload_n 1, 1) := by decide +kernel
theorem dL_law_218 : decode cL_law 218 = .ok (.aload_n 0, 1) := by decide +kernel
theorem dL_law_219 : decode cL_law 219 = .ok (.iload 4, 2) := by decide +kernel
theorem dL_law_221 : decode cL_law 221 = .ok (.iconst 1, 1) := by decide +kernel
theorem dL_law_222 : decode cL_law 222 = .ok (.iadd, 1) := by decide +kernel
theorem dL_law_223 : decode cL_law 223 = .ok (.iaload, 1) := by decide +kernel
theorem dL_law_224 : decode cL_law 224 = .ok (.invokevirtual 28, 3) := by decide +kernel
theorem dL_law_227 : decode cL_law 227 = .ok (.aload_n 2, 1) := by decide +kernel
theorem dL_law_228 : decode cL_law 228 = .ok (.aload_n 0, 1) := by decide +kernel
theorem dL_law_229 : decode cL_law 229 = .ok (.iload 4, 2) := by decide +kernel
theorem dL_law_231 : decode cL_law 231 = .ok (.iconst 1, 1) := by decide +kernel
theorem dL_law_232 : decode cL_law 232 = .ok (.iadd, 1) := by decide +kernel
theorem dL_law_233 : decode cL_law 233 = .ok (.iaload, 1) := by decide +kernel
theorem dL_law_234 : decode cL_law 234 = .ok (.invokevirtual 32, 3) := by decide +kernel
theorem dL_law_237 : decode cL_law 237 = .ok (.if_icmp .eq 555, 3) := by decide +kernel
theorem dL_law_240 : decode cL_law 240 = .ok (.iconst 0, 1) := by decide +kernel
theorem dL_law_241 : decode cL_law 241 = .ok (.ireturn, 1) := by decide +kernel
theorem dL_law_242 : decode cL_law 242 = .ok (.aload_n 1, 1) := by decide +kernel
theorem dL_law_243 : decode cL_law 243 = .ok (.invokevirtual 33, 3) := by decide +kernel
theorem dL_law_246 : decode cL_law 246 = .ok (.aload_n 2, 1) := by decide +kernel
theorem dL_law_247 : decode cL_law 247 = .ok (.invokevirtual 37, 3) := by decide +kernel
theorem dL_law_250 : decode cL_law 250 = .ok (.if_icmp .eq 542, 3) := by decide +kernel
theorem dL_law_253 : decode cL_law 253 = .ok (.iconst 0, 1) := by decide +kernel
theorem dL_law_254 : decode cL_law 254 = .ok (.ireturn, 1) := by decide +kernel
theorem dL_law_255 : decode cL_law 255 = .ok (.aload_n 1, 1) := by decide +kernel
theorem dL_law_256 : decode cL_law 256 = .ok (.invokevirtual 38, 3) := by decide +kernel
theorem dL_law_259 : decode cL_law 259 = .ok (.aload_n 2, 1) := by decide +kernel
theorem dL_law_260 : decode cL_law 260 = .ok (.invokevirtual 41, 3) := by decide +kernel
theorem dL_law_263 : decode cL_law 263 = .ok (.if_icmp .eq 529, 3) := by decide +kernel
theorem dL_law_266 : decode cL_law 266 = .ok (.iconst 0, 1) := by decide +kernel
theorem dL_law_267 : decode cL_law 267 = .ok (.ireturn, 1) := by decide +kernel
theorem dL_law_268 : decode cL_law 268 = .ok (.aload_n 1, 1) := by decide +kernel
theorem dL_law_269 : decode cL_law 269 = .ok (.aload_n 0, 1) := by decide +kernel
theorem dL_law_270 : decode cL_law 270 = .ok (.iload 4, 2) := by decide +kernel
theorem dL_law_272 : decode cL_law 272 = .ok (.iconst 1, 1) := by decide +kernel
theorem dL_law_273 : decode cL_law 273 = .ok (.iadd, 1) := by decide +kernel
theorem dL_law_274 : decode cL_law 274 = .ok (.iaload, 1) := by decide +kernel
theorem dL_law_275 : decode cL_law 275 = .ok (.aload_n 0, 1) := by decide +kernel
theorem dL_law_276 : decode cL_law 276 = .ok (.iload 4, 2) := by decide +kernel
theorem dL_law_278 : decode cL_law 278 = .ok (.iconst 2, 1) := by decide +kernel
theorem dL_law_279 : decode cL_law 279 = .ok (.iadd, 1) := by decide +kernel
theorem dL_law_280 : decode cL_law 280 = .ok (.iaload, 1) := by decide +kernel
theorem dL_law_281 : decode cL_law 281 = .ok (.invokevirtual 42, 3) := by decide +kernel
theorem dL_law_284 : decode cL_law 284 = .ok (.aload_n 2, 1) := by decide +kernel
theorem dL_law_285 : decode cL_law 285 = .ok (.aload_n 0, 1) := by decide +kernel
theorem dL_law_286 : decode cL_law 286 = .ok (.iload 4, 2) := by decide +kernel
theorem dL_law_288 : decode cL_law 288 = .ok (.iconst 1, 1) := by decide +kernel
theorem dL_law_289 : decode cL_law 289 = .ok (.iadd, 1) := by decide +kernel
theorem dL_law_290 : decode cL_law 290 = .ok (.iaload, 1) := by decide +kernel
theorem dL_law_291 : decode cL_law 291 = .ok (.aload_n 0, 1) := by decide +kernel
theorem dL_law_292 : decode cL_law 292 = .ok (.iload 4, 2) := by decide +kernel
theorem dL_law_294 : decode cL_law 294 = .ok (.iconst 2, 1) := by decide +kernel
theorem dL_law_295 : decode cL_law 295 = .ok (.iadd, 1) := by decide +kernel
theorem dL_law_296 : decode cL_law 296 = .ok (.iaload, 1) := by decide +kernel
theorem dL_law_297 : decode cL_law 297 = .ok (.invokevirtual 45, 3) := by decide +kernel
theorem dL_law_300 : decode cL_law 300 = .ok (.if_icmp .eq 492, 3) := by decide +kernel
theorem dL_law_303 : decode cL_law 303 = .ok (.iconst 0, 1) := by decide +kernel
theorem dL_law_304 : decode cL_law 304 = .ok (.ireturn, 1) := by decide +kernel
theorem dL_law_305 : decode cL_law 305 = .ok (.aload_n 1, 1) := by decide +kernel
theorem dL_law_306 : decode cL_law 306 = .ok (.aload_n 0, 1) := by decide +kernel
theorem dL_law_307 : decode cL_law 307 = .ok (.iload 4, 2) := by decide +kernel
theorem dL_law_309 : decode cL_law 309 = .ok (.iconst 1, 1) := by decide +kernel
theorem dL_law_310 : decode cL_law 310 = .ok (.iadd, 1) := by decide +kernel
theorem dL_law_311 : decode cL_law 311 = .ok (.iaload, 1) := by decide +kernel
theorem dL_law_312 : decode cL_law 312 = .ok (.invokevirtual 46, 3) := by decide +kernel
theorem dL_law_315 : decode cL_law 315 = .ok (.aload_n 2, 1) := by decide +kernel
theorem dL_law_316 : decode cL_law 316 = .ok (.aload_n 0, 1) := by decide +kernel
theorem dL_law_317 : decode cL_law 317 = .ok (.iload 4, 2) := by decide +kernel
theorem dL_law_319 : decode cL_law 319 = .ok (.iconst 1, 1) := by decide +kernel
theorem dL_law_320 : decode cL_law 320 = .ok (.iadd, 1) := by decide +kernel
theorem dL_law_321 : decode cL_law 321 = .ok (.iaload, 1) := by decide +kernel
theorem dL_law_322 : decode cL_law 322 = .ok (.invokevirtual 49, 3) := by decide +kernel
theorem dL_law_325 : decode cL_law 325 = .ok (.if_icmp .eq 467, 3) := by decide +kernel
theorem dL_law_328 : decode cL_law 328 = .ok (.iconst 0, 1) := by decide +kernel
theorem dL_law_329 : decode cL_law 329 = .ok (.ireturn, 1) := by decide +kernel
theorem dL_law_330 : decode cL_law 330 = .ok (.aload_n 1, 1) := by decide +kernel
theorem dL_law_331 : decode cL_law 331 = .ok (.aload_n 0, 1) := by decide +kernel
theorem dL_law_332 : decode cL_law 332 = .ok (.iload 4, 2) := by decide +kernel
theorem dL_law_334 : decode cL_law 334 = .ok (.iconst 1, 1) := by decide +kernel
theorem dL_law_335 : decode cL_law 335 = .ok (.iadd, 1) := by decide +kernel
theorem dL_law_336 : decode cL_law 336 = .ok (.iaload, 1) := by decide +kernel
theorem dL_law_337 : decode cL_law 337 = .ok (.invokevirtual 50, 3) := by decide +kernel
theorem dL_law_340 : decode cL_law 340 = .ok (.aload_n 2, 1) := by decide +kernel
theorem dL_law_341 : decode cL_law 341 = .ok (.aload_n 0, 1) := by decide +kernel
theorem dL_law_342 : decode cL_law 342 = .ok (.iload 4, 2) := by decide +kernel
theorem dL_law_344 : decode cL_law 344 = .ok (.iconst 1, 1) := by decide +kernel
theorem dL_law_345 : decode cL_law 345 = .ok (.iadd, 1) := by decide +kernel
theorem dL_law_346 : decode cL_law 346 = .ok (.iaload, 1) := by decide +kernel
theorem dL_law_347 : decode cL_law 347 = .ok (.invokevirtual 53, 3) := by decide +kernel
theorem dL_law_350 : decode cL_law 350 = .ok (.if_icmp .eq 442, 3) := by decide +kernel
theorem dL_law_353 : decode cL_law 353 = .ok (.iconst 0, 1) := by decide +kernel
theorem dL_law_354 : decode cL_law 354 = .ok (.ireturn, 1) := by decide +kernel
theorem dL_law_355 : decode cL_law 355 = .ok (.aload_n 1, 1) := by decide +kernel
theorem dL_law_356 : decode cL_law 356 = .ok (.aload_n 0, 1) := by decide +kernel
theorem dL_law_357 : decode cL_law 357 = .ok (.iload 4, 2) := by decide +kernel
theorem dL_law_359 : decode cL_law 359 = .ok (.iconst 1, 1) := by decide +kernel
theorem dL_law_360 : decode cL_law 360 = .ok (.iadd, 1) := by decide +kernel
theorem dL_law_361 : decode cL_law 361 = .ok (.iaload, 1) := by decide +kernel
theorem dL_law_362 : decode cL_law 362 = .ok (.aload_n 0, 1) := by decide +kernel
theorem dL_law_363 : decode cL_law 363 = .ok (.iload 4, 2) := by decide +kernel
theorem dL_law_365 : decode cL_law 365 = .ok (.iconst 2, 1) := by decide +kernel
theorem dL_law_366 : decode cL_law 366 = .ok (.iadd, 1) := by decide +kernel
theorem dL_law_367 : decode cL_law 367 = .ok (.iaload, 1) := by decide +kernel
theorem dL_law_368 : decode cL_law 368 = .ok (.aload_n 0, 1) := by decide +kernel
theorem dL_law_369 : decode cL_law 369 = .ok (.iload 4, 2) := by decide +kernel
theorem dL_law_371 : decode cL_law 371 = .ok (.iconst 3, 1) := by decide +kernel
theorem dL_law_372 : decode cL_law 372 = .ok (.iadd, 1) := by decide +kernel
theorem dL_law_373 : decode cL_law 373 = .ok (.iaload, 1) := by decide +kernel
theorem dL_law_374 : decode cL_law 374 = .ok (.invokevirtual 54, 3) := by decide +kernel
theorem dL_law_377 : decode cL_law 377 = .ok (.aload_n 2, 1) := by decide +kernel
theorem dL_law_378 : decode cL_law 378 = .ok (.aload_n 0, 1) := by decide +kernel
theorem dL_law_379 : decode cL_law 379 = .ok (.iload 4, 2) := by decide +kernel
theorem dL_law_381 : decode cL_law 381 = .ok (.iconst 1, 1) := by decide +kernel
theorem dL_law_382 : decode cL_law 382 = .ok (.iadd, 1) := by decide +kernel
theorem dL_law_383 : decode cL_law 383 = .ok (.iaload, 1) := by decide +kernel
theorem dL_law_384 : decode cL_law 384 = .ok (.aload_n 0, 1) := by decide +kernel
theorem dL_law_385 : decode cL_law 385 = .ok (.iload 4, 2) := by decide +kernel
theorem dL_law_387 : decode cL_law 387 = .ok (.iconst 2, 1) := by decide +kernel
theorem dL_law_388 : decode cL_law 388 = .ok (.iadd, 1) := by decide +kernel
theorem dL_law_389 : decode cL_law 389 = .ok (.iaload, 1) := by decide +kernel
theorem dL_law_390 : decode cL_law 390 = .ok (.aload_n 0, 1) := by decide +kernel
theorem dL_law_391 : decode cL_law 391 = .ok (.iload 4, 2) := by decide +kernel
theorem dL_law_393 : decode cL_law 393 = .ok (.iconst 3, 1) := by decide +kernel
theorem dL_law_394 : decode cL_law 394 = .ok (.iadd, 1) := by decide +kernel
theorem dL_law_395 : decode cL_law 395 = .ok (.iaload, 1) := by decide +kernel
theorem dL_law_396 : decode cL_law 396 = .ok (.invokevirtual 58, 3) := by decide +kernel
theorem dL_law_399 : decode cL_law 399 = .ok (.if_icmp .eq 393, 3) := by decide +kernel
theorem dL_law_402 : decode cL_law 402 = .ok (.iconst 0, 1) := by decide +kernel
theorem dL_law_403 : decode cL_law 403 = .ok (.ireturn, 1) := by decide +kernel
theorem dL_law_404 : decode cL_law 404 = .ok (.aload_n 1, 1) := by decide +kernel
theorem dL_law_405 : decode cL_law 405 = .ok (.invokevirtual 59, 3) := by decide +kernel
theorem dL_law_408 : decode cL_law 408 = .ok (.aload_n 2, 1) := by decide +kernel
theorem dL_law_409 : decode cL_law 409 = .ok (.invokevirtual 63, 3) := by decide +kernel
theorem dL_law_412 : decode cL_law 412 = .ok (.if_icmp .eq 380, 3) := by decide +kernel
theorem dL_law_415 : decode cL_law 415 = .ok (.iconst 0, 1) := by decide +kernel
theorem dL_law_416 : decode cL_law 416 = .ok (.ireturn, 1) := by decide +kernel
theorem dL_law_417 : decode cL_law 417 = .ok (.aload_n 1, 1) := by decide +kernel
theorem dL_law_418 : decode cL_law 418 = .ok (.aload_n 0, 1) := by decide +kernel
theorem dL_law_419 : decode cL_law 419 = .ok (.iload 4, 2) := by decide +kernel
theorem dL_law_421 : decode cL_law 421 = .ok (.iconst 1, 1) := by decide +kernel
theorem dL_law_422 : decode cL_law 422 = .ok (.iadd, 1) := by decide +kernel
theorem dL_law_423 : decode cL_law 423 = .ok (.iaload, 1) := by decide +kernel
theorem dL_law_424 : decode cL_law 424 = .ok (.invokevirtual 64, 3) := by decide +kernel
theorem dL_law_427 : decode cL_law 427 = .ok (.aload_n 2, 1) := by decide +kernel
theorem dL_law_428 : decode cL_law 428 = .ok (.aload_n 0, 1) := by decide +kernel
theorem dL_law_429 : decode cL_law 429 = .ok (.iload 4, 2) := by decide +kernel
theorem dL_law_431 : decode cL_law 431 = .ok (.iconst 1, 1) := by decide +kernel
theorem dL_law_432 : decode cL_law 432 = .ok (.iadd, 1) := by decide +kernel
theorem dL_law_433 : decode cL_law 433 = .ok (.iaload, 1) := by decide +kernel
theorem dL_law_434 : decode cL_law 434 = .ok (.invokevirtual 67, 3) := by decide +kernel
theorem dL_law_437 : decode cL_law 437 = .ok (.if_icmp .eq 355, 3) := by decide +kernel
theorem dL_law_440 : decode cL_law 440 = .ok (.iconst 0, 1) := by decide +kernel
theorem dL_law_441 : decode cL_law 441 = .ok (.ireturn, 1) := by decide +kernel
theorem dL_law_442 : decode cL_law 442 = .ok (.aload_n 1, 1) := by decide +kernel
theorem dL_law_443 : decode cL_law 443 = .ok (.aload_n 0, 1) := by decide +kernel
theorem dL_law_444 : decode cL_law 444 = .ok (.iload 4, 2) := by decide +kernel
theorem dL_law_446 : decode cL_law 446 = .ok (.iconst 1, 1) := by decide +kernel
theorem dL_law_447 : decode cL_law 447 = .ok (.iadd, 1) := by decide +kernel
theorem dL_law_448 : decode cL_law 448 = .ok (.iaload, 1) := by decide +kernel
theorem dL_law_449 : decode cL_law 449 = .ok (.aload_n 0, 1) := by decide +kernel
theorem dL_law_450 : decode cL_law 450 = .ok (.iload 4, 2) := by decide +kernel
theorem dL_law_452 : decode cL_law 452 = .ok (.iconst 2, 1) := by decide +kernel
theorem dL_law_453 : decode cL_law 453 = .ok (.iadd, 1) := by decide +kernel
theorem dL_law_454 : decode cL_law 454 = .ok (.iaload, 1) := by decide +kernel
theorem dL_law_455 : decode cL_law 455 = .ok (.aload_n 3, 1) := by decide +kernel
theorem dL_law_456 : decode cL_law 456 = .ok (.invokestatic 68, 3) := by decide +kernel
theorem dL_law_459 : decode cL_law 459 = .ok (.istore 5, 2) := by decide +kernel
theorem dL_law_461 : decode cL_law 461 = .ok (.aload_n 2, 1) := by decide +kernel
theorem dL_law_462 : decode cL_law 462 = .ok (.aload_n 0, 1) := by decide +kernel
theorem dL_law_463 : decode cL_law 463 = .ok (.iload 4, 2) := by decide +kernel
theorem dL_law_465 : decode cL_law 465 = .ok (.iconst 1, 1) := by decide +kernel
theorem dL_law_466 : decode cL_law 466 = .ok (.iadd, 1) := by decide +kernel
theorem dL_law_467 : decode cL_law 467 = .ok (.iaload, 1) := by decide +kernel
theorem dL_law_468 : decode cL_law 468 = .ok (.aload_n 0, 1) := by decide +kernel
theorem dL_law_469 : decode cL_law 469 = .ok (.iload 4, 2) := by decide +kernel
theorem dL_law_471 : decode cL_law 471 = .ok (.iconst 2, 1) := by decide +kernel
theorem dL_law_472 : decode cL_law 472 = .ok (.iadd, 1) := by decide +kernel
theorem dL_law_473 : decode cL_law 473 = .ok (.iaload, 1) := by decide +kernel
theorem dL_law_474 : decode cL_law 474 = .ok (.invokevirtual 73, 3) := by decide +kernel
theorem dL_law_477 : decode cL_law 477 = .ok (.istore 6, 2) := by decide +kernel
theorem dL_law_479 : decode cL_law 479 = .ok (.aload_n 2, 1) := by decide +kernel
theorem dL_law_480 : decode cL_law 480 = .ok (.invokevirtual 74, 3) := by decide +kernel
theorem dL_law_483 : decode cL_law 483 = .ok (.iload 5, 2) := by decide +kernel
theorem dL_law_485 : decode cL_law 485 = .ok (.if_icmp .eq 5, 3) := by decide +kernel
theorem dL_law_488 : decode cL_law 488 = .ok (.iconst 0, 1) := by decide +kernel
theorem dL_law_489 : decode cL_law 489 = .ok (.ireturn, 1) := by decide +kernel
theorem dL_law_490 : decode cL_law 490 = .ok (.iload 5, 2) := by decide +kernel
theorem dL_law_492 : decode cL_law 492 = .ok (.ifCond .ne 15, 3) := by decide +kernel
theorem dL_law_495 : decode cL_law 495 = .ok (.aload_n 3, 1) := by decide +kernel
theorem dL_law_496 : decode cL_law 496 = .ok (.iconst 0, 1) := by decide +kernel
theorem dL_law_497 : decode cL_law 497 = .ok (.laload, 1) := by decide +kernel
theorem dL_law_498 : decode cL_law 498 = .ok (.iload 6, 2) := by decide +kernel
theorem dL_law_500 : decode cL_law 500 = .ok (.i2l, 1) := by decide +kernel
theorem dL_law_501 : decode cL_law 501 = .ok (.lcmp, 1) := by decide +kernel
theorem dL_law_502 : decode cL_law 502 = .ok (.ifCond .eq 5, 3) := by decide +kernel
theorem dL_law_505 : decode cL_law 505 = .ok (.iconst 0, 1) := by decide +kernel
theorem dL_law_506 : decode cL_law 506 = .ok (.ireturn, 1) := by decide +kernel
theorem dL_law_507 : decode cL_law 507 = .ok (.goto 285, 3) := by decide +kernel
theorem dL_law_510 : decode cL_law 510 = .ok (.aload_n 1, 1) := by decide +kernel
theorem dL_law_511 : decode cL_law 511 = .ok (.aload_n 0, 1) := by decide +kernel
theorem dL_law_512 : decode cL_law 512 = .ok (.iload 4, 2) := by decide +kernel
theorem dL_law_514 : decode cL_law 514 = .ok (.iconst 1, 1) := by decide +kernel
theorem dL_law_515 : decode cL_law 515 = .ok (.iadd, 1) := by decide +kernel
theorem dL_law_516 : decode cL_law 516 = .ok (.iaload, 1) := by decide +kernel
theorem dL_law_517 : decode cL_law 517 = .ok (.aload_n 0, 1) := by decide +kernel
theorem dL_law_518 : decode cL_law 518 = .ok (.iload 4, 2) := by decide +kernel
theorem dL_law_520 : decode cL_law 520 = .ok (.iconst 2, 1) := by decide +kernel
theorem dL_law_521 : decode cL_law 521 = .ok (.iadd, 1) := by decide +kernel
theorem dL_law_522 : decode cL_law 522 = .ok (.iaload, 1) := by decide +kernel
theorem dL_law_523 : decode cL_law 523 = .ok (.invokevirtual 77, 3) := by decide +kernel
theorem dL_law_526 : decode cL_law 526 = .ok (.aload_n 2, 1) := by decide +kernel
theorem dL_law_527 : decode cL_law 527 = .ok (.aload_n 0, 1) := by decide +kernel
theorem dL_law_528 : decode cL_law 528 = .ok (.iload 4, 2) := by decide +kernel
theorem dL_law_530 : decode cL_law 530 = .ok (.iconst 1, 1) := by decide +kernel
theorem dL_law_531 : decode cL_law 531 = .ok (.iadd, 1) := by decide +kernel
theorem dL_law_532 : decode cL_law 532 = .ok (.iaload, 1) := by decide +kernel
theorem dL_law_533 : decode cL_law 533 = .ok (.aload_n 0, 1) := by decide +kernel
theorem dL_law_534 : decode cL_law 534 = .ok (.iload 4, 2) := by decide +kernel
theorem dL_law_536 : decode cL_law 536 = .ok (.iconst 2, 1) := by decide +kernel
theorem dL_law_537 : decode cL_law 537 = .ok (.iadd, 1) := by decide +kernel
theorem dL_law_538 : decode cL_law 538 = .ok (.iaload, 1) := by decide +kernel
theorem dL_law_539 : decode cL_law 539 = .ok (.invokevirtual 80, 3) := by decide +kernel
theorem dL_law_542 : decode cL_law 542 = .ok (.if_icmp .eq 250, 3) := by decide +kernel
theorem dL_law_545 : decode cL_law 545 = .ok (.iconst 0, 1) := by decide +kernel
theorem dL_law_546 : decode cL_law 546 = .ok (.ireturn, 1) := by decide +kernel
theorem dL_law_547 : decode cL_law 547 = .ok (.aload_n 1, 1) := by decide +kernel
theorem dL_law_548 : decode cL_law 548 = .ok (.aload_n 0, 1) := by decide +kernel
theorem dL_law_549 : decode cL_law 549 = .ok (.iload 4, 2) := by decide +kernel
theorem dL_law_551 : decode cL_law 551 = .ok (.iconst 1, 1) := by decide +kernel
theorem dL_law_552 : decode cL_law 552 = .ok (.iadd, 1) := by decide +kernel
theorem dL_law_553 : decode cL_law 553 = .ok (.iaload, 1) := by decide +kernel
theorem dL_law_554 : decode cL_law 554 = .ok (.aload_n 0, 1) := by decide +kernel
theorem dL_law_555 : decode cL_law 555 = .ok (.iload 4, 2) := by decide +kernel
theorem dL_law_557 : decode cL_law 557 = .ok (.iconst 2, 1) := by decide +kernel
theorem dL_law_558 : decode cL_law 558 = .ok (.iadd, 1) := by decide +kernel
theorem dL_law_559 : decode cL_law 559 = .ok (.iaload, 1) := by decide +kernel
theorem dL_law_560 : decode cL_law 560 = .ok (.invokevirtual 81, 3) := by decide +kernel
theorem dL_law_563 : decode cL_law 563 = .ok (.aload_n 2, 1) := by decide +kernel
theorem dL_law_564 : decode cL_law 564 = .ok (.aload_n 0, 1) := by decide +kernel
theorem dL_law_565 : decode cL_law 565 = .ok (.iload 4, 2) := by decide +kernel
theorem dL_law_567 : decode cL_law 567 = .ok (.iconst 1, 1) := by decide +kernel
theorem dL_law_568 : decode cL_law 568 = .ok (.iadd, 1) := by decide +kernel
theorem dL_law_569 : decode cL_law 569 = .ok (.iaload, 1) := by decide +kernel
theorem dL_law_570 : decode cL_law 570 = .ok (.aload_n 0, 1) := by decide +kernel
theorem dL_law_571 : decode cL_law 571 = .ok (.iload 4, 2) := by decide +kernel
theorem dL_law_573 : decode cL_law 573 = .ok (.iconst 2, 1) := by decide +kernel
theorem dL_law_574 : decode cL_law 574 = .ok (.iadd, 1) := by decide +kernel
theorem dL_law_575 : decode cL_law 575 = .ok (.iaload, 1) := by decide +kernel
theorem dL_law_576 : decode cL_law 576 = .ok (.invokevirtual 84, 3) := by decide +kernel
theorem dL_law_579 : decode cL_law 579 = .ok (.if_icmp .eq 213, 3) := by decide +kernel
theorem dL_law_582 : decode cL_law 582 = .ok (.iconst 0, 1) := by decide +kernel
theorem dL_law_583 : decode cL_law 583 = .ok (.ireturn, 1) := by decide +kernel
theorem dL_law_584 : decode cL_law 584 = .ok (.aload_n 1, 1) := by decide +kernel
theorem dL_law_585 : decode cL_law 585 = .ok (.aload_n 0, 1) := by decide +kernel
theorem dL_law_586 : decode cL_law 586 = .ok (.iload 4, 2) := by decide +kernel
theorem dL_law_588 : decode cL_law 588 = .ok (.iconst 1, 1) := by decide +kernel
theorem dL_law_589 : decode cL_law 589 = .ok (.iadd, 1) := by decide +kernel
theorem dL_law_590 : decode cL_law 590 = .ok (.iaload, 1) := by decide +kernel
theorem dL_law_591 : decode cL_law 591 = .ok (.aload_n 3, 1) := by decide +kernel
theorem dL_law_592 : decode cL_law 592 = .ok (.invokestatic 85, 3) := by decide +kernel
theorem dL_law_595 : decode cL_law 595 = .ok (.istore 5, 2) := by decide +kernel
theorem dL_law_597 : decode cL_law 597 = .ok (.aload_n 2, 1) := by decide +kernel
theorem dL_law_598 : decode cL_law 598 = .ok (.aload_n 0, 1) := by decide +kernel
theorem dL_law_599 : decode cL_law 599 = .ok (.iload 4, 2) := by decide +kernel
theorem dL_law_601 : decode cL_law 601 = .ok (.iconst 1, 1) := by decide +kernel
theorem dL_law_602 : decode cL_law 602 = .ok (.iadd, 1) := by decide +kernel
theorem dL_law_603 : decode cL_law 603 = .ok (.iaload, 1) := by decide +kernel
theorem dL_law_604 : decode cL_law 604 = .ok (.invokevirtual 88, 3) := by decide +kernel
theorem dL_law_607 : decode cL_law 607 = .ok (.istore 6, 2) := by decide +kernel
theorem dL_law_609 : decode cL_law 609 = .ok (.aload_n 2, 1) := by decide +kernel
theorem dL_law_610 : decode cL_law 610 = .ok (.invokevirtual 74, 3) := by decide +kernel
theorem dL_law_613 : decode cL_law 613 = .ok (.iload 5, 2) := by decide +kernel
theorem dL_law_615 : decode cL_law 615 = .ok (.if_icmp .eq 5, 3) := by decide +kernel
theorem dL_law_618 : decode cL_law 618 = .ok (.iconst 0, 1) := by decide +kernel
theorem dL_law_619 : decode cL_law 619 = .ok (.ireturn, 1) := by decide +kernel
theorem dL_law_620 : decode cL_law 620 = .ok (.iload 5, 2) := by decide +kernel
theorem dL_law_622 : decode cL_law 622 = .ok (.ifCond .ne 15, 3) := by decide +kernel
theorem dL_law_625 : decode cL_law 625 = .ok (.aload_n 3, 1) := by decide +kernel
theorem dL_law_626 : decode cL_law 626 = .ok (.iconst 0, 1) := by decide +kernel
theorem dL_law_627 : decode cL_law 627 = .ok (.laload, 1) := by decide +kernel
theorem dL_law_628 : decode cL_law 628 = .ok (.iload 6, 2) := by decide +kernel
theorem dL_law_630 : decode cL_law 630 = .ok (.i2l, 1) := by decide +kernel
theorem dL_law_631 : decode cL_law 631 = .ok (.lcmp, 1) := by decide +kernel
theorem dL_law_632 : decode cL_law 632 = .ok (.ifCond .eq 5, 3) := by decide +kernel
theorem dL_law_635 : decode cL_law 635 = .ok (.iconst 0, 1) := by decide +kernel
theorem dL_law_636 : decode cL_law 636 = .ok (.ireturn, 1) := by decide +kernel
theorem dL_law_637 : decode cL_law 637 = .ok (.goto 155, 3) := by decide +kernel
theorem dL_law_640 : decode cL_law 640 = .ok (.aload_n 1, 1) := by decide +kernel
theorem dL_law_641 : decode cL_law 641 = .ok (.aload_n 0, 1) := by decide +kernel
theorem dL_law_642 : decode cL_law 642 = .ok (.iload 4, 2) := by decide +kernel
theorem dL_law_644 : decode cL_law 644 = .ok (.iconst 1, 1) := by decide +kernel
theorem dL_law_645 : decode cL_law 645 = .ok (.iadd, 1) := by decide +kernel
theorem dL_law_646 : decode cL_law 646 = .ok (.iaload, 1) := by decide +kernel
theorem dL_law_647 : decode cL_law 647 = .ok (.invokevirtual 89, 3) := by decide +kernel
theorem dL_law_650 : decode cL_law 650 = .ok (.aload_n 2, 1) := by decide +kernel
theorem dL_law_651 : decode cL_law 651 = .ok (.aload_n 0, 1) := by decide +kernel
theorem dL_law_652 : decode cL_law 652 = .ok (.iload 4, 2) := by decide +kernel
theorem dL_law_654 : decode cL_law 654 = .ok (.iconst 1, 1) := by decide +kernel
theorem dL_law_655 : decode cL_law 655 = .ok (.iadd, 1) := by decide +kernel
theorem dL_law_656 : decode cL_law 656 = .ok (.iaload, 1) := by decide +kernel
theorem dL_law_657 : decode cL_law 657 = .ok (.invokevirtual 92, 3) := by decide +kernel
theorem dL_law_660 : decode cL_law 660 = .ok (.if_icmp .eq 132, 3) := by decide +kernel
theorem dL_law_663 : decode cL_law 663 = .ok (.iconst 0, 1) := by decide +kernel
theorem dL_law_664 : decode cL_law 664 = .ok (.ireturn, 1) := by decide +kernel
theorem dL_law_665 : decode cL_law 665 = .ok (.aload_n 1, 1) := by decide +kernel
theorem dL_law_666 : decode cL_law 666 = .ok (.invokevirtual 93, 3) := by decide +kernel
theorem dL_law_669 : decode cL_law 669 = .ok (.aload_n 2, 1) := by decide +kernel
theorem dL_law_670 : decode cL_law 670 = .ok (.invokevirtual 96, 3) := by decide +kernel
theorem dL_law_673 : decode cL_law 673 = .ok (.if_icmp .eq 119, 3) := by decide +kernel
theorem dL_law_676 : decode cL_law 676 = .ok (.iconst 0, 1) := by decide +kernel
theorem dL_law_677 : decode cL_law 677 = .ok (.ireturn, 1) := by decide +kernel
theorem dL_law_678 : decode cL_law 678 = .ok (.aload_n 1, 1) := by decide +kernel
theorem dL_law_679 : decode cL_law 679 = .ok (.invokevirtual 97, 3) := by decide +kernel
theorem dL_law_682 : decode cL_law 682 = .ok (.aload_n 2, 1) := by decide +kernel
theorem dL_law_683 : decode cL_law 683 = .ok (.invokevirtual 100, 3) := by decide +kernel
theorem dL_law_686 : decode cL_law 686 = .ok (.if_icmp .eq 106, 3) := by decide +kernel
theorem dL_law_689 : decode cL_law 689 = .ok (.iconst 0, 1) := by decide +kernel
theorem dL_law_690 : decode cL_law 690 = .ok (.ireturn, 1) := by decide +kernel
theorem dL_law_691 : decode cL_law 691 = .ok (.aload_n 1, 1) := by decide +kernel
theorem dL_law_692 : decode cL_law 692 = .ok (.aload_n 0, 1) := by decide +kernel
theorem dL_law_693 : decode cL_law 693 = .ok (.iload 4, 2) := by decide +kernel
theorem dL_law_695 : decode cL_law 695 = .ok (.iconst 1, 1) := by decide +kernel
theorem dL_law_696 : decode cL_law 696 = .ok (.iadd, 1) := by decide +kernel
theorem dL_law_697 : decode cL_law 697 = .ok (.iaload, 1) := by decide +kernel
theorem dL_law_698 : decode cL_law 698 = .ok (.invokevirtual 101, 3) := by decide +kernel
theorem dL_law_701 : decode cL_law 701 = .ok (.aload_n 2, 1) := by decide +kernel
theorem dL_law_702 : decode cL_law 702 = .ok (.aload_n 0, 1) := by decide +kernel
theorem dL_law_703 : decode cL_law 703 = .ok (.iload 4, 2) := by decide +kernel
theorem dL_law_705 : decode cL_law 705 = .ok (.iconst 1, 1) := by decide +kernel
theorem dL_law_706 : decode cL_law 706 = .ok (.iadd, 1) := by decide +kernel
theorem dL_law_707 : decode cL_law 707 = .ok (.iaload, 1) := by decide +kernel
theorem dL_law_708 : decode cL_law 708 = .ok (.invokevirtual 104, 3) := by decide +kernel
theorem dL_law_711 : decode cL_law 711 = .ok (.if_icmp .eq 81, 3) := by decide +kernel
theorem dL_law_714 : decode cL_law 714 = .ok (.iconst 0, 1) := by decide +kernel
theorem dL_law_715 : decode cL_law 715 = .ok (.ireturn, 1) := by decide +kernel
theorem dL_law_716 : decode cL_law 716 = .ok (.aload_n 1, 1) := by decide +kernel
theorem dL_law_717 : decode cL_law 717 = .ok (.invokevirtual 105, 3) := by decide +kernel
theorem dL_law_720 : decode cL_law 720 = .ok (.aload_n 2, 1) := by decide +kernel
theorem dL_law_721 : decode cL_law 721 = .ok (.invokevirtual 108, 3) := by decide +kernel
theorem dL_law_724 : decode cL_law 724 = .ok (.if_icmp .eq 68, 3) := by decide +kernel
theorem dL_law_727 : decode cL_law 727 = .ok (.iconst 0, 1) := by decide +kernel
theorem dL_law_728 : decode cL_law 728 = .ok (.ireturn, 1) := by decide +kernel
theorem dL_law_729 : decode cL_law 729 = .ok (.aload_n 1, 1) := by decide +kernel
theorem dL_law_730 : decode cL_law 730 = .ok (.invokevirtual 109, 3) := by decide +kernel
theorem dL_law_733 : decode cL_law 733 = .ok (.aload_n 2, 1) := by decide +kernel
theorem dL_law_734 : decode cL_law 734 = .ok (.invokevirtual 112, 3) := by decide +kernel
theorem dL_law_737 : decode cL_law 737 = .ok (.if_icmp .eq 55, 3) := by decide +kernel
theorem dL_law_740 : decode cL_law 740 = .ok (.iconst 0, 1) := by decide +kernel
theorem dL_law_741 : decode cL_law 741 = .ok (.ireturn, 1) := by decide +kernel
theorem dL_law_742 : decode cL_law 742 = .ok (.aload_n 1, 1) := by decide +kernel
theorem dL_law_743 : decode cL_law 743 = .ok (.aload_n 0, 1) := by decide +kernel
theorem dL_law_744 : decode cL_law 744 = .ok (.iload 4, 2) := by decide +kernel
theorem dL_law_746 : decode cL_law 746 = .ok (.iconst 1, 1) := by decide +kernel
theorem dL_law_747 : decode cL_law 747 = .ok (.iadd, 1) := by decide +kernel
theorem dL_law_748 : decode cL_law 748 = .ok (.iaload, 1) := by decide +kernel
theorem dL_law_749 : decode cL_law 749 = .ok (.invokevirtual 113, 3) := by decide +kernel
theorem dL_law_752 : decode cL_law 752 = .ok (.aload_n 2, 1) := by decide +kernel
theorem dL_law_753 : decode cL_law 753 = .ok (.aload_n 0, 1) := by decide +kernel
theorem dL_law_754 : decode cL_law 754 = .ok (.iload 4, 2) := by decide +kernel
theorem dL_law_756 : decode cL_law 756 = .ok (.iconst 1, 1) := by decide +kernel
theorem dL_law_757 : decode cL_law 757 = .ok (.iadd, 1) := by decide +kernel
theorem dL_law_758 : decode cL_law 758 = .ok (.iaload, 1) := by decide +kernel
theorem dL_law_759 : decode cL_law 759 = .ok (.invokevirtual 116, 3) := by decide +kernel
theorem dL_law_762 : decode cL_law 762 = .ok (.if_icmp .eq 30, 3) := by decide +kernel
theorem dL_law_765 : decode cL_law 765 = .ok (.iconst 0, 1) := by decide +kernel
theorem dL_law_766 : decode cL_law 766 = .ok (.ireturn, 1) := by decide +kernel
theorem dL_law_767 : decode cL_law 767 = .ok (.aload_n 1, 1) := by decide +kernel
theorem dL_law_768 : decode cL_law 768 = .ok (.aload_n 0, 1) := by decide +kernel
theorem dL_law_769 : decode cL_law 769 = .ok (.iload 4, 2) := by decide +kernel
theorem dL_law_771 : decode cL_law 771 = .ok (.iconst 1, 1) := by decide +kernel
theorem dL_law_772 : decode cL_law 772 = .ok (.iadd, 1) := by decide +kernel
theorem dL_law_773 : decode cL_law 773 = .ok (.iaload, 1) := by decide +kernel
theorem dL_law_774 : decode cL_law 774 = .ok (.invokevirtual 117, 3) := by decide +kernel
theorem dL_law_777 : decode cL_law 777 = .ok (.aload_n 2, 1) := by decide +kernel
theorem dL_law_778 : decode cL_law 778 = .ok (.aload_n 0, 1) := by decide +kernel
theorem dL_law_779 : decode cL_law 779 = .ok (.iload 4, 2) := by decide +kernel
theorem dL_law_781 : decode cL_law 781 = .ok (.iconst 1, 1) := by decide +kernel
theorem dL_law_782 : decode cL_law 782 = .ok (.iadd, 1) := by decide +kernel
theorem dL_law_783 : decode cL_law 783 = .ok (.iaload, 1) := by decide +kernel
theorem dL_law_784 : decode cL_law 784 = .ok (.invokevirtual 120, 3) := by decide +kernel
theorem dL_law_787 : decode cL_law 787 = .ok (.if_icmp .eq 5, 3) := by decide +kernel
theorem dL_law_790 : decode cL_law 790 = .ok (.iconst 0, 1) := by decide +kernel
theorem dL_law_791 : decode cL_law 791 = .ok (.ireturn, 1) := by decide +kernel
theorem dL_law_792 : decode cL_law 792 = .ok (.iinc 4 6, 3) := by decide +kernel
theorem dL_law_795 : decode cL_law 795 = .ok (.goto (-772), 3) := by decide +kernel
theorem dL_law_798 : decode cL_law 798 = .ok (.iconst 1, 1) := by decide +kernel
theorem dL_law_799 : decode cL_law 799 = .ok (.ireturn, 1) := by decide +kernel

