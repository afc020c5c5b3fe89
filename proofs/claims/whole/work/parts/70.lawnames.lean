def wsL_law_r1 : List Cond := [Cond.classLink RL 7 RX8, Cond.instantiable RX8 11, Cond.initialized RX8, Cond.classLink RL 10 RX9, Cond.instantiable RX9 37, Cond.initialized RX9, Cond.methodLink RL 9 yX8_init, Cond.instanceMethod yX8_init, Cond.code yX8_init cX8_init 2 none, Cond.methodLink RX8 1 objectInit, Cond.instanceMethod objectInit, Cond.code objectInit ⟨#[0xb1]⟩ 1 none, Cond.classLink RX8 7 RX6, Cond.instantiable RX6 7, Cond.initialized RX6, Cond.fieldLink RX8 10 "CoachCourt" "tape" "LCoachCourt$Tape;", Cond.classLink RX8 16 RX7, Cond.instantiable RX7 3, Cond.initialized RX7, Cond.fieldLink RX8 21 "CoachCourt" "teller" "LCoachCourt$Teller;", Cond.classLink RX8 25 RX2, Cond.instantiable RX2 12, Cond.initialized RX2, Cond.fieldLink RX8 28 "CoachCourt" "road" "LCoachCourt$Road;"]
def wsL_law_r2 : List Cond := [Cond.fieldLink RX8 32 "CoachCourt" "trial" "LCoachCourt$Road;", Cond.classLink RX8 35 RX0, Cond.instantiable RX0 7, Cond.initialized RX0, Cond.fieldLink RX8 38 "CoachCourt" "drive" "LCoachCourt$Drive;", Cond.classLink RX8 42 RX3, Cond.instantiable RX3 5, Cond.initialized RX3, Cond.fieldLink RX8 47 "CoachCourt" "seeker" "LCoachCourt$Seeker;", Cond.classLink RX8 51 RX5, Cond.instantiable RX5 3, Cond.initialized RX5, Cond.fieldLink RX8 54 "CoachCourt" "seen" "LCoachCourt$Sightings;", Cond.classLink RX8 58 RX1, Cond.fieldLink RX8 60 "CoachCourt" "images" "[LCoachCourt$Image;", Cond.instantiable RX1 3, Cond.initialized RX1, Cond.classLink RX8 65 RX4, Cond.fieldLink RX8 67 "CoachCourt" "sheets" "[LCoachCourt$Sheet;", Cond.instantiable RX4 4, Cond.initialized RX4, Cond.arrayClass .int, Cond.fieldLink RX8 72 "CoachCourt" "tally" "[I", Cond.instanceMethod yX6_init]
def wsL_law_r3 : List Cond := [Cond.code yX6_init cX6_init 1 none, Cond.methodLink RX6 3 objectInit, Cond.arrayClass .byte, Cond.fieldLink RX6 9 "CoachCourt$Tape" "bytes" "[B", Cond.methodLink RX8 18 yX7_init, Cond.instanceMethod yX7_init, Cond.code yX7_init cX7_init 2 none, Cond.methodLink RX7 3 objectInit, Cond.fieldLink RX7 9 "CoachCourt$Teller" "tape" "LCoachCourt$Tape;", Cond.instanceMethod yX2_init, Cond.code yX2_init cX2_init 1 none, Cond.methodLink RX2 3 objectInit, Cond.fieldLink RX2 9 "CoachCourt$Road" "land" "[I", Cond.fieldLink RX2 15 "CoachCourt$Road" "hill" "[I", Cond.fieldLink RX2 18 "CoachCourt$Road" "mud" "[I", Cond.fieldLink RX2 21 "CoachCourt$Road" "kind" "[I", Cond.fieldLink RX2 24 "CoachCourt$Road" "wind" "[I", Cond.fieldLink RX2 27 "CoachCourt$Road" "need" "[I", Cond.fieldLink RX2 30 "CoachCourt$Road" "law" "[I", Cond.fieldLink RX2 33 "CoachCourt$Road" "stone" "[I", Cond.fieldLink RX2 36 "CoachCourt$Road" "places" "I", Cond.fieldLink RX2 40 "CoachCourt$Road" "snowfall" "I", Cond.instanceMethod yX0_init, Cond.code yX0_init cX0_init 1 none]
def wsL_law_r4 : List Cond := [Cond.methodLink RX0 3 objectInit, Cond.fieldLink RX0 9 "CoachCourt$Drive" "verdict" "[I", Cond.fieldLink RX0 15 "CoachCourt$Drive" "fall" "[I", Cond.fieldLink RX0 18 "CoachCourt$Drive" "heard" "[I", Cond.fieldLink RX0 21 "CoachCourt$Drive" "left" "[I", Cond.fieldLink RX0 24 "CoachCourt$Drive" "runners" "[I", Cond.methodLink RX8 44 yX3_init, Cond.instanceMethod yX3_init, Cond.code yX3_init cX3_init 3 none, Cond.methodLink RX3 3 objectInit, Cond.fieldLink RX3 9 "CoachCourt$Seeker" "stones" "[I", Cond.fieldLink RX3 15 "CoachCourt$Seeker" "hopes" "[I", Cond.fieldLink RX3 18 "CoachCourt$Seeker" "trial" "LCoachCourt$Road;", Cond.fieldLink RX3 22 "CoachCourt$Seeker" "drive" "LCoachCourt$Drive;", Cond.instanceMethod yX5_init, Cond.code yX5_init cX5_init 1 none, Cond.methodLink RX5 3 objectInit, Cond.fieldLink RX5 9 "CoachCourt$Sightings" "who" "[I", Cond.fieldLink RX5 15 "CoachCourt$Sightings" "where" "[I", Cond.instanceMethod yX1_init, Cond.code yX1_init cX1_init 1 none, Cond.methodLink RX1 1 objectInit, Cond.classLink RX1 7 RX2, Cond.fieldLink RX1 10 "CoachCourt$Image" "road" "LCoachCourt$Road;"]
def wsL_law_r5 : List Cond := [Cond.classLink RX1 16 RX5, Cond.fieldLink RX1 19 "CoachCourt$Image" "seen" "LCoachCourt$Sightings;", Cond.instanceMethod yX4_init, Cond.code yX4_init cX4_init 1 none, Cond.methodLink RX4 3 objectInit, Cond.fieldLink RX4 9 "CoachCourt$Sheet" "cells" "[I", Cond.methodLink RL 12 yX9_init, Cond.instanceMethod yX9_init, Cond.code yX9_init cX9_init 2 none, Cond.methodLink RX9 1 objectInit, Cond.fieldLink RX9 7 "CoachCourtModel" "st" "[I", Cond.fieldLink RX9 13 "CoachCourtModel" "now" "[I", Cond.arrayClass .boolean, Cond.fieldLink RX9 16 "CoachCourtModel" "isKept" "[Z", Cond.fieldLink RX9 20 "CoachCourtModel" "draft" "[I", Cond.fieldLink RX9 23 "CoachCourtModel" "tape" "[I", Cond.fieldLink RX9 26 "CoachCourtModel" "verdict" "[I", Cond.fieldLink RX9 29 "CoachCourtModel" "falls" "[I", Cond.fieldLink RX9 32 "CoachCourtModel" "heard" "[I", Cond.fieldLink RX9 35 "CoachCourtModel" "wind" "[I", Cond.fieldLink RX9 38 "CoachCourtModel" "runs" "[Z", Cond.fieldLink RX9 41 "CoachCourtModel" "besides" "[I", Cond.fieldLink RX9 44 "CoachCourtModel" "ways" "[I", Cond.fieldLink RX9 47 "CoachCourtModel" "lanes" "[I"]
def wsL_law_r6 : List Cond := [Cond.fieldLink RX9 50 "CoachCourtModel" "sizes" "[I", Cond.fieldLink RX9 53 "CoachCourtModel" "cells" "[I", Cond.fieldLink RX9 56 "CoachCourtModel" "had" "[I", Cond.methodLink RX9 59 yX9_firstDraft, Cond.instanceMethod yX9_firstDraft, Cond.selects RX9 yX9_firstDraft yX9_firstDraft, Cond.code yX9_firstDraft cX9_firstDraft 2 none, Cond.fieldLink RX9 65 "CoachCourtModel" "dMiles" "I", Cond.fieldLink RX9 69 "CoachCourtModel" "dParties" "I", Cond.fieldLink RX9 72 "CoachCourtModel" "toldMud" "I", Cond.fieldLink RX9 75 "CoachCourtModel" "toldLines" "I", Cond.fieldLink RX9 78 "CoachCourtModel" "highest" "I", Cond.methodLink RX9 62 yX9_keepDraft, Cond.instanceMethod yX9_keepDraft, Cond.selects RX9 yX9_keepDraft yX9_keepDraft, Cond.code yX9_keepDraft cX9_keepDraft 2 none, Cond.fieldLink RX9 81 "CoachCourtModel" "miles" "I", Cond.fieldLink RX9 84 "CoachCourtModel" "parties" "I", Cond.methodLink RL 13 yX8_feed, Cond.instanceMethod yX8_feed, Cond.selects RX8 yX8_feed yX8_feed, Cond.code yX8_feed cX8_feed 2 (some .int), Cond.methodLink RX8 76 yX8_within, Cond.static yX8_within]
def wsL_law_r7 : List Cond := [Cond.code yX8_within cX8_within 3 (some .boolean), Cond.methodLink RX8 80 yX6_put, Cond.instanceMethod yX6_put, Cond.selects RX6 yX6_put yX6_put, Cond.code yX6_put cX6_put 2 (some .boolean), Cond.fieldLink RX6 15 "CoachCourt$Tape" "length" "I", Cond.methodLink RL 17 yX9_feed, Cond.instanceMethod yX9_feed, Cond.selects RX9 yX9_feed yX9_feed, Cond.code yX9_feed cX9_feed 2 (some .int), Cond.constantLong RX9 87 (127), Cond.fieldLink RX9 93 "CoachCourtModel" "taped" "I", Cond.methodLink RX9 89 yX9_in, Cond.static yX9_in, Cond.code yX9_in cX9_in 6 (some .boolean), Cond.methodLink RL 18 yX8_end, Cond.instanceMethod yX8_end, Cond.selects RX8 yX8_end yX8_end, Cond.code yX8_end cX8_end 3 (some .int), Cond.methodLink RL 21 yX9_end, Cond.instanceMethod yX9_end, Cond.selects RX9 yX9_end yX9_end, Cond.code yX9_end cX9_end 3 (some .int), Cond.methodLink RL 22 yX8_text]
def wsL_law_r8 : List Cond := [Cond.instanceMethod yX8_text, Cond.selects RX8 yX8_text yX8_text, Cond.code yX8_text cX8_text 3 (some .int), Cond.methodLink RX8 88 yX7_tellInto, Cond.instanceMethod yX7_tellInto, Cond.selects RX7 yX7_tellInto yX7_tellInto, Cond.code yX7_tellInto cX7_tellInto 3 (some .int), Cond.fieldLink RX7 25 "CoachCourt$Teller" "roomTold" "Z", Cond.fieldLink RX7 29 "CoachCourt$Teller" "snowTold" "Z", Cond.methodLink RX7 15 yX2_wipe, Cond.instanceMethod yX2_wipe, Cond.selects RX2 yX2_wipe yX2_wipe, Cond.code yX2_wipe cX2_wipe 2 none, Cond.fieldLink RX2 43 "CoachCourt$Road" "miles" "I", Cond.fieldLink RX2 46 "CoachCourt$Road" "parties" "I", Cond.methodLink RX7 20 yX6_rewind, Cond.instanceMethod yX6_rewind, Cond.selects RX6 yX6_rewind yX6_rewind, Cond.code yX6_rewind cX6_rewind 1 none, Cond.fieldLink RX6 19 "CoachCourt$Tape" "next" "I", Cond.fieldLink RX6 22 "CoachCourt$Tape" "found" "I", Cond.methodLink RX7 32 yX7_takeLine, Cond.instanceMethod yX7_takeLine, Cond.selects RX7 yX7_takeLine yX7_takeLine]
def wsL_law_r9 : List Cond := [Cond.code yX7_takeLine cX7_takeLine 3 (some .boolean), Cond.methodLink RX7 54 yX6_readToken, Cond.instanceMethod yX6_readToken, Cond.selects RX6 yX6_readToken yX6_readToken, Cond.code yX6_readToken cX6_readToken 2 none, Cond.fieldLink RX6 28 "CoachCourt$Tape" "from" "I", Cond.fieldLink RX6 31 "CoachCourt$Tape" "kind" "I", Cond.methodLink RX6 34 yX6_kindOf, Cond.static yX6_kindOf, Cond.code yX6_kindOf cX6_kindOf 1 (some .int), Cond.methodLink RX6 38 yX6_blame, Cond.instanceMethod yX6_blame, Cond.selects RX6 yX6_blame yX6_blame, Cond.code yX6_blame cX6_blame 3 none, Cond.fieldLink RX6 25 "CoachCourt$Tape" "foundAt" "I", Cond.methodLink RX7 60 yX7_lineOfName, Cond.instanceMethod yX7_lineOfName, Cond.selects RX7 yX7_lineOfName yX7_lineOfName, Cond.code yX7_lineOfName cX7_lineOfName 1 (some .int), Cond.methodLink RX7 89 yX6_tokenSpells, Cond.instanceMethod yX6_tokenSpells, Cond.selects RX6 yX6_tokenSpells yX6_tokenSpells, Cond.code yX6_tokenSpells cX6_tokenSpells 3 (some .boolean), Cond.methodLink RX6 42 yJ0_length_8abf5]
def wsL_law_r10 : List Cond := [Cond.instanceMethod yJ0_length_8abf5, Cond.selects RJ0 yJ0_length_8abf5 yJ0_length_8abf5, Cond.initialized RJ0, Cond.code yJ0_length_8abf5 cJ0_length_8abf5 1 (some .int), Cond.fieldLink RJ0 9 "java/lang/String" "value" "[B", Cond.methodLink RJ0 335 yJ0_coder_7d493, Cond.instanceMethod yJ0_coder_7d493, Cond.selects RJ0 yJ0_coder_7d493 yJ0_coder_7d493, Cond.code yJ0_coder_7d493 cJ0_coder_7d493 1 (some .byte), Cond.fieldLink RJ0 38 "java/lang/String" "COMPACT_STRINGS" "Z", Cond.fieldLink RJ0 15 "java/lang/String" "coder" "B", Cond.methodLink RX6 47 yJ0_charAt_5068e, Cond.instanceMethod yJ0_charAt_5068e, Cond.selects RJ0 yJ0_charAt_5068e yJ0_charAt_5068e, Cond.code yJ0_charAt_5068e cJ0_charAt_5068e 2 (some .char), Cond.methodLink RJ0 492 yJ0_isLatin1_aae02, Cond.instanceMethod yJ0_isLatin1_aae02, Cond.selects RJ0 yJ0_isLatin1_aae02 yJ0_isLatin1_aae02, Cond.code yJ0_isLatin1_aae02 cJ0_isLatin1_aae02 1 (some .boolean), Cond.methodLink RJ0 495 yJ1_charAt_3b067, Cond.static yJ1_charAt_3b067, Cond.initialized RJ1, Cond.code yJ1_charAt_3b067 cJ1_charAt_3b067 2 (some .char), Cond.methodLink RJ1 9 yJ0_checkIndex_df160]
def wsL_law_r11 : List Cond := [Cond.static yJ0_checkIndex_df160, Cond.code yJ0_checkIndex_df160 cJ0_checkIndex_df160 2 none, Cond.fieldLink RJ0 1053 "jdk/internal/util/Preconditions" "SIOOBE_FORMATTER" "Ljava/util/function/BiFunction;", Cond.methodLink RJ0 1059 yJ3_checkIndex_8e157, Cond.static yJ3_checkIndex_8e157, Cond.initialized RJ3, Cond.code yJ3_checkIndex_8e157 cJ3_checkIndex_8e157 3 (some .int), Cond.methodLink RJ0 498 yJ2_charAt_3b067, Cond.static yJ2_charAt_3b067, Cond.initialized RJ2, Cond.code yJ2_charAt_3b067 cJ2_charAt_3b067 2 (some .char), Cond.methodLink RJ2 67 yJ2_checkIndex_2214a, Cond.static yJ2_checkIndex_2214a, Cond.code yJ2_checkIndex_2214a cJ2_checkIndex_2214a 2 none, Cond.methodLink RJ2 48 yJ2_length_9d52b, Cond.static yJ2_length_9d52b, Cond.code yJ2_length_9d52b cJ2_length_9d52b 1 (some .int), Cond.methodLink RJ2 414 yJ0_checkIndex_df160, Cond.methodLink RJ2 71 yJ2_getChar_3b067, Cond.static yJ2_getChar_3b067, Cond.code yJ2_getChar_3b067 cJ2_getChar_3b067 2 (some .char), Cond.fieldLink RJ2 44 "java/lang/StringUTF16" "$assertionsDisabled" "Z", Cond.fieldLink RJ2 59 "java/lang/StringUTF16" "HI_BYTE_SHIFT" "I", Cond.fieldLink RJ2 63 "java/lang/StringUTF16" "LO_BYTE_SHIFT" "I"]
def wsL_law_r12 : List Cond := [Cond.methodLink RX7 64 yX7_takeMile, Cond.instanceMethod yX7_takeMile, Cond.selects RX7 yX7_takeMile yX7_takeMile, Cond.code yX7_takeMile cX7_takeMile 3 none, Cond.methodLink RX7 44 yX6_blame, Cond.methodLink RX7 124 yX7_takeNumber, Cond.instanceMethod yX7_takeNumber, Cond.selects RX7 yX7_takeNumber yX7_takeNumber, Cond.code yX7_takeNumber cX7_takeNumber 3 (some .int), Cond.methodLink RX7 107 yX6_tokenValue, Cond.instanceMethod yX6_tokenValue, Cond.selects RX6 yX6_tokenValue yX6_tokenValue, Cond.code yX6_tokenValue cX6_tokenValue 3 (some .int), Cond.methodLink RX7 68 yX7_takeMud, Cond.instanceMethod yX7_takeMud, Cond.selects RX7 yX7_takeMud yX7_takeMud, Cond.code yX7_takeMud cX7_takeMud 3 none, Cond.methodLink RX7 71 yX7_takeRoom, Cond.instanceMethod yX7_takeRoom, Cond.selects RX7 yX7_takeRoom yX7_takeRoom, Cond.code yX7_takeRoom cX7_takeRoom 2 none, Cond.methodLink RX7 74 yX7_takeSnow, Cond.instanceMethod yX7_takeSnow, Cond.selects RX7 yX7_takeSnow yX7_takeSnow]
def wsL_law_r13 : List Cond := [Cond.code yX7_takeSnow cX7_takeSnow 2 none, Cond.methodLink RX7 80 yX7_takeParty, Cond.instanceMethod yX7_takeParty, Cond.selects RX7 yX7_takeParty yX7_takeParty, Cond.code yX7_takeParty cX7_takeParty 5 none, Cond.methodLink RX7 138 yX2_partyRow, Cond.instanceMethod yX2_partyRow, Cond.selects RX2 yX2_partyRow yX2_partyRow, Cond.code yX2_partyRow cX2_partyRow 2 (some (.array .int)), Cond.methodLink RX7 84 yX7_takeSemicolon, Cond.instanceMethod yX7_takeSemicolon, Cond.selects RX7 yX7_takeSemicolon yX7_takeSemicolon, Cond.code yX7_takeSemicolon cX7_takeSemicolon 1 none, Cond.methodLink RX7 36 yX2_lacksMile, Cond.instanceMethod yX2_lacksMile, Cond.selects RX2 yX2_lacksMile yX2_lacksMile, Cond.code yX2_lacksMile cX2_lacksMile 2 (some .boolean), Cond.methodLink RX2 59 yX2_hasMile, Cond.instanceMethod yX2_hasMile, Cond.selects RX2 yX2_hasMile yX2_hasMile, Cond.code yX2_hasMile cX2_hasMile 2 (some .boolean), Cond.methodLink RX8 95 yX2_copyFrom, Cond.instanceMethod yX2_copyFrom, Cond.selects RX2 yX2_copyFrom yX2_copyFrom]
def wsL_law_r14 : List Cond := [Cond.code yX2_copyFrom cX2_copyFrom 2 none, Cond.methodLink RX2 49 arraycopyName, Cond.native arraycopyName, Cond.static arraycopyName, Cond.initialized "java/lang/System", Cond.methodLink RL 26 yX9_text, Cond.instanceMethod yX9_text, Cond.selects RX9 yX9_text yX9_text, Cond.code yX9_text cX9_text 2 (some .int), Cond.fieldLink RX9 96 "CoachCourtModel" "fault" "I", Cond.fieldLink RX9 105 "CoachCourtModel" "pos" "I", Cond.fieldLink RX9 119 "CoachCourtModel" "sort" "I", Cond.fieldLink RX9 102 "CoachCourtModel" "wrongAt" "I", Cond.methodLink RX9 141 yX9_next, Cond.instanceMethod yX9_next, Cond.selects RX9 yX9_next yX9_next, Cond.code yX9_next cX9_next 2 none, Cond.fieldLink RX9 99 "CoachCourtModel" "from" "I", Cond.constantLong RX9 122 (97), Cond.constantLong RX9 124 (122), Cond.constantLong RX9 126 (48), Cond.constantLong RX9 128 (57), Cond.fieldLink RX9 130 "CoachCourtModel" "value" "I", Cond.methodLink RX9 108 yX9_byteAt]
def wsL_law_r15 : List Cond := [Cond.instanceMethod yX9_byteAt, Cond.selects RX9 yX9_byteAt yX9_byteAt, Cond.code yX9_byteAt cX9_byteAt 2 (some .int), Cond.methodLink RX9 133 yX9_needs, Cond.instanceMethod yX9_needs, Cond.selects RX9 yX9_needs yX9_needs, Cond.code yX9_needs cX9_needs 3 none, Cond.methodLink RX9 161 yX9_readLine, Cond.instanceMethod yX9_readLine, Cond.selects RX9 yX9_readLine yX9_readLine, Cond.code yX9_readLine cX9_readLine 2 none, Cond.methodLink RX9 154 yX9_lineNow, Cond.instanceMethod yX9_lineNow, Cond.selects RX9 yX9_lineNow yX9_lineNow, Cond.code yX9_lineNow cX9_lineNow 1 (some .int), Cond.methodLink RX9 112 yX9_is, Cond.instanceMethod yX9_is, Cond.selects RX9 yX9_is yX9_is, Cond.code yX9_is cX9_is 5 (some .boolean), Cond.methodLink RX9 116 yX9_ends, Cond.instanceMethod yX9_ends, Cond.selects RX9 yX9_ends yX9_ends, Cond.code yX9_ends cX9_ends 5 (some .boolean), Cond.methodLink RX9 158 yX9_readLineOf]
def wsL_law_r16 : List Cond := [Cond.instanceMethod yX9_readLineOf, Cond.selects RX9 yX9_readLineOf yX9_readLineOf, Cond.code yX9_readLineOf cX9_readLineOf 2 none, Cond.methodLink RX9 144 yX9_readNumber, Cond.instanceMethod yX9_readNumber, Cond.selects RX9 yX9_readNumber yX9_readNumber, Cond.code yX9_readNumber cX9_readNumber 4 (some .int), Cond.methodLink RX9 137 yX9_looked, Cond.instanceMethod yX9_looked, Cond.selects RX9 yX9_looked yX9_looked, Cond.code yX9_looked cX9_looked 3 (some .int), Cond.methodLink RX9 147 yX9_readMud, Cond.instanceMethod yX9_readMud, Cond.selects RX9 yX9_readMud yX9_readMud, Cond.code yX9_readMud cX9_readMud 2 none, Cond.methodLink RX9 150 yX9_readParty, Cond.instanceMethod yX9_readParty, Cond.selects RX9 yX9_readParty yX9_readParty, Cond.code yX9_readParty cX9_readParty 3 none, Cond.methodLink RL 27 yX8_fault, Cond.instanceMethod yX8_fault, Cond.selects RX8 yX8_fault yX8_fault, Cond.code yX8_fault cX8_fault 1 (some .int), Cond.methodLink RL 30 yX9_fault]
def wsL_law_r17 : List Cond := [Cond.instanceMethod yX9_fault, Cond.selects RX9 yX9_fault yX9_fault, Cond.code yX9_fault cX9_fault 1 (some .int), Cond.methodLink RL 31 yX8_rule, Cond.instanceMethod yX8_rule, Cond.selects RX8 yX8_rule yX8_rule, Cond.code yX8_rule cX8_rule 2 (some .int), Cond.methodLink RX8 118 yX2_minutesOfAll, Cond.instanceMethod yX2_minutesOfAll, Cond.selects RX2 yX2_minutesOfAll yX2_minutesOfAll, Cond.code yX2_minutesOfAll cX2_minutesOfAll 3 (some .int), Cond.methodLink RX2 55 yX2_minutesOf, Cond.instanceMethod yX2_minutesOf, Cond.selects RX2 yX2_minutesOf yX2_minutesOf, Cond.code yX2_minutesOf cX2_minutesOf 2 (some .int), Cond.methodLink RX8 122 yX2_drivenMiles, Cond.instanceMethod yX2_drivenMiles, Cond.selects RX2 yX2_drivenMiles yX2_drivenMiles, Cond.code yX2_drivenMiles cX2_drivenMiles 3 (some .int), Cond.methodLink RL 34 yX9_rule, Cond.instanceMethod yX9_rule, Cond.selects RX9 yX9_rule yX9_rule, Cond.code yX9_rule cX9_rule 4 (some .int), Cond.fieldLink RX9 187 "CoachCourtModel" "driven" "I"]
def wsL_law_r18 : List Cond := [Cond.methodLink RX9 206 yX9_starts, Cond.instanceMethod yX9_starts, Cond.selects RX9 yX9_starts yX9_starts, Cond.code yX9_starts cX9_starts 2 none, Cond.methodLink RX9 197 yX9_drives, Cond.instanceMethod yX9_drives, Cond.selects RX9 yX9_drives yX9_drives, Cond.code yX9_drives cX9_drives 3 none, Cond.methodLink RX9 170 yX9_of, Cond.instanceMethod yX9_of, Cond.selects RX9 yX9_of yX9_of, Cond.code yX9_of cX9_of 3 (some .int), Cond.methodLink RX9 190 yX9_mileGoes, Cond.instanceMethod yX9_mileGoes, Cond.selects RX9 yX9_mileGoes yX9_mileGoes, Cond.code yX9_mileGoes cX9_mileGoes 4 none, Cond.methodLink RX9 179 yX9_canRun, Cond.instanceMethod yX9_canRun, Cond.selects RX9 yX9_canRun yX9_canRun, Cond.code yX9_canRun cX9_canRun 5 (some .boolean), Cond.methodLink RX9 164 yX9_ofMile, Cond.instanceMethod yX9_ofMile, Cond.selects RX9 yX9_ofMile yX9_ofMile, Cond.code yX9_ofMile cX9_ofMile 3 (some .int)]
def wsL_law_r19 : List Cond := [Cond.methodLink RX9 173 yX9_strainOf, Cond.instanceMethod yX9_strainOf, Cond.selects RX9 yX9_strainOf yX9_strainOf, Cond.code yX9_strainOf cX9_strainOf 5 (some .int), Cond.methodLink RX9 167 yX9_minutes, Cond.instanceMethod yX9_minutes, Cond.selects RX9 yX9_minutes yX9_minutes, Cond.code yX9_minutes cX9_minutes 2 (some .int), Cond.methodLink RX9 183 yX9_runsIn, Cond.instanceMethod yX9_runsIn, Cond.selects RX9 yX9_runsIn yX9_runsIn, Cond.code yX9_runsIn cX9_runsIn 4 none, Cond.methodLink RX9 176 yX9_hearing, Cond.instanceMethod yX9_hearing, Cond.selects RX9 yX9_hearing yX9_hearing, Cond.code yX9_hearing cX9_hearing 2 (some .int), Cond.methodLink RL 35 yX8_mile, Cond.instanceMethod yX8_mile, Cond.selects RX8 yX8_mile yX8_mile, Cond.code yX8_mile cX8_mile 3 (some .int), Cond.methodLink RX8 125 yX2_hasMile, Cond.methodLink RX8 128 yX2_minutesOf, Cond.methodLink RX8 132 yX2_hearingOf, Cond.instanceMethod yX2_hearingOf]
def wsL_law_r20 : List Cond := [Cond.selects RX2 yX2_hearingOf yX2_hearingOf, Cond.code yX2_hearingOf cX2_hearingOf 3 (some .int), Cond.methodLink RX8 135 yX2_mileRow, Cond.instanceMethod yX2_mileRow, Cond.selects RX2 yX2_mileRow yX2_mileRow, Cond.code yX2_mileRow cX2_mileRow 2 (some (.array .int)), Cond.methodLink RL 39 yX9_mile, Cond.instanceMethod yX9_mile, Cond.selects RX9 yX9_mile yX9_mile, Cond.code yX9_mile cX9_mile 3 (some .int), Cond.constantLong RX9 213 (4), Cond.methodLink RX9 209 yX9_isMile, Cond.instanceMethod yX9_isMile, Cond.selects RX9 yX9_isMile yX9_isMile, Cond.code yX9_isMile cX9_isMile 2 (some .boolean), Cond.methodLink RL 40 yX8_party, Cond.instanceMethod yX8_party, Cond.selects RX8 yX8_party yX8_party, Cond.code yX8_party cX8_party 3 (some .int), Cond.methodLink RX8 139 yX2_hasParty, Cond.instanceMethod yX2_hasParty, Cond.selects RX2 yX2_hasParty yX2_hasParty, Cond.code yX2_hasParty cX2_hasParty 2 (some .boolean), Cond.methodLink RX8 142 yX2_partyRow]
def wsL_law_r21 : List Cond := [Cond.methodLink RL 43 yX9_party, Cond.instanceMethod yX9_party, Cond.selects RX9 yX9_party yX9_party, Cond.code yX9_party cX9_party 3 (some .int), Cond.methodLink RX9 215 yX9_isParty, Cond.instanceMethod yX9_isParty, Cond.selects RX9 yX9_isParty yX9_isParty, Cond.code yX9_isParty cX9_isParty 2 (some .boolean), Cond.methodLink RL 44 yX8_strain, Cond.instanceMethod yX8_strain, Cond.selects RX8 yX8_strain yX8_strain, Cond.code yX8_strain cX8_strain 3 (some .int), Cond.methodLink RX8 145 yX2_strainOf, Cond.instanceMethod yX2_strainOf, Cond.selects RX2 yX2_strainOf yX2_strainOf, Cond.code yX2_strainOf cX2_strainOf 4 (some .int), Cond.methodLink RL 47 yX9_strain, Cond.instanceMethod yX9_strain, Cond.selects RX9 yX9_strain yX9_strain, Cond.code yX9_strain cX9_strain 3 (some .int), Cond.methodLink RL 48 yX8_pave, Cond.instanceMethod yX8_pave, Cond.selects RX8 yX8_pave yX8_pave, Cond.code yX8_pave cX8_pave 6 (some .int)]
def wsL_law_r22 : List Cond := [Cond.fieldLink RX8 149 "CoachCourt" "MILE_HIGH" "[I", Cond.methodLink RL 52 yX9_pave, Cond.instanceMethod yX9_pave, Cond.selects RX9 yX9_pave yX9_pave, Cond.code yX9_pave cX9_pave 5 (some .int), Cond.constantLong RX9 218 (3), Cond.methodLink RX9 220 yX9_isPart, Cond.static yX9_isPart, Cond.code yX9_isPart cX9_isPart 1 (some .boolean), Cond.methodLink RX9 223 yX9_becomes, Cond.instanceMethod yX9_becomes, Cond.selects RX9 yX9_becomes yX9_becomes, Cond.code yX9_becomes cX9_becomes 4 (some .int), Cond.methodLink RL 53 yX8_alter, Cond.instanceMethod yX8_alter, Cond.selects RX8 yX8_alter yX8_alter, Cond.code yX8_alter cX8_alter 6 (some .int), Cond.fieldLink RX8 152 "CoachCourt" "PARTY_LOW" "[I", Cond.fieldLink RX8 155 "CoachCourt" "PARTY_HIGH" "[I", Cond.methodLink RL 56 yX9_alter, Cond.instanceMethod yX9_alter, Cond.selects RX9 yX9_alter yX9_alter, Cond.code yX9_alter cX9_alter 5 (some .int), Cond.constantLong RX9 226 (99)]
def wsL_law_r23 : List Cond := [Cond.constantLong RX9 228 (20), Cond.methodLink RL 57 yX8_stand, Cond.instanceMethod yX8_stand, Cond.selects RX8 yX8_stand yX8_stand, Cond.code yX8_stand cX8_stand 4 (some .int), Cond.methodLink RL 60 yX9_stand, Cond.instanceMethod yX9_stand, Cond.selects RX9 yX9_stand yX9_stand, Cond.code yX9_stand cX9_stand 3 (some .int), Cond.methodLink RL 61 yX8_set, Cond.instanceMethod yX8_set, Cond.selects RX8 yX8_set yX8_set, Cond.code yX8_set cX8_set 4 (some .int), Cond.methodLink RL 64 yX9_set, Cond.instanceMethod yX9_set, Cond.selects RX9 yX9_set yX9_set, Cond.code yX9_set cX9_set 4 (some .int), Cond.methodLink RL 65 yX8_turn, Cond.instanceMethod yX8_turn, Cond.selects RX8 yX8_turn yX8_turn, Cond.code yX8_turn cX8_turn 2 (some .int), Cond.methodLink RX8 161 yX2_hasSignpost, Cond.instanceMethod yX2_hasSignpost, Cond.selects RX2 yX2_hasSignpost yX2_hasSignpost]
def wsL_law_r24 : List Cond := [Cond.code yX2_hasSignpost cX2_hasSignpost 2 (some .boolean), Cond.methodLink RX8 164 yX2_turnSignpost, Cond.instanceMethod yX2_turnSignpost, Cond.selects RX2 yX2_turnSignpost yX2_turnSignpost, Cond.code yX2_turnSignpost cX2_turnSignpost 3 none, Cond.methodLink RL 68 yX9_turn, Cond.instanceMethod yX9_turn, Cond.selects RX9 yX9_turn yX9_turn, Cond.code yX9_turn cX9_turn 3 (some .int), Cond.methodLink RL 69 yX8_fate, Cond.instanceMethod yX8_fate, Cond.selects RX8 yX8_fate yX8_fate, Cond.code yX8_fate cX8_fate 3 (some .int), Cond.methodLink RX8 171 yX0_run, Cond.instanceMethod yX0_run, Cond.selects RX0 yX0_run yX0_run, Cond.code yX0_run cX0_run 3 none, Cond.fieldLink RX0 31 "CoachCourt$Drive" "parties" "I", Cond.methodLink RX0 27 yX0_begin, Cond.instanceMethod yX0_begin, Cond.selects RX0 yX0_begin yX0_begin, Cond.code yX0_begin cX0_begin 3 none, Cond.fieldLink RX0 46 "CoachCourt$Drive" "driven" "I", Cond.methodLink RX0 42 yX2_drivenMiles]
def wsL_law_r25 : List Cond := [Cond.methodLink RX0 35 yX0_runParty, Cond.instanceMethod yX0_runParty, Cond.selects RX0 yX0_runParty yX0_runParty, Cond.code yX0_runParty cX0_runParty 8 none, Cond.methodLink RX0 49 yX0_setOut, Cond.instanceMethod yX0_setOut, Cond.selects RX0 yX0_setOut yX0_setOut, Cond.code yX0_setOut cX0_setOut 4 none, Cond.methodLink RX0 55 yX2_strainOf, Cond.methodLink RX0 59 yJ6_bitCount_0f7a4, Cond.static yJ6_bitCount_0f7a4, Cond.initialized RJ6, Cond.code yJ6_bitCount_0f7a4 cJ6_bitCount_0f7a4 1 (some .int), Cond.constant RJ6 265 (1431655765), Cond.constant RJ6 266 (858993459), Cond.constant RJ6 267 (252645135), Cond.methodLink RX0 77 yX2_hearingOf, Cond.methodLink RX8 174 yX0_fateRow, Cond.instanceMethod yX0_fateRow, Cond.selects RX0 yX0_fateRow yX0_fateRow, Cond.code yX0_fateRow cX0_fateRow 2 (some (.array .int)), Cond.methodLink RL 72 yX9_fate, Cond.instanceMethod yX9_fate, Cond.selects RX9 yX9_fate yX9_fate]
def wsL_law_r26 : List Cond := [Cond.code yX9_fate cX9_fate 3 (some .int), Cond.methodLink RL 73 yX8_beside, Cond.instanceMethod yX8_beside, Cond.selects RX8 yX8_beside yX8_beside, Cond.code yX8_beside cX8_beside 2 (some .int), Cond.methodLink RL 76 yX9_beside, Cond.instanceMethod yX9_beside, Cond.selects RX9 yX9_beside yX9_beside, Cond.code yX9_beside cX9_beside 2 (some .int), Cond.methodLink RL 77 yX8_sum, Cond.instanceMethod yX8_sum, Cond.selects RX8 yX8_sum yX8_sum, Cond.code yX8_sum cX8_sum 2 (some .int), Cond.methodLink RX8 180 yX0_verdicts, Cond.instanceMethod yX0_verdicts, Cond.selects RX0 yX0_verdicts yX0_verdicts, Cond.code yX0_verdicts cX0_verdicts 1 (some .int), Cond.methodLink RX0 86 yX0_whoHas, Cond.instanceMethod yX0_whoHas, Cond.selects RX0 yX0_whoHas yX0_whoHas, Cond.code yX0_whoHas cX0_whoHas 5 (some .int), Cond.methodLink RX0 89 yX0_fateRow, Cond.methodLink RX8 183 yX0_whoHas, Cond.methodLink RX8 186 yX0_lastVerdict]
def wsL_law_r27 : List Cond := [Cond.instanceMethod yX0_lastVerdict, Cond.selects RX0 yX0_lastVerdict yX0_lastVerdict, Cond.code yX0_lastVerdict cX0_lastVerdict 3 (some .int), Cond.methodLink RX0 93 Lib.Math.max.name, Cond.static Lib.Math.max.name, Cond.initialized "java/lang/Math", Cond.code Lib.Math.max.name Lib.Math.max.code 2 (some .int), Cond.methodLink RX8 189 yX0_heardInAll, Cond.instanceMethod yX0_heardInAll, Cond.selects RX0 yX0_heardInAll yX0_heardInAll, Cond.code yX0_heardInAll cX0_heardInAll 3 (some .int), Cond.methodLink RL 80 yX9_sum, Cond.instanceMethod yX9_sum, Cond.selects RX9 yX9_sum yX9_sum, Cond.code yX9_sum cX9_sum 6 (some .int), Cond.methodLink RX9 193 yX9_flag, Cond.static yX9_flag, Cond.code yX9_flag cX9_flag 1 (some .int), Cond.methodLink RX9 200 yX9_verdicts, Cond.instanceMethod yX9_verdicts, Cond.selects RX9 yX9_verdicts yX9_verdicts, Cond.code yX9_verdicts cX9_verdicts 3 (some .int), Cond.methodLink RX9 203 yX9_bitsOf, Cond.static yX9_bitsOf]
def wsL_law_r28 : List Cond := [Cond.code yX9_bitsOf cX9_bitsOf 3 (some .int), Cond.methodLink RL 81 yX8_best, Cond.instanceMethod yX8_best, Cond.selects RX8 yX8_best yX8_best, Cond.code yX8_best cX8_best 3 (some .int), Cond.methodLink RX8 192 yX3_seekFor, Cond.instanceMethod yX3_seekFor, Cond.selects RX3 yX3_seekFor yX3_seekFor, Cond.code yX3_seekFor cX3_seekFor 2 none, Cond.fieldLink RX3 35 "CoachCourt$Seeker" "most" "I", Cond.methodLink RX3 26 yX2_copyFrom, Cond.methodLink RX3 32 yX3_reckonHopes, Cond.instanceMethod yX3_reckonHopes, Cond.selects RX3 yX3_reckonHopes yX3_reckonHopes, Cond.code yX3_reckonHopes cX3_reckonHopes 2 none, Cond.methodLink RX3 48 yX2_hasParty, Cond.methodLink RX3 52 yX3_canBeHeardAlone, Cond.instanceMethod yX3_canBeHeardAlone, Cond.selects RX3 yX3_canBeHeardAlone yX3_canBeHeardAlone, Cond.code yX3_canBeHeardAlone cX3_canBeHeardAlone 3 (some .boolean), Cond.methodLink RX3 39 yX0_begin, Cond.methodLink RX3 61 yX0_runParty, Cond.methodLink RX3 65 yX0_hasVerdict, Cond.instanceMethod yX0_hasVerdict]
def wsL_law_r29 : List Cond := [Cond.selects RX0 yX0_hasVerdict yX0_hasVerdict, Cond.code yX0_hasVerdict cX0_hasVerdict 2 (some .boolean), Cond.methodLink RX3 44 yX3_seekFrom, Cond.static yX3_seekFrom, Cond.code yX3_seekFrom cX3_seekFrom 4 none, Cond.methodLink RX3 68 arraycopyName, Cond.methodLink RL 84 yX9_best, Cond.instanceMethod yX9_best, Cond.selects RX9 yX9_best yX9_best, Cond.code yX9_best cX9_best 7 (some .int), Cond.methodLink RX9 230 yX9_stoneIn, Cond.instanceMethod yX9_stoneIn, Cond.selects RX9 yX9_stoneIn yX9_stoneIn, Cond.code yX9_stoneIn cX9_stoneIn 5 (some .int), Cond.methodLink RX9 233 yX9_howMany, Cond.instanceMethod yX9_howMany, Cond.selects RX9 yX9_howMany yX9_howMany, Cond.code yX9_howMany cX9_howMany 1 (some .int), Cond.methodLink RL 85 yX8_place, Cond.instanceMethod yX8_place, Cond.selects RX8 yX8_place yX8_place, Cond.code yX8_place cX8_place 4 (some .int), Cond.methodLink RX8 201 yX8_soonestStone, Cond.instanceMethod yX8_soonestStone]
def wsL_law_r30 : List Cond := [Cond.selects RX8 yX8_soonestStone yX8_soonestStone, Cond.code yX8_soonestStone cX8_soonestStone 6 (some .int), Cond.methodLink RX8 204 yX8_verdictFrom, Cond.instanceMethod yX8_verdictFrom, Cond.selects RX8 yX8_verdictFrom yX8_verdictFrom, Cond.code yX8_verdictFrom cX8_verdictFrom 3 (some .int), Cond.methodLink RL 88 yX9_place, Cond.instanceMethod yX9_place, Cond.selects RX9 yX9_place yX9_place, Cond.code yX9_place cX9_place 3 (some .int), Cond.fieldLink RX9 236 "CoachCourtModel" "bestStone" "I", Cond.fieldLink RX9 240 "CoachCourtModel" "bestMile" "I", Cond.methodLink RX9 243 yX9_findPlace, Cond.instanceMethod yX9_findPlace, Cond.selects RX9 yX9_findPlace yX9_findPlace, Cond.code yX9_findPlace cX9_findPlace 4 none, Cond.constant RX9 239 (1000000), Cond.methodLink RL 89 yX8_never, Cond.instanceMethod yX8_never, Cond.selects RX8 yX8_never yX8_never, Cond.code yX8_never cX8_never 3 (some .int), Cond.methodLink RL 92 yX9_never, Cond.instanceMethod yX9_never, Cond.selects RX9 yX9_never yX9_never]
def wsL_law_r31 : List Cond := [Cond.code yX9_never cX9_never 3 (some .int), Cond.methodLink RL 93 yX8_oats, Cond.instanceMethod yX8_oats, Cond.selects RX8 yX8_oats yX8_oats, Cond.code yX8_oats cX8_oats 3 (some .int), Cond.methodLink RX8 210 yX0_hasVerdict, Cond.methodLink RL 96 yX9_oats, Cond.instanceMethod yX9_oats, Cond.selects RX9 yX9_oats yX9_oats, Cond.code yX9_oats cX9_oats 3 (some .int), Cond.methodLink RL 97 yX8_room, Cond.instanceMethod yX8_room, Cond.selects RX8 yX8_room yX8_room, Cond.code yX8_room cX8_room 3 (some .int), Cond.methodLink RX8 213 yX8_verdictsUnder, Cond.instanceMethod yX8_verdictsUnder, Cond.selects RX8 yX8_verdictsUnder yX8_verdictsUnder, Cond.code yX8_verdictsUnder cX8_verdictsUnder 3 (some .int), Cond.methodLink RL 100 yX9_room, Cond.instanceMethod yX9_room, Cond.selects RX9 yX9_room yX9_room, Cond.code yX9_room cX9_room 1 (some .int), Cond.methodLink RX9 246 yX9_leastOf, Cond.instanceMethod yX9_leastOf]
def wsL_law_r32 : List Cond := [Cond.selects RX9 yX9_leastOf yX9_leastOf, Cond.code yX9_leastOf cX9_leastOf 6 (some .int), Cond.methodLink RL 101 yX8_snow, Cond.instanceMethod yX8_snow, Cond.selects RX8 yX8_snow yX8_snow, Cond.code yX8_snow cX8_snow 3 (some .int), Cond.methodLink RL 104 yX9_snow, Cond.instanceMethod yX9_snow, Cond.selects RX9 yX9_snow yX9_snow, Cond.code yX9_snow cX9_snow 1 (some .int), Cond.methodLink RL 105 yX8_rain, Cond.instanceMethod yX8_rain, Cond.selects RX8 yX8_rain yX8_rain, Cond.code yX8_rain cX8_rain 6 (some .int), Cond.methodLink RX8 216 yX8_verdictsWithOtherMud, Cond.instanceMethod yX8_verdictsWithOtherMud, Cond.selects RX8 yX8_verdictsWithOtherMud yX8_verdictsWithOtherMud, Cond.code yX8_verdictsWithOtherMud cX8_verdictsWithOtherMud 2 (some .int), Cond.methodLink RL 108 yX9_rain, Cond.instanceMethod yX9_rain, Cond.selects RX9 yX9_rain yX9_rain, Cond.code yX9_rain cX9_rain 6 (some .int), Cond.methodLink RL 109 yX8_luck, Cond.instanceMethod yX8_luck]
def wsL_law_r33 : List Cond := [Cond.selects RX8 yX8_luck yX8_luck, Cond.code yX8_luck cX8_luck 4 (some .long), Cond.constantLong RX8 219 (-1), Cond.methodLink RX8 221 yX8_weighVerdicts, Cond.instanceMethod yX8_weighVerdicts, Cond.selects RX8 yX8_weighVerdicts yX8_weighVerdicts, Cond.code yX8_weighVerdicts cX8_weighVerdicts 9 (some .long), Cond.methodLink RX8 248 yJ6_bitCount_0f7a4, Cond.methodLink RX8 225 yX8_power, Cond.static yX8_power, Cond.code yX8_power cX8_power 5 (some .long), Cond.methodLink RX8 308 yX2_putMuds, Cond.instanceMethod yX2_putMuds, Cond.selects RX2 yX2_putMuds yX2_putMuds, Cond.code yX2_putMuds cX2_putMuds 3 none, Cond.methodLink RX8 311 yX8_verdictsOf, Cond.instanceMethod yX8_verdictsOf, Cond.selects RX8 yX8_verdictsOf yX8_verdictsOf, Cond.code yX8_verdictsOf cX8_verdictsOf 2 (some .int), Cond.methodLink RX8 228 yX8_partOfFraction, Cond.static yX8_partOfFraction, Cond.code yX8_partOfFraction cX8_partOfFraction 7 (some .long), Cond.methodLink RX8 314 yX8_commonDivisor, Cond.static yX8_commonDivisor]
def wsL_law_r34 : List Cond := [Cond.code yX8_commonDivisor cX8_commonDivisor 11 (some .long), Cond.methodLink RL 113 yX9_luck, Cond.instanceMethod yX9_luck, Cond.selects RX9 yX9_luck yX9_luck, Cond.code yX9_luck cX9_luck 4 (some .long), Cond.constantLong RX9 264 (10), Cond.constantLong RX9 266 (-1), Cond.fieldLink RX9 254 "CoachCourtModel" "wonSum" "J", Cond.fieldLink RX9 261 "CoachCourtModel" "allWays" "J", Cond.methodLink RX9 268 yX9_findOdds, Cond.instanceMethod yX9_findOdds, Cond.selects RX9 yX9_findOdds yX9_findOdds, Cond.code yX9_findOdds cX9_findOdds 7 none, Cond.fieldLink RX9 258 "CoachCourtModel" "manySum" "J", Cond.methodLink RX9 271 yX9_told, Cond.static yX9_told, Cond.code yX9_told cX9_told 7 (some .long), Cond.methodLink RX9 250 yX9_common, Cond.static yX9_common, Cond.code yX9_common cX9_common 10 (some .long), Cond.methodLink RL 114 yX8_mean, Cond.instanceMethod yX8_mean, Cond.selects RX8 yX8_mean yX8_mean, Cond.code yX8_mean cX8_mean 3 (some .long)]
def wsL_law_r35 : List Cond := [Cond.methodLink RL 118 yX9_mean, Cond.instanceMethod yX9_mean, Cond.selects RX9 yX9_mean yX9_mean, Cond.code yX9_mean cX9_mean 3 (some .long), Cond.methodLink RL 119 yX8_see, Cond.instanceMethod yX8_see, Cond.selects RX8 yX8_see yX8_see, Cond.code yX8_see cX8_see 3 (some .int), Cond.methodLink RX8 232 yX5_put, Cond.instanceMethod yX5_put, Cond.selects RX5 yX5_put yX5_put, Cond.code yX5_put cX5_put 3 (some .boolean), Cond.fieldLink RX5 18 "CoachCourt$Sightings" "many" "I", Cond.methodLink RL 122 yX9_see, Cond.instanceMethod yX9_see, Cond.selects RX9 yX9_see yX9_see, Cond.code yX9_see cX9_see 3 (some .int), Cond.constantLong RX9 275 (7), Cond.methodLink RL 123 yX8_forget, Cond.instanceMethod yX8_forget, Cond.selects RX8 yX8_forget yX8_forget, Cond.code yX8_forget cX8_forget 3 (some .int), Cond.methodLink RL 126 yX9_forget, Cond.instanceMethod yX9_forget]
def wsL_law_r36 : List Cond := [Cond.selects RX9 yX9_forget yX9_forget, Cond.code yX9_forget cX9_forget 2 (some .int), Cond.methodLink RL 127 yX8_turned, Cond.instanceMethod yX8_turned, Cond.selects RX8 yX8_turned yX8_turned, Cond.code yX8_turned cX8_turned 3 (some .int), Cond.methodLink RX8 235 yX8_driveIfTurned, Cond.instanceMethod yX8_driveIfTurned, Cond.selects RX8 yX8_driveIfTurned yX8_driveIfTurned, Cond.code yX8_driveIfTurned cX8_driveIfTurned 2 none, Cond.methodLink RX8 238 yX5_agreeWith, Cond.instanceMethod yX5_agreeWith, Cond.selects RX5 yX5_agreeWith yX5_agreeWith, Cond.code yX5_agreeWith cX5_agreeWith 3 (some .boolean), Cond.methodLink RL 130 yX9_turned, Cond.instanceMethod yX9_turned, Cond.selects RX9 yX9_turned yX9_turned, Cond.code yX9_turned cX9_turned 3 (some .int), Cond.methodLink RX9 277 yX9_signs, Cond.instanceMethod yX9_signs, Cond.selects RX9 yX9_signs yX9_signs, Cond.code yX9_signs cX9_signs 1 (some .int), Cond.methodLink RX9 280 yX9_startsTurned, Cond.instanceMethod yX9_startsTurned]
def wsL_law_r37 : List Cond := [Cond.selects RX9 yX9_startsTurned yX9_startsTurned, Cond.code yX9_startsTurned cX9_startsTurned 4 none, Cond.methodLink RX9 283 yX9_isSo, Cond.instanceMethod yX9_isSo, Cond.selects RX9 yX9_isSo yX9_isSo, Cond.code yX9_isSo cX9_isSo 3 (some .boolean), Cond.methodLink RX9 287 yX9_signBit, Cond.instanceMethod yX9_signBit, Cond.selects RX9 yX9_signBit yX9_signBit, Cond.code yX9_signBit cX9_signBit 2 (some .int), Cond.methodLink RL 131 yX8_laws, Cond.instanceMethod yX8_laws, Cond.selects RX8 yX8_laws yX8_laws, Cond.code yX8_laws cX8_laws 4 (some .int), Cond.methodLink RL 134 yX9_laws, Cond.instanceMethod yX9_laws, Cond.selects RX9 yX9_laws yX9_laws, Cond.code yX9_laws cX9_laws 4 (some .int), Cond.methodLink RL 135 yX8_look, Cond.instanceMethod yX8_look, Cond.selects RX8 yX8_look yX8_look, Cond.code yX8_look cX8_look 7 (some .int), Cond.methodLink RX8 245 yX8_turned, Cond.methodLink RX8 253 yX8_mostLeftBy]
def wsL_law_r38 : List Cond := [Cond.instanceMethod yX8_mostLeftBy, Cond.selects RX8 yX8_mostLeftBy yX8_mostLeftBy, Cond.code yX8_mostLeftBy cX8_mostLeftBy 7 (some .int), Cond.methodLink RX8 318 Lib.Math.max.name, Cond.methodLink RL 138 yX9_look, Cond.instanceMethod yX9_look, Cond.selects RX9 yX9_look yX9_look, Cond.code yX9_look cX9_look 7 (some .int), Cond.methodLink RL 139 yX8_drift, Cond.instanceMethod yX8_drift, Cond.selects RX8 yX8_drift yX8_drift, Cond.code yX8_drift cX8_drift 8 (some .int), Cond.methodLink RX8 256 yX8_nextSeed, Cond.static yX8_nextSeed, Cond.code yX8_nextSeed cX8_nextSeed 1 (some .int), Cond.constant RX8 323 (1103515245), Cond.methodLink RX8 259 yX8_drawnOf, Cond.static yX8_drawnOf, Cond.code yX8_drawnOf cX8_drawnOf 1 (some .int), Cond.methodLink RL 142 yX9_drift, Cond.instanceMethod yX9_drift, Cond.selects RX9 yX9_drift yX9_drift, Cond.code yX9_drift cX9_drift 8 (some .int), Cond.constantLong RX9 290 (60)]
def wsL_law_r39 : List Cond := [Cond.constant RX9 292 (1103515245), Cond.methodLink RL 143 yX8_keep, Cond.instanceMethod yX8_keep, Cond.selects RX8 yX8_keep yX8_keep, Cond.code yX8_keep cX8_keep 4 (some .int), Cond.methodLink RX8 264 yX5_copyFrom, Cond.instanceMethod yX5_copyFrom, Cond.selects RX5 yX5_copyFrom yX5_copyFrom, Cond.code yX5_copyFrom cX5_copyFrom 2 none, Cond.methodLink RX5 22 arraycopyName, Cond.methodLink RL 146 yX9_keep, Cond.instanceMethod yX9_keep, Cond.selects RX9 yX9_keep yX9_keep, Cond.code yX9_keep cX9_keep 3 (some .int), Cond.methodLink RX9 293 yX9_copies, Cond.instanceMethod yX9_copies, Cond.selects RX9 yX9_copies yX9_copies, Cond.code yX9_copies cX9_copies 4 none, Cond.methodLink RL 147 yX8_back, Cond.instanceMethod yX8_back, Cond.selects RX8 yX8_back yX8_back, Cond.code yX8_back cX8_back 3 (some .int), Cond.methodLink RL 150 yX9_back, Cond.instanceMethod yX9_back]
def wsL_law_r40 : List Cond := [Cond.selects RX9 yX9_back yX9_back, Cond.code yX9_back cX9_back 2 (some .int), Cond.methodLink RL 151 yX8_sheet, Cond.instanceMethod yX8_sheet, Cond.selects RX8 yX8_sheet yX8_sheet, Cond.code yX8_sheet cX8_sheet 4 (some .int), Cond.methodLink RX8 267 yX4_renew, Cond.instanceMethod yX4_renew, Cond.selects RX4 yX4_renew yX4_renew, Cond.code yX4_renew cX4_renew 4 none, Cond.fieldLink RX4 15 "CoachCourt$Sheet" "there" "Z", Cond.fieldLink RX4 19 "CoachCourt$Sheet" "lane" "I", Cond.fieldLink RX4 23 "CoachCourt$Sheet" "size" "I", Cond.methodLink RL 154 yX9_sheet, Cond.instanceMethod yX9_sheet, Cond.selects RX9 yX9_sheet yX9_sheet, Cond.code yX9_sheet cX9_sheet 5 (some .int), Cond.methodLink RX9 298 yX9_isSheet, Cond.static yX9_isSheet, Cond.code yX9_isSheet cX9_isSheet 2 (some .boolean), Cond.constantLong RX9 296 (2), Cond.methodLink RL 155 yX8_lay, Cond.instanceMethod yX8_lay, Cond.selects RX8 yX8_lay yX8_lay]
def wsL_law_r41 : List Cond := [Cond.code yX8_lay cX8_lay 6 (some .int), Cond.methodLink RX8 274 yX4_refusal, Cond.instanceMethod yX4_refusal, Cond.selects RX4 yX4_refusal yX4_refusal, Cond.code yX4_refusal cX4_refusal 3 (some .int), Cond.methodLink RX8 280 yX4_cutToLane, Cond.instanceMethod yX4_cutToLane, Cond.selects RX4 yX4_cutToLane yX4_cutToLane, Cond.code yX4_cutToLane cX4_cutToLane 2 (some .int), Cond.methodLink RL 158 yX9_lay, Cond.instanceMethod yX9_lay, Cond.selects RX9 yX9_lay yX9_lay, Cond.code yX9_lay cX9_lay 4 (some .int), Cond.methodLink RL 159 yX8_read, Cond.instanceMethod yX8_read, Cond.selects RX8 yX8_read yX8_read, Cond.code yX8_read cX8_read 11 (some .int), Cond.fieldLink RX8 286 "CoachCourt" "latestTorn" "I", Cond.methodLink RX8 283 yX4_refusalOfPair, Cond.instanceMethod yX4_refusalOfPair, Cond.selects RX4 yX4_refusalOfPair yX4_refusalOfPair, Cond.code yX4_refusalOfPair cX4_refusalOfPair 4 (some .int), Cond.methodLink RX4 26 yX4_refusal, Cond.methodLink RL 163 yX9_read]
def wsL_law_r42 : List Cond := [Cond.instanceMethod yX9_read, Cond.selects RX9 yX9_read yX9_read, Cond.code yX9_read cX9_read 11 (some .int), Cond.fieldLink RX9 305 "CoachCourtModel" "torn" "I", Cond.methodLink RX9 302 yX9_stand, Cond.methodLink RL 164 yX8_torn, Cond.instanceMethod yX8_torn, Cond.selects RX8 yX8_torn yX8_torn, Cond.code yX8_torn cX8_torn 1 (some .int), Cond.methodLink RL 167 yX9_torn, Cond.instanceMethod yX9_torn, Cond.selects RX9 yX9_torn yX9_torn, Cond.code yX9_torn cX9_torn 1 (some .int), Cond.methodLink RL 168 yX8_count, Cond.instanceMethod yX8_count, Cond.selects RX8 yX8_count yX8_count, Cond.code yX8_count cX8_count 2 (some .int), Cond.methodLink RX8 289 yX2_muddyMiles, Cond.instanceMethod yX2_muddyMiles, Cond.selects RX2 yX2_muddyMiles yX2_muddyMiles, Cond.code yX2_muddyMiles cX2_muddyMiles 3 (some .int), Cond.methodLink RX8 292 yX8_imagesThere, Cond.instanceMethod yX8_imagesThere, Cond.selects RX8 yX8_imagesThere yX8_imagesThere]
def wsL_law_r43 : List Cond := [Cond.code yX8_imagesThere cX8_imagesThere 3 (some .int), Cond.methodLink RX8 299 yX2_windOfAll, Cond.instanceMethod yX2_windOfAll, Cond.selects RX2 yX2_windOfAll yX2_windOfAll, Cond.code yX2_windOfAll cX2_windOfAll 3 (some .int), Cond.methodLink RL 171 yX9_count, Cond.instanceMethod yX9_count, Cond.selects RX9 yX9_count yX9_count, Cond.code yX9_count cX9_count 5 (some .int)]
def wsL_law : List Cond := (wsL_law_r1 ++ (wsL_law_r2 ++ (wsL_law_r3 ++ (wsL_law_r4 ++ (wsL_law_r5 ++ (wsL_law_r6 ++ (wsL_law_r7 ++ (wsL_law_r8 ++ (wsL_law_r9 ++ (wsL_law_r10 ++ (wsL_law_r11 ++ (wsL_law_r12 ++ (wsL_law_r13 ++ (wsL_law_r14 ++ (wsL_law_r15 ++ (wsL_law_r16 ++ (wsL_law_r17 ++ (wsL_law_r18 ++ (wsL_law_r19 ++ (wsL_law_r20 ++ (wsL_law_r21 ++ (wsL_law_r22 ++ (wsL_law_r23 ++ (wsL_law_r24 ++ (wsL_law_r25 ++ (wsL_law_r26 ++ (wsL_law_r27 ++ (wsL_law_r28 ++ (wsL_law_r29 ++ (wsL_law_r30 ++ (wsL_law_r31 ++ (wsL_law_r32 ++ (wsL_law_r33 ++ (wsL_law_r34 ++ (wsL_law_r35 ++ (wsL_law_r36 ++ (wsL_law_r37 ++ (wsL_law_r38 ++ (wsL_law_r39 ++ (wsL_law_r40 ++ (wsL_law_r41 ++ (wsL_law_r42 ++ wsL_law_r43)))))))))))))))))))))))))))))))))))))))))) ++ wsX80 ++ wsX90 ++ wsX60 ++ wsX70 ++ wsX20 ++ wsX00 ++ wsX30 ++ wsX50 ++ wsX10 ++ wsX40 ++ ([] : List Cond)
set_option maxRecDepth 20000 in
theorem wl_1 : ∀ w ∈ wsL_law_r1, w ∈ lw_tbl := fun w h => (goodIn_p wsL_law_r1 [81, 84] (by decide +kernel) (by decide +kernel) w h).1
set_option maxRecDepth 20000 in
theorem wl_2 : ∀ w ∈ wsL_law_r2, w ∈ lw_tbl := fun w h => (goodIn_p wsL_law_r2 [] (by decide +kernel) (by decide +kernel) w h).1
set_option maxRecDepth 20000 in
theorem wl_3 : ∀ w ∈ wsL_law_r3, w ∈ lw_tbl := fun w h => (goodIn_p wsL_law_r3 [89, 125, 141, 212] (by decide +kernel) (by decide +kernel) w h).1
set_option maxRecDepth 20000 in
theorem wl_4 : ∀ w ∈ wsL_law_r4, w ∈ lw_tbl := fun w h => (goodIn_p wsL_law_r4 [243, 267, 285] (by decide +kernel) (by decide +kernel) w h).1
set_option maxRecDepth 20000 in
theorem wl_5 : ∀ w ∈ wsL_law_r5, w ∈ lw_tbl := fun w h => (goodIn_p wsL_law_r5 [308, 889] (by decide +kernel) (by decide +kernel) w h).1
set_option maxRecDepth 20000 in
theorem wl_6 : ∀ w ∈ wsL_law_r6, w ∈ lw_tbl := fun w h => (goodIn_p wsL_law_r6 [894, 898, 364] (by decide +kernel) (by decide +kernel) w h).1
set_option maxRecDepth 20000 in
theorem wl_7 : ∀ w ∈ wsL_law_r7, w ∈ lw_tbl := fun w h => (goodIn_p wsL_law_r7 [367, 371, 1015, 1019, 375, 1023] (by decide +kernel) (by decide +kernel) w h).1
set_option maxRecDepth 20000 in
theorem wl_8 : ∀ w ∈ wsL_law_r8, w ∈ lw_tbl := fun w h => (goodIn_p wsL_law_r8 [379, 383, 387, 391] (by decide +kernel) (by decide +kernel) w h).1
set_option maxRecDepth 20000 in
theorem wl_9 : ∀ w ∈ wsL_law_r9, w ∈ lw_tbl := fun w h => (goodIn_p wsL_law_r9 [395, 399, 402, 406, 410, 415] (by decide +kernel) (by decide +kernel) w h).1
set_option maxRecDepth 20000 in
theorem wl_10 : ∀ w ∈ wsL_law_r10, w ∈ lw_tbl := fun w h => (goodIn_p wsL_law_r10 [419, 423, 429, 433, 436] (by decide +kernel) (by decide +kernel) w h).1
set_option maxRecDepth 20000 in
theorem wl_11 : ∀ w ∈ wsL_law_r11, w ∈ lw_tbl := fun w h => (goodIn_p wsL_law_r11 [439, 444, 447, 450, 453, 457] (by decide +kernel) (by decide +kernel) w h).1
set_option maxRecDepth 20000 in
theorem wl_12 : ∀ w ∈ wsL_law_r12, w ∈ lw_tbl := fun w h => (goodIn_p wsL_law_r12 [474, 481, 485, 490, 494] (by decide +kernel) (by decide +kernel) w h).1
set_option maxRecDepth 20000 in
theorem wl_13 : ∀ w ∈ wsL_law_r13, w ∈ lw_tbl := fun w h => (goodIn_p wsL_law_r13 [498, 502, 506, 514, 518, 522] (by decide +kernel) (by decide +kernel) w h).1
set_option maxRecDepth 20000 in
theorem wl_14 : ∀ w ∈ wsL_law_r14, w ∈ lw_tbl := fun w h => (goodIn_p wsL_law_r14 [526, 1027, 1031] (by decide +kernel) (by decide +kernel) w h).1
set_option maxRecDepth 20000 in
theorem wl_15 : ∀ w ∈ wsL_law_r15, w ∈ lw_tbl := fun w h => (goodIn_p wsL_law_r15 [1035, 1043, 1047, 1051, 1055, 1059] (by decide +kernel) (by decide +kernel) w h).1
set_option maxRecDepth 20000 in
theorem wl_16 : ∀ w ∈ wsL_law_r16, w ∈ lw_tbl := fun w h => (goodIn_p wsL_law_r16 [1063, 1067, 1071, 1075, 1079, 533] (by decide +kernel) (by decide +kernel) w h).1
set_option maxRecDepth 20000 in
theorem wl_17 : ∀ w ∈ wsL_law_r17, w ∈ lw_tbl := fun w h => (goodIn_p wsL_law_r17 [1083, 537, 541, 545, 549, 1087] (by decide +kernel) (by decide +kernel) w h).1
set_option maxRecDepth 20000 in
theorem wl_18 : ∀ w ∈ wsL_law_r18, w ∈ lw_tbl := fun w h => (goodIn_p wsL_law_r18 [1091, 1095, 1099, 1103, 1107, 1111] (by decide +kernel) (by decide +kernel) w h).1
set_option maxRecDepth 20000 in
theorem wl_19 : ∀ w ∈ wsL_law_r19, w ∈ lw_tbl := fun w h => (goodIn_p wsL_law_r19 [1115, 1119, 1123, 1127, 553] (by decide +kernel) (by decide +kernel) w h).1
set_option maxRecDepth 20000 in
theorem wl_20 : ∀ w ∈ wsL_law_r20, w ∈ lw_tbl := fun w h => (goodIn_p wsL_law_r20 [559, 563, 1131, 1135, 567, 571] (by decide +kernel) (by decide +kernel) w h).1
set_option maxRecDepth 20000 in
theorem wl_21 : ∀ w ∈ wsL_law_r21, w ∈ lw_tbl := fun w h => (goodIn_p wsL_law_r21 [1140, 1144, 576, 580, 1148, 584] (by decide +kernel) (by decide +kernel) w h).1
set_option maxRecDepth 20000 in
theorem wl_22 : ∀ w ∈ wsL_law_r22, w ∈ lw_tbl := fun w h => (goodIn_p wsL_law_r22 [1152, 1156, 1160, 589, 1164] (by decide +kernel) (by decide +kernel) w h).1
set_option maxRecDepth 20000 in
theorem wl_23 : ∀ w ∈ wsL_law_r23, w ∈ lw_tbl := fun w h => (goodIn_p wsL_law_r23 [595, 1170, 599, 1174, 603] (by decide +kernel) (by decide +kernel) w h).1
set_option maxRecDepth 20000 in
theorem wl_24 : ∀ w ∈ wsL_law_r24, w ∈ lw_tbl := fun w h => (goodIn_p wsL_law_r24 [607, 611, 1178, 615, 619, 623] (by decide +kernel) (by decide +kernel) w h).1
set_option maxRecDepth 20000 in
theorem wl_25 : ∀ w ∈ wsL_law_r25, w ∈ lw_tbl := fun w h => (goodIn_p wsL_law_r25 [628, 632, 636, 644] (by decide +kernel) (by decide +kernel) w h).1
set_option maxRecDepth 20000 in
theorem wl_26 : ∀ w ∈ wsL_law_r26, w ∈ lw_tbl := fun w h => (goodIn_p wsL_law_r26 [1182, 648, 1186, 652, 656, 660] (by decide +kernel) (by decide +kernel) w h).1
set_option maxRecDepth 20000 in
theorem wl_27 : ∀ w ∈ wsL_law_r27, w ∈ lw_tbl := fun w h => (goodIn_p wsL_law_r27 [666, 669, 673, 1190, 1193, 1197] (by decide +kernel) (by decide +kernel) w h).1
set_option maxRecDepth 20000 in
theorem wl_28 : ∀ w ∈ wsL_law_r28, w ∈ lw_tbl := fun w h => (goodIn_p wsL_law_r28 [1200, 677, 681, 686, 691] (by decide +kernel) (by decide +kernel) w h).1
set_option maxRecDepth 20000 in
theorem wl_29 : ∀ w ∈ wsL_law_r29, w ∈ lw_tbl := fun w h => (goodIn_p wsL_law_r29 [697, 700, 1204, 1208, 1212, 705] (by decide +kernel) (by decide +kernel) w h).1
set_option maxRecDepth 20000 in
theorem wl_30 : ∀ w ∈ wsL_law_r30, w ∈ lw_tbl := fun w h => (goodIn_p wsL_law_r30 [709, 713, 1216, 1220, 717] (by decide +kernel) (by decide +kernel) w h).1
set_option maxRecDepth 20000 in
theorem wl_31 : ∀ w ∈ wsL_law_r31, w ∈ lw_tbl := fun w h => (goodIn_p wsL_law_r31 [1225, 721, 1229, 726, 730, 1233] (by decide +kernel) (by decide +kernel) w h).1
set_option maxRecDepth 20000 in
theorem wl_32 : ∀ w ∈ wsL_law_r32, w ∈ lw_tbl := fun w h => (goodIn_p wsL_law_r32 [1237, 734, 1241, 738, 742, 1245] (by decide +kernel) (by decide +kernel) w h).1
set_option maxRecDepth 20000 in
theorem wl_33 : ∀ w ∈ wsL_law_r33, w ∈ lw_tbl := fun w h => (goodIn_p wsL_law_r33 [746, 751, 755, 759, 763, 766] (by decide +kernel) (by decide +kernel) w h).1
set_option maxRecDepth 20000 in
theorem wl_34 : ∀ w ∈ wsL_law_r34, w ∈ lw_tbl := fun w h => (goodIn_p wsL_law_r34 [769, 1249, 1255, 1258, 1261, 773] (by decide +kernel) (by decide +kernel) w h).1
set_option maxRecDepth 20000 in
theorem wl_35 : ∀ w ∈ wsL_law_r35, w ∈ lw_tbl := fun w h => (goodIn_p wsL_law_r35 [1265, 777, 781, 1269, 785] (by decide +kernel) (by decide +kernel) w h).1
set_option maxRecDepth 20000 in
theorem wl_36 : ∀ w ∈ wsL_law_r36, w ∈ lw_tbl := fun w h => (goodIn_p wsL_law_r36 [1274, 789, 793, 797, 1278, 1282] (by decide +kernel) (by decide +kernel) w h).1
set_option maxRecDepth 20000 in
theorem wl_37 : ∀ w ∈ wsL_law_r37, w ∈ lw_tbl := fun w h => (goodIn_p wsL_law_r37 [1286, 1290, 1294, 801, 1298, 805] (by decide +kernel) (by decide +kernel) w h).1
set_option maxRecDepth 20000 in
theorem wl_38 : ∀ w ∈ wsL_law_r38, w ∈ lw_tbl := fun w h => (goodIn_p wsL_law_r38 [810, 1302, 815, 818, 822, 1306] (by decide +kernel) (by decide +kernel) w h).1
set_option maxRecDepth 20000 in
theorem wl_39 : ∀ w ∈ wsL_law_r39, w ∈ lw_tbl := fun w h => (goodIn_p wsL_law_r39 [826, 830, 1312, 1316, 835] (by decide +kernel) (by decide +kernel) w h).1
set_option maxRecDepth 20000 in
theorem wl_40 : ∀ w ∈ wsL_law_r40, w ∈ lw_tbl := fun w h => (goodIn_p wsL_law_r40 [1320, 839, 843, 1324, 1327] (by decide +kernel) (by decide +kernel) w h).1
set_option maxRecDepth 20000 in
theorem wl_41 : ∀ w ∈ wsL_law_r41, w ∈ lw_tbl := fun w h => (goodIn_p wsL_law_r41 [847, 851, 855, 1332, 859, 863] (by decide +kernel) (by decide +kernel) w h).1
set_option maxRecDepth 20000 in
theorem wl_42 : ∀ w ∈ wsL_law_r42, w ∈ lw_tbl := fun w h => (goodIn_p wsL_law_r42 [1336, 868, 1341, 872, 876] (by decide +kernel) (by decide +kernel) w h).1
set_option maxRecDepth 20000 in
theorem wl_43 : ∀ w ∈ wsL_law_r43, w ∈ lw_tbl := fun w h => (goodIn_p wsL_law_r43 [880, 884, 1345] (by decide +kernel) (by decide +kernel) w h).1
set_option maxRecDepth 20000 in
theorem inX0 : ∀ w ∈ wsX00, w ∈ lw_tbl := by decide +kernel
set_option maxRecDepth 20000 in
theorem inX1 : ∀ w ∈ wsX10, w ∈ lw_tbl := by decide +kernel
set_option maxRecDepth 20000 in
theorem inX2 : ∀ w ∈ wsX20, w ∈ lw_tbl := by decide +kernel
set_option maxRecDepth 20000 in
theorem inX3 : ∀ w ∈ wsX30, w ∈ lw_tbl := by decide +kernel
set_option maxRecDepth 20000 in
theorem inX4 : ∀ w ∈ wsX40, w ∈ lw_tbl := by decide +kernel
set_option maxRecDepth 20000 in
theorem inX5 : ∀ w ∈ wsX50, w ∈ lw_tbl := by decide +kernel
set_option maxRecDepth 20000 in
theorem inX6 : ∀ w ∈ wsX60, w ∈ lw_tbl := by decide +kernel
set_option maxRecDepth 20000 in
theorem inX7 : ∀ w ∈ wsX70, w ∈ lw_tbl := by decide +kernel
set_option maxRecDepth 20000 in
theorem inX8 : ∀ w ∈ wsX80, w ∈ lw_tbl := by decide +kernel
set_option maxRecDepth 20000 in
theorem inX9 : ∀ w ∈ wsX90, w ∈ lw_tbl := by decide +kernel
theorem wsL_law_in0 (w : Cond) (h : w ∈ (wsL_law_r1 ++ (wsL_law_r2 ++ (wsL_law_r3 ++ (wsL_law_r4 ++ (wsL_law_r5 ++ (wsL_law_r6 ++ (wsL_law_r7 ++ (wsL_law_r8 ++ (wsL_law_r9 ++ (wsL_law_r10 ++ (wsL_law_r11 ++ (wsL_law_r12 ++ (wsL_law_r13 ++ (wsL_law_r14 ++ (wsL_law_r15 ++ (wsL_law_r16 ++ (wsL_law_r17 ++ (wsL_law_r18 ++ (wsL_law_r19 ++ (wsL_law_r20 ++ (wsL_law_r21 ++ (wsL_law_r22 ++ (wsL_law_r23 ++ (wsL_law_r24 ++ (wsL_law_r25 ++ (wsL_law_r26 ++ (wsL_law_r27 ++ (wsL_law_r28 ++ (wsL_law_r29 ++ (wsL_law_r30 ++ (wsL_law_r31 ++ (wsL_law_r32 ++ (wsL_law_r33 ++ (wsL_law_r34 ++ (wsL_law_r35 ++ (wsL_law_r36 ++ (wsL_law_r37 ++ (wsL_law_r38 ++ (wsL_law_r39 ++ (wsL_law_r40 ++ (wsL_law_r41 ++ (wsL_law_r42 ++ wsL_law_r43))))))))))))))))))))))))))))))))))))))))))) : w ∈ lw_tbl := by
  rcases List.mem_append.mp h with h | h
  · exact wl_1 w h
  rcases List.mem_append.mp h with h | h
  · exact wl_2 w h
  rcases List.mem_append.mp h with h | h
  · exact wl_3 w h
  rcases List.mem_append.mp h with h | h
  · exact wl_4 w h
  rcases List.mem_append.mp h with h | h
  · exact wl_5 w h
  rcases List.mem_append.mp h with h | h
  · exact wl_6 w h
  rcases List.mem_append.mp h with h | h
  · exact wl_7 w h
  rcases List.mem_append.mp h with h | h
  · exact wl_8 w h
  rcases List.mem_append.mp h with h | h
  · exact wl_9 w h
  rcases List.mem_append.mp h with h | h
  · exact wl_10 w h
  rcases List.mem_append.mp h with h | h
  · exact wl_11 w h
  rcases List.mem_append.mp h with h | h
  · exact wl_12 w h
  rcases List.mem_append.mp h with h | h
  · exact wl_13 w h
  rcases List.mem_append.mp h with h | h
  · exact wl_14 w h
  rcases List.mem_append.mp h with h | h
  · exact wl_15 w h
  rcases List.mem_append.mp h with h | h
  · exact wl_16 w h
  rcases List.mem_append.mp h with h | h
  · exact wl_17 w h
  rcases List.mem_append.mp h with h | h
  · exact wl_18 w h
  rcases List.mem_append.mp h with h | h
  · exact wl_19 w h
  rcases List.mem_append.mp h with h | h
  · exact wl_20 w h
  rcases List.mem_append.mp h with h | h
  · exact wl_21 w h
  rcases List.mem_append.mp h with h | h
  · exact wl_22 w h
  rcases List.mem_append.mp h with h | h
  · exact wl_23 w h
  rcases List.mem_append.mp h with h | h
  · exact wl_24 w h
  rcases List.mem_append.mp h with h | h
  · exact wl_25 w h
  rcases List.mem_append.mp h with h | h
  · exact wl_26 w h
  rcases List.mem_append.mp h with h | h
  · exact wl_27 w h
  rcases List.mem_append.mp h with h | h
  · exact wl_28 w h
  rcases List.mem_append.mp h with h | h
  · exact wl_29 w h
  rcases List.mem_append.mp h with h | h
  · exact wl_30 w h
  rcases List.mem_append.mp h with h | h
  · exact wl_31 w h
  rcases List.mem_append.mp h with h | h
  · exact wl_32 w h
  rcases List.mem_append.mp h with h | h
  · exact wl_33 w h
  rcases List.mem_append.mp h with h | h
  · exact wl_34 w h
  rcases List.mem_append.mp h with h | h
  · exact wl_35 w h
  rcases List.mem_append.mp h with h | h
  · exact wl_36 w h
  rcases List.mem_append.mp h with h | h
  · exact wl_37 w h
  rcases List.mem_append.mp h with h | h
  · exact wl_38 w h
  rcases List.mem_append.mp h with h | h
  · exact wl_39 w h
  rcases List.mem_append.mp h with h | h
  · exact wl_40 w h
  rcases List.mem_append.mp h with h | h
  · exact wl_41 w h
  rcases List.mem_append.mp h with h | h
  · exact wl_42 w h
  exact wl_43 w h
theorem wsL_law_in : ∀ w ∈ wsL_law, w ∈ lw_tbl := by
  intro w h
  have h := h
  unfold wsL_law at h
  rcases List.mem_append.mp h with h | h
  rotate_left
  · exact absurd h List.not_mem_nil
  rcases List.mem_append.mp h with h | h
  rotate_left
  · exact inX4 w h
  rcases List.mem_append.mp h with h | h
  rotate_left
  · exact inX1 w h
  rcases List.mem_append.mp h with h | h
  rotate_left
  · exact inX5 w h
  rcases List.mem_append.mp h with h | h
  rotate_left
  · exact inX3 w h
  rcases List.mem_append.mp h with h | h
  rotate_left
  · exact inX0 w h
  rcases List.mem_append.mp h with h | h
  rotate_left
  · exact inX2 w h
  rcases List.mem_append.mp h with h | h
  rotate_left
  · exact inX7 w h
  rcases List.mem_append.mp h with h | h
  rotate_left
  · exact inX6 w h
  rcases List.mem_append.mp h with h | h
  rotate_left
  · exact inX9 w h
  rcases List.mem_append.mp h with h | h
  rotate_left
  · exact inX8 w h
  exact wsL_law_in0 w h

set_option maxRecDepth 20000 in
theorem inlX0 : ∀ w ∈ wsX00, w ∈ wsL_law := fun _ h => List.mem_append_left _ (List.mem_append_left _ (List.mem_append_left _ (List.mem_append_left _ (List.mem_append_left _ (List.mem_append_right _ h)))))
set_option maxRecDepth 20000 in
theorem inlX1 : ∀ w ∈ wsX10, w ∈ wsL_law := fun _ h => List.mem_append_left _ (List.mem_append_left _ (List.mem_append_right _ h))
set_option maxRecDepth 20000 in
theorem inlX2 : ∀ w ∈ wsX20, w ∈ wsL_law := fun _ h => List.mem_append_left _ (List.mem_append_left _ (List.mem_append_left _ (List.mem_append_left _ (List.mem_append_left _ (List.mem_append_left _ (List.mem_append_right _ h))))))
set_option maxRecDepth 20000 in
theorem inlX3 : ∀ w ∈ wsX30, w ∈ wsL_law := fun _ h => List.mem_append_left _ (List.mem_append_left _ (List.mem_append_left _ (List.mem_append_left _ (List.mem_append_right _ h))))
set_option maxRecDepth 20000 in
theorem inlX4 : ∀ w ∈ wsX40, w ∈ wsL_law := fun _ h => List.mem_append_left _ (List.mem_append_right _ h)
set_option maxRecDepth 20000 in
theorem inlX5 : ∀ w ∈ wsX50, w ∈ wsL_law := fun _ h => List.mem_append_left _ (List.mem_append_left _ (List.mem_append_left _ (List.mem_append_right _ h)))
set_option maxRecDepth 20000 in
theorem inlX6 : ∀ w ∈ wsX60, w ∈ wsL_law := fun _ h => List.mem_append_left _ (List.mem_append_left _ (List.mem_append_left _ (List.mem_append_left _ (List.mem_append_left _ (List.mem_append_left _ (List.mem_append_left _ (List.mem_append_left _ (List.mem_append_right _ h))))))))
set_option maxRecDepth 20000 in
theorem inlX7 : ∀ w ∈ wsX70, w ∈ wsL_law := fun _ h => List.mem_append_left _ (List.mem_append_left _ (List.mem_append_left _ (List.mem_append_left _ (List.mem_append_left _ (List.mem_append_left _ (List.mem_append_left _ (List.mem_append_right _ h)))))))
set_option maxRecDepth 20000 in
theorem inlX8 : ∀ w ∈ wsX80, w ∈ wsL_law := fun _ h => List.mem_append_left _ (List.mem_append_left _ (List.mem_append_left _ (List.mem_append_left _ (List.mem_append_left _ (List.mem_append_left _ (List.mem_append_left _ (List.mem_append_left _ (List.mem_append_left _ (List.mem_append_left _ (List.mem_append_right _ h))))))))))
set_option maxRecDepth 20000 in
theorem inlX9 : ∀ w ∈ wsX90, w ∈ wsL_law := fun _ h => List.mem_append_left _ (List.mem_append_left _ (List.mem_append_left _ (List.mem_append_left _ (List.mem_append_left _ (List.mem_append_left _ (List.mem_append_left _ (List.mem_append_left _ (List.mem_append_left _ (List.mem_append_right _ h)))))))))
set_option maxRecDepth 20000 in
theorem inJ6 : ∀ w ∈ wsJ60, w ∈ lw_tbl := by decide +kernel
set_option maxRecDepth 20000 in
theorem inJ9 : ∀ w ∈ wsJ90, w ∈ lw_tbl := by decide +kernel
set_option maxRecDepth 20000 in
theorem inJ0 : ∀ w ∈ wsJ00, w ∈ lw_tbl := by decide +kernel
set_option maxRecDepth 20000 in
theorem inJ1 : ∀ w ∈ wsJ10, w ∈ lw_tbl := by decide +kernel
set_option maxRecDepth 20000 in
theorem inJ2 : ∀ w ∈ wsJ20, w ∈ lw_tbl := by decide +kernel
set_option maxRecDepth 20000 in
theorem inJ10 : ∀ w ∈ wsJ100, w ∈ lw_tbl := by decide +kernel
set_option maxRecDepth 20000 in
theorem inJ3 : ∀ w ∈ wsJ30, w ∈ lw_tbl := by decide +kernel
