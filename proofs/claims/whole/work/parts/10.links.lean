theorem cl_14_7 : Cond.classLink RL 7 "StoryRound" ∈ lw_tbl := tb_1 (List.mem_of_getElem? (i := 26) rfl)
theorem ml_14_9 : Cond.methodLink RL 9 yX11_init ∈ lw_tbl := tb_1 (List.mem_of_getElem? (i := 28) rfl)
theorem ml_11_1 : Cond.methodLink RX11 1 ⟨"java/lang/Object", "<init>", "()V"⟩ ∈ lw_tbl := tb_1 (List.mem_of_getElem? (i := 31) rfl)
theorem cl_11_7 : Cond.classLink RX11 7 "StoryRound$Tape" ∈ lw_tbl := tb_1 (List.mem_of_getElem? (i := 34) rfl)
theorem ml_11_9 : Cond.methodLinkNest RX11 9 yX8_init "StoryRound" ∈ lw_tbl := tb_1 (List.mem_of_getElem? (i := 36) rfl)
theorem ml_8_1 : Cond.methodLink RX8 1 ⟨"java/lang/Object", "<init>", "()V"⟩ ∈ lw_tbl := tb_1 (List.mem_of_getElem? (i := 39) rfl)
theorem fl_8_9 : Cond.fieldLink RX8 9 "StoryRound$Tape" "bytes" "[B" ∈ lw_tbl := tb_1 (List.mem_of_getElem? (i := 40) rfl)
theorem fl_8_13 : Cond.fieldLink RX8 13 "StoryRound$Tape" "size" "I" ∈ lw_tbl := tb_1 (List.mem_of_getElem? (i := 41) rfl)
theorem cl_11_16 : Cond.classLink RX11 16 "StoryRound$Story" ∈ lw_tbl := tb_1 (List.mem_of_getElem? (i := 48) rfl)
theorem ml_11_18 : Cond.methodLinkNest RX11 18 yX7_init "StoryRound" ∈ lw_tbl := tb_1 (List.mem_of_getElem? (i := 50) rfl)
theorem ml_7_3 : Cond.methodLink RX7 3 ⟨"java/lang/Object", "<init>", "()V"⟩ ∈ lw_tbl := tb_1 (List.mem_of_getElem? (i := 53) rfl)
theorem cl_7_9 : Cond.classLink RX7 9 "StoryRound$Code" ∈ lw_tbl := tb_1 (List.mem_of_getElem? (i := 54) rfl)
theorem ml_7_11 : Cond.methodLinkNest RX7 11 yX1_init "StoryRound" ∈ lw_tbl := tb_1 (List.mem_of_getElem? (i := 56) rfl)
theorem ml_1_1 : Cond.methodLink RX1 1 ⟨"java/lang/Object", "<init>", "()V"⟩ ∈ lw_tbl := tb_1 (List.mem_of_getElem? (i := 59) rfl)
theorem fl_1_7 : Cond.fieldLink RX1 7 "StoryRound$Code" "acts" "[B" ∈ lw_tbl := tb_1 (List.mem_of_getElem? (i := 60) rfl)
theorem fl_1_13 : Cond.fieldLink RX1 13 "StoryRound$Code" "arguments" "[I" ∈ lw_tbl := tb_1 (List.mem_of_getElem? (i := 61) rfl)
theorem fl_1_17 : Cond.fieldLink RX1 17 "StoryRound$Code" "size" "I" ∈ lw_tbl := tb_1 (List.mem_of_getElem? (i := 62) rfl)
theorem cl_7_18 : Cond.classLink RX7 18 "StoryRound$Body" ∈ lw_tbl := tb_1 (List.mem_of_getElem? (i := 71) rfl)
theorem fl_7_12 : Cond.fieldLink RX7 12 "StoryRound$Story" "code" "LStoryRound$Code;" ∈ lw_tbl := tb_1 (List.mem_of_getElem? (i := 73) rfl)
theorem fl_5_19 : Cond.fieldLink RX5 19 "StoryRound$Story" "code" "LStoryRound$Code;" ∈ lw_tbl := tb_1 (List.mem_of_getElem? (i := 74) rfl)
theorem fl_3_19 : Cond.fieldLink RX3 19 "StoryRound$Story" "code" "LStoryRound$Code;" ∈ lw_tbl := tb_1 (List.mem_of_getElem? (i := 75) rfl)
theorem fl_6_47 : Cond.fieldLink RX6 47 "StoryRound$Story" "code" "LStoryRound$Code;" ∈ lw_tbl := tb_1 (List.mem_of_getElem? (i := 76) rfl)
theorem fl_7_20 : Cond.fieldLink RX7 20 "StoryRound$Story" "bodies" "[LStoryRound$Body;" ∈ lw_tbl := tb_1 (List.mem_of_getElem? (i := 77) rfl)
theorem fl_7_27 : Cond.fieldLink RX7 27 "StoryRound$Story" "size" "I" ∈ lw_tbl := tb_1 (List.mem_of_getElem? (i := 78) rfl)
theorem fl_7_31 : Cond.fieldLink RX7 31 "StoryRound$Story" "wrongName" "I" ∈ lw_tbl := tb_1 (List.mem_of_getElem? (i := 79) rfl)
theorem cl_11_23 : Cond.classLink RX11 23 "StoryRound$Tokens" ∈ lw_tbl := tb_1 (List.mem_of_getElem? (i := 89) rfl)
theorem ml_11_25 : Cond.methodLink RX11 25 yX9_init ∈ lw_tbl := tb_1 (List.mem_of_getElem? (i := 91) rfl)
theorem ml_9_1 : Cond.methodLink RX9 1 ⟨"java/lang/Object", "<init>", "()V"⟩ ∈ lw_tbl := tb_1 (List.mem_of_getElem? (i := 94) rfl)
theorem ml_9_29 : Cond.methodLink RX9 29 yJ0_length_8abf5 ∈ lw_tbl := tb_1 (List.mem_of_getElem? (i := 96) rfl)
theorem ml_17_335 : Cond.methodLink RJ0 335 yJ0_coder_7d493 ∈ lw_tbl := tb_1 (List.mem_of_getElem? (i := 100) rfl)
theorem fl_17_38 : Cond.fieldLink RJ0 38 "java/lang/String" "COMPACT_STRINGS" "Z" ∈ lw_tbl := tb_1 (List.mem_of_getElem? (i := 104) rfl)
theorem ml_9_35 : Cond.methodLink RX9 35 yJ0_charAt_5068e ∈ lw_tbl := tb_1 (List.mem_of_getElem? (i := 106) rfl)
theorem ml_17_492 : Cond.methodLink RJ0 492 yJ0_isLatin1_aae02 ∈ lw_tbl := tb_1 (List.mem_of_getElem? (i := 110) rfl)
theorem ml_17_495 : Cond.methodLink RJ0 495 yJ1_charAt_3b067 ∈ lw_tbl := tb_1 (List.mem_of_getElem? (i := 114) rfl)
theorem ml_18_9 : Cond.methodLink RJ1 9 yJ0_checkIndex_df160 ∈ lw_tbl := tb_1 (List.mem_of_getElem? (i := 117) rfl)
theorem fl_17_1053 : Cond.fieldLink RJ0 1053 "jdk/internal/util/Preconditions" "SIOOBE_FORMATTER" "Ljava/util/function/BiFunction;" ∈ lw_tbl := tb_1 (List.mem_of_getElem? (i := 120) rfl)
theorem ml_17_1059 : Cond.methodLink RJ0 1059 yJ3_checkIndex_8e157 ∈ lw_tbl := tb_1 (List.mem_of_getElem? (i := 122) rfl)
theorem ml_17_498 : Cond.methodLink RJ0 498 ⟨"java/lang/StringUTF16", "charAt", "([BI)C"⟩ ∈ lw_tbl := tb_1 (List.mem_of_getElem? (i := 125) rfl)
theorem kl_9_39 : Cond.constantLong RX9 39 (32) ∈ lw_tbl := tb_1 (List.mem_of_getElem? (i := 144) rfl)
theorem fl_9_23 : Cond.fieldLink RX9 23 "StoryRound$Tokens" "tape" "LStoryRound$Tape;" ∈ lw_tbl := tb_1 (List.mem_of_getElem? (i := 145) rfl)
theorem fl_9_9 : Cond.fieldLink RX9 9 "StoryRound$Tokens" "keys" "[J" ∈ lw_tbl := tb_1 (List.mem_of_getElem? (i := 146) rfl)
theorem fl_9_13 : Cond.fieldLink RX9 13 "StoryRound$Tokens" "kinds" "[I" ∈ lw_tbl := tb_1 (List.mem_of_getElem? (i := 147) rfl)
theorem fl_9_17 : Cond.fieldLink RX9 17 "StoryRound$Tokens" "places" "[I" ∈ lw_tbl := tb_1 (List.mem_of_getElem? (i := 148) rfl)
theorem fl_9_20 : Cond.fieldLink RX9 20 "StoryRound$Tokens" "values" "[J" ∈ lw_tbl := tb_1 (List.mem_of_getElem? (i := 149) rfl)
theorem fl_9_41 : Cond.fieldLink RX9 41 "StoryRound$Tokens" "size" "I" ∈ lw_tbl := tb_1 (List.mem_of_getElem? (i := 150) rfl)
theorem fl_9_74 : Cond.fieldLink RX9 74 "StoryRound$Tokens" "at" "I" ∈ lw_tbl := tb_1 (List.mem_of_getElem? (i := 151) rfl)
theorem fl_5_41 : Cond.fieldLink RX5 41 "StoryRound$Tokens" "kind" "I" ∈ lw_tbl := tb_1 (List.mem_of_getElem? (i := 152) rfl)
theorem fl_9_79 : Cond.fieldLink RX9 79 "StoryRound$Tokens" "kind" "I" ∈ lw_tbl := tb_1 (List.mem_of_getElem? (i := 153) rfl)
theorem fl_9_82 : Cond.fieldLink RX9 82 "StoryRound$Tokens" "place" "I" ∈ lw_tbl := tb_1 (List.mem_of_getElem? (i := 154) rfl)
theorem fl_5_70 : Cond.fieldLink RX5 70 "StoryRound$Tokens" "place" "I" ∈ lw_tbl := tb_1 (List.mem_of_getElem? (i := 155) rfl)
theorem cl_11_28 : Cond.classLink RX11 28 "StoryRound$Parser" ∈ lw_tbl := tb_1 (List.mem_of_getElem? (i := 176) rfl)
theorem ml_11_30 : Cond.methodLink RX11 30 yX5_init ∈ lw_tbl := tb_1 (List.mem_of_getElem? (i := 178) rfl)
theorem ml_5_3 : Cond.methodLink RX5 3 ⟨"java/lang/Object", "<init>", "()V"⟩ ∈ lw_tbl := tb_1 (List.mem_of_getElem? (i := 181) rfl)
theorem fl_5_9 : Cond.fieldLink RX5 9 "StoryRound$Parser" "tokens" "LStoryRound$Tokens;" ∈ lw_tbl := tb_1 (List.mem_of_getElem? (i := 182) rfl)
theorem fl_5_15 : Cond.fieldLink RX5 15 "StoryRound$Parser" "story" "LStoryRound$Story;" ∈ lw_tbl := tb_1 (List.mem_of_getElem? (i := 183) rfl)
theorem fl_5_25 : Cond.fieldLink RX5 25 "StoryRound$Parser" "code" "LStoryRound$Code;" ∈ lw_tbl := tb_1 (List.mem_of_getElem? (i := 184) rfl)
theorem fl_5_51 : Cond.fieldLink RX5 51 "StoryRound$Parser" "current" "LStoryRound$Body;" ∈ lw_tbl := tb_1 (List.mem_of_getElem? (i := 185) rfl)
theorem fl_5_34 : Cond.fieldLink RX5 34 "StoryRound$Parser" "open" "I" ∈ lw_tbl := tb_1 (List.mem_of_getElem? (i := 186) rfl)
theorem fl_5_38 : Cond.fieldLink RX5 38 "StoryRound$Parser" "fault" "I" ∈ lw_tbl := tb_1 (List.mem_of_getElem? (i := 187) rfl)
theorem cl_11_37 : Cond.classLink RX11 37 "StoryRound$Linker" ∈ lw_tbl := tb_1 (List.mem_of_getElem? (i := 201) rfl)
theorem ml_11_39 : Cond.methodLink RX11 39 yX3_init ∈ lw_tbl := tb_1 (List.mem_of_getElem? (i := 203) rfl)
theorem ml_3_3 : Cond.methodLink RX3 3 ⟨"java/lang/Object", "<init>", "()V"⟩ ∈ lw_tbl := tb_1 (List.mem_of_getElem? (i := 206) rfl)
theorem fl_3_9 : Cond.fieldLink RX3 9 "StoryRound$Linker" "tokens" "LStoryRound$Tokens;" ∈ lw_tbl := tb_1 (List.mem_of_getElem? (i := 207) rfl)
theorem fl_3_15 : Cond.fieldLink RX3 15 "StoryRound$Linker" "story" "LStoryRound$Story;" ∈ lw_tbl := tb_1 (List.mem_of_getElem? (i := 208) rfl)
theorem fl_3_25 : Cond.fieldLink RX3 25 "StoryRound$Linker" "code" "LStoryRound$Code;" ∈ lw_tbl := tb_1 (List.mem_of_getElem? (i := 209) rfl)
theorem cl_11_44 : Cond.classLink RX11 44 "StoryRound$Stage" ∈ lw_tbl := tb_1 (List.mem_of_getElem? (i := 217) rfl)
theorem ml_11_46 : Cond.methodLink RX11 46 yX6_init ∈ lw_tbl := tb_1 (List.mem_of_getElem? (i := 219) rfl)
theorem ml_6_3 : Cond.methodLink RX6 3 ⟨"java/lang/Object", "<init>", "()V"⟩ ∈ lw_tbl := tb_1 (List.mem_of_getElem? (i := 222) rfl)
theorem cl_6_9 : Cond.classLink RX6 9 "StoryRound$Pairs" ∈ lw_tbl := tb_1 (List.mem_of_getElem? (i := 223) rfl)
theorem ml_6_11 : Cond.methodLinkNest RX6 11 yX4_init "StoryRound" ∈ lw_tbl := tb_1 (List.mem_of_getElem? (i := 225) rfl)
theorem ml_4_3 : Cond.methodLink RX4 3 ⟨"java/lang/Object", "<init>", "()V"⟩ ∈ lw_tbl := tb_1 (List.mem_of_getElem? (i := 228) rfl)
theorem fl_4_9 : Cond.fieldLink RX4 9 "StoryRound$Pairs" "numbers" "[I" ∈ lw_tbl := tb_1 (List.mem_of_getElem? (i := 229) rfl)
theorem fl_4_15 : Cond.fieldLink RX4 15 "StoryRound$Pairs" "kept" "I" ∈ lw_tbl := tb_1 (List.mem_of_getElem? (i := 230) rfl)
theorem fl_4_19 : Cond.fieldLink RX4 19 "StoryRound$Pairs" "total" "I" ∈ lw_tbl := tb_1 (List.mem_of_getElem? (i := 231) rfl)
theorem cl_6_21 : Cond.classLink RX6 21 "StoryRound$Failures" ∈ lw_tbl := tb_1 (List.mem_of_getElem? (i := 239) rfl)
theorem ml_6_23 : Cond.methodLinkNest RX6 23 yX2_init "StoryRound" ∈ lw_tbl := tb_2 (List.mem_of_getElem? (i := 1) rfl)
theorem ml_2_3 : Cond.methodLink RX2 3 ⟨"java/lang/Object", "<init>", "()V"⟩ ∈ lw_tbl := tb_2 (List.mem_of_getElem? (i := 4) rfl)
theorem fl_2_11 : Cond.fieldLink RX2 11 "StoryRound$Failures" "rows" "[I" ∈ lw_tbl := tb_2 (List.mem_of_getElem? (i := 5) rfl)
theorem fl_2_24 : Cond.fieldLink RX2 24 "StoryRound$Failures" "used" "I" ∈ lw_tbl := tb_2 (List.mem_of_getElem? (i := 6) rfl)
theorem fl_2_32 : Cond.fieldLink RX2 32 "StoryRound$Failures" "latest" "I" ∈ lw_tbl := tb_2 (List.mem_of_getElem? (i := 7) rfl)
theorem fl_2_35 : Cond.fieldLink RX2 35 "StoryRound$Failures" "isListed" "Z" ∈ lw_tbl := tb_2 (List.mem_of_getElem? (i := 8) rfl)
theorem fl_2_53 : Cond.fieldLink RX2 53 "StoryRound$Failures" "listed" "I" ∈ lw_tbl := tb_2 (List.mem_of_getElem? (i := 9) rfl)
theorem fl_2_15 : Cond.fieldLink RX2 15 "StoryRound$Failures" "which" "[I" ∈ lw_tbl := tb_2 (List.mem_of_getElem? (i := 10) rfl)
theorem fl_2_18 : Cond.fieldLink RX2 18 "StoryRound$Failures" "depths" "[I" ∈ lw_tbl := tb_2 (List.mem_of_getElem? (i := 11) rfl)
theorem fl_2_21 : Cond.fieldLink RX2 21 "StoryRound$Failures" "ways" "[I" ∈ lw_tbl := tb_2 (List.mem_of_getElem? (i := 12) rfl)
theorem cl_6_28 : Cond.classLink RX6 28 "StoryRound$Voice" ∈ lw_tbl := tb_2 (List.mem_of_getElem? (i := 30) rfl)
theorem cl_6_34 : Cond.classLink RX6 34 "[I" ∈ lw_tbl := tb_2 (List.mem_of_getElem? (i := 32) rfl)
theorem ml_6_54 : Cond.methodLink RX6 54 yX2_clear ∈ lw_tbl := tb_2 (List.mem_of_getElem? (i := 34) rfl)
theorem ml_2_28 : Cond.methodLink RX2 28 yX2_comeOut ∈ lw_tbl := tb_2 (List.mem_of_getElem? (i := 38) rfl)
theorem fl_6_12 : Cond.fieldLink RX6 12 "StoryRound$Stage" "lines" "LStoryRound$Pairs;" ∈ lw_tbl := tb_2 (List.mem_of_getElem? (i := 42) rfl)
theorem fl_11_170 : Cond.fieldLink RX11 170 "StoryRound$Stage" "lines" "LStoryRound$Pairs;" ∈ lw_tbl := tb_2 (List.mem_of_getElem? (i := 43) rfl)
theorem fl_6_18 : Cond.fieldLink RX6 18 "StoryRound$Stage" "handings" "LStoryRound$Pairs;" ∈ lw_tbl := tb_2 (List.mem_of_getElem? (i := 44) rfl)
theorem fl_11_183 : Cond.fieldLink RX11 183 "StoryRound$Stage" "handings" "LStoryRound$Pairs;" ∈ lw_tbl := tb_2 (List.mem_of_getElem? (i := 45) rfl)
theorem fl_6_24 : Cond.fieldLink RX6 24 "StoryRound$Stage" "failures" "LStoryRound$Failures;" ∈ lw_tbl := tb_2 (List.mem_of_getElem? (i := 46) rfl)
theorem fl_11_186 : Cond.fieldLink RX11 186 "StoryRound$Stage" "failures" "LStoryRound$Failures;" ∈ lw_tbl := tb_2 (List.mem_of_getElem? (i := 47) rfl)
theorem fl_6_43 : Cond.fieldLink RX6 43 "StoryRound$Stage" "story" "LStoryRound$Story;" ∈ lw_tbl := tb_2 (List.mem_of_getElem? (i := 48) rfl)
theorem fl_6_53 : Cond.fieldLink RX6 53 "StoryRound$Stage" "code" "LStoryRound$Code;" ∈ lw_tbl := tb_2 (List.mem_of_getElem? (i := 49) rfl)
theorem fl_6_30 : Cond.fieldLink RX6 30 "StoryRound$Stage" "voices" "[LStoryRound$Voice;" ∈ lw_tbl := tb_2 (List.mem_of_getElem? (i := 50) rfl)
theorem fl_6_36 : Cond.fieldLink RX6 36 "StoryRound$Stage" "spareRows" "[[I" ∈ lw_tbl := tb_2 (List.mem_of_getElem? (i := 51) rfl)
theorem fl_6_40 : Cond.fieldLink RX6 40 "StoryRound$Stage" "ringed" "[I" ∈ lw_tbl := tb_2 (List.mem_of_getElem? (i := 52) rfl)
theorem fl_6_103 : Cond.fieldLink RX6 103 "StoryRound$Stage" "spares" "I" ∈ lw_tbl := tb_2 (List.mem_of_getElem? (i := 53) rfl)
theorem fl_6_61 : Cond.fieldLink RX6 61 "StoryRound$Stage" "ringSize" "I" ∈ lw_tbl := tb_2 (List.mem_of_getElem? (i := 54) rfl)
theorem fl_6_65 : Cond.fieldLink RX6 65 "StoryRound$Stage" "made" "I" ∈ lw_tbl := tb_2 (List.mem_of_getElem? (i := 55) rfl)
theorem fl_6_68 : Cond.fieldLink RX6 68 "StoryRound$Stage" "alive" "I" ∈ lw_tbl := tb_2 (List.mem_of_getElem? (i := 56) rfl)
theorem fl_6_71 : Cond.fieldLink RX6 71 "StoryRound$Stage" "steps" "I" ∈ lw_tbl := tb_2 (List.mem_of_getElem? (i := 57) rfl)
theorem fl_6_74 : Cond.fieldLink RX6 74 "StoryRound$Stage" "turn" "I" ∈ lw_tbl := tb_2 (List.mem_of_getElem? (i := 58) rfl)
theorem fl_6_77 : Cond.fieldLink RX6 77 "StoryRound$Stage" "raised" "I" ∈ lw_tbl := tb_2 (List.mem_of_getElem? (i := 59) rfl)
theorem fl_6_80 : Cond.fieldLink RX6 80 "StoryRound$Stage" "outcome" "I" ∈ lw_tbl := tb_2 (List.mem_of_getElem? (i := 60) rfl)
theorem fl_6_83 : Cond.fieldLink RX6 83 "StoryRound$Stage" "given" "I" ∈ lw_tbl := tb_2 (List.mem_of_getElem? (i := 61) rfl)
theorem fl_6_86 : Cond.fieldLink RX6 86 "StoryRound$Stage" "isSpent" "Z" ∈ lw_tbl := tb_2 (List.mem_of_getElem? (i := 62) rfl)
theorem fl_11_10 : Cond.fieldLink RX11 10 "StoryRound" "tape" "LStoryRound$Tape;" ∈ lw_tbl := tb_2 (List.mem_of_getElem? (i := 100) rfl)
theorem fl_11_19 : Cond.fieldLink RX11 19 "StoryRound" "story" "LStoryRound$Story;" ∈ lw_tbl := tb_2 (List.mem_of_getElem? (i := 101) rfl)
theorem fl_11_33 : Cond.fieldLink RX11 33 "StoryRound" "parser" "LStoryRound$Parser;" ∈ lw_tbl := tb_2 (List.mem_of_getElem? (i := 102) rfl)
theorem fl_11_40 : Cond.fieldLink RX11 40 "StoryRound" "linker" "LStoryRound$Linker;" ∈ lw_tbl := tb_2 (List.mem_of_getElem? (i := 103) rfl)
theorem fl_11_49 : Cond.fieldLink RX11 49 "StoryRound" "stage" "LStoryRound$Stage;" ∈ lw_tbl := tb_2 (List.mem_of_getElem? (i := 104) rfl)
theorem fl_11_77 : Cond.fieldLink RX11 77 "StoryRound" "isRead" "Z" ∈ lw_tbl := tb_2 (List.mem_of_getElem? (i := 105) rfl)
theorem ml_14_15 : Cond.methodLink RL 15 yX11_feed ∈ lw_tbl := tb_2 (List.mem_of_getElem? (i := 119) rfl)
theorem ml_11_53 : Cond.methodLink RX11 53 yX8_hasRoom ∈ lw_tbl := tb_2 (List.mem_of_getElem? (i := 123) rfl)
theorem ml_11_57 : Cond.methodLink RX11 57 yX8_add ∈ lw_tbl := tb_2 (List.mem_of_getElem? (i := 127) rfl)
theorem ml_11_61 : Cond.methodLink RX11 61 yX8_size ∈ lw_tbl := tb_2 (List.mem_of_getElem? (i := 131) rfl)
theorem ml_14_20 : Cond.methodLink RL 20 yX11_drop ∈ lw_tbl := tb_2 (List.mem_of_getElem? (i := 135) rfl)
theorem ml_11_65 : Cond.methodLink RX11 65 yX8_clear ∈ lw_tbl := tb_2 (List.mem_of_getElem? (i := 139) rfl)
theorem ml_14_25 : Cond.methodLink RL 25 yX11_compile ∈ lw_tbl := tb_2 (List.mem_of_getElem? (i := 143) rfl)
theorem ml_11_68 : Cond.methodLink RX11 68 yX5_read ∈ lw_tbl := tb_2 (List.mem_of_getElem? (i := 147) rfl)
theorem ml_5_26 : Cond.methodLink RX5 26 yX7_clear ∈ lw_tbl := tb_2 (List.mem_of_getElem? (i := 151) rfl)
theorem ml_7_24 : Cond.methodLink RX7 24 yX1_clear ∈ lw_tbl := tb_2 (List.mem_of_getElem? (i := 155) rfl)
theorem ml_5_29 : Cond.methodLink RX5 29 yX9_readTape ∈ lw_tbl := tb_2 (List.mem_of_getElem? (i := 159) rfl)
theorem ml_9_47 : Cond.methodLink RX9 47 yX8_size ∈ lw_tbl := tb_2 (List.mem_of_getElem? (i := 163) rfl)
theorem ml_9_49 : Cond.methodLink RX9 49 yX8_at ∈ lw_tbl := tb_2 (List.mem_of_getElem? (i := 164) rfl)
theorem ml_9_53 : Cond.methodLink RX9 53 yX9_isLetter ∈ lw_tbl := tb_2 (List.mem_of_getElem? (i := 168) rfl)
theorem ml_9_57 : Cond.methodLink RX9 57 yX9_readName ∈ lw_tbl := tb_2 (List.mem_of_getElem? (i := 171) rfl)
theorem ml_9_85 : Cond.methodLink RX9 85 yX9_kindOfName ∈ lw_tbl := tb_2 (List.mem_of_getElem? (i := 175) rfl)
theorem ml_9_70 : Cond.methodLink RX9 70 yX9_add ∈ lw_tbl := tb_2 (List.mem_of_getElem? (i := 179) rfl)
theorem ml_9_96 : Cond.methodLink RX9 96 yJ7_copyOf_59c91 ∈ lw_tbl := tb_2 (List.mem_of_getElem? (i := 183) rfl)
theorem ml_16_316 : Cond.methodLink RJ7 316 ⟨"[I", "clone", "()Ljava/lang/Object;"⟩ ∈ lw_tbl := tb_2 (List.mem_of_getElem? (i := 186) rfl)
theorem cl_16_317 : Cond.classLink RJ7 317 "[I" ∈ lw_tbl := tb_2 (List.mem_of_getElem? (i := 192) rfl)
theorem ml_16_304 : Cond.methodLink RJ7 304 ⟨"java/lang/Math", "min", "(II)I"⟩ ∈ lw_tbl := tb_2 (List.mem_of_getElem? (i := 193) rfl)
theorem ml_16_150 : Cond.methodLink RJ7 150 ⟨"java/lang/System", "arraycopy", "(Ljava/lang/Object;ILjava/lang/Object;II)V"⟩ ∈ lw_tbl := tb_2 (List.mem_of_getElem? (i := 196) rfl)
theorem ml_9_102 : Cond.methodLink RX9 102 yJ7_copyOf_c38d5 ∈ lw_tbl := tb_2 (List.mem_of_getElem? (i := 199) rfl)
theorem ml_16_319 : Cond.methodLink RJ7 319 ⟨"[J", "clone", "()Ljava/lang/Object;"⟩ ∈ lw_tbl := tb_2 (List.mem_of_getElem? (i := 202) rfl)
theorem cl_16_320 : Cond.classLink RJ7 320 "[J" ∈ lw_tbl := tb_2 (List.mem_of_getElem? (i := 206) rfl)
theorem ml_9_60 : Cond.methodLink RX9 60 yX9_isFigure ∈ lw_tbl := tb_2 (List.mem_of_getElem? (i := 207) rfl)
theorem ml_9_63 : Cond.methodLink RX9 63 yX9_readNumber ∈ lw_tbl := tb_2 (List.mem_of_getElem? (i := 210) rfl)
theorem kl_9_89 : Cond.constantLong RX9 89 (10) ∈ lw_tbl := tb_2 (List.mem_of_getElem? (i := 214) rfl)
theorem ml_9_66 : Cond.methodLink RX9 66 yX9_readSign ∈ lw_tbl := tb_2 (List.mem_of_getElem? (i := 215) rfl)
theorem ml_9_93 : Cond.methodLink RX9 93 yJ0_indexOf_0f7a4 ∈ lw_tbl := tb_2 (List.mem_of_getElem? (i := 220) rfl)
theorem ml_17_633 : Cond.methodLink RJ0 633 yJ0_indexOf_7cf53 ∈ lw_tbl := tb_2 (List.mem_of_getElem? (i := 224) rfl)
theorem ml_17_505 : Cond.methodLink RJ0 505 yJ0_length_8abf5 ∈ lw_tbl := tb_2 (List.mem_of_getElem? (i := 228) rfl)
theorem ml_17_637 : Cond.methodLink RJ0 637 yJ1_indexOf_4cfef ∈ lw_tbl := tb_2 (List.mem_of_getElem? (i := 229) rfl)
theorem ml_18_88 : Cond.methodLink RJ1 88 yJ1_canEncode_9a6ad ∈ lw_tbl := tb_2 (List.mem_of_getElem? (i := 232) rfl)
theorem ml_18_92 : Cond.methodLink RJ1 92 ⟨"java/lang/Math", "max", "(II)I"⟩ ∈ lw_tbl := tb_2 (List.mem_of_getElem? (i := 235) rfl)
theorem ml_18_38 : Cond.methodLink RJ1 38 ⟨"java/lang/Math", "min", "(II)I"⟩ ∈ lw_tbl := tb_2 (List.mem_of_getElem? (i := 238) rfl)
theorem ml_18_95 : Cond.methodLink RJ1 95 yJ1_indexOfChar_4cfef ∈ lw_tbl := tb_2 (List.mem_of_getElem? (i := 239) rfl)
theorem ml_17_640 : Cond.methodLink RJ0 640 ⟨"java/lang/StringUTF16", "indexOf", "([BIII)I"⟩ ∈ lw_tbl := tb_3 (List.mem_of_getElem? (i := 2) rfl)
theorem ml_17_1062 : Cond.methodLink RJ0 1062 yJ3_checkFromToIndex_8c36e ∈ lw_tbl := tb_3 (List.mem_of_getElem? (i := 17) rfl)
theorem ml_9_76 : Cond.methodLink RX9 76 yX9_next ∈ lw_tbl := tb_3 (List.mem_of_getElem? (i := 37) rfl)
theorem ml_5_44 : Cond.methodLink RX5 44 yX5_readHead ∈ lw_tbl := tb_3 (List.mem_of_getElem? (i := 41) rfl)
theorem ml_5_87 : Cond.methodLink RX5 87 yX7_add ∈ lw_tbl := tb_3 (List.mem_of_getElem? (i := 45) rfl)
theorem ml_7_38 : Cond.methodLinkNest RX7 38 yX0_init "StoryRound" ∈ lw_tbl := tb_3 (List.mem_of_getElem? (i := 50) rfl)
theorem ml_0_3 : Cond.methodLink RX0 3 ⟨"java/lang/Object", "<init>", "()V"⟩ ∈ lw_tbl := tb_3 (List.mem_of_getElem? (i := 53) rfl)
theorem fl_0_11 : Cond.fieldLink RX0 11 "StoryRound$Body" "names" "[J" ∈ lw_tbl := tb_3 (List.mem_of_getElem? (i := 54) rfl)
theorem fl_0_19 : Cond.fieldLink RX0 19 "StoryRound$Body" "name" "J" ∈ lw_tbl := tb_3 (List.mem_of_getElem? (i := 55) rfl)
theorem fl_7_34 : Cond.fieldLink RX7 34 "StoryRound$Body" "name" "J" ∈ lw_tbl := tb_3 (List.mem_of_getElem? (i := 56) rfl)
theorem fl_0_15 : Cond.fieldLink RX0 15 "StoryRound$Body" "isScript" "Z" ∈ lw_tbl := tb_3 (List.mem_of_getElem? (i := 57) rfl)
theorem fl_11_96 : Cond.fieldLink RX11 96 "StoryRound$Body" "isScript" "Z" ∈ lw_tbl := tb_3 (List.mem_of_getElem? (i := 58) rfl)
theorem fl_3_96 : Cond.fieldLink RX3 96 "StoryRound$Body" "isScript" "Z" ∈ lw_tbl := tb_3 (List.mem_of_getElem? (i := 59) rfl)
theorem fl_0_23 : Cond.fieldLink RX0 23 "StoryRound$Body" "place" "I" ∈ lw_tbl := tb_3 (List.mem_of_getElem? (i := 60) rfl)
theorem fl_0_27 : Cond.fieldLink RX0 27 "StoryRound$Body" "arguments" "I" ∈ lw_tbl := tb_3 (List.mem_of_getElem? (i := 61) rfl)
theorem fl_11_102 : Cond.fieldLink RX11 102 "StoryRound$Body" "arguments" "I" ∈ lw_tbl := tb_3 (List.mem_of_getElem? (i := 62) rfl)
theorem fl_3_100 : Cond.fieldLink RX3 100 "StoryRound$Body" "arguments" "I" ∈ lw_tbl := tb_3 (List.mem_of_getElem? (i := 63) rfl)
theorem fl_5_120 : Cond.fieldLink RX5 120 "StoryRound$Body" "arguments" "I" ∈ lw_tbl := tb_3 (List.mem_of_getElem? (i := 64) rfl)
theorem fl_10_83 : Cond.fieldLink RX10 83 "StoryRound$Body" "arguments" "I" ∈ lw_tbl := tb_3 (List.mem_of_getElem? (i := 65) rfl)
theorem fl_0_30 : Cond.fieldLink RX0 30 "StoryRound$Body" "variables" "I" ∈ lw_tbl := tb_3 (List.mem_of_getElem? (i := 66) rfl)
theorem fl_10_94 : Cond.fieldLink RX10 94 "StoryRound$Body" "variables" "I" ∈ lw_tbl := tb_3 (List.mem_of_getElem? (i := 67) rfl)
theorem fl_0_33 : Cond.fieldLink RX0 33 "StoryRound$Body" "start" "I" ∈ lw_tbl := tb_3 (List.mem_of_getElem? (i := 68) rfl)
theorem fl_3_51 : Cond.fieldLink RX3 51 "StoryRound$Body" "start" "I" ∈ lw_tbl := tb_3 (List.mem_of_getElem? (i := 69) rfl)
theorem fl_10_97 : Cond.fieldLink RX10 97 "StoryRound$Body" "start" "I" ∈ lw_tbl := tb_3 (List.mem_of_getElem? (i := 70) rfl)
theorem fl_0_36 : Cond.fieldLink RX0 36 "StoryRound$Body" "end" "I" ∈ lw_tbl := tb_3 (List.mem_of_getElem? (i := 71) rfl)
theorem fl_5_65 : Cond.fieldLink RX5 65 "StoryRound$Body" "end" "I" ∈ lw_tbl := tb_3 (List.mem_of_getElem? (i := 72) rfl)
theorem fl_3_54 : Cond.fieldLink RX3 54 "StoryRound$Body" "end" "I" ∈ lw_tbl := tb_3 (List.mem_of_getElem? (i := 73) rfl)
theorem fl_0_39 : Cond.fieldLink RX0 39 "StoryRound$Body" "thirteenth" "I" ∈ lw_tbl := tb_3 (List.mem_of_getElem? (i := 74) rfl)
theorem fl_3_41 : Cond.fieldLink RX3 41 "StoryRound$Body" "thirteenth" "I" ∈ lw_tbl := tb_3 (List.mem_of_getElem? (i := 75) rfl)
theorem ml_5_73 : Cond.methodLink RX5 73 yX5_refuse ∈ lw_tbl := tb_3 (List.mem_of_getElem? (i := 95) rfl)
theorem ml_5_77 : Cond.methodLink RX5 77 yX9_next ∈ lw_tbl := tb_3 (List.mem_of_getElem? (i := 99) rfl)
theorem ml_5_90 : Cond.methodLink RX5 90 yX5_isName ∈ lw_tbl := tb_3 (List.mem_of_getElem? (i := 100) rfl)
theorem ml_5_80 : Cond.methodLink RX5 80 yX9_index ∈ lw_tbl := tb_3 (List.mem_of_getElem? (i := 104) rfl)
theorem ml_5_83 : Cond.methodLink RX5 83 yX9_valueOf ∈ lw_tbl := tb_3 (List.mem_of_getElem? (i := 108) rfl)
theorem ml_5_93 : Cond.methodLink RX5 93 yX7_find ∈ lw_tbl := tb_3 (List.mem_of_getElem? (i := 112) rfl)
theorem ml_5_97 : Cond.methodLink RX5 97 yX7_noteWrongName ∈ lw_tbl := tb_3 (List.mem_of_getElem? (i := 116) rfl)
theorem ml_5_61 : Cond.methodLink RX5 61 yX1_size ∈ lw_tbl := tb_3 (List.mem_of_getElem? (i := 120) rfl)
theorem ml_5_101 : Cond.methodLink RX5 101 yX0_begin ∈ lw_tbl := tb_3 (List.mem_of_getElem? (i := 124) rfl)
theorem ml_5_105 : Cond.methodLink RX5 105 yX5_takeOpening ∈ lw_tbl := tb_3 (List.mem_of_getElem? (i := 128) rfl)
theorem ml_5_108 : Cond.methodLink RX5 108 yX5_readArguments ∈ lw_tbl := tb_3 (List.mem_of_getElem? (i := 132) rfl)
theorem ml_5_115 : Cond.methodLink RX5 115 yX0_find ∈ lw_tbl := tb_3 (List.mem_of_getElem? (i := 136) rfl)
theorem ml_5_116 : Cond.methodLink RX5 116 yX0_declare ∈ lw_tbl := tb_3 (List.mem_of_getElem? (i := 140) rfl)
theorem ml_0_42 : Cond.methodLink RX0 42 yX0_find ∈ lw_tbl := tb_3 (List.mem_of_getElem? (i := 144) rfl)
theorem ml_5_112 : Cond.methodLink RX5 112 yX5_takeClosing ∈ lw_tbl := tb_3 (List.mem_of_getElem? (i := 145) rfl)
theorem ml_5_48 : Cond.methodLink RX5 48 yX5_readBlock ∈ lw_tbl := tb_3 (List.mem_of_getElem? (i := 149) rfl)
theorem ml_5_123 : Cond.methodLink RX5 123 yX5_readStatement ∈ lw_tbl := tb_3 (List.mem_of_getElem? (i := 153) rfl)
theorem ml_5_57 : Cond.methodLink RX5 57 yX1_add ∈ lw_tbl := tb_3 (List.mem_of_getElem? (i := 157) rfl)
theorem ml_1_21 : Cond.methodLink RX1 21 yJ7_copyOf_9075b ∈ lw_tbl := tb_3 (List.mem_of_getElem? (i := 161) rfl)
theorem ml_16_310 : Cond.methodLink RJ7 310 ⟨"[B", "clone", "()Ljava/lang/Object;"⟩ ∈ lw_tbl := tb_3 (List.mem_of_getElem? (i := 164) rfl)
theorem cl_16_311 : Cond.classLink RJ7 311 "[B" ∈ lw_tbl := tb_3 (List.mem_of_getElem? (i := 168) rfl)
theorem ml_1_27 : Cond.methodLink RX1 27 yJ7_copyOf_59c91 ∈ lw_tbl := tb_3 (List.mem_of_getElem? (i := 169) rfl)
theorem ml_5_126 : Cond.methodLink RX5 126 yX5_readIf ∈ lw_tbl := tb_3 (List.mem_of_getElem? (i := 170) rfl)
theorem ml_5_165 : Cond.methodLink RX5 165 yX5_readCondition ∈ lw_tbl := tb_3 (List.mem_of_getElem? (i := 174) rfl)
theorem ml_5_153 : Cond.methodLink RX5 153 yX5_readComparison ∈ lw_tbl := tb_3 (List.mem_of_getElem? (i := 178) rfl)
theorem ml_5_184 : Cond.methodLink RX5 184 yX5_readSum ∈ lw_tbl := tb_3 (List.mem_of_getElem? (i := 182) rfl)
theorem ml_5_187 : Cond.methodLink RX5 187 yX5_readProduct ∈ lw_tbl := tb_3 (List.mem_of_getElem? (i := 186) rfl)
theorem ml_5_190 : Cond.methodLink RX5 190 yX5_readUnary ∈ lw_tbl := tb_3 (List.mem_of_getElem? (i := 190) rfl)
theorem ml_5_196 : Cond.methodLink RX5 196 yX5_readPrefix ∈ lw_tbl := tb_3 (List.mem_of_getElem? (i := 194) rfl)
theorem ml_5_199 : Cond.methodLink RX5 199 yX5_readWith ∈ lw_tbl := tb_3 (List.mem_of_getElem? (i := 198) rfl)
theorem ml_5_208 : Cond.methodLink RX5 208 yX5_readPairWith ∈ lw_tbl := tb_3 (List.mem_of_getElem? (i := 202) rfl)
theorem ml_5_156 : Cond.methodLink RX5 156 yX5_take ∈ lw_tbl := tb_3 (List.mem_of_getElem? (i := 206) rfl)
theorem ml_5_202 : Cond.methodLink RX5 202 yX5_readInject ∈ lw_tbl := tb_3 (List.mem_of_getElem? (i := 210) rfl)
theorem ml_5_159 : Cond.methodLink RX5 159 yX5_isNumber ∈ lw_tbl := tb_3 (List.mem_of_getElem? (i := 214) rfl)
theorem ml_5_162 : Cond.methodLink RX5 162 yX5_numberHere ∈ lw_tbl := tb_3 (List.mem_of_getElem? (i := 218) rfl)
theorem ml_5_205 : Cond.methodLink RX5 205 yX5_readPlain ∈ lw_tbl := tb_3 (List.mem_of_getElem? (i := 222) rfl)
theorem ml_5_212 : Cond.methodLink RX5 212 yX5_readVariableOrCall ∈ lw_tbl := tb_3 (List.mem_of_getElem? (i := 226) rfl)
theorem ml_5_218 : Cond.methodLink RX5 218 yX5_readValues ∈ lw_tbl := tb_3 (List.mem_of_getElem? (i := 230) rfl)
theorem ml_5_215 : Cond.methodLink RX5 215 yX5_readNew ∈ lw_tbl := tb_3 (List.mem_of_getElem? (i := 234) rfl)
theorem ml_5_193 : Cond.methodLink RX5 193 yX5_isProductSign ∈ lw_tbl := tb_3 (List.mem_of_getElem? (i := 238) rfl)
theorem ml_5_168 : Cond.methodLink RX5 168 yX1_patch ∈ lw_tbl := tb_4 (List.mem_of_getElem? (i := 1) rfl)
theorem ml_5_129 : Cond.methodLink RX5 129 yX5_readWhile ∈ lw_tbl := tb_4 (List.mem_of_getElem? (i := 5) rfl)
theorem ml_5_132 : Cond.methodLink RX5 132 yX5_readEach ∈ lw_tbl := tb_4 (List.mem_of_getElem? (i := 9) rfl)
theorem ml_5_150 : Cond.methodLink RX5 150 yX5_declareHere ∈ lw_tbl := tb_4 (List.mem_of_getElem? (i := 13) rfl)
theorem ml_5_135 : Cond.methodLink RX5 135 yX5_readTry ∈ lw_tbl := tb_4 (List.mem_of_getElem? (i := 17) rfl)
theorem ml_5_172 : Cond.methodLink RX5 172 yX5_readCatchHead ∈ lw_tbl := tb_4 (List.mem_of_getElem? (i := 21) rfl)
theorem ml_5_175 : Cond.methodLink RX5 175 yX1_argument ∈ lw_tbl := tb_4 (List.mem_of_getElem? (i := 25) rfl)
theorem ml_5_179 : Cond.methodLink RX5 179 yX5_readFinally ∈ lw_tbl := tb_4 (List.mem_of_getElem? (i := 29) rfl)
theorem ml_5_138 : Cond.methodLink RX5 138 yX5_readReturn ∈ lw_tbl := tb_4 (List.mem_of_getElem? (i := 33) rfl)
theorem ml_5_141 : Cond.methodLink RX5 141 yX5_readThrow ∈ lw_tbl := tb_4 (List.mem_of_getElem? (i := 37) rfl)
theorem ml_5_144 : Cond.methodLink RX5 144 yX5_readSimple ∈ lw_tbl := tb_4 (List.mem_of_getElem? (i := 41) rfl)
theorem ml_5_147 : Cond.methodLink RX5 147 yX9_kindBehind ∈ lw_tbl := tb_4 (List.mem_of_getElem? (i := 45) rfl)
theorem ml_11_71 : Cond.methodLink RX11 71 yX3_link ∈ lw_tbl := tb_4 (List.mem_of_getElem? (i := 49) rfl)
theorem ml_3_26 : Cond.methodLink RX3 26 yX7_size ∈ lw_tbl := tb_4 (List.mem_of_getElem? (i := 53) rfl)
theorem ml_3_30 : Cond.methodLink RX3 30 yX7_at ∈ lw_tbl := tb_4 (List.mem_of_getElem? (i := 57) rfl)
theorem ml_3_34 : Cond.methodLink RX3 34 yX3_linkActs ∈ lw_tbl := tb_4 (List.mem_of_getElem? (i := 61) rfl)
theorem ml_3_47 : Cond.methodLink RX3 47 yX7_noteWrongName ∈ lw_tbl := tb_4 (List.mem_of_getElem? (i := 65) rfl)
theorem ml_3_57 : Cond.methodLink RX3 57 yX1_act ∈ lw_tbl := tb_4 (List.mem_of_getElem? (i := 66) rfl)
theorem ml_3_63 : Cond.methodLink RX3 63 yX3_linkVariable ∈ lw_tbl := tb_4 (List.mem_of_getElem? (i := 70) rfl)
theorem ml_3_71 : Cond.methodLink RX3 71 yX1_argument ∈ lw_tbl := tb_4 (List.mem_of_getElem? (i := 74) rfl)
theorem ml_3_74 : Cond.methodLink RX3 74 yX9_valueOf ∈ lw_tbl := tb_4 (List.mem_of_getElem? (i := 75) rfl)
theorem ml_3_80 : Cond.methodLink RX3 80 yX0_find ∈ lw_tbl := tb_4 (List.mem_of_getElem? (i := 76) rfl)
theorem ml_3_84 : Cond.methodLink RX3 84 yX1_patch ∈ lw_tbl := tb_4 (List.mem_of_getElem? (i := 77) rfl)
theorem ml_3_88 : Cond.methodLink RX3 88 yX3_isStored ∈ lw_tbl := tb_4 (List.mem_of_getElem? (i := 78) rfl)
theorem ml_3_92 : Cond.methodLink RX3 92 yX9_placeOf ∈ lw_tbl := tb_4 (List.mem_of_getElem? (i := 82) rfl)
theorem ml_3_67 : Cond.methodLink RX3 67 yX3_linkBody ∈ lw_tbl := tb_4 (List.mem_of_getElem? (i := 86) rfl)
theorem ml_3_95 : Cond.methodLink RX3 95 yX7_find ∈ lw_tbl := tb_4 (List.mem_of_getElem? (i := 90) rfl)
theorem ml_3_38 : Cond.methodLink RX3 38 yX7_wrongName ∈ lw_tbl := tb_4 (List.mem_of_getElem? (i := 91) rfl)
theorem ml_11_74 : Cond.methodLink RX11 74 yX6_reset ∈ lw_tbl := tb_4 (List.mem_of_getElem? (i := 95) rfl)
theorem ml_6_57 : Cond.methodLink RX6 57 yX6_failAll ∈ lw_tbl := tb_4 (List.mem_of_getElem? (i := 99) rfl)
theorem ml_6_106 : Cond.methodLink RX6 106 yX6_find ∈ lw_tbl := tb_4 (List.mem_of_getElem? (i := 103) rfl)
theorem ml_6_110 : Cond.methodLink RX6 110 yX10_isOver ∈ lw_tbl := tb_4 (List.mem_of_getElem? (i := 107) rfl)
theorem ml_6_113 : Cond.methodLink RX6 113 yX6_end ∈ lw_tbl := tb_4 (List.mem_of_getElem? (i := 111) rfl)
theorem ml_6_99 : Cond.methodLink RX6 99 yX10_end ∈ lw_tbl := tb_4 (List.mem_of_getElem? (i := 115) rfl)
theorem fl_10_9 : Cond.fieldLink RX10 9 "StoryRound$Voice" "NO_CELLS" "[I" ∈ lw_tbl := tb_4 (List.mem_of_getElem? (i := 119) rfl)
theorem ml_6_60 : Cond.methodLink RX6 60 yX4_clear ∈ lw_tbl := tb_4 (List.mem_of_getElem? (i := 121) rfl)
theorem ml_11_81 : Cond.methodLink RX11 81 yX7_size ∈ lw_tbl := tb_4 (List.mem_of_getElem? (i := 125) rfl)
theorem ml_14_29 : Cond.methodLink RL 29 yX11_body ∈ lw_tbl := tb_4 (List.mem_of_getElem? (i := 126) rfl)
theorem ml_11_82 : Cond.methodLink RX11 82 yX7_at ∈ lw_tbl := tb_4 (List.mem_of_getElem? (i := 130) rfl)
theorem ml_11_86 : Cond.methodLink RX11 86 yX0_fact ∈ lw_tbl := tb_4 (List.mem_of_getElem? (i := 131) rfl)
theorem ml_14_34 : Cond.methodLink RL 34 yX11_voice ∈ lw_tbl := tb_4 (List.mem_of_getElem? (i := 135) rfl)
theorem ml_11_92 : Cond.methodLink RX11 92 yX11_plays ∈ lw_tbl := tb_4 (List.mem_of_getElem? (i := 139) rfl)
theorem ml_11_140 : Cond.methodLink RX11 140 yX6_isSpent ∈ lw_tbl := tb_4 (List.mem_of_getElem? (i := 143) rfl)
theorem ml_11_99 : Cond.methodLink RX11 99 yX6_isFull ∈ lw_tbl := tb_4 (List.mem_of_getElem? (i := 147) rfl)
theorem ml_11_106 : Cond.methodLink RX11 106 yX6_make ∈ lw_tbl := tb_4 (List.mem_of_getElem? (i := 151) rfl)
theorem ml_6_90 : Cond.methodLink RX6 90 yX6_isFull ∈ lw_tbl := tb_4 (List.mem_of_getElem? (i := 155) rfl)
theorem ml_6_94 : Cond.methodLinkNest RX6 94 yX10_init "StoryRound" ∈ lw_tbl := tb_4 (List.mem_of_getElem? (i := 157) rfl)
theorem ml_10_3 : Cond.methodLink RX10 3 ⟨"java/lang/Object", "<init>", "()V"⟩ ∈ lw_tbl := tb_4 (List.mem_of_getElem? (i := 160) rfl)
theorem fl_10_18 : Cond.fieldLink RX10 18 "StoryRound$Voice" "number" "I" ∈ lw_tbl := tb_4 (List.mem_of_getElem? (i := 161) rfl)
theorem fl_6_198 : Cond.fieldLink RX6 198 "StoryRound$Voice" "number" "I" ∈ lw_tbl := tb_4 (List.mem_of_getElem? (i := 162) rfl)
theorem fl_10_31 : Cond.fieldLink RX10 31 "StoryRound$Voice" "state" "I" ∈ lw_tbl := tb_4 (List.mem_of_getElem? (i := 163) rfl)
theorem fl_11_150 : Cond.fieldLink RX11 150 "StoryRound$Voice" "state" "I" ∈ lw_tbl := tb_4 (List.mem_of_getElem? (i := 164) rfl)
theorem fl_6_131 : Cond.fieldLink RX6 131 "StoryRound$Voice" "state" "I" ∈ lw_tbl := tb_4 (List.mem_of_getElem? (i := 165) rfl)
theorem fl_10_22 : Cond.fieldLink RX10 22 "StoryRound$Voice" "script" "I" ∈ lw_tbl := tb_4 (List.mem_of_getElem? (i := 166) rfl)
theorem fl_11_218 : Cond.fieldLink RX11 218 "StoryRound$Voice" "script" "I" ∈ lw_tbl := tb_4 (List.mem_of_getElem? (i := 167) rfl)
theorem fl_6_276 : Cond.fieldLink RX6 276 "StoryRound$Voice" "script" "I" ∈ lw_tbl := tb_4 (List.mem_of_getElem? (i := 168) rfl)
theorem fl_10_25 : Cond.fieldLink RX10 25 "StoryRound$Voice" "argument" "I" ∈ lw_tbl := tb_4 (List.mem_of_getElem? (i := 169) rfl)
theorem fl_11_157 : Cond.fieldLink RX11 157 "StoryRound$Voice" "argument" "I" ∈ lw_tbl := tb_4 (List.mem_of_getElem? (i := 170) rfl)
theorem fl_6_147 : Cond.fieldLink RX6 147 "StoryRound$Voice" "argument" "I" ∈ lw_tbl := tb_4 (List.mem_of_getElem? (i := 171) rfl)
theorem fl_10_28 : Cond.fieldLink RX10 28 "StoryRound$Voice" "maker" "I" ∈ lw_tbl := tb_4 (List.mem_of_getElem? (i := 172) rfl)
theorem fl_6_137 : Cond.fieldLink RX6 137 "StoryRound$Voice" "maker" "I" ∈ lw_tbl := tb_4 (List.mem_of_getElem? (i := 173) rfl)
theorem fl_10_34 : Cond.fieldLink RX10 34 "StoryRound$Voice" "resumer" "I" ∈ lw_tbl := tb_4 (List.mem_of_getElem? (i := 174) rfl)
theorem fl_6_116 : Cond.fieldLink RX6 116 "StoryRound$Voice" "resumer" "I" ∈ lw_tbl := tb_4 (List.mem_of_getElem? (i := 175) rfl)
theorem fl_10_37 : Cond.fieldLink RX10 37 "StoryRound$Voice" "steps" "I" ∈ lw_tbl := tb_4 (List.mem_of_getElem? (i := 176) rfl)
theorem fl_6_252 : Cond.fieldLink RX6 252 "StoryRound$Voice" "steps" "I" ∈ lw_tbl := tb_4 (List.mem_of_getElem? (i := 177) rfl)
theorem fl_10_40 : Cond.fieldLink RX10 40 "StoryRound$Voice" "finished" "I" ∈ lw_tbl := tb_4 (List.mem_of_getElem? (i := 178) rfl)
theorem fl_6_293 : Cond.fieldLink RX6 293 "StoryRound$Voice" "finished" "I" ∈ lw_tbl := tb_4 (List.mem_of_getElem? (i := 179) rfl)
theorem fl_10_43 : Cond.fieldLink RX10 43 "StoryRound$Voice" "calls" "I" ∈ lw_tbl := tb_4 (List.mem_of_getElem? (i := 180) rfl)
theorem fl_6_154 : Cond.fieldLink RX6 154 "StoryRound$Voice" "calls" "I" ∈ lw_tbl := tb_4 (List.mem_of_getElem? (i := 181) rfl)
theorem fl_10_70 : Cond.fieldLink RX10 70 "StoryRound$Voice" "pc" "I" ∈ lw_tbl := tb_4 (List.mem_of_getElem? (i := 182) rfl)
theorem fl_6_175 : Cond.fieldLink RX6 175 "StoryRound$Voice" "pc" "I" ∈ lw_tbl := tb_4 (List.mem_of_getElem? (i := 183) rfl)
theorem fl_10_50 : Cond.fieldLink RX10 50 "StoryRound$Voice" "reached" "I" ∈ lw_tbl := tb_4 (List.mem_of_getElem? (i := 184) rfl)
theorem fl_6_140 : Cond.fieldLink RX6 140 "StoryRound$Voice" "reached" "I" ∈ lw_tbl := tb_4 (List.mem_of_getElem? (i := 185) rfl)
theorem fl_10_46 : Cond.fieldLink RX10 46 "StoryRound$Voice" "isClosing" "Z" ∈ lw_tbl := tb_4 (List.mem_of_getElem? (i := 186) rfl)
theorem fl_6_134 : Cond.fieldLink RX6 134 "StoryRound$Voice" "isClosing" "Z" ∈ lw_tbl := tb_4 (List.mem_of_getElem? (i := 187) rfl)
theorem fl_10_15 : Cond.fieldLink RX10 15 "StoryRound$Voice" "cells" "[I" ∈ lw_tbl := tb_4 (List.mem_of_getElem? (i := 188) rfl)
theorem fl_10_61 : Cond.fieldLink RX10 61 "StoryRound$Voice" "top" "I" ∈ lw_tbl := tb_4 (List.mem_of_getElem? (i := 189) rfl)
theorem fl_10_64 : Cond.fieldLink RX10 64 "StoryRound$Voice" "base" "I" ∈ lw_tbl := tb_4 (List.mem_of_getElem? (i := 190) rfl)
theorem fl_10_67 : Cond.fieldLink RX10 67 "StoryRound$Voice" "guard" "I" ∈ lw_tbl := tb_4 (List.mem_of_getElem? (i := 191) rfl)
theorem ml_6_95 : Cond.methodLink RX6 95 yX10_reset ∈ lw_tbl := tb_4 (List.mem_of_getElem? (i := 225) rfl)
theorem ml_14_38 : Cond.methodLink RL 38 yX11_resume ∈ lw_tbl := tb_4 (List.mem_of_getElem? (i := 229) rfl)
theorem ml_11_110 : Cond.methodLink RX11 110 yX6_find ∈ lw_tbl := tb_4 (List.mem_of_getElem? (i := 233) rfl)
theorem ml_11_114 : Cond.methodLink RX11 114 yX10_isOver ∈ lw_tbl := tb_4 (List.mem_of_getElem? (i := 234) rfl)
theorem ml_11_119 : Cond.methodLink RX11 119 yX6_deskResumes ∈ lw_tbl := tb_4 (List.mem_of_getElem? (i := 235) rfl)
theorem ml_6_119 : Cond.methodLink RX6 119 yX6_give ∈ lw_tbl := tb_4 (List.mem_of_getElem? (i := 239) rfl)
theorem ml_6_215 : Cond.methodLink RX6 215 yX4_add ∈ lw_tbl := tb_5 (List.mem_of_getElem? (i := 3) rfl)
theorem ml_4_22 : Cond.methodLink RX4 22 yJ7_copyOf_59c91 ∈ lw_tbl := tb_5 (List.mem_of_getElem? (i := 7) rfl)
theorem ml_6_256 : Cond.methodLink RX6 256 yX7_at ∈ lw_tbl := tb_5 (List.mem_of_getElem? (i := 8) rfl)
theorem ml_6_223 : Cond.methodLink RX6 223 yX10_push ∈ lw_tbl := tb_5 (List.mem_of_getElem? (i := 9) rfl)
theorem ml_10_73 : Cond.methodLink RX10 73 yJ7_copyOf_59c91 ∈ lw_tbl := tb_5 (List.mem_of_getElem? (i := 13) rfl)
theorem ml_6_279 : Cond.methodLink RX6 279 yX6_spareRow ∈ lw_tbl := tb_5 (List.mem_of_getElem? (i := 14) rfl)
theorem ml_6_283 : Cond.methodLink RX6 283 yX10_begin ∈ lw_tbl := tb_5 (List.mem_of_getElem? (i := 18) rfl)
theorem ml_10_57 : Cond.methodLink RX10 57 yX10_put ∈ lw_tbl := tb_5 (List.mem_of_getElem? (i := 22) rfl)
theorem ml_6_263 : Cond.methodLink RX6 263 yX10_enter ∈ lw_tbl := tb_5 (List.mem_of_getElem? (i := 26) rfl)
theorem ml_10_88 : Cond.methodLink RX10 88 ⟨"java/lang/Math", "max", "(II)I"⟩ ∈ lw_tbl := tb_5 (List.mem_of_getElem? (i := 30) rfl)
theorem ml_10_79 : Cond.methodLink RX10 79 yX10_cell ∈ lw_tbl := tb_5 (List.mem_of_getElem? (i := 31) rfl)
theorem ml_11_123 : Cond.methodLink RX11 123 yX6_run ∈ lw_tbl := tb_5 (List.mem_of_getElem? (i := 35) rfl)
theorem ki_6_168 : Cond.constant RX6 168 (200000000) ∈ lw_tbl := tb_5 (List.mem_of_getElem? (i := 39) rfl)
theorem ml_6_169 : Cond.methodLink RX6 169 yX6_spend ∈ lw_tbl := tb_5 (List.mem_of_getElem? (i := 40) rfl)
theorem ml_6_172 : Cond.methodLink RX6 172 yX6_unwind ∈ lw_tbl := tb_5 (List.mem_of_getElem? (i := 44) rfl)
theorem ml_6_318 : Cond.methodLink RX6 318 yX10_isGuarded ∈ lw_tbl := tb_5 (List.mem_of_getElem? (i := 48) rfl)
theorem ml_6_330 : Cond.methodLink RX6 330 yX10_leave ∈ lw_tbl := tb_5 (List.mem_of_getElem? (i := 52) rfl)
theorem ml_6_333 : Cond.methodLink RX6 333 yX6_leaveVoice ∈ lw_tbl := tb_5 (List.mem_of_getElem? (i := 56) rfl)
theorem ml_6_339 : Cond.methodLink RX6 339 yX2_number ∈ lw_tbl := tb_5 (List.mem_of_getElem? (i := 60) rfl)
theorem ml_2_45 : Cond.methodLink RX2 45 yX2_get ∈ lw_tbl := tb_5 (List.mem_of_getElem? (i := 64) rfl)
theorem ml_6_267 : Cond.methodLink RX6 267 yX6_goBack ∈ lw_tbl := tb_5 (List.mem_of_getElem? (i := 68) rfl)
theorem ml_6_178 : Cond.methodLink RX6 178 yX1_act ∈ lw_tbl := tb_5 (List.mem_of_getElem? (i := 72) rfl)
theorem ml_6_212 : Cond.methodLink RX6 212 yX10_pop ∈ lw_tbl := tb_5 (List.mem_of_getElem? (i := 73) rfl)
theorem ml_6_183 : Cond.methodLink RX6 183 yX1_argument ∈ lw_tbl := tb_5 (List.mem_of_getElem? (i := 77) rfl)
theorem ml_6_287 : Cond.methodLink RX6 287 yX6_comeOut ∈ lw_tbl := tb_5 (List.mem_of_getElem? (i := 78) rfl)
theorem ml_6_344 : Cond.methodLink RX6 344 yX2_comeOut ∈ lw_tbl := tb_5 (List.mem_of_getElem? (i := 82) rfl)
theorem ml_6_321 : Cond.methodLink RX6 321 yX10_isInGuarded ∈ lw_tbl := tb_5 (List.mem_of_getElem? (i := 83) rfl)
theorem ml_6_312 : Cond.methodLink RX6 312 yX10_phase ∈ lw_tbl := tb_5 (List.mem_of_getElem? (i := 87) rfl)
theorem ml_6_315 : Cond.methodLink RX6 315 yX10_keptByGuard ∈ lw_tbl := tb_5 (List.mem_of_getElem? (i := 91) rfl)
theorem ml_6_336 : Cond.methodLink RX6 336 yX2_putBeneath ∈ lw_tbl := tb_5 (List.mem_of_getElem? (i := 95) rfl)
theorem ml_2_49 : Cond.methodLink RX2 49 yX2_put ∈ lw_tbl := tb_5 (List.mem_of_getElem? (i := 99) rfl)
theorem ml_6_300 : Cond.methodLink RX6 300 yX10_closeGuard ∈ lw_tbl := tb_5 (List.mem_of_getElem? (i := 103) rfl)
theorem ml_6_324 : Cond.methodLink RX6 324 yX10_handlers ∈ lw_tbl := tb_5 (List.mem_of_getElem? (i := 107) rfl)
theorem ml_6_327 : Cond.methodLink RX6 327 yX6_handlerOf ∈ lw_tbl := tb_5 (List.mem_of_getElem? (i := 111) rfl)
theorem ml_6_296 : Cond.methodLink RX6 296 yX10_turnGuard ∈ lw_tbl := tb_5 (List.mem_of_getElem? (i := 115) rfl)
theorem ml_6_341 : Cond.methodLink RX6 341 yX2_value ∈ lw_tbl := tb_5 (List.mem_of_getElem? (i := 119) rfl)
theorem ml_6_185 : Cond.methodLink RX6 185 yX6_passGuards ∈ lw_tbl := tb_5 (List.mem_of_getElem? (i := 123) rfl)
theorem ml_6_290 : Cond.methodLink RX6 290 yX10_openGuard ∈ lw_tbl := tb_5 (List.mem_of_getElem? (i := 127) rfl)
theorem ml_10_100 : Cond.methodLink RX10 100 yX10_push ∈ lw_tbl := tb_5 (List.mem_of_getElem? (i := 131) rfl)
theorem ml_6_303 : Cond.methodLink RX6 303 yX6_endFinally ∈ lw_tbl := tb_5 (List.mem_of_getElem? (i := 132) rfl)
theorem ml_6_306 : Cond.methodLink RX6 306 yX6_giveBack ∈ lw_tbl := tb_5 (List.mem_of_getElem? (i := 136) rfl)
theorem ml_6_201 : Cond.methodLink RX6 201 yX10_place ∈ lw_tbl := tb_5 (List.mem_of_getElem? (i := 140) rfl)
theorem ml_6_309 : Cond.methodLink RX6 309 yX10_caught ∈ lw_tbl := tb_5 (List.mem_of_getElem? (i := 144) rfl)
theorem ml_6_123 : Cond.methodLink RX6 123 yX2_make ∈ lw_tbl := tb_5 (List.mem_of_getElem? (i := 148) rfl)
theorem ml_2_39 : Cond.methodLink RX2 39 yJ7_copyOf_59c91 ∈ lw_tbl := tb_5 (List.mem_of_getElem? (i := 152) rfl)
theorem ml_6_188 : Cond.methodLink RX6 188 yX6_playPart ∈ lw_tbl := tb_5 (List.mem_of_getElem? (i := 153) rfl)
theorem ml_6_205 : Cond.methodLink RX6 205 yX6_step ∈ lw_tbl := tb_5 (List.mem_of_getElem? (i := 157) rfl)
theorem ml_6_209 : Cond.methodLink RX6 209 yX10_setPlace ∈ lw_tbl := tb_5 (List.mem_of_getElem? (i := 161) rfl)
theorem ml_6_219 : Cond.methodLink RX6 219 yX6_stateOf ∈ lw_tbl := tb_5 (List.mem_of_getElem? (i := 165) rfl)
theorem ml_6_226 : Cond.methodLink RX6 226 yX6_makeBy ∈ lw_tbl := tb_5 (List.mem_of_getElem? (i := 168) rfl)
theorem ml_6_195 : Cond.methodLink RX6 195 yX6_raise ∈ lw_tbl := tb_5 (List.mem_of_getElem? (i := 172) rfl)
theorem ml_6_253 : Cond.methodLink RX6 253 yX6_make ∈ lw_tbl := tb_5 (List.mem_of_getElem? (i := 176) rfl)
theorem ml_6_229 : Cond.methodLink RX6 229 yX6_callBy ∈ lw_tbl := tb_5 (List.mem_of_getElem? (i := 177) rfl)
theorem ml_6_260 : Cond.methodLink RX6 260 yX10_canCall ∈ lw_tbl := tb_5 (List.mem_of_getElem? (i := 181) rfl)
theorem ml_6_232 : Cond.methodLink RX6 232 yX6_yieldBy ∈ lw_tbl := tb_5 (List.mem_of_getElem? (i := 185) rfl)
theorem ml_6_235 : Cond.methodLink RX6 235 yX6_resumeBy ∈ lw_tbl := tb_5 (List.mem_of_getElem? (i := 189) rfl)
theorem ml_6_270 : Cond.methodLink RX6 270 yX10_isReady ∈ lw_tbl := tb_5 (List.mem_of_getElem? (i := 193) rfl)
theorem ml_6_273 : Cond.methodLink RX6 273 yX6_misuse ∈ lw_tbl := tb_5 (List.mem_of_getElem? (i := 197) rfl)
theorem ml_6_239 : Cond.methodLink RX6 239 yX10_peek ∈ lw_tbl := tb_5 (List.mem_of_getElem? (i := 201) rfl)
theorem ml_6_242 : Cond.methodLink RX6 242 yX6_injectBy ∈ lw_tbl := tb_5 (List.mem_of_getElem? (i := 205) rfl)
theorem ml_6_127 : Cond.methodLink RX6 127 yX6_throwInto ∈ lw_tbl := tb_5 (List.mem_of_getElem? (i := 209) rfl)
theorem ml_6_245 : Cond.methodLink RX6 245 yX6_handBy ∈ lw_tbl := tb_5 (List.mem_of_getElem? (i := 213) rfl)
theorem ml_6_248 : Cond.methodLink RX6 248 yX6_closeBy ∈ lw_tbl := tb_5 (List.mem_of_getElem? (i := 217) rfl)
theorem ml_6_191 : Cond.methodLink RX6 191 yX10_work ∈ lw_tbl := tb_5 (List.mem_of_getElem? (i := 221) rfl)
theorem ml_10_104 : Cond.methodLink RX10 104 yX10_variable ∈ lw_tbl := tb_5 (List.mem_of_getElem? (i := 225) rfl)
theorem ml_10_107 : Cond.methodLink RX10 107 yX10_pop ∈ lw_tbl := tb_5 (List.mem_of_getElem? (i := 229) rfl)
theorem ml_10_111 : Cond.methodLink RX10 111 yX10_combine ∈ lw_tbl := tb_5 (List.mem_of_getElem? (i := 230) rfl)
theorem ml_11_126 : Cond.methodLink RX11 126 yX6_outcome ∈ lw_tbl := tb_5 (List.mem_of_getElem? (i := 234) rfl)
theorem ml_14_42 : Cond.methodLink RL 42 yX11_inject ∈ lw_tbl := tb_5 (List.mem_of_getElem? (i := 238) rfl)
theorem ml_11_129 : Cond.methodLink RX11 129 yX6_deskInjects ∈ lw_tbl := tb_6 (List.mem_of_getElem? (i := 2) rfl)
theorem ml_14_47 : Cond.methodLink RL 47 yX11_close ∈ lw_tbl := tb_6 (List.mem_of_getElem? (i := 6) rfl)
theorem ml_11_133 : Cond.methodLink RX11 133 yX6_deskCloses ∈ lw_tbl := tb_6 (List.mem_of_getElem? (i := 10) rfl)
theorem ml_14_52 : Cond.methodLink RL 52 yX11_sweep ∈ lw_tbl := tb_6 (List.mem_of_getElem? (i := 14) rfl)
theorem ml_11_137 : Cond.methodLink RX11 137 yX6_findReached ∈ lw_tbl := tb_6 (List.mem_of_getElem? (i := 18) rfl)
theorem ml_6_143 : Cond.methodLink RX6 143 yX6_lookInto ∈ lw_tbl := tb_6 (List.mem_of_getElem? (i := 22) rfl)
theorem ml_6_150 : Cond.methodLink RX6 150 yX6_reach ∈ lw_tbl := tb_6 (List.mem_of_getElem? (i := 26) rfl)
theorem ml_6_157 : Cond.methodLink RX6 157 yX10_frameOf ∈ lw_tbl := tb_6 (List.mem_of_getElem? (i := 30) rfl)
theorem ml_6_161 : Cond.methodLink RX6 161 yX10_variablesOf ∈ lw_tbl := tb_6 (List.mem_of_getElem? (i := 34) rfl)
theorem ml_6_164 : Cond.methodLink RX6 164 yX10_variable ∈ lw_tbl := tb_6 (List.mem_of_getElem? (i := 38) rfl)
theorem ml_11_143 : Cond.methodLink RX11 143 yX10_isLost ∈ lw_tbl := tb_6 (List.mem_of_getElem? (i := 39) rfl)
theorem ml_10_53 : Cond.methodLink RX10 53 yX10_isOver ∈ lw_tbl := tb_6 (List.mem_of_getElem? (i := 43) rfl)
theorem ml_14_56 : Cond.methodLink RL 56 yX11_answer ∈ lw_tbl := tb_6 (List.mem_of_getElem? (i := 44) rfl)
theorem ml_11_146 : Cond.methodLink RX11 146 yX6_given ∈ lw_tbl := tb_6 (List.mem_of_getElem? (i := 48) rfl)
theorem ml_14_60 : Cond.methodLink RL 60 yX11_told ∈ lw_tbl := tb_6 (List.mem_of_getElem? (i := 52) rfl)
theorem ml_11_149 : Cond.methodLink RX11 149 yX10_fact ∈ lw_tbl := tb_6 (List.mem_of_getElem? (i := 56) rfl)
theorem ml_14_64 : Cond.methodLink RL 64 yX11_local ∈ lw_tbl := tb_6 (List.mem_of_getElem? (i := 60) rfl)
theorem ml_11_153 : Cond.methodLink RX11 153 yX11_hasArgument ∈ lw_tbl := tb_6 (List.mem_of_getElem? (i := 64) rfl)
theorem ml_11_160 : Cond.methodLink RX11 160 yX10_frameOf ∈ lw_tbl := tb_6 (List.mem_of_getElem? (i := 68) rfl)
theorem ml_11_163 : Cond.methodLink RX11 163 yX10_variablesOf ∈ lw_tbl := tb_6 (List.mem_of_getElem? (i := 69) rfl)
theorem ml_11_166 : Cond.methodLink RX11 166 yX10_variable ∈ lw_tbl := tb_6 (List.mem_of_getElem? (i := 70) rfl)
theorem ml_14_68 : Cond.methodLink RL 68 yX11_lines ∈ lw_tbl := tb_6 (List.mem_of_getElem? (i := 71) rfl)
theorem ml_11_174 : Cond.methodLink RX11 174 yX4_total ∈ lw_tbl := tb_6 (List.mem_of_getElem? (i := 75) rfl)
theorem ml_14_72 : Cond.methodLink RL 72 yX11_line ∈ lw_tbl := tb_6 (List.mem_of_getElem? (i := 79) rfl)
theorem ml_11_179 : Cond.methodLink RX11 179 yX11_kept ∈ lw_tbl := tb_6 (List.mem_of_getElem? (i := 83) rfl)
theorem ml_11_221 : Cond.methodLink RX11 221 yX4_kept ∈ lw_tbl := tb_6 (List.mem_of_getElem? (i := 86) rfl)
theorem ml_11_223 : Cond.methodLink RX11 223 yX4_get ∈ lw_tbl := tb_6 (List.mem_of_getElem? (i := 90) rfl)
theorem ml_14_76 : Cond.methodLink RL 76 yX11_handings ∈ lw_tbl := tb_6 (List.mem_of_getElem? (i := 94) rfl)
theorem ml_14_80 : Cond.methodLink RL 80 yX11_handing ∈ lw_tbl := tb_6 (List.mem_of_getElem? (i := 98) rfl)
theorem ml_14_84 : Cond.methodLink RL 84 yX11_failures ∈ lw_tbl := tb_6 (List.mem_of_getElem? (i := 102) rfl)
theorem ml_11_190 : Cond.methodLink RX11 190 yX2_listed ∈ lw_tbl := tb_6 (List.mem_of_getElem? (i := 106) rfl)
theorem ml_2_56 : Cond.methodLink RX2 56 yX2_visit ∈ lw_tbl := tb_6 (List.mem_of_getElem? (i := 110) rfl)
theorem ml_14_88 : Cond.methodLink RL 88 yX11_failure ∈ lw_tbl := tb_6 (List.mem_of_getElem? (i := 114) rfl)
theorem ml_11_195 : Cond.methodLink RX11 195 yX2_fact ∈ lw_tbl := tb_6 (List.mem_of_getElem? (i := 118) rfl)
theorem ml_14_92 : Cond.methodLink RL 92 yX11_ring ∈ lw_tbl := tb_6 (List.mem_of_getElem? (i := 122) rfl)
theorem ml_11_197 : Cond.methodLink RX11 197 yX6_inRing ∈ lw_tbl := tb_6 (List.mem_of_getElem? (i := 126) rfl)
theorem ml_14_96 : Cond.methodLink RL 96 yX11_count ∈ lw_tbl := tb_6 (List.mem_of_getElem? (i := 130) rfl)
theorem ml_11_200 : Cond.methodLink RX11 200 yX6_made ∈ lw_tbl := tb_6 (List.mem_of_getElem? (i := 134) rfl)
theorem ml_11_203 : Cond.methodLink RX11 203 yX6_alive ∈ lw_tbl := tb_6 (List.mem_of_getElem? (i := 138) rfl)
theorem ml_11_206 : Cond.methodLink RX11 206 yX6_steps ∈ lw_tbl := tb_6 (List.mem_of_getElem? (i := 142) rfl)
theorem ml_14_100 : Cond.methodLink RL 100 yX11_digest ∈ lw_tbl := tb_6 (List.mem_of_getElem? (i := 146) rfl)
theorem kl_11_209 : Cond.constantLong RX11 209 (17) ∈ lw_tbl := tb_6 (List.mem_of_getElem? (i := 150) rfl)
theorem ml_11_211 : Cond.methodLink RX11 211 yX10_mixInto ∈ lw_tbl := tb_6 (List.mem_of_getElem? (i := 151) rfl)
theorem kl_10_117 : Cond.constantLong RX10 117 (31) ∈ lw_tbl := tb_6 (List.mem_of_getElem? (i := 155) rfl)
theorem ml_10_119 : Cond.methodLink RX10 119 yX10_fact ∈ lw_tbl := tb_6 (List.mem_of_getElem? (i := 156) rfl)
theorem ml_11_215 : Cond.methodLink RX11 215 yX4_mixInto ∈ lw_tbl := tb_6 (List.mem_of_getElem? (i := 157) rfl)
theorem kl_4_28 : Cond.constantLong RX4 28 (31) ∈ lw_tbl := tb_6 (List.mem_of_getElem? (i := 161) rfl)
theorem kl_11_216 : Cond.constantLong RX11 216 (31) ∈ lw_tbl := tb_6 (List.mem_of_getElem? (i := 162) rfl)
theorem cl_14_10 : Cond.classLink RL 10 "StoryRoundModel" ∈ lw_tbl := tb_6 (List.mem_of_getElem? (i := 163) rfl)
theorem ml_14_12 : Cond.methodLink RL 12 yX13_init ∈ lw_tbl := tb_6 (List.mem_of_getElem? (i := 165) rfl)
theorem ml_13_1 : Cond.methodLink RX13 1 ⟨"java/lang/Object", "<init>", "()V"⟩ ∈ lw_tbl := tb_6 (List.mem_of_getElem? (i := 168) rfl)
theorem cl_13_7 : Cond.classLink RX13 7 "StoryRoundModel$Stop" ∈ lw_tbl := tb_6 (List.mem_of_getElem? (i := 169) rfl)
theorem fl_22_198 : Cond.fieldLink RE2 198 "java/lang/Throwable" "backtrace" "Ljava/lang/Object;" ∈ lw_tbl := tb_6 (List.mem_of_getElem? (i := 221) rfl)
theorem ml_22_1 : Cond.methodLink RE2 1 ⟨"java/lang/Object", "<init>", "()V"⟩ ∈ lw_tbl := tb_6 (List.mem_of_getElem? (i := 194) rfl)
theorem fl_22_13 : Cond.fieldLink RE2 13 "java/lang/Throwable" "UNASSIGNED_STACK" "[Ljava/lang/StackTraceElement;" ∈ lw_tbl := tb_6 (List.mem_of_getElem? (i := 195) rfl)
theorem fl_22_20 : Cond.fieldLink RE2 20 "java/lang/Throwable" "SUPPRESSED_SENTINEL" "Ljava/util/List;" ∈ lw_tbl := tb_6 (List.mem_of_getElem? (i := 197) rfl)
theorem ml_22_27 : Cond.methodLink RE2 27 ⟨"java/lang/Throwable", "fillInStackTrace", "()Ljava/lang/Throwable;"⟩ ∈ lw_tbl := tb_6 (List.mem_of_getElem? (i := 199) rfl)
theorem ml_22_202 : Cond.methodLink RE2 202 ⟨"java/lang/Throwable", "fillInStackTrace", "(I)Ljava/lang/Throwable;"⟩ ∈ lw_tbl := tb_6 (List.mem_of_getElem? (i := 203) rfl)
theorem ml_13_9 : Cond.methodLink RX13 9 yX12_init ∈ lw_tbl := tb_6 (List.mem_of_getElem? (i := 208) rfl)
theorem ml_12_1 : Cond.methodLink RX12 1 yE0_init ∈ lw_tbl := tb_6 (List.mem_of_getElem? (i := 211) rfl)
theorem ml_20_16 : Cond.methodLink RE0 16 yE1_init ∈ lw_tbl := tb_6 (List.mem_of_getElem? (i := 214) rfl)
theorem ml_21_16 : Cond.methodLink RE1 16 yE2_init ∈ lw_tbl := tb_6 (List.mem_of_getElem? (i := 217) rfl)
theorem fl_22_31 : Cond.fieldLink RE2 31 "java/lang/Throwable" "detailMessage" "Ljava/lang/String;" ∈ lw_tbl := tb_6 (List.mem_of_getElem? (i := 222) rfl)
theorem fl_22_7 : Cond.fieldLink RE2 7 "java/lang/Throwable" "cause" "Ljava/lang/Throwable;" ∈ lw_tbl := tb_6 (List.mem_of_getElem? (i := 223) rfl)
theorem fl_22_17 : Cond.fieldLink RE2 17 "java/lang/Throwable" "stackTrace" "[Ljava/lang/StackTraceElement;" ∈ lw_tbl := tb_6 (List.mem_of_getElem? (i := 224) rfl)
theorem fl_22_24 : Cond.fieldLink RE2 24 "java/lang/Throwable" "suppressedExceptions" "Ljava/util/List;" ∈ lw_tbl := tb_6 (List.mem_of_getElem? (i := 225) rfl)
theorem cl_13_40 : Cond.classLink RX13 40 "java/lang/String" ∈ lw_tbl := tb_6 (List.mem_of_getElem? (i := 236) rfl)
theorem ki_13_237 : Cond.constant RX13 237 (122400) ∈ lw_tbl := tb_7 (List.mem_of_getElem? (i := 21) rfl)
theorem fl_13_10 : Cond.fieldLink RX13 10 "StoryRoundModel" "stop" "LStoryRoundModel$Stop;" ∈ lw_tbl := tb_7 (List.mem_of_getElem? (i := 22) rfl)
theorem fl_13_16 : Cond.fieldLink RX13 16 "StoryRoundModel" "tape" "[B" ∈ lw_tbl := tb_7 (List.mem_of_getElem? (i := 23) rfl)
theorem fl_13_296 : Cond.fieldLink RX13 296 "StoryRoundModel" "size" "I" ∈ lw_tbl := tb_7 (List.mem_of_getElem? (i := 24) rfl)
theorem fl_13_20 : Cond.fieldLink RX13 20 "StoryRoundModel" "text" "[B" ∈ lw_tbl := tb_7 (List.mem_of_getElem? (i := 25) rfl)
theorem fl_13_314 : Cond.fieldLink RX13 314 "StoryRoundModel" "textSize" "I" ∈ lw_tbl := tb_7 (List.mem_of_getElem? (i := 26) rfl)
theorem fl_13_23 : Cond.fieldLink RX13 23 "StoryRoundModel" "sorts" "[I" ∈ lw_tbl := tb_7 (List.mem_of_getElem? (i := 27) rfl)
theorem fl_13_27 : Cond.fieldLink RX13 27 "StoryRoundModel" "froms" "[I" ∈ lw_tbl := tb_7 (List.mem_of_getElem? (i := 28) rfl)
theorem fl_13_30 : Cond.fieldLink RX13 30 "StoryRoundModel" "tos" "[I" ∈ lw_tbl := tb_7 (List.mem_of_getElem? (i := 29) rfl)
theorem fl_13_33 : Cond.fieldLink RX13 33 "StoryRoundModel" "numbers" "[I" ∈ lw_tbl := tb_7 (List.mem_of_getElem? (i := 30) rfl)
theorem fl_13_36 : Cond.fieldLink RX13 36 "StoryRoundModel" "keys" "[J" ∈ lw_tbl := tb_7 (List.mem_of_getElem? (i := 31) rfl)
theorem fl_13_331 : Cond.fieldLink RX13 331 "StoryRoundModel" "at" "I" ∈ lw_tbl := tb_7 (List.mem_of_getElem? (i := 32) rfl)
theorem fl_13_88 : Cond.fieldLink RX13 88 "StoryRoundModel" "words" "[Ljava/lang/String;" ∈ lw_tbl := tb_7 (List.mem_of_getElem? (i := 33) rfl)
theorem fl_13_345 : Cond.fieldLink RX13 345 "StoryRoundModel" "open" "I" ∈ lw_tbl := tb_7 (List.mem_of_getElem? (i := 34) rfl)
theorem fl_13_92 : Cond.fieldLink RX13 92 "StoryRoundModel" "ops" "[I" ∈ lw_tbl := tb_7 (List.mem_of_getElem? (i := 35) rfl)
theorem fl_13_95 : Cond.fieldLink RX13 95 "StoryRoundModel" "as" "[I" ∈ lw_tbl := tb_7 (List.mem_of_getElem? (i := 36) rfl)
theorem fl_13_98 : Cond.fieldLink RX13 98 "StoryRoundModel" "bs" "[I" ∈ lw_tbl := tb_7 (List.mem_of_getElem? (i := 37) rfl)
theorem fl_13_101 : Cond.fieldLink RX13 101 "StoryRoundModel" "cs" "[I" ∈ lw_tbl := tb_7 (List.mem_of_getElem? (i := 38) rfl)
theorem fl_13_351 : Cond.fieldLink RX13 351 "StoryRoundModel" "acts" "I" ∈ lw_tbl := tb_7 (List.mem_of_getElem? (i := 39) rfl)
theorem fl_13_445 : Cond.fieldLink RX13 445 "StoryRoundModel" "bodies" "I" ∈ lw_tbl := tb_7 (List.mem_of_getElem? (i := 40) rfl)
theorem fl_13_104 : Cond.fieldLink RX13 104 "StoryRoundModel" "scripts" "[I" ∈ lw_tbl := tb_7 (List.mem_of_getElem? (i := 41) rfl)
theorem fl_13_107 : Cond.fieldLink RX13 107 "StoryRoundModel" "takes" "[I" ∈ lw_tbl := tb_7 (List.mem_of_getElem? (i := 42) rfl)
theorem fl_13_110 : Cond.fieldLink RX13 110 "StoryRoundModel" "variables" "[I" ∈ lw_tbl := tb_7 (List.mem_of_getElem? (i := 43) rfl)
theorem fl_13_113 : Cond.fieldLink RX13 113 "StoryRoundModel" "nameAts" "[I" ∈ lw_tbl := tb_7 (List.mem_of_getElem? (i := 44) rfl)
theorem fl_13_116 : Cond.fieldLink RX13 116 "StoryRoundModel" "starts" "[I" ∈ lw_tbl := tb_7 (List.mem_of_getElem? (i := 45) rfl)
theorem fl_13_119 : Cond.fieldLink RX13 119 "StoryRoundModel" "names" "[J" ∈ lw_tbl := tb_7 (List.mem_of_getElem? (i := 46) rfl)
theorem fl_13_357 : Cond.fieldLink RX13 357 "StoryRoundModel" "named" "I" ∈ lw_tbl := tb_7 (List.mem_of_getElem? (i := 47) rfl)
theorem fl_13_122 : Cond.fieldLink RX13 122 "StoryRoundModel" "bodyKeys" "[J" ∈ lw_tbl := tb_7 (List.mem_of_getElem? (i := 48) rfl)
theorem fl_13_125 : Cond.fieldLink RX13 125 "StoryRoundModel" "finals" "[I" ∈ lw_tbl := tb_7 (List.mem_of_getElem? (i := 49) rfl)
theorem fl_13_128 : Cond.fieldLink RX13 128 "StoryRoundModel" "behinds" "[I" ∈ lw_tbl := tb_7 (List.mem_of_getElem? (i := 50) rfl)
theorem fl_13_413 : Cond.fieldLink RX13 413 "StoryRoundModel" "tries" "I" ∈ lw_tbl := tb_7 (List.mem_of_getElem? (i := 51) rfl)
theorem fl_13_131 : Cond.fieldLink RX13 131 "StoryRoundModel" "catchNumber" "[I" ∈ lw_tbl := tb_7 (List.mem_of_getElem? (i := 52) rfl)
theorem fl_13_134 : Cond.fieldLink RX13 134 "StoryRoundModel" "catchVariable" "[I" ∈ lw_tbl := tb_7 (List.mem_of_getElem? (i := 53) rfl)
theorem fl_13_137 : Cond.fieldLink RX13 137 "StoryRoundModel" "catchAt" "[I" ∈ lw_tbl := tb_7 (List.mem_of_getElem? (i := 54) rfl)
theorem fl_13_140 : Cond.fieldLink RX13 140 "StoryRoundModel" "catchDepth" "[I" ∈ lw_tbl := tb_7 (List.mem_of_getElem? (i := 55) rfl)
theorem fl_13_416 : Cond.fieldLink RX13 416 "StoryRoundModel" "catches" "I" ∈ lw_tbl := tb_7 (List.mem_of_getElem? (i := 56) rfl)
theorem fl_13_389 : Cond.fieldLink RX13 389 "StoryRoundModel" "catchNest" "I" ∈ lw_tbl := tb_7 (List.mem_of_getElem? (i := 57) rfl)
theorem fl_13_410 : Cond.fieldLink RX13 410 "StoryRoundModel" "eachNest" "I" ∈ lw_tbl := tb_7 (List.mem_of_getElem? (i := 58) rfl)
theorem fl_13_354 : Cond.fieldLink RX13 354 "StoryRoundModel" "nameFault" "I" ∈ lw_tbl := tb_7 (List.mem_of_getElem? (i := 59) rfl)
theorem fl_13_143 : Cond.fieldLink RX13 143 "StoryRoundModel" "askActs" "[I" ∈ lw_tbl := tb_7 (List.mem_of_getElem? (i := 60) rfl)
theorem fl_13_146 : Cond.fieldLink RX13 146 "StoryRoundModel" "askTokens" "[I" ∈ lw_tbl := tb_7 (List.mem_of_getElem? (i := 61) rfl)
theorem fl_13_149 : Cond.fieldLink RX13 149 "StoryRoundModel" "askMany" "[I" ∈ lw_tbl := tb_7 (List.mem_of_getElem? (i := 62) rfl)
theorem fl_13_442 : Cond.fieldLink RX13 442 "StoryRoundModel" "asks" "I" ∈ lw_tbl := tb_7 (List.mem_of_getElem? (i := 63) rfl)
theorem fl_13_152 : Cond.fieldLink RX13 152 "StoryRoundModel" "useActs" "[I" ∈ lw_tbl := tb_7 (List.mem_of_getElem? (i := 64) rfl)
theorem fl_13_155 : Cond.fieldLink RX13 155 "StoryRoundModel" "useTokens" "[I" ∈ lw_tbl := tb_7 (List.mem_of_getElem? (i := 65) rfl)
theorem fl_13_439 : Cond.fieldLink RX13 439 "StoryRoundModel" "uses" "I" ∈ lw_tbl := tb_7 (List.mem_of_getElem? (i := 66) rfl)
theorem fl_13_158 : Cond.fieldLink RX13 158 "StoryRoundModel" "catchTry" "[I" ∈ lw_tbl := tb_7 (List.mem_of_getElem? (i := 67) rfl)
theorem fl_13_448 : Cond.fieldLink RX13 448 "StoryRoundModel" "isStory" "Z" ∈ lw_tbl := tb_7 (List.mem_of_getElem? (i := 68) rfl)
theorem fl_13_461 : Cond.fieldLink RX13 461 "StoryRoundModel" "voices" "I" ∈ lw_tbl := tb_7 (List.mem_of_getElem? (i := 69) rfl)
theorem fl_13_464 : Cond.fieldLink RX13 464 "StoryRoundModel" "alive" "I" ∈ lw_tbl := tb_7 (List.mem_of_getElem? (i := 70) rfl)
theorem fl_13_161 : Cond.fieldLink RX13 161 "StoryRoundModel" "states" "[I" ∈ lw_tbl := tb_7 (List.mem_of_getElem? (i := 71) rfl)
theorem fl_13_164 : Cond.fieldLink RX13 164 "StoryRoundModel" "bodyOf" "[I" ∈ lw_tbl := tb_7 (List.mem_of_getElem? (i := 72) rfl)
theorem fl_13_167 : Cond.fieldLink RX13 167 "StoryRoundModel" "argument" "[I" ∈ lw_tbl := tb_7 (List.mem_of_getElem? (i := 73) rfl)
theorem fl_13_170 : Cond.fieldLink RX13 170 "StoryRoundModel" "stepsOf" "[I" ∈ lw_tbl := tb_7 (List.mem_of_getElem? (i := 74) rfl)
theorem fl_13_173 : Cond.fieldLink RX13 173 "StoryRoundModel" "finished" "[I" ∈ lw_tbl := tb_7 (List.mem_of_getElem? (i := 75) rfl)
theorem fl_13_176 : Cond.fieldLink RX13 176 "StoryRoundModel" "resumers" "[I" ∈ lw_tbl := tb_7 (List.mem_of_getElem? (i := 76) rfl)
theorem fl_13_179 : Cond.fieldLink RX13 179 "StoryRoundModel" "makers" "[I" ∈ lw_tbl := tb_7 (List.mem_of_getElem? (i := 77) rfl)
theorem fl_13_182 : Cond.fieldLink RX13 182 "StoryRoundModel" "waits" "[I" ∈ lw_tbl := tb_7 (List.mem_of_getElem? (i := 78) rfl)
theorem fl_13_185 : Cond.fieldLink RX13 185 "StoryRoundModel" "closing" "[Z" ∈ lw_tbl := tb_7 (List.mem_of_getElem? (i := 79) rfl)
theorem fl_13_189 : Cond.fieldLink RX13 189 "StoryRoundModel" "part" "[I" ∈ lw_tbl := tb_7 (List.mem_of_getElem? (i := 80) rfl)
theorem fl_13_192 : Cond.fieldLink RX13 192 "StoryRoundModel" "taken" "[Z" ∈ lw_tbl := tb_7 (List.mem_of_getElem? (i := 81) rfl)
theorem fl_13_195 : Cond.fieldLink RX13 195 "StoryRoundModel" "depth" "[I" ∈ lw_tbl := tb_7 (List.mem_of_getElem? (i := 82) rfl)
theorem fl_13_198 : Cond.fieldLink RX13 198 "StoryRoundModel" "callBody" "[I" ∈ lw_tbl := tb_7 (List.mem_of_getElem? (i := 83) rfl)
theorem fl_13_201 : Cond.fieldLink RX13 201 "StoryRoundModel" "callAct" "[I" ∈ lw_tbl := tb_7 (List.mem_of_getElem? (i := 84) rfl)
theorem fl_13_204 : Cond.fieldLink RX13 204 "StoryRoundModel" "callPlace" "[I" ∈ lw_tbl := tb_7 (List.mem_of_getElem? (i := 85) rfl)
theorem fl_13_207 : Cond.fieldLink RX13 207 "StoryRoundModel" "callGuards" "[I" ∈ lw_tbl := tb_7 (List.mem_of_getElem? (i := 86) rfl)
theorem fl_13_210 : Cond.fieldLink RX13 210 "StoryRoundModel" "callValues" "[I" ∈ lw_tbl := tb_7 (List.mem_of_getElem? (i := 87) rfl)
theorem fl_13_213 : Cond.fieldLink RX13 213 "StoryRoundModel" "cells" "[I" ∈ lw_tbl := tb_7 (List.mem_of_getElem? (i := 88) rfl)
theorem fl_13_216 : Cond.fieldLink RX13 216 "StoryRoundModel" "caught" "[I" ∈ lw_tbl := tb_7 (List.mem_of_getElem? (i := 89) rfl)
theorem fl_13_219 : Cond.fieldLink RX13 219 "StoryRoundModel" "guardMany" "[I" ∈ lw_tbl := tb_7 (List.mem_of_getElem? (i := 90) rfl)
theorem fl_13_222 : Cond.fieldLink RX13 222 "StoryRoundModel" "guardTry" "[I" ∈ lw_tbl := tb_7 (List.mem_of_getElem? (i := 91) rfl)
theorem fl_13_225 : Cond.fieldLink RX13 225 "StoryRoundModel" "guardPhase" "[I" ∈ lw_tbl := tb_7 (List.mem_of_getElem? (i := 92) rfl)
theorem fl_13_228 : Cond.fieldLink RX13 228 "StoryRoundModel" "guardKind" "[I" ∈ lw_tbl := tb_7 (List.mem_of_getElem? (i := 93) rfl)
theorem fl_13_231 : Cond.fieldLink RX13 231 "StoryRoundModel" "guardValue" "[I" ∈ lw_tbl := tb_7 (List.mem_of_getElem? (i := 94) rfl)
theorem fl_13_234 : Cond.fieldLink RX13 234 "StoryRoundModel" "valueMany" "[I" ∈ lw_tbl := tb_7 (List.mem_of_getElem? (i := 95) rfl)
theorem fl_13_238 : Cond.fieldLink RX13 238 "StoryRoundModel" "values" "[I" ∈ lw_tbl := tb_7 (List.mem_of_getElem? (i := 96) rfl)
theorem fl_13_467 : Cond.fieldLink RX13 467 "StoryRoundModel" "steps" "I" ∈ lw_tbl := tb_7 (List.mem_of_getElem? (i := 97) rfl)
theorem fl_13_470 : Cond.fieldLink RX13 470 "StoryRoundModel" "spent" "Z" ∈ lw_tbl := tb_7 (List.mem_of_getElem? (i := 98) rfl)
theorem fl_13_473 : Cond.fieldLink RX13 473 "StoryRoundModel" "current" "I" ∈ lw_tbl := tb_7 (List.mem_of_getElem? (i := 99) rfl)
theorem fl_13_519 : Cond.fieldLink RX13 519 "StoryRoundModel" "outcome" "I" ∈ lw_tbl := tb_7 (List.mem_of_getElem? (i := 100) rfl)
theorem fl_13_476 : Cond.fieldLink RX13 476 "StoryRoundModel" "answer" "I" ∈ lw_tbl := tb_7 (List.mem_of_getElem? (i := 101) rfl)
theorem fl_13_479 : Cond.fieldLink RX13 479 "StoryRoundModel" "lines" "I" ∈ lw_tbl := tb_7 (List.mem_of_getElem? (i := 102) rfl)
theorem fl_13_241 : Cond.fieldLink RX13 241 "StoryRoundModel" "lineVoices" "[I" ∈ lw_tbl := tb_7 (List.mem_of_getElem? (i := 103) rfl)
theorem fl_13_244 : Cond.fieldLink RX13 244 "StoryRoundModel" "lineValues" "[I" ∈ lw_tbl := tb_7 (List.mem_of_getElem? (i := 104) rfl)
theorem fl_13_482 : Cond.fieldLink RX13 482 "StoryRoundModel" "handings" "I" ∈ lw_tbl := tb_7 (List.mem_of_getElem? (i := 105) rfl)
theorem fl_13_247 : Cond.fieldLink RX13 247 "StoryRoundModel" "handFrom" "[I" ∈ lw_tbl := tb_7 (List.mem_of_getElem? (i := 106) rfl)
theorem fl_13_250 : Cond.fieldLink RX13 250 "StoryRoundModel" "handTo" "[I" ∈ lw_tbl := tb_7 (List.mem_of_getElem? (i := 107) rfl)
theorem fl_13_253 : Cond.fieldLink RX13 253 "StoryRoundModel" "ring" "[I" ∈ lw_tbl := tb_7 (List.mem_of_getElem? (i := 108) rfl)
theorem fl_13_485 : Cond.fieldLink RX13 485 "StoryRoundModel" "ringMany" "I" ∈ lw_tbl := tb_7 (List.mem_of_getElem? (i := 109) rfl)
theorem fl_13_488 : Cond.fieldLink RX13 488 "StoryRoundModel" "failures" "I" ∈ lw_tbl := tb_7 (List.mem_of_getElem? (i := 110) rfl)
theorem fl_13_256 : Cond.fieldLink RX13 256 "StoryRoundModel" "fNumber" "[I" ∈ lw_tbl := tb_7 (List.mem_of_getElem? (i := 111) rfl)
theorem fl_13_259 : Cond.fieldLink RX13 259 "StoryRoundModel" "fValue" "[I" ∈ lw_tbl := tb_7 (List.mem_of_getElem? (i := 112) rfl)
theorem fl_13_262 : Cond.fieldLink RX13 262 "StoryRoundModel" "fVoice" "[I" ∈ lw_tbl := tb_7 (List.mem_of_getElem? (i := 113) rfl)
theorem fl_13_265 : Cond.fieldLink RX13 265 "StoryRoundModel" "fPlace" "[I" ∈ lw_tbl := tb_7 (List.mem_of_getElem? (i := 114) rfl)
theorem fl_13_268 : Cond.fieldLink RX13 268 "StoryRoundModel" "fCause" "[I" ∈ lw_tbl := tb_7 (List.mem_of_getElem? (i := 115) rfl)
theorem fl_13_271 : Cond.fieldLink RX13 271 "StoryRoundModel" "fFirst" "[I" ∈ lw_tbl := tb_7 (List.mem_of_getElem? (i := 116) rfl)
theorem fl_13_274 : Cond.fieldLink RX13 274 "StoryRoundModel" "fLast" "[I" ∈ lw_tbl := tb_7 (List.mem_of_getElem? (i := 117) rfl)
theorem fl_13_277 : Cond.fieldLink RX13 277 "StoryRoundModel" "fNext" "[I" ∈ lw_tbl := tb_7 (List.mem_of_getElem? (i := 118) rfl)
theorem fl_13_491 : Cond.fieldLink RX13 491 "StoryRoundModel" "latest" "I" ∈ lw_tbl := tb_7 (List.mem_of_getElem? (i := 119) rfl)
theorem fl_13_280 : Cond.fieldLink RX13 280 "StoryRoundModel" "reached" "[Z" ∈ lw_tbl := tb_7 (List.mem_of_getElem? (i := 120) rfl)
theorem fl_13_283 : Cond.fieldLink RX13 283 "StoryRoundModel" "toldFailure" "[I" ∈ lw_tbl := tb_7 (List.mem_of_getElem? (i := 121) rfl)
theorem fl_13_286 : Cond.fieldLink RX13 286 "StoryRoundModel" "toldDepth" "[I" ∈ lw_tbl := tb_7 (List.mem_of_getElem? (i := 122) rfl)
theorem fl_13_289 : Cond.fieldLink RX13 289 "StoryRoundModel" "toldHow" "[I" ∈ lw_tbl := tb_7 (List.mem_of_getElem? (i := 123) rfl)
theorem fl_13_642 : Cond.fieldLink RX13 642 "StoryRoundModel" "toldMany" "I" ∈ lw_tbl := tb_7 (List.mem_of_getElem? (i := 124) rfl)
theorem ml_14_19 : Cond.methodLink RL 19 yX13_feed ∈ lw_tbl := tb_8 (List.mem_of_getElem? (i := 93) rfl)
theorem ml_13_292 : Cond.methodLink RX13 292 yX13_in ∈ lw_tbl := tb_8 (List.mem_of_getElem? (i := 97) rfl)
theorem ml_14_24 : Cond.methodLink RL 24 yX13_drop ∈ lw_tbl := tb_8 (List.mem_of_getElem? (i := 100) rfl)
theorem ml_14_28 : Cond.methodLink RL 28 yX13_compile ∈ lw_tbl := tb_8 (List.mem_of_getElem? (i := 104) rfl)
theorem ml_13_452 : Cond.methodLink RX13 452 yX13_begins ∈ lw_tbl := tb_8 (List.mem_of_getElem? (i := 108) rfl)
theorem ml_13_455 : Cond.methodLink RX13 455 yX13_cut ∈ lw_tbl := tb_8 (List.mem_of_getElem? (i := 112) rfl)
theorem ml_13_317 : Cond.methodLink RX13 317 yX13_isLetter ∈ lw_tbl := tb_8 (List.mem_of_getElem? (i := 116) rfl)
theorem kl_13_304 : Cond.constantLong RX13 304 (27) ∈ lw_tbl := tb_8 (List.mem_of_getElem? (i := 119) rfl)
theorem ml_13_321 : Cond.methodLink RX13 321 yX13_isWordKey ∈ lw_tbl := tb_8 (List.mem_of_getElem? (i := 120) rfl)
theorem ml_13_310 : Cond.methodLink RX13 310 yX13_keyOf ∈ lw_tbl := tb_8 (List.mem_of_getElem? (i := 124) rfl)
theorem ml_13_300 : Cond.methodLink RX13 300 yJ0_length_8abf5 ∈ lw_tbl := tb_8 (List.mem_of_getElem? (i := 128) rfl)
theorem ml_13_306 : Cond.methodLink RX13 306 yJ0_charAt_5068e ∈ lw_tbl := tb_8 (List.mem_of_getElem? (i := 129) rfl)
theorem ml_13_325 : Cond.methodLink RX13 325 yX13_isFigure ∈ lw_tbl := tb_8 (List.mem_of_getElem? (i := 130) rfl)
theorem ml_13_458 : Cond.methodLink RX13 458 yX13_readBody ∈ lw_tbl := tb_8 (List.mem_of_getElem? (i := 133) rfl)
theorem ml_13_341 : Cond.methodLink RX13 341 yX13_isWord ∈ lw_tbl := tb_8 (List.mem_of_getElem? (i := 137) rfl)
theorem ml_13_337 : Cond.methodLink RX13 337 yX13_fail ∈ lw_tbl := tb_8 (List.mem_of_getElem? (i := 141) rfl)
theorem ml_13_399 : Cond.methodLink RX13 399 yX13_mustName ∈ lw_tbl := tb_8 (List.mem_of_getElem? (i := 145) rfl)
theorem ml_13_360 : Cond.methodLink RX13 360 yX13_blame ∈ lw_tbl := tb_8 (List.mem_of_getElem? (i := 149) rfl)
theorem ml_13_334 : Cond.methodLink RX13 334 yX13_isSign ∈ lw_tbl := tb_8 (List.mem_of_getElem? (i := 153) rfl)
theorem ml_13_363 : Cond.methodLink RX13 363 yX13_opens ∈ lw_tbl := tb_8 (List.mem_of_getElem? (i := 157) rfl)
theorem ml_13_348 : Cond.methodLink RX13 348 yX13_mustSign ∈ lw_tbl := tb_8 (List.mem_of_getElem? (i := 161) rfl)
theorem ml_13_402 : Cond.methodLink RX13 402 yX13_variable ∈ lw_tbl := tb_8 (List.mem_of_getElem? (i := 165) rfl)
theorem ml_13_370 : Cond.methodLink RX13 370 yX13_closes ∈ lw_tbl := tb_8 (List.mem_of_getElem? (i := 169) rfl)
theorem ml_13_383 : Cond.methodLink RX13 383 yX13_readBlock ∈ lw_tbl := tb_8 (List.mem_of_getElem? (i := 173) rfl)
theorem ml_13_366 : Cond.methodLink RX13 366 yX13_readStatement ∈ lw_tbl := tb_8 (List.mem_of_getElem? (i := 176) rfl)
theorem ml_13_373 : Cond.methodLink RX13 373 yX13_emit ∈ lw_tbl := tb_8 (List.mem_of_getElem? (i := 179) rfl)
theorem ml_13_377 : Cond.methodLink RX13 377 yX13_readE ∈ lw_tbl := tb_8 (List.mem_of_getElem? (i := 183) rfl)
theorem ml_13_419 : Cond.methodLink RX13 419 yX13_readS ∈ lw_tbl := tb_8 (List.mem_of_getElem? (i := 186) rfl)
theorem ml_13_422 : Cond.methodLink RX13 422 yX13_readT ∈ lw_tbl := tb_8 (List.mem_of_getElem? (i := 189) rfl)
theorem ml_13_425 : Cond.methodLink RX13 425 yX13_readU ∈ lw_tbl := tb_8 (List.mem_of_getElem? (i := 192) rfl)
theorem ml_13_428 : Cond.methodLink RX13 428 yX13_readP ∈ lw_tbl := tb_8 (List.mem_of_getElem? (i := 195) rfl)
theorem ml_13_386 : Cond.methodLink RX13 386 yX13_mustNumber ∈ lw_tbl := tb_8 (List.mem_of_getElem? (i := 198) rfl)
theorem ml_13_431 : Cond.methodLink RX13 431 yX13_isComma ∈ lw_tbl := tb_8 (List.mem_of_getElem? (i := 202) rfl)
theorem ml_13_435 : Cond.methodLink RX13 435 yX13_asksFor ∈ lw_tbl := tb_8 (List.mem_of_getElem? (i := 205) rfl)
theorem ml_13_406 : Cond.methodLink RX13 406 yX13_mustWord ∈ lw_tbl := tb_8 (List.mem_of_getElem? (i := 209) rfl)
theorem ml_13_380 : Cond.methodLink RX13 380 yX13_readTest ∈ lw_tbl := tb_8 (List.mem_of_getElem? (i := 213) rfl)
theorem ml_13_392 : Cond.methodLink RX13 392 yX13_readEach ∈ lw_tbl := tb_8 (List.mem_of_getElem? (i := 216) rfl)
theorem ml_13_396 : Cond.methodLink RX13 396 yX13_readTry ∈ lw_tbl := tb_8 (List.mem_of_getElem? (i := 219) rfl)
theorem ml_14_33 : Cond.methodLink RL 33 yX13_body ∈ lw_tbl := tb_8 (List.mem_of_getElem? (i := 222) rfl)
theorem ml_14_37 : Cond.methodLink RL 37 yX13_voice ∈ lw_tbl := tb_8 (List.mem_of_getElem? (i := 226) rfl)
theorem ml_13_619 : Cond.methodLink RX13 619 yX13_isSilent ∈ lw_tbl := tb_8 (List.mem_of_getElem? (i := 230) rfl)
theorem ml_13_604 : Cond.methodLink RX13 604 yX13_made ∈ lw_tbl := tb_8 (List.mem_of_getElem? (i := 234) rfl)
theorem ml_14_41 : Cond.methodLink RL 41 yX13_resume ∈ lw_tbl := tb_8 (List.mem_of_getElem? (i := 238) rfl)
theorem ml_13_554 : Cond.methodLink RX13 554 yX13_isVoice ∈ lw_tbl := tb_9 (List.mem_of_getElem? (i := 2) rfl)
theorem ml_13_510 : Cond.methodLink RX13 510 yX13_isOver ∈ lw_tbl := tb_9 (List.mem_of_getElem? (i := 6) rfl)
theorem ml_13_570 : Cond.methodLink RX13 570 yX13_goesTo ∈ lw_tbl := tb_9 (List.mem_of_getElem? (i := 10) rfl)
theorem ml_13_516 : Cond.methodLink RX13 516 yX13_hands ∈ lw_tbl := tb_9 (List.mem_of_getElem? (i := 14) rfl)
theorem ml_13_560 : Cond.methodLink RX13 560 yX13_start ∈ lw_tbl := tb_9 (List.mem_of_getElem? (i := 18) rfl)
theorem ml_13_497 : Cond.methodLink RX13 497 yX13_push ∈ lw_tbl := tb_9 (List.mem_of_getElem? (i := 22) rfl)
theorem ml_13_501 : Cond.methodLink RX13 501 yX13_enter ∈ lw_tbl := tb_9 (List.mem_of_getElem? (i := 26) rfl)
theorem ml_13_494 : Cond.methodLink RX13 494 yX13_pop ∈ lw_tbl := tb_9 (List.mem_of_getElem? (i := 30) rfl)
theorem ml_13_623 : Cond.methodLink RX13 623 yX13_goes ∈ lw_tbl := tb_9 (List.mem_of_getElem? (i := 34) rfl)
theorem ml_13_616 : Cond.methodLink RX13 616 yX13_goesOn ∈ lw_tbl := tb_9 (List.mem_of_getElem? (i := 38) rfl)
theorem ml_13_504 : Cond.methodLink RX13 504 yX13_call ∈ lw_tbl := tb_9 (List.mem_of_getElem? (i := 42) rfl)
theorem ml_13_567 : Cond.methodLink RX13 567 yX13_arises ∈ lw_tbl := tb_9 (List.mem_of_getElem? (i := 46) rfl)
theorem ml_13_522 : Cond.methodLink RX13 522 yX13_placeOf ∈ lw_tbl := tb_9 (List.mem_of_getElem? (i := 50) rfl)
theorem ml_13_525 : Cond.methodLink RX13 525 yX13_failure ∈ lw_tbl := tb_9 (List.mem_of_getElem? (i := 54) rfl)
theorem ml_13_529 : Cond.methodLink RX13 529 yX13_raise ∈ lw_tbl := tb_9 (List.mem_of_getElem? (i := 58) rfl)
theorem ml_13_546 : Cond.methodLink RX13 546 yX13_raiseIn ∈ lw_tbl := tb_9 (List.mem_of_getElem? (i := 62) rfl)
theorem ml_13_532 : Cond.methodLink RX13 532 yX13_leaves ∈ lw_tbl := tb_9 (List.mem_of_getElem? (i := 65) rfl)
theorem ml_13_513 : Cond.methodLink RX13 513 yX13_over ∈ lw_tbl := tb_9 (List.mem_of_getElem? (i := 69) rfl)
theorem ml_13_535 : Cond.methodLink RX13 535 yX13_isCaught ∈ lw_tbl := tb_9 (List.mem_of_getElem? (i := 73) rfl)
theorem ml_13_539 : Cond.methodLink RX13 539 yX13_finishes ∈ lw_tbl := tb_9 (List.mem_of_getElem? (i := 77) rfl)
theorem ml_13_543 : Cond.methodLink RX13 543 yX13_beneath ∈ lw_tbl := tb_9 (List.mem_of_getElem? (i := 81) rfl)
theorem ml_13_576 : Cond.methodLink RX13 576 yX13_reckon ∈ lw_tbl := tb_9 (List.mem_of_getElem? (i := 85) rfl)
theorem ml_13_579 : Cond.methodLink RX13 579 yX13_step ∈ lw_tbl := tb_9 (List.mem_of_getElem? (i := 89) rfl)
theorem ml_13_507 : Cond.methodLink RX13 507 yX13_spend ∈ lw_tbl := tb_9 (List.mem_of_getElem? (i := 93) rfl)
theorem ml_13_582 : Cond.methodLink RX13 582 yX13_yields ∈ lw_tbl := tb_9 (List.mem_of_getElem? (i := 97) rfl)
theorem ml_13_550 : Cond.methodLink RX13 550 yX13_comes ∈ lw_tbl := tb_9 (List.mem_of_getElem? (i := 101) rfl)
theorem ml_13_585 : Cond.methodLink RX13 585 yX13_makes ∈ lw_tbl := tb_9 (List.mem_of_getElem? (i := 105) rfl)
theorem ml_13_588 : Cond.methodLink RX13 588 yX13_resumes ∈ lw_tbl := tb_9 (List.mem_of_getElem? (i := 109) rfl)
theorem ml_13_563 : Cond.methodLink RX13 563 yX13_isMisuse ∈ lw_tbl := tb_9 (List.mem_of_getElem? (i := 113) rfl)
theorem ml_13_557 : Cond.methodLink RX13 557 yX13_ringOf ∈ lw_tbl := tb_9 (List.mem_of_getElem? (i := 117) rfl)
theorem ml_13_591 : Cond.methodLink RX13 591 yX13_injects ∈ lw_tbl := tb_9 (List.mem_of_getElem? (i := 121) rfl)
theorem ml_13_573 : Cond.methodLink RX13 573 yX13_thrownInto ∈ lw_tbl := tb_9 (List.mem_of_getElem? (i := 125) rfl)
theorem ml_13_594 : Cond.methodLink RX13 594 yX13_handsOn ∈ lw_tbl := tb_9 (List.mem_of_getElem? (i := 129) rfl)
theorem ml_13_597 : Cond.methodLink RX13 597 yX13_calls ∈ lw_tbl := tb_9 (List.mem_of_getElem? (i := 133) rfl)
theorem ml_13_600 : Cond.methodLink RX13 600 yX13_controls ∈ lw_tbl := tb_9 (List.mem_of_getElem? (i := 137) rfl)
theorem ml_13_607 : Cond.methodLink RX13 607 yX13_tells ∈ lw_tbl := tb_9 (List.mem_of_getElem? (i := 141) rfl)
theorem ml_13_610 : Cond.methodLink RX13 610 yX13_gives ∈ lw_tbl := tb_9 (List.mem_of_getElem? (i := 145) rfl)
theorem ml_13_613 : Cond.methodLink RX13 613 yX13_shuts ∈ lw_tbl := tb_9 (List.mem_of_getElem? (i := 148) rfl)
theorem ml_14_46 : Cond.methodLink RL 46 yX13_inject ∈ lw_tbl := tb_9 (List.mem_of_getElem? (i := 152) rfl)
theorem ml_14_51 : Cond.methodLink RL 51 yX13_close ∈ lw_tbl := tb_9 (List.mem_of_getElem? (i := 156) rfl)
theorem ml_13_626 : Cond.methodLink RX13 626 yX13_closes_ ∈ lw_tbl := tb_9 (List.mem_of_getElem? (i := 160) rfl)
theorem ml_14_55 : Cond.methodLink RL 55 yX13_sweep ∈ lw_tbl := tb_9 (List.mem_of_getElem? (i := 164) rfl)
theorem ml_13_632 : Cond.methodLink RX13 632 yX13_reachFrom ∈ lw_tbl := tb_9 (List.mem_of_getElem? (i := 168) rfl)
theorem ml_13_629 : Cond.methodLink RX13 629 yX13_reach ∈ lw_tbl := tb_9 (List.mem_of_getElem? (i := 172) rfl)
theorem ml_14_59 : Cond.methodLink RL 59 yX13_answer ∈ lw_tbl := tb_9 (List.mem_of_getElem? (i := 176) rfl)
theorem ml_14_63 : Cond.methodLink RL 63 yX13_told ∈ lw_tbl := tb_9 (List.mem_of_getElem? (i := 180) rfl)
theorem ml_13_638 : Cond.methodLink RX13 638 yX13_tellsOf ∈ lw_tbl := tb_9 (List.mem_of_getElem? (i := 184) rfl)
theorem ml_13_635 : Cond.methodLink RX13 635 yX13_callMany ∈ lw_tbl := tb_9 (List.mem_of_getElem? (i := 188) rfl)
theorem ml_14_67 : Cond.methodLink RL 67 yX13_local ∈ lw_tbl := tb_9 (List.mem_of_getElem? (i := 192) rfl)
theorem ml_14_71 : Cond.methodLink RL 71 yX13_lines ∈ lw_tbl := tb_9 (List.mem_of_getElem? (i := 196) rfl)
theorem ml_14_75 : Cond.methodLink RL 75 yX13_line ∈ lw_tbl := tb_9 (List.mem_of_getElem? (i := 200) rfl)
theorem ml_14_79 : Cond.methodLink RL 79 yX13_handings ∈ lw_tbl := tb_9 (List.mem_of_getElem? (i := 204) rfl)
theorem ml_14_83 : Cond.methodLink RL 83 yX13_handing ∈ lw_tbl := tb_9 (List.mem_of_getElem? (i := 208) rfl)
theorem ml_14_87 : Cond.methodLink RL 87 yX13_failures ∈ lw_tbl := tb_9 (List.mem_of_getElem? (i := 212) rfl)
theorem ml_13_649 : Cond.methodLink RX13 649 yX13_tellFailures ∈ lw_tbl := tb_9 (List.mem_of_getElem? (i := 216) rfl)
theorem ml_13_645 : Cond.methodLink RX13 645 yX13_tellFailure ∈ lw_tbl := tb_9 (List.mem_of_getElem? (i := 220) rfl)
theorem ml_14_91 : Cond.methodLink RL 91 yX13_failure_ ∈ lw_tbl := tb_9 (List.mem_of_getElem? (i := 223) rfl)
theorem ml_14_95 : Cond.methodLink RL 95 yX13_ring ∈ lw_tbl := tb_9 (List.mem_of_getElem? (i := 227) rfl)
theorem ml_14_99 : Cond.methodLink RL 99 yX13_count ∈ lw_tbl := tb_9 (List.mem_of_getElem? (i := 231) rfl)
theorem ml_14_104 : Cond.methodLink RL 104 yX13_digest ∈ lw_tbl := tb_9 (List.mem_of_getElem? (i := 235) rfl)
theorem kl_13_652 : Cond.constantLong RX13 652 (17) ∈ lw_tbl := tb_9 (List.mem_of_getElem? (i := 239) rfl)
theorem kl_13_654 : Cond.constantLong RX13 654 (31) ∈ lw_tbl := tb_10 (List.mem_of_getElem? (i := 0) rfl)
theorem kl_14_13 : Cond.constantLong RL 13 (4294967295) ∈ lw_tbl := tb_10 (List.mem_of_getElem? (i := 1) rfl)
theorem fl_17_9 : Cond.fieldLink RJ0 9 "java/lang/String" "value" "[B" ∈ lw_tbl := tb_10 (List.mem_of_getElem? (i := 3) rfl)
theorem fl_17_15 : Cond.fieldLink RJ0 15 "java/lang/String" "coder" "B" ∈ lw_tbl := tb_10 (List.mem_of_getElem? (i := 4) rfl)
theorem fn_13_328 : Cond.fieldLinkNest RX13 328 RX12 "place" "I" RX13 ∈ lw_tbl := tb_6 (List.mem_of_getElem? (i := 220) rfl)
theorem in_compile : Cond.instanceMethod yX13_compile ∈ lw_tbl := tb_8 (List.mem_of_getElem? (i := 105) rfl)
theorem se_compile : Cond.selects RX13 yX13_compile yX13_compile ∈ lw_tbl := tb_8 (List.mem_of_getElem? (i := 106) rfl)
theorem cw_compile : Cond.codeWith yX13_compile cX13_compile 4 (some .int) [(95, 120, 123, 7)] ∈ lw_tbl := tb_8 (List.mem_of_getElem? (i := 107) rfl)
theorem ii_0 : Cond.initialized RX0 ∈ lw_tbl := tb_1 (List.mem_of_getElem? (i := 24) rfl)
theorem it_0 : Cond.instantiable RX0 9 ∈ lw_tbl := tb_3 (List.mem_of_getElem? (i := 49) rfl)
theorem ii_1 : Cond.initialized RX1 ∈ lw_tbl := tb_1 (List.mem_of_getElem? (i := 4) rfl)
theorem it_1 : Cond.instantiable RX1 3 ∈ lw_tbl := tb_1 (List.mem_of_getElem? (i := 55) rfl)
theorem ii_2 : Cond.initialized RX2 ∈ lw_tbl := tb_1 (List.mem_of_getElem? (i := 14) rfl)
theorem it_2 : Cond.instantiable RX2 8 ∈ lw_tbl := tb_2 (List.mem_of_getElem? (i := 0) rfl)
theorem ii_3 : Cond.initialized RX3 ∈ lw_tbl := tb_1 (List.mem_of_getElem? (i := 11) rfl)
theorem it_3 : Cond.instantiable RX3 3 ∈ lw_tbl := tb_1 (List.mem_of_getElem? (i := 202) rfl)
theorem ii_4 : Cond.initialized RX4 ∈ lw_tbl := tb_1 (List.mem_of_getElem? (i := 13) rfl)
theorem it_4 : Cond.instantiable RX4 3 ∈ lw_tbl := tb_1 (List.mem_of_getElem? (i := 224) rfl)
theorem ii_5 : Cond.initialized RX5 ∈ lw_tbl := tb_1 (List.mem_of_getElem? (i := 10) rfl)
theorem it_5 : Cond.instantiable RX5 6 ∈ lw_tbl := tb_1 (List.mem_of_getElem? (i := 177) rfl)
theorem ii_6 : Cond.initialized RX6 ∈ lw_tbl := tb_1 (List.mem_of_getElem? (i := 12) rfl)
theorem it_6 : Cond.instantiable RX6 18 ∈ lw_tbl := tb_1 (List.mem_of_getElem? (i := 218) rfl)
theorem ii_7 : Cond.initialized RX7 ∈ lw_tbl := tb_1 (List.mem_of_getElem? (i := 3) rfl)
theorem it_7 : Cond.instantiable RX7 4 ∈ lw_tbl := tb_1 (List.mem_of_getElem? (i := 49) rfl)
theorem ii_8 : Cond.initialized RX8 ∈ lw_tbl := tb_1 (List.mem_of_getElem? (i := 2) rfl)
theorem it_8 : Cond.instantiable RX8 2 ∈ lw_tbl := tb_1 (List.mem_of_getElem? (i := 35) rfl)
theorem ii_9 : Cond.initialized RX9 ∈ lw_tbl := tb_1 (List.mem_of_getElem? (i := 5) rfl)
theorem it_9 : Cond.instantiable RX9 9 ∈ lw_tbl := tb_1 (List.mem_of_getElem? (i := 90) rfl)
theorem ii_10 : Cond.initialized RX10 ∈ lw_tbl := tb_1 (List.mem_of_getElem? (i := 25) rfl)
theorem it_10 : Cond.instantiable RX10 16 ∈ lw_tbl := tb_4 (List.mem_of_getElem? (i := 156) rfl)
theorem ii_11 : Cond.initialized RX11 ∈ lw_tbl := tb_1 (List.mem_of_getElem? (i := 1) rfl)
theorem it_11 : Cond.instantiable RX11 6 ∈ lw_tbl := tb_1 (List.mem_of_getElem? (i := 27) rfl)
theorem ii_12 : Cond.initialized RX12 ∈ lw_tbl := tb_1 (List.mem_of_getElem? (i := 19) rfl)
theorem it_12 : Cond.instantiable RX12 7 ∈ lw_tbl := tb_6 (List.mem_of_getElem? (i := 170) rfl)
theorem ii_13 : Cond.initialized RX13 ∈ lw_tbl := tb_1 (List.mem_of_getElem? (i := 15) rfl)
theorem it_13 : Cond.instantiable RX13 103 ∈ lw_tbl := tb_6 (List.mem_of_getElem? (i := 164) rfl)
theorem ii_17 : Cond.initialized RJ0 ∈ lw_tbl := tb_1 (List.mem_of_getElem? (i := 6) rfl)
theorem ii_18 : Cond.initialized RJ1 ∈ lw_tbl := tb_1 (List.mem_of_getElem? (i := 7) rfl)
theorem ii_19 : Cond.initialized RJ3 ∈ lw_tbl := tb_1 (List.mem_of_getElem? (i := 8) rfl)
theorem ii_20 : Cond.initialized RE0 ∈ lw_tbl := tb_1 (List.mem_of_getElem? (i := 18) rfl)
theorem ii_21 : Cond.initialized RE1 ∈ lw_tbl := tb_1 (List.mem_of_getElem? (i := 17) rfl)
theorem ii_22 : Cond.initialized RE2 ∈ lw_tbl := tb_1 (List.mem_of_getElem? (i := 16) rfl)
theorem ii_16 : Cond.initialized RJ7 ∈ lw_tbl := tb_1 (List.mem_of_getElem? (i := 20) rfl)
theorem ii_14 : Cond.initialized RL ∈ lw_tbl := tb_1 (List.mem_of_getElem? (i := 0) rfl)
theorem ac_20 : Cond.arrayClass (kel 20) ∈ lw_tbl := tb_1 (List.mem_of_getElem? (i := 47) rfl)
theorem ac_21 : Cond.arrayClass (kel 21) ∈ lw_tbl := tb_1 (List.mem_of_getElem? (i := 70) rfl)
theorem ac_22 : Cond.arrayClass (kel 22) ∈ lw_tbl := tb_1 (List.mem_of_getElem? (i := 175) rfl)
theorem ac_23 : Cond.arrayClass (kel 23) ∈ lw_tbl := tb_8 (List.mem_of_getElem? (i := 92) rfl)
theorem mx_s : Cond.static Lib.Math.max.name ∈ lw_tbl := tb_2 (List.mem_of_getElem? (i := 236) rfl)
theorem mx_c : Cond.code Lib.Math.max.name Lib.Math.max.code 2 (some .int) ∈ lw_tbl := tb_2 (List.mem_of_getElem? (i := 237) rfl)
theorem mn_s : Cond.static Lib.Math.min.name ∈ lw_tbl := tb_2 (List.mem_of_getElem? (i := 194) rfl)
theorem mn_c : Cond.code Lib.Math.min.name Lib.Math.min.code 2 (some .int) ∈ lw_tbl := tb_2 (List.mem_of_getElem? (i := 195) rfl)
theorem mx_i : Cond.initialized "java/lang/Math" ∈ lw_tbl := tb_1 (List.mem_of_getElem? (i := 21) rfl)
theorem sy_i : Cond.initialized "java/lang/System" ∈ lw_tbl := tb_1 (List.mem_of_getElem? (i := 22) rfl)
theorem sy_s : Cond.static arraycopyName ∈ lw_tbl := tb_2 (List.mem_of_getElem? (i := 197) rfl)
theorem sy_n : Cond.native arraycopyName ∈ lw_tbl := tb_2 (List.mem_of_getElem? (i := 198) rfl)
theorem ao_24 : Cond.arrayOver (.object "StoryRound$Body") ∈ lw_tbl := tb_1 (List.mem_of_getElem? (i := 72) rfl)
theorem ao_25 : Cond.arrayOver (.object "StoryRound$Voice") ∈ lw_tbl := tb_2 (List.mem_of_getElem? (i := 31) rfl)
theorem ao_26 : Cond.arrayOver (.array .int) ∈ lw_tbl := tb_2 (List.mem_of_getElem? (i := 33) rfl)
theorem ao_27 : Cond.arrayOver (.object "java/lang/String") ∈ lw_tbl := tb_6 (List.mem_of_getElem? (i := 237) rfl)
theorem oi_i : Cond.instanceMethod Lib.objectInit ∈ lw_tbl := tb_1 (List.mem_of_getElem? (i := 32) rfl)
theorem oi_c : Cond.code Lib.objectInit ⟨#[0xb1]⟩ 1 none ∈ lw_tbl := tb_1 (List.mem_of_getElem? (i := 33) rfl)
theorem lw_pw (k : Nat) {y : MethodName} {c : String} (hc : y.cls = c) (h : (lw_privs[k]?).map (fun q => q.1) = some y) : Cond.selects c y y ∈ lw_tbl := by
  subst hc
  cases h2 : lw_privs[k]? with
  | none => rw [h2] at h; cases h
  | some q =>
    rw [h2] at h
    have e : q.1 = y := Option.some.inj h
    subst e
    exact List.mem_append_left _ (List.mem_map.mpr ⟨q, List.mem_of_getElem? h2, rfl⟩)
theorem mo_X0_init : MO MX0_init 0 := ⟨tb_3 (List.mem_of_getElem? (i := 52) rfl), ii_0, by decide +kernel, by decide +kernel, by decide⟩
theorem mv_X0_init : MN MX0_init 0 := ⟨mo_X0_init, tb_3 (List.mem_of_getElem? (i := 51) rfl), rfl⟩
theorem mo_X0_begin : MO MX0_begin 4 := ⟨tb_3 (List.mem_of_getElem? (i := 127) rfl), ii_0, by decide +kernel, by decide +kernel, by decide⟩
theorem mv_X0_begin : MV MX0_begin 4 := ⟨mo_X0_begin, tb_3 (List.mem_of_getElem? (i := 125) rfl), tb_3 (List.mem_of_getElem? (i := 126) rfl)⟩
theorem mo_X0_find : MO MX0_find 1 := ⟨tb_3 (List.mem_of_getElem? (i := 139) rfl), ii_0, by decide +kernel, by decide +kernel, by decide⟩
theorem mv_X0_find : MV MX0_find 1 := ⟨mo_X0_find, tb_3 (List.mem_of_getElem? (i := 137) rfl), tb_3 (List.mem_of_getElem? (i := 138) rfl)⟩
theorem mo_X0_declare : MO MX0_declare 2 := ⟨tb_3 (List.mem_of_getElem? (i := 143) rfl), ii_0, by decide +kernel, by decide +kernel, by decide⟩
theorem mv_X0_declare : MV MX0_declare 2 := ⟨mo_X0_declare, tb_3 (List.mem_of_getElem? (i := 141) rfl), tb_3 (List.mem_of_getElem? (i := 142) rfl)⟩
theorem mo_X0_fact : MO MX0_fact 1 := ⟨tb_4 (List.mem_of_getElem? (i := 134) rfl), ii_0, by decide +kernel, by decide +kernel, by decide⟩
theorem mv_X0_fact : MV MX0_fact 1 := ⟨mo_X0_fact, tb_4 (List.mem_of_getElem? (i := 132) rfl), tb_4 (List.mem_of_getElem? (i := 133) rfl)⟩
theorem mo_X1_init : MO MX1_init 0 := ⟨tb_1 (List.mem_of_getElem? (i := 58) rfl), ii_1, by decide +kernel, by decide +kernel, by decide⟩
theorem mv_X1_init : MN MX1_init 0 := ⟨mo_X1_init, tb_1 (List.mem_of_getElem? (i := 57) rfl), rfl⟩
theorem mo_X1_clear : MO MX1_clear 0 := ⟨tb_2 (List.mem_of_getElem? (i := 158) rfl), ii_1, by decide +kernel, by decide +kernel, by decide⟩
theorem mv_X1_clear : MV MX1_clear 0 := ⟨mo_X1_clear, tb_2 (List.mem_of_getElem? (i := 156) rfl), tb_2 (List.mem_of_getElem? (i := 157) rfl)⟩
theorem mo_X1_size : MO MX1_size 0 := ⟨tb_3 (List.mem_of_getElem? (i := 123) rfl), ii_1, by decide +kernel, by decide +kernel, by decide⟩
theorem mv_X1_size : MV MX1_size 0 := ⟨mo_X1_size, tb_3 (List.mem_of_getElem? (i := 121) rfl), tb_3 (List.mem_of_getElem? (i := 122) rfl)⟩
theorem mo_X1_add : MO MX1_add 2 := ⟨tb_3 (List.mem_of_getElem? (i := 160) rfl), ii_1, by decide +kernel, by decide +kernel, by decide⟩
theorem mv_X1_add : MV MX1_add 2 := ⟨mo_X1_add, tb_3 (List.mem_of_getElem? (i := 158) rfl), tb_3 (List.mem_of_getElem? (i := 159) rfl)⟩
theorem mo_X1_act : MO MX1_act 1 := ⟨tb_4 (List.mem_of_getElem? (i := 69) rfl), ii_1, by decide +kernel, by decide +kernel, by decide⟩
theorem mv_X1_act : MV MX1_act 1 := ⟨mo_X1_act, tb_4 (List.mem_of_getElem? (i := 67) rfl), tb_4 (List.mem_of_getElem? (i := 68) rfl)⟩
theorem mo_X1_argument : MO MX1_argument 1 := ⟨tb_4 (List.mem_of_getElem? (i := 28) rfl), ii_1, by decide +kernel, by decide +kernel, by decide⟩
theorem mv_X1_argument : MV MX1_argument 1 := ⟨mo_X1_argument, tb_4 (List.mem_of_getElem? (i := 26) rfl), tb_4 (List.mem_of_getElem? (i := 27) rfl)⟩
theorem mo_X1_patch : MO MX1_patch 2 := ⟨tb_4 (List.mem_of_getElem? (i := 4) rfl), ii_1, by decide +kernel, by decide +kernel, by decide⟩
theorem mv_X1_patch : MV MX1_patch 2 := ⟨mo_X1_patch, tb_4 (List.mem_of_getElem? (i := 2) rfl), tb_4 (List.mem_of_getElem? (i := 3) rfl)⟩
theorem mo_X2_init : MO MX2_init 0 := ⟨tb_2 (List.mem_of_getElem? (i := 3) rfl), ii_2, by decide +kernel, by decide +kernel, by decide⟩
theorem mv_X2_init : MN MX2_init 0 := ⟨mo_X2_init, tb_2 (List.mem_of_getElem? (i := 2) rfl), rfl⟩
theorem mo_X2_clear : MO MX2_clear 0 := ⟨tb_2 (List.mem_of_getElem? (i := 37) rfl), ii_2, by decide +kernel, by decide +kernel, by decide⟩
theorem mv_X2_clear : MV MX2_clear 0 := ⟨mo_X2_clear, tb_2 (List.mem_of_getElem? (i := 35) rfl), tb_2 (List.mem_of_getElem? (i := 36) rfl)⟩
theorem mo_X2_comeOut : MO MX2_comeOut 1 := ⟨tb_2 (List.mem_of_getElem? (i := 41) rfl), ii_2, by decide +kernel, by decide +kernel, by decide⟩
theorem mv_X2_comeOut : MV MX2_comeOut 1 := ⟨mo_X2_comeOut, tb_2 (List.mem_of_getElem? (i := 39) rfl), tb_2 (List.mem_of_getElem? (i := 40) rfl)⟩
theorem mo_X2_make : MO MX2_make 5 := ⟨tb_5 (List.mem_of_getElem? (i := 151) rfl), ii_2, by decide +kernel, by decide +kernel, by decide⟩
theorem mv_X2_make : MV MX2_make 5 := ⟨mo_X2_make, tb_5 (List.mem_of_getElem? (i := 149) rfl), tb_5 (List.mem_of_getElem? (i := 150) rfl)⟩
theorem mo_X2_putBeneath : MO MX2_putBeneath 2 := ⟨tb_5 (List.mem_of_getElem? (i := 98) rfl), ii_2, by decide +kernel, by decide +kernel, by decide⟩
theorem mv_X2_putBeneath : MV MX2_putBeneath 2 := ⟨mo_X2_putBeneath, tb_5 (List.mem_of_getElem? (i := 96) rfl), tb_5 (List.mem_of_getElem? (i := 97) rfl)⟩
theorem mo_X2_number : MO MX2_number 1 := ⟨tb_5 (List.mem_of_getElem? (i := 63) rfl), ii_2, by decide +kernel, by decide +kernel, by decide⟩
theorem mv_X2_number : MV MX2_number 1 := ⟨mo_X2_number, tb_5 (List.mem_of_getElem? (i := 61) rfl), tb_5 (List.mem_of_getElem? (i := 62) rfl)⟩
theorem mo_X2_value : MO MX2_value 1 := ⟨tb_5 (List.mem_of_getElem? (i := 122) rfl), ii_2, by decide +kernel, by decide +kernel, by decide⟩
theorem mv_X2_value : MV MX2_value 1 := ⟨mo_X2_value, tb_5 (List.mem_of_getElem? (i := 120) rfl), tb_5 (List.mem_of_getElem? (i := 121) rfl)⟩
theorem mo_X2_listed : MO MX2_listed 0 := ⟨tb_6 (List.mem_of_getElem? (i := 109) rfl), ii_2, by decide +kernel, by decide +kernel, by decide⟩
theorem mv_X2_listed : MV MX2_listed 0 := ⟨mo_X2_listed, tb_6 (List.mem_of_getElem? (i := 107) rfl), tb_6 (List.mem_of_getElem? (i := 108) rfl)⟩
theorem mo_X2_visit : MO MX2_visit 3 := ⟨tb_6 (List.mem_of_getElem? (i := 113) rfl), ii_2, by decide +kernel, by decide +kernel, by decide⟩
theorem mv_X2_visit : MV MX2_visit 3 := ⟨mo_X2_visit, tb_6 (List.mem_of_getElem? (i := 112) rfl), lw_pw 77 rfl rfl⟩
theorem mo_X2_fact : MO MX2_fact 2 := ⟨tb_6 (List.mem_of_getElem? (i := 121) rfl), ii_2, by decide +kernel, by decide +kernel, by decide⟩
theorem mv_X2_fact : MV MX2_fact 2 := ⟨mo_X2_fact, tb_6 (List.mem_of_getElem? (i := 119) rfl), tb_6 (List.mem_of_getElem? (i := 120) rfl)⟩
theorem mo_X2_get : MO MX2_get 2 := ⟨tb_5 (List.mem_of_getElem? (i := 67) rfl), ii_2, by decide +kernel, by decide +kernel, by decide⟩
theorem mv_X2_get : MV MX2_get 2 := ⟨mo_X2_get, tb_5 (List.mem_of_getElem? (i := 66) rfl), lw_pw 53 rfl rfl⟩
theorem mo_X2_put : MO MX2_put 3 := ⟨tb_5 (List.mem_of_getElem? (i := 102) rfl), ii_2, by decide +kernel, by decide +kernel, by decide⟩
theorem mv_X2_put : MV MX2_put 3 := ⟨mo_X2_put, tb_5 (List.mem_of_getElem? (i := 101) rfl), lw_pw 56 rfl rfl⟩
theorem mo_X3_init : MO MX3_init 2 := ⟨tb_1 (List.mem_of_getElem? (i := 205) rfl), ii_3, by decide +kernel, by decide +kernel, by decide⟩
theorem mv_X3_init : MN MX3_init 2 := ⟨mo_X3_init, tb_1 (List.mem_of_getElem? (i := 204) rfl), rfl⟩
theorem mo_X3_link : MO MX3_link 0 := ⟨tb_4 (List.mem_of_getElem? (i := 52) rfl), ii_3, by decide +kernel, by decide +kernel, by decide⟩
theorem mv_X3_link : MV MX3_link 0 := ⟨mo_X3_link, tb_4 (List.mem_of_getElem? (i := 50) rfl), tb_4 (List.mem_of_getElem? (i := 51) rfl)⟩
theorem mo_X3_linkActs : MO MX3_linkActs 1 := ⟨tb_4 (List.mem_of_getElem? (i := 64) rfl), ii_3, by decide +kernel, by decide +kernel, by decide⟩
theorem mv_X3_linkActs : MV MX3_linkActs 1 := ⟨mo_X3_linkActs, tb_4 (List.mem_of_getElem? (i := 63) rfl), lw_pw 39 rfl rfl⟩
theorem mo_X3_linkVariable : MO MX3_linkVariable 2 := ⟨tb_4 (List.mem_of_getElem? (i := 73) rfl), ii_3, by decide +kernel, by decide +kernel, by decide⟩
theorem mv_X3_linkVariable : MV MX3_linkVariable 2 := ⟨mo_X3_linkVariable, tb_4 (List.mem_of_getElem? (i := 72) rfl), lw_pw 40 rfl rfl⟩
theorem mo_X3_isStored : MO MX3_isStored 2 := ⟨tb_4 (List.mem_of_getElem? (i := 81) rfl), ii_3, by decide +kernel, by decide +kernel, by decide⟩
theorem mv_X3_isStored : MV MX3_isStored 2 := ⟨mo_X3_isStored, tb_4 (List.mem_of_getElem? (i := 80) rfl), lw_pw 41 rfl rfl⟩
theorem mo_X3_linkBody : MO MX3_linkBody 2 := ⟨tb_4 (List.mem_of_getElem? (i := 89) rfl), ii_3, by decide +kernel, by decide +kernel, by decide⟩
theorem mv_X3_linkBody : MV MX3_linkBody 2 := ⟨mo_X3_linkBody, tb_4 (List.mem_of_getElem? (i := 88) rfl), lw_pw 42 rfl rfl⟩
theorem mo_X4_init : MO MX4_init 0 := ⟨tb_1 (List.mem_of_getElem? (i := 227) rfl), ii_4, by decide +kernel, by decide +kernel, by decide⟩
theorem mv_X4_init : MN MX4_init 0 := ⟨mo_X4_init, tb_1 (List.mem_of_getElem? (i := 226) rfl), rfl⟩
theorem mo_X4_clear : MO MX4_clear 0 := ⟨tb_4 (List.mem_of_getElem? (i := 124) rfl), ii_4, by decide +kernel, by decide +kernel, by decide⟩
theorem mv_X4_clear : MV MX4_clear 0 := ⟨mo_X4_clear, tb_4 (List.mem_of_getElem? (i := 122) rfl), tb_4 (List.mem_of_getElem? (i := 123) rfl)⟩
theorem mo_X4_add : MO MX4_add 2 := ⟨tb_5 (List.mem_of_getElem? (i := 6) rfl), ii_4, by decide +kernel, by decide +kernel, by decide⟩
theorem mv_X4_add : MV MX4_add 2 := ⟨mo_X4_add, tb_5 (List.mem_of_getElem? (i := 4) rfl), tb_5 (List.mem_of_getElem? (i := 5) rfl)⟩
theorem mo_X4_total : MO MX4_total 0 := ⟨tb_6 (List.mem_of_getElem? (i := 78) rfl), ii_4, by decide +kernel, by decide +kernel, by decide⟩
theorem mv_X4_total : MV MX4_total 0 := ⟨mo_X4_total, tb_6 (List.mem_of_getElem? (i := 76) rfl), tb_6 (List.mem_of_getElem? (i := 77) rfl)⟩
theorem mo_X4_kept : MO MX4_kept 0 := ⟨tb_6 (List.mem_of_getElem? (i := 89) rfl), ii_4, by decide +kernel, by decide +kernel, by decide⟩
theorem mv_X4_kept : MV MX4_kept 0 := ⟨mo_X4_kept, tb_6 (List.mem_of_getElem? (i := 87) rfl), tb_6 (List.mem_of_getElem? (i := 88) rfl)⟩
theorem mo_X4_get : MO MX4_get 2 := ⟨tb_6 (List.mem_of_getElem? (i := 93) rfl), ii_4, by decide +kernel, by decide +kernel, by decide⟩
theorem mv_X4_get : MV MX4_get 2 := ⟨mo_X4_get, tb_6 (List.mem_of_getElem? (i := 91) rfl), tb_6 (List.mem_of_getElem? (i := 92) rfl)⟩
theorem mo_X4_mixInto : MO MX4_mixInto 1 := ⟨tb_6 (List.mem_of_getElem? (i := 160) rfl), ii_4, by decide +kernel, by decide +kernel, by decide⟩
theorem mv_X4_mixInto : MV MX4_mixInto 1 := ⟨mo_X4_mixInto, tb_6 (List.mem_of_getElem? (i := 158) rfl), tb_6 (List.mem_of_getElem? (i := 159) rfl)⟩
theorem mo_X5_init : MO MX5_init 2 := ⟨tb_1 (List.mem_of_getElem? (i := 180) rfl), ii_5, by decide +kernel, by decide +kernel, by decide⟩
theorem mv_X5_init : MN MX5_init 2 := ⟨mo_X5_init, tb_1 (List.mem_of_getElem? (i := 179) rfl), rfl⟩
theorem mo_X5_read : MO MX5_read 0 := ⟨tb_2 (List.mem_of_getElem? (i := 150) rfl), ii_5, by decide +kernel, by decide +kernel, by decide⟩
theorem mv_X5_read : MV MX5_read 0 := ⟨mo_X5_read, tb_2 (List.mem_of_getElem? (i := 148) rfl), tb_2 (List.mem_of_getElem? (i := 149) rfl)⟩
theorem mo_X5_refuse : MO MX5_refuse 1 := ⟨tb_3 (List.mem_of_getElem? (i := 98) rfl), ii_5, by decide +kernel, by decide +kernel, by decide⟩
theorem mv_X5_refuse : MV MX5_refuse 1 := ⟨mo_X5_refuse, tb_3 (List.mem_of_getElem? (i := 97) rfl), lw_pw 6 rfl rfl⟩
theorem mo_X5_take : MO MX5_take 1 := ⟨tb_3 (List.mem_of_getElem? (i := 209) rfl), ii_5, by decide +kernel, by decide +kernel, by decide⟩
theorem mv_X5_take : MV MX5_take 1 := ⟨mo_X5_take, tb_3 (List.mem_of_getElem? (i := 208) rfl), lw_pw 22 rfl rfl⟩
theorem mo_X5_takeOpening : MO MX5_takeOpening 1 := ⟨tb_3 (List.mem_of_getElem? (i := 131) rfl), ii_5, by decide +kernel, by decide +kernel, by decide⟩
theorem mv_X5_takeOpening : MV MX5_takeOpening 1 := ⟨mo_X5_takeOpening, tb_3 (List.mem_of_getElem? (i := 130) rfl), lw_pw 8 rfl rfl⟩
theorem mo_X5_takeClosing : MO MX5_takeClosing 1 := ⟨tb_3 (List.mem_of_getElem? (i := 148) rfl), ii_5, by decide +kernel, by decide +kernel, by decide⟩
theorem mv_X5_takeClosing : MV MX5_takeClosing 1 := ⟨mo_X5_takeClosing, tb_3 (List.mem_of_getElem? (i := 147) rfl), lw_pw 10 rfl rfl⟩
theorem mo_X5_isName : MO MX5_isName 0 := ⟨tb_3 (List.mem_of_getElem? (i := 103) rfl), ii_5, by decide +kernel, by decide +kernel, by decide⟩
theorem mv_X5_isName : MV MX5_isName 0 := ⟨mo_X5_isName, tb_3 (List.mem_of_getElem? (i := 102) rfl), lw_pw 7 rfl rfl⟩
theorem mo_X5_isNumber : MO MX5_isNumber 0 := ⟨tb_3 (List.mem_of_getElem? (i := 217) rfl), ii_5, by decide +kernel, by decide +kernel, by decide⟩
theorem mv_X5_isNumber : MV MX5_isNumber 0 := ⟨mo_X5_isNumber, tb_3 (List.mem_of_getElem? (i := 216) rfl), lw_pw 24 rfl rfl⟩
theorem mo_X5_numberHere : MO MX5_numberHere 0 := ⟨tb_3 (List.mem_of_getElem? (i := 221) rfl), ii_5, by decide +kernel, by decide +kernel, by decide⟩
theorem mv_X5_numberHere : MV MX5_numberHere 0 := ⟨mo_X5_numberHere, tb_3 (List.mem_of_getElem? (i := 220) rfl), lw_pw 25 rfl rfl⟩
theorem mo_X5_readHead : MO MX5_readHead 0 := ⟨tb_3 (List.mem_of_getElem? (i := 44) rfl), ii_5, by decide +kernel, by decide +kernel, by decide⟩
theorem mv_X5_readHead : MV MX5_readHead 0 := ⟨mo_X5_readHead, tb_3 (List.mem_of_getElem? (i := 43) rfl), lw_pw 5 rfl rfl⟩
theorem mo_X5_readArguments : MO MX5_readArguments 1 := ⟨tb_3 (List.mem_of_getElem? (i := 135) rfl), ii_5, by decide +kernel, by decide +kernel, by decide⟩
theorem mv_X5_readArguments : MV MX5_readArguments 1 := ⟨mo_X5_readArguments, tb_3 (List.mem_of_getElem? (i := 134) rfl), lw_pw 9 rfl rfl⟩
theorem mo_X5_readBlock : MO MX5_readBlock 0 := ⟨tb_3 (List.mem_of_getElem? (i := 152) rfl), ii_5, by decide +kernel, by decide +kernel, by decide⟩
theorem mv_X5_readBlock : MV MX5_readBlock 0 := ⟨mo_X5_readBlock, tb_3 (List.mem_of_getElem? (i := 151) rfl), lw_pw 11 rfl rfl⟩
theorem mo_X5_readStatement : MO MX5_readStatement 0 := ⟨tb_3 (List.mem_of_getElem? (i := 156) rfl), ii_5, by decide +kernel, by decide +kernel, by decide⟩
theorem mv_X5_readStatement : MV MX5_readStatement 0 := ⟨mo_X5_readStatement, tb_3 (List.mem_of_getElem? (i := 155) rfl), lw_pw 12 rfl rfl⟩
theorem mo_X5_readSimple : MO MX5_readSimple 0 := ⟨tb_4 (List.mem_of_getElem? (i := 44) rfl), ii_5, by decide +kernel, by decide +kernel, by decide⟩
theorem mv_X5_readSimple : MV MX5_readSimple 0 := ⟨mo_X5_readSimple, tb_4 (List.mem_of_getElem? (i := 43) rfl), lw_pw 38 rfl rfl⟩
theorem mo_X5_readReturn : MO MX5_readReturn 0 := ⟨tb_4 (List.mem_of_getElem? (i := 36) rfl), ii_5, by decide +kernel, by decide +kernel, by decide⟩
theorem mv_X5_readReturn : MV MX5_readReturn 0 := ⟨mo_X5_readReturn, tb_4 (List.mem_of_getElem? (i := 35) rfl), lw_pw 36 rfl rfl⟩
theorem mo_X5_readThrow : MO MX5_readThrow 0 := ⟨tb_4 (List.mem_of_getElem? (i := 40) rfl), ii_5, by decide +kernel, by decide +kernel, by decide⟩
theorem mv_X5_readThrow : MV MX5_readThrow 0 := ⟨mo_X5_readThrow, tb_4 (List.mem_of_getElem? (i := 39) rfl), lw_pw 37 rfl rfl⟩
theorem mo_X5_declareHere : MO MX5_declareHere 0 := ⟨tb_4 (List.mem_of_getElem? (i := 16) rfl), ii_5, by decide +kernel, by decide +kernel, by decide⟩
theorem mv_X5_declareHere : MV MX5_declareHere 0 := ⟨mo_X5_declareHere, tb_4 (List.mem_of_getElem? (i := 15) rfl), lw_pw 32 rfl rfl⟩
theorem mo_X5_readCondition : MO MX5_readCondition 0 := ⟨tb_3 (List.mem_of_getElem? (i := 177) rfl), ii_5, by decide +kernel, by decide +kernel, by decide⟩
theorem mv_X5_readCondition : MV MX5_readCondition 0 := ⟨mo_X5_readCondition, tb_3 (List.mem_of_getElem? (i := 176) rfl), lw_pw 14 rfl rfl⟩
theorem mo_X5_readIf : MO MX5_readIf 0 := ⟨tb_3 (List.mem_of_getElem? (i := 173) rfl), ii_5, by decide +kernel, by decide +kernel, by decide⟩
theorem mv_X5_readIf : MV MX5_readIf 0 := ⟨mo_X5_readIf, tb_3 (List.mem_of_getElem? (i := 172) rfl), lw_pw 13 rfl rfl⟩
theorem mo_X5_readWhile : MO MX5_readWhile 1 := ⟨tb_4 (List.mem_of_getElem? (i := 8) rfl), ii_5, by decide +kernel, by decide +kernel, by decide⟩
theorem mv_X5_readWhile : MV MX5_readWhile 1 := ⟨mo_X5_readWhile, tb_4 (List.mem_of_getElem? (i := 7) rfl), lw_pw 30 rfl rfl⟩
theorem mo_X5_readEach : MO MX5_readEach 1 := ⟨tb_4 (List.mem_of_getElem? (i := 12) rfl), ii_5, by decide +kernel, by decide +kernel, by decide⟩
theorem mv_X5_readEach : MV MX5_readEach 1 := ⟨mo_X5_readEach, tb_4 (List.mem_of_getElem? (i := 11) rfl), lw_pw 31 rfl rfl⟩
theorem mo_X5_readTry : MO MX5_readTry 0 := ⟨tb_4 (List.mem_of_getElem? (i := 20) rfl), ii_5, by decide +kernel, by decide +kernel, by decide⟩
theorem mv_X5_readTry : MV MX5_readTry 0 := ⟨mo_X5_readTry, tb_4 (List.mem_of_getElem? (i := 19) rfl), lw_pw 33 rfl rfl⟩
theorem mo_X5_readCatchHead : MO MX5_readCatchHead 0 := ⟨tb_4 (List.mem_of_getElem? (i := 24) rfl), ii_5, by decide +kernel, by decide +kernel, by decide⟩
theorem mv_X5_readCatchHead : MV MX5_readCatchHead 0 := ⟨mo_X5_readCatchHead, tb_4 (List.mem_of_getElem? (i := 23) rfl), lw_pw 34 rfl rfl⟩
theorem mo_X5_readFinally : MO MX5_readFinally 0 := ⟨tb_4 (List.mem_of_getElem? (i := 32) rfl), ii_5, by decide +kernel, by decide +kernel, by decide⟩
theorem mv_X5_readFinally : MV MX5_readFinally 0 := ⟨mo_X5_readFinally, tb_4 (List.mem_of_getElem? (i := 31) rfl), lw_pw 35 rfl rfl⟩
theorem mo_X5_readComparison : MO MX5_readComparison 0 := ⟨tb_3 (List.mem_of_getElem? (i := 181) rfl), ii_5, by decide +kernel, by decide +kernel, by decide⟩
theorem mv_X5_readComparison : MV MX5_readComparison 0 := ⟨mo_X5_readComparison, tb_3 (List.mem_of_getElem? (i := 180) rfl), lw_pw 15 rfl rfl⟩
theorem mo_X5_readSum : MO MX5_readSum 0 := ⟨tb_3 (List.mem_of_getElem? (i := 185) rfl), ii_5, by decide +kernel, by decide +kernel, by decide⟩
theorem mv_X5_readSum : MV MX5_readSum 0 := ⟨mo_X5_readSum, tb_3 (List.mem_of_getElem? (i := 184) rfl), lw_pw 16 rfl rfl⟩
theorem mo_X5_readProduct : MO MX5_readProduct 0 := ⟨tb_3 (List.mem_of_getElem? (i := 189) rfl), ii_5, by decide +kernel, by decide +kernel, by decide⟩
theorem mv_X5_readProduct : MV MX5_readProduct 0 := ⟨mo_X5_readProduct, tb_3 (List.mem_of_getElem? (i := 188) rfl), lw_pw 17 rfl rfl⟩
theorem mo_X5_isProductSign : MO MX5_isProductSign 1 := ⟨tb_4 (List.mem_of_getElem? (i := 0) rfl), ii_5, by decide +kernel, by decide +kernel, by decide⟩
theorem mv_X5_isProductSign : MS MX5_isProductSign 1 := ⟨mo_X5_isProductSign, tb_3 (List.mem_of_getElem? (i := 239) rfl)⟩
theorem mo_X5_readUnary : MO MX5_readUnary 0 := ⟨tb_3 (List.mem_of_getElem? (i := 193) rfl), ii_5, by decide +kernel, by decide +kernel, by decide⟩
theorem mv_X5_readUnary : MV MX5_readUnary 0 := ⟨mo_X5_readUnary, tb_3 (List.mem_of_getElem? (i := 192) rfl), lw_pw 18 rfl rfl⟩
theorem mo_X5_readPrefix : MO MX5_readPrefix 1 := ⟨tb_3 (List.mem_of_getElem? (i := 197) rfl), ii_5, by decide +kernel, by decide +kernel, by decide⟩
theorem mv_X5_readPrefix : MV MX5_readPrefix 1 := ⟨mo_X5_readPrefix, tb_3 (List.mem_of_getElem? (i := 196) rfl), lw_pw 19 rfl rfl⟩
theorem mo_X5_readWith : MO MX5_readWith 1 := ⟨tb_3 (List.mem_of_getElem? (i := 201) rfl), ii_5, by decide +kernel, by decide +kernel, by decide⟩
theorem mv_X5_readWith : MV MX5_readWith 1 := ⟨mo_X5_readWith, tb_3 (List.mem_of_getElem? (i := 200) rfl), lw_pw 20 rfl rfl⟩
theorem mo_X5_readPairWith : MO MX5_readPairWith 2 := ⟨tb_3 (List.mem_of_getElem? (i := 205) rfl), ii_5, by decide +kernel, by decide +kernel, by decide⟩
theorem mv_X5_readPairWith : MV MX5_readPairWith 2 := ⟨mo_X5_readPairWith, tb_3 (List.mem_of_getElem? (i := 204) rfl), lw_pw 21 rfl rfl⟩
theorem mo_X5_readInject : MO MX5_readInject 0 := ⟨tb_3 (List.mem_of_getElem? (i := 213) rfl), ii_5, by decide +kernel, by decide +kernel, by decide⟩
theorem mv_X5_readInject : MV MX5_readInject 0 := ⟨mo_X5_readInject, tb_3 (List.mem_of_getElem? (i := 212) rfl), lw_pw 23 rfl rfl⟩
theorem mo_X5_readPlain : MO MX5_readPlain 0 := ⟨tb_3 (List.mem_of_getElem? (i := 225) rfl), ii_5, by decide +kernel, by decide +kernel, by decide⟩
theorem mv_X5_readPlain : MV MX5_readPlain 0 := ⟨mo_X5_readPlain, tb_3 (List.mem_of_getElem? (i := 224) rfl), lw_pw 26 rfl rfl⟩
theorem mo_X5_readVariableOrCall : MO MX5_readVariableOrCall 0 := ⟨tb_3 (List.mem_of_getElem? (i := 229) rfl), ii_5, by decide +kernel, by decide +kernel, by decide⟩
theorem mv_X5_readVariableOrCall : MV MX5_readVariableOrCall 0 := ⟨mo_X5_readVariableOrCall, tb_3 (List.mem_of_getElem? (i := 228) rfl), lw_pw 27 rfl rfl⟩
theorem mo_X5_readNew : MO MX5_readNew 0 := ⟨tb_3 (List.mem_of_getElem? (i := 237) rfl), ii_5, by decide +kernel, by decide +kernel, by decide⟩
theorem mv_X5_readNew : MV MX5_readNew 0 := ⟨mo_X5_readNew, tb_3 (List.mem_of_getElem? (i := 236) rfl), lw_pw 29 rfl rfl⟩
theorem mo_X5_readValues : MO MX5_readValues 3 := ⟨tb_3 (List.mem_of_getElem? (i := 233) rfl), ii_5, by decide +kernel, by decide +kernel, by decide⟩
theorem mv_X5_readValues : MV MX5_readValues 3 := ⟨mo_X5_readValues, tb_3 (List.mem_of_getElem? (i := 232) rfl), lw_pw 28 rfl rfl⟩
theorem mo_X6_init : MO MX6_init 1 := ⟨tb_1 (List.mem_of_getElem? (i := 221) rfl), ii_6, by decide +kernel, by decide +kernel, by decide⟩
theorem mv_X6_init : MN MX6_init 1 := ⟨mo_X6_init, tb_1 (List.mem_of_getElem? (i := 220) rfl), rfl⟩
theorem mo_X6_reset : MO MX6_reset 0 := ⟨tb_4 (List.mem_of_getElem? (i := 98) rfl), ii_6, by decide +kernel, by decide +kernel, by decide⟩
theorem mv_X6_reset : MV MX6_reset 0 := ⟨mo_X6_reset, tb_4 (List.mem_of_getElem? (i := 96) rfl), tb_4 (List.mem_of_getElem? (i := 97) rfl)⟩
theorem mo_X6_made : MO MX6_made 0 := ⟨tb_6 (List.mem_of_getElem? (i := 137) rfl), ii_6, by decide +kernel, by decide +kernel, by decide⟩
theorem mv_X6_made : MV MX6_made 0 := ⟨mo_X6_made, tb_6 (List.mem_of_getElem? (i := 135) rfl), tb_6 (List.mem_of_getElem? (i := 136) rfl)⟩
theorem mo_X6_alive : MO MX6_alive 0 := ⟨tb_6 (List.mem_of_getElem? (i := 141) rfl), ii_6, by decide +kernel, by decide +kernel, by decide⟩
theorem mv_X6_alive : MV MX6_alive 0 := ⟨mo_X6_alive, tb_6 (List.mem_of_getElem? (i := 139) rfl), tb_6 (List.mem_of_getElem? (i := 140) rfl)⟩
theorem mo_X6_steps : MO MX6_steps 0 := ⟨tb_6 (List.mem_of_getElem? (i := 145) rfl), ii_6, by decide +kernel, by decide +kernel, by decide⟩
theorem mv_X6_steps : MV MX6_steps 0 := ⟨mo_X6_steps, tb_6 (List.mem_of_getElem? (i := 143) rfl), tb_6 (List.mem_of_getElem? (i := 144) rfl)⟩
theorem mo_X6_outcome : MO MX6_outcome 0 := ⟨tb_5 (List.mem_of_getElem? (i := 237) rfl), ii_6, by decide +kernel, by decide +kernel, by decide⟩
theorem mv_X6_outcome : MV MX6_outcome 0 := ⟨mo_X6_outcome, tb_5 (List.mem_of_getElem? (i := 235) rfl), tb_5 (List.mem_of_getElem? (i := 236) rfl)⟩
theorem mo_X6_given : MO MX6_given 0 := ⟨tb_6 (List.mem_of_getElem? (i := 51) rfl), ii_6, by decide +kernel, by decide +kernel, by decide⟩
theorem mv_X6_given : MV MX6_given 0 := ⟨mo_X6_given, tb_6 (List.mem_of_getElem? (i := 49) rfl), tb_6 (List.mem_of_getElem? (i := 50) rfl)⟩
theorem mo_X6_isSpent : MO MX6_isSpent 0 := ⟨tb_4 (List.mem_of_getElem? (i := 146) rfl), ii_6, by decide +kernel, by decide +kernel, by decide⟩
theorem mv_X6_isSpent : MV MX6_isSpent 0 := ⟨mo_X6_isSpent, tb_4 (List.mem_of_getElem? (i := 144) rfl), tb_4 (List.mem_of_getElem? (i := 145) rfl)⟩
theorem mo_X6_isFull : MO MX6_isFull 0 := ⟨tb_4 (List.mem_of_getElem? (i := 150) rfl), ii_6, by decide +kernel, by decide +kernel, by decide⟩
theorem mv_X6_isFull : MV MX6_isFull 0 := ⟨mo_X6_isFull, tb_4 (List.mem_of_getElem? (i := 148) rfl), tb_4 (List.mem_of_getElem? (i := 149) rfl)⟩
theorem mo_X6_inRing : MO MX6_inRing 1 := ⟨tb_6 (List.mem_of_getElem? (i := 129) rfl), ii_6, by decide +kernel, by decide +kernel, by decide⟩
theorem mv_X6_inRing : MV MX6_inRing 1 := ⟨mo_X6_inRing, tb_6 (List.mem_of_getElem? (i := 127) rfl), tb_6 (List.mem_of_getElem? (i := 128) rfl)⟩
theorem mo_X6_find : MO MX6_find 1 := ⟨tb_4 (List.mem_of_getElem? (i := 106) rfl), ii_6, by decide +kernel, by decide +kernel, by decide⟩
theorem mv_X6_find : MV MX6_find 1 := ⟨mo_X6_find, tb_4 (List.mem_of_getElem? (i := 104) rfl), tb_4 (List.mem_of_getElem? (i := 105) rfl)⟩
theorem mo_X6_make : MO MX6_make 3 := ⟨tb_4 (List.mem_of_getElem? (i := 154) rfl), ii_6, by decide +kernel, by decide +kernel, by decide⟩
theorem mv_X6_make : MV MX6_make 3 := ⟨mo_X6_make, tb_4 (List.mem_of_getElem? (i := 152) rfl), tb_4 (List.mem_of_getElem? (i := 153) rfl)⟩
theorem mo_X6_end : MO MX6_end 2 := ⟨tb_4 (List.mem_of_getElem? (i := 114) rfl), ii_6, by decide +kernel, by decide +kernel, by decide⟩
theorem mv_X6_end : MV MX6_end 2 := ⟨mo_X6_end, tb_4 (List.mem_of_getElem? (i := 113) rfl), lw_pw 44 rfl rfl⟩
theorem mo_X6_failAll : MO MX6_failAll 0 := ⟨tb_4 (List.mem_of_getElem? (i := 102) rfl), ii_6, by decide +kernel, by decide +kernel, by decide⟩
theorem mv_X6_failAll : MV MX6_failAll 0 := ⟨mo_X6_failAll, tb_4 (List.mem_of_getElem? (i := 101) rfl), lw_pw 43 rfl rfl⟩
theorem mo_X6_deskResumes : MO MX6_deskResumes 2 := ⟨tb_4 (List.mem_of_getElem? (i := 238) rfl), ii_6, by decide +kernel, by decide +kernel, by decide⟩
theorem mv_X6_deskResumes : MV MX6_deskResumes 2 := ⟨mo_X6_deskResumes, tb_4 (List.mem_of_getElem? (i := 236) rfl), tb_4 (List.mem_of_getElem? (i := 237) rfl)⟩
theorem mo_X6_deskInjects : MO MX6_deskInjects 3 := ⟨tb_6 (List.mem_of_getElem? (i := 5) rfl), ii_6, by decide +kernel, by decide +kernel, by decide⟩
theorem mv_X6_deskInjects : MV MX6_deskInjects 3 := ⟨mo_X6_deskInjects, tb_6 (List.mem_of_getElem? (i := 3) rfl), tb_6 (List.mem_of_getElem? (i := 4) rfl)⟩
theorem mo_X6_deskCloses : MO MX6_deskCloses 1 := ⟨tb_6 (List.mem_of_getElem? (i := 13) rfl), ii_6, by decide +kernel, by decide +kernel, by decide⟩
theorem mv_X6_deskCloses : MV MX6_deskCloses 1 := ⟨mo_X6_deskCloses, tb_6 (List.mem_of_getElem? (i := 11) rfl), tb_6 (List.mem_of_getElem? (i := 12) rfl)⟩
theorem mo_X6_findReached : MO MX6_findReached 0 := ⟨tb_6 (List.mem_of_getElem? (i := 21) rfl), ii_6, by decide +kernel, by decide +kernel, by decide⟩
theorem mv_X6_findReached : MV MX6_findReached 0 := ⟨mo_X6_findReached, tb_6 (List.mem_of_getElem? (i := 19) rfl), tb_6 (List.mem_of_getElem? (i := 20) rfl)⟩
theorem mo_X6_lookInto : MO MX6_lookInto 1 := ⟨tb_6 (List.mem_of_getElem? (i := 25) rfl), ii_6, by decide +kernel, by decide +kernel, by decide⟩
theorem mv_X6_lookInto : MV MX6_lookInto 1 := ⟨mo_X6_lookInto, tb_6 (List.mem_of_getElem? (i := 24) rfl), lw_pw 74 rfl rfl⟩
theorem mo_X6_reach : MO MX6_reach 1 := ⟨tb_6 (List.mem_of_getElem? (i := 29) rfl), ii_6, by decide +kernel, by decide +kernel, by decide⟩
theorem mv_X6_reach : MV MX6_reach 1 := ⟨mo_X6_reach, tb_6 (List.mem_of_getElem? (i := 28) rfl), lw_pw 75 rfl rfl⟩
theorem mo_X6_run : MO MX6_run 0 := ⟨tb_5 (List.mem_of_getElem? (i := 38) rfl), ii_6, by decide +kernel, by decide +kernel, by decide⟩
theorem mv_X6_run : MV MX6_run 0 := ⟨mo_X6_run, tb_5 (List.mem_of_getElem? (i := 36) rfl), tb_5 (List.mem_of_getElem? (i := 37) rfl)⟩
theorem mo_X6_raise : MO MX6_raise 2 := ⟨tb_5 (List.mem_of_getElem? (i := 175) rfl), ii_6, by decide +kernel, by decide +kernel, by decide⟩
theorem mv_X6_raise : MV MX6_raise 2 := ⟨mo_X6_raise, tb_5 (List.mem_of_getElem? (i := 174) rfl), lw_pw 64 rfl rfl⟩
theorem mo_X6_playPart : MO MX6_playPart 3 := ⟨tb_5 (List.mem_of_getElem? (i := 156) rfl), ii_6, by decide +kernel, by decide +kernel, by decide⟩
theorem mv_X6_playPart : MV MX6_playPart 3 := ⟨mo_X6_playPart, tb_5 (List.mem_of_getElem? (i := 155) rfl), lw_pw 61 rfl rfl⟩
theorem mo_X6_stateOf : MO MX6_stateOf 1 := ⟨tb_5 (List.mem_of_getElem? (i := 167) rfl), ii_6, by decide +kernel, by decide +kernel, by decide⟩
theorem mv_X6_stateOf : MS MX6_stateOf 1 := ⟨mo_X6_stateOf, tb_5 (List.mem_of_getElem? (i := 166) rfl)⟩
theorem mo_X6_step : MO MX6_step 1 := ⟨tb_5 (List.mem_of_getElem? (i := 160) rfl), ii_6, by decide +kernel, by decide +kernel, by decide⟩
theorem mv_X6_step : MV MX6_step 1 := ⟨mo_X6_step, tb_5 (List.mem_of_getElem? (i := 159) rfl), lw_pw 62 rfl rfl⟩
theorem mo_X6_spend : MO MX6_spend 1 := ⟨tb_5 (List.mem_of_getElem? (i := 43) rfl), ii_6, by decide +kernel, by decide +kernel, by decide⟩
theorem mv_X6_spend : MV MX6_spend 1 := ⟨mo_X6_spend, tb_5 (List.mem_of_getElem? (i := 42) rfl), lw_pw 50 rfl rfl⟩
theorem mo_X6_makeBy : MO MX6_makeBy 2 := ⟨tb_5 (List.mem_of_getElem? (i := 171) rfl), ii_6, by decide +kernel, by decide +kernel, by decide⟩
theorem mv_X6_makeBy : MV MX6_makeBy 2 := ⟨mo_X6_makeBy, tb_5 (List.mem_of_getElem? (i := 170) rfl), lw_pw 63 rfl rfl⟩
theorem mo_X6_callBy : MO MX6_callBy 2 := ⟨tb_5 (List.mem_of_getElem? (i := 180) rfl), ii_6, by decide +kernel, by decide +kernel, by decide⟩
theorem mv_X6_callBy : MV MX6_callBy 2 := ⟨mo_X6_callBy, tb_5 (List.mem_of_getElem? (i := 179) rfl), lw_pw 65 rfl rfl⟩
theorem mo_X6_yieldBy : MO MX6_yieldBy 2 := ⟨tb_5 (List.mem_of_getElem? (i := 188) rfl), ii_6, by decide +kernel, by decide +kernel, by decide⟩
theorem mv_X6_yieldBy : MV MX6_yieldBy 2 := ⟨mo_X6_yieldBy, tb_5 (List.mem_of_getElem? (i := 187) rfl), lw_pw 66 rfl rfl⟩
theorem mo_X6_resumeBy : MO MX6_resumeBy 3 := ⟨tb_5 (List.mem_of_getElem? (i := 192) rfl), ii_6, by decide +kernel, by decide +kernel, by decide⟩
theorem mv_X6_resumeBy : MV MX6_resumeBy 3 := ⟨mo_X6_resumeBy, tb_5 (List.mem_of_getElem? (i := 191) rfl), lw_pw 67 rfl rfl⟩
theorem mo_X6_handBy : MO MX6_handBy 1 := ⟨tb_5 (List.mem_of_getElem? (i := 216) rfl), ii_6, by decide +kernel, by decide +kernel, by decide⟩
theorem mv_X6_handBy : MV MX6_handBy 1 := ⟨mo_X6_handBy, tb_5 (List.mem_of_getElem? (i := 215) rfl), lw_pw 71 rfl rfl⟩
theorem mo_X6_injectBy : MO MX6_injectBy 2 := ⟨tb_5 (List.mem_of_getElem? (i := 208) rfl), ii_6, by decide +kernel, by decide +kernel, by decide⟩
theorem mv_X6_injectBy : MV MX6_injectBy 2 := ⟨mo_X6_injectBy, tb_5 (List.mem_of_getElem? (i := 207) rfl), lw_pw 69 rfl rfl⟩
theorem mo_X6_closeBy : MO MX6_closeBy 2 := ⟨tb_5 (List.mem_of_getElem? (i := 220) rfl), ii_6, by decide +kernel, by decide +kernel, by decide⟩
theorem mv_X6_closeBy : MV MX6_closeBy 2 := ⟨mo_X6_closeBy, tb_5 (List.mem_of_getElem? (i := 219) rfl), lw_pw 72 rfl rfl⟩
theorem mo_X6_misuse : MO MX6_misuse 2 := ⟨tb_5 (List.mem_of_getElem? (i := 200) rfl), ii_6, by decide +kernel, by decide +kernel, by decide⟩
theorem mv_X6_misuse : MV MX6_misuse 2 := ⟨mo_X6_misuse, tb_5 (List.mem_of_getElem? (i := 199) rfl), lw_pw 68 rfl rfl⟩
theorem mo_X6_give : MO MX6_give 3 := ⟨tb_5 (List.mem_of_getElem? (i := 2) rfl), ii_6, by decide +kernel, by decide +kernel, by decide⟩
theorem mv_X6_give : MV MX6_give 3 := ⟨mo_X6_give, tb_5 (List.mem_of_getElem? (i := 1) rfl), lw_pw 46 rfl rfl⟩
theorem mo_X6_spareRow : MO MX6_spareRow 0 := ⟨tb_5 (List.mem_of_getElem? (i := 17) rfl), ii_6, by decide +kernel, by decide +kernel, by decide⟩
theorem mv_X6_spareRow : MV MX6_spareRow 0 := ⟨mo_X6_spareRow, tb_5 (List.mem_of_getElem? (i := 16) rfl), lw_pw 47 rfl rfl⟩
theorem mo_X6_throwInto : MO MX6_throwInto 3 := ⟨tb_5 (List.mem_of_getElem? (i := 212) rfl), ii_6, by decide +kernel, by decide +kernel, by decide⟩
theorem mv_X6_throwInto : MV MX6_throwInto 3 := ⟨mo_X6_throwInto, tb_5 (List.mem_of_getElem? (i := 211) rfl), lw_pw 70 rfl rfl⟩
theorem mo_X6_goBack : MO MX6_goBack 3 := ⟨tb_5 (List.mem_of_getElem? (i := 71) rfl), ii_6, by decide +kernel, by decide +kernel, by decide⟩
theorem mv_X6_goBack : MV MX6_goBack 3 := ⟨mo_X6_goBack, tb_5 (List.mem_of_getElem? (i := 70) rfl), lw_pw 54 rfl rfl⟩
theorem mo_X6_passGuards : MO MX6_passGuards 3 := ⟨tb_5 (List.mem_of_getElem? (i := 126) rfl), ii_6, by decide +kernel, by decide +kernel, by decide⟩
theorem mv_X6_passGuards : MV MX6_passGuards 3 := ⟨mo_X6_passGuards, tb_5 (List.mem_of_getElem? (i := 125) rfl), lw_pw 58 rfl rfl⟩
theorem mo_X6_endFinally : MO MX6_endFinally 1 := ⟨tb_5 (List.mem_of_getElem? (i := 135) rfl), ii_6, by decide +kernel, by decide +kernel, by decide⟩
theorem mv_X6_endFinally : MV MX6_endFinally 1 := ⟨mo_X6_endFinally, tb_5 (List.mem_of_getElem? (i := 134) rfl), lw_pw 59 rfl rfl⟩
theorem mo_X6_giveBack : MO MX6_giveBack 2 := ⟨tb_5 (List.mem_of_getElem? (i := 139) rfl), ii_6, by decide +kernel, by decide +kernel, by decide⟩
theorem mv_X6_giveBack : MV MX6_giveBack 2 := ⟨mo_X6_giveBack, tb_5 (List.mem_of_getElem? (i := 138) rfl), lw_pw 60 rfl rfl⟩
theorem mo_X6_handlerOf : MO MX6_handlerOf 2 := ⟨tb_5 (List.mem_of_getElem? (i := 114) rfl), ii_6, by decide +kernel, by decide +kernel, by decide⟩
theorem mv_X6_handlerOf : MV MX6_handlerOf 2 := ⟨mo_X6_handlerOf, tb_5 (List.mem_of_getElem? (i := 113) rfl), lw_pw 57 rfl rfl⟩
theorem mo_X6_unwind : MO MX6_unwind 1 := ⟨tb_5 (List.mem_of_getElem? (i := 47) rfl), ii_6, by decide +kernel, by decide +kernel, by decide⟩
theorem mv_X6_unwind : MV MX6_unwind 1 := ⟨mo_X6_unwind, tb_5 (List.mem_of_getElem? (i := 46) rfl), lw_pw 51 rfl rfl⟩
theorem mo_X6_leaveVoice : MO MX6_leaveVoice 1 := ⟨tb_5 (List.mem_of_getElem? (i := 59) rfl), ii_6, by decide +kernel, by decide +kernel, by decide⟩
theorem mv_X6_leaveVoice : MV MX6_leaveVoice 1 := ⟨mo_X6_leaveVoice, tb_5 (List.mem_of_getElem? (i := 58) rfl), lw_pw 52 rfl rfl⟩
theorem mo_X6_comeOut : MO MX6_comeOut 0 := ⟨tb_5 (List.mem_of_getElem? (i := 81) rfl), ii_6, by decide +kernel, by decide +kernel, by decide⟩
theorem mv_X6_comeOut : MV MX6_comeOut 0 := ⟨mo_X6_comeOut, tb_5 (List.mem_of_getElem? (i := 80) rfl), lw_pw 55 rfl rfl⟩
theorem mo_X7_init : MO MX7_init 0 := ⟨tb_1 (List.mem_of_getElem? (i := 52) rfl), ii_7, by decide +kernel, by decide +kernel, by decide⟩
theorem mv_X7_init : MN MX7_init 0 := ⟨mo_X7_init, tb_1 (List.mem_of_getElem? (i := 51) rfl), rfl⟩
theorem mo_X7_clear : MO MX7_clear 0 := ⟨tb_2 (List.mem_of_getElem? (i := 154) rfl), ii_7, by decide +kernel, by decide +kernel, by decide⟩
theorem mv_X7_clear : MV MX7_clear 0 := ⟨mo_X7_clear, tb_2 (List.mem_of_getElem? (i := 152) rfl), tb_2 (List.mem_of_getElem? (i := 153) rfl)⟩
theorem mo_X7_size : MO MX7_size 0 := ⟨tb_4 (List.mem_of_getElem? (i := 56) rfl), ii_7, by decide +kernel, by decide +kernel, by decide⟩
theorem mv_X7_size : MV MX7_size 0 := ⟨mo_X7_size, tb_4 (List.mem_of_getElem? (i := 54) rfl), tb_4 (List.mem_of_getElem? (i := 55) rfl)⟩
theorem mo_X7_at : MO MX7_at 1 := ⟨tb_4 (List.mem_of_getElem? (i := 60) rfl), ii_7, by decide +kernel, by decide +kernel, by decide⟩
theorem mv_X7_at : MV MX7_at 1 := ⟨mo_X7_at, tb_4 (List.mem_of_getElem? (i := 58) rfl), tb_4 (List.mem_of_getElem? (i := 59) rfl)⟩
theorem mo_X7_find : MO MX7_find 1 := ⟨tb_3 (List.mem_of_getElem? (i := 115) rfl), ii_7, by decide +kernel, by decide +kernel, by decide⟩
theorem mv_X7_find : MV MX7_find 1 := ⟨mo_X7_find, tb_3 (List.mem_of_getElem? (i := 113) rfl), tb_3 (List.mem_of_getElem? (i := 114) rfl)⟩
theorem mo_X7_add : MO MX7_add 0 := ⟨tb_3 (List.mem_of_getElem? (i := 48) rfl), ii_7, by decide +kernel, by decide +kernel, by decide⟩
theorem mv_X7_add : MV MX7_add 0 := ⟨mo_X7_add, tb_3 (List.mem_of_getElem? (i := 46) rfl), tb_3 (List.mem_of_getElem? (i := 47) rfl)⟩
theorem mo_X7_noteWrongName : MO MX7_noteWrongName 1 := ⟨tb_3 (List.mem_of_getElem? (i := 119) rfl), ii_7, by decide +kernel, by decide +kernel, by decide⟩
theorem mv_X7_noteWrongName : MV MX7_noteWrongName 1 := ⟨mo_X7_noteWrongName, tb_3 (List.mem_of_getElem? (i := 117) rfl), tb_3 (List.mem_of_getElem? (i := 118) rfl)⟩
theorem mo_X7_wrongName : MO MX7_wrongName 0 := ⟨tb_4 (List.mem_of_getElem? (i := 94) rfl), ii_7, by decide +kernel, by decide +kernel, by decide⟩
theorem mv_X7_wrongName : MV MX7_wrongName 0 := ⟨mo_X7_wrongName, tb_4 (List.mem_of_getElem? (i := 92) rfl), tb_4 (List.mem_of_getElem? (i := 93) rfl)⟩
theorem mo_X8_init : MO MX8_init 0 := ⟨tb_1 (List.mem_of_getElem? (i := 38) rfl), ii_8, by decide +kernel, by decide +kernel, by decide⟩
theorem mv_X8_init : MN MX8_init 0 := ⟨mo_X8_init, tb_1 (List.mem_of_getElem? (i := 37) rfl), rfl⟩
theorem mo_X8_hasRoom : MO MX8_hasRoom 1 := ⟨tb_2 (List.mem_of_getElem? (i := 126) rfl), ii_8, by decide +kernel, by decide +kernel, by decide⟩
theorem mv_X8_hasRoom : MV MX8_hasRoom 1 := ⟨mo_X8_hasRoom, tb_2 (List.mem_of_getElem? (i := 124) rfl), tb_2 (List.mem_of_getElem? (i := 125) rfl)⟩
theorem mo_X8_add : MO MX8_add 1 := ⟨tb_2 (List.mem_of_getElem? (i := 130) rfl), ii_8, by decide +kernel, by decide +kernel, by decide⟩
theorem mv_X8_add : MV MX8_add 1 := ⟨mo_X8_add, tb_2 (List.mem_of_getElem? (i := 128) rfl), tb_2 (List.mem_of_getElem? (i := 129) rfl)⟩
theorem mo_X8_size : MO MX8_size 0 := ⟨tb_2 (List.mem_of_getElem? (i := 134) rfl), ii_8, by decide +kernel, by decide +kernel, by decide⟩
theorem mv_X8_size : MV MX8_size 0 := ⟨mo_X8_size, tb_2 (List.mem_of_getElem? (i := 132) rfl), tb_2 (List.mem_of_getElem? (i := 133) rfl)⟩
theorem mo_X8_clear : MO MX8_clear 0 := ⟨tb_2 (List.mem_of_getElem? (i := 142) rfl), ii_8, by decide +kernel, by decide +kernel, by decide⟩
theorem mv_X8_clear : MV MX8_clear 0 := ⟨mo_X8_clear, tb_2 (List.mem_of_getElem? (i := 140) rfl), tb_2 (List.mem_of_getElem? (i := 141) rfl)⟩
theorem mo_X8_at : MO MX8_at 1 := ⟨tb_2 (List.mem_of_getElem? (i := 167) rfl), ii_8, by decide +kernel, by decide +kernel, by decide⟩
theorem mv_X8_at : MV MX8_at 1 := ⟨mo_X8_at, tb_2 (List.mem_of_getElem? (i := 165) rfl), tb_2 (List.mem_of_getElem? (i := 166) rfl)⟩
theorem mo_X9_init : MO MX9_init 1 := ⟨tb_1 (List.mem_of_getElem? (i := 93) rfl), ii_9, by decide +kernel, by decide +kernel, by decide⟩
theorem mv_X9_init : MN MX9_init 1 := ⟨mo_X9_init, tb_1 (List.mem_of_getElem? (i := 92) rfl), rfl⟩
theorem mo_X9_readTape : MO MX9_readTape 0 := ⟨tb_2 (List.mem_of_getElem? (i := 162) rfl), ii_9, by decide +kernel, by decide +kernel, by decide⟩
theorem mv_X9_readTape : MV MX9_readTape 0 := ⟨mo_X9_readTape, tb_2 (List.mem_of_getElem? (i := 160) rfl), tb_2 (List.mem_of_getElem? (i := 161) rfl)⟩
theorem mo_X9_next : MO MX9_next 0 := ⟨tb_3 (List.mem_of_getElem? (i := 40) rfl), ii_9, by decide +kernel, by decide +kernel, by decide⟩
theorem mv_X9_next : MV MX9_next 0 := ⟨mo_X9_next, tb_3 (List.mem_of_getElem? (i := 38) rfl), tb_3 (List.mem_of_getElem? (i := 39) rfl)⟩
theorem mo_X9_index : MO MX9_index 0 := ⟨tb_3 (List.mem_of_getElem? (i := 107) rfl), ii_9, by decide +kernel, by decide +kernel, by decide⟩
theorem mv_X9_index : MV MX9_index 0 := ⟨mo_X9_index, tb_3 (List.mem_of_getElem? (i := 105) rfl), tb_3 (List.mem_of_getElem? (i := 106) rfl)⟩
theorem mo_X9_kindBehind : MO MX9_kindBehind 0 := ⟨tb_4 (List.mem_of_getElem? (i := 48) rfl), ii_9, by decide +kernel, by decide +kernel, by decide⟩
theorem mv_X9_kindBehind : MV MX9_kindBehind 0 := ⟨mo_X9_kindBehind, tb_4 (List.mem_of_getElem? (i := 46) rfl), tb_4 (List.mem_of_getElem? (i := 47) rfl)⟩
theorem mo_X9_valueOf : MO MX9_valueOf 1 := ⟨tb_3 (List.mem_of_getElem? (i := 111) rfl), ii_9, by decide +kernel, by decide +kernel, by decide⟩
theorem mv_X9_valueOf : MV MX9_valueOf 1 := ⟨mo_X9_valueOf, tb_3 (List.mem_of_getElem? (i := 109) rfl), tb_3 (List.mem_of_getElem? (i := 110) rfl)⟩
theorem mo_X9_placeOf : MO MX9_placeOf 1 := ⟨tb_4 (List.mem_of_getElem? (i := 85) rfl), ii_9, by decide +kernel, by decide +kernel, by decide⟩
theorem mv_X9_placeOf : MV MX9_placeOf 1 := ⟨mo_X9_placeOf, tb_4 (List.mem_of_getElem? (i := 83) rfl), tb_4 (List.mem_of_getElem? (i := 84) rfl)⟩
theorem mo_X9_readName : MO MX9_readName 1 := ⟨tb_2 (List.mem_of_getElem? (i := 174) rfl), ii_9, by decide +kernel, by decide +kernel, by decide⟩
theorem mv_X9_readName : MV MX9_readName 1 := ⟨mo_X9_readName, tb_2 (List.mem_of_getElem? (i := 173) rfl), lw_pw 0 rfl rfl⟩
theorem mo_X9_kindOfName : MO MX9_kindOfName 1 := ⟨tb_2 (List.mem_of_getElem? (i := 178) rfl), ii_9, by decide +kernel, by decide +kernel, by decide⟩
theorem mv_X9_kindOfName : MV MX9_kindOfName 1 := ⟨mo_X9_kindOfName, tb_2 (List.mem_of_getElem? (i := 177) rfl), lw_pw 1 rfl rfl⟩
theorem mo_X9_readNumber : MO MX9_readNumber 1 := ⟨tb_2 (List.mem_of_getElem? (i := 213) rfl), ii_9, by decide +kernel, by decide +kernel, by decide⟩
theorem mv_X9_readNumber : MV MX9_readNumber 1 := ⟨mo_X9_readNumber, tb_2 (List.mem_of_getElem? (i := 212) rfl), lw_pw 3 rfl rfl⟩
theorem mo_X9_readSign : MO MX9_readSign 2 := ⟨tb_2 (List.mem_of_getElem? (i := 218) rfl), ii_9, by decide +kernel, by decide +kernel, by decide⟩
theorem mv_X9_readSign : MV MX9_readSign 2 := ⟨mo_X9_readSign, tb_2 (List.mem_of_getElem? (i := 217) rfl), lw_pw 4 rfl rfl⟩
theorem mo_X9_add : MO MX9_add 3 := ⟨tb_2 (List.mem_of_getElem? (i := 182) rfl), ii_9, by decide +kernel, by decide +kernel, by decide⟩
theorem mv_X9_add : MV MX9_add 3 := ⟨mo_X9_add, tb_2 (List.mem_of_getElem? (i := 181) rfl), lw_pw 2 rfl rfl⟩
theorem mo_X9_isLetter : MO MX9_isLetter 1 := ⟨tb_2 (List.mem_of_getElem? (i := 170) rfl), ii_9, by decide +kernel, by decide +kernel, by decide⟩
theorem mv_X9_isLetter : MS MX9_isLetter 1 := ⟨mo_X9_isLetter, tb_2 (List.mem_of_getElem? (i := 169) rfl)⟩
theorem mo_X9_isFigure : MO MX9_isFigure 1 := ⟨tb_2 (List.mem_of_getElem? (i := 209) rfl), ii_9, by decide +kernel, by decide +kernel, by decide⟩
theorem mv_X9_isFigure : MS MX9_isFigure 1 := ⟨mo_X9_isFigure, tb_2 (List.mem_of_getElem? (i := 208) rfl)⟩
theorem mo_X10_init : MO MX10_init 0 := ⟨tb_4 (List.mem_of_getElem? (i := 159) rfl), ii_10, by decide +kernel, by decide +kernel, by decide⟩
theorem mv_X10_init : MN MX10_init 0 := ⟨mo_X10_init, tb_4 (List.mem_of_getElem? (i := 158) rfl), rfl⟩
theorem mo_X10_reset : MO MX10_reset 4 := ⟨tb_4 (List.mem_of_getElem? (i := 228) rfl), ii_10, by decide +kernel, by decide +kernel, by decide⟩
theorem mv_X10_reset : MV MX10_reset 4 := ⟨mo_X10_reset, tb_4 (List.mem_of_getElem? (i := 226) rfl), tb_4 (List.mem_of_getElem? (i := 227) rfl)⟩
theorem mo_X10_isOver : MO MX10_isOver 0 := ⟨tb_4 (List.mem_of_getElem? (i := 110) rfl), ii_10, by decide +kernel, by decide +kernel, by decide⟩
theorem mv_X10_isOver : MV MX10_isOver 0 := ⟨mo_X10_isOver, tb_4 (List.mem_of_getElem? (i := 108) rfl), tb_4 (List.mem_of_getElem? (i := 109) rfl)⟩
theorem mo_X10_isReady : MO MX10_isReady 0 := ⟨tb_5 (List.mem_of_getElem? (i := 196) rfl), ii_10, by decide +kernel, by decide +kernel, by decide⟩
theorem mv_X10_isReady : MV MX10_isReady 0 := ⟨mo_X10_isReady, tb_5 (List.mem_of_getElem? (i := 194) rfl), tb_5 (List.mem_of_getElem? (i := 195) rfl)⟩
theorem mo_X10_isLost : MO MX10_isLost 0 := ⟨tb_6 (List.mem_of_getElem? (i := 42) rfl), ii_10, by decide +kernel, by decide +kernel, by decide⟩
theorem mv_X10_isLost : MV MX10_isLost 0 := ⟨mo_X10_isLost, tb_6 (List.mem_of_getElem? (i := 40) rfl), tb_6 (List.mem_of_getElem? (i := 41) rfl)⟩
theorem mo_X10_begin : MO MX10_begin 1 := ⟨tb_5 (List.mem_of_getElem? (i := 21) rfl), ii_10, by decide +kernel, by decide +kernel, by decide⟩
theorem mv_X10_begin : MV MX10_begin 1 := ⟨mo_X10_begin, tb_5 (List.mem_of_getElem? (i := 19) rfl), tb_5 (List.mem_of_getElem? (i := 20) rfl)⟩
theorem mo_X10_end : MO MX10_end 1 := ⟨tb_4 (List.mem_of_getElem? (i := 118) rfl), ii_10, by decide +kernel, by decide +kernel, by decide⟩
theorem mv_X10_end : MV MX10_end 1 := ⟨mo_X10_end, tb_4 (List.mem_of_getElem? (i := 116) rfl), tb_4 (List.mem_of_getElem? (i := 117) rfl)⟩
theorem mo_X10_push : MO MX10_push 1 := ⟨tb_5 (List.mem_of_getElem? (i := 12) rfl), ii_10, by decide +kernel, by decide +kernel, by decide⟩
theorem mv_X10_push : MV MX10_push 1 := ⟨mo_X10_push, tb_5 (List.mem_of_getElem? (i := 10) rfl), tb_5 (List.mem_of_getElem? (i := 11) rfl)⟩
theorem mo_X10_pop : MO MX10_pop 0 := ⟨tb_5 (List.mem_of_getElem? (i := 76) rfl), ii_10, by decide +kernel, by decide +kernel, by decide⟩
theorem mv_X10_pop : MV MX10_pop 0 := ⟨mo_X10_pop, tb_5 (List.mem_of_getElem? (i := 74) rfl), tb_5 (List.mem_of_getElem? (i := 75) rfl)⟩
theorem mo_X10_peek : MO MX10_peek 0 := ⟨tb_5 (List.mem_of_getElem? (i := 204) rfl), ii_10, by decide +kernel, by decide +kernel, by decide⟩
theorem mv_X10_peek : MV MX10_peek 0 := ⟨mo_X10_peek, tb_5 (List.mem_of_getElem? (i := 202) rfl), tb_5 (List.mem_of_getElem? (i := 203) rfl)⟩
theorem mo_X10_cell : MO MX10_cell 1 := ⟨tb_5 (List.mem_of_getElem? (i := 34) rfl), ii_10, by decide +kernel, by decide +kernel, by decide⟩
theorem mv_X10_cell : MV MX10_cell 1 := ⟨mo_X10_cell, tb_5 (List.mem_of_getElem? (i := 33) rfl), lw_pw 49 rfl rfl⟩
theorem mo_X10_put : MO MX10_put 2 := ⟨tb_5 (List.mem_of_getElem? (i := 25) rfl), ii_10, by decide +kernel, by decide +kernel, by decide⟩
theorem mv_X10_put : MV MX10_put 2 := ⟨mo_X10_put, tb_5 (List.mem_of_getElem? (i := 24) rfl), lw_pw 48 rfl rfl⟩
theorem mo_X10_canCall : MO MX10_canCall 0 := ⟨tb_5 (List.mem_of_getElem? (i := 184) rfl), ii_10, by decide +kernel, by decide +kernel, by decide⟩
theorem mv_X10_canCall : MV MX10_canCall 0 := ⟨mo_X10_canCall, tb_5 (List.mem_of_getElem? (i := 182) rfl), tb_5 (List.mem_of_getElem? (i := 183) rfl)⟩
theorem mo_X10_enter : MO MX10_enter 1 := ⟨tb_5 (List.mem_of_getElem? (i := 29) rfl), ii_10, by decide +kernel, by decide +kernel, by decide⟩
theorem mv_X10_enter : MV MX10_enter 1 := ⟨mo_X10_enter, tb_5 (List.mem_of_getElem? (i := 27) rfl), tb_5 (List.mem_of_getElem? (i := 28) rfl)⟩
theorem mo_X10_leave : MO MX10_leave 0 := ⟨tb_5 (List.mem_of_getElem? (i := 55) rfl), ii_10, by decide +kernel, by decide +kernel, by decide⟩
theorem mv_X10_leave : MV MX10_leave 0 := ⟨mo_X10_leave, tb_5 (List.mem_of_getElem? (i := 53) rfl), tb_5 (List.mem_of_getElem? (i := 54) rfl)⟩
theorem mo_X10_place : MO MX10_place 0 := ⟨tb_5 (List.mem_of_getElem? (i := 143) rfl), ii_10, by decide +kernel, by decide +kernel, by decide⟩
theorem mv_X10_place : MV MX10_place 0 := ⟨mo_X10_place, tb_5 (List.mem_of_getElem? (i := 141) rfl), tb_5 (List.mem_of_getElem? (i := 142) rfl)⟩
theorem mo_X10_setPlace : MO MX10_setPlace 1 := ⟨tb_5 (List.mem_of_getElem? (i := 164) rfl), ii_10, by decide +kernel, by decide +kernel, by decide⟩
theorem mv_X10_setPlace : MV MX10_setPlace 1 := ⟨mo_X10_setPlace, tb_5 (List.mem_of_getElem? (i := 162) rfl), tb_5 (List.mem_of_getElem? (i := 163) rfl)⟩
theorem mo_X10_frameOf : MO MX10_frameOf 1 := ⟨tb_6 (List.mem_of_getElem? (i := 33) rfl), ii_10, by decide +kernel, by decide +kernel, by decide⟩
theorem mv_X10_frameOf : MV MX10_frameOf 1 := ⟨mo_X10_frameOf, tb_6 (List.mem_of_getElem? (i := 31) rfl), tb_6 (List.mem_of_getElem? (i := 32) rfl)⟩
theorem mo_X10_variablesOf : MO MX10_variablesOf 1 := ⟨tb_6 (List.mem_of_getElem? (i := 37) rfl), ii_10, by decide +kernel, by decide +kernel, by decide⟩
theorem mv_X10_variablesOf : MV MX10_variablesOf 1 := ⟨mo_X10_variablesOf, tb_6 (List.mem_of_getElem? (i := 35) rfl), tb_6 (List.mem_of_getElem? (i := 36) rfl)⟩
theorem mo_X10_variable : MO MX10_variable 2 := ⟨tb_5 (List.mem_of_getElem? (i := 228) rfl), ii_10, by decide +kernel, by decide +kernel, by decide⟩
theorem mv_X10_variable : MV MX10_variable 2 := ⟨mo_X10_variable, tb_5 (List.mem_of_getElem? (i := 226) rfl), tb_5 (List.mem_of_getElem? (i := 227) rfl)⟩
theorem mo_X10_openGuard : MO MX10_openGuard 1 := ⟨tb_5 (List.mem_of_getElem? (i := 130) rfl), ii_10, by decide +kernel, by decide +kernel, by decide⟩
theorem mv_X10_openGuard : MV MX10_openGuard 1 := ⟨mo_X10_openGuard, tb_5 (List.mem_of_getElem? (i := 128) rfl), tb_5 (List.mem_of_getElem? (i := 129) rfl)⟩
theorem mo_X10_isGuarded : MO MX10_isGuarded 0 := ⟨tb_5 (List.mem_of_getElem? (i := 51) rfl), ii_10, by decide +kernel, by decide +kernel, by decide⟩
theorem mv_X10_isGuarded : MV MX10_isGuarded 0 := ⟨mo_X10_isGuarded, tb_5 (List.mem_of_getElem? (i := 49) rfl), tb_5 (List.mem_of_getElem? (i := 50) rfl)⟩
theorem mo_X10_isInGuarded : MO MX10_isInGuarded 0 := ⟨tb_5 (List.mem_of_getElem? (i := 86) rfl), ii_10, by decide +kernel, by decide +kernel, by decide⟩
theorem mv_X10_isInGuarded : MV MX10_isInGuarded 0 := ⟨mo_X10_isInGuarded, tb_5 (List.mem_of_getElem? (i := 84) rfl), tb_5 (List.mem_of_getElem? (i := 85) rfl)⟩
theorem mo_X10_handlers : MO MX10_handlers 0 := ⟨tb_5 (List.mem_of_getElem? (i := 110) rfl), ii_10, by decide +kernel, by decide +kernel, by decide⟩
theorem mv_X10_handlers : MV MX10_handlers 0 := ⟨mo_X10_handlers, tb_5 (List.mem_of_getElem? (i := 108) rfl), tb_5 (List.mem_of_getElem? (i := 109) rfl)⟩
theorem mo_X10_phase : MO MX10_phase 0 := ⟨tb_5 (List.mem_of_getElem? (i := 90) rfl), ii_10, by decide +kernel, by decide +kernel, by decide⟩
theorem mv_X10_phase : MV MX10_phase 0 := ⟨mo_X10_phase, tb_5 (List.mem_of_getElem? (i := 88) rfl), tb_5 (List.mem_of_getElem? (i := 89) rfl)⟩
theorem mo_X10_keptByGuard : MO MX10_keptByGuard 0 := ⟨tb_5 (List.mem_of_getElem? (i := 94) rfl), ii_10, by decide +kernel, by decide +kernel, by decide⟩
theorem mv_X10_keptByGuard : MV MX10_keptByGuard 0 := ⟨mo_X10_keptByGuard, tb_5 (List.mem_of_getElem? (i := 92) rfl), tb_5 (List.mem_of_getElem? (i := 93) rfl)⟩
theorem mo_X10_turnGuard : MO MX10_turnGuard 3 := ⟨tb_5 (List.mem_of_getElem? (i := 118) rfl), ii_10, by decide +kernel, by decide +kernel, by decide⟩
theorem mv_X10_turnGuard : MV MX10_turnGuard 3 := ⟨mo_X10_turnGuard, tb_5 (List.mem_of_getElem? (i := 116) rfl), tb_5 (List.mem_of_getElem? (i := 117) rfl)⟩
theorem mo_X10_closeGuard : MO MX10_closeGuard 0 := ⟨tb_5 (List.mem_of_getElem? (i := 106) rfl), ii_10, by decide +kernel, by decide +kernel, by decide⟩
theorem mv_X10_closeGuard : MV MX10_closeGuard 0 := ⟨mo_X10_closeGuard, tb_5 (List.mem_of_getElem? (i := 104) rfl), tb_5 (List.mem_of_getElem? (i := 105) rfl)⟩
theorem mo_X10_caught : MO MX10_caught 0 := ⟨tb_5 (List.mem_of_getElem? (i := 147) rfl), ii_10, by decide +kernel, by decide +kernel, by decide⟩
theorem mv_X10_caught : MV MX10_caught 0 := ⟨mo_X10_caught, tb_5 (List.mem_of_getElem? (i := 145) rfl), tb_5 (List.mem_of_getElem? (i := 146) rfl)⟩
theorem mo_X10_work : MO MX10_work 2 := ⟨tb_5 (List.mem_of_getElem? (i := 224) rfl), ii_10, by decide +kernel, by decide +kernel, by decide⟩
theorem mv_X10_work : MV MX10_work 2 := ⟨mo_X10_work, tb_5 (List.mem_of_getElem? (i := 222) rfl), tb_5 (List.mem_of_getElem? (i := 223) rfl)⟩
theorem mo_X10_combine : MO MX10_combine 1 := ⟨tb_5 (List.mem_of_getElem? (i := 233) rfl), ii_10, by decide +kernel, by decide +kernel, by decide⟩
theorem mv_X10_combine : MV MX10_combine 1 := ⟨mo_X10_combine, tb_5 (List.mem_of_getElem? (i := 232) rfl), lw_pw 73 rfl rfl⟩
theorem mo_X10_fact : MO MX10_fact 1 := ⟨tb_6 (List.mem_of_getElem? (i := 59) rfl), ii_10, by decide +kernel, by decide +kernel, by decide⟩
theorem mv_X10_fact : MV MX10_fact 1 := ⟨mo_X10_fact, tb_6 (List.mem_of_getElem? (i := 57) rfl), tb_6 (List.mem_of_getElem? (i := 58) rfl)⟩
theorem mo_X10_mixInto : MO MX10_mixInto 1 := ⟨tb_6 (List.mem_of_getElem? (i := 154) rfl), ii_10, by decide +kernel, by decide +kernel, by decide⟩
theorem mv_X10_mixInto : MV MX10_mixInto 1 := ⟨mo_X10_mixInto, tb_6 (List.mem_of_getElem? (i := 152) rfl), tb_6 (List.mem_of_getElem? (i := 153) rfl)⟩
theorem mo_X11_init : MO MX11_init 0 := ⟨tb_1 (List.mem_of_getElem? (i := 30) rfl), ii_11, by decide +kernel, by decide +kernel, by decide⟩
theorem mv_X11_init : MN MX11_init 0 := ⟨mo_X11_init, tb_1 (List.mem_of_getElem? (i := 29) rfl), rfl⟩
theorem mo_X11_feed : MO MX11_feed 2 := ⟨tb_2 (List.mem_of_getElem? (i := 122) rfl), ii_11, by decide +kernel, by decide +kernel, by decide⟩
theorem mv_X11_feed : MV MX11_feed 2 := ⟨mo_X11_feed, tb_2 (List.mem_of_getElem? (i := 120) rfl), tb_2 (List.mem_of_getElem? (i := 121) rfl)⟩
theorem mo_X11_drop : MO MX11_drop 0 := ⟨tb_2 (List.mem_of_getElem? (i := 138) rfl), ii_11, by decide +kernel, by decide +kernel, by decide⟩
theorem mv_X11_drop : MV MX11_drop 0 := ⟨mo_X11_drop, tb_2 (List.mem_of_getElem? (i := 136) rfl), tb_2 (List.mem_of_getElem? (i := 137) rfl)⟩
theorem mo_X11_compile : MO MX11_compile 0 := ⟨tb_2 (List.mem_of_getElem? (i := 146) rfl), ii_11, by decide +kernel, by decide +kernel, by decide⟩
theorem mv_X11_compile : MV MX11_compile 0 := ⟨mo_X11_compile, tb_2 (List.mem_of_getElem? (i := 144) rfl), tb_2 (List.mem_of_getElem? (i := 145) rfl)⟩
theorem mo_X11_body : MO MX11_body 2 := ⟨tb_4 (List.mem_of_getElem? (i := 129) rfl), ii_11, by decide +kernel, by decide +kernel, by decide⟩
theorem mv_X11_body : MV MX11_body 2 := ⟨mo_X11_body, tb_4 (List.mem_of_getElem? (i := 127) rfl), tb_4 (List.mem_of_getElem? (i := 128) rfl)⟩
theorem mo_X11_voice : MO MX11_voice 2 := ⟨tb_4 (List.mem_of_getElem? (i := 138) rfl), ii_11, by decide +kernel, by decide +kernel, by decide⟩
theorem mv_X11_voice : MV MX11_voice 2 := ⟨mo_X11_voice, tb_4 (List.mem_of_getElem? (i := 136) rfl), tb_4 (List.mem_of_getElem? (i := 137) rfl)⟩
theorem mo_X11_resume : MO MX11_resume 2 := ⟨tb_4 (List.mem_of_getElem? (i := 232) rfl), ii_11, by decide +kernel, by decide +kernel, by decide⟩
theorem mv_X11_resume : MV MX11_resume 2 := ⟨mo_X11_resume, tb_4 (List.mem_of_getElem? (i := 230) rfl), tb_4 (List.mem_of_getElem? (i := 231) rfl)⟩
theorem mo_X11_inject : MO MX11_inject 3 := ⟨tb_6 (List.mem_of_getElem? (i := 1) rfl), ii_11, by decide +kernel, by decide +kernel, by decide⟩
theorem mv_X11_inject : MV MX11_inject 3 := ⟨mo_X11_inject, tb_5 (List.mem_of_getElem? (i := 239) rfl), tb_6 (List.mem_of_getElem? (i := 0) rfl)⟩
theorem mo_X11_close : MO MX11_close 1 := ⟨tb_6 (List.mem_of_getElem? (i := 9) rfl), ii_11, by decide +kernel, by decide +kernel, by decide⟩
theorem mv_X11_close : MV MX11_close 1 := ⟨mo_X11_close, tb_6 (List.mem_of_getElem? (i := 7) rfl), tb_6 (List.mem_of_getElem? (i := 8) rfl)⟩
theorem mo_X11_sweep : MO MX11_sweep 0 := ⟨tb_6 (List.mem_of_getElem? (i := 17) rfl), ii_11, by decide +kernel, by decide +kernel, by decide⟩
theorem mv_X11_sweep : MV MX11_sweep 0 := ⟨mo_X11_sweep, tb_6 (List.mem_of_getElem? (i := 15) rfl), tb_6 (List.mem_of_getElem? (i := 16) rfl)⟩
theorem mo_X11_answer : MO MX11_answer 0 := ⟨tb_6 (List.mem_of_getElem? (i := 47) rfl), ii_11, by decide +kernel, by decide +kernel, by decide⟩
theorem mv_X11_answer : MV MX11_answer 0 := ⟨mo_X11_answer, tb_6 (List.mem_of_getElem? (i := 45) rfl), tb_6 (List.mem_of_getElem? (i := 46) rfl)⟩
theorem mo_X11_told : MO MX11_told 2 := ⟨tb_6 (List.mem_of_getElem? (i := 55) rfl), ii_11, by decide +kernel, by decide +kernel, by decide⟩
theorem mv_X11_told : MV MX11_told 2 := ⟨mo_X11_told, tb_6 (List.mem_of_getElem? (i := 53) rfl), tb_6 (List.mem_of_getElem? (i := 54) rfl)⟩
theorem mo_X11_local : MO MX11_local 3 := ⟨tb_6 (List.mem_of_getElem? (i := 63) rfl), ii_11, by decide +kernel, by decide +kernel, by decide⟩
theorem mv_X11_local : MV MX11_local 3 := ⟨mo_X11_local, tb_6 (List.mem_of_getElem? (i := 61) rfl), tb_6 (List.mem_of_getElem? (i := 62) rfl)⟩
theorem mo_X11_lines : MO MX11_lines 0 := ⟨tb_6 (List.mem_of_getElem? (i := 74) rfl), ii_11, by decide +kernel, by decide +kernel, by decide⟩
theorem mv_X11_lines : MV MX11_lines 0 := ⟨mo_X11_lines, tb_6 (List.mem_of_getElem? (i := 72) rfl), tb_6 (List.mem_of_getElem? (i := 73) rfl)⟩
theorem mo_X11_line : MO MX11_line 2 := ⟨tb_6 (List.mem_of_getElem? (i := 82) rfl), ii_11, by decide +kernel, by decide +kernel, by decide⟩
theorem mv_X11_line : MV MX11_line 2 := ⟨mo_X11_line, tb_6 (List.mem_of_getElem? (i := 80) rfl), tb_6 (List.mem_of_getElem? (i := 81) rfl)⟩
theorem mo_X11_handings : MO MX11_handings 0 := ⟨tb_6 (List.mem_of_getElem? (i := 97) rfl), ii_11, by decide +kernel, by decide +kernel, by decide⟩
theorem mv_X11_handings : MV MX11_handings 0 := ⟨mo_X11_handings, tb_6 (List.mem_of_getElem? (i := 95) rfl), tb_6 (List.mem_of_getElem? (i := 96) rfl)⟩
theorem mo_X11_handing : MO MX11_handing 2 := ⟨tb_6 (List.mem_of_getElem? (i := 101) rfl), ii_11, by decide +kernel, by decide +kernel, by decide⟩
theorem mv_X11_handing : MV MX11_handing 2 := ⟨mo_X11_handing, tb_6 (List.mem_of_getElem? (i := 99) rfl), tb_6 (List.mem_of_getElem? (i := 100) rfl)⟩
theorem mo_X11_failures : MO MX11_failures 0 := ⟨tb_6 (List.mem_of_getElem? (i := 105) rfl), ii_11, by decide +kernel, by decide +kernel, by decide⟩
theorem mv_X11_failures : MV MX11_failures 0 := ⟨mo_X11_failures, tb_6 (List.mem_of_getElem? (i := 103) rfl), tb_6 (List.mem_of_getElem? (i := 104) rfl)⟩
theorem mo_X11_failure : MO MX11_failure 2 := ⟨tb_6 (List.mem_of_getElem? (i := 117) rfl), ii_11, by decide +kernel, by decide +kernel, by decide⟩
theorem mv_X11_failure : MV MX11_failure 2 := ⟨mo_X11_failure, tb_6 (List.mem_of_getElem? (i := 115) rfl), tb_6 (List.mem_of_getElem? (i := 116) rfl)⟩
theorem mo_X11_ring : MO MX11_ring 1 := ⟨tb_6 (List.mem_of_getElem? (i := 125) rfl), ii_11, by decide +kernel, by decide +kernel, by decide⟩
theorem mv_X11_ring : MV MX11_ring 1 := ⟨mo_X11_ring, tb_6 (List.mem_of_getElem? (i := 123) rfl), tb_6 (List.mem_of_getElem? (i := 124) rfl)⟩
theorem mo_X11_count : MO MX11_count 1 := ⟨tb_6 (List.mem_of_getElem? (i := 133) rfl), ii_11, by decide +kernel, by decide +kernel, by decide⟩
theorem mv_X11_count : MV MX11_count 1 := ⟨mo_X11_count, tb_6 (List.mem_of_getElem? (i := 131) rfl), tb_6 (List.mem_of_getElem? (i := 132) rfl)⟩
theorem mo_X11_digest : MO MX11_digest 0 := ⟨tb_6 (List.mem_of_getElem? (i := 149) rfl), ii_11, by decide +kernel, by decide +kernel, by decide⟩
theorem mv_X11_digest : MV MX11_digest 0 := ⟨mo_X11_digest, tb_6 (List.mem_of_getElem? (i := 147) rfl), tb_6 (List.mem_of_getElem? (i := 148) rfl)⟩
theorem mo_X11_plays : MO MX11_plays 0 := ⟨tb_4 (List.mem_of_getElem? (i := 142) rfl), ii_11, by decide +kernel, by decide +kernel, by decide⟩
theorem mv_X11_plays : MV MX11_plays 0 := ⟨mo_X11_plays, tb_4 (List.mem_of_getElem? (i := 141) rfl), lw_pw 45 rfl rfl⟩
theorem mo_X11_hasArgument : MO MX11_hasArgument 1 := ⟨tb_6 (List.mem_of_getElem? (i := 67) rfl), ii_11, by decide +kernel, by decide +kernel, by decide⟩
theorem mv_X11_hasArgument : MV MX11_hasArgument 1 := ⟨mo_X11_hasArgument, tb_6 (List.mem_of_getElem? (i := 66) rfl), lw_pw 76 rfl rfl⟩
theorem mo_X11_kept : MO MX11_kept 3 := ⟨tb_6 (List.mem_of_getElem? (i := 85) rfl), ii_11, by decide +kernel, by decide +kernel, by decide⟩
theorem mv_X11_kept : MS MX11_kept 3 := ⟨mo_X11_kept, tb_6 (List.mem_of_getElem? (i := 84) rfl)⟩
theorem mo_X12_init : MO MX12_init 0 := ⟨tb_6 (List.mem_of_getElem? (i := 210) rfl), ii_12, by decide +kernel, by decide +kernel, by decide⟩
theorem mv_X12_init : MN MX12_init 0 := ⟨mo_X12_init, tb_6 (List.mem_of_getElem? (i := 209) rfl), rfl⟩
theorem mo_X13_init : MO MX13_init 0 := ⟨tb_6 (List.mem_of_getElem? (i := 167) rfl), ii_13, by decide +kernel, by decide +kernel, by decide⟩
theorem mv_X13_init : MN MX13_init 0 := ⟨mo_X13_init, tb_6 (List.mem_of_getElem? (i := 166) rfl), rfl⟩
theorem mo_X13_in : MO MX13_in 3 := ⟨tb_8 (List.mem_of_getElem? (i := 99) rfl), ii_13, by decide +kernel, by decide +kernel, by decide⟩
theorem mv_X13_in : MS MX13_in 3 := ⟨mo_X13_in, tb_8 (List.mem_of_getElem? (i := 98) rfl)⟩
theorem mo_X13_feed : MO MX13_feed 2 := ⟨tb_8 (List.mem_of_getElem? (i := 96) rfl), ii_13, by decide +kernel, by decide +kernel, by decide⟩
theorem mv_X13_feed : MV MX13_feed 2 := ⟨mo_X13_feed, tb_8 (List.mem_of_getElem? (i := 94) rfl), tb_8 (List.mem_of_getElem? (i := 95) rfl)⟩
theorem mo_X13_drop : MO MX13_drop 0 := ⟨tb_8 (List.mem_of_getElem? (i := 103) rfl), ii_13, by decide +kernel, by decide +kernel, by decide⟩
theorem mv_X13_drop : MV MX13_drop 0 := ⟨mo_X13_drop, tb_8 (List.mem_of_getElem? (i := 101) rfl), tb_8 (List.mem_of_getElem? (i := 102) rfl)⟩
theorem mo_X13_isLetter : MO MX13_isLetter 1 := ⟨tb_8 (List.mem_of_getElem? (i := 118) rfl), ii_13, by decide +kernel, by decide +kernel, by decide⟩
theorem mv_X13_isLetter : MS MX13_isLetter 1 := ⟨mo_X13_isLetter, tb_8 (List.mem_of_getElem? (i := 117) rfl)⟩
theorem mo_X13_isFigure : MO MX13_isFigure 1 := ⟨tb_8 (List.mem_of_getElem? (i := 132) rfl), ii_13, by decide +kernel, by decide +kernel, by decide⟩
theorem mv_X13_isFigure : MS MX13_isFigure 1 := ⟨mo_X13_isFigure, tb_8 (List.mem_of_getElem? (i := 131) rfl)⟩
theorem mo_X13_keyOf : MO MX13_keyOf 1 := ⟨tb_8 (List.mem_of_getElem? (i := 127) rfl), ii_13, by decide +kernel, by decide +kernel, by decide⟩
theorem mv_X13_keyOf : MV MX13_keyOf 1 := ⟨mo_X13_keyOf, tb_8 (List.mem_of_getElem? (i := 126) rfl), lw_pw 82 rfl rfl⟩
theorem mo_X13_isWordKey : MO MX13_isWordKey 1 := ⟨tb_8 (List.mem_of_getElem? (i := 123) rfl), ii_13, by decide +kernel, by decide +kernel, by decide⟩
theorem mv_X13_isWordKey : MV MX13_isWordKey 1 := ⟨mo_X13_isWordKey, tb_8 (List.mem_of_getElem? (i := 122) rfl), lw_pw 81 rfl rfl⟩
theorem mo_X13_cut : MO MX13_cut 0 := ⟨tb_8 (List.mem_of_getElem? (i := 115) rfl), ii_13, by decide +kernel, by decide +kernel, by decide⟩
theorem mv_X13_cut : MV MX13_cut 0 := ⟨mo_X13_cut, tb_8 (List.mem_of_getElem? (i := 114) rfl), lw_pw 80 rfl rfl⟩
theorem mo_X13_fail : MO MX13_fail 1 := ⟨tb_8 (List.mem_of_getElem? (i := 144) rfl), ii_13, by decide +kernel, by decide +kernel, by decide⟩
theorem mv_X13_fail : MV MX13_fail 1 := ⟨mo_X13_fail, tb_8 (List.mem_of_getElem? (i := 143) rfl), lw_pw 85 rfl rfl⟩
theorem mo_X13_isSign : MO MX13_isSign 1 := ⟨tb_8 (List.mem_of_getElem? (i := 156) rfl), ii_13, by decide +kernel, by decide +kernel, by decide⟩
theorem mv_X13_isSign : MV MX13_isSign 1 := ⟨mo_X13_isSign, tb_8 (List.mem_of_getElem? (i := 155) rfl), lw_pw 88 rfl rfl⟩
theorem mo_X13_isWord : MO MX13_isWord 1 := ⟨tb_8 (List.mem_of_getElem? (i := 140) rfl), ii_13, by decide +kernel, by decide +kernel, by decide⟩
theorem mv_X13_isWord : MV MX13_isWord 1 := ⟨mo_X13_isWord, tb_8 (List.mem_of_getElem? (i := 139) rfl), lw_pw 84 rfl rfl⟩
theorem mo_X13_mustSign : MO MX13_mustSign 1 := ⟨tb_8 (List.mem_of_getElem? (i := 164) rfl), ii_13, by decide +kernel, by decide +kernel, by decide⟩
theorem mv_X13_mustSign : MV MX13_mustSign 1 := ⟨mo_X13_mustSign, tb_8 (List.mem_of_getElem? (i := 163) rfl), lw_pw 90 rfl rfl⟩
theorem mo_X13_mustWord : MO MX13_mustWord 1 := ⟨tb_8 (List.mem_of_getElem? (i := 212) rfl), ii_13, by decide +kernel, by decide +kernel, by decide⟩
theorem mv_X13_mustWord : MV MX13_mustWord 1 := ⟨mo_X13_mustWord, tb_8 (List.mem_of_getElem? (i := 211) rfl), lw_pw 96 rfl rfl⟩
theorem mo_X13_mustName : MO MX13_mustName 0 := ⟨tb_8 (List.mem_of_getElem? (i := 148) rfl), ii_13, by decide +kernel, by decide +kernel, by decide⟩
theorem mv_X13_mustName : MV MX13_mustName 0 := ⟨mo_X13_mustName, tb_8 (List.mem_of_getElem? (i := 147) rfl), lw_pw 86 rfl rfl⟩
theorem mo_X13_mustNumber : MO MX13_mustNumber 0 := ⟨tb_8 (List.mem_of_getElem? (i := 201) rfl), ii_13, by decide +kernel, by decide +kernel, by decide⟩
theorem mv_X13_mustNumber : MV MX13_mustNumber 0 := ⟨mo_X13_mustNumber, tb_8 (List.mem_of_getElem? (i := 200) rfl), lw_pw 94 rfl rfl⟩
theorem mo_X13_opens : MO MX13_opens 0 := ⟨tb_8 (List.mem_of_getElem? (i := 160) rfl), ii_13, by decide +kernel, by decide +kernel, by decide⟩
theorem mv_X13_opens : MV MX13_opens 0 := ⟨mo_X13_opens, tb_8 (List.mem_of_getElem? (i := 159) rfl), lw_pw 89 rfl rfl⟩
theorem mo_X13_closes : MO MX13_closes 1 := ⟨tb_8 (List.mem_of_getElem? (i := 172) rfl), ii_13, by decide +kernel, by decide +kernel, by decide⟩
theorem mv_X13_closes : MV MX13_closes 1 := ⟨mo_X13_closes, tb_8 (List.mem_of_getElem? (i := 171) rfl), lw_pw 92 rfl rfl⟩
theorem mo_X13_emit : MO MX13_emit 3 := ⟨tb_8 (List.mem_of_getElem? (i := 182) rfl), ii_13, by decide +kernel, by decide +kernel, by decide⟩
theorem mv_X13_emit : MV MX13_emit 3 := ⟨mo_X13_emit, tb_8 (List.mem_of_getElem? (i := 181) rfl), lw_pw 93 rfl rfl⟩
theorem mo_X13_blame : MO MX13_blame 1 := ⟨tb_8 (List.mem_of_getElem? (i := 152) rfl), ii_13, by decide +kernel, by decide +kernel, by decide⟩
theorem mv_X13_blame : MV MX13_blame 1 := ⟨mo_X13_blame, tb_8 (List.mem_of_getElem? (i := 151) rfl), lw_pw 87 rfl rfl⟩
theorem mo_X13_variable : MO MX13_variable 1 := ⟨tb_8 (List.mem_of_getElem? (i := 168) rfl), ii_13, by decide +kernel, by decide +kernel, by decide⟩
theorem mv_X13_variable : MV MX13_variable 1 := ⟨mo_X13_variable, tb_8 (List.mem_of_getElem? (i := 167) rfl), lw_pw 91 rfl rfl⟩
theorem mo_X13_readBlock : MO MX13_readBlock 1 := ⟨tb_8 (List.mem_of_getElem? (i := 175) rfl), ii_13, by decide +kernel, by decide +kernel, by decide⟩
theorem mv_X13_readBlock : MS MX13_readBlock 1 := ⟨mo_X13_readBlock, tb_8 (List.mem_of_getElem? (i := 174) rfl)⟩
theorem mo_X13_readStatement : MO MX13_readStatement 1 := ⟨tb_8 (List.mem_of_getElem? (i := 178) rfl), ii_13, by decide +kernel, by decide +kernel, by decide⟩
theorem mv_X13_readStatement : MS MX13_readStatement 1 := ⟨mo_X13_readStatement, tb_8 (List.mem_of_getElem? (i := 177) rfl)⟩
theorem mo_X13_readTest : MO MX13_readTest 1 := ⟨tb_8 (List.mem_of_getElem? (i := 215) rfl), ii_13, by decide +kernel, by decide +kernel, by decide⟩
theorem mv_X13_readTest : MS MX13_readTest 1 := ⟨mo_X13_readTest, tb_8 (List.mem_of_getElem? (i := 214) rfl)⟩
theorem mo_X13_readEach : MO MX13_readEach 2 := ⟨tb_8 (List.mem_of_getElem? (i := 218) rfl), ii_13, by decide +kernel, by decide +kernel, by decide⟩
theorem mv_X13_readEach : MS MX13_readEach 2 := ⟨mo_X13_readEach, tb_8 (List.mem_of_getElem? (i := 217) rfl)⟩
theorem mo_X13_readTry : MO MX13_readTry 1 := ⟨tb_8 (List.mem_of_getElem? (i := 221) rfl), ii_13, by decide +kernel, by decide +kernel, by decide⟩
theorem mv_X13_readTry : MS MX13_readTry 1 := ⟨mo_X13_readTry, tb_8 (List.mem_of_getElem? (i := 220) rfl)⟩
theorem mo_X13_readE : MO MX13_readE 1 := ⟨tb_8 (List.mem_of_getElem? (i := 185) rfl), ii_13, by decide +kernel, by decide +kernel, by decide⟩
theorem mv_X13_readE : MS MX13_readE 1 := ⟨mo_X13_readE, tb_8 (List.mem_of_getElem? (i := 184) rfl)⟩
theorem mo_X13_readS : MO MX13_readS 1 := ⟨tb_8 (List.mem_of_getElem? (i := 188) rfl), ii_13, by decide +kernel, by decide +kernel, by decide⟩
theorem mv_X13_readS : MS MX13_readS 1 := ⟨mo_X13_readS, tb_8 (List.mem_of_getElem? (i := 187) rfl)⟩
theorem mo_X13_readT : MO MX13_readT 1 := ⟨tb_8 (List.mem_of_getElem? (i := 191) rfl), ii_13, by decide +kernel, by decide +kernel, by decide⟩
theorem mv_X13_readT : MS MX13_readT 1 := ⟨mo_X13_readT, tb_8 (List.mem_of_getElem? (i := 190) rfl)⟩
theorem mo_X13_readU : MO MX13_readU 1 := ⟨tb_8 (List.mem_of_getElem? (i := 194) rfl), ii_13, by decide +kernel, by decide +kernel, by decide⟩
theorem mv_X13_readU : MS MX13_readU 1 := ⟨mo_X13_readU, tb_8 (List.mem_of_getElem? (i := 193) rfl)⟩
theorem mo_X13_readP : MO MX13_readP 1 := ⟨tb_8 (List.mem_of_getElem? (i := 197) rfl), ii_13, by decide +kernel, by decide +kernel, by decide⟩
theorem mv_X13_readP : MS MX13_readP 1 := ⟨mo_X13_readP, tb_8 (List.mem_of_getElem? (i := 196) rfl)⟩
theorem mo_X13_isComma : MO MX13_isComma 1 := ⟨tb_8 (List.mem_of_getElem? (i := 204) rfl), ii_13, by decide +kernel, by decide +kernel, by decide⟩
theorem mv_X13_isComma : MS MX13_isComma 1 := ⟨mo_X13_isComma, tb_8 (List.mem_of_getElem? (i := 203) rfl)⟩
theorem mo_X13_asksFor : MO MX13_asksFor 3 := ⟨tb_8 (List.mem_of_getElem? (i := 208) rfl), ii_13, by decide +kernel, by decide +kernel, by decide⟩
theorem mv_X13_asksFor : MV MX13_asksFor 3 := ⟨mo_X13_asksFor, tb_8 (List.mem_of_getElem? (i := 207) rfl), lw_pw 95 rfl rfl⟩
theorem mo_X13_readBody : MO MX13_readBody 0 := ⟨tb_8 (List.mem_of_getElem? (i := 136) rfl), ii_13, by decide +kernel, by decide +kernel, by decide⟩
theorem mv_X13_readBody : MV MX13_readBody 0 := ⟨mo_X13_readBody, tb_8 (List.mem_of_getElem? (i := 135) rfl), lw_pw 83 rfl rfl⟩
theorem mo_X13_body : MO MX13_body 2 := ⟨tb_8 (List.mem_of_getElem? (i := 225) rfl), ii_13, by decide +kernel, by decide +kernel, by decide⟩
theorem mv_X13_body : MV MX13_body 2 := ⟨mo_X13_body, tb_8 (List.mem_of_getElem? (i := 223) rfl), tb_8 (List.mem_of_getElem? (i := 224) rfl)⟩
theorem mo_X13_begins : MO MX13_begins 0 := ⟨tb_8 (List.mem_of_getElem? (i := 111) rfl), ii_13, by decide +kernel, by decide +kernel, by decide⟩
theorem mv_X13_begins : MV MX13_begins 0 := ⟨mo_X13_begins, tb_8 (List.mem_of_getElem? (i := 110) rfl), lw_pw 79 rfl rfl⟩
theorem mo_X13_isVoice : MO MX13_isVoice 1 := ⟨tb_9 (List.mem_of_getElem? (i := 5) rfl), ii_13, by decide +kernel, by decide +kernel, by decide⟩
theorem mv_X13_isVoice : MV MX13_isVoice 1 := ⟨mo_X13_isVoice, tb_9 (List.mem_of_getElem? (i := 4) rfl), lw_pw 99 rfl rfl⟩
theorem mo_X13_isOver : MO MX13_isOver 1 := ⟨tb_9 (List.mem_of_getElem? (i := 9) rfl), ii_13, by decide +kernel, by decide +kernel, by decide⟩
theorem mv_X13_isOver : MV MX13_isOver 1 := ⟨mo_X13_isOver, tb_9 (List.mem_of_getElem? (i := 8) rfl), lw_pw 100 rfl rfl⟩
theorem mo_X13_made : MO MX13_made 3 := ⟨tb_8 (List.mem_of_getElem? (i := 237) rfl), ii_13, by decide +kernel, by decide +kernel, by decide⟩
theorem mv_X13_made : MV MX13_made 3 := ⟨mo_X13_made, tb_8 (List.mem_of_getElem? (i := 236) rfl), lw_pw 98 rfl rfl⟩
theorem mo_X13_failure : MO MX13_failure 5 := ⟨tb_9 (List.mem_of_getElem? (i := 57) rfl), ii_13, by decide +kernel, by decide +kernel, by decide⟩
theorem mv_X13_failure : MV MX13_failure 5 := ⟨mo_X13_failure, tb_9 (List.mem_of_getElem? (i := 56) rfl), lw_pw 112 rfl rfl⟩
theorem mo_X13_hands : MO MX13_hands 2 := ⟨tb_9 (List.mem_of_getElem? (i := 17) rfl), ii_13, by decide +kernel, by decide +kernel, by decide⟩
theorem mv_X13_hands : MV MX13_hands 2 := ⟨mo_X13_hands, tb_9 (List.mem_of_getElem? (i := 16) rfl), lw_pw 102 rfl rfl⟩
theorem mo_X13_call : MO MX13_call 1 := ⟨tb_9 (List.mem_of_getElem? (i := 45) rfl), ii_13, by decide +kernel, by decide +kernel, by decide⟩
theorem mv_X13_call : MV MX13_call 1 := ⟨mo_X13_call, tb_9 (List.mem_of_getElem? (i := 44) rfl), lw_pw 109 rfl rfl⟩
theorem mo_X13_push : MO MX13_push 2 := ⟨tb_9 (List.mem_of_getElem? (i := 25) rfl), ii_13, by decide +kernel, by decide +kernel, by decide⟩
theorem mv_X13_push : MV MX13_push 2 := ⟨mo_X13_push, tb_9 (List.mem_of_getElem? (i := 24) rfl), lw_pw 104 rfl rfl⟩
theorem mo_X13_pop : MO MX13_pop 1 := ⟨tb_9 (List.mem_of_getElem? (i := 33) rfl), ii_13, by decide +kernel, by decide +kernel, by decide⟩
theorem mv_X13_pop : MV MX13_pop 1 := ⟨mo_X13_pop, tb_9 (List.mem_of_getElem? (i := 32) rfl), lw_pw 106 rfl rfl⟩
theorem mo_X13_enter : MO MX13_enter 3 := ⟨tb_9 (List.mem_of_getElem? (i := 29) rfl), ii_13, by decide +kernel, by decide +kernel, by decide⟩
theorem mv_X13_enter : MV MX13_enter 3 := ⟨mo_X13_enter, tb_9 (List.mem_of_getElem? (i := 28) rfl), lw_pw 105 rfl rfl⟩
theorem mo_X13_start : MO MX13_start 1 := ⟨tb_9 (List.mem_of_getElem? (i := 21) rfl), ii_13, by decide +kernel, by decide +kernel, by decide⟩
theorem mv_X13_start : MV MX13_start 1 := ⟨mo_X13_start, tb_9 (List.mem_of_getElem? (i := 20) rfl), lw_pw 103 rfl rfl⟩
theorem mo_X13_over : MO MX13_over 2 := ⟨tb_9 (List.mem_of_getElem? (i := 72) rfl), ii_13, by decide +kernel, by decide +kernel, by decide⟩
theorem mv_X13_over : MV MX13_over 2 := ⟨mo_X13_over, tb_9 (List.mem_of_getElem? (i := 71) rfl), lw_pw 115 rfl rfl⟩
theorem mo_X13_placeOf : MO MX13_placeOf 1 := ⟨tb_9 (List.mem_of_getElem? (i := 53) rfl), ii_13, by decide +kernel, by decide +kernel, by decide⟩
theorem mv_X13_placeOf : MV MX13_placeOf 1 := ⟨mo_X13_placeOf, tb_9 (List.mem_of_getElem? (i := 52) rfl), lw_pw 111 rfl rfl⟩
theorem mo_X13_step : MO MX13_step 1 := ⟨tb_9 (List.mem_of_getElem? (i := 92) rfl), ii_13, by decide +kernel, by decide +kernel, by decide⟩
theorem mv_X13_step : MV MX13_step 1 := ⟨mo_X13_step, tb_9 (List.mem_of_getElem? (i := 91) rfl), lw_pw 120 rfl rfl⟩
theorem mo_X13_spend : MO MX13_spend 1 := ⟨tb_9 (List.mem_of_getElem? (i := 96) rfl), ii_13, by decide +kernel, by decide +kernel, by decide⟩
theorem mv_X13_spend : MV MX13_spend 1 := ⟨mo_X13_spend, tb_9 (List.mem_of_getElem? (i := 95) rfl), lw_pw 121 rfl rfl⟩
theorem mo_X13_arises : MO MX13_arises 2 := ⟨tb_9 (List.mem_of_getElem? (i := 49) rfl), ii_13, by decide +kernel, by decide +kernel, by decide⟩
theorem mv_X13_arises : MV MX13_arises 2 := ⟨mo_X13_arises, tb_9 (List.mem_of_getElem? (i := 48) rfl), lw_pw 110 rfl rfl⟩
theorem mo_X13_raiseIn : MO MX13_raiseIn 3 := ⟨tb_9 (List.mem_of_getElem? (i := 64) rfl), ii_13, by decide +kernel, by decide +kernel, by decide⟩
theorem mv_X13_raiseIn : MS MX13_raiseIn 3 := ⟨mo_X13_raiseIn, tb_9 (List.mem_of_getElem? (i := 63) rfl)⟩
theorem mo_X13_raise : MO MX13_raise 2 := ⟨tb_9 (List.mem_of_getElem? (i := 61) rfl), ii_13, by decide +kernel, by decide +kernel, by decide⟩
theorem mv_X13_raise : MV MX13_raise 2 := ⟨mo_X13_raise, tb_9 (List.mem_of_getElem? (i := 60) rfl), lw_pw 113 rfl rfl⟩
theorem mo_X13_beneath : MO MX13_beneath 2 := ⟨tb_9 (List.mem_of_getElem? (i := 84) rfl), ii_13, by decide +kernel, by decide +kernel, by decide⟩
theorem mv_X13_beneath : MV MX13_beneath 2 := ⟨mo_X13_beneath, tb_9 (List.mem_of_getElem? (i := 83) rfl), lw_pw 118 rfl rfl⟩
theorem mo_X13_isCaught : MO MX13_isCaught 4 := ⟨tb_9 (List.mem_of_getElem? (i := 76) rfl), ii_13, by decide +kernel, by decide +kernel, by decide⟩
theorem mv_X13_isCaught : MV MX13_isCaught 4 := ⟨mo_X13_isCaught, tb_9 (List.mem_of_getElem? (i := 75) rfl), lw_pw 116 rfl rfl⟩
theorem mo_X13_finishes : MO MX13_finishes 4 := ⟨tb_9 (List.mem_of_getElem? (i := 80) rfl), ii_13, by decide +kernel, by decide +kernel, by decide⟩
theorem mv_X13_finishes : MV MX13_finishes 4 := ⟨mo_X13_finishes, tb_9 (List.mem_of_getElem? (i := 79) rfl), lw_pw 117 rfl rfl⟩
theorem mo_X13_leaves : MO MX13_leaves 2 := ⟨tb_9 (List.mem_of_getElem? (i := 68) rfl), ii_13, by decide +kernel, by decide +kernel, by decide⟩
theorem mv_X13_leaves : MV MX13_leaves 2 := ⟨mo_X13_leaves, tb_9 (List.mem_of_getElem? (i := 67) rfl), lw_pw 114 rfl rfl⟩
theorem mo_X13_gives : MO MX13_gives 3 := ⟨tb_9 (List.mem_of_getElem? (i := 147) rfl), ii_13, by decide +kernel, by decide +kernel, by decide⟩
theorem mv_X13_gives : MS MX13_gives 3 := ⟨mo_X13_gives, tb_9 (List.mem_of_getElem? (i := 146) rfl)⟩
theorem mo_X13_comes : MO MX13_comes 4 := ⟨tb_9 (List.mem_of_getElem? (i := 104) rfl), ii_13, by decide +kernel, by decide +kernel, by decide⟩
theorem mv_X13_comes : MV MX13_comes 4 := ⟨mo_X13_comes, tb_9 (List.mem_of_getElem? (i := 103) rfl), lw_pw 123 rfl rfl⟩
theorem mo_X13_isMisuse : MO MX13_isMisuse 2 := ⟨tb_9 (List.mem_of_getElem? (i := 116) rfl), ii_13, by decide +kernel, by decide +kernel, by decide⟩
theorem mv_X13_isMisuse : MV MX13_isMisuse 2 := ⟨mo_X13_isMisuse, tb_9 (List.mem_of_getElem? (i := 115) rfl), lw_pw 126 rfl rfl⟩
theorem mo_X13_ringOf : MO MX13_ringOf 2 := ⟨tb_9 (List.mem_of_getElem? (i := 120) rfl), ii_13, by decide +kernel, by decide +kernel, by decide⟩
theorem mv_X13_ringOf : MV MX13_ringOf 2 := ⟨mo_X13_ringOf, tb_9 (List.mem_of_getElem? (i := 119) rfl), lw_pw 127 rfl rfl⟩
theorem mo_X13_goesTo : MO MX13_goesTo 3 := ⟨tb_9 (List.mem_of_getElem? (i := 13) rfl), ii_13, by decide +kernel, by decide +kernel, by decide⟩
theorem mv_X13_goesTo : MV MX13_goesTo 3 := ⟨mo_X13_goesTo, tb_9 (List.mem_of_getElem? (i := 12) rfl), lw_pw 101 rfl rfl⟩
theorem mo_X13_resumes : MO MX13_resumes 4 := ⟨tb_9 (List.mem_of_getElem? (i := 112) rfl), ii_13, by decide +kernel, by decide +kernel, by decide⟩
theorem mv_X13_resumes : MV MX13_resumes 4 := ⟨mo_X13_resumes, tb_9 (List.mem_of_getElem? (i := 111) rfl), lw_pw 125 rfl rfl⟩
theorem mo_X13_yields : MO MX13_yields 2 := ⟨tb_9 (List.mem_of_getElem? (i := 100) rfl), ii_13, by decide +kernel, by decide +kernel, by decide⟩
theorem mv_X13_yields : MV MX13_yields 2 := ⟨mo_X13_yields, tb_9 (List.mem_of_getElem? (i := 99) rfl), lw_pw 122 rfl rfl⟩
theorem mo_X13_handsOn : MO MX13_handsOn 3 := ⟨tb_9 (List.mem_of_getElem? (i := 132) rfl), ii_13, by decide +kernel, by decide +kernel, by decide⟩
theorem mv_X13_handsOn : MV MX13_handsOn 3 := ⟨mo_X13_handsOn, tb_9 (List.mem_of_getElem? (i := 131) rfl), lw_pw 130 rfl rfl⟩
theorem mo_X13_injects : MO MX13_injects 4 := ⟨tb_9 (List.mem_of_getElem? (i := 124) rfl), ii_13, by decide +kernel, by decide +kernel, by decide⟩
theorem mv_X13_injects : MV MX13_injects 4 := ⟨mo_X13_injects, tb_9 (List.mem_of_getElem? (i := 123) rfl), lw_pw 128 rfl rfl⟩
theorem mo_X13_thrownInto : MO MX13_thrownInto 3 := ⟨tb_9 (List.mem_of_getElem? (i := 128) rfl), ii_13, by decide +kernel, by decide +kernel, by decide⟩
theorem mv_X13_thrownInto : MV MX13_thrownInto 3 := ⟨mo_X13_thrownInto, tb_9 (List.mem_of_getElem? (i := 127) rfl), lw_pw 129 rfl rfl⟩
theorem mo_X13_shuts : MO MX13_shuts 2 := ⟨tb_9 (List.mem_of_getElem? (i := 151) rfl), ii_13, by decide +kernel, by decide +kernel, by decide⟩
theorem mv_X13_shuts : MV MX13_shuts 2 := ⟨mo_X13_shuts, tb_9 (List.mem_of_getElem? (i := 150) rfl), lw_pw 134 rfl rfl⟩
theorem mo_X13_reckon : MO MX13_reckon 3 := ⟨tb_9 (List.mem_of_getElem? (i := 88) rfl), ii_13, by decide +kernel, by decide +kernel, by decide⟩
theorem mv_X13_reckon : MV MX13_reckon 3 := ⟨mo_X13_reckon, tb_9 (List.mem_of_getElem? (i := 87) rfl), lw_pw 119 rfl rfl⟩
theorem mo_X13_goesOn : MO MX13_goesOn 0 := ⟨tb_9 (List.mem_of_getElem? (i := 41) rfl), ii_13, by decide +kernel, by decide +kernel, by decide⟩
theorem mv_X13_goesOn : MV MX13_goesOn 0 := ⟨mo_X13_goesOn, tb_9 (List.mem_of_getElem? (i := 40) rfl), lw_pw 108 rfl rfl⟩
theorem mo_X13_makes : MO MX13_makes 3 := ⟨tb_9 (List.mem_of_getElem? (i := 108) rfl), ii_13, by decide +kernel, by decide +kernel, by decide⟩
theorem mv_X13_makes : MV MX13_makes 3 := ⟨mo_X13_makes, tb_9 (List.mem_of_getElem? (i := 107) rfl), lw_pw 124 rfl rfl⟩
theorem mo_X13_calls : MO MX13_calls 3 := ⟨tb_9 (List.mem_of_getElem? (i := 136) rfl), ii_13, by decide +kernel, by decide +kernel, by decide⟩
theorem mv_X13_calls : MV MX13_calls 3 := ⟨mo_X13_calls, tb_9 (List.mem_of_getElem? (i := 135) rfl), lw_pw 131 rfl rfl⟩
theorem mo_X13_controls : MO MX13_controls 5 := ⟨tb_9 (List.mem_of_getElem? (i := 140) rfl), ii_13, by decide +kernel, by decide +kernel, by decide⟩
theorem mv_X13_controls : MV MX13_controls 5 := ⟨mo_X13_controls, tb_9 (List.mem_of_getElem? (i := 139) rfl), lw_pw 132 rfl rfl⟩
theorem mo_X13_tells : MO MX13_tells 2 := ⟨tb_9 (List.mem_of_getElem? (i := 144) rfl), ii_13, by decide +kernel, by decide +kernel, by decide⟩
theorem mv_X13_tells : MV MX13_tells 2 := ⟨mo_X13_tells, tb_9 (List.mem_of_getElem? (i := 143) rfl), lw_pw 133 rfl rfl⟩
theorem mo_X13_goes : MO MX13_goes 0 := ⟨tb_9 (List.mem_of_getElem? (i := 37) rfl), ii_13, by decide +kernel, by decide +kernel, by decide⟩
theorem mv_X13_goes : MV MX13_goes 0 := ⟨mo_X13_goes, tb_9 (List.mem_of_getElem? (i := 36) rfl), lw_pw 107 rfl rfl⟩
theorem mo_X13_isSilent : MO MX13_isSilent 0 := ⟨tb_8 (List.mem_of_getElem? (i := 233) rfl), ii_13, by decide +kernel, by decide +kernel, by decide⟩
theorem mv_X13_isSilent : MV MX13_isSilent 0 := ⟨mo_X13_isSilent, tb_8 (List.mem_of_getElem? (i := 232) rfl), lw_pw 97 rfl rfl⟩
theorem mo_X13_voice : MO MX13_voice 2 := ⟨tb_8 (List.mem_of_getElem? (i := 229) rfl), ii_13, by decide +kernel, by decide +kernel, by decide⟩
theorem mv_X13_voice : MV MX13_voice 2 := ⟨mo_X13_voice, tb_8 (List.mem_of_getElem? (i := 227) rfl), tb_8 (List.mem_of_getElem? (i := 228) rfl)⟩
theorem mo_X13_resume : MO MX13_resume 2 := ⟨tb_9 (List.mem_of_getElem? (i := 1) rfl), ii_13, by decide +kernel, by decide +kernel, by decide⟩
theorem mv_X13_resume : MV MX13_resume 2 := ⟨mo_X13_resume, tb_8 (List.mem_of_getElem? (i := 239) rfl), tb_9 (List.mem_of_getElem? (i := 0) rfl)⟩
theorem mo_X13_inject : MO MX13_inject 3 := ⟨tb_9 (List.mem_of_getElem? (i := 155) rfl), ii_13, by decide +kernel, by decide +kernel, by decide⟩
theorem mv_X13_inject : MV MX13_inject 3 := ⟨mo_X13_inject, tb_9 (List.mem_of_getElem? (i := 153) rfl), tb_9 (List.mem_of_getElem? (i := 154) rfl)⟩
theorem mo_X13_closes_ : MO MX13_closes_ 2 := ⟨tb_9 (List.mem_of_getElem? (i := 163) rfl), ii_13, by decide +kernel, by decide +kernel, by decide⟩
theorem mv_X13_closes_ : MV MX13_closes_ 2 := ⟨mo_X13_closes_, tb_9 (List.mem_of_getElem? (i := 162) rfl), lw_pw 135 rfl rfl⟩
theorem mo_X13_close : MO MX13_close 1 := ⟨tb_9 (List.mem_of_getElem? (i := 159) rfl), ii_13, by decide +kernel, by decide +kernel, by decide⟩
theorem mv_X13_close : MV MX13_close 1 := ⟨mo_X13_close, tb_9 (List.mem_of_getElem? (i := 157) rfl), tb_9 (List.mem_of_getElem? (i := 158) rfl)⟩
theorem mo_X13_reach : MO MX13_reach 1 := ⟨tb_9 (List.mem_of_getElem? (i := 175) rfl), ii_13, by decide +kernel, by decide +kernel, by decide⟩
theorem mv_X13_reach : MV MX13_reach 1 := ⟨mo_X13_reach, tb_9 (List.mem_of_getElem? (i := 174) rfl), lw_pw 137 rfl rfl⟩
theorem mo_X13_reachFrom : MO MX13_reachFrom 1 := ⟨tb_9 (List.mem_of_getElem? (i := 171) rfl), ii_13, by decide +kernel, by decide +kernel, by decide⟩
theorem mv_X13_reachFrom : MV MX13_reachFrom 1 := ⟨mo_X13_reachFrom, tb_9 (List.mem_of_getElem? (i := 170) rfl), lw_pw 136 rfl rfl⟩
theorem mo_X13_sweep : MO MX13_sweep 0 := ⟨tb_9 (List.mem_of_getElem? (i := 167) rfl), ii_13, by decide +kernel, by decide +kernel, by decide⟩
theorem mv_X13_sweep : MV MX13_sweep 0 := ⟨mo_X13_sweep, tb_9 (List.mem_of_getElem? (i := 165) rfl), tb_9 (List.mem_of_getElem? (i := 166) rfl)⟩
theorem mo_X13_answer : MO MX13_answer 0 := ⟨tb_9 (List.mem_of_getElem? (i := 179) rfl), ii_13, by decide +kernel, by decide +kernel, by decide⟩
theorem mv_X13_answer : MV MX13_answer 0 := ⟨mo_X13_answer, tb_9 (List.mem_of_getElem? (i := 177) rfl), tb_9 (List.mem_of_getElem? (i := 178) rfl)⟩
theorem mo_X13_callMany : MO MX13_callMany 1 := ⟨tb_9 (List.mem_of_getElem? (i := 191) rfl), ii_13, by decide +kernel, by decide +kernel, by decide⟩
theorem mv_X13_callMany : MV MX13_callMany 1 := ⟨mo_X13_callMany, tb_9 (List.mem_of_getElem? (i := 190) rfl), lw_pw 139 rfl rfl⟩
theorem mo_X13_tellsOf : MO MX13_tellsOf 2 := ⟨tb_9 (List.mem_of_getElem? (i := 187) rfl), ii_13, by decide +kernel, by decide +kernel, by decide⟩
theorem mv_X13_tellsOf : MV MX13_tellsOf 2 := ⟨mo_X13_tellsOf, tb_9 (List.mem_of_getElem? (i := 186) rfl), lw_pw 138 rfl rfl⟩
theorem mo_X13_told : MO MX13_told 2 := ⟨tb_9 (List.mem_of_getElem? (i := 183) rfl), ii_13, by decide +kernel, by decide +kernel, by decide⟩
theorem mv_X13_told : MV MX13_told 2 := ⟨mo_X13_told, tb_9 (List.mem_of_getElem? (i := 181) rfl), tb_9 (List.mem_of_getElem? (i := 182) rfl)⟩
theorem mo_X13_local : MO MX13_local 3 := ⟨tb_9 (List.mem_of_getElem? (i := 195) rfl), ii_13, by decide +kernel, by decide +kernel, by decide⟩
theorem mv_X13_local : MV MX13_local 3 := ⟨mo_X13_local, tb_9 (List.mem_of_getElem? (i := 193) rfl), tb_9 (List.mem_of_getElem? (i := 194) rfl)⟩
theorem mo_X13_lines : MO MX13_lines 0 := ⟨tb_9 (List.mem_of_getElem? (i := 199) rfl), ii_13, by decide +kernel, by decide +kernel, by decide⟩
theorem mv_X13_lines : MV MX13_lines 0 := ⟨mo_X13_lines, tb_9 (List.mem_of_getElem? (i := 197) rfl), tb_9 (List.mem_of_getElem? (i := 198) rfl)⟩
theorem mo_X13_line : MO MX13_line 2 := ⟨tb_9 (List.mem_of_getElem? (i := 203) rfl), ii_13, by decide +kernel, by decide +kernel, by decide⟩
theorem mv_X13_line : MV MX13_line 2 := ⟨mo_X13_line, tb_9 (List.mem_of_getElem? (i := 201) rfl), tb_9 (List.mem_of_getElem? (i := 202) rfl)⟩
theorem mo_X13_handings : MO MX13_handings 0 := ⟨tb_9 (List.mem_of_getElem? (i := 207) rfl), ii_13, by decide +kernel, by decide +kernel, by decide⟩
theorem mv_X13_handings : MV MX13_handings 0 := ⟨mo_X13_handings, tb_9 (List.mem_of_getElem? (i := 205) rfl), tb_9 (List.mem_of_getElem? (i := 206) rfl)⟩
theorem mo_X13_handing : MO MX13_handing 2 := ⟨tb_9 (List.mem_of_getElem? (i := 211) rfl), ii_13, by decide +kernel, by decide +kernel, by decide⟩
theorem mv_X13_handing : MV MX13_handing 2 := ⟨mo_X13_handing, tb_9 (List.mem_of_getElem? (i := 209) rfl), tb_9 (List.mem_of_getElem? (i := 210) rfl)⟩
theorem mo_X13_tellFailure : MO MX13_tellFailure 4 := ⟨tb_9 (List.mem_of_getElem? (i := 222) rfl), ii_13, by decide +kernel, by decide +kernel, by decide⟩
theorem mv_X13_tellFailure : MS MX13_tellFailure 4 := ⟨mo_X13_tellFailure, tb_9 (List.mem_of_getElem? (i := 221) rfl)⟩
theorem mo_X13_tellFailures : MO MX13_tellFailures 0 := ⟨tb_9 (List.mem_of_getElem? (i := 219) rfl), ii_13, by decide +kernel, by decide +kernel, by decide⟩
theorem mv_X13_tellFailures : MV MX13_tellFailures 0 := ⟨mo_X13_tellFailures, tb_9 (List.mem_of_getElem? (i := 218) rfl), lw_pw 140 rfl rfl⟩
theorem mo_X13_failures : MO MX13_failures 0 := ⟨tb_9 (List.mem_of_getElem? (i := 215) rfl), ii_13, by decide +kernel, by decide +kernel, by decide⟩
theorem mv_X13_failures : MV MX13_failures 0 := ⟨mo_X13_failures, tb_9 (List.mem_of_getElem? (i := 213) rfl), tb_9 (List.mem_of_getElem? (i := 214) rfl)⟩
theorem mo_X13_failure_ : MO MX13_failure_ 2 := ⟨tb_9 (List.mem_of_getElem? (i := 226) rfl), ii_13, by decide +kernel, by decide +kernel, by decide⟩
theorem mv_X13_failure_ : MV MX13_failure_ 2 := ⟨mo_X13_failure_, tb_9 (List.mem_of_getElem? (i := 224) rfl), tb_9 (List.mem_of_getElem? (i := 225) rfl)⟩
theorem mo_X13_ring : MO MX13_ring 1 := ⟨tb_9 (List.mem_of_getElem? (i := 230) rfl), ii_13, by decide +kernel, by decide +kernel, by decide⟩
theorem mv_X13_ring : MV MX13_ring 1 := ⟨mo_X13_ring, tb_9 (List.mem_of_getElem? (i := 228) rfl), tb_9 (List.mem_of_getElem? (i := 229) rfl)⟩
theorem mo_X13_count : MO MX13_count 1 := ⟨tb_9 (List.mem_of_getElem? (i := 234) rfl), ii_13, by decide +kernel, by decide +kernel, by decide⟩
theorem mv_X13_count : MV MX13_count 1 := ⟨mo_X13_count, tb_9 (List.mem_of_getElem? (i := 232) rfl), tb_9 (List.mem_of_getElem? (i := 233) rfl)⟩
theorem mo_X13_digest : MO MX13_digest 0 := ⟨tb_9 (List.mem_of_getElem? (i := 238) rfl), ii_13, by decide +kernel, by decide +kernel, by decide⟩
theorem mv_X13_digest : MV MX13_digest 0 := ⟨mo_X13_digest, tb_9 (List.mem_of_getElem? (i := 236) rfl), tb_9 (List.mem_of_getElem? (i := 237) rfl)⟩
theorem mo_J0_length_8abf5 : MO MJ0_length_8abf5 0 := ⟨tb_1 (List.mem_of_getElem? (i := 99) rfl), ii_17, by decide +kernel, by decide +kernel, by decide⟩
theorem mv_J0_length_8abf5 : MV MJ0_length_8abf5 0 := ⟨mo_J0_length_8abf5, tb_1 (List.mem_of_getElem? (i := 97) rfl), tb_1 (List.mem_of_getElem? (i := 98) rfl)⟩
theorem mo_J0_charAt_5068e : MO MJ0_charAt_5068e 1 := ⟨tb_1 (List.mem_of_getElem? (i := 109) rfl), ii_17, by decide +kernel, by decide +kernel, by decide⟩
theorem mv_J0_charAt_5068e : MV MJ0_charAt_5068e 1 := ⟨mo_J0_charAt_5068e, tb_1 (List.mem_of_getElem? (i := 107) rfl), tb_1 (List.mem_of_getElem? (i := 108) rfl)⟩
theorem mo_J0_indexOf_0f7a4 : MO MJ0_indexOf_0f7a4 1 := ⟨tb_2 (List.mem_of_getElem? (i := 223) rfl), ii_17, by decide +kernel, by decide +kernel, by decide⟩
theorem mv_J0_indexOf_0f7a4 : MV MJ0_indexOf_0f7a4 1 := ⟨mo_J0_indexOf_0f7a4, tb_2 (List.mem_of_getElem? (i := 221) rfl), tb_2 (List.mem_of_getElem? (i := 222) rfl)⟩
theorem mo_J0_indexOf_7cf53 : MO MJ0_indexOf_7cf53 2 := ⟨tb_2 (List.mem_of_getElem? (i := 227) rfl), ii_17, by decide +kernel, by decide +kernel, by decide⟩
theorem mv_J0_indexOf_7cf53 : MV MJ0_indexOf_7cf53 2 := ⟨mo_J0_indexOf_7cf53, tb_2 (List.mem_of_getElem? (i := 225) rfl), tb_2 (List.mem_of_getElem? (i := 226) rfl)⟩
theorem mo_J0_coder_7d493 : MO MJ0_coder_7d493 0 := ⟨tb_1 (List.mem_of_getElem? (i := 103) rfl), ii_17, by decide +kernel, by decide +kernel, by decide⟩
theorem mv_J0_coder_7d493 : MV MJ0_coder_7d493 0 := ⟨mo_J0_coder_7d493, tb_1 (List.mem_of_getElem? (i := 101) rfl), tb_1 (List.mem_of_getElem? (i := 102) rfl)⟩
theorem mo_J0_isLatin1_aae02 : MO MJ0_isLatin1_aae02 0 := ⟨tb_1 (List.mem_of_getElem? (i := 113) rfl), ii_17, by decide +kernel, by decide +kernel, by decide⟩
theorem mv_J0_isLatin1_aae02 : MV MJ0_isLatin1_aae02 0 := ⟨mo_J0_isLatin1_aae02, tb_1 (List.mem_of_getElem? (i := 111) rfl), tb_1 (List.mem_of_getElem? (i := 112) rfl)⟩
theorem mo_J0_checkIndex_df160 : MO MJ0_checkIndex_df160 2 := ⟨tb_1 (List.mem_of_getElem? (i := 119) rfl), ii_17, by decide +kernel, by decide +kernel, by decide⟩
theorem mv_J0_checkIndex_df160 : MS MJ0_checkIndex_df160 2 := ⟨mo_J0_checkIndex_df160, tb_1 (List.mem_of_getElem? (i := 118) rfl)⟩
theorem mo_J0_checkBoundsBeginEnd_23922 : MO MJ0_checkBoundsBeginEnd_23922 3 := ⟨tb_3 (List.mem_of_getElem? (i := 16) rfl), ii_17, by decide +kernel, by decide +kernel, by decide⟩
theorem mv_J0_checkBoundsBeginEnd_23922 : MS MJ0_checkBoundsBeginEnd_23922 3 := ⟨mo_J0_checkBoundsBeginEnd_23922, tb_3 (List.mem_of_getElem? (i := 15) rfl)⟩
theorem mo_J1_charAt_3b067 : MO MJ1_charAt_3b067 2 := ⟨tb_1 (List.mem_of_getElem? (i := 116) rfl), ii_18, by decide +kernel, by decide +kernel, by decide⟩
theorem mv_J1_charAt_3b067 : MS MJ1_charAt_3b067 2 := ⟨mo_J1_charAt_3b067, tb_1 (List.mem_of_getElem? (i := 115) rfl)⟩
theorem mo_J1_canEncode_9a6ad : MO MJ1_canEncode_9a6ad 1 := ⟨tb_2 (List.mem_of_getElem? (i := 234) rfl), ii_18, by decide +kernel, by decide +kernel, by decide⟩
theorem mv_J1_canEncode_9a6ad : MS MJ1_canEncode_9a6ad 1 := ⟨mo_J1_canEncode_9a6ad, tb_2 (List.mem_of_getElem? (i := 233) rfl)⟩
theorem mo_J1_indexOf_4cfef : MO MJ1_indexOf_4cfef 4 := ⟨tb_2 (List.mem_of_getElem? (i := 231) rfl), ii_18, by decide +kernel, by decide +kernel, by decide⟩
theorem mv_J1_indexOf_4cfef : MS MJ1_indexOf_4cfef 4 := ⟨mo_J1_indexOf_4cfef, tb_2 (List.mem_of_getElem? (i := 230) rfl)⟩
theorem mo_J1_indexOfChar_4cfef : MO MJ1_indexOfChar_4cfef 4 := ⟨tb_3 (List.mem_of_getElem? (i := 1) rfl), ii_18, by decide +kernel, by decide +kernel, by decide⟩
theorem mv_J1_indexOfChar_4cfef : MS MJ1_indexOfChar_4cfef 4 := ⟨mo_J1_indexOfChar_4cfef, tb_3 (List.mem_of_getElem? (i := 0) rfl)⟩
theorem mo_J7_copyOf_9075b : MO MJ7_copyOf_9075b 2 := ⟨tb_3 (List.mem_of_getElem? (i := 163) rfl), ii_16, by decide +kernel, by decide +kernel, by decide⟩
theorem mv_J7_copyOf_9075b : MS MJ7_copyOf_9075b 2 := ⟨mo_J7_copyOf_9075b, tb_3 (List.mem_of_getElem? (i := 162) rfl)⟩
theorem mo_J7_copyOf_59c91 : MO MJ7_copyOf_59c91 2 := ⟨tb_2 (List.mem_of_getElem? (i := 185) rfl), ii_16, by decide +kernel, by decide +kernel, by decide⟩
theorem mv_J7_copyOf_59c91 : MS MJ7_copyOf_59c91 2 := ⟨mo_J7_copyOf_59c91, tb_2 (List.mem_of_getElem? (i := 184) rfl)⟩
theorem mo_J7_copyOf_c38d5 : MO MJ7_copyOf_c38d5 2 := ⟨tb_2 (List.mem_of_getElem? (i := 201) rfl), ii_16, by decide +kernel, by decide +kernel, by decide⟩
theorem mv_J7_copyOf_c38d5 : MS MJ7_copyOf_c38d5 2 := ⟨mo_J7_copyOf_c38d5, tb_2 (List.mem_of_getElem? (i := 200) rfl)⟩
theorem mo_J3_checkIndex_8e157 : MO MJ3_checkIndex_8e157 3 := ⟨tb_1 (List.mem_of_getElem? (i := 124) rfl), ii_19, by decide +kernel, by decide +kernel, by decide⟩
theorem mv_J3_checkIndex_8e157 : MS MJ3_checkIndex_8e157 3 := ⟨mo_J3_checkIndex_8e157, tb_1 (List.mem_of_getElem? (i := 123) rfl)⟩
theorem mo_J3_checkFromToIndex_8c36e : MO MJ3_checkFromToIndex_8c36e 4 := ⟨tb_3 (List.mem_of_getElem? (i := 19) rfl), ii_19, by decide +kernel, by decide +kernel, by decide⟩
theorem mv_J3_checkFromToIndex_8c36e : MS MJ3_checkFromToIndex_8c36e 4 := ⟨mo_J3_checkFromToIndex_8c36e, tb_3 (List.mem_of_getElem? (i := 18) rfl)⟩
theorem mo_E0_init : MO ME0_init 4 := ⟨tb_6 (List.mem_of_getElem? (i := 213) rfl), ii_20, by decide +kernel, by decide +kernel, by decide⟩
theorem mv_E0_init : MN ME0_init 4 := ⟨mo_E0_init, tb_6 (List.mem_of_getElem? (i := 212) rfl), rfl⟩
theorem mo_E1_init : MO ME1_init 4 := ⟨tb_6 (List.mem_of_getElem? (i := 216) rfl), ii_21, by decide +kernel, by decide +kernel, by decide⟩
theorem mv_E1_init : MN ME1_init 4 := ⟨mo_E1_init, tb_6 (List.mem_of_getElem? (i := 215) rfl), rfl⟩
theorem mo_E2_init : MO ME2_init 4 := ⟨tb_6 (List.mem_of_getElem? (i := 219) rfl), ii_22, by decide +kernel, by decide +kernel, by decide⟩
theorem mv_E2_init : MN ME2_init 4 := ⟨mo_E2_init, tb_6 (List.mem_of_getElem? (i := 218) rfl), rfl⟩
