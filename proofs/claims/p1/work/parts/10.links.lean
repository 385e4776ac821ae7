theorem cl_14_7 : Cond.classLink RL 7 "StoryRound" ∈ lw_tbl := tb_1 (List.mem_of_getElem? (i := 26) rfl)
theorem ml_14_9 : Cond.methodLink RL 9 yX11_init ∈ lw_tbl := tb_1 (List.mem_of_getElem? (i := 28) rfl)
theorem ml_11_1 : Cond.methodLink RX11 1 ⟨"java/lang/Object", "<init>", "()V"⟩ ∈ lw_tbl := tb_1 (List.mem_of_getElem? (i := 31) rfl)
theorem cl_11_7 : Cond.classLink RX11 7 "StoryRound$Tape" ∈ lw_tbl := tb_1 (List.mem_of_getElem? (i := 34) rfl)
theorem ml_11_9 : Cond.methodLinkNest RX11 9 yX8_init "StoryRound" ∈ lw_tbl := tb_1 (List.mem_of_getElem? (i := 36) rfl)
theorem ml_8_1 : Cond.methodLink RX8 1 ⟨"java/lang/Object", "<init>", "()V"⟩ ∈ lw_tbl := tb_1 (List.mem_of_getElem? (i := 39) rfl)
theorem fl_8_9 : Cond.fieldLink RX8 9 "StoryRound$Tape" "bytes" "[B" ∈ lw_tbl := tb_1 (List.mem_of_getElem? (i := 40) rfl)
theorem fl_8_13 : Cond.fieldLink RX8 13 "StoryRound$Tape" "size" "I" ∈ lw_tbl := tb_1 (List.mem_of_getElem? (i := 41) rfl)
theorem cl_11_16 : Cond.classLink RX11 16 "StoryRound$Story" ∈ lw_tbl := tb_1 (List.mem_of_getElem? (i := 48) rfl)
theorem ml_11_18 : Cond.methodLinkNest RX11 18 yX7_init "StoryRound" ∈ lw_tbl := tb_1 (List.mem_of_getElem? (i := 50) rfl)
theorem ml_7_3 : Cond.methodLink RX7 3 ⟨"java/lang/Object", "<init>", "()V"⟩ ∈ lw_tbl := tb_1 (List.mem_of_getElem? (i := 53) rfl)
theorem cl_7_9 : Cond.classLink RX7 9 "StoryRound$Code" ∈ lw_tbl := tb_1 (List.mem_of_getElem? (i := 54) rfl)
theorem ml_7_11 : Cond.methodLinkNest RX7 11 yX1_init "StoryRound" ∈ lw_tbl := tb_1 (List.mem_of_getElem? (i := 56) rfl)
theorem ml_1_1 : Cond.methodLink RX1 1 ⟨"java/lang/Object", "<init>", "()V"⟩ ∈ lw_tbl := tb_1 (List.mem_of_getElem? (i := 59) rfl)
theorem fl_1_7 : Cond.fieldLink RX1 7 "StoryRound$Code" "acts" "[B" ∈ lw_tbl := tb_1 (List.mem_of_getElem? (i := 60) rfl)
theorem fl_1_13 : Cond.fieldLink RX1 13 "StoryRound$Code" "arguments" "[I" ∈ lw_tbl := tb_1 (List.mem_of_getElem? (i := 61) rfl)
theorem fl_1_17 : Cond.fieldLink RX1 17 "StoryRound$Code" "size" "I" ∈ lw_tbl := tb_1 (List.mem_of_getElem? (i := 62) rfl)
theorem cl_7_18 : Cond.classLink RX7 18 "StoryRound$Body" ∈ lw_tbl := tb_1 (List.mem_of_getElem? (i := 71) rfl)
theorem fl_7_12 : Cond.fieldLink RX7 12 "StoryRound$Story" "code" "LStoryRound$Code;" ∈ lw_tbl := tb_1 (List.mem_of_getElem? (i := 73) rfl)
theorem fl_5_19 : Cond.fieldLink RX5 19 "StoryRound$Story" "code" "LStoryRound$Code;" ∈ lw_tbl := tb_1 (List.mem_of_getElem? (i := 74) rfl)
theorem fl_3_19 : Cond.fieldLink RX3 19 "StoryRound$Story" "code" "LStoryRound$Code;" ∈ lw_tbl := tb_1 (List.mem_of_getElem? (i := 75) rfl)
theorem fl_6_47 : Cond.fieldLink RX6 47 "StoryRound$Story" "code" "LStoryRound$Code;" ∈ lw_tbl := tb_1 (List.mem_of_getElem? (i := 76) rfl)
theorem fl_7_20 : Cond.fieldLink RX7 20 "StoryRound$Story" "bodies" "[LStoryRound$Body;" ∈ lw_tbl := tb_1 (List.mem_of_getElem? (i := 77) rfl)
theorem fl_7_27 : Cond.fieldLink RX7 27 "StoryRound$Story" "size" "I" ∈ lw_tbl := tb_1 (List.mem_of_getElem? (i := 78) rfl)
theorem fl_7_31 : Cond.fieldLink RX7 31 "StoryRound$Story" "wrongName" "I" ∈ lw_tbl := tb_1 (List.mem_of_getElem? (i := 79) rfl)
theorem cl_11_23 : Cond.classLink RX11 23 "StoryRound$Tokens" ∈ lw_tbl := tb_1 (List.mem_of_getElem? (i := 89) rfl)
theorem ml_11_25 : Cond.methodLink RX11 25 yX9_init ∈ lw_tbl := tb_1 (List.mem_of_getElem? (i := 91) rfl)
theorem ml_9_1 : Cond.methodLink RX9 1 ⟨"java/lang/Object", "<init>", "()V"⟩ ∈ lw_tbl := tb_1 (List.mem_of_getElem? (i := 94) rfl)
theorem ml_9_29 : Cond.methodLink RX9 29 yJ0_length_8abf5 ∈ lw_tbl := tb_1 (List.mem_of_getElem? (i := 96) rfl)
theorem ml_17_335 : Cond.methodLink RJ0 335 yJ0_coder_7d493 ∈ lw_tbl := tb_1 (List.mem_of_getElem? (i := 100) rfl)
theorem fl_17_38 : Cond.fieldLink RJ0 38 "java/lang/String" "COMPACT_STRINGS" "Z" ∈ lw_tbl := tb_1 (List.mem_of_getElem? (i := 104) rfl)
theorem ml_9_35 : Cond.methodLink RX9 35 yJ0_charAt_5068e ∈ lw_tbl := tb_1 (List.mem_of_getElem? (i := 106) rfl)
theorem ml_17_492 : Cond.methodLink RJ0 492 yJ0_isLatin1_aae02 ∈ lw_tbl := tb_1 (List.mem_of_getElem? (i := 110) rfl)
theorem ml_17_495 : Cond.methodLink RJ0 495 yJ1_charAt_3b067 ∈ lw_tbl := tb_1 (List.mem_of_getElem? (i := 114) rfl)
theorem ml_18_9 : Cond.methodLink RJ1 9 yJ0_checkIndex_df160 ∈ lw_tbl := tb_1 (List.mem_of_getElem? (i := 117) rfl)
theorem fl_17_1053 : Cond.fieldLink RJ0 1053 "jdk/internal/util/Preconditions" "SIOOBE_FORMATTER" "Ljava/util/function/BiFunction;" ∈ lw_tbl := tb_1 (List.mem_of_getElem? (i := 120) rfl)
theorem ml_17_1059 : Cond.methodLink RJ0 1059 yJ3_checkIndex_8e157 ∈ lw_tbl := tb_1 (List.mem_of_getElem? (i := 122) rfl)
theorem kl_9_39 : Cond.constantLong RX9 39 (32) ∈ lw_tbl := tb_1 (List.mem_of_getElem? (i := 144) rfl)
theorem fl_9_23 : Cond.fieldLink RX9 23 "StoryRound$Tokens" "tape" "LStoryRound$Tape;" ∈ lw_tbl := tb_1 (List.mem_of_getElem? (i := 145) rfl)
theorem fl_9_9 : Cond.fieldLink RX9 9 "StoryRound$Tokens" "keys" "[J" ∈ lw_tbl := tb_1 (List.mem_of_getElem? (i := 146) rfl)
theorem fl_9_13 : Cond.fieldLink RX9 13 "StoryRound$Tokens" "kinds" "[I" ∈ lw_tbl := tb_1 (List.mem_of_getElem? (i := 147) rfl)
theorem fl_9_17 : Cond.fieldLink RX9 17 "StoryRound$Tokens" "places" "[I" ∈ lw_tbl := tb_1 (List.mem_of_getElem? (i := 148) rfl)
theorem fl_9_20 : Cond.fieldLink RX9 20 "StoryRound$Tokens" "values" "[J" ∈ lw_tbl := tb_1 (List.mem_of_getElem? (i := 149) rfl)
theorem fl_9_41 : Cond.fieldLink RX9 41 "StoryRound$Tokens" "size" "I" ∈ lw_tbl := tb_1 (List.mem_of_getElem? (i := 150) rfl)
theorem fl_9_74 : Cond.fieldLink RX9 74 "StoryRound$Tokens" "at" "I" ∈ lw_tbl := tb_1 (List.mem_of_getElem? (i := 151) rfl)
theorem fl_5_41 : Cond.fieldLink RX5 41 "StoryRound$Tokens" "kind" "I" ∈ lw_tbl := tb_1 (List.mem_of_getElem? (i := 152) rfl)
theorem fl_9_79 : Cond.fieldLink RX9 79 "StoryRound$Tokens" "kind" "I" ∈ lw_tbl := tb_1 (List.mem_of_getElem? (i := 153) rfl)
theorem fl_9_82 : Cond.fieldLink RX9 82 "StoryRound$Tokens" "place" "I" ∈ lw_tbl := tb_1 (List.mem_of_getElem? (i := 154) rfl)
theorem fl_5_70 : Cond.fieldLink RX5 70 "StoryRound$Tokens" "place" "I" ∈ lw_tbl := tb_1 (List.mem_of_getElem? (i := 155) rfl)
theorem cl_11_28 : Cond.classLink RX11 28 "StoryRound$Parser" ∈ lw_tbl := tb_1 (List.mem_of_getElem? (i := 176) rfl)
theorem ml_11_30 : Cond.methodLink RX11 30 yX5_init ∈ lw_tbl := tb_1 (List.mem_of_getElem? (i := 178) rfl)
theorem ml_5_3 : Cond.methodLink RX5 3 ⟨"java/lang/Object", "<init>", "()V"⟩ ∈ lw_tbl := tb_1 (List.mem_of_getElem? (i := 181) rfl)
theorem fl_5_9 : Cond.fieldLink RX5 9 "StoryRound$Parser" "tokens" "LStoryRound$Tokens;" ∈ lw_tbl := tb_1 (List.mem_of_getElem? (i := 182) rfl)
theorem fl_5_15 : Cond.fieldLink RX5 15 "StoryRound$Parser" "story" "LStoryRound$Story;" ∈ lw_tbl := tb_1 (List.mem_of_getElem? (i := 183) rfl)
theorem fl_5_25 : Cond.fieldLink RX5 25 "StoryRound$Parser" "code" "LStoryRound$Code;" ∈ lw_tbl := tb_1 (List.mem_of_getElem? (i := 184) rfl)
theorem fl_5_51 : Cond.fieldLink RX5 51 "StoryRound$Parser" "current" "LStoryRound$Body;" ∈ lw_tbl := tb_1 (List.mem_of_getElem? (i := 185) rfl)
theorem fl_5_34 : Cond.fieldLink RX5 34 "StoryRound$Parser" "open" "I" ∈ lw_tbl := tb_1 (List.mem_of_getElem? (i := 186) rfl)
theorem fl_5_38 : Cond.fieldLink RX5 38 "StoryRound$Parser" "fault" "I" ∈ lw_tbl := tb_1 (List.mem_of_getElem? (i := 187) rfl)
theorem cl_11_37 : Cond.classLink RX11 37 "StoryRound$Linker" ∈ lw_tbl := tb_1 (List.mem_of_getElem? (i := 201) rfl)
theorem ml_11_39 : Cond.methodLink RX11 39 yX3_init ∈ lw_tbl := tb_1 (List.mem_of_getElem? (i := 203) rfl)
theorem ml_3_3 : Cond.methodLink RX3 3 ⟨"java/lang/Object", "<init>", "()V"⟩ ∈ lw_tbl := tb_1 (List.mem_of_getElem? (i := 206) rfl)
theorem fl_3_9 : Cond.fieldLink RX3 9 "StoryRound$Linker" "tokens" "LStoryRound$Tokens;" ∈ lw_tbl := tb_1 (List.mem_of_getElem? (i := 207) rfl)
theorem fl_3_15 : Cond.fieldLink RX3 15 "StoryRound$Linker" "story" "LStoryRound$Story;" ∈ lw_tbl := tb_1 (List.mem_of_getElem? (i := 208) rfl)
theorem fl_3_25 : Cond.fieldLink RX3 25 "StoryRound$Linker" "code" "LStoryRound$Code;" ∈ lw_tbl := tb_1 (List.mem_of_getElem? (i := 209) rfl)
theorem cl_11_44 : Cond.classLink RX11 44 "StoryRound$Stage" ∈ lw_tbl := tb_1 (List.mem_of_getElem? (i := 217) rfl)
theorem ml_11_46 : Cond.methodLink RX11 46 yX6_init ∈ lw_tbl := tb_1 (List.mem_of_getElem? (i := 219) rfl)
theorem ml_6_3 : Cond.methodLink RX6 3 ⟨"java/lang/Object", "<init>", "()V"⟩ ∈ lw_tbl := tb_1 (List.mem_of_getElem? (i := 222) rfl)
theorem cl_6_9 : Cond.classLink RX6 9 "StoryRound$Pairs" ∈ lw_tbl := tb_1 (List.mem_of_getElem? (i := 223) rfl)
theorem ml_6_11 : Cond.methodLinkNest RX6 11 yX4_init "StoryRound" ∈ lw_tbl := tb_1 (List.mem_of_getElem? (i := 225) rfl)
theorem ml_4_3 : Cond.methodLink RX4 3 ⟨"java/lang/Object", "<init>", "()V"⟩ ∈ lw_tbl := tb_1 (List.mem_of_getElem? (i := 228) rfl)
theorem fl_4_9 : Cond.fieldLink RX4 9 "StoryRound$Pairs" "numbers" "[I" ∈ lw_tbl := tb_1 (List.mem_of_getElem? (i := 229) rfl)
theorem fl_4_15 : Cond.fieldLink RX4 15 "StoryRound$Pairs" "kept" "I" ∈ lw_tbl := tb_1 (List.mem_of_getElem? (i := 230) rfl)
theorem fl_4_19 : Cond.fieldLink RX4 19 "StoryRound$Pairs" "total" "I" ∈ lw_tbl := tb_1 (List.mem_of_getElem? (i := 231) rfl)
theorem cl_6_21 : Cond.classLink RX6 21 "StoryRound$Failures" ∈ lw_tbl := tb_1 (List.mem_of_getElem? (i := 239) rfl)
theorem ml_6_23 : Cond.methodLinkNest RX6 23 yX2_init "StoryRound" ∈ lw_tbl := tb_2 (List.mem_of_getElem? (i := 1) rfl)
theorem ml_2_3 : Cond.methodLink RX2 3 ⟨"java/lang/Object", "<init>", "()V"⟩ ∈ lw_tbl := tb_2 (List.mem_of_getElem? (i := 4) rfl)
theorem fl_2_11 : Cond.fieldLink RX2 11 "StoryRound$Failures" "rows" "[I" ∈ lw_tbl := tb_2 (List.mem_of_getElem? (i := 5) rfl)
theorem fl_2_24 : Cond.fieldLink RX2 24 "StoryRound$Failures" "used" "I" ∈ lw_tbl := tb_2 (List.mem_of_getElem? (i := 6) rfl)
theorem fl_2_32 : Cond.fieldLink RX2 32 "StoryRound$Failures" "latest" "I" ∈ lw_tbl := tb_2 (List.mem_of_getElem? (i := 7) rfl)
theorem fl_2_35 : Cond.fieldLink RX2 35 "StoryRound$Failures" "isListed" "Z" ∈ lw_tbl := tb_2 (List.mem_of_getElem? (i := 8) rfl)
theorem fl_2_15 : Cond.fieldLink RX2 15 "StoryRound$Failures" "which" "[I" ∈ lw_tbl := tb_2 (List.mem_of_getElem? (i := 10) rfl)
theorem fl_2_18 : Cond.fieldLink RX2 18 "StoryRound$Failures" "depths" "[I" ∈ lw_tbl := tb_2 (List.mem_of_getElem? (i := 11) rfl)
theorem fl_2_21 : Cond.fieldLink RX2 21 "StoryRound$Failures" "ways" "[I" ∈ lw_tbl := tb_2 (List.mem_of_getElem? (i := 12) rfl)
theorem cl_6_28 : Cond.classLink RX6 28 "StoryRound$Voice" ∈ lw_tbl := tb_2 (List.mem_of_getElem? (i := 30) rfl)
theorem cl_6_34 : Cond.classLink RX6 34 "[I" ∈ lw_tbl := tb_2 (List.mem_of_getElem? (i := 32) rfl)
theorem ml_6_54 : Cond.methodLink RX6 54 yX2_clear ∈ lw_tbl := tb_2 (List.mem_of_getElem? (i := 34) rfl)
theorem ml_2_28 : Cond.methodLink RX2 28 yX2_comeOut ∈ lw_tbl := tb_2 (List.mem_of_getElem? (i := 38) rfl)
theorem fl_6_12 : Cond.fieldLink RX6 12 "StoryRound$Stage" "lines" "LStoryRound$Pairs;" ∈ lw_tbl := tb_2 (List.mem_of_getElem? (i := 42) rfl)
theorem fl_11_170 : Cond.fieldLink RX11 170 "StoryRound$Stage" "lines" "LStoryRound$Pairs;" ∈ lw_tbl := tb_2 (List.mem_of_getElem? (i := 43) rfl)
theorem fl_6_18 : Cond.fieldLink RX6 18 "StoryRound$Stage" "handings" "LStoryRound$Pairs;" ∈ lw_tbl := tb_2 (List.mem_of_getElem? (i := 44) rfl)
theorem fl_11_183 : Cond.fieldLink RX11 183 "StoryRound$Stage" "handings" "LStoryRound$Pairs;" ∈ lw_tbl := tb_2 (List.mem_of_getElem? (i := 45) rfl)
theorem fl_6_24 : Cond.fieldLink RX6 24 "StoryRound$Stage" "failures" "LStoryRound$Failures;" ∈ lw_tbl := tb_2 (List.mem_of_getElem? (i := 46) rfl)
theorem fl_11_186 : Cond.fieldLink RX11 186 "StoryRound$Stage" "failures" "LStoryRound$Failures;" ∈ lw_tbl := tb_2 (List.mem_of_getElem? (i := 47) rfl)
theorem fl_6_43 : Cond.fieldLink RX6 43 "StoryRound$Stage" "story" "LStoryRound$Story;" ∈ lw_tbl := tb_2 (List.mem_of_getElem? (i := 48) rfl)
theorem fl_6_53 : Cond.fieldLink RX6 53 "StoryRound$Stage" "code" "LStoryRound$Code;" ∈ lw_tbl := tb_2 (List.mem_of_getElem? (i := 49) rfl)
theorem fl_6_30 : Cond.fieldLink RX6 30 "StoryRound$Stage" "voices" "[LStoryRound$Voice;" ∈ lw_tbl := tb_2 (List.mem_of_getElem? (i := 50) rfl)
theorem fl_6_36 : Cond.fieldLink RX6 36 "StoryRound$Stage" "spareRows" "[[I" ∈ lw_tbl := tb_2 (List.mem_of_getElem? (i := 51) rfl)
theorem fl_6_40 : Cond.fieldLink RX6 40 "StoryRound$Stage" "ringed" "[I" ∈ lw_tbl := tb_2 (List.mem_of_getElem? (i := 52) rfl)
theorem fl_6_61 : Cond.fieldLink RX6 61 "StoryRound$Stage" "ringSize" "I" ∈ lw_tbl := tb_2 (List.mem_of_getElem? (i := 54) rfl)
theorem fl_6_65 : Cond.fieldLink RX6 65 "StoryRound$Stage" "made" "I" ∈ lw_tbl := tb_2 (List.mem_of_getElem? (i := 55) rfl)
theorem fl_6_68 : Cond.fieldLink RX6 68 "StoryRound$Stage" "alive" "I" ∈ lw_tbl := tb_2 (List.mem_of_getElem? (i := 56) rfl)
theorem fl_6_71 : Cond.fieldLink RX6 71 "StoryRound$Stage" "steps" "I" ∈ lw_tbl := tb_2 (List.mem_of_getElem? (i := 57) rfl)
theorem fl_6_74 : Cond.fieldLink RX6 74 "StoryRound$Stage" "turn" "I" ∈ lw_tbl := tb_2 (List.mem_of_getElem? (i := 58) rfl)
theorem fl_6_77 : Cond.fieldLink RX6 77 "StoryRound$Stage" "raised" "I" ∈ lw_tbl := tb_2 (List.mem_of_getElem? (i := 59) rfl)
theorem fl_6_80 : Cond.fieldLink RX6 80 "StoryRound$Stage" "outcome" "I" ∈ lw_tbl := tb_2 (List.mem_of_getElem? (i := 60) rfl)
theorem fl_6_83 : Cond.fieldLink RX6 83 "StoryRound$Stage" "given" "I" ∈ lw_tbl := tb_2 (List.mem_of_getElem? (i := 61) rfl)
theorem fl_6_86 : Cond.fieldLink RX6 86 "StoryRound$Stage" "isSpent" "Z" ∈ lw_tbl := tb_2 (List.mem_of_getElem? (i := 62) rfl)
theorem fl_11_10 : Cond.fieldLink RX11 10 "StoryRound" "tape" "LStoryRound$Tape;" ∈ lw_tbl := tb_2 (List.mem_of_getElem? (i := 100) rfl)
theorem fl_11_19 : Cond.fieldLink RX11 19 "StoryRound" "story" "LStoryRound$Story;" ∈ lw_tbl := tb_2 (List.mem_of_getElem? (i := 101) rfl)
theorem fl_11_33 : Cond.fieldLink RX11 33 "StoryRound" "parser" "LStoryRound$Parser;" ∈ lw_tbl := tb_2 (List.mem_of_getElem? (i := 102) rfl)
theorem fl_11_40 : Cond.fieldLink RX11 40 "StoryRound" "linker" "LStoryRound$Linker;" ∈ lw_tbl := tb_2 (List.mem_of_getElem? (i := 103) rfl)
theorem fl_11_49 : Cond.fieldLink RX11 49 "StoryRound" "stage" "LStoryRound$Stage;" ∈ lw_tbl := tb_2 (List.mem_of_getElem? (i := 104) rfl)
theorem fl_11_77 : Cond.fieldLink RX11 77 "StoryRound" "isRead" "Z" ∈ lw_tbl := tb_2 (List.mem_of_getElem? (i := 105) rfl)
theorem ml_14_15 : Cond.methodLink RL 15 yX11_feed ∈ lw_tbl := tb_2 (List.mem_of_getElem? (i := 119) rfl)
theorem ml_11_53 : Cond.methodLink RX11 53 yX8_hasRoom ∈ lw_tbl := tb_2 (List.mem_of_getElem? (i := 123) rfl)
theorem ml_11_57 : Cond.methodLink RX11 57 yX8_add ∈ lw_tbl := tb_2 (List.mem_of_getElem? (i := 127) rfl)
theorem ml_11_61 : Cond.methodLink RX11 61 yX8_size ∈ lw_tbl := tb_2 (List.mem_of_getElem? (i := 131) rfl)
theorem ml_14_20 : Cond.methodLink RL 20 yX11_drop ∈ lw_tbl := tb_2 (List.mem_of_getElem? (i := 135) rfl)
theorem ml_11_65 : Cond.methodLink RX11 65 yX8_clear ∈ lw_tbl := tb_2 (List.mem_of_getElem? (i := 139) rfl)
theorem ml_14_25 : Cond.methodLink RL 25 yX11_compile ∈ lw_tbl := tb_2 (List.mem_of_getElem? (i := 143) rfl)
theorem ml_11_68 : Cond.methodLink RX11 68 yX5_read ∈ lw_tbl := tb_2 (List.mem_of_getElem? (i := 147) rfl)
theorem ml_5_26 : Cond.methodLink RX5 26 yX7_clear ∈ lw_tbl := tb_2 (List.mem_of_getElem? (i := 151) rfl)
theorem ml_7_24 : Cond.methodLink RX7 24 yX1_clear ∈ lw_tbl := tb_2 (List.mem_of_getElem? (i := 155) rfl)
theorem ml_5_29 : Cond.methodLink RX5 29 yX9_readTape ∈ lw_tbl := tb_2 (List.mem_of_getElem? (i := 159) rfl)
theorem ml_9_47 : Cond.methodLink RX9 47 yX8_size ∈ lw_tbl := tb_2 (List.mem_of_getElem? (i := 163) rfl)
theorem ml_9_49 : Cond.methodLink RX9 49 yX8_at ∈ lw_tbl := tb_2 (List.mem_of_getElem? (i := 164) rfl)
theorem ml_9_53 : Cond.methodLink RX9 53 yX9_isLetter ∈ lw_tbl := tb_2 (List.mem_of_getElem? (i := 168) rfl)
theorem ml_9_57 : Cond.methodLink RX9 57 yX9_readName ∈ lw_tbl := tb_2 (List.mem_of_getElem? (i := 171) rfl)
theorem ml_9_70 : Cond.methodLink RX9 70 yX9_add ∈ lw_tbl := tb_2 (List.mem_of_getElem? (i := 179) rfl)
theorem ml_9_96 : Cond.methodLink RX9 96 yJ7_copyOf_59c91 ∈ lw_tbl := tb_2 (List.mem_of_getElem? (i := 183) rfl)
theorem ml_9_102 : Cond.methodLink RX9 102 yJ7_copyOf_c38d5 ∈ lw_tbl := tb_2 (List.mem_of_getElem? (i := 199) rfl)
theorem ml_9_60 : Cond.methodLink RX9 60 yX9_isFigure ∈ lw_tbl := tb_2 (List.mem_of_getElem? (i := 207) rfl)
theorem ml_9_63 : Cond.methodLink RX9 63 yX9_readNumber ∈ lw_tbl := tb_2 (List.mem_of_getElem? (i := 210) rfl)
theorem ml_9_66 : Cond.methodLink RX9 66 yX9_readSign ∈ lw_tbl := tb_2 (List.mem_of_getElem? (i := 215) rfl)
theorem ml_9_76 : Cond.methodLink RX9 76 yX9_next ∈ lw_tbl := tb_3 (List.mem_of_getElem? (i := 37) rfl)
theorem ml_5_44 : Cond.methodLink RX5 44 yX5_readHead ∈ lw_tbl := tb_3 (List.mem_of_getElem? (i := 41) rfl)
theorem fl_11_96 : Cond.fieldLink RX11 96 "StoryRound$Body" "isScript" "Z" ∈ lw_tbl := tb_3 (List.mem_of_getElem? (i := 58) rfl)
theorem fl_11_102 : Cond.fieldLink RX11 102 "StoryRound$Body" "arguments" "I" ∈ lw_tbl := tb_3 (List.mem_of_getElem? (i := 62) rfl)
theorem fl_5_65 : Cond.fieldLink RX5 65 "StoryRound$Body" "end" "I" ∈ lw_tbl := tb_3 (List.mem_of_getElem? (i := 72) rfl)
theorem ml_5_73 : Cond.methodLink RX5 73 yX5_refuse ∈ lw_tbl := tb_3 (List.mem_of_getElem? (i := 95) rfl)
theorem ml_5_77 : Cond.methodLink RX5 77 yX9_next ∈ lw_tbl := tb_3 (List.mem_of_getElem? (i := 99) rfl)
theorem ml_5_90 : Cond.methodLink RX5 90 yX5_isName ∈ lw_tbl := tb_3 (List.mem_of_getElem? (i := 100) rfl)
theorem ml_5_80 : Cond.methodLink RX5 80 yX9_index ∈ lw_tbl := tb_3 (List.mem_of_getElem? (i := 104) rfl)
theorem ml_5_83 : Cond.methodLink RX5 83 yX9_valueOf ∈ lw_tbl := tb_3 (List.mem_of_getElem? (i := 108) rfl)
theorem ml_5_93 : Cond.methodLink RX5 93 yX7_find ∈ lw_tbl := tb_3 (List.mem_of_getElem? (i := 112) rfl)
theorem ml_5_97 : Cond.methodLink RX5 97 yX7_noteWrongName ∈ lw_tbl := tb_3 (List.mem_of_getElem? (i := 116) rfl)
theorem ml_5_61 : Cond.methodLink RX5 61 yX1_size ∈ lw_tbl := tb_3 (List.mem_of_getElem? (i := 120) rfl)
theorem ml_5_48 : Cond.methodLink RX5 48 yX5_readBlock ∈ lw_tbl := tb_3 (List.mem_of_getElem? (i := 149) rfl)
theorem ml_5_57 : Cond.methodLink RX5 57 yX1_add ∈ lw_tbl := tb_3 (List.mem_of_getElem? (i := 157) rfl)
theorem ml_11_71 : Cond.methodLink RX11 71 yX3_link ∈ lw_tbl := tb_4 (List.mem_of_getElem? (i := 49) rfl)
theorem ml_11_74 : Cond.methodLink RX11 74 yX6_reset ∈ lw_tbl := tb_4 (List.mem_of_getElem? (i := 95) rfl)
theorem ml_6_57 : Cond.methodLink RX6 57 yX6_failAll ∈ lw_tbl := tb_4 (List.mem_of_getElem? (i := 99) rfl)
theorem ml_6_106 : Cond.methodLink RX6 106 yX6_find ∈ lw_tbl := tb_4 (List.mem_of_getElem? (i := 103) rfl)
theorem ml_6_110 : Cond.methodLink RX6 110 yX10_isOver ∈ lw_tbl := tb_4 (List.mem_of_getElem? (i := 107) rfl)
theorem ml_6_113 : Cond.methodLink RX6 113 yX6_end ∈ lw_tbl := tb_4 (List.mem_of_getElem? (i := 111) rfl)
theorem ml_6_60 : Cond.methodLink RX6 60 yX4_clear ∈ lw_tbl := tb_4 (List.mem_of_getElem? (i := 121) rfl)
theorem ml_11_81 : Cond.methodLink RX11 81 yX7_size ∈ lw_tbl := tb_4 (List.mem_of_getElem? (i := 125) rfl)
theorem ml_14_29 : Cond.methodLink RL 29 yX11_body ∈ lw_tbl := tb_4 (List.mem_of_getElem? (i := 126) rfl)
theorem ml_11_82 : Cond.methodLink RX11 82 yX7_at ∈ lw_tbl := tb_4 (List.mem_of_getElem? (i := 130) rfl)
theorem ml_11_86 : Cond.methodLink RX11 86 yX0_fact ∈ lw_tbl := tb_4 (List.mem_of_getElem? (i := 131) rfl)
theorem ml_14_34 : Cond.methodLink RL 34 yX11_voice ∈ lw_tbl := tb_4 (List.mem_of_getElem? (i := 135) rfl)
theorem ml_11_92 : Cond.methodLink RX11 92 yX11_plays ∈ lw_tbl := tb_4 (List.mem_of_getElem? (i := 139) rfl)
theorem ml_11_140 : Cond.methodLink RX11 140 yX6_isSpent ∈ lw_tbl := tb_4 (List.mem_of_getElem? (i := 143) rfl)
theorem ml_11_99 : Cond.methodLink RX11 99 yX6_isFull ∈ lw_tbl := tb_4 (List.mem_of_getElem? (i := 147) rfl)
theorem fl_11_150 : Cond.fieldLink RX11 150 "StoryRound$Voice" "state" "I" ∈ lw_tbl := tb_4 (List.mem_of_getElem? (i := 164) rfl)
theorem fl_11_157 : Cond.fieldLink RX11 157 "StoryRound$Voice" "argument" "I" ∈ lw_tbl := tb_4 (List.mem_of_getElem? (i := 170) rfl)
theorem ml_14_38 : Cond.methodLink RL 38 yX11_resume ∈ lw_tbl := tb_4 (List.mem_of_getElem? (i := 229) rfl)
theorem ml_11_110 : Cond.methodLink RX11 110 yX6_find ∈ lw_tbl := tb_4 (List.mem_of_getElem? (i := 233) rfl)
theorem ml_11_114 : Cond.methodLink RX11 114 yX10_isOver ∈ lw_tbl := tb_4 (List.mem_of_getElem? (i := 234) rfl)
theorem ml_11_119 : Cond.methodLink RX11 119 yX6_deskResumes ∈ lw_tbl := tb_4 (List.mem_of_getElem? (i := 235) rfl)
theorem ml_11_123 : Cond.methodLink RX11 123 yX6_run ∈ lw_tbl := tb_5 (List.mem_of_getElem? (i := 35) rfl)
theorem ml_11_126 : Cond.methodLink RX11 126 yX6_outcome ∈ lw_tbl := tb_5 (List.mem_of_getElem? (i := 234) rfl)
theorem ml_14_42 : Cond.methodLink RL 42 yX11_inject ∈ lw_tbl := tb_5 (List.mem_of_getElem? (i := 238) rfl)
theorem ml_11_129 : Cond.methodLink RX11 129 yX6_deskInjects ∈ lw_tbl := tb_6 (List.mem_of_getElem? (i := 2) rfl)
theorem ml_14_47 : Cond.methodLink RL 47 yX11_close ∈ lw_tbl := tb_6 (List.mem_of_getElem? (i := 6) rfl)
theorem ml_11_133 : Cond.methodLink RX11 133 yX6_deskCloses ∈ lw_tbl := tb_6 (List.mem_of_getElem? (i := 10) rfl)
theorem ml_14_52 : Cond.methodLink RL 52 yX11_sweep ∈ lw_tbl := tb_6 (List.mem_of_getElem? (i := 14) rfl)
theorem ml_11_137 : Cond.methodLink RX11 137 yX6_findReached ∈ lw_tbl := tb_6 (List.mem_of_getElem? (i := 18) rfl)
theorem ml_14_56 : Cond.methodLink RL 56 yX11_answer ∈ lw_tbl := tb_6 (List.mem_of_getElem? (i := 44) rfl)
theorem ml_11_146 : Cond.methodLink RX11 146 yX6_given ∈ lw_tbl := tb_6 (List.mem_of_getElem? (i := 48) rfl)
theorem ml_14_60 : Cond.methodLink RL 60 yX11_told ∈ lw_tbl := tb_6 (List.mem_of_getElem? (i := 52) rfl)
theorem ml_11_149 : Cond.methodLink RX11 149 yX10_fact ∈ lw_tbl := tb_6 (List.mem_of_getElem? (i := 56) rfl)
theorem ml_14_64 : Cond.methodLink RL 64 yX11_local ∈ lw_tbl := tb_6 (List.mem_of_getElem? (i := 60) rfl)
theorem ml_11_153 : Cond.methodLink RX11 153 yX11_hasArgument ∈ lw_tbl := tb_6 (List.mem_of_getElem? (i := 64) rfl)
theorem ml_11_160 : Cond.methodLink RX11 160 yX10_frameOf ∈ lw_tbl := tb_6 (List.mem_of_getElem? (i := 68) rfl)
theorem ml_11_163 : Cond.methodLink RX11 163 yX10_variablesOf ∈ lw_tbl := tb_6 (List.mem_of_getElem? (i := 69) rfl)
theorem ml_11_166 : Cond.methodLink RX11 166 yX10_variable ∈ lw_tbl := tb_6 (List.mem_of_getElem? (i := 70) rfl)
theorem ml_14_68 : Cond.methodLink RL 68 yX11_lines ∈ lw_tbl := tb_6 (List.mem_of_getElem? (i := 71) rfl)
theorem ml_11_174 : Cond.methodLink RX11 174 yX4_total ∈ lw_tbl := tb_6 (List.mem_of_getElem? (i := 75) rfl)
theorem ml_14_72 : Cond.methodLink RL 72 yX11_line ∈ lw_tbl := tb_6 (List.mem_of_getElem? (i := 79) rfl)
theorem ml_11_179 : Cond.methodLink RX11 179 yX11_kept ∈ lw_tbl := tb_6 (List.mem_of_getElem? (i := 83) rfl)
theorem ml_14_76 : Cond.methodLink RL 76 yX11_handings ∈ lw_tbl := tb_6 (List.mem_of_getElem? (i := 94) rfl)
theorem ml_14_80 : Cond.methodLink RL 80 yX11_handing ∈ lw_tbl := tb_6 (List.mem_of_getElem? (i := 98) rfl)
theorem ml_14_84 : Cond.methodLink RL 84 yX11_failures ∈ lw_tbl := tb_6 (List.mem_of_getElem? (i := 102) rfl)
theorem ml_11_190 : Cond.methodLink RX11 190 yX2_listed ∈ lw_tbl := tb_6 (List.mem_of_getElem? (i := 106) rfl)
theorem ml_14_88 : Cond.methodLink RL 88 yX11_failure ∈ lw_tbl := tb_6 (List.mem_of_getElem? (i := 114) rfl)
theorem ml_11_195 : Cond.methodLink RX11 195 yX2_fact ∈ lw_tbl := tb_6 (List.mem_of_getElem? (i := 118) rfl)
theorem ml_14_92 : Cond.methodLink RL 92 yX11_ring ∈ lw_tbl := tb_6 (List.mem_of_getElem? (i := 122) rfl)
theorem ml_11_197 : Cond.methodLink RX11 197 yX6_inRing ∈ lw_tbl := tb_6 (List.mem_of_getElem? (i := 126) rfl)
theorem ml_14_96 : Cond.methodLink RL 96 yX11_count ∈ lw_tbl := tb_6 (List.mem_of_getElem? (i := 130) rfl)
theorem ml_11_200 : Cond.methodLink RX11 200 yX6_made ∈ lw_tbl := tb_6 (List.mem_of_getElem? (i := 134) rfl)
theorem ml_11_203 : Cond.methodLink RX11 203 yX6_alive ∈ lw_tbl := tb_6 (List.mem_of_getElem? (i := 138) rfl)
theorem ml_11_206 : Cond.methodLink RX11 206 yX6_steps ∈ lw_tbl := tb_6 (List.mem_of_getElem? (i := 142) rfl)
theorem ml_14_100 : Cond.methodLink RL 100 yX11_digest ∈ lw_tbl := tb_6 (List.mem_of_getElem? (i := 146) rfl)
theorem kl_11_209 : Cond.constantLong RX11 209 (17) ∈ lw_tbl := tb_6 (List.mem_of_getElem? (i := 150) rfl)
theorem cl_14_10 : Cond.classLink RL 10 "StoryRoundModel" ∈ lw_tbl := tb_6 (List.mem_of_getElem? (i := 163) rfl)
theorem ml_14_12 : Cond.methodLink RL 12 yX13_init ∈ lw_tbl := tb_6 (List.mem_of_getElem? (i := 165) rfl)
theorem ml_13_1 : Cond.methodLink RX13 1 ⟨"java/lang/Object", "<init>", "()V"⟩ ∈ lw_tbl := tb_6 (List.mem_of_getElem? (i := 168) rfl)
theorem cl_13_7 : Cond.classLink RX13 7 "StoryRoundModel$Stop" ∈ lw_tbl := tb_6 (List.mem_of_getElem? (i := 169) rfl)
theorem ml_22_1 : Cond.methodLink RE2 1 ⟨"java/lang/Object", "<init>", "()V"⟩ ∈ lw_tbl := tb_6 (List.mem_of_getElem? (i := 194) rfl)
theorem fl_22_13 : Cond.fieldLink RE2 13 "java/lang/Throwable" "UNASSIGNED_STACK" "[Ljava/lang/StackTraceElement;" ∈ lw_tbl := tb_6 (List.mem_of_getElem? (i := 195) rfl)
theorem fl_22_20 : Cond.fieldLink RE2 20 "java/lang/Throwable" "SUPPRESSED_SENTINEL" "Ljava/util/List;" ∈ lw_tbl := tb_6 (List.mem_of_getElem? (i := 197) rfl)
theorem ml_13_9 : Cond.methodLink RX13 9 yX12_init ∈ lw_tbl := tb_6 (List.mem_of_getElem? (i := 208) rfl)
theorem ml_12_1 : Cond.methodLink RX12 1 yE0_init ∈ lw_tbl := tb_6 (List.mem_of_getElem? (i := 211) rfl)
theorem ml_20_16 : Cond.methodLink RE0 16 yE1_init ∈ lw_tbl := tb_6 (List.mem_of_getElem? (i := 214) rfl)
theorem ml_21_16 : Cond.methodLink RE1 16 yE2_init ∈ lw_tbl := tb_6 (List.mem_of_getElem? (i := 217) rfl)
theorem fl_22_31 : Cond.fieldLink RE2 31 "java/lang/Throwable" "detailMessage" "Ljava/lang/String;" ∈ lw_tbl := tb_6 (List.mem_of_getElem? (i := 222) rfl)
theorem fl_22_7 : Cond.fieldLink RE2 7 "java/lang/Throwable" "cause" "Ljava/lang/Throwable;" ∈ lw_tbl := tb_6 (List.mem_of_getElem? (i := 223) rfl)
theorem fl_22_17 : Cond.fieldLink RE2 17 "java/lang/Throwable" "stackTrace" "[Ljava/lang/StackTraceElement;" ∈ lw_tbl := tb_6 (List.mem_of_getElem? (i := 224) rfl)
theorem fl_22_24 : Cond.fieldLink RE2 24 "java/lang/Throwable" "suppressedExceptions" "Ljava/util/List;" ∈ lw_tbl := tb_6 (List.mem_of_getElem? (i := 225) rfl)
theorem cl_13_40 : Cond.classLink RX13 40 "java/lang/String" ∈ lw_tbl := tb_6 (List.mem_of_getElem? (i := 236) rfl)
theorem ki_13_237 : Cond.constant RX13 237 (122400) ∈ lw_tbl := tb_7 (List.mem_of_getElem? (i := 21) rfl)
theorem fl_13_10 : Cond.fieldLink RX13 10 "StoryRoundModel" "stop" "LStoryRoundModel$Stop;" ∈ lw_tbl := tb_7 (List.mem_of_getElem? (i := 22) rfl)
theorem fl_13_16 : Cond.fieldLink RX13 16 "StoryRoundModel" "tape" "[B" ∈ lw_tbl := tb_7 (List.mem_of_getElem? (i := 23) rfl)
theorem fl_13_296 : Cond.fieldLink RX13 296 "StoryRoundModel" "size" "I" ∈ lw_tbl := tb_7 (List.mem_of_getElem? (i := 24) rfl)
theorem fl_13_20 : Cond.fieldLink RX13 20 "StoryRoundModel" "text" "[B" ∈ lw_tbl := tb_7 (List.mem_of_getElem? (i := 25) rfl)
theorem fl_13_314 : Cond.fieldLink RX13 314 "StoryRoundModel" "textSize" "I" ∈ lw_tbl := tb_7 (List.mem_of_getElem? (i := 26) rfl)
theorem fl_13_23 : Cond.fieldLink RX13 23 "StoryRoundModel" "sorts" "[I" ∈ lw_tbl := tb_7 (List.mem_of_getElem? (i := 27) rfl)
theorem fl_13_27 : Cond.fieldLink RX13 27 "StoryRoundModel" "froms" "[I" ∈ lw_tbl := tb_7 (List.mem_of_getElem? (i := 28) rfl)
theorem fl_13_30 : Cond.fieldLink RX13 30 "StoryRoundModel" "tos" "[I" ∈ lw_tbl := tb_7 (List.mem_of_getElem? (i := 29) rfl)
theorem fl_13_33 : Cond.fieldLink RX13 33 "StoryRoundModel" "numbers" "[I" ∈ lw_tbl := tb_7 (List.mem_of_getElem? (i := 30) rfl)
theorem fl_13_36 : Cond.fieldLink RX13 36 "StoryRoundModel" "keys" "[J" ∈ lw_tbl := tb_7 (List.mem_of_getElem? (i := 31) rfl)
theorem fl_13_331 : Cond.fieldLink RX13 331 "StoryRoundModel" "at" "I" ∈ lw_tbl := tb_7 (List.mem_of_getElem? (i := 32) rfl)
theorem fl_13_88 : Cond.fieldLink RX13 88 "StoryRoundModel" "words" "[Ljava/lang/String;" ∈ lw_tbl := tb_7 (List.mem_of_getElem? (i := 33) rfl)
theorem fl_13_345 : Cond.fieldLink RX13 345 "StoryRoundModel" "open" "I" ∈ lw_tbl := tb_7 (List.mem_of_getElem? (i := 34) rfl)
theorem fl_13_92 : Cond.fieldLink RX13 92 "StoryRoundModel" "ops" "[I" ∈ lw_tbl := tb_7 (List.mem_of_getElem? (i := 35) rfl)
theorem fl_13_95 : Cond.fieldLink RX13 95 "StoryRoundModel" "as" "[I" ∈ lw_tbl := tb_7 (List.mem_of_getElem? (i := 36) rfl)
theorem fl_13_98 : Cond.fieldLink RX13 98 "StoryRoundModel" "bs" "[I" ∈ lw_tbl := tb_7 (List.mem_of_getElem? (i := 37) rfl)
theorem fl_13_101 : Cond.fieldLink RX13 101 "StoryRoundModel" "cs" "[I" ∈ lw_tbl := tb_7 (List.mem_of_getElem? (i := 38) rfl)
theorem fl_13_351 : Cond.fieldLink RX13 351 "StoryRoundModel" "acts" "I" ∈ lw_tbl := tb_7 (List.mem_of_getElem? (i := 39) rfl)
theorem fl_13_445 : Cond.fieldLink RX13 445 "StoryRoundModel" "bodies" "I" ∈ lw_tbl := tb_7 (List.mem_of_getElem? (i := 40) rfl)
theorem fl_13_104 : Cond.fieldLink RX13 104 "StoryRoundModel" "scripts" "[I" ∈ lw_tbl := tb_7 (List.mem_of_getElem? (i := 41) rfl)
theorem fl_13_107 : Cond.fieldLink RX13 107 "StoryRoundModel" "takes" "[I" ∈ lw_tbl := tb_7 (List.mem_of_getElem? (i := 42) rfl)
theorem fl_13_110 : Cond.fieldLink RX13 110 "StoryRoundModel" "variables" "[I" ∈ lw_tbl := tb_7 (List.mem_of_getElem? (i := 43) rfl)
theorem fl_13_113 : Cond.fieldLink RX13 113 "StoryRoundModel" "nameAts" "[I" ∈ lw_tbl := tb_7 (List.mem_of_getElem? (i := 44) rfl)
theorem fl_13_116 : Cond.fieldLink RX13 116 "StoryRoundModel" "starts" "[I" ∈ lw_tbl := tb_7 (List.mem_of_getElem? (i := 45) rfl)
theorem fl_13_119 : Cond.fieldLink RX13 119 "StoryRoundModel" "names" "[J" ∈ lw_tbl := tb_7 (List.mem_of_getElem? (i := 46) rfl)
theorem fl_13_122 : Cond.fieldLink RX13 122 "StoryRoundModel" "bodyKeys" "[J" ∈ lw_tbl := tb_7 (List.mem_of_getElem? (i := 48) rfl)
theorem fl_13_125 : Cond.fieldLink RX13 125 "StoryRoundModel" "finals" "[I" ∈ lw_tbl := tb_7 (List.mem_of_getElem? (i := 49) rfl)
theorem fl_13_128 : Cond.fieldLink RX13 128 "StoryRoundModel" "behinds" "[I" ∈ lw_tbl := tb_7 (List.mem_of_getElem? (i := 50) rfl)
theorem fl_13_413 : Cond.fieldLink RX13 413 "StoryRoundModel" "tries" "I" ∈ lw_tbl := tb_7 (List.mem_of_getElem? (i := 51) rfl)
theorem fl_13_131 : Cond.fieldLink RX13 131 "StoryRoundModel" "catchNumber" "[I" ∈ lw_tbl := tb_7 (List.mem_of_getElem? (i := 52) rfl)
theorem fl_13_134 : Cond.fieldLink RX13 134 "StoryRoundModel" "catchVariable" "[I" ∈ lw_tbl := tb_7 (List.mem_of_getElem? (i := 53) rfl)
theorem fl_13_137 : Cond.fieldLink RX13 137 "StoryRoundModel" "catchAt" "[I" ∈ lw_tbl := tb_7 (List.mem_of_getElem? (i := 54) rfl)
theorem fl_13_140 : Cond.fieldLink RX13 140 "StoryRoundModel" "catchDepth" "[I" ∈ lw_tbl := tb_7 (List.mem_of_getElem? (i := 55) rfl)
theorem fl_13_416 : Cond.fieldLink RX13 416 "StoryRoundModel" "catches" "I" ∈ lw_tbl := tb_7 (List.mem_of_getElem? (i := 56) rfl)
theorem fl_13_354 : Cond.fieldLink RX13 354 "StoryRoundModel" "nameFault" "I" ∈ lw_tbl := tb_7 (List.mem_of_getElem? (i := 59) rfl)
theorem fl_13_143 : Cond.fieldLink RX13 143 "StoryRoundModel" "askActs" "[I" ∈ lw_tbl := tb_7 (List.mem_of_getElem? (i := 60) rfl)
theorem fl_13_146 : Cond.fieldLink RX13 146 "StoryRoundModel" "askTokens" "[I" ∈ lw_tbl := tb_7 (List.mem_of_getElem? (i := 61) rfl)
theorem fl_13_149 : Cond.fieldLink RX13 149 "StoryRoundModel" "askMany" "[I" ∈ lw_tbl := tb_7 (List.mem_of_getElem? (i := 62) rfl)
theorem fl_13_442 : Cond.fieldLink RX13 442 "StoryRoundModel" "asks" "I" ∈ lw_tbl := tb_7 (List.mem_of_getElem? (i := 63) rfl)
theorem fl_13_152 : Cond.fieldLink RX13 152 "StoryRoundModel" "useActs" "[I" ∈ lw_tbl := tb_7 (List.mem_of_getElem? (i := 64) rfl)
theorem fl_13_155 : Cond.fieldLink RX13 155 "StoryRoundModel" "useTokens" "[I" ∈ lw_tbl := tb_7 (List.mem_of_getElem? (i := 65) rfl)
theorem fl_13_158 : Cond.fieldLink RX13 158 "StoryRoundModel" "catchTry" "[I" ∈ lw_tbl := tb_7 (List.mem_of_getElem? (i := 67) rfl)
theorem fl_13_448 : Cond.fieldLink RX13 448 "StoryRoundModel" "isStory" "Z" ∈ lw_tbl := tb_7 (List.mem_of_getElem? (i := 68) rfl)
theorem fl_13_461 : Cond.fieldLink RX13 461 "StoryRoundModel" "voices" "I" ∈ lw_tbl := tb_7 (List.mem_of_getElem? (i := 69) rfl)
theorem fl_13_464 : Cond.fieldLink RX13 464 "StoryRoundModel" "alive" "I" ∈ lw_tbl := tb_7 (List.mem_of_getElem? (i := 70) rfl)
theorem fl_13_161 : Cond.fieldLink RX13 161 "StoryRoundModel" "states" "[I" ∈ lw_tbl := tb_7 (List.mem_of_getElem? (i := 71) rfl)
theorem fl_13_164 : Cond.fieldLink RX13 164 "StoryRoundModel" "bodyOf" "[I" ∈ lw_tbl := tb_7 (List.mem_of_getElem? (i := 72) rfl)
theorem fl_13_167 : Cond.fieldLink RX13 167 "StoryRoundModel" "argument" "[I" ∈ lw_tbl := tb_7 (List.mem_of_getElem? (i := 73) rfl)
theorem fl_13_170 : Cond.fieldLink RX13 170 "StoryRoundModel" "stepsOf" "[I" ∈ lw_tbl := tb_7 (List.mem_of_getElem? (i := 74) rfl)
theorem fl_13_173 : Cond.fieldLink RX13 173 "StoryRoundModel" "finished" "[I" ∈ lw_tbl := tb_7 (List.mem_of_getElem? (i := 75) rfl)
theorem fl_13_176 : Cond.fieldLink RX13 176 "StoryRoundModel" "resumers" "[I" ∈ lw_tbl := tb_7 (List.mem_of_getElem? (i := 76) rfl)
theorem fl_13_179 : Cond.fieldLink RX13 179 "StoryRoundModel" "makers" "[I" ∈ lw_tbl := tb_7 (List.mem_of_getElem? (i := 77) rfl)
theorem fl_13_182 : Cond.fieldLink RX13 182 "StoryRoundModel" "waits" "[I" ∈ lw_tbl := tb_7 (List.mem_of_getElem? (i := 78) rfl)
theorem fl_13_185 : Cond.fieldLink RX13 185 "StoryRoundModel" "closing" "[Z" ∈ lw_tbl := tb_7 (List.mem_of_getElem? (i := 79) rfl)
theorem fl_13_189 : Cond.fieldLink RX13 189 "StoryRoundModel" "part" "[I" ∈ lw_tbl := tb_7 (List.mem_of_getElem? (i := 80) rfl)
theorem fl_13_192 : Cond.fieldLink RX13 192 "StoryRoundModel" "taken" "[Z" ∈ lw_tbl := tb_7 (List.mem_of_getElem? (i := 81) rfl)
theorem fl_13_195 : Cond.fieldLink RX13 195 "StoryRoundModel" "depth" "[I" ∈ lw_tbl := tb_7 (List.mem_of_getElem? (i := 82) rfl)
theorem fl_13_198 : Cond.fieldLink RX13 198 "StoryRoundModel" "callBody" "[I" ∈ lw_tbl := tb_7 (List.mem_of_getElem? (i := 83) rfl)
theorem fl_13_201 : Cond.fieldLink RX13 201 "StoryRoundModel" "callAct" "[I" ∈ lw_tbl := tb_7 (List.mem_of_getElem? (i := 84) rfl)
theorem fl_13_204 : Cond.fieldLink RX13 204 "StoryRoundModel" "callPlace" "[I" ∈ lw_tbl := tb_7 (List.mem_of_getElem? (i := 85) rfl)
theorem fl_13_207 : Cond.fieldLink RX13 207 "StoryRoundModel" "callGuards" "[I" ∈ lw_tbl := tb_7 (List.mem_of_getElem? (i := 86) rfl)
theorem fl_13_210 : Cond.fieldLink RX13 210 "StoryRoundModel" "callValues" "[I" ∈ lw_tbl := tb_7 (List.mem_of_getElem? (i := 87) rfl)
theorem fl_13_213 : Cond.fieldLink RX13 213 "StoryRoundModel" "cells" "[I" ∈ lw_tbl := tb_7 (List.mem_of_getElem? (i := 88) rfl)
theorem fl_13_216 : Cond.fieldLink RX13 216 "StoryRoundModel" "caught" "[I" ∈ lw_tbl := tb_7 (List.mem_of_getElem? (i := 89) rfl)
theorem fl_13_219 : Cond.fieldLink RX13 219 "StoryRoundModel" "guardMany" "[I" ∈ lw_tbl := tb_7 (List.mem_of_getElem? (i := 90) rfl)
theorem fl_13_222 : Cond.fieldLink RX13 222 "StoryRoundModel" "guardTry" "[I" ∈ lw_tbl := tb_7 (List.mem_of_getElem? (i := 91) rfl)
theorem fl_13_225 : Cond.fieldLink RX13 225 "StoryRoundModel" "guardPhase" "[I" ∈ lw_tbl := tb_7 (List.mem_of_getElem? (i := 92) rfl)
theorem fl_13_228 : Cond.fieldLink RX13 228 "StoryRoundModel" "guardKind" "[I" ∈ lw_tbl := tb_7 (List.mem_of_getElem? (i := 93) rfl)
theorem fl_13_231 : Cond.fieldLink RX13 231 "StoryRoundModel" "guardValue" "[I" ∈ lw_tbl := tb_7 (List.mem_of_getElem? (i := 94) rfl)
theorem fl_13_234 : Cond.fieldLink RX13 234 "StoryRoundModel" "valueMany" "[I" ∈ lw_tbl := tb_7 (List.mem_of_getElem? (i := 95) rfl)
theorem fl_13_238 : Cond.fieldLink RX13 238 "StoryRoundModel" "values" "[I" ∈ lw_tbl := tb_7 (List.mem_of_getElem? (i := 96) rfl)
theorem fl_13_467 : Cond.fieldLink RX13 467 "StoryRoundModel" "steps" "I" ∈ lw_tbl := tb_7 (List.mem_of_getElem? (i := 97) rfl)
theorem fl_13_470 : Cond.fieldLink RX13 470 "StoryRoundModel" "spent" "Z" ∈ lw_tbl := tb_7 (List.mem_of_getElem? (i := 98) rfl)
theorem fl_13_473 : Cond.fieldLink RX13 473 "StoryRoundModel" "current" "I" ∈ lw_tbl := tb_7 (List.mem_of_getElem? (i := 99) rfl)
theorem fl_13_476 : Cond.fieldLink RX13 476 "StoryRoundModel" "answer" "I" ∈ lw_tbl := tb_7 (List.mem_of_getElem? (i := 101) rfl)
theorem fl_13_479 : Cond.fieldLink RX13 479 "StoryRoundModel" "lines" "I" ∈ lw_tbl := tb_7 (List.mem_of_getElem? (i := 102) rfl)
theorem fl_13_241 : Cond.fieldLink RX13 241 "StoryRoundModel" "lineVoices" "[I" ∈ lw_tbl := tb_7 (List.mem_of_getElem? (i := 103) rfl)
theorem fl_13_244 : Cond.fieldLink RX13 244 "StoryRoundModel" "lineValues" "[I" ∈ lw_tbl := tb_7 (List.mem_of_getElem? (i := 104) rfl)
theorem fl_13_482 : Cond.fieldLink RX13 482 "StoryRoundModel" "handings" "I" ∈ lw_tbl := tb_7 (List.mem_of_getElem? (i := 105) rfl)
theorem fl_13_247 : Cond.fieldLink RX13 247 "StoryRoundModel" "handFrom" "[I" ∈ lw_tbl := tb_7 (List.mem_of_getElem? (i := 106) rfl)
theorem fl_13_250 : Cond.fieldLink RX13 250 "StoryRoundModel" "handTo" "[I" ∈ lw_tbl := tb_7 (List.mem_of_getElem? (i := 107) rfl)
theorem fl_13_253 : Cond.fieldLink RX13 253 "StoryRoundModel" "ring" "[I" ∈ lw_tbl := tb_7 (List.mem_of_getElem? (i := 108) rfl)
theorem fl_13_485 : Cond.fieldLink RX13 485 "StoryRoundModel" "ringMany" "I" ∈ lw_tbl := tb_7 (List.mem_of_getElem? (i := 109) rfl)
theorem fl_13_488 : Cond.fieldLink RX13 488 "StoryRoundModel" "failures" "I" ∈ lw_tbl := tb_7 (List.mem_of_getElem? (i := 110) rfl)
theorem fl_13_256 : Cond.fieldLink RX13 256 "StoryRoundModel" "fNumber" "[I" ∈ lw_tbl := tb_7 (List.mem_of_getElem? (i := 111) rfl)
theorem fl_13_259 : Cond.fieldLink RX13 259 "StoryRoundModel" "fValue" "[I" ∈ lw_tbl := tb_7 (List.mem_of_getElem? (i := 112) rfl)
theorem fl_13_262 : Cond.fieldLink RX13 262 "StoryRoundModel" "fVoice" "[I" ∈ lw_tbl := tb_7 (List.mem_of_getElem? (i := 113) rfl)
theorem fl_13_265 : Cond.fieldLink RX13 265 "StoryRoundModel" "fPlace" "[I" ∈ lw_tbl := tb_7 (List.mem_of_getElem? (i := 114) rfl)
theorem fl_13_268 : Cond.fieldLink RX13 268 "StoryRoundModel" "fCause" "[I" ∈ lw_tbl := tb_7 (List.mem_of_getElem? (i := 115) rfl)
theorem fl_13_271 : Cond.fieldLink RX13 271 "StoryRoundModel" "fFirst" "[I" ∈ lw_tbl := tb_7 (List.mem_of_getElem? (i := 116) rfl)
theorem fl_13_274 : Cond.fieldLink RX13 274 "StoryRoundModel" "fLast" "[I" ∈ lw_tbl := tb_7 (List.mem_of_getElem? (i := 117) rfl)
theorem fl_13_277 : Cond.fieldLink RX13 277 "StoryRoundModel" "fNext" "[I" ∈ lw_tbl := tb_7 (List.mem_of_getElem? (i := 118) rfl)
theorem fl_13_491 : Cond.fieldLink RX13 491 "StoryRoundModel" "latest" "I" ∈ lw_tbl := tb_7 (List.mem_of_getElem? (i := 119) rfl)
theorem fl_13_280 : Cond.fieldLink RX13 280 "StoryRoundModel" "reached" "[Z" ∈ lw_tbl := tb_7 (List.mem_of_getElem? (i := 120) rfl)
theorem fl_13_283 : Cond.fieldLink RX13 283 "StoryRoundModel" "toldFailure" "[I" ∈ lw_tbl := tb_7 (List.mem_of_getElem? (i := 121) rfl)
theorem fl_13_286 : Cond.fieldLink RX13 286 "StoryRoundModel" "toldDepth" "[I" ∈ lw_tbl := tb_7 (List.mem_of_getElem? (i := 122) rfl)
theorem fl_13_289 : Cond.fieldLink RX13 289 "StoryRoundModel" "toldHow" "[I" ∈ lw_tbl := tb_7 (List.mem_of_getElem? (i := 123) rfl)
theorem fl_13_642 : Cond.fieldLink RX13 642 "StoryRoundModel" "toldMany" "I" ∈ lw_tbl := tb_7 (List.mem_of_getElem? (i := 124) rfl)
theorem ml_14_19 : Cond.methodLink RL 19 yX13_feed ∈ lw_tbl := tb_8 (List.mem_of_getElem? (i := 93) rfl)
theorem ml_13_292 : Cond.methodLink RX13 292 yX13_in ∈ lw_tbl := tb_8 (List.mem_of_getElem? (i := 97) rfl)
theorem ml_14_24 : Cond.methodLink RL 24 yX13_drop ∈ lw_tbl := tb_8 (List.mem_of_getElem? (i := 100) rfl)
theorem ml_14_28 : Cond.methodLink RL 28 yX13_compile ∈ lw_tbl := tb_8 (List.mem_of_getElem? (i := 104) rfl)
theorem ml_13_452 : Cond.methodLink RX13 452 yX13_begins ∈ lw_tbl := tb_8 (List.mem_of_getElem? (i := 108) rfl)
theorem ml_13_455 : Cond.methodLink RX13 455 yX13_cut ∈ lw_tbl := tb_8 (List.mem_of_getElem? (i := 112) rfl)
theorem ml_13_317 : Cond.methodLink RX13 317 yX13_isLetter ∈ lw_tbl := tb_8 (List.mem_of_getElem? (i := 116) rfl)
theorem ml_13_310 : Cond.methodLink RX13 310 yX13_keyOf ∈ lw_tbl := tb_8 (List.mem_of_getElem? (i := 124) rfl)
theorem ml_13_325 : Cond.methodLink RX13 325 yX13_isFigure ∈ lw_tbl := tb_8 (List.mem_of_getElem? (i := 130) rfl)
theorem ml_13_458 : Cond.methodLink RX13 458 yX13_readBody ∈ lw_tbl := tb_8 (List.mem_of_getElem? (i := 133) rfl)
theorem ml_13_341 : Cond.methodLink RX13 341 yX13_isWord ∈ lw_tbl := tb_8 (List.mem_of_getElem? (i := 137) rfl)
theorem ml_13_337 : Cond.methodLink RX13 337 yX13_fail ∈ lw_tbl := tb_8 (List.mem_of_getElem? (i := 141) rfl)
theorem ml_14_33 : Cond.methodLink RL 33 yX13_body ∈ lw_tbl := tb_8 (List.mem_of_getElem? (i := 222) rfl)
theorem ml_14_37 : Cond.methodLink RL 37 yX13_voice ∈ lw_tbl := tb_8 (List.mem_of_getElem? (i := 226) rfl)
theorem ml_13_619 : Cond.methodLink RX13 619 yX13_isSilent ∈ lw_tbl := tb_8 (List.mem_of_getElem? (i := 230) rfl)
theorem ml_13_604 : Cond.methodLink RX13 604 yX13_made ∈ lw_tbl := tb_8 (List.mem_of_getElem? (i := 234) rfl)
theorem ml_14_41 : Cond.methodLink RL 41 yX13_resume ∈ lw_tbl := tb_8 (List.mem_of_getElem? (i := 238) rfl)
theorem ml_13_554 : Cond.methodLink RX13 554 yX13_isVoice ∈ lw_tbl := tb_9 (List.mem_of_getElem? (i := 2) rfl)
theorem ml_13_510 : Cond.methodLink RX13 510 yX13_isOver ∈ lw_tbl := tb_9 (List.mem_of_getElem? (i := 6) rfl)
theorem ml_13_570 : Cond.methodLink RX13 570 yX13_goesTo ∈ lw_tbl := tb_9 (List.mem_of_getElem? (i := 10) rfl)
theorem ml_13_623 : Cond.methodLink RX13 623 yX13_goes ∈ lw_tbl := tb_9 (List.mem_of_getElem? (i := 34) rfl)
theorem ml_13_525 : Cond.methodLink RX13 525 yX13_failure ∈ lw_tbl := tb_9 (List.mem_of_getElem? (i := 54) rfl)
theorem ml_13_513 : Cond.methodLink RX13 513 yX13_over ∈ lw_tbl := tb_9 (List.mem_of_getElem? (i := 69) rfl)
theorem ml_13_573 : Cond.methodLink RX13 573 yX13_thrownInto ∈ lw_tbl := tb_9 (List.mem_of_getElem? (i := 125) rfl)
theorem ml_14_46 : Cond.methodLink RL 46 yX13_inject ∈ lw_tbl := tb_9 (List.mem_of_getElem? (i := 152) rfl)
theorem ml_14_51 : Cond.methodLink RL 51 yX13_close ∈ lw_tbl := tb_9 (List.mem_of_getElem? (i := 156) rfl)
theorem ml_13_626 : Cond.methodLink RX13 626 yX13_closes_ ∈ lw_tbl := tb_9 (List.mem_of_getElem? (i := 160) rfl)
theorem ml_14_55 : Cond.methodLink RL 55 yX13_sweep ∈ lw_tbl := tb_9 (List.mem_of_getElem? (i := 164) rfl)
theorem ml_14_59 : Cond.methodLink RL 59 yX13_answer ∈ lw_tbl := tb_9 (List.mem_of_getElem? (i := 176) rfl)
theorem ml_14_63 : Cond.methodLink RL 63 yX13_told ∈ lw_tbl := tb_9 (List.mem_of_getElem? (i := 180) rfl)
theorem ml_13_638 : Cond.methodLink RX13 638 yX13_tellsOf ∈ lw_tbl := tb_9 (List.mem_of_getElem? (i := 184) rfl)
theorem ml_13_635 : Cond.methodLink RX13 635 yX13_callMany ∈ lw_tbl := tb_9 (List.mem_of_getElem? (i := 188) rfl)
theorem ml_14_67 : Cond.methodLink RL 67 yX13_local ∈ lw_tbl := tb_9 (List.mem_of_getElem? (i := 192) rfl)
theorem ml_14_71 : Cond.methodLink RL 71 yX13_lines ∈ lw_tbl := tb_9 (List.mem_of_getElem? (i := 196) rfl)
theorem ml_14_75 : Cond.methodLink RL 75 yX13_line ∈ lw_tbl := tb_9 (List.mem_of_getElem? (i := 200) rfl)
theorem ml_14_79 : Cond.methodLink RL 79 yX13_handings ∈ lw_tbl := tb_9 (List.mem_of_getElem? (i := 204) rfl)
theorem ml_14_83 : Cond.methodLink RL 83 yX13_handing ∈ lw_tbl := tb_9 (List.mem_of_getElem? (i := 208) rfl)
theorem ml_14_87 : Cond.methodLink RL 87 yX13_failures ∈ lw_tbl := tb_9 (List.mem_of_getElem? (i := 212) rfl)
theorem ml_13_649 : Cond.methodLink RX13 649 yX13_tellFailures ∈ lw_tbl := tb_9 (List.mem_of_getElem? (i := 216) rfl)
theorem ml_14_91 : Cond.methodLink RL 91 yX13_failure_ ∈ lw_tbl := tb_9 (List.mem_of_getElem? (i := 223) rfl)
theorem ml_14_95 : Cond.methodLink RL 95 yX13_ring ∈ lw_tbl := tb_9 (List.mem_of_getElem? (i := 227) rfl)
theorem ml_14_99 : Cond.methodLink RL 99 yX13_count ∈ lw_tbl := tb_9 (List.mem_of_getElem? (i := 231) rfl)
theorem ml_14_104 : Cond.methodLink RL 104 yX13_digest ∈ lw_tbl := tb_9 (List.mem_of_getElem? (i := 235) rfl)
theorem kl_13_652 : Cond.constantLong RX13 652 (17) ∈ lw_tbl := tb_9 (List.mem_of_getElem? (i := 239) rfl)
theorem kl_14_13 : Cond.constantLong RL 13 (4294967295) ∈ lw_tbl := tb_10 (List.mem_of_getElem? (i := 1) rfl)
theorem fl_17_9 : Cond.fieldLink RJ0 9 "java/lang/String" "value" "[B" ∈ lw_tbl := tb_10 (List.mem_of_getElem? (i := 3) rfl)
theorem fl_17_15 : Cond.fieldLink RJ0 15 "java/lang/String" "coder" "B" ∈ lw_tbl := tb_10 (List.mem_of_getElem? (i := 4) rfl)
theorem fn_13_328 : Cond.fieldLinkNest RX13 328 RX12 "place" "I" RX13 ∈ lw_tbl := tb_6 (List.mem_of_getElem? (i := 220) rfl)
theorem in_compile : Cond.instanceMethod yX13_compile ∈ lw_tbl := tb_8 (List.mem_of_getElem? (i := 105) rfl)
theorem se_compile : Cond.selects RX13 yX13_compile yX13_compile ∈ lw_tbl := tb_8 (List.mem_of_getElem? (i := 106) rfl)
theorem cw_compile : Cond.codeWith yX13_compile cX13_compile 4 (some .int) [(95, 120, 123, 7)] ∈ lw_tbl := tb_8 (List.mem_of_getElem? (i := 107) rfl)
theorem ii_0 : Cond.initialized RX0 ∈ lw_tbl := tb_1 (List.mem_of_getElem? (i := 24) rfl)
theorem it_0 : Cond.instantiable RX0 9 ∈ lw_tbl := tb_3 (List.mem_of_getElem? (i := 49) rfl)
theorem ii_1 : Cond.initialized RX1 ∈ lw_tbl := tb_1 (List.mem_of_getElem? (i := 4) rfl)
theorem it_1 : Cond.instantiable RX1 3 ∈ lw_tbl := tb_1 (List.mem_of_getElem? (i := 55) rfl)
theorem ii_2 : Cond.initialized RX2 ∈ lw_tbl := tb_1 (List.mem_of_getElem? (i := 14) rfl)
theorem it_2 : Cond.instantiable RX2 8 ∈ lw_tbl := tb_2 (List.mem_of_getElem? (i := 0) rfl)
theorem ii_3 : Cond.initialized RX3 ∈ lw_tbl := tb_1 (List.mem_of_getElem? (i := 11) rfl)
theorem it_3 : Cond.instantiable RX3 3 ∈ lw_tbl := tb_1 (List.mem_of_getElem? (i := 202) rfl)
theorem ii_4 : Cond.initialized RX4 ∈ lw_tbl := tb_1 (List.mem_of_getElem? (i := 13) rfl)
theorem it_4 : Cond.instantiable RX4 3 ∈ lw_tbl := tb_1 (List.mem_of_getElem? (i := 224) rfl)
theorem ii_5 : Cond.initialized RX5 ∈ lw_tbl := tb_1 (List.mem_of_getElem? (i := 10) rfl)
theorem it_5 : Cond.instantiable RX5 6 ∈ lw_tbl := tb_1 (List.mem_of_getElem? (i := 177) rfl)
theorem ii_6 : Cond.initialized RX6 ∈ lw_tbl := tb_1 (List.mem_of_getElem? (i := 12) rfl)
theorem it_6 : Cond.instantiable RX6 18 ∈ lw_tbl := tb_1 (List.mem_of_getElem? (i := 218) rfl)
theorem ii_7 : Cond.initialized RX7 ∈ lw_tbl := tb_1 (List.mem_of_getElem? (i := 3) rfl)
theorem it_7 : Cond.instantiable RX7 4 ∈ lw_tbl := tb_1 (List.mem_of_getElem? (i := 49) rfl)
theorem ii_8 : Cond.initialized RX8 ∈ lw_tbl := tb_1 (List.mem_of_getElem? (i := 2) rfl)
theorem it_8 : Cond.instantiable RX8 2 ∈ lw_tbl := tb_1 (List.mem_of_getElem? (i := 35) rfl)
theorem ii_9 : Cond.initialized RX9 ∈ lw_tbl := tb_1 (List.mem_of_getElem? (i := 5) rfl)
theorem it_9 : Cond.instantiable RX9 9 ∈ lw_tbl := tb_1 (List.mem_of_getElem? (i := 90) rfl)
theorem ii_10 : Cond.initialized RX10 ∈ lw_tbl := tb_1 (List.mem_of_getElem? (i := 25) rfl)
theorem it_10 : Cond.instantiable RX10 16 ∈ lw_tbl := tb_4 (List.mem_of_getElem? (i := 156) rfl)
theorem ii_11 : Cond.initialized RX11 ∈ lw_tbl := tb_1 (List.mem_of_getElem? (i := 1) rfl)
theorem it_11 : Cond.instantiable RX11 6 ∈ lw_tbl := tb_1 (List.mem_of_getElem? (i := 27) rfl)
theorem ii_12 : Cond.initialized RX12 ∈ lw_tbl := tb_1 (List.mem_of_getElem? (i := 19) rfl)
theorem it_12 : Cond.instantiable RX12 7 ∈ lw_tbl := tb_6 (List.mem_of_getElem? (i := 170) rfl)
theorem ii_13 : Cond.initialized RX13 ∈ lw_tbl := tb_1 (List.mem_of_getElem? (i := 15) rfl)
theorem it_13 : Cond.instantiable RX13 103 ∈ lw_tbl := tb_6 (List.mem_of_getElem? (i := 164) rfl)
theorem ii_17 : Cond.initialized RJ0 ∈ lw_tbl := tb_1 (List.mem_of_getElem? (i := 6) rfl)
theorem ii_18 : Cond.initialized RJ1 ∈ lw_tbl := tb_1 (List.mem_of_getElem? (i := 7) rfl)
theorem ii_19 : Cond.initialized RJ3 ∈ lw_tbl := tb_1 (List.mem_of_getElem? (i := 8) rfl)
theorem ii_20 : Cond.initialized RE0 ∈ lw_tbl := tb_1 (List.mem_of_getElem? (i := 18) rfl)
theorem ii_21 : Cond.initialized RE1 ∈ lw_tbl := tb_1 (List.mem_of_getElem? (i := 17) rfl)
theorem ii_22 : Cond.initialized RE2 ∈ lw_tbl := tb_1 (List.mem_of_getElem? (i := 16) rfl)
theorem ii_16 : Cond.initialized RJ7 ∈ lw_tbl := tb_1 (List.mem_of_getElem? (i := 20) rfl)
theorem ac_20 : Cond.arrayClass (kel 20) ∈ lw_tbl := tb_1 (List.mem_of_getElem? (i := 47) rfl)
theorem ac_21 : Cond.arrayClass (kel 21) ∈ lw_tbl := tb_1 (List.mem_of_getElem? (i := 70) rfl)
theorem ac_22 : Cond.arrayClass (kel 22) ∈ lw_tbl := tb_1 (List.mem_of_getElem? (i := 175) rfl)
theorem ac_23 : Cond.arrayClass (kel 23) ∈ lw_tbl := tb_8 (List.mem_of_getElem? (i := 92) rfl)
theorem ao_24 : Cond.arrayOver (.object "StoryRound$Body") ∈ lw_tbl := tb_1 (List.mem_of_getElem? (i := 72) rfl)
theorem ao_25 : Cond.arrayOver (.object "StoryRound$Voice") ∈ lw_tbl := tb_2 (List.mem_of_getElem? (i := 31) rfl)
theorem ao_26 : Cond.arrayOver (.array .int) ∈ lw_tbl := tb_2 (List.mem_of_getElem? (i := 33) rfl)
theorem ao_27 : Cond.arrayOver (.object "java/lang/String") ∈ lw_tbl := tb_6 (List.mem_of_getElem? (i := 237) rfl)
theorem oi_i : Cond.instanceMethod Lib.objectInit ∈ lw_tbl := tb_1 (List.mem_of_getElem? (i := 32) rfl)
theorem oi_c : Cond.code Lib.objectInit ⟨#[0xb1]⟩ 1 none ∈ lw_tbl := tb_1 (List.mem_of_getElem? (i := 33) rfl)
theorem lw_pw (k : Nat) {y : MethodName} {c : String} (hc : y.cls = c) (h : (lw_privs[k]?).map (fun q => q.1) = some y) : Cond.selects c y y ∈ lw_tbl := by
  subst hc
  cases h2 : lw_privs[k]? with
  | none => rw [h2] at h; cases h
  | some q =>
    rw [h2] at h
    have e : q.1 = y := Option.some.inj h
    subst e
    exact List.mem_append_left _ (List.mem_map.mpr ⟨q, List.mem_of_getElem? h2, rfl⟩)
theorem mo_X0_fact : MO MX0_fact 1 := ⟨tb_4 (List.mem_of_getElem? (i := 134) rfl), ii_0, by decide +kernel, by decide +kernel, by decide⟩
theorem mv_X0_fact : MV MX0_fact 1 := ⟨mo_X0_fact, tb_4 (List.mem_of_getElem? (i := 132) rfl), tb_4 (List.mem_of_getElem? (i := 133) rfl)⟩
theorem mo_X1_init : MO MX1_init 0 := ⟨tb_1 (List.mem_of_getElem? (i := 58) rfl), ii_1, by decide +kernel, by decide +kernel, by decide⟩
theorem mv_X1_init : MN MX1_init 0 := ⟨mo_X1_init, tb_1 (List.mem_of_getElem? (i := 57) rfl), rfl⟩
theorem mo_X1_clear : MO MX1_clear 0 := ⟨tb_2 (List.mem_of_getElem? (i := 158) rfl), ii_1, by decide +kernel, by decide +kernel, by decide⟩
theorem mv_X1_clear : MV MX1_clear 0 := ⟨mo_X1_clear, tb_2 (List.mem_of_getElem? (i := 156) rfl), tb_2 (List.mem_of_getElem? (i := 157) rfl)⟩
theorem mo_X1_size : MO MX1_size 0 := ⟨tb_3 (List.mem_of_getElem? (i := 123) rfl), ii_1, by decide +kernel, by decide +kernel, by decide⟩
theorem mv_X1_size : MV MX1_size 0 := ⟨mo_X1_size, tb_3 (List.mem_of_getElem? (i := 121) rfl), tb_3 (List.mem_of_getElem? (i := 122) rfl)⟩
theorem mo_X1_add : MO MX1_add 2 := ⟨tb_3 (List.mem_of_getElem? (i := 160) rfl), ii_1, by decide +kernel, by decide +kernel, by decide⟩
theorem mv_X1_add : MV MX1_add 2 := ⟨mo_X1_add, tb_3 (List.mem_of_getElem? (i := 158) rfl), tb_3 (List.mem_of_getElem? (i := 159) rfl)⟩
theorem mo_X2_init : MO MX2_init 0 := ⟨tb_2 (List.mem_of_getElem? (i := 3) rfl), ii_2, by decide +kernel, by decide +kernel, by decide⟩
theorem mv_X2_init : MN MX2_init 0 := ⟨mo_X2_init, tb_2 (List.mem_of_getElem? (i := 2) rfl), rfl⟩
theorem mo_X2_clear : MO MX2_clear 0 := ⟨tb_2 (List.mem_of_getElem? (i := 37) rfl), ii_2, by decide +kernel, by decide +kernel, by decide⟩
theorem mv_X2_clear : MV MX2_clear 0 := ⟨mo_X2_clear, tb_2 (List.mem_of_getElem? (i := 35) rfl), tb_2 (List.mem_of_getElem? (i := 36) rfl)⟩
theorem mo_X2_comeOut : MO MX2_comeOut 1 := ⟨tb_2 (List.mem_of_getElem? (i := 41) rfl), ii_2, by decide +kernel, by decide +kernel, by decide⟩
theorem mv_X2_comeOut : MV MX2_comeOut 1 := ⟨mo_X2_comeOut, tb_2 (List.mem_of_getElem? (i := 39) rfl), tb_2 (List.mem_of_getElem? (i := 40) rfl)⟩
theorem mo_X2_listed : MO MX2_listed 0 := ⟨tb_6 (List.mem_of_getElem? (i := 109) rfl), ii_2, by decide +kernel, by decide +kernel, by decide⟩
theorem mv_X2_listed : MV MX2_listed 0 := ⟨mo_X2_listed, tb_6 (List.mem_of_getElem? (i := 107) rfl), tb_6 (List.mem_of_getElem? (i := 108) rfl)⟩
theorem mo_X2_fact : MO MX2_fact 2 := ⟨tb_6 (List.mem_of_getElem? (i := 121) rfl), ii_2, by decide +kernel, by decide +kernel, by decide⟩
theorem mv_X2_fact : MV MX2_fact 2 := ⟨mo_X2_fact, tb_6 (List.mem_of_getElem? (i := 119) rfl), tb_6 (List.mem_of_getElem? (i := 120) rfl)⟩
theorem mo_X3_init : MO MX3_init 2 := ⟨tb_1 (List.mem_of_getElem? (i := 205) rfl), ii_3, by decide +kernel, by decide +kernel, by decide⟩
theorem mv_X3_init : MN MX3_init 2 := ⟨mo_X3_init, tb_1 (List.mem_of_getElem? (i := 204) rfl), rfl⟩
theorem mo_X3_link : MO MX3_link 0 := ⟨tb_4 (List.mem_of_getElem? (i := 52) rfl), ii_3, by decide +kernel, by decide +kernel, by decide⟩
theorem mv_X3_link : MV MX3_link 0 := ⟨mo_X3_link, tb_4 (List.mem_of_getElem? (i := 50) rfl), tb_4 (List.mem_of_getElem? (i := 51) rfl)⟩
theorem mo_X4_init : MO MX4_init 0 := ⟨tb_1 (List.mem_of_getElem? (i := 227) rfl), ii_4, by decide +kernel, by decide +kernel, by decide⟩
theorem mv_X4_init : MN MX4_init 0 := ⟨mo_X4_init, tb_1 (List.mem_of_getElem? (i := 226) rfl), rfl⟩
theorem mo_X4_clear : MO MX4_clear 0 := ⟨tb_4 (List.mem_of_getElem? (i := 124) rfl), ii_4, by decide +kernel, by decide +kernel, by decide⟩
theorem mv_X4_clear : MV MX4_clear 0 := ⟨mo_X4_clear, tb_4 (List.mem_of_getElem? (i := 122) rfl), tb_4 (List.mem_of_getElem? (i := 123) rfl)⟩
theorem mo_X4_total : MO MX4_total 0 := ⟨tb_6 (List.mem_of_getElem? (i := 78) rfl), ii_4, by decide +kernel, by decide +kernel, by decide⟩
theorem mv_X4_total : MV MX4_total 0 := ⟨mo_X4_total, tb_6 (List.mem_of_getElem? (i := 76) rfl), tb_6 (List.mem_of_getElem? (i := 77) rfl)⟩
theorem mo_X5_init : MO MX5_init 2 := ⟨tb_1 (List.mem_of_getElem? (i := 180) rfl), ii_5, by decide +kernel, by decide +kernel, by decide⟩
theorem mv_X5_init : MN MX5_init 2 := ⟨mo_X5_init, tb_1 (List.mem_of_getElem? (i := 179) rfl), rfl⟩
theorem mo_X5_read : MO MX5_read 0 := ⟨tb_2 (List.mem_of_getElem? (i := 150) rfl), ii_5, by decide +kernel, by decide +kernel, by decide⟩
theorem mv_X5_read : MV MX5_read 0 := ⟨mo_X5_read, tb_2 (List.mem_of_getElem? (i := 148) rfl), tb_2 (List.mem_of_getElem? (i := 149) rfl)⟩
theorem mo_X5_refuse : MO MX5_refuse 1 := ⟨tb_3 (List.mem_of_getElem? (i := 98) rfl), ii_5, by decide +kernel, by decide +kernel, by decide⟩
theorem mv_X5_refuse : MV MX5_refuse 1 := ⟨mo_X5_refuse, tb_3 (List.mem_of_getElem? (i := 97) rfl), lw_pw 6 rfl rfl⟩
theorem mo_X5_isName : MO MX5_isName 0 := ⟨tb_3 (List.mem_of_getElem? (i := 103) rfl), ii_5, by decide +kernel, by decide +kernel, by decide⟩
theorem mv_X5_isName : MV MX5_isName 0 := ⟨mo_X5_isName, tb_3 (List.mem_of_getElem? (i := 102) rfl), lw_pw 7 rfl rfl⟩
theorem mo_X5_readHead : MO MX5_readHead 0 := ⟨tb_3 (List.mem_of_getElem? (i := 44) rfl), ii_5, by decide +kernel, by decide +kernel, by decide⟩
theorem mv_X5_readHead : MV MX5_readHead 0 := ⟨mo_X5_readHead, tb_3 (List.mem_of_getElem? (i := 43) rfl), lw_pw 5 rfl rfl⟩
theorem mo_X5_readBlock : MO MX5_readBlock 0 := ⟨tb_3 (List.mem_of_getElem? (i := 152) rfl), ii_5, by decide +kernel, by decide +kernel, by decide⟩
theorem mv_X5_readBlock : MV MX5_readBlock 0 := ⟨mo_X5_readBlock, tb_3 (List.mem_of_getElem? (i := 151) rfl), lw_pw 11 rfl rfl⟩
theorem mo_X6_init : MO MX6_init 1 := ⟨tb_1 (List.mem_of_getElem? (i := 221) rfl), ii_6, by decide +kernel, by decide +kernel, by decide⟩
theorem mv_X6_init : MN MX6_init 1 := ⟨mo_X6_init, tb_1 (List.mem_of_getElem? (i := 220) rfl), rfl⟩
theorem mo_X6_reset : MO MX6_reset 0 := ⟨tb_4 (List.mem_of_getElem? (i := 98) rfl), ii_6, by decide +kernel, by decide +kernel, by decide⟩
theorem mv_X6_reset : MV MX6_reset 0 := ⟨mo_X6_reset, tb_4 (List.mem_of_getElem? (i := 96) rfl), tb_4 (List.mem_of_getElem? (i := 97) rfl)⟩
theorem mo_X6_made : MO MX6_made 0 := ⟨tb_6 (List.mem_of_getElem? (i := 137) rfl), ii_6, by decide +kernel, by decide +kernel, by decide⟩
theorem mv_X6_made : MV MX6_made 0 := ⟨mo_X6_made, tb_6 (List.mem_of_getElem? (i := 135) rfl), tb_6 (List.mem_of_getElem? (i := 136) rfl)⟩
theorem mo_X6_alive : MO MX6_alive 0 := ⟨tb_6 (List.mem_of_getElem? (i := 141) rfl), ii_6, by decide +kernel, by decide +kernel, by decide⟩
theorem mv_X6_alive : MV MX6_alive 0 := ⟨mo_X6_alive, tb_6 (List.mem_of_getElem? (i := 139) rfl), tb_6 (List.mem_of_getElem? (i := 140) rfl)⟩
theorem mo_X6_steps : MO MX6_steps 0 := ⟨tb_6 (List.mem_of_getElem? (i := 145) rfl), ii_6, by decide +kernel, by decide +kernel, by decide⟩
theorem mv_X6_steps : MV MX6_steps 0 := ⟨mo_X6_steps, tb_6 (List.mem_of_getElem? (i := 143) rfl), tb_6 (List.mem_of_getElem? (i := 144) rfl)⟩
theorem mo_X6_outcome : MO MX6_outcome 0 := ⟨tb_5 (List.mem_of_getElem? (i := 237) rfl), ii_6, by decide +kernel, by decide +kernel, by decide⟩
theorem mv_X6_outcome : MV MX6_outcome 0 := ⟨mo_X6_outcome, tb_5 (List.mem_of_getElem? (i := 235) rfl), tb_5 (List.mem_of_getElem? (i := 236) rfl)⟩
theorem mo_X6_given : MO MX6_given 0 := ⟨tb_6 (List.mem_of_getElem? (i := 51) rfl), ii_6, by decide +kernel, by decide +kernel, by decide⟩
theorem mv_X6_given : MV MX6_given 0 := ⟨mo_X6_given, tb_6 (List.mem_of_getElem? (i := 49) rfl), tb_6 (List.mem_of_getElem? (i := 50) rfl)⟩
theorem mo_X6_isSpent : MO MX6_isSpent 0 := ⟨tb_4 (List.mem_of_getElem? (i := 146) rfl), ii_6, by decide +kernel, by decide +kernel, by decide⟩
theorem mv_X6_isSpent : MV MX6_isSpent 0 := ⟨mo_X6_isSpent, tb_4 (List.mem_of_getElem? (i := 144) rfl), tb_4 (List.mem_of_getElem? (i := 145) rfl)⟩
theorem mo_X6_isFull : MO MX6_isFull 0 := ⟨tb_4 (List.mem_of_getElem? (i := 150) rfl), ii_6, by decide +kernel, by decide +kernel, by decide⟩
theorem mv_X6_isFull : MV MX6_isFull 0 := ⟨mo_X6_isFull, tb_4 (List.mem_of_getElem? (i := 148) rfl), tb_4 (List.mem_of_getElem? (i := 149) rfl)⟩
theorem mo_X6_inRing : MO MX6_inRing 1 := ⟨tb_6 (List.mem_of_getElem? (i := 129) rfl), ii_6, by decide +kernel, by decide +kernel, by decide⟩
theorem mv_X6_inRing : MV MX6_inRing 1 := ⟨mo_X6_inRing, tb_6 (List.mem_of_getElem? (i := 127) rfl), tb_6 (List.mem_of_getElem? (i := 128) rfl)⟩
theorem mo_X6_find : MO MX6_find 1 := ⟨tb_4 (List.mem_of_getElem? (i := 106) rfl), ii_6, by decide +kernel, by decide +kernel, by decide⟩
theorem mv_X6_find : MV MX6_find 1 := ⟨mo_X6_find, tb_4 (List.mem_of_getElem? (i := 104) rfl), tb_4 (List.mem_of_getElem? (i := 105) rfl)⟩
theorem mo_X6_end : MO MX6_end 2 := ⟨tb_4 (List.mem_of_getElem? (i := 114) rfl), ii_6, by decide +kernel, by decide +kernel, by decide⟩
theorem mv_X6_end : MV MX6_end 2 := ⟨mo_X6_end, tb_4 (List.mem_of_getElem? (i := 113) rfl), lw_pw 44 rfl rfl⟩
theorem mo_X6_failAll : MO MX6_failAll 0 := ⟨tb_4 (List.mem_of_getElem? (i := 102) rfl), ii_6, by decide +kernel, by decide +kernel, by decide⟩
theorem mv_X6_failAll : MV MX6_failAll 0 := ⟨mo_X6_failAll, tb_4 (List.mem_of_getElem? (i := 101) rfl), lw_pw 43 rfl rfl⟩
theorem mo_X6_deskResumes : MO MX6_deskResumes 2 := ⟨tb_4 (List.mem_of_getElem? (i := 238) rfl), ii_6, by decide +kernel, by decide +kernel, by decide⟩
theorem mv_X6_deskResumes : MV MX6_deskResumes 2 := ⟨mo_X6_deskResumes, tb_4 (List.mem_of_getElem? (i := 236) rfl), tb_4 (List.mem_of_getElem? (i := 237) rfl)⟩
theorem mo_X6_deskInjects : MO MX6_deskInjects 3 := ⟨tb_6 (List.mem_of_getElem? (i := 5) rfl), ii_6, by decide +kernel, by decide +kernel, by decide⟩
theorem mv_X6_deskInjects : MV MX6_deskInjects 3 := ⟨mo_X6_deskInjects, tb_6 (List.mem_of_getElem? (i := 3) rfl), tb_6 (List.mem_of_getElem? (i := 4) rfl)⟩
theorem mo_X6_deskCloses : MO MX6_deskCloses 1 := ⟨tb_6 (List.mem_of_getElem? (i := 13) rfl), ii_6, by decide +kernel, by decide +kernel, by decide⟩
theorem mv_X6_deskCloses : MV MX6_deskCloses 1 := ⟨mo_X6_deskCloses, tb_6 (List.mem_of_getElem? (i := 11) rfl), tb_6 (List.mem_of_getElem? (i := 12) rfl)⟩
theorem mo_X6_findReached : MO MX6_findReached 0 := ⟨tb_6 (List.mem_of_getElem? (i := 21) rfl), ii_6, by decide +kernel, by decide +kernel, by decide⟩
theorem mv_X6_findReached : MV MX6_findReached 0 := ⟨mo_X6_findReached, tb_6 (List.mem_of_getElem? (i := 19) rfl), tb_6 (List.mem_of_getElem? (i := 20) rfl)⟩
theorem mo_X6_run : MO MX6_run 0 := ⟨tb_5 (List.mem_of_getElem? (i := 38) rfl), ii_6, by decide +kernel, by decide +kernel, by decide⟩
theorem mv_X6_run : MV MX6_run 0 := ⟨mo_X6_run, tb_5 (List.mem_of_getElem? (i := 36) rfl), tb_5 (List.mem_of_getElem? (i := 37) rfl)⟩
theorem mo_X7_init : MO MX7_init 0 := ⟨tb_1 (List.mem_of_getElem? (i := 52) rfl), ii_7, by decide +kernel, by decide +kernel, by decide⟩
theorem mv_X7_init : MN MX7_init 0 := ⟨mo_X7_init, tb_1 (List.mem_of_getElem? (i := 51) rfl), rfl⟩
theorem mo_X7_clear : MO MX7_clear 0 := ⟨tb_2 (List.mem_of_getElem? (i := 154) rfl), ii_7, by decide +kernel, by decide +kernel, by decide⟩
theorem mv_X7_clear : MV MX7_clear 0 := ⟨mo_X7_clear, tb_2 (List.mem_of_getElem? (i := 152) rfl), tb_2 (List.mem_of_getElem? (i := 153) rfl)⟩
theorem mo_X7_size : MO MX7_size 0 := ⟨tb_4 (List.mem_of_getElem? (i := 56) rfl), ii_7, by decide +kernel, by decide +kernel, by decide⟩
theorem mv_X7_size : MV MX7_size 0 := ⟨mo_X7_size, tb_4 (List.mem_of_getElem? (i := 54) rfl), tb_4 (List.mem_of_getElem? (i := 55) rfl)⟩
theorem mo_X7_at : MO MX7_at 1 := ⟨tb_4 (List.mem_of_getElem? (i := 60) rfl), ii_7, by decide +kernel, by decide +kernel, by decide⟩
theorem mv_X7_at : MV MX7_at 1 := ⟨mo_X7_at, tb_4 (List.mem_of_getElem? (i := 58) rfl), tb_4 (List.mem_of_getElem? (i := 59) rfl)⟩
theorem mo_X7_find : MO MX7_find 1 := ⟨tb_3 (List.mem_of_getElem? (i := 115) rfl), ii_7, by decide +kernel, by decide +kernel, by decide⟩
theorem mv_X7_find : MV MX7_find 1 := ⟨mo_X7_find, tb_3 (List.mem_of_getElem? (i := 113) rfl), tb_3 (List.mem_of_getElem? (i := 114) rfl)⟩
theorem mo_X7_noteWrongName : MO MX7_noteWrongName 1 := ⟨tb_3 (List.mem_of_getElem? (i := 119) rfl), ii_7, by decide +kernel, by decide +kernel, by decide⟩
theorem mv_X7_noteWrongName : MV MX7_noteWrongName 1 := ⟨mo_X7_noteWrongName, tb_3 (List.mem_of_getElem? (i := 117) rfl), tb_3 (List.mem_of_getElem? (i := 118) rfl)⟩
theorem mo_X8_init : MO MX8_init 0 := ⟨tb_1 (List.mem_of_getElem? (i := 38) rfl), ii_8, by decide +kernel, by decide +kernel, by decide⟩
theorem mv_X8_init : MN MX8_init 0 := ⟨mo_X8_init, tb_1 (List.mem_of_getElem? (i := 37) rfl), rfl⟩
theorem mo_X8_hasRoom : MO MX8_hasRoom 1 := ⟨tb_2 (List.mem_of_getElem? (i := 126) rfl), ii_8, by decide +kernel, by decide +kernel, by decide⟩
theorem mv_X8_hasRoom : MV MX8_hasRoom 1 := ⟨mo_X8_hasRoom, tb_2 (List.mem_of_getElem? (i := 124) rfl), tb_2 (List.mem_of_getElem? (i := 125) rfl)⟩
theorem mo_X8_add : MO MX8_add 1 := ⟨tb_2 (List.mem_of_getElem? (i := 130) rfl), ii_8, by decide +kernel, by decide +kernel, by decide⟩
theorem mv_X8_add : MV MX8_add 1 := ⟨mo_X8_add, tb_2 (List.mem_of_getElem? (i := 128) rfl), tb_2 (List.mem_of_getElem? (i := 129) rfl)⟩
theorem mo_X8_size : MO MX8_size 0 := ⟨tb_2 (List.mem_of_getElem? (i := 134) rfl), ii_8, by decide +kernel, by decide +kernel, by decide⟩
theorem mv_X8_size : MV MX8_size 0 := ⟨mo_X8_size, tb_2 (List.mem_of_getElem? (i := 132) rfl), tb_2 (List.mem_of_getElem? (i := 133) rfl)⟩
theorem mo_X8_clear : MO MX8_clear 0 := ⟨tb_2 (List.mem_of_getElem? (i := 142) rfl), ii_8, by decide +kernel, by decide +kernel, by decide⟩
theorem mv_X8_clear : MV MX8_clear 0 := ⟨mo_X8_clear, tb_2 (List.mem_of_getElem? (i := 140) rfl), tb_2 (List.mem_of_getElem? (i := 141) rfl)⟩
theorem mo_X8_at : MO MX8_at 1 := ⟨tb_2 (List.mem_of_getElem? (i := 167) rfl), ii_8, by decide +kernel, by decide +kernel, by decide⟩
theorem mv_X8_at : MV MX8_at 1 := ⟨mo_X8_at, tb_2 (List.mem_of_getElem? (i := 165) rfl), tb_2 (List.mem_of_getElem? (i := 166) rfl)⟩
theorem mo_X9_init : MO MX9_init 1 := ⟨tb_1 (List.mem_of_getElem? (i := 93) rfl), ii_9, by decide +kernel, by decide +kernel, by decide⟩
theorem mv_X9_init : MN MX9_init 1 := ⟨mo_X9_init, tb_1 (List.mem_of_getElem? (i := 92) rfl), rfl⟩
theorem mo_X9_readTape : MO MX9_readTape 0 := ⟨tb_2 (List.mem_of_getElem? (i := 162) rfl), ii_9, by decide +kernel, by decide +kernel, by decide⟩
theorem mv_X9_readTape : MV MX9_readTape 0 := ⟨mo_X9_readTape, tb_2 (List.mem_of_getElem? (i := 160) rfl), tb_2 (List.mem_of_getElem? (i := 161) rfl)⟩
theorem mo_X9_next : MO MX9_next 0 := ⟨tb_3 (List.mem_of_getElem? (i := 40) rfl), ii_9, by decide +kernel, by decide +kernel, by decide⟩
theorem mv_X9_next : MV MX9_next 0 := ⟨mo_X9_next, tb_3 (List.mem_of_getElem? (i := 38) rfl), tb_3 (List.mem_of_getElem? (i := 39) rfl)⟩
theorem mo_X9_index : MO MX9_index 0 := ⟨tb_3 (List.mem_of_getElem? (i := 107) rfl), ii_9, by decide +kernel, by decide +kernel, by decide⟩
theorem mv_X9_index : MV MX9_index 0 := ⟨mo_X9_index, tb_3 (List.mem_of_getElem? (i := 105) rfl), tb_3 (List.mem_of_getElem? (i := 106) rfl)⟩
theorem mo_X9_valueOf : MO MX9_valueOf 1 := ⟨tb_3 (List.mem_of_getElem? (i := 111) rfl), ii_9, by decide +kernel, by decide +kernel, by decide⟩
theorem mv_X9_valueOf : MV MX9_valueOf 1 := ⟨mo_X9_valueOf, tb_3 (List.mem_of_getElem? (i := 109) rfl), tb_3 (List.mem_of_getElem? (i := 110) rfl)⟩
theorem mo_X9_readName : MO MX9_readName 1 := ⟨tb_2 (List.mem_of_getElem? (i := 174) rfl), ii_9, by decide +kernel, by decide +kernel, by decide⟩
theorem mv_X9_readName : MV MX9_readName 1 := ⟨mo_X9_readName, tb_2 (List.mem_of_getElem? (i := 173) rfl), lw_pw 0 rfl rfl⟩
theorem mo_X9_readNumber : MO MX9_readNumber 1 := ⟨tb_2 (List.mem_of_getElem? (i := 213) rfl), ii_9, by decide +kernel, by decide +kernel, by decide⟩
theorem mv_X9_readNumber : MV MX9_readNumber 1 := ⟨mo_X9_readNumber, tb_2 (List.mem_of_getElem? (i := 212) rfl), lw_pw 3 rfl rfl⟩
theorem mo_X9_readSign : MO MX9_readSign 2 := ⟨tb_2 (List.mem_of_getElem? (i := 218) rfl), ii_9, by decide +kernel, by decide +kernel, by decide⟩
theorem mv_X9_readSign : MV MX9_readSign 2 := ⟨mo_X9_readSign, tb_2 (List.mem_of_getElem? (i := 217) rfl), lw_pw 4 rfl rfl⟩
theorem mo_X9_add : MO MX9_add 3 := ⟨tb_2 (List.mem_of_getElem? (i := 182) rfl), ii_9, by decide +kernel, by decide +kernel, by decide⟩
theorem mv_X9_add : MV MX9_add 3 := ⟨mo_X9_add, tb_2 (List.mem_of_getElem? (i := 181) rfl), lw_pw 2 rfl rfl⟩
theorem mo_X9_isLetter : MO MX9_isLetter 1 := ⟨tb_2 (List.mem_of_getElem? (i := 170) rfl), ii_9, by decide +kernel, by decide +kernel, by decide⟩
theorem mv_X9_isLetter : MS MX9_isLetter 1 := ⟨mo_X9_isLetter, tb_2 (List.mem_of_getElem? (i := 169) rfl)⟩
theorem mo_X9_isFigure : MO MX9_isFigure 1 := ⟨tb_2 (List.mem_of_getElem? (i := 209) rfl), ii_9, by decide +kernel, by decide +kernel, by decide⟩
theorem mv_X9_isFigure : MS MX9_isFigure 1 := ⟨mo_X9_isFigure, tb_2 (List.mem_of_getElem? (i := 208) rfl)⟩
theorem mo_X10_isOver : MO MX10_isOver 0 := ⟨tb_4 (List.mem_of_getElem? (i := 110) rfl), ii_10, by decide +kernel, by decide +kernel, by decide⟩
theorem mv_X10_isOver : MV MX10_isOver 0 := ⟨mo_X10_isOver, tb_4 (List.mem_of_getElem? (i := 108) rfl), tb_4 (List.mem_of_getElem? (i := 109) rfl)⟩
theorem mo_X10_frameOf : MO MX10_frameOf 1 := ⟨tb_6 (List.mem_of_getElem? (i := 33) rfl), ii_10, by decide +kernel, by decide +kernel, by decide⟩
theorem mv_X10_frameOf : MV MX10_frameOf 1 := ⟨mo_X10_frameOf, tb_6 (List.mem_of_getElem? (i := 31) rfl), tb_6 (List.mem_of_getElem? (i := 32) rfl)⟩
theorem mo_X10_variablesOf : MO MX10_variablesOf 1 := ⟨tb_6 (List.mem_of_getElem? (i := 37) rfl), ii_10, by decide +kernel, by decide +kernel, by decide⟩
theorem mv_X10_variablesOf : MV MX10_variablesOf 1 := ⟨mo_X10_variablesOf, tb_6 (List.mem_of_getElem? (i := 35) rfl), tb_6 (List.mem_of_getElem? (i := 36) rfl)⟩
theorem mo_X10_variable : MO MX10_variable 2 := ⟨tb_5 (List.mem_of_getElem? (i := 228) rfl), ii_10, by decide +kernel, by decide +kernel, by decide⟩
theorem mv_X10_variable : MV MX10_variable 2 := ⟨mo_X10_variable, tb_5 (List.mem_of_getElem? (i := 226) rfl), tb_5 (List.mem_of_getElem? (i := 227) rfl)⟩
theorem mo_X10_fact : MO MX10_fact 1 := ⟨tb_6 (List.mem_of_getElem? (i := 59) rfl), ii_10, by decide +kernel, by decide +kernel, by decide⟩
theorem mv_X10_fact : MV MX10_fact 1 := ⟨mo_X10_fact, tb_6 (List.mem_of_getElem? (i := 57) rfl), tb_6 (List.mem_of_getElem? (i := 58) rfl)⟩
theorem mo_X11_init : MO MX11_init 0 := ⟨tb_1 (List.mem_of_getElem? (i := 30) rfl), ii_11, by decide +kernel, by decide +kernel, by decide⟩
theorem mv_X11_init : MN MX11_init 0 := ⟨mo_X11_init, tb_1 (List.mem_of_getElem? (i := 29) rfl), rfl⟩
theorem mo_X11_feed : MO MX11_feed 2 := ⟨tb_2 (List.mem_of_getElem? (i := 122) rfl), ii_11, by decide +kernel, by decide +kernel, by decide⟩
theorem mv_X11_feed : MV MX11_feed 2 := ⟨mo_X11_feed, tb_2 (List.mem_of_getElem? (i := 120) rfl), tb_2 (List.mem_of_getElem? (i := 121) rfl)⟩
theorem mo_X11_drop : MO MX11_drop 0 := ⟨tb_2 (List.mem_of_getElem? (i := 138) rfl), ii_11, by decide +kernel, by decide +kernel, by decide⟩
theorem mv_X11_drop : MV MX11_drop 0 := ⟨mo_X11_drop, tb_2 (List.mem_of_getElem? (i := 136) rfl), tb_2 (List.mem_of_getElem? (i := 137) rfl)⟩
theorem mo_X11_compile : MO MX11_compile 0 := ⟨tb_2 (List.mem_of_getElem? (i := 146) rfl), ii_11, by decide +kernel, by decide +kernel, by decide⟩
theorem mv_X11_compile : MV MX11_compile 0 := ⟨mo_X11_compile, tb_2 (List.mem_of_getElem? (i := 144) rfl), tb_2 (List.mem_of_getElem? (i := 145) rfl)⟩
theorem mo_X11_body : MO MX11_body 2 := ⟨tb_4 (List.mem_of_getElem? (i := 129) rfl), ii_11, by decide +kernel, by decide +kernel, by decide⟩
theorem mv_X11_body : MV MX11_body 2 := ⟨mo_X11_body, tb_4 (List.mem_of_getElem? (i := 127) rfl), tb_4 (List.mem_of_getElem? (i := 128) rfl)⟩
theorem mo_X11_voice : MO MX11_voice 2 := ⟨tb_4 (List.mem_of_getElem? (i := 138) rfl), ii_11, by decide +kernel, by decide +kernel, by decide⟩
theorem mv_X11_voice : MV MX11_voice 2 := ⟨mo_X11_voice, tb_4 (List.mem_of_getElem? (i := 136) rfl), tb_4 (List.mem_of_getElem? (i := 137) rfl)⟩
theorem mo_X11_resume : MO MX11_resume 2 := ⟨tb_4 (List.mem_of_getElem? (i := 232) rfl), ii_11, by decide +kernel, by decide +kernel, by decide⟩
theorem mv_X11_resume : MV MX11_resume 2 := ⟨mo_X11_resume, tb_4 (List.mem_of_getElem? (i := 230) rfl), tb_4 (List.mem_of_getElem? (i := 231) rfl)⟩
theorem mo_X11_inject : MO MX11_inject 3 := ⟨tb_6 (List.mem_of_getElem? (i := 1) rfl), ii_11, by decide +kernel, by decide +kernel, by decide⟩
theorem mv_X11_inject : MV MX11_inject 3 := ⟨mo_X11_inject, tb_5 (List.mem_of_getElem? (i := 239) rfl), tb_6 (List.mem_of_getElem? (i := 0) rfl)⟩
theorem mo_X11_close : MO MX11_close 1 := ⟨tb_6 (List.mem_of_getElem? (i := 9) rfl), ii_11, by decide +kernel, by decide +kernel, by decide⟩
theorem mv_X11_close : MV MX11_close 1 := ⟨mo_X11_close, tb_6 (List.mem_of_getElem? (i := 7) rfl), tb_6 (List.mem_of_getElem? (i := 8) rfl)⟩
theorem mo_X11_sweep : MO MX11_sweep 0 := ⟨tb_6 (List.mem_of_getElem? (i := 17) rfl), ii_11, by decide +kernel, by decide +kernel, by decide⟩
theorem mv_X11_sweep : MV MX11_sweep 0 := ⟨mo_X11_sweep, tb_6 (List.mem_of_getElem? (i := 15) rfl), tb_6 (List.mem_of_getElem? (i := 16) rfl)⟩
theorem mo_X11_answer : MO MX11_answer 0 := ⟨tb_6 (List.mem_of_getElem? (i := 47) rfl), ii_11, by decide +kernel, by decide +kernel, by decide⟩
theorem mv_X11_answer : MV MX11_answer 0 := ⟨mo_X11_answer, tb_6 (List.mem_of_getElem? (i := 45) rfl), tb_6 (List.mem_of_getElem? (i := 46) rfl)⟩
theorem mo_X11_told : MO MX11_told 2 := ⟨tb_6 (List.mem_of_getElem? (i := 55) rfl), ii_11, by decide +kernel, by decide +kernel, by decide⟩
theorem mv_X11_told : MV MX11_told 2 := ⟨mo_X11_told, tb_6 (List.mem_of_getElem? (i := 53) rfl), tb_6 (List.mem_of_getElem? (i := 54) rfl)⟩
theorem mo_X11_local : MO MX11_local 3 := ⟨tb_6 (List.mem_of_getElem? (i := 63) rfl), ii_11, by decide +kernel, by decide +kernel, by decide⟩
theorem mv_X11_local : MV MX11_local 3 := ⟨mo_X11_local, tb_6 (List.mem_of_getElem? (i := 61) rfl), tb_6 (List.mem_of_getElem? (i := 62) rfl)⟩
theorem mo_X11_lines : MO MX11_lines 0 := ⟨tb_6 (List.mem_of_getElem? (i := 74) rfl), ii_11, by decide +kernel, by decide +kernel, by decide⟩
theorem mv_X11_lines : MV MX11_lines 0 := ⟨mo_X11_lines, tb_6 (List.mem_of_getElem? (i := 72) rfl), tb_6 (List.mem_of_getElem? (i := 73) rfl)⟩
theorem mo_X11_line : MO MX11_line 2 := ⟨tb_6 (List.mem_of_getElem? (i := 82) rfl), ii_11, by decide +kernel, by decide +kernel, by decide⟩
theorem mv_X11_line : MV MX11_line 2 := ⟨mo_X11_line, tb_6 (List.mem_of_getElem? (i := 80) rfl), tb_6 (List.mem_of_getElem? (i := 81) rfl)⟩
theorem mo_X11_handings : MO MX11_handings 0 := ⟨tb_6 (List.mem_of_getElem? (i := 97) rfl), ii_11, by decide +kernel, by decide +kernel, by decide⟩
theorem mv_X11_handings : MV MX11_handings 0 := ⟨mo_X11_handings, tb_6 (List.mem_of_getElem? (i := 95) rfl), tb_6 (List.mem_of_getElem? (i := 96) rfl)⟩
theorem mo_X11_handing : MO MX11_handing 2 := ⟨tb_6 (List.mem_of_getElem? (i := 101) rfl), ii_11, by decide +kernel, by decide +kernel, by decide⟩
theorem mv_X11_handing : MV MX11_handing 2 := ⟨mo_X11_handing, tb_6 (List.mem_of_getElem? (i := 99) rfl), tb_6 (List.mem_of_getElem? (i := 100) rfl)⟩
theorem mo_X11_failures : MO MX11_failures 0 := ⟨tb_6 (List.mem_of_getElem? (i := 105) rfl), ii_11, by decide +kernel, by decide +kernel, by decide⟩
theorem mv_X11_failures : MV MX11_failures 0 := ⟨mo_X11_failures, tb_6 (List.mem_of_getElem? (i := 103) rfl), tb_6 (List.mem_of_getElem? (i := 104) rfl)⟩
theorem mo_X11_failure : MO MX11_failure 2 := ⟨tb_6 (List.mem_of_getElem? (i := 117) rfl), ii_11, by decide +kernel, by decide +kernel, by decide⟩
theorem mv_X11_failure : MV MX11_failure 2 := ⟨mo_X11_failure, tb_6 (List.mem_of_getElem? (i := 115) rfl), tb_6 (List.mem_of_getElem? (i := 116) rfl)⟩
theorem mo_X11_ring : MO MX11_ring 1 := ⟨tb_6 (List.mem_of_getElem? (i := 125) rfl), ii_11, by decide +kernel, by decide +kernel, by decide⟩
theorem mv_X11_ring : MV MX11_ring 1 := ⟨mo_X11_ring, tb_6 (List.mem_of_getElem? (i := 123) rfl), tb_6 (List.mem_of_getElem? (i := 124) rfl)⟩
theorem mo_X11_count : MO MX11_count 1 := ⟨tb_6 (List.mem_of_getElem? (i := 133) rfl), ii_11, by decide +kernel, by decide +kernel, by decide⟩
theorem mv_X11_count : MV MX11_count 1 := ⟨mo_X11_count, tb_6 (List.mem_of_getElem? (i := 131) rfl), tb_6 (List.mem_of_getElem? (i := 132) rfl)⟩
theorem mo_X11_digest : MO MX11_digest 0 := ⟨tb_6 (List.mem_of_getElem? (i := 149) rfl), ii_11, by decide +kernel, by decide +kernel, by decide⟩
theorem mv_X11_digest : MV MX11_digest 0 := ⟨mo_X11_digest, tb_6 (List.mem_of_getElem? (i := 147) rfl), tb_6 (List.mem_of_getElem? (i := 148) rfl)⟩
theorem mo_X11_plays : MO MX11_plays 0 := ⟨tb_4 (List.mem_of_getElem? (i := 142) rfl), ii_11, by decide +kernel, by decide +kernel, by decide⟩
theorem mv_X11_plays : MV MX11_plays 0 := ⟨mo_X11_plays, tb_4 (List.mem_of_getElem? (i := 141) rfl), lw_pw 45 rfl rfl⟩
theorem mo_X11_hasArgument : MO MX11_hasArgument 1 := ⟨tb_6 (List.mem_of_getElem? (i := 67) rfl), ii_11, by decide +kernel, by decide +kernel, by decide⟩
theorem mv_X11_hasArgument : MV MX11_hasArgument 1 := ⟨mo_X11_hasArgument, tb_6 (List.mem_of_getElem? (i := 66) rfl), lw_pw 76 rfl rfl⟩
theorem mo_X11_kept : MO MX11_kept 3 := ⟨tb_6 (List.mem_of_getElem? (i := 85) rfl), ii_11, by decide +kernel, by decide +kernel, by decide⟩
theorem mv_X11_kept : MS MX11_kept 3 := ⟨mo_X11_kept, tb_6 (List.mem_of_getElem? (i := 84) rfl)⟩
theorem mo_X12_init : MO MX12_init 0 := ⟨tb_6 (List.mem_of_getElem? (i := 210) rfl), ii_12, by decide +kernel, by decide +kernel, by decide⟩
theorem mv_X12_init : MN MX12_init 0 := ⟨mo_X12_init, tb_6 (List.mem_of_getElem? (i := 209) rfl), rfl⟩
theorem mo_X13_init : MO MX13_init 0 := ⟨tb_6 (List.mem_of_getElem? (i := 167) rfl), ii_13, by decide +kernel, by decide +kernel, by decide⟩
theorem mv_X13_init : MN MX13_init 0 := ⟨mo_X13_init, tb_6 (List.mem_of_getElem? (i := 166) rfl), rfl⟩
theorem mo_X13_in : MO MX13_in 3 := ⟨tb_8 (List.mem_of_getElem? (i := 99) rfl), ii_13, by decide +kernel, by decide +kernel, by decide⟩
theorem mv_X13_in : MS MX13_in 3 := ⟨mo_X13_in, tb_8 (List.mem_of_getElem? (i := 98) rfl)⟩
theorem mo_X13_feed : MO MX13_feed 2 := ⟨tb_8 (List.mem_of_getElem? (i := 96) rfl), ii_13, by decide +kernel, by decide +kernel, by decide⟩
theorem mv_X13_feed : MV MX13_feed 2 := ⟨mo_X13_feed, tb_8 (List.mem_of_getElem? (i := 94) rfl), tb_8 (List.mem_of_getElem? (i := 95) rfl)⟩
theorem mo_X13_drop : MO MX13_drop 0 := ⟨tb_8 (List.mem_of_getElem? (i := 103) rfl), ii_13, by decide +kernel, by decide +kernel, by decide⟩
theorem mv_X13_drop : MV MX13_drop 0 := ⟨mo_X13_drop, tb_8 (List.mem_of_getElem? (i := 101) rfl), tb_8 (List.mem_of_getElem? (i := 102) rfl)⟩
theorem mo_X13_isLetter : MO MX13_isLetter 1 := ⟨tb_8 (List.mem_of_getElem? (i := 118) rfl), ii_13, by decide +kernel, by decide +kernel, by decide⟩
theorem mv_X13_isLetter : MS MX13_isLetter 1 := ⟨mo_X13_isLetter, tb_8 (List.mem_of_getElem? (i := 117) rfl)⟩
theorem mo_X13_isFigure : MO MX13_isFigure 1 := ⟨tb_8 (List.mem_of_getElem? (i := 132) rfl), ii_13, by decide +kernel, by decide +kernel, by decide⟩
theorem mv_X13_isFigure : MS MX13_isFigure 1 := ⟨mo_X13_isFigure, tb_8 (List.mem_of_getElem? (i := 131) rfl)⟩
theorem mo_X13_keyOf : MO MX13_keyOf 1 := ⟨tb_8 (List.mem_of_getElem? (i := 127) rfl), ii_13, by decide +kernel, by decide +kernel, by decide⟩
theorem mv_X13_keyOf : MV MX13_keyOf 1 := ⟨mo_X13_keyOf, tb_8 (List.mem_of_getElem? (i := 126) rfl), lw_pw 82 rfl rfl⟩
theorem mo_X13_cut : MO MX13_cut 0 := ⟨tb_8 (List.mem_of_getElem? (i := 115) rfl), ii_13, by decide +kernel, by decide +kernel, by decide⟩
theorem mv_X13_cut : MV MX13_cut 0 := ⟨mo_X13_cut, tb_8 (List.mem_of_getElem? (i := 114) rfl), lw_pw 80 rfl rfl⟩
theorem mo_X13_fail : MO MX13_fail 1 := ⟨tb_8 (List.mem_of_getElem? (i := 144) rfl), ii_13, by decide +kernel, by decide +kernel, by decide⟩
theorem mv_X13_fail : MV MX13_fail 1 := ⟨mo_X13_fail, tb_8 (List.mem_of_getElem? (i := 143) rfl), lw_pw 85 rfl rfl⟩
theorem mo_X13_isWord : MO MX13_isWord 1 := ⟨tb_8 (List.mem_of_getElem? (i := 140) rfl), ii_13, by decide +kernel, by decide +kernel, by decide⟩
theorem mv_X13_isWord : MV MX13_isWord 1 := ⟨mo_X13_isWord, tb_8 (List.mem_of_getElem? (i := 139) rfl), lw_pw 84 rfl rfl⟩
theorem mo_X13_readBody : MO MX13_readBody 0 := ⟨tb_8 (List.mem_of_getElem? (i := 136) rfl), ii_13, by decide +kernel, by decide +kernel, by decide⟩
theorem mv_X13_readBody : MV MX13_readBody 0 := ⟨mo_X13_readBody, tb_8 (List.mem_of_getElem? (i := 135) rfl), lw_pw 83 rfl rfl⟩
theorem mo_X13_body : MO MX13_body 2 := ⟨tb_8 (List.mem_of_getElem? (i := 225) rfl), ii_13, by decide +kernel, by decide +kernel, by decide⟩
theorem mv_X13_body : MV MX13_body 2 := ⟨mo_X13_body, tb_8 (List.mem_of_getElem? (i := 223) rfl), tb_8 (List.mem_of_getElem? (i := 224) rfl)⟩
theorem mo_X13_begins : MO MX13_begins 0 := ⟨tb_8 (List.mem_of_getElem? (i := 111) rfl), ii_13, by decide +kernel, by decide +kernel, by decide⟩
theorem mv_X13_begins : MV MX13_begins 0 := ⟨mo_X13_begins, tb_8 (List.mem_of_getElem? (i := 110) rfl), lw_pw 79 rfl rfl⟩
theorem mo_X13_isVoice : MO MX13_isVoice 1 := ⟨tb_9 (List.mem_of_getElem? (i := 5) rfl), ii_13, by decide +kernel, by decide +kernel, by decide⟩
theorem mv_X13_isVoice : MV MX13_isVoice 1 := ⟨mo_X13_isVoice, tb_9 (List.mem_of_getElem? (i := 4) rfl), lw_pw 99 rfl rfl⟩
theorem mo_X13_isOver : MO MX13_isOver 1 := ⟨tb_9 (List.mem_of_getElem? (i := 9) rfl), ii_13, by decide +kernel, by decide +kernel, by decide⟩
theorem mv_X13_isOver : MV MX13_isOver 1 := ⟨mo_X13_isOver, tb_9 (List.mem_of_getElem? (i := 8) rfl), lw_pw 100 rfl rfl⟩
theorem mo_X13_made : MO MX13_made 3 := ⟨tb_8 (List.mem_of_getElem? (i := 237) rfl), ii_13, by decide +kernel, by decide +kernel, by decide⟩
theorem mv_X13_made : MV MX13_made 3 := ⟨mo_X13_made, tb_8 (List.mem_of_getElem? (i := 236) rfl), lw_pw 98 rfl rfl⟩
theorem mo_X13_failure : MO MX13_failure 5 := ⟨tb_9 (List.mem_of_getElem? (i := 57) rfl), ii_13, by decide +kernel, by decide +kernel, by decide⟩
theorem mv_X13_failure : MV MX13_failure 5 := ⟨mo_X13_failure, tb_9 (List.mem_of_getElem? (i := 56) rfl), lw_pw 112 rfl rfl⟩
theorem mo_X13_over : MO MX13_over 2 := ⟨tb_9 (List.mem_of_getElem? (i := 72) rfl), ii_13, by decide +kernel, by decide +kernel, by decide⟩
theorem mv_X13_over : MV MX13_over 2 := ⟨mo_X13_over, tb_9 (List.mem_of_getElem? (i := 71) rfl), lw_pw 115 rfl rfl⟩
theorem mo_X13_goesTo : MO MX13_goesTo 3 := ⟨tb_9 (List.mem_of_getElem? (i := 13) rfl), ii_13, by decide +kernel, by decide +kernel, by decide⟩
theorem mv_X13_goesTo : MV MX13_goesTo 3 := ⟨mo_X13_goesTo, tb_9 (List.mem_of_getElem? (i := 12) rfl), lw_pw 101 rfl rfl⟩
theorem mo_X13_thrownInto : MO MX13_thrownInto 3 := ⟨tb_9 (List.mem_of_getElem? (i := 128) rfl), ii_13, by decide +kernel, by decide +kernel, by decide⟩
theorem mv_X13_thrownInto : MV MX13_thrownInto 3 := ⟨mo_X13_thrownInto, tb_9 (List.mem_of_getElem? (i := 127) rfl), lw_pw 129 rfl rfl⟩
theorem mo_X13_goes : MO MX13_goes 0 := ⟨tb_9 (List.mem_of_getElem? (i := 37) rfl), ii_13, by decide +kernel, by decide +kernel, by decide⟩
theorem mv_X13_goes : MV MX13_goes 0 := ⟨mo_X13_goes, tb_9 (List.mem_of_getElem? (i := 36) rfl), lw_pw 107 rfl rfl⟩
theorem mo_X13_isSilent : MO MX13_isSilent 0 := ⟨tb_8 (List.mem_of_getElem? (i := 233) rfl), ii_13, by decide +kernel, by decide +kernel, by decide⟩
theorem mv_X13_isSilent : MV MX13_isSilent 0 := ⟨mo_X13_isSilent, tb_8 (List.mem_of_getElem? (i := 232) rfl), lw_pw 97 rfl rfl⟩
theorem mo_X13_voice : MO MX13_voice 2 := ⟨tb_8 (List.mem_of_getElem? (i := 229) rfl), ii_13, by decide +kernel, by decide +kernel, by decide⟩
theorem mv_X13_voice : MV MX13_voice 2 := ⟨mo_X13_voice, tb_8 (List.mem_of_getElem? (i := 227) rfl), tb_8 (List.mem_of_getElem? (i := 228) rfl)⟩
theorem mo_X13_resume : MO MX13_resume 2 := ⟨tb_9 (List.mem_of_getElem? (i := 1) rfl), ii_13, by decide +kernel, by decide +kernel, by decide⟩
theorem mv_X13_resume : MV MX13_resume 2 := ⟨mo_X13_resume, tb_8 (List.mem_of_getElem? (i := 239) rfl), tb_9 (List.mem_of_getElem? (i := 0) rfl)⟩
theorem mo_X13_inject : MO MX13_inject 3 := ⟨tb_9 (List.mem_of_getElem? (i := 155) rfl), ii_13, by decide +kernel, by decide +kernel, by decide⟩
theorem mv_X13_inject : MV MX13_inject 3 := ⟨mo_X13_inject, tb_9 (List.mem_of_getElem? (i := 153) rfl), tb_9 (List.mem_of_getElem? (i := 154) rfl)⟩
theorem mo_X13_closes_ : MO MX13_closes_ 2 := ⟨tb_9 (List.mem_of_getElem? (i := 163) rfl), ii_13, by decide +kernel, by decide +kernel, by decide⟩
theorem mv_X13_closes_ : MV MX13_closes_ 2 := ⟨mo_X13_closes_, tb_9 (List.mem_of_getElem? (i := 162) rfl), lw_pw 135 rfl rfl⟩
theorem mo_X13_close : MO MX13_close 1 := ⟨tb_9 (List.mem_of_getElem? (i := 159) rfl), ii_13, by decide +kernel, by decide +kernel, by decide⟩
theorem mv_X13_close : MV MX13_close 1 := ⟨mo_X13_close, tb_9 (List.mem_of_getElem? (i := 157) rfl), tb_9 (List.mem_of_getElem? (i := 158) rfl)⟩
theorem mo_X13_sweep : MO MX13_sweep 0 := ⟨tb_9 (List.mem_of_getElem? (i := 167) rfl), ii_13, by decide +kernel, by decide +kernel, by decide⟩
theorem mv_X13_sweep : MV MX13_sweep 0 := ⟨mo_X13_sweep, tb_9 (List.mem_of_getElem? (i := 165) rfl), tb_9 (List.mem_of_getElem? (i := 166) rfl)⟩
theorem mo_X13_answer : MO MX13_answer 0 := ⟨tb_9 (List.mem_of_getElem? (i := 179) rfl), ii_13, by decide +kernel, by decide +kernel, by decide⟩
theorem mv_X13_answer : MV MX13_answer 0 := ⟨mo_X13_answer, tb_9 (List.mem_of_getElem? (i := 177) rfl), tb_9 (List.mem_of_getElem? (i := 178) rfl)⟩
theorem mo_X13_callMany : MO MX13_callMany 1 := ⟨tb_9 (List.mem_of_getElem? (i := 191) rfl), ii_13, by decide +kernel, by decide +kernel, by decide⟩
theorem mv_X13_callMany : MV MX13_callMany 1 := ⟨mo_X13_callMany, tb_9 (List.mem_of_getElem? (i := 190) rfl), lw_pw 139 rfl rfl⟩
theorem mo_X13_tellsOf : MO MX13_tellsOf 2 := ⟨tb_9 (List.mem_of_getElem? (i := 187) rfl), ii_13, by decide +kernel, by decide +kernel, by decide⟩
theorem mv_X13_tellsOf : MV MX13_tellsOf 2 := ⟨mo_X13_tellsOf, tb_9 (List.mem_of_getElem? (i := 186) rfl), lw_pw 138 rfl rfl⟩
theorem mo_X13_told : MO MX13_told 2 := ⟨tb_9 (List.mem_of_getElem? (i := 183) rfl), ii_13, by decide +kernel, by decide +kernel, by decide⟩
theorem mv_X13_told : MV MX13_told 2 := ⟨mo_X13_told, tb_9 (List.mem_of_getElem? (i := 181) rfl), tb_9 (List.mem_of_getElem? (i := 182) rfl)⟩
theorem mo_X13_local : MO MX13_local 3 := ⟨tb_9 (List.mem_of_getElem? (i := 195) rfl), ii_13, by decide +kernel, by decide +kernel, by decide⟩
theorem mv_X13_local : MV MX13_local 3 := ⟨mo_X13_local, tb_9 (List.mem_of_getElem? (i := 193) rfl), tb_9 (List.mem_of_getElem? (i := 194) rfl)⟩
theorem mo_X13_lines : MO MX13_lines 0 := ⟨tb_9 (List.mem_of_getElem? (i := 199) rfl), ii_13, by decide +kernel, by decide +kernel, by decide⟩
theorem mv_X13_lines : MV MX13_lines 0 := ⟨mo_X13_lines, tb_9 (List.mem_of_getElem? (i := 197) rfl), tb_9 (List.mem_of_getElem? (i := 198) rfl)⟩
theorem mo_X13_line : MO MX13_line 2 := ⟨tb_9 (List.mem_of_getElem? (i := 203) rfl), ii_13, by decide +kernel, by decide +kernel, by decide⟩
theorem mv_X13_line : MV MX13_line 2 := ⟨mo_X13_line, tb_9 (List.mem_of_getElem? (i := 201) rfl), tb_9 (List.mem_of_getElem? (i := 202) rfl)⟩
theorem mo_X13_handings : MO MX13_handings 0 := ⟨tb_9 (List.mem_of_getElem? (i := 207) rfl), ii_13, by decide +kernel, by decide +kernel, by decide⟩
theorem mv_X13_handings : MV MX13_handings 0 := ⟨mo_X13_handings, tb_9 (List.mem_of_getElem? (i := 205) rfl), tb_9 (List.mem_of_getElem? (i := 206) rfl)⟩
theorem mo_X13_handing : MO MX13_handing 2 := ⟨tb_9 (List.mem_of_getElem? (i := 211) rfl), ii_13, by decide +kernel, by decide +kernel, by decide⟩
theorem mv_X13_handing : MV MX13_handing 2 := ⟨mo_X13_handing, tb_9 (List.mem_of_getElem? (i := 209) rfl), tb_9 (List.mem_of_getElem? (i := 210) rfl)⟩
theorem mo_X13_tellFailures : MO MX13_tellFailures 0 := ⟨tb_9 (List.mem_of_getElem? (i := 219) rfl), ii_13, by decide +kernel, by decide +kernel, by decide⟩
theorem mv_X13_tellFailures : MV MX13_tellFailures 0 := ⟨mo_X13_tellFailures, tb_9 (List.mem_of_getElem? (i := 218) rfl), lw_pw 140 rfl rfl⟩
theorem mo_X13_failures : MO MX13_failures 0 := ⟨tb_9 (List.mem_of_getElem? (i := 215) rfl), ii_13, by decide +kernel, by decide +kernel, by decide⟩
theorem mv_X13_failures : MV MX13_failures 0 := ⟨mo_X13_failures, tb_9 (List.mem_of_getElem? (i := 213) rfl), tb_9 (List.mem_of_getElem? (i := 214) rfl)⟩
theorem mo_X13_failure_ : MO MX13_failure_ 2 := ⟨tb_9 (List.mem_of_getElem? (i := 226) rfl), ii_13, by decide +kernel, by decide +kernel, by decide⟩
theorem mv_X13_failure_ : MV MX13_failure_ 2 := ⟨mo_X13_failure_, tb_9 (List.mem_of_getElem? (i := 224) rfl), tb_9 (List.mem_of_getElem? (i := 225) rfl)⟩
theorem mo_X13_ring : MO MX13_ring 1 := ⟨tb_9 (List.mem_of_getElem? (i := 230) rfl), ii_13, by decide +kernel, by decide +kernel, by decide⟩
theorem mv_X13_ring : MV MX13_ring 1 := ⟨mo_X13_ring, tb_9 (List.mem_of_getElem? (i := 228) rfl), tb_9 (List.mem_of_getElem? (i := 229) rfl)⟩
theorem mo_X13_count : MO MX13_count 1 := ⟨tb_9 (List.mem_of_getElem? (i := 234) rfl), ii_13, by decide +kernel, by decide +kernel, by decide⟩
theorem mv_X13_count : MV MX13_count 1 := ⟨mo_X13_count, tb_9 (List.mem_of_getElem? (i := 232) rfl), tb_9 (List.mem_of_getElem? (i := 233) rfl)⟩
theorem mo_X13_digest : MO MX13_digest 0 := ⟨tb_9 (List.mem_of_getElem? (i := 238) rfl), ii_13, by decide +kernel, by decide +kernel, by decide⟩
theorem mv_X13_digest : MV MX13_digest 0 := ⟨mo_X13_digest, tb_9 (List.mem_of_getElem? (i := 236) rfl), tb_9 (List.mem_of_getElem? (i := 237) rfl)⟩
theorem mo_J0_length_8abf5 : MO MJ0_length_8abf5 0 := ⟨tb_1 (List.mem_of_getElem? (i := 99) rfl), ii_17, by decide +kernel, by decide +kernel, by decide⟩
theorem mv_J0_length_8abf5 : MV MJ0_length_8abf5 0 := ⟨mo_J0_length_8abf5, tb_1 (List.mem_of_getElem? (i := 97) rfl), tb_1 (List.mem_of_getElem? (i := 98) rfl)⟩
theorem mo_J0_charAt_5068e : MO MJ0_charAt_5068e 1 := ⟨tb_1 (List.mem_of_getElem? (i := 109) rfl), ii_17, by decide +kernel, by decide +kernel, by decide⟩
theorem mv_J0_charAt_5068e : MV MJ0_charAt_5068e 1 := ⟨mo_J0_charAt_5068e, tb_1 (List.mem_of_getElem? (i := 107) rfl), tb_1 (List.mem_of_getElem? (i := 108) rfl)⟩
theorem mo_J0_coder_7d493 : MO MJ0_coder_7d493 0 := ⟨tb_1 (List.mem_of_getElem? (i := 103) rfl), ii_17, by decide +kernel, by decide +kernel, by decide⟩
theorem mv_J0_coder_7d493 : MV MJ0_coder_7d493 0 := ⟨mo_J0_coder_7d493, tb_1 (List.mem_of_getElem? (i := 101) rfl), tb_1 (List.mem_of_getElem? (i := 102) rfl)⟩
theorem mo_J0_isLatin1_aae02 : MO MJ0_isLatin1_aae02 0 := ⟨tb_1 (List.mem_of_getElem? (i := 113) rfl), ii_17, by decide +kernel, by decide +kernel, by decide⟩
theorem mv_J0_isLatin1_aae02 : MV MJ0_isLatin1_aae02 0 := ⟨mo_J0_isLatin1_aae02, tb_1 (List.mem_of_getElem? (i := 111) rfl), tb_1 (List.mem_of_getElem? (i := 112) rfl)⟩
theorem mo_J0_checkIndex_df160 : MO MJ0_checkIndex_df160 2 := ⟨tb_1 (List.mem_of_getElem? (i := 119) rfl), ii_17, by decide +kernel, by decide +kernel, by decide⟩
theorem mv_J0_checkIndex_df160 : MS MJ0_checkIndex_df160 2 := ⟨mo_J0_checkIndex_df160, tb_1 (List.mem_of_getElem? (i := 118) rfl)⟩
theorem mo_J1_charAt_3b067 : MO MJ1_charAt_3b067 2 := ⟨tb_1 (List.mem_of_getElem? (i := 116) rfl), ii_18, by decide +kernel, by decide +kernel, by decide⟩
theorem mv_J1_charAt_3b067 : MS MJ1_charAt_3b067 2 := ⟨mo_J1_charAt_3b067, tb_1 (List.mem_of_getElem? (i := 115) rfl)⟩
theorem mo_J7_copyOf_59c91 : MO MJ7_copyOf_59c91 2 := ⟨tb_2 (List.mem_of_getElem? (i := 185) rfl), ii_16, by decide +kernel, by decide +kernel, by decide⟩
theorem mv_J7_copyOf_59c91 : MS MJ7_copyOf_59c91 2 := ⟨mo_J7_copyOf_59c91, tb_2 (List.mem_of_getElem? (i := 184) rfl)⟩
theorem mo_J7_copyOf_c38d5 : MO MJ7_copyOf_c38d5 2 := ⟨tb_2 (List.mem_of_getElem? (i := 201) rfl), ii_16, by decide +kernel, by decide +kernel, by decide⟩
theorem mv_J7_copyOf_c38d5 : MS MJ7_copyOf_c38d5 2 := ⟨mo_J7_copyOf_c38d5, tb_2 (List.mem_of_getElem? (i := 200) rfl)⟩
theorem mo_J3_checkIndex_8e157 : MO MJ3_checkIndex_8e157 3 := ⟨tb_1 (List.mem_of_getElem? (i := 124) rfl), ii_19, by decide +kernel, by decide +kernel, by decide⟩
theorem mv_J3_checkIndex_8e157 : MS MJ3_checkIndex_8e157 3 := ⟨mo_J3_checkIndex_8e157, tb_1 (List.mem_of_getElem? (i := 123) rfl)⟩
theorem mo_E0_init : MO ME0_init 4 := ⟨tb_6 (List.mem_of_getElem? (i := 213) rfl), ii_20, by decide +kernel, by decide +kernel, by decide⟩
theorem mv_E0_init : MN ME0_init 4 := ⟨mo_E0_init, tb_6 (List.mem_of_getElem? (i := 212) rfl), rfl⟩
theorem mo_E1_init : MO ME1_init 4 := ⟨tb_6 (List.mem_of_getElem? (i := 216) rfl), ii_21, by decide +kernel, by decide +kernel, by decide⟩
theorem mv_E1_init : MN ME1_init 4 := ⟨mo_E1_init, tb_6 (List.mem_of_getElem? (i := 215) rfl), rfl⟩
theorem mo_E2_init : MO ME2_init 4 := ⟨tb_6 (List.mem_of_getElem? (i := 219) rfl), ii_22, by decide +kernel, by decide +kernel, by decide⟩
theorem mv_E2_init : MN ME2_init 4 := ⟨mo_E2_init, tb_6 (List.mem_of_getElem? (i := 218) rfl), rfl⟩

