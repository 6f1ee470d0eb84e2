theorem tw_0 : Cond.classLink RL 7 RX9 ∈ lw_tbl := List.mem_append_right _ (List.mem_append_left _ (List.mem_of_getElem? (i := 14) rfl))
theorem tw_1 : Cond.instantiable RX9 10 ∈ lw_tbl := List.mem_append_right _ (List.mem_append_left _ (List.mem_of_getElem? (i := 15) rfl))
theorem tw_2 : Cond.initialized RX9 ∈ lw_tbl := List.mem_append_right _ (List.mem_append_left _ (List.mem_of_getElem? (i := 1) rfl))
theorem tw_3 : Cond.classLink RL 10 RX10 ∈ lw_tbl := List.mem_append_right _ (List.mem_append_right _ (List.mem_append_right _ (List.mem_append_right _ (List.mem_append_left _ (List.mem_of_getElem? (i := 21) rfl)))))
theorem tw_4 : Cond.instantiable RX10 30 ∈ lw_tbl := List.mem_append_right _ (List.mem_append_right _ (List.mem_append_right _ (List.mem_append_right _ (List.mem_append_left _ (List.mem_of_getElem? (i := 22) rfl)))))
theorem tw_5 : Cond.initialized RX10 ∈ lw_tbl := List.mem_append_right _ (List.mem_append_left _ (List.mem_of_getElem? (i := 11) rfl))
theorem tw_6 : Cond.methodLink RL 9 yX9_init ∈ lw_tbl := List.mem_append_right _ (List.mem_append_left _ (List.mem_of_getElem? (i := 16) rfl))
theorem tw_7 : Cond.instanceMethod yX9_init ∈ lw_tbl := List.mem_append_right _ (List.mem_append_left _ (List.mem_of_getElem? (i := 17) rfl))
theorem tw_8 : Cond.code yX9_init cX9_init 2 none ∈ lw_tbl := List.mem_append_right _ (List.mem_append_left _ (List.mem_of_getElem? (i := 18) rfl))
theorem tw_9 : Cond.methodLink RX9 1 objectInit ∈ lw_tbl := List.mem_append_right _ (List.mem_append_left _ (List.mem_of_getElem? (i := 19) rfl))
theorem tw_10 : Cond.instanceMethod objectInit ∈ lw_tbl := List.mem_append_right _ (List.mem_append_left _ (List.mem_of_getElem? (i := 20) rfl))
theorem tw_11 : Cond.code objectInit ⟨#[0xb1]⟩ 1 none ∈ lw_tbl := List.mem_append_right _ (List.mem_append_left _ (List.mem_of_getElem? (i := 21) rfl))
theorem tw_12 : Cond.classLink RX9 7 RX6 ∈ lw_tbl := List.mem_append_right _ (List.mem_append_left _ (List.mem_of_getElem? (i := 22) rfl))
theorem tw_13 : Cond.instantiable RX6 2 ∈ lw_tbl := List.mem_append_right _ (List.mem_append_left _ (List.mem_of_getElem? (i := 23) rfl))
theorem tw_14 : Cond.initialized RX6 ∈ lw_tbl := List.mem_append_right _ (List.mem_append_left _ (List.mem_of_getElem? (i := 2) rfl))
theorem tw_15 : Cond.fieldLink RX9 10 "StoryNest" "pad" "LStoryNest$Pad;" ∈ lw_tbl := List.mem_append_right _ (List.mem_append_right _ (List.mem_append_left _ (List.mem_of_getElem? (i := 32) rfl)))
theorem tw_16 : Cond.classLink RX9 16 RX0 ∈ lw_tbl := List.mem_append_right _ (List.mem_append_left _ (List.mem_of_getElem? (i := 40) rfl))
theorem tw_17 : Cond.instantiable RX0 10 ∈ lw_tbl := List.mem_append_right _ (List.mem_append_left _ (List.mem_of_getElem? (i := 41) rfl))
theorem tw_18 : Cond.initialized RX0 ∈ lw_tbl := List.mem_append_right _ (List.mem_append_left _ (List.mem_of_getElem? (i := 3) rfl))
theorem tw_19 : Cond.fieldLink RX9 19 "StoryNest" "book" "LStoryNest$Book;" ∈ lw_tbl := List.mem_append_right _ (List.mem_append_right _ (List.mem_append_left _ (List.mem_of_getElem? (i := 33) rfl)))
theorem tw_20 : Cond.fieldLink RX9 23 "StoryNest" "images" "[LStoryNest$Book;" ∈ lw_tbl := List.mem_append_right _ (List.mem_append_right _ (List.mem_append_left _ (List.mem_of_getElem? (i := 34) rfl)))
theorem tw_21 : Cond.fieldLink RX9 27 "StoryNest" "kept" "I" ∈ lw_tbl := List.mem_append_right _ (List.mem_append_right _ (List.mem_append_left _ (List.mem_of_getElem? (i := 35) rfl)))
theorem tw_22 : Cond.classLink RX9 31 RX1 ∈ lw_tbl := List.mem_append_right _ (List.mem_append_left _ (List.mem_of_getElem? (i := 98) rfl))
theorem tw_23 : Cond.instantiable RX1 8 ∈ lw_tbl := List.mem_append_right _ (List.mem_append_left _ (List.mem_of_getElem? (i := 99) rfl))
theorem lf_wsL_law_r1 : ∀ w ∈ wsL_law_r1, w ∈ lw_tbl := by
  intro w hw
  simp only [wsL_law_r1, List.mem_cons, List.not_mem_nil, or_false] at hw
  rcases hw with rfl | rfl | rfl | rfl | rfl | rfl | rfl | rfl | rfl | rfl | rfl | rfl | rfl | rfl | rfl | rfl | rfl | rfl | rfl | rfl | rfl | rfl | rfl | rfl
  · exact tw_0
  · exact tw_1
  · exact tw_2
  · exact tw_3
  · exact tw_4
  · exact tw_5
  · exact tw_6
  · exact tw_7
  · exact tw_8
  · exact tw_9
  · exact tw_10
  · exact tw_11
  · exact tw_12
  · exact tw_13
  · exact tw_14
  · exact tw_15
  · exact tw_16
  · exact tw_17
  · exact tw_18
  · exact tw_19
  · exact tw_20
  · exact tw_21
  · exact tw_22
  · exact tw_23
theorem tw_24 : Cond.initialized RX1 ∈ lw_tbl := List.mem_append_right _ (List.mem_append_left _ (List.mem_of_getElem? (i := 4) rfl))
theorem tw_25 : Cond.fieldLink RX9 36 "StoryNest" "judged" "LStoryNest$Evening;" ∈ lw_tbl := List.mem_append_right _ (List.mem_append_right _ (List.mem_append_left _ (List.mem_of_getElem? (i := 36) rfl)))
theorem tw_26 : Cond.classLink RX9 40 RX4 ∈ lw_tbl := List.mem_append_right _ (List.mem_append_left _ (List.mem_of_getElem? (i := 164) rfl))
theorem tw_27 : Cond.instantiable RX4 10 ∈ lw_tbl := List.mem_append_right _ (List.mem_append_left _ (List.mem_of_getElem? (i := 165) rfl))
theorem tw_28 : Cond.initialized RX4 ∈ lw_tbl := List.mem_append_right _ (List.mem_append_left _ (List.mem_of_getElem? (i := 6) rfl))
theorem tw_29 : Cond.fieldLink RX9 45 "StoryNest" "nights" "LStoryNest$Nights;" ∈ lw_tbl := List.mem_append_right _ (List.mem_append_right _ (List.mem_append_left _ (List.mem_of_getElem? (i := 37) rfl)))
theorem tw_30 : Cond.classLink RX9 49 RX5 ∈ lw_tbl := List.mem_append_right _ (List.mem_append_left _ (List.mem_of_getElem? (i := 213) rfl))
theorem tw_31 : Cond.instantiable RX5 4 ∈ lw_tbl := List.mem_append_right _ (List.mem_append_left _ (List.mem_of_getElem? (i := 214) rfl))
theorem tw_32 : Cond.initialized RX5 ∈ lw_tbl := List.mem_append_right _ (List.mem_append_left _ (List.mem_of_getElem? (i := 7) rfl))
theorem tw_33 : Cond.fieldLink RX9 54 "StoryNest" "out" "LStoryNest$Out;" ∈ lw_tbl := List.mem_append_right _ (List.mem_append_right _ (List.mem_append_left _ (List.mem_of_getElem? (i := 38) rfl)))
theorem tw_34 : Cond.classLink RX9 58 RX2 ∈ lw_tbl := List.mem_append_right _ (List.mem_append_left _ (List.mem_of_getElem? (i := 233) rfl))
theorem tw_35 : Cond.instantiable RX2 1 ∈ lw_tbl := List.mem_append_right _ (List.mem_append_left _ (List.mem_of_getElem? (i := 234) rfl))
theorem tw_36 : Cond.initialized RX2 ∈ lw_tbl := List.mem_append_right _ (List.mem_append_left _ (List.mem_of_getElem? (i := 8) rfl))
theorem tw_37 : Cond.fieldLink RX9 63 "StoryNest" "game" "LStoryNest$Game;" ∈ lw_tbl := List.mem_append_right _ (List.mem_append_right _ (List.mem_append_left _ (List.mem_of_getElem? (i := 39) rfl)))
theorem tw_38 : Cond.classLink RX9 67 RX8 ∈ lw_tbl := List.mem_append_right _ (List.mem_append_right _ (List.mem_append_left _ (List.mem_of_getElem? (i := 3) rfl)))
theorem tw_39 : Cond.instantiable RX8 4 ∈ lw_tbl := List.mem_append_right _ (List.mem_append_right _ (List.mem_append_left _ (List.mem_of_getElem? (i := 4) rfl)))
theorem tw_40 : Cond.initialized RX8 ∈ lw_tbl := List.mem_append_right _ (List.mem_append_left _ (List.mem_of_getElem? (i := 9) rfl))
theorem tw_41 : Cond.fieldLink RX9 72 "StoryNest" "wall" "LStoryNest$Wall;" ∈ lw_tbl := List.mem_append_right _ (List.mem_append_right _ (List.mem_append_left _ (List.mem_of_getElem? (i := 40) rfl)))
theorem tw_42 : Cond.classLink RX9 76 RX7 ∈ lw_tbl := List.mem_append_right _ (List.mem_append_right _ (List.mem_append_left _ (List.mem_of_getElem? (i := 22) rfl)))
theorem tw_43 : Cond.instantiable RX7 1 ∈ lw_tbl := List.mem_append_right _ (List.mem_append_right _ (List.mem_append_left _ (List.mem_of_getElem? (i := 23) rfl)))
theorem tw_44 : Cond.initialized RX7 ∈ lw_tbl := List.mem_append_right _ (List.mem_append_left _ (List.mem_of_getElem? (i := 10) rfl))
theorem tw_45 : Cond.fieldLink RX9 79 "StoryNest" "ring" "LStoryNest$Rings;" ∈ lw_tbl := List.mem_append_right _ (List.mem_append_right _ (List.mem_append_left _ (List.mem_of_getElem? (i := 41) rfl)))
theorem tw_46 : Cond.instanceMethod yX6_init ∈ lw_tbl := List.mem_append_right _ (List.mem_append_left _ (List.mem_of_getElem? (i := 25) rfl))
theorem tw_47 : Cond.code yX6_init cX6_init 1 none ∈ lw_tbl := List.mem_append_right _ (List.mem_append_left _ (List.mem_of_getElem? (i := 26) rfl))
theorem lf_wsL_law_r2 : ∀ w ∈ wsL_law_r2, w ∈ lw_tbl := by
  intro w hw
  simp only [wsL_law_r2, List.mem_cons, List.not_mem_nil, or_false] at hw
  rcases hw with rfl | rfl | rfl | rfl | rfl | rfl | rfl | rfl | rfl | rfl | rfl | rfl | rfl | rfl | rfl | rfl | rfl | rfl | rfl | rfl | rfl | rfl | rfl | rfl
  · exact tw_24
  · exact tw_25
  · exact tw_26
  · exact tw_27
  · exact tw_28
  · exact tw_29
  · exact tw_30
  · exact tw_31
  · exact tw_32
  · exact tw_33
  · exact tw_34
  · exact tw_35
  · exact tw_36
  · exact tw_37
  · exact tw_38
  · exact tw_39
  · exact tw_40
  · exact tw_41
  · exact tw_42
  · exact tw_43
  · exact tw_44
  · exact tw_45
  · exact tw_46
  · exact tw_47
theorem tw_48 : Cond.methodLink RX6 3 objectInit ∈ lw_tbl := List.mem_append_right _ (List.mem_append_left _ (List.mem_of_getElem? (i := 27) rfl))
theorem tw_49 : Cond.arrayClass .int ∈ lw_tbl := List.mem_append_right _ (List.mem_append_left _ (List.mem_of_getElem? (i := 39) rfl))
theorem tw_50 : Cond.fieldLink RX6 9 "StoryNest$Pad" "signs" "[I" ∈ lw_tbl := List.mem_append_right _ (List.mem_append_left _ (List.mem_of_getElem? (i := 28) rfl))
theorem tw_51 : Cond.methodLink RX9 18 yX0_init ∈ lw_tbl := List.mem_append_right _ (List.mem_append_left _ (List.mem_of_getElem? (i := 42) rfl))
theorem tw_52 : Cond.instanceMethod yX0_init ∈ lw_tbl := List.mem_append_right _ (List.mem_append_left _ (List.mem_of_getElem? (i := 43) rfl))
theorem tw_53 : Cond.code yX0_init cX0_init 2 none ∈ lw_tbl := List.mem_append_right _ (List.mem_append_left _ (List.mem_of_getElem? (i := 44) rfl))
theorem tw_54 : Cond.methodLink RX0 3 objectInit ∈ lw_tbl := List.mem_append_right _ (List.mem_append_left _ (List.mem_of_getElem? (i := 45) rfl))
theorem tw_55 : Cond.fieldLink RX0 9 "StoryNest$Book" "parts" "[I" ∈ lw_tbl := List.mem_append_right _ (List.mem_append_left _ (List.mem_of_getElem? (i := 46) rfl))
theorem tw_56 : Cond.fieldLink RX0 15 "StoryNest$Book" "minutes" "[I" ∈ lw_tbl := List.mem_append_right _ (List.mem_append_left _ (List.mem_of_getElem? (i := 51) rfl))
theorem tw_57 : Cond.fieldLink RX0 18 "StoryNest$Book" "gates" "[I" ∈ lw_tbl := List.mem_append_right _ (List.mem_append_left _ (List.mem_of_getElem? (i := 52) rfl))
theorem tw_58 : Cond.fieldLink RX0 21 "StoryNest$Book" "tellers" "[I" ∈ lw_tbl := List.mem_append_right _ (List.mem_append_left _ (List.mem_of_getElem? (i := 55) rfl))
theorem tw_59 : Cond.fieldLink RX0 24 "StoryNest$Book" "known" "[I" ∈ lw_tbl := List.mem_append_right _ (List.mem_append_left _ (List.mem_of_getElem? (i := 60) rfl))
theorem tw_60 : Cond.fieldLink RX0 27 "StoryNest$Book" "waits" "[I" ∈ lw_tbl := List.mem_append_right _ (List.mem_append_left _ (List.mem_of_getElem? (i := 62) rfl))
theorem tw_61 : Cond.fieldLink RX0 30 "StoryNest$Book" "needs" "[I" ∈ lw_tbl := List.mem_append_right _ (List.mem_append_left _ (List.mem_of_getElem? (i := 64) rfl))
theorem tw_62 : Cond.fieldLink RX0 33 "StoryNest$Book" "law" "I" ∈ lw_tbl := List.mem_append_right _ (List.mem_append_left _ (List.mem_of_getElem? (i := 69) rfl))
theorem tw_63 : Cond.methodLink RX9 33 yX1_init ∈ lw_tbl := List.mem_append_right _ (List.mem_append_left _ (List.mem_of_getElem? (i := 100) rfl))
theorem tw_64 : Cond.instanceMethod yX1_init ∈ lw_tbl := List.mem_append_right _ (List.mem_append_left _ (List.mem_of_getElem? (i := 101) rfl))
theorem tw_65 : Cond.code yX1_init cX1_init 3 none ∈ lw_tbl := List.mem_append_right _ (List.mem_append_left _ (List.mem_of_getElem? (i := 102) rfl))
theorem tw_66 : Cond.methodLink RX1 3 objectInit ∈ lw_tbl := List.mem_append_right _ (List.mem_append_left _ (List.mem_of_getElem? (i := 103) rfl))
theorem tw_67 : Cond.fieldLink RX1 9 "StoryNest$Evening" "book" "LStoryNest$Book;" ∈ lw_tbl := List.mem_append_right _ (List.mem_append_left _ (List.mem_of_getElem? (i := 134) rfl))
theorem tw_68 : Cond.fieldLink RX1 15 "StoryNest$Evening" "pad" "LStoryNest$Pad;" ∈ lw_tbl := List.mem_append_right _ (List.mem_append_left _ (List.mem_of_getElem? (i := 135) rfl))
theorem tw_69 : Cond.classLink RX1 19 RX3 ∈ lw_tbl := List.mem_append_right _ (List.mem_append_left _ (List.mem_of_getElem? (i := 104) rfl))
theorem tw_70 : Cond.instantiable RX3 7 ∈ lw_tbl := List.mem_append_right _ (List.mem_append_left _ (List.mem_of_getElem? (i := 105) rfl))
theorem tw_71 : Cond.initialized RX3 ∈ lw_tbl := List.mem_append_right _ (List.mem_append_left _ (List.mem_of_getElem? (i := 5) rfl))
theorem lf_wsL_law_r3 : ∀ w ∈ wsL_law_r3, w ∈ lw_tbl := by
  intro w hw
  simp only [wsL_law_r3, List.mem_cons, List.not_mem_nil, or_false] at hw
  rcases hw with rfl | rfl | rfl | rfl | rfl | rfl | rfl | rfl | rfl | rfl | rfl | rfl | rfl | rfl | rfl | rfl | rfl | rfl | rfl | rfl | rfl | rfl | rfl | rfl
  · exact tw_48
  · exact tw_49
  · exact tw_50
  · exact tw_51
  · exact tw_52
  · exact tw_53
  · exact tw_54
  · exact tw_55
  · exact tw_56
  · exact tw_57
  · exact tw_58
  · exact tw_59
  · exact tw_60
  · exact tw_61
  · exact tw_62
  · exact tw_63
  · exact tw_64
  · exact tw_65
  · exact tw_66
  · exact tw_67
  · exact tw_68
  · exact tw_69
  · exact tw_70
  · exact tw_71
theorem tw_72 : Cond.fieldLink RX1 24 "StoryNest$Evening" "moment" "LStoryNest$Moment;" ∈ lw_tbl := List.mem_append_right _ (List.mem_append_left _ (List.mem_of_getElem? (i := 136) rfl))
theorem tw_73 : Cond.methodLink RX1 21 yX3_init ∈ lw_tbl := List.mem_append_right _ (List.mem_append_left _ (List.mem_of_getElem? (i := 106) rfl))
theorem tw_74 : Cond.instanceMethod yX3_init ∈ lw_tbl := List.mem_append_right _ (List.mem_append_left _ (List.mem_of_getElem? (i := 107) rfl))
theorem tw_75 : Cond.code yX3_init cX3_init 2 none ∈ lw_tbl := List.mem_append_right _ (List.mem_append_left _ (List.mem_of_getElem? (i := 108) rfl))
theorem tw_76 : Cond.methodLink RX3 3 objectInit ∈ lw_tbl := List.mem_append_right _ (List.mem_append_left _ (List.mem_of_getElem? (i := 109) rfl))
theorem tw_77 : Cond.fieldLink RX3 9 "StoryNest$Moment" "book" "LStoryNest$Book;" ∈ lw_tbl := List.mem_append_right _ (List.mem_append_left _ (List.mem_of_getElem? (i := 110) rfl))
theorem tw_78 : Cond.methodLink RX9 42 yX4_init ∈ lw_tbl := List.mem_append_right _ (List.mem_append_left _ (List.mem_of_getElem? (i := 166) rfl))
theorem tw_79 : Cond.instanceMethod yX4_init ∈ lw_tbl := List.mem_append_right _ (List.mem_append_left _ (List.mem_of_getElem? (i := 167) rfl))
theorem tw_80 : Cond.code yX4_init cX4_init 2 none ∈ lw_tbl := List.mem_append_right _ (List.mem_append_left _ (List.mem_of_getElem? (i := 168) rfl))
theorem tw_81 : Cond.methodLink RX4 3 objectInit ∈ lw_tbl := List.mem_append_right _ (List.mem_append_left _ (List.mem_of_getElem? (i := 169) rfl))
theorem tw_82 : Cond.fieldLink RX4 11 "StoryNest$Nights" "nights" "[I" ∈ lw_tbl := List.mem_append_right _ (List.mem_append_left _ (List.mem_of_getElem? (i := 174) rfl))
theorem tw_83 : Cond.fieldLink RX4 15 "StoryNest$Nights" "next" "[I" ∈ lw_tbl := List.mem_append_right _ (List.mem_append_left _ (List.mem_of_getElem? (i := 177) rfl))
theorem tw_84 : Cond.arrayClass .long ∈ lw_tbl := List.mem_append_right _ (List.mem_append_left _ (List.mem_of_getElem? (i := 212) rfl))
theorem tw_85 : Cond.fieldLink RX4 18 "StoryNest$Nights" "worth" "[J" ∈ lw_tbl := List.mem_append_right _ (List.mem_append_left _ (List.mem_of_getElem? (i := 178) rfl))
theorem tw_86 : Cond.fieldLink RX4 22 "StoryNest$Nights" "slots" "[I" ∈ lw_tbl := List.mem_append_right _ (List.mem_append_left _ (List.mem_of_getElem? (i := 182) rfl))
theorem tw_87 : Cond.fieldLink RX4 25 "StoryNest$Nights" "book" "LStoryNest$Book;" ∈ lw_tbl := List.mem_append_right _ (List.mem_append_left _ (List.mem_of_getElem? (i := 172) rfl))
theorem tw_88 : Cond.classLink RX4 29 RX3 ∈ lw_tbl := List.mem_append_right _ (List.mem_append_left _ (List.mem_of_getElem? (i := 170) rfl))
theorem tw_89 : Cond.fieldLink RX4 34 "StoryNest$Nights" "moment" "LStoryNest$Moment;" ∈ lw_tbl := List.mem_append_right _ (List.mem_append_left _ (List.mem_of_getElem? (i := 173) rfl))
theorem tw_90 : Cond.methodLink RX4 31 yX3_init ∈ lw_tbl := List.mem_append_right _ (List.mem_append_left _ (List.mem_of_getElem? (i := 171) rfl))
theorem tw_91 : Cond.methodLink RX9 51 yX5_init ∈ lw_tbl := List.mem_append_right _ (List.mem_append_left _ (List.mem_of_getElem? (i := 215) rfl))
theorem tw_92 : Cond.instanceMethod yX5_init ∈ lw_tbl := List.mem_append_right _ (List.mem_append_left _ (List.mem_of_getElem? (i := 216) rfl))
theorem tw_93 : Cond.code yX5_init cX5_init 3 none ∈ lw_tbl := List.mem_append_right _ (List.mem_append_left _ (List.mem_of_getElem? (i := 217) rfl))
theorem tw_94 : Cond.methodLink RX5 3 objectInit ∈ lw_tbl := List.mem_append_right _ (List.mem_append_left _ (List.mem_of_getElem? (i := 218) rfl))
theorem tw_95 : Cond.fieldLink RX5 9 "StoryNest$Out" "ownPrice" "[I" ∈ lw_tbl := List.mem_append_right _ (List.mem_append_left _ (List.mem_of_getElem? (i := 221) rfl))
theorem lf_wsL_law_r4 : ∀ w ∈ wsL_law_r4, w ∈ lw_tbl := by
  intro w hw
  simp only [wsL_law_r4, List.mem_cons, List.not_mem_nil, or_false] at hw
  rcases hw with rfl | rfl | rfl | rfl | rfl | rfl | rfl | rfl | rfl | rfl | rfl | rfl | rfl | rfl | rfl | rfl | rfl | rfl | rfl | rfl | rfl | rfl | rfl | rfl
  · exact tw_72
  · exact tw_73
  · exact tw_74
  · exact tw_75
  · exact tw_76
  · exact tw_77
  · exact tw_78
  · exact tw_79
  · exact tw_80
  · exact tw_81
  · exact tw_82
  · exact tw_83
  · exact tw_84
  · exact tw_85
  · exact tw_86
  · exact tw_87
  · exact tw_88
  · exact tw_89
  · exact tw_90
  · exact tw_91
  · exact tw_92
  · exact tw_93
  · exact tw_94
  · exact tw_95
theorem tw_96 : Cond.arrayClass .boolean ∈ lw_tbl := List.mem_append_right _ (List.mem_append_left _ (List.mem_of_getElem? (i := 232) rfl))
theorem tw_97 : Cond.fieldLink RX5 15 "StoryNest$Out" "isEnd" "[Z" ∈ lw_tbl := List.mem_append_right _ (List.mem_append_left _ (List.mem_of_getElem? (i := 222) rfl))
theorem tw_98 : Cond.fieldLink RX5 19 "StoryNest$Out" "book" "LStoryNest$Book;" ∈ lw_tbl := List.mem_append_right _ (List.mem_append_left _ (List.mem_of_getElem? (i := 219) rfl))
theorem tw_99 : Cond.fieldLink RX5 23 "StoryNest$Out" "nights" "LStoryNest$Nights;" ∈ lw_tbl := List.mem_append_right _ (List.mem_append_left _ (List.mem_of_getElem? (i := 220) rfl))
theorem tw_100 : Cond.methodLink RX9 60 yX2_init ∈ lw_tbl := List.mem_append_right _ (List.mem_append_left _ (List.mem_of_getElem? (i := 235) rfl))
theorem tw_101 : Cond.instanceMethod yX2_init ∈ lw_tbl := List.mem_append_right _ (List.mem_append_left _ (List.mem_of_getElem? (i := 236) rfl))
theorem tw_102 : Cond.code yX2_init cX2_init 2 none ∈ lw_tbl := List.mem_append_right _ (List.mem_append_left _ (List.mem_of_getElem? (i := 237) rfl))
theorem tw_103 : Cond.methodLink RX2 3 objectInit ∈ lw_tbl := List.mem_append_right _ (List.mem_append_left _ (List.mem_of_getElem? (i := 238) rfl))
theorem tw_104 : Cond.fieldLink RX2 9 "StoryNest$Game" "nights" "LStoryNest$Nights;" ∈ lw_tbl := List.mem_append_right _ (List.mem_append_left _ (List.mem_of_getElem? (i := 239) rfl))
theorem tw_105 : Cond.methodLink RX9 69 yX8_init ∈ lw_tbl := List.mem_append_right _ (List.mem_append_right _ (List.mem_append_left _ (List.mem_of_getElem? (i := 5) rfl)))
theorem tw_106 : Cond.instanceMethod yX8_init ∈ lw_tbl := List.mem_append_right _ (List.mem_append_right _ (List.mem_append_left _ (List.mem_of_getElem? (i := 6) rfl)))
theorem tw_107 : Cond.code yX8_init cX8_init 4 none ∈ lw_tbl := List.mem_append_right _ (List.mem_append_right _ (List.mem_append_left _ (List.mem_of_getElem? (i := 7) rfl)))
theorem tw_108 : Cond.methodLink RX8 3 objectInit ∈ lw_tbl := List.mem_append_right _ (List.mem_append_right _ (List.mem_append_left _ (List.mem_of_getElem? (i := 8) rfl)))
theorem tw_109 : Cond.fieldLink RX8 11 "StoryNest$Wall" "isReached" "[Z" ∈ lw_tbl := List.mem_append_right _ (List.mem_append_right _ (List.mem_append_left _ (List.mem_of_getElem? (i := 12) rfl)))
theorem tw_110 : Cond.fieldLink RX8 17 "StoryNest$Wall" "book" "LStoryNest$Book;" ∈ lw_tbl := List.mem_append_right _ (List.mem_append_right _ (List.mem_append_left _ (List.mem_of_getElem? (i := 9) rfl)))
theorem tw_111 : Cond.fieldLink RX8 21 "StoryNest$Wall" "nights" "LStoryNest$Nights;" ∈ lw_tbl := List.mem_append_right _ (List.mem_append_right _ (List.mem_append_left _ (List.mem_of_getElem? (i := 10) rfl)))
theorem tw_112 : Cond.fieldLink RX8 25 "StoryNest$Wall" "pad" "LStoryNest$Pad;" ∈ lw_tbl := List.mem_append_right _ (List.mem_append_right _ (List.mem_append_left _ (List.mem_of_getElem? (i := 11) rfl)))
theorem tw_113 : Cond.methodLink RX9 78 yX7_init ∈ lw_tbl := List.mem_append_right _ (List.mem_append_right _ (List.mem_append_left _ (List.mem_of_getElem? (i := 24) rfl)))
theorem tw_114 : Cond.instanceMethod yX7_init ∈ lw_tbl := List.mem_append_right _ (List.mem_append_right _ (List.mem_append_left _ (List.mem_of_getElem? (i := 25) rfl)))
theorem tw_115 : Cond.code yX7_init cX7_init 2 none ∈ lw_tbl := List.mem_append_right _ (List.mem_append_right _ (List.mem_append_left _ (List.mem_of_getElem? (i := 26) rfl)))
theorem tw_116 : Cond.methodLink RX7 3 objectInit ∈ lw_tbl := List.mem_append_right _ (List.mem_append_right _ (List.mem_append_left _ (List.mem_of_getElem? (i := 27) rfl)))
theorem tw_117 : Cond.fieldLink RX7 9 "StoryNest$Rings" "book" "LStoryNest$Book;" ∈ lw_tbl := List.mem_append_right _ (List.mem_append_right _ (List.mem_append_left _ (List.mem_of_getElem? (i := 28) rfl)))
theorem tw_118 : Cond.methodLink RL 12 yX10_init ∈ lw_tbl := List.mem_append_right _ (List.mem_append_right _ (List.mem_append_right _ (List.mem_append_right _ (List.mem_append_left _ (List.mem_of_getElem? (i := 23) rfl)))))
theorem tw_119 : Cond.instanceMethod yX10_init ∈ lw_tbl := List.mem_append_right _ (List.mem_append_right _ (List.mem_append_right _ (List.mem_append_right _ (List.mem_append_left _ (List.mem_of_getElem? (i := 24) rfl)))))
theorem lf_wsL_law_r5 : ∀ w ∈ wsL_law_r5, w ∈ lw_tbl := by
  intro w hw
  simp only [wsL_law_r5, List.mem_cons, List.not_mem_nil, or_false] at hw
  rcases hw with rfl | rfl | rfl | rfl | rfl | rfl | rfl | rfl | rfl | rfl | rfl | rfl | rfl | rfl | rfl | rfl | rfl | rfl | rfl | rfl | rfl | rfl | rfl | rfl
  · exact tw_96
  · exact tw_97
  · exact tw_98
  · exact tw_99
  · exact tw_100
  · exact tw_101
  · exact tw_102
  · exact tw_103
  · exact tw_104
  · exact tw_105
  · exact tw_106
  · exact tw_107
  · exact tw_108
  · exact tw_109
  · exact tw_110
  · exact tw_111
  · exact tw_112
  · exact tw_113
  · exact tw_114
  · exact tw_115
  · exact tw_116
  · exact tw_117
  · exact tw_118
  · exact tw_119
theorem tw_120 : Cond.code yX10_init cX10_init 3 none ∈ lw_tbl := List.mem_append_right _ (List.mem_append_right _ (List.mem_append_right _ (List.mem_append_right _ (List.mem_append_left _ (List.mem_of_getElem? (i := 25) rfl)))))
theorem tw_121 : Cond.methodLink RX10 1 objectInit ∈ lw_tbl := List.mem_append_right _ (List.mem_append_right _ (List.mem_append_right _ (List.mem_append_right _ (List.mem_append_left _ (List.mem_of_getElem? (i := 26) rfl)))))
theorem tw_122 : Cond.fieldLink RX10 7 "StoryNestModel" "rowOf" "[I" ∈ lw_tbl := List.mem_append_right _ (List.mem_append_right _ (List.mem_append_right _ (List.mem_append_right _ (List.mem_append_left _ (List.mem_of_getElem? (i := 32) rfl)))))
theorem tw_123 : Cond.fieldLink RX10 13 "StoryNestModel" "codeOf" "[I" ∈ lw_tbl := List.mem_append_right _ (List.mem_append_right _ (List.mem_append_right _ (List.mem_append_right _ (List.mem_append_left _ (List.mem_of_getElem? (i := 33) rfl)))))
theorem tw_124 : Cond.fieldLink RX10 16 "StoryNestModel" "many" "[I" ∈ lw_tbl := List.mem_append_right _ (List.mem_append_right _ (List.mem_append_right _ (List.mem_append_right _ (List.mem_append_left _ (List.mem_of_getElem? (i := 34) rfl)))))
theorem tw_125 : Cond.fieldLink RX10 19 "StoryNestModel" "minutes" "[I" ∈ lw_tbl := List.mem_append_right _ (List.mem_append_right _ (List.mem_append_right _ (List.mem_append_right _ (List.mem_append_left _ (List.mem_of_getElem? (i := 35) rfl)))))
theorem tw_126 : Cond.fieldLink RX10 22 "StoryNestModel" "gates" "[I" ∈ lw_tbl := List.mem_append_right _ (List.mem_append_right _ (List.mem_append_right _ (List.mem_append_right _ (List.mem_append_left _ (List.mem_of_getElem? (i := 36) rfl)))))
theorem tw_127 : Cond.fieldLink RX10 25 "StoryNestModel" "tellers" "[I" ∈ lw_tbl := List.mem_append_right _ (List.mem_append_right _ (List.mem_append_right _ (List.mem_append_right _ (List.mem_append_left _ (List.mem_of_getElem? (i := 37) rfl)))))
theorem tw_128 : Cond.fieldLink RX10 28 "StoryNestModel" "known" "[I" ∈ lw_tbl := List.mem_append_right _ (List.mem_append_right _ (List.mem_append_right _ (List.mem_append_right _ (List.mem_append_left _ (List.mem_of_getElem? (i := 38) rfl)))))
theorem tw_129 : Cond.fieldLink RX10 31 "StoryNestModel" "waitOf" "[I" ∈ lw_tbl := List.mem_append_right _ (List.mem_append_right _ (List.mem_append_right _ (List.mem_append_right _ (List.mem_append_left _ (List.mem_of_getElem? (i := 39) rfl)))))
theorem tw_130 : Cond.fieldLink RX10 34 "StoryNestModel" "waitPart" "[I" ∈ lw_tbl := List.mem_append_right _ (List.mem_append_right _ (List.mem_append_right _ (List.mem_append_right _ (List.mem_append_left _ (List.mem_of_getElem? (i := 40) rfl)))))
theorem tw_131 : Cond.fieldLink RX10 37 "StoryNestModel" "waitFor" "[I" ∈ lw_tbl := List.mem_append_right _ (List.mem_append_right _ (List.mem_append_right _ (List.mem_append_right _ (List.mem_append_left _ (List.mem_of_getElem? (i := 41) rfl)))))
theorem tw_132 : Cond.fieldLink RX10 40 "StoryNestModel" "pad" "[I" ∈ lw_tbl := List.mem_append_right _ (List.mem_append_right _ (List.mem_append_right _ (List.mem_append_right _ (List.mem_append_left _ (List.mem_of_getElem? (i := 45) rfl)))))
theorem tw_133 : Cond.fieldLink RX10 43 "StoryNestModel" "told0" "[I" ∈ lw_tbl := List.mem_append_right _ (List.mem_append_right _ (List.mem_append_right _ (List.mem_append_right _ (List.mem_append_left _ (List.mem_of_getElem? (i := 47) rfl)))))
theorem tw_134 : Cond.constant RX10 46 (40625) ∈ lw_tbl := List.mem_append_right _ (List.mem_append_right _ (List.mem_append_right _ (List.mem_append_right _ (List.mem_append_left _ (List.mem_of_getElem? (i := 27) rfl)))))
theorem tw_135 : Cond.fieldLink RX10 47 "StoryNestModel" "waysOn" "[J" ∈ lw_tbl := List.mem_append_right _ (List.mem_append_right _ (List.mem_append_right _ (List.mem_append_right _ (List.mem_append_left _ (List.mem_of_getElem? (i := 53) rfl)))))
theorem tw_136 : Cond.fieldLink RX10 51 "StoryNestModel" "isReached" "[Z" ∈ lw_tbl := List.mem_append_right _ (List.mem_append_right _ (List.mem_append_right _ (List.mem_append_right _ (List.mem_append_left _ (List.mem_of_getElem? (i := 54) rfl)))))
theorem tw_137 : Cond.constant RX10 55 (203125) ∈ lw_tbl := List.mem_append_right _ (List.mem_append_right _ (List.mem_append_right _ (List.mem_append_right _ (List.mem_append_left _ (List.mem_of_getElem? (i := 28) rfl)))))
theorem tw_138 : Cond.fieldLink RX10 56 "StoryNestModel" "changes" "[I" ∈ lw_tbl := List.mem_append_right _ (List.mem_append_right _ (List.mem_append_right _ (List.mem_append_right _ (List.mem_append_left _ (List.mem_of_getElem? (i := 55) rfl)))))
theorem tw_139 : Cond.fieldLink RX10 59 "StoryNestModel" "ending" "[Z" ∈ lw_tbl := List.mem_append_right _ (List.mem_append_right _ (List.mem_append_right _ (List.mem_append_right _ (List.mem_append_left _ (List.mem_of_getElem? (i := 56) rfl)))))
theorem tw_140 : Cond.fieldLink RX10 62 "StoryNestModel" "canHave" "[Z" ∈ lw_tbl := List.mem_append_right _ (List.mem_append_right _ (List.mem_append_right _ (List.mem_append_right _ (List.mem_append_left _ (List.mem_of_getElem? (i := 57) rfl)))))
theorem tw_141 : Cond.fieldLink RX10 65 "StoryNestModel" "kept" "[I" ∈ lw_tbl := List.mem_append_right _ (List.mem_append_right _ (List.mem_append_right _ (List.mem_append_right _ (List.mem_append_left _ (List.mem_of_getElem? (i := 58) rfl)))))
theorem tw_142 : Cond.fieldLink RX10 68 "StoryNestModel" "isKept" "[Z" ∈ lw_tbl := List.mem_append_right _ (List.mem_append_right _ (List.mem_append_right _ (List.mem_append_right _ (List.mem_append_left _ (List.mem_of_getElem? (i := 59) rfl)))))
theorem tw_143 : Cond.methodLink RX10 71 yX10_isRow ∈ lw_tbl := List.mem_append_right _ (List.mem_append_right _ (List.mem_append_right _ (List.mem_append_right _ (List.mem_append_left _ (List.mem_of_getElem? (i := 29) rfl)))))
theorem lf_wsL_law_r6 : ∀ w ∈ wsL_law_r6, w ∈ lw_tbl := by
  intro w hw
  simp only [wsL_law_r6, List.mem_cons, List.not_mem_nil, or_false] at hw
  rcases hw with rfl | rfl | rfl | rfl | rfl | rfl | rfl | rfl | rfl | rfl | rfl | rfl | rfl | rfl | rfl | rfl | rfl | rfl | rfl | rfl | rfl | rfl | rfl | rfl
  · exact tw_120
  · exact tw_121
  · exact tw_122
  · exact tw_123
  · exact tw_124
  · exact tw_125
  · exact tw_126
  · exact tw_127
  · exact tw_128
  · exact tw_129
  · exact tw_130
  · exact tw_131
  · exact tw_132
  · exact tw_133
  · exact tw_134
  · exact tw_135
  · exact tw_136
  · exact tw_137
  · exact tw_138
  · exact tw_139
  · exact tw_140
  · exact tw_141
  · exact tw_142
  · exact tw_143
theorem tw_144 : Cond.static yX10_isRow ∈ lw_tbl := List.mem_append_right _ (List.mem_append_right _ (List.mem_append_right _ (List.mem_append_right _ (List.mem_append_left _ (List.mem_of_getElem? (i := 30) rfl)))))
theorem tw_145 : Cond.code yX10_isRow cX10_isRow 5 (some .boolean) ∈ lw_tbl := List.mem_append_right _ (List.mem_append_right _ (List.mem_append_right _ (List.mem_append_right _ (List.mem_append_left _ (List.mem_of_getElem? (i := 31) rfl)))))
theorem tw_146 : Cond.methodLink RL 13 yX9_say ∈ lw_tbl := List.mem_append_right _ (List.mem_append_right _ (List.mem_append_left _ (List.mem_of_getElem? (i := 63) rfl)))
theorem tw_147 : Cond.instanceMethod yX9_say ∈ lw_tbl := List.mem_append_right _ (List.mem_append_right _ (List.mem_append_left _ (List.mem_of_getElem? (i := 64) rfl)))
theorem tw_148 : Cond.selects RX9 yX9_say yX9_say ∈ lw_tbl := List.mem_append_right _ (List.mem_append_right _ (List.mem_append_left _ (List.mem_of_getElem? (i := 65) rfl)))
theorem tw_149 : Cond.code yX9_say cX9_say 2 (some .int) ∈ lw_tbl := List.mem_append_right _ (List.mem_append_right _ (List.mem_append_left _ (List.mem_of_getElem? (i := 66) rfl)))
theorem tw_150 : Cond.methodLink RX9 83 yX6_isFull ∈ lw_tbl := List.mem_append_right _ (List.mem_append_right _ (List.mem_append_left _ (List.mem_of_getElem? (i := 67) rfl)))
theorem tw_151 : Cond.instanceMethod yX6_isFull ∈ lw_tbl := List.mem_append_right _ (List.mem_append_right _ (List.mem_append_left _ (List.mem_of_getElem? (i := 68) rfl)))
theorem tw_152 : Cond.selects RX6 yX6_isFull yX6_isFull ∈ lw_tbl := List.mem_append_right _ (List.mem_append_right _ (List.mem_append_left _ (List.mem_of_getElem? (i := 69) rfl)))
theorem tw_153 : Cond.code yX6_isFull cX6_isFull 1 (some .boolean) ∈ lw_tbl := List.mem_append_right _ (List.mem_append_right _ (List.mem_append_left _ (List.mem_of_getElem? (i := 70) rfl)))
theorem tw_154 : Cond.fieldLink RX6 15 "StoryNest$Pad" "size" "I" ∈ lw_tbl := List.mem_append_right _ (List.mem_append_left _ (List.mem_of_getElem? (i := 29) rfl))
theorem tw_155 : Cond.methodLink RX9 87 yX6_add ∈ lw_tbl := List.mem_append_right _ (List.mem_append_right _ (List.mem_append_left _ (List.mem_of_getElem? (i := 71) rfl)))
theorem tw_156 : Cond.instanceMethod yX6_add ∈ lw_tbl := List.mem_append_right _ (List.mem_append_right _ (List.mem_append_left _ (List.mem_of_getElem? (i := 72) rfl)))
theorem tw_157 : Cond.selects RX6 yX6_add yX6_add ∈ lw_tbl := List.mem_append_right _ (List.mem_append_right _ (List.mem_append_left _ (List.mem_of_getElem? (i := 73) rfl)))
theorem tw_158 : Cond.code yX6_add cX6_add 2 (some .int) ∈ lw_tbl := List.mem_append_right _ (List.mem_append_right _ (List.mem_append_left _ (List.mem_of_getElem? (i := 74) rfl)))
theorem tw_159 : Cond.methodLink RX6 19 yX6_isFull ∈ lw_tbl := List.mem_append_right _ (List.mem_append_right _ (List.mem_append_left _ (List.mem_of_getElem? (i := 75) rfl)))
theorem tw_160 : Cond.methodLink RL 17 yX10_say ∈ lw_tbl := List.mem_append_right _ (List.mem_append_right _ (List.mem_append_right _ (List.mem_append_right _ (List.mem_append_left _ (List.mem_of_getElem? (i := 123) rfl)))))
theorem tw_161 : Cond.instanceMethod yX10_say ∈ lw_tbl := List.mem_append_right _ (List.mem_append_right _ (List.mem_append_right _ (List.mem_append_right _ (List.mem_append_left _ (List.mem_of_getElem? (i := 124) rfl)))))
theorem tw_162 : Cond.selects RX10 yX10_say yX10_say ∈ lw_tbl := List.mem_append_right _ (List.mem_append_right _ (List.mem_append_right _ (List.mem_append_right _ (List.mem_append_left _ (List.mem_of_getElem? (i := 125) rfl)))))
theorem tw_163 : Cond.code yX10_say cX10_say 2 (some .int) ∈ lw_tbl := List.mem_append_right _ (List.mem_append_right _ (List.mem_append_right _ (List.mem_append_right _ (List.mem_append_left _ (List.mem_of_getElem? (i := 126) rfl)))))
theorem tw_164 : Cond.constantLong RX10 81 (33) ∈ lw_tbl := List.mem_append_right _ (List.mem_append_right _ (List.mem_append_right _ (List.mem_append_right _ (List.mem_append_left _ (List.mem_of_getElem? (i := 127) rfl)))))
theorem tw_165 : Cond.constantLong RX10 83 (126) ∈ lw_tbl := List.mem_append_right _ (List.mem_append_right _ (List.mem_append_right _ (List.mem_append_right _ (List.mem_append_left _ (List.mem_of_getElem? (i := 128) rfl)))))
theorem tw_166 : Cond.fieldLink RX10 85 "StoryNestModel" "padMany" "I" ∈ lw_tbl := List.mem_append_right _ (List.mem_append_right _ (List.mem_append_right _ (List.mem_append_right _ (List.mem_append_left _ (List.mem_of_getElem? (i := 46) rfl)))))
theorem tw_167 : Cond.methodLink RX10 77 yX10_in ∈ lw_tbl := List.mem_append_right _ (List.mem_append_right _ (List.mem_append_right _ (List.mem_append_right _ (List.mem_append_left _ (List.mem_of_getElem? (i := 129) rfl)))))
theorem lf_wsL_law_r7 : ∀ w ∈ wsL_law_r7, w ∈ lw_tbl := by
  intro w hw
  simp only [wsL_law_r7, List.mem_cons, List.not_mem_nil, or_false] at hw
  rcases hw with rfl | rfl | rfl | rfl | rfl | rfl | rfl | rfl | rfl | rfl | rfl | rfl | rfl | rfl | rfl | rfl | rfl | rfl | rfl | rfl | rfl | rfl | rfl | rfl
  · exact tw_144
  · exact tw_145
  · exact tw_146
  · exact tw_147
  · exact tw_148
  · exact tw_149
  · exact tw_150
  · exact tw_151
  · exact tw_152
  · exact tw_153
  · exact tw_154
  · exact tw_155
  · exact tw_156
  · exact tw_157
  · exact tw_158
  · exact tw_159
  · exact tw_160
  · exact tw_161
  · exact tw_162
  · exact tw_163
  · exact tw_164
  · exact tw_165
  · exact tw_166
  · exact tw_167
theorem tw_168 : Cond.static yX10_in ∈ lw_tbl := List.mem_append_right _ (List.mem_append_right _ (List.mem_append_right _ (List.mem_append_right _ (List.mem_append_left _ (List.mem_of_getElem? (i := 130) rfl)))))
theorem tw_169 : Cond.code yX10_in cX10_in 6 (some .boolean) ∈ lw_tbl := List.mem_append_right _ (List.mem_append_right _ (List.mem_append_right _ (List.mem_append_right _ (List.mem_append_left _ (List.mem_of_getElem? (i := 131) rfl)))))
theorem tw_170 : Cond.methodLink RL 18 yX9_wipe ∈ lw_tbl := List.mem_append_right _ (List.mem_append_right _ (List.mem_append_left _ (List.mem_of_getElem? (i := 76) rfl)))
theorem tw_171 : Cond.instanceMethod yX9_wipe ∈ lw_tbl := List.mem_append_right _ (List.mem_append_right _ (List.mem_append_left _ (List.mem_of_getElem? (i := 77) rfl)))
theorem tw_172 : Cond.selects RX9 yX9_wipe yX9_wipe ∈ lw_tbl := List.mem_append_right _ (List.mem_append_right _ (List.mem_append_left _ (List.mem_of_getElem? (i := 78) rfl)))
theorem tw_173 : Cond.code yX9_wipe cX9_wipe 1 (some .int) ∈ lw_tbl := List.mem_append_right _ (List.mem_append_right _ (List.mem_append_left _ (List.mem_of_getElem? (i := 79) rfl)))
theorem tw_174 : Cond.methodLink RX9 91 yX6_clear ∈ lw_tbl := List.mem_append_right _ (List.mem_append_right _ (List.mem_append_left _ (List.mem_of_getElem? (i := 80) rfl)))
theorem tw_175 : Cond.instanceMethod yX6_clear ∈ lw_tbl := List.mem_append_right _ (List.mem_append_right _ (List.mem_append_left _ (List.mem_of_getElem? (i := 81) rfl)))
theorem tw_176 : Cond.selects RX6 yX6_clear yX6_clear ∈ lw_tbl := List.mem_append_right _ (List.mem_append_right _ (List.mem_append_left _ (List.mem_of_getElem? (i := 82) rfl)))
theorem tw_177 : Cond.code yX6_clear cX6_clear 2 (some .int) ∈ lw_tbl := List.mem_append_right _ (List.mem_append_right _ (List.mem_append_left _ (List.mem_of_getElem? (i := 83) rfl)))
theorem tw_178 : Cond.methodLink RL 22 yX10_wipe ∈ lw_tbl := List.mem_append_right _ (List.mem_append_right _ (List.mem_append_right _ (List.mem_append_right _ (List.mem_append_left _ (List.mem_of_getElem? (i := 132) rfl)))))
theorem tw_179 : Cond.instanceMethod yX10_wipe ∈ lw_tbl := List.mem_append_right _ (List.mem_append_right _ (List.mem_append_right _ (List.mem_append_right _ (List.mem_append_left _ (List.mem_of_getElem? (i := 133) rfl)))))
theorem tw_180 : Cond.selects RX10 yX10_wipe yX10_wipe ∈ lw_tbl := List.mem_append_right _ (List.mem_append_right _ (List.mem_append_right _ (List.mem_append_right _ (List.mem_append_left _ (List.mem_of_getElem? (i := 134) rfl)))))
theorem tw_181 : Cond.code yX10_wipe cX10_wipe 2 (some .int) ∈ lw_tbl := List.mem_append_right _ (List.mem_append_right _ (List.mem_append_right _ (List.mem_append_right _ (List.mem_append_left _ (List.mem_of_getElem? (i := 135) rfl)))))
theorem tw_182 : Cond.methodLink RL 23 yX9_fault ∈ lw_tbl := List.mem_append_right _ (List.mem_append_right _ (List.mem_append_left _ (List.mem_of_getElem? (i := 84) rfl)))
theorem tw_183 : Cond.instanceMethod yX9_fault ∈ lw_tbl := List.mem_append_right _ (List.mem_append_right _ (List.mem_append_left _ (List.mem_of_getElem? (i := 85) rfl)))
theorem tw_184 : Cond.selects RX9 yX9_fault yX9_fault ∈ lw_tbl := List.mem_append_right _ (List.mem_append_right _ (List.mem_append_left _ (List.mem_of_getElem? (i := 86) rfl)))
theorem tw_185 : Cond.code yX9_fault cX9_fault 2 (some .int) ∈ lw_tbl := List.mem_append_right _ (List.mem_append_right _ (List.mem_append_left _ (List.mem_of_getElem? (i := 87) rfl)))
theorem tw_186 : Cond.methodLink RX9 95 yX9_isIn ∈ lw_tbl := List.mem_append_right _ (List.mem_append_right _ (List.mem_append_left _ (List.mem_of_getElem? (i := 88) rfl)))
theorem tw_187 : Cond.static yX9_isIn ∈ lw_tbl := List.mem_append_right _ (List.mem_append_right _ (List.mem_append_left _ (List.mem_of_getElem? (i := 89) rfl)))
theorem tw_188 : Cond.code yX9_isIn cX9_isIn 3 (some .boolean) ∈ lw_tbl := List.mem_append_right _ (List.mem_append_right _ (List.mem_append_left _ (List.mem_of_getElem? (i := 90) rfl)))
theorem tw_189 : Cond.methodLink RX9 99 yX6_faultAs ∈ lw_tbl := List.mem_append_right _ (List.mem_append_right _ (List.mem_append_left _ (List.mem_of_getElem? (i := 91) rfl)))
theorem tw_190 : Cond.instanceMethod yX6_faultAs ∈ lw_tbl := List.mem_append_right _ (List.mem_append_right _ (List.mem_append_left _ (List.mem_of_getElem? (i := 92) rfl)))
theorem tw_191 : Cond.selects RX6 yX6_faultAs yX6_faultAs ∈ lw_tbl := List.mem_append_right _ (List.mem_append_right _ (List.mem_append_left _ (List.mem_of_getElem? (i := 93) rfl)))
theorem lf_wsL_law_r8 : ∀ w ∈ wsL_law_r8, w ∈ lw_tbl := by
  intro w hw
  simp only [wsL_law_r8, List.mem_cons, List.not_mem_nil, or_false] at hw
  rcases hw with rfl | rfl | rfl | rfl | rfl | rfl | rfl | rfl | rfl | rfl | rfl | rfl | rfl | rfl | rfl | rfl | rfl | rfl | rfl | rfl | rfl | rfl | rfl | rfl
  · exact tw_168
  · exact tw_169
  · exact tw_170
  · exact tw_171
  · exact tw_172
  · exact tw_173
  · exact tw_174
  · exact tw_175
  · exact tw_176
  · exact tw_177
  · exact tw_178
  · exact tw_179
  · exact tw_180
  · exact tw_181
  · exact tw_182
  · exact tw_183
  · exact tw_184
  · exact tw_185
  · exact tw_186
  · exact tw_187
  · exact tw_188
  · exact tw_189
  · exact tw_190
  · exact tw_191
theorem tw_192 : Cond.code yX6_faultAs cX6_faultAs 2 (some .int) ∈ lw_tbl := List.mem_append_right _ (List.mem_append_right _ (List.mem_append_left _ (List.mem_of_getElem? (i := 94) rfl)))
theorem tw_193 : Cond.methodLink RX6 27 yX6_storyFault ∈ lw_tbl := List.mem_append_right _ (List.mem_append_right _ (List.mem_append_left _ (List.mem_of_getElem? (i := 95) rfl)))
theorem tw_194 : Cond.instanceMethod yX6_storyFault ∈ lw_tbl := List.mem_append_right _ (List.mem_append_right _ (List.mem_append_left _ (List.mem_of_getElem? (i := 97) rfl)))
theorem tw_195 : Cond.selects RX6 yX6_storyFault yX6_storyFault ∈ lw_tbl := List.mem_append_left _ (List.mem_of_getElem? (i := 0) rfl)
theorem tw_196 : Cond.code yX6_storyFault cX6_storyFault 5 (some .int) ∈ lw_tbl := List.mem_append_right _ (List.mem_append_right _ (List.mem_append_left _ (List.mem_of_getElem? (i := 98) rfl)))
theorem tw_197 : Cond.methodLink RX6 31 yX6_rowFault ∈ lw_tbl := List.mem_append_right _ (List.mem_append_right _ (List.mem_append_left _ (List.mem_of_getElem? (i := 100) rfl)))
theorem tw_198 : Cond.instanceMethod yX6_rowFault ∈ lw_tbl := List.mem_append_right _ (List.mem_append_right _ (List.mem_append_left _ (List.mem_of_getElem? (i := 102) rfl)))
theorem tw_199 : Cond.selects RX6 yX6_rowFault yX6_rowFault ∈ lw_tbl := List.mem_append_left _ (List.mem_of_getElem? (i := 1) rfl)
theorem tw_200 : Cond.code yX6_rowFault cX6_rowFault 4 (some .int) ∈ lw_tbl := List.mem_append_right _ (List.mem_append_right _ (List.mem_append_left _ (List.mem_of_getElem? (i := 103) rfl)))
theorem tw_201 : Cond.methodLink RL 26 yX10_fault ∈ lw_tbl := List.mem_append_right _ (List.mem_append_right _ (List.mem_append_right _ (List.mem_append_right _ (List.mem_append_left _ (List.mem_of_getElem? (i := 136) rfl)))))
theorem tw_202 : Cond.instanceMethod yX10_fault ∈ lw_tbl := List.mem_append_right _ (List.mem_append_right _ (List.mem_append_right _ (List.mem_append_right _ (List.mem_append_left _ (List.mem_of_getElem? (i := 137) rfl)))))
theorem tw_203 : Cond.selects RX10 yX10_fault yX10_fault ∈ lw_tbl := List.mem_append_right _ (List.mem_append_right _ (List.mem_append_right _ (List.mem_append_right _ (List.mem_append_left _ (List.mem_of_getElem? (i := 138) rfl)))))
theorem tw_204 : Cond.code yX10_fault cX10_fault 2 (some .int) ∈ lw_tbl := List.mem_append_right _ (List.mem_append_right _ (List.mem_append_right _ (List.mem_append_right _ (List.mem_append_left _ (List.mem_of_getElem? (i := 139) rfl)))))
theorem tw_205 : Cond.methodLink RX10 93 yX10_faultOfStory ∈ lw_tbl := List.mem_append_right _ (List.mem_append_right _ (List.mem_append_right _ (List.mem_append_right _ (List.mem_append_left _ (List.mem_of_getElem? (i := 140) rfl)))))
theorem tw_206 : Cond.instanceMethod yX10_faultOfStory ∈ lw_tbl := List.mem_append_right _ (List.mem_append_right _ (List.mem_append_right _ (List.mem_append_right _ (List.mem_append_left _ (List.mem_of_getElem? (i := 142) rfl)))))
theorem tw_207 : Cond.selects RX10 yX10_faultOfStory yX10_faultOfStory ∈ lw_tbl := List.mem_append_left _ (List.mem_of_getElem? (i := 26) rfl)
theorem tw_208 : Cond.code yX10_faultOfStory cX10_faultOfStory 5 (some .int) ∈ lw_tbl := List.mem_append_right _ (List.mem_append_right _ (List.mem_append_right _ (List.mem_append_right _ (List.mem_append_left _ (List.mem_of_getElem? (i := 143) rfl)))))
theorem tw_209 : Cond.constantLong RX10 89 (49) ∈ lw_tbl := List.mem_append_right _ (List.mem_append_right _ (List.mem_append_right _ (List.mem_append_right _ (List.mem_append_left _ (List.mem_of_getElem? (i := 144) rfl)))))
theorem tw_210 : Cond.constantLong RX10 91 (57) ∈ lw_tbl := List.mem_append_right _ (List.mem_append_right _ (List.mem_append_right _ (List.mem_append_right _ (List.mem_append_left _ (List.mem_of_getElem? (i := 145) rfl)))))
theorem tw_211 : Cond.methodLink RX10 97 yX10_faultOfRow ∈ lw_tbl := List.mem_append_right _ (List.mem_append_right _ (List.mem_append_right _ (List.mem_append_right _ (List.mem_append_left _ (List.mem_of_getElem? (i := 146) rfl)))))
theorem tw_212 : Cond.instanceMethod yX10_faultOfRow ∈ lw_tbl := List.mem_append_right _ (List.mem_append_right _ (List.mem_append_right _ (List.mem_append_right _ (List.mem_append_left _ (List.mem_of_getElem? (i := 148) rfl)))))
theorem tw_213 : Cond.selects RX10 yX10_faultOfRow yX10_faultOfRow ∈ lw_tbl := List.mem_append_left _ (List.mem_of_getElem? (i := 27) rfl)
theorem tw_214 : Cond.code yX10_faultOfRow cX10_faultOfRow 4 (some .int) ∈ lw_tbl := List.mem_append_right _ (List.mem_append_right _ (List.mem_append_right _ (List.mem_append_right _ (List.mem_append_left _ (List.mem_of_getElem? (i := 149) rfl)))))
theorem tw_215 : Cond.methodLink RL 27 yX9_story ∈ lw_tbl := List.mem_append_right _ (List.mem_append_right _ (List.mem_append_left _ (List.mem_of_getElem? (i := 104) rfl)))
theorem lf_wsL_law_r9 : ∀ w ∈ wsL_law_r9, w ∈ lw_tbl := by
  intro w hw
  simp only [wsL_law_r9, List.mem_cons, List.not_mem_nil, or_false] at hw
  rcases hw with rfl | rfl | rfl | rfl | rfl | rfl | rfl | rfl | rfl | rfl | rfl | rfl | rfl | rfl | rfl | rfl | rfl | rfl | rfl | rfl | rfl | rfl | rfl | rfl
  · exact tw_192
  · exact tw_193
  · exact tw_194
  · exact tw_195
  · exact tw_196
  · exact tw_197
  · exact tw_198
  · exact tw_199
  · exact tw_200
  · exact tw_201
  · exact tw_202
  · exact tw_203
  · exact tw_204
  · exact tw_205
  · exact tw_206
  · exact tw_207
  · exact tw_208
  · exact tw_209
  · exact tw_210
  · exact tw_211
  · exact tw_212
  · exact tw_213
  · exact tw_214
  · exact tw_215
theorem tw_216 : Cond.instanceMethod yX9_story ∈ lw_tbl := List.mem_append_right _ (List.mem_append_right _ (List.mem_append_left _ (List.mem_of_getElem? (i := 105) rfl)))
theorem tw_217 : Cond.selects RX9 yX9_story yX9_story ∈ lw_tbl := List.mem_append_right _ (List.mem_append_right _ (List.mem_append_left _ (List.mem_of_getElem? (i := 106) rfl)))
theorem tw_218 : Cond.code yX9_story cX9_story 2 (some .int) ∈ lw_tbl := List.mem_append_right _ (List.mem_append_right _ (List.mem_append_left _ (List.mem_of_getElem? (i := 107) rfl)))
theorem tw_219 : Cond.methodLink RX9 102 yX9_isStory ∈ lw_tbl := List.mem_append_right _ (List.mem_append_right _ (List.mem_append_left _ (List.mem_of_getElem? (i := 108) rfl)))
theorem tw_220 : Cond.static yX9_isStory ∈ lw_tbl := List.mem_append_right _ (List.mem_append_right _ (List.mem_append_left _ (List.mem_of_getElem? (i := 109) rfl)))
theorem tw_221 : Cond.code yX9_isStory cX9_isStory 1 (some .boolean) ∈ lw_tbl := List.mem_append_right _ (List.mem_append_right _ (List.mem_append_left _ (List.mem_of_getElem? (i := 110) rfl)))
theorem tw_222 : Cond.methodLink RX9 106 yX0_write ∈ lw_tbl := List.mem_append_right _ (List.mem_append_right _ (List.mem_append_left _ (List.mem_of_getElem? (i := 111) rfl)))
theorem tw_223 : Cond.instanceMethod yX0_write ∈ lw_tbl := List.mem_append_right _ (List.mem_append_right _ (List.mem_append_left _ (List.mem_of_getElem? (i := 112) rfl)))
theorem tw_224 : Cond.selects RX0 yX0_write yX0_write ∈ lw_tbl := List.mem_append_right _ (List.mem_append_right _ (List.mem_append_left _ (List.mem_of_getElem? (i := 113) rfl)))
theorem tw_225 : Cond.code yX0_write cX0_write 7 none ∈ lw_tbl := List.mem_append_right _ (List.mem_append_right _ (List.mem_append_left _ (List.mem_of_getElem? (i := 114) rfl)))
theorem tw_226 : Cond.methodLink RX0 48 yX6_signAt ∈ lw_tbl := List.mem_append_right _ (List.mem_append_right _ (List.mem_append_left _ (List.mem_of_getElem? (i := 115) rfl)))
theorem tw_227 : Cond.instanceMethod yX6_signAt ∈ lw_tbl := List.mem_append_right _ (List.mem_append_right _ (List.mem_append_left _ (List.mem_of_getElem? (i := 116) rfl)))
theorem tw_228 : Cond.selects RX6 yX6_signAt yX6_signAt ∈ lw_tbl := List.mem_append_right _ (List.mem_append_right _ (List.mem_append_left _ (List.mem_of_getElem? (i := 117) rfl)))
theorem tw_229 : Cond.code yX6_signAt cX6_signAt 2 (some .int) ∈ lw_tbl := List.mem_append_right _ (List.mem_append_right _ (List.mem_append_left _ (List.mem_of_getElem? (i := 118) rfl)))
theorem tw_230 : Cond.methodLink RX0 52 yX0_dropWaitsBeyond ∈ lw_tbl := List.mem_append_right _ (List.mem_append_right _ (List.mem_append_left _ (List.mem_of_getElem? (i := 119) rfl)))
theorem tw_231 : Cond.instanceMethod yX0_dropWaitsBeyond ∈ lw_tbl := List.mem_append_right _ (List.mem_append_right _ (List.mem_append_left _ (List.mem_of_getElem? (i := 121) rfl)))
theorem tw_232 : Cond.selects RX0 yX0_dropWaitsBeyond yX0_dropWaitsBeyond ∈ lw_tbl := List.mem_append_left _ (List.mem_of_getElem? (i := 2) rfl)
theorem tw_233 : Cond.code yX0_dropWaitsBeyond cX0_dropWaitsBeyond 6 none ∈ lw_tbl := List.mem_append_right _ (List.mem_append_right _ (List.mem_append_left _ (List.mem_of_getElem? (i := 122) rfl)))
theorem tw_234 : Cond.fieldLink RX0 37 "StoryNest$Book" "waitCount" "I" ∈ lw_tbl := List.mem_append_right _ (List.mem_append_left _ (List.mem_of_getElem? (i := 66) rfl))
theorem tw_235 : Cond.methodLink RX0 67 yX0_storyOf ∈ lw_tbl := List.mem_append_right _ (List.mem_append_right _ (List.mem_append_left _ (List.mem_of_getElem? (i := 123) rfl)))
theorem tw_236 : Cond.instanceMethod yX0_storyOf ∈ lw_tbl := List.mem_append_right _ (List.mem_append_right _ (List.mem_append_left _ (List.mem_of_getElem? (i := 124) rfl)))
theorem tw_237 : Cond.selects RX0 yX0_storyOf yX0_storyOf ∈ lw_tbl := List.mem_append_right _ (List.mem_append_right _ (List.mem_append_left _ (List.mem_of_getElem? (i := 125) rfl)))
theorem tw_238 : Cond.code yX0_storyOf cX0_storyOf 2 (some .int) ∈ lw_tbl := List.mem_append_right _ (List.mem_append_right _ (List.mem_append_left _ (List.mem_of_getElem? (i := 126) rfl)))
theorem tw_239 : Cond.methodLink RX0 70 yX0_partOf ∈ lw_tbl := List.mem_append_right _ (List.mem_append_right _ (List.mem_append_left _ (List.mem_of_getElem? (i := 127) rfl)))
theorem lf_wsL_law_r10 : ∀ w ∈ wsL_law_r10, w ∈ lw_tbl := by
  intro w hw
  simp only [wsL_law_r10, List.mem_cons, List.not_mem_nil, or_false] at hw
  rcases hw with rfl | rfl | rfl | rfl | rfl | rfl | rfl | rfl | rfl | rfl | rfl | rfl | rfl | rfl | rfl | rfl | rfl | rfl | rfl | rfl | rfl | rfl | rfl | rfl
  · exact tw_216
  · exact tw_217
  · exact tw_218
  · exact tw_219
  · exact tw_220
  · exact tw_221
  · exact tw_222
  · exact tw_223
  · exact tw_224
  · exact tw_225
  · exact tw_226
  · exact tw_227
  · exact tw_228
  · exact tw_229
  · exact tw_230
  · exact tw_231
  · exact tw_232
  · exact tw_233
  · exact tw_234
  · exact tw_235
  · exact tw_236
  · exact tw_237
  · exact tw_238
  · exact tw_239
theorem tw_240 : Cond.instanceMethod yX0_partOf ∈ lw_tbl := List.mem_append_right _ (List.mem_append_right _ (List.mem_append_left _ (List.mem_of_getElem? (i := 128) rfl)))
theorem tw_241 : Cond.selects RX0 yX0_partOf yX0_partOf ∈ lw_tbl := List.mem_append_right _ (List.mem_append_right _ (List.mem_append_left _ (List.mem_of_getElem? (i := 129) rfl)))
theorem tw_242 : Cond.code yX0_partOf cX0_partOf 2 (some .int) ∈ lw_tbl := List.mem_append_right _ (List.mem_append_right _ (List.mem_append_left _ (List.mem_of_getElem? (i := 130) rfl)))
theorem tw_243 : Cond.methodLink RX0 64 yX0_gatherNeeds ∈ lw_tbl := List.mem_append_right _ (List.mem_append_right _ (List.mem_append_left _ (List.mem_of_getElem? (i := 131) rfl)))
theorem tw_244 : Cond.instanceMethod yX0_gatherNeeds ∈ lw_tbl := List.mem_append_right _ (List.mem_append_right _ (List.mem_append_left _ (List.mem_of_getElem? (i := 133) rfl)))
theorem tw_245 : Cond.selects RX0 yX0_gatherNeeds yX0_gatherNeeds ∈ lw_tbl := List.mem_append_left _ (List.mem_of_getElem? (i := 3) rfl)
theorem tw_246 : Cond.code yX0_gatherNeeds cX0_gatherNeeds 2 none ∈ lw_tbl := List.mem_append_right _ (List.mem_append_right _ (List.mem_append_left _ (List.mem_of_getElem? (i := 134) rfl)))
theorem tw_247 : Cond.methodLink RX0 73 yX0_otherOf ∈ lw_tbl := List.mem_append_right _ (List.mem_append_right _ (List.mem_append_left _ (List.mem_of_getElem? (i := 135) rfl)))
theorem tw_248 : Cond.instanceMethod yX0_otherOf ∈ lw_tbl := List.mem_append_right _ (List.mem_append_right _ (List.mem_append_left _ (List.mem_of_getElem? (i := 136) rfl)))
theorem tw_249 : Cond.selects RX0 yX0_otherOf yX0_otherOf ∈ lw_tbl := List.mem_append_right _ (List.mem_append_right _ (List.mem_append_left _ (List.mem_of_getElem? (i := 137) rfl)))
theorem tw_250 : Cond.code yX0_otherOf cX0_otherOf 2 (some .int) ∈ lw_tbl := List.mem_append_right _ (List.mem_append_right _ (List.mem_append_left _ (List.mem_of_getElem? (i := 138) rfl)))
theorem tw_251 : Cond.methodLink RX9 110 yX4_forget ∈ lw_tbl := List.mem_append_right _ (List.mem_append_right _ (List.mem_append_left _ (List.mem_of_getElem? (i := 139) rfl)))
theorem tw_252 : Cond.instanceMethod yX4_forget ∈ lw_tbl := List.mem_append_right _ (List.mem_append_right _ (List.mem_append_left _ (List.mem_of_getElem? (i := 140) rfl)))
theorem tw_253 : Cond.selects RX4 yX4_forget yX4_forget ∈ lw_tbl := List.mem_append_right _ (List.mem_append_right _ (List.mem_append_left _ (List.mem_of_getElem? (i := 141) rfl)))
theorem tw_254 : Cond.code yX4_forget cX4_forget 1 none ∈ lw_tbl := List.mem_append_right _ (List.mem_append_right _ (List.mem_append_left _ (List.mem_of_getElem? (i := 142) rfl)))
theorem tw_255 : Cond.fieldLink RX4 38 "StoryNest$Nights" "set" "I" ∈ lw_tbl := List.mem_append_right _ (List.mem_append_left _ (List.mem_of_getElem? (i := 188) rfl))
theorem tw_256 : Cond.methodLink RL 30 yX10_story ∈ lw_tbl := List.mem_append_right _ (List.mem_append_right _ (List.mem_append_right _ (List.mem_append_right _ (List.mem_append_left _ (List.mem_of_getElem? (i := 150) rfl)))))
theorem tw_257 : Cond.instanceMethod yX10_story ∈ lw_tbl := List.mem_append_right _ (List.mem_append_right _ (List.mem_append_right _ (List.mem_append_right _ (List.mem_append_left _ (List.mem_of_getElem? (i := 151) rfl)))))
theorem tw_258 : Cond.selects RX10 yX10_story yX10_story ∈ lw_tbl := List.mem_append_right _ (List.mem_append_right _ (List.mem_append_right _ (List.mem_append_right _ (List.mem_append_left _ (List.mem_of_getElem? (i := 152) rfl)))))
theorem tw_259 : Cond.code yX10_story cX10_story 3 (some .int) ∈ lw_tbl := List.mem_append_right _ (List.mem_append_right _ (List.mem_append_right _ (List.mem_append_right _ (List.mem_append_left _ (List.mem_of_getElem? (i := 153) rfl)))))
theorem tw_260 : Cond.fieldLink RX10 104 "StoryNestModel" "waits" "I" ∈ lw_tbl := List.mem_append_right _ (List.mem_append_right _ (List.mem_append_right _ (List.mem_append_right _ (List.mem_append_left _ (List.mem_of_getElem? (i := 42) rfl)))))
theorem tw_261 : Cond.methodLink RX10 101 yX10_isStory ∈ lw_tbl := List.mem_append_right _ (List.mem_append_right _ (List.mem_append_right _ (List.mem_append_right _ (List.mem_append_left _ (List.mem_of_getElem? (i := 154) rfl)))))
theorem tw_262 : Cond.static yX10_isStory ∈ lw_tbl := List.mem_append_right _ (List.mem_append_right _ (List.mem_append_right _ (List.mem_append_right _ (List.mem_append_left _ (List.mem_of_getElem? (i := 155) rfl)))))
theorem tw_263 : Cond.code yX10_isStory cX10_isStory 1 (some .boolean) ∈ lw_tbl := List.mem_append_right _ (List.mem_append_right _ (List.mem_append_right _ (List.mem_append_right _ (List.mem_append_left _ (List.mem_of_getElem? (i := 156) rfl)))))
theorem lf_wsL_law_r11 : ∀ w ∈ wsL_law_r11, w ∈ lw_tbl := by
  intro w hw
  simp only [wsL_law_r11, List.mem_cons, List.not_mem_nil, or_false] at hw
  rcases hw with rfl | rfl | rfl | rfl | rfl | rfl | rfl | rfl | rfl | rfl | rfl | rfl | rfl | rfl | rfl | rfl | rfl | rfl | rfl | rfl | rfl | rfl | rfl | rfl
  · exact tw_240
  · exact tw_241
  · exact tw_242
  · exact tw_243
  · exact tw_244
  · exact tw_245
  · exact tw_246
  · exact tw_247
  · exact tw_248
  · exact tw_249
  · exact tw_250
  · exact tw_251
  · exact tw_252
  · exact tw_253
  · exact tw_254
  · exact tw_255
  · exact tw_256
  · exact tw_257
  · exact tw_258
  · exact tw_259
  · exact tw_260
  · exact tw_261
  · exact tw_262
  · exact tw_263
theorem tw_264 : Cond.constantLong RX10 75 (3) ∈ lw_tbl := List.mem_append_right _ (List.mem_append_right _ (List.mem_append_right _ (List.mem_append_right _ (List.mem_append_left _ (List.mem_of_getElem? (i := 157) rfl)))))
theorem tw_265 : Cond.methodLink RX10 107 yX10_drop ∈ lw_tbl := List.mem_append_right _ (List.mem_append_right _ (List.mem_append_right _ (List.mem_append_right _ (List.mem_append_left _ (List.mem_of_getElem? (i := 158) rfl)))))
theorem tw_266 : Cond.instanceMethod yX10_drop ∈ lw_tbl := List.mem_append_right _ (List.mem_append_right _ (List.mem_append_right _ (List.mem_append_right _ (List.mem_append_left _ (List.mem_of_getElem? (i := 159) rfl)))))
theorem tw_267 : Cond.selects RX10 yX10_drop yX10_drop ∈ lw_tbl := List.mem_append_right _ (List.mem_append_right _ (List.mem_append_right _ (List.mem_append_right _ (List.mem_append_left _ (List.mem_of_getElem? (i := 160) rfl)))))
theorem tw_268 : Cond.code yX10_drop cX10_drop 3 (some .int) ∈ lw_tbl := List.mem_append_right _ (List.mem_append_right _ (List.mem_append_right _ (List.mem_append_right _ (List.mem_append_left _ (List.mem_of_getElem? (i := 161) rfl)))))
theorem tw_269 : Cond.methodLink RL 31 yX9_about ∈ lw_tbl := List.mem_append_right _ (List.mem_append_right _ (List.mem_append_left _ (List.mem_of_getElem? (i := 143) rfl)))
theorem tw_270 : Cond.instanceMethod yX9_about ∈ lw_tbl := List.mem_append_right _ (List.mem_append_right _ (List.mem_append_left _ (List.mem_of_getElem? (i := 144) rfl)))
theorem tw_271 : Cond.selects RX9 yX9_about yX9_about ∈ lw_tbl := List.mem_append_right _ (List.mem_append_right _ (List.mem_append_left _ (List.mem_of_getElem? (i := 145) rfl)))
theorem tw_272 : Cond.code yX9_about cX9_about 4 (some .int) ∈ lw_tbl := List.mem_append_right _ (List.mem_append_right _ (List.mem_append_left _ (List.mem_of_getElem? (i := 146) rfl)))
theorem tw_273 : Cond.methodLink RX9 117 yX0_minutesAt ∈ lw_tbl := List.mem_append_right _ (List.mem_append_right _ (List.mem_append_left _ (List.mem_of_getElem? (i := 147) rfl)))
theorem tw_274 : Cond.instanceMethod yX0_minutesAt ∈ lw_tbl := List.mem_append_right _ (List.mem_append_right _ (List.mem_append_left _ (List.mem_of_getElem? (i := 148) rfl)))
theorem tw_275 : Cond.selects RX0 yX0_minutesAt yX0_minutesAt ∈ lw_tbl := List.mem_append_right _ (List.mem_append_right _ (List.mem_append_left _ (List.mem_of_getElem? (i := 149) rfl)))
theorem tw_276 : Cond.code yX0_minutesAt cX0_minutesAt 3 (some .int) ∈ lw_tbl := List.mem_append_right _ (List.mem_append_right _ (List.mem_append_left _ (List.mem_of_getElem? (i := 150) rfl)))
theorem tw_277 : Cond.methodLink RX9 121 yX0_minutesOf ∈ lw_tbl := List.mem_append_right _ (List.mem_append_right _ (List.mem_append_left _ (List.mem_of_getElem? (i := 152) rfl)))
theorem tw_278 : Cond.instanceMethod yX0_minutesOf ∈ lw_tbl := List.mem_append_right _ (List.mem_append_right _ (List.mem_append_left _ (List.mem_of_getElem? (i := 153) rfl)))
theorem tw_279 : Cond.selects RX0 yX0_minutesOf yX0_minutesOf ∈ lw_tbl := List.mem_append_right _ (List.mem_append_right _ (List.mem_append_left _ (List.mem_of_getElem? (i := 154) rfl)))
theorem tw_280 : Cond.code yX0_minutesOf cX0_minutesOf 5 (some .int) ∈ lw_tbl := List.mem_append_right _ (List.mem_append_right _ (List.mem_append_left _ (List.mem_of_getElem? (i := 155) rfl)))
theorem tw_281 : Cond.methodLink RX0 60 yX0_minutesAt ∈ lw_tbl := List.mem_append_right _ (List.mem_append_right _ (List.mem_append_left _ (List.mem_of_getElem? (i := 156) rfl)))
theorem tw_282 : Cond.methodLink RL 35 yX10_about ∈ lw_tbl := List.mem_append_right _ (List.mem_append_right _ (List.mem_append_right _ (List.mem_append_right _ (List.mem_append_left _ (List.mem_of_getElem? (i := 162) rfl)))))
theorem tw_283 : Cond.instanceMethod yX10_about ∈ lw_tbl := List.mem_append_right _ (List.mem_append_right _ (List.mem_append_right _ (List.mem_append_right _ (List.mem_append_left _ (List.mem_of_getElem? (i := 163) rfl)))))
theorem tw_284 : Cond.selects RX10 yX10_about yX10_about ∈ lw_tbl := List.mem_append_right _ (List.mem_append_right _ (List.mem_append_right _ (List.mem_append_right _ (List.mem_append_left _ (List.mem_of_getElem? (i := 164) rfl)))))
theorem tw_285 : Cond.code yX10_about cX10_about 3 (some .int) ∈ lw_tbl := List.mem_append_right _ (List.mem_append_right _ (List.mem_append_right _ (List.mem_append_right _ (List.mem_append_left _ (List.mem_of_getElem? (i := 165) rfl)))))
theorem tw_286 : Cond.constantLong RX10 111 (10) ∈ lw_tbl := List.mem_append_right _ (List.mem_append_right _ (List.mem_append_right _ (List.mem_append_right _ (List.mem_append_left _ (List.mem_of_getElem? (i := 166) rfl)))))
theorem tw_287 : Cond.constantLong RX10 113 (13) ∈ lw_tbl := List.mem_append_right _ (List.mem_append_right _ (List.mem_append_right _ (List.mem_append_right _ (List.mem_append_left _ (List.mem_of_getElem? (i := 167) rfl)))))
theorem lf_wsL_law_r12 : ∀ w ∈ wsL_law_r12, w ∈ lw_tbl := by
  intro w hw
  simp only [wsL_law_r12, List.mem_cons, List.not_mem_nil, or_false] at hw
  rcases hw with rfl | rfl | rfl | rfl | rfl | rfl | rfl | rfl | rfl | rfl | rfl | rfl | rfl | rfl | rfl | rfl | rfl | rfl | rfl | rfl | rfl | rfl | rfl | rfl
  · exact tw_264
  · exact tw_265
  · exact tw_266
  · exact tw_267
  · exact tw_268
  · exact tw_269
  · exact tw_270
  · exact tw_271
  · exact tw_272
  · exact tw_273
  · exact tw_274
  · exact tw_275
  · exact tw_276
  · exact tw_277
  · exact tw_278
  · exact tw_279
  · exact tw_280
  · exact tw_281
  · exact tw_282
  · exact tw_283
  · exact tw_284
  · exact tw_285
  · exact tw_286
  · exact tw_287
theorem tw_288 : Cond.methodLink RX10 115 yX10_lengthOf ∈ lw_tbl := List.mem_append_right _ (List.mem_append_right _ (List.mem_append_right _ (List.mem_append_right _ (List.mem_append_left _ (List.mem_of_getElem? (i := 168) rfl)))))
theorem tw_289 : Cond.instanceMethod yX10_lengthOf ∈ lw_tbl := List.mem_append_right _ (List.mem_append_right _ (List.mem_append_right _ (List.mem_append_right _ (List.mem_append_left _ (List.mem_of_getElem? (i := 170) rfl)))))
theorem tw_290 : Cond.selects RX10 yX10_lengthOf yX10_lengthOf ∈ lw_tbl := List.mem_append_left _ (List.mem_of_getElem? (i := 28) rfl)
theorem tw_291 : Cond.code yX10_lengthOf cX10_lengthOf 4 (some .int) ∈ lw_tbl := List.mem_append_right _ (List.mem_append_right _ (List.mem_append_right _ (List.mem_append_right _ (List.mem_append_left _ (List.mem_of_getElem? (i := 171) rfl)))))
theorem tw_292 : Cond.methodLink RL 36 yX9_teller ∈ lw_tbl := List.mem_append_right _ (List.mem_append_right _ (List.mem_append_left _ (List.mem_of_getElem? (i := 157) rfl)))
theorem tw_293 : Cond.instanceMethod yX9_teller ∈ lw_tbl := List.mem_append_right _ (List.mem_append_right _ (List.mem_append_left _ (List.mem_of_getElem? (i := 158) rfl)))
theorem tw_294 : Cond.selects RX9 yX9_teller yX9_teller ∈ lw_tbl := List.mem_append_right _ (List.mem_append_right _ (List.mem_append_left _ (List.mem_of_getElem? (i := 159) rfl)))
theorem tw_295 : Cond.code yX9_teller cX9_teller 4 (some .int) ∈ lw_tbl := List.mem_append_right _ (List.mem_append_right _ (List.mem_append_left _ (List.mem_of_getElem? (i := 160) rfl)))
theorem tw_296 : Cond.methodLink RX9 127 yX9_isTeller ∈ lw_tbl := List.mem_append_right _ (List.mem_append_right _ (List.mem_append_left _ (List.mem_of_getElem? (i := 161) rfl)))
theorem tw_297 : Cond.static yX9_isTeller ∈ lw_tbl := List.mem_append_right _ (List.mem_append_right _ (List.mem_append_left _ (List.mem_of_getElem? (i := 162) rfl)))
theorem tw_298 : Cond.code yX9_isTeller cX9_isTeller 1 (some .boolean) ∈ lw_tbl := List.mem_append_right _ (List.mem_append_right _ (List.mem_append_left _ (List.mem_of_getElem? (i := 163) rfl)))
theorem tw_299 : Cond.methodLink RL 39 yX10_teller ∈ lw_tbl := List.mem_append_right _ (List.mem_append_right _ (List.mem_append_right _ (List.mem_append_right _ (List.mem_append_left _ (List.mem_of_getElem? (i := 172) rfl)))))
theorem tw_300 : Cond.instanceMethod yX10_teller ∈ lw_tbl := List.mem_append_right _ (List.mem_append_right _ (List.mem_append_right _ (List.mem_append_right _ (List.mem_append_left _ (List.mem_of_getElem? (i := 173) rfl)))))
theorem tw_301 : Cond.selects RX10 yX10_teller yX10_teller ∈ lw_tbl := List.mem_append_right _ (List.mem_append_right _ (List.mem_append_right _ (List.mem_append_right _ (List.mem_append_left _ (List.mem_of_getElem? (i := 174) rfl)))))
theorem tw_302 : Cond.code yX10_teller cX10_teller 4 (some .int) ∈ lw_tbl := List.mem_append_right _ (List.mem_append_right _ (List.mem_append_right _ (List.mem_append_right _ (List.mem_append_left _ (List.mem_of_getElem? (i := 175) rfl)))))
theorem tw_303 : Cond.methodLink RL 40 yX9_knows ∈ lw_tbl := List.mem_append_right _ (List.mem_append_right _ (List.mem_append_left _ (List.mem_of_getElem? (i := 164) rfl)))
theorem tw_304 : Cond.instanceMethod yX9_knows ∈ lw_tbl := List.mem_append_right _ (List.mem_append_right _ (List.mem_append_left _ (List.mem_of_getElem? (i := 165) rfl)))
theorem tw_305 : Cond.selects RX9 yX9_knows yX9_knows ∈ lw_tbl := List.mem_append_right _ (List.mem_append_right _ (List.mem_append_left _ (List.mem_of_getElem? (i := 166) rfl)))
theorem tw_306 : Cond.code yX9_knows cX9_knows 4 (some .int) ∈ lw_tbl := List.mem_append_right _ (List.mem_append_right _ (List.mem_append_left _ (List.mem_of_getElem? (i := 167) rfl)))
theorem tw_307 : Cond.methodLink RL 43 yX10_knows ∈ lw_tbl := List.mem_append_right _ (List.mem_append_right _ (List.mem_append_right _ (List.mem_append_right _ (List.mem_append_left _ (List.mem_of_getElem? (i := 176) rfl)))))
theorem tw_308 : Cond.instanceMethod yX10_knows ∈ lw_tbl := List.mem_append_right _ (List.mem_append_right _ (List.mem_append_right _ (List.mem_append_right _ (List.mem_append_left _ (List.mem_of_getElem? (i := 177) rfl)))))
theorem tw_309 : Cond.selects RX10 yX10_knows yX10_knows ∈ lw_tbl := List.mem_append_right _ (List.mem_append_right _ (List.mem_append_right _ (List.mem_append_right _ (List.mem_append_left _ (List.mem_of_getElem? (i := 178) rfl)))))
theorem tw_310 : Cond.code yX10_knows cX10_knows 4 (some .int) ∈ lw_tbl := List.mem_append_right _ (List.mem_append_right _ (List.mem_append_right _ (List.mem_append_right _ (List.mem_append_left _ (List.mem_of_getElem? (i := 179) rfl)))))
theorem tw_311 : Cond.constantLong RX10 118 (15) ∈ lw_tbl := List.mem_append_right _ (List.mem_append_right _ (List.mem_append_right _ (List.mem_append_right _ (List.mem_append_left _ (List.mem_of_getElem? (i := 180) rfl)))))
theorem lf_wsL_law_r13 : ∀ w ∈ wsL_law_r13, w ∈ lw_tbl := by
  intro w hw
  simp only [wsL_law_r13, List.mem_cons, List.not_mem_nil, or_false] at hw
  rcases hw with rfl | rfl | rfl | rfl | rfl | rfl | rfl | rfl | rfl | rfl | rfl | rfl | rfl | rfl | rfl | rfl | rfl | rfl | rfl | rfl | rfl | rfl | rfl | rfl
  · exact tw_288
  · exact tw_289
  · exact tw_290
  · exact tw_291
  · exact tw_292
  · exact tw_293
  · exact tw_294
  · exact tw_295
  · exact tw_296
  · exact tw_297
  · exact tw_298
  · exact tw_299
  · exact tw_300
  · exact tw_301
  · exact tw_302
  · exact tw_303
  · exact tw_304
  · exact tw_305
  · exact tw_306
  · exact tw_307
  · exact tw_308
  · exact tw_309
  · exact tw_310
  · exact tw_311
theorem tw_312 : Cond.methodLink RL 44 yX9_wait ∈ lw_tbl := List.mem_append_right _ (List.mem_append_right _ (List.mem_append_left _ (List.mem_of_getElem? (i := 168) rfl)))
theorem tw_313 : Cond.instanceMethod yX9_wait ∈ lw_tbl := List.mem_append_right _ (List.mem_append_right _ (List.mem_append_left _ (List.mem_of_getElem? (i := 169) rfl)))
theorem tw_314 : Cond.selects RX9 yX9_wait yX9_wait ∈ lw_tbl := List.mem_append_right _ (List.mem_append_right _ (List.mem_append_left _ (List.mem_of_getElem? (i := 170) rfl)))
theorem tw_315 : Cond.code yX9_wait cX9_wait 4 (some .int) ∈ lw_tbl := List.mem_append_right _ (List.mem_append_right _ (List.mem_append_left _ (List.mem_of_getElem? (i := 171) rfl)))
theorem tw_316 : Cond.methodLink RX9 136 yX0_hasWait ∈ lw_tbl := List.mem_append_right _ (List.mem_append_right _ (List.mem_append_left _ (List.mem_of_getElem? (i := 172) rfl)))
theorem tw_317 : Cond.instanceMethod yX0_hasWait ∈ lw_tbl := List.mem_append_right _ (List.mem_append_right _ (List.mem_append_left _ (List.mem_of_getElem? (i := 173) rfl)))
theorem tw_318 : Cond.selects RX0 yX0_hasWait yX0_hasWait ∈ lw_tbl := List.mem_append_right _ (List.mem_append_right _ (List.mem_append_left _ (List.mem_of_getElem? (i := 174) rfl)))
theorem tw_319 : Cond.code yX0_hasWait cX0_hasWait 5 (some .boolean) ∈ lw_tbl := List.mem_append_right _ (List.mem_append_right _ (List.mem_append_left _ (List.mem_of_getElem? (i := 175) rfl)))
theorem tw_320 : Cond.methodLink RX9 142 yX0_addWait ∈ lw_tbl := List.mem_append_right _ (List.mem_append_right _ (List.mem_append_left _ (List.mem_of_getElem? (i := 176) rfl)))
theorem tw_321 : Cond.instanceMethod yX0_addWait ∈ lw_tbl := List.mem_append_right _ (List.mem_append_right _ (List.mem_append_left _ (List.mem_of_getElem? (i := 177) rfl)))
theorem tw_322 : Cond.selects RX0 yX0_addWait yX0_addWait ∈ lw_tbl := List.mem_append_right _ (List.mem_append_right _ (List.mem_append_left _ (List.mem_of_getElem? (i := 178) rfl)))
theorem tw_323 : Cond.code yX0_addWait cX0_addWait 5 (some .int) ∈ lw_tbl := List.mem_append_right _ (List.mem_append_right _ (List.mem_append_left _ (List.mem_of_getElem? (i := 179) rfl)))
theorem tw_324 : Cond.methodLink RL 48 yX10_wait ∈ lw_tbl := List.mem_append_right _ (List.mem_append_right _ (List.mem_append_right _ (List.mem_append_right _ (List.mem_append_left _ (List.mem_of_getElem? (i := 181) rfl)))))
theorem tw_325 : Cond.instanceMethod yX10_wait ∈ lw_tbl := List.mem_append_right _ (List.mem_append_right _ (List.mem_append_right _ (List.mem_append_right _ (List.mem_append_left _ (List.mem_of_getElem? (i := 182) rfl)))))
theorem tw_326 : Cond.selects RX10 yX10_wait yX10_wait ∈ lw_tbl := List.mem_append_right _ (List.mem_append_right _ (List.mem_append_right _ (List.mem_append_right _ (List.mem_append_left _ (List.mem_of_getElem? (i := 183) rfl)))))
theorem tw_327 : Cond.code yX10_wait cX10_wait 5 (some .int) ∈ lw_tbl := List.mem_append_right _ (List.mem_append_right _ (List.mem_append_right _ (List.mem_append_right _ (List.mem_append_left _ (List.mem_of_getElem? (i := 184) rfl)))))
theorem tw_328 : Cond.methodLink RL 49 yX9_drop ∈ lw_tbl := List.mem_append_right _ (List.mem_append_right _ (List.mem_append_left _ (List.mem_of_getElem? (i := 180) rfl)))
theorem tw_329 : Cond.instanceMethod yX9_drop ∈ lw_tbl := List.mem_append_right _ (List.mem_append_right _ (List.mem_append_left _ (List.mem_of_getElem? (i := 181) rfl)))
theorem tw_330 : Cond.selects RX9 yX9_drop yX9_drop ∈ lw_tbl := List.mem_append_right _ (List.mem_append_right _ (List.mem_append_left _ (List.mem_of_getElem? (i := 182) rfl)))
theorem tw_331 : Cond.code yX9_drop cX9_drop 2 (some .int) ∈ lw_tbl := List.mem_append_right _ (List.mem_append_right _ (List.mem_append_left _ (List.mem_of_getElem? (i := 183) rfl)))
theorem tw_332 : Cond.methodLink RX9 146 yX0_removeWait ∈ lw_tbl := List.mem_append_right _ (List.mem_append_right _ (List.mem_append_left _ (List.mem_of_getElem? (i := 184) rfl)))
theorem tw_333 : Cond.instanceMethod yX0_removeWait ∈ lw_tbl := List.mem_append_right _ (List.mem_append_right _ (List.mem_append_left _ (List.mem_of_getElem? (i := 185) rfl)))
theorem tw_334 : Cond.selects RX0 yX0_removeWait yX0_removeWait ∈ lw_tbl := List.mem_append_right _ (List.mem_append_right _ (List.mem_append_left _ (List.mem_of_getElem? (i := 186) rfl)))
theorem tw_335 : Cond.code yX0_removeWait cX0_removeWait 3 (some .int) ∈ lw_tbl := List.mem_append_right _ (List.mem_append_right _ (List.mem_append_left _ (List.mem_of_getElem? (i := 187) rfl)))
theorem lf_wsL_law_r14 : ∀ w ∈ wsL_law_r14, w ∈ lw_tbl := by
  intro w hw
  simp only [wsL_law_r14, List.mem_cons, List.not_mem_nil, or_false] at hw
  rcases hw with rfl | rfl | rfl | rfl | rfl | rfl | rfl | rfl | rfl | rfl | rfl | rfl | rfl | rfl | rfl | rfl | rfl | rfl | rfl | rfl | rfl | rfl | rfl | rfl
  · exact tw_312
  · exact tw_313
  · exact tw_314
  · exact tw_315
  · exact tw_316
  · exact tw_317
  · exact tw_318
  · exact tw_319
  · exact tw_320
  · exact tw_321
  · exact tw_322
  · exact tw_323
  · exact tw_324
  · exact tw_325
  · exact tw_326
  · exact tw_327
  · exact tw_328
  · exact tw_329
  · exact tw_330
  · exact tw_331
  · exact tw_332
  · exact tw_333
  · exact tw_334
  · exact tw_335
theorem tw_336 : Cond.methodLink RL 52 yX10_drop ∈ lw_tbl := List.mem_append_right _ (List.mem_append_right _ (List.mem_append_right _ (List.mem_append_right _ (List.mem_append_left _ (List.mem_of_getElem? (i := 185) rfl)))))
theorem tw_337 : Cond.methodLink RL 53 yX9_set ∈ lw_tbl := List.mem_append_right _ (List.mem_append_right _ (List.mem_append_left _ (List.mem_of_getElem? (i := 188) rfl)))
theorem tw_338 : Cond.instanceMethod yX9_set ∈ lw_tbl := List.mem_append_right _ (List.mem_append_right _ (List.mem_append_left _ (List.mem_of_getElem? (i := 189) rfl)))
theorem tw_339 : Cond.selects RX9 yX9_set yX9_set ∈ lw_tbl := List.mem_append_right _ (List.mem_append_right _ (List.mem_append_left _ (List.mem_of_getElem? (i := 190) rfl)))
theorem tw_340 : Cond.code yX9_set cX9_set 4 (some .int) ∈ lw_tbl := List.mem_append_right _ (List.mem_append_right _ (List.mem_append_left _ (List.mem_of_getElem? (i := 191) rfl)))
theorem tw_341 : Cond.methodLink RL 56 yX10_set ∈ lw_tbl := List.mem_append_right _ (List.mem_append_right _ (List.mem_append_right _ (List.mem_append_right _ (List.mem_append_left _ (List.mem_of_getElem? (i := 186) rfl)))))
theorem tw_342 : Cond.instanceMethod yX10_set ∈ lw_tbl := List.mem_append_right _ (List.mem_append_right _ (List.mem_append_right _ (List.mem_append_right _ (List.mem_append_left _ (List.mem_of_getElem? (i := 187) rfl)))))
theorem tw_343 : Cond.selects RX10 yX10_set yX10_set ∈ lw_tbl := List.mem_append_right _ (List.mem_append_right _ (List.mem_append_right _ (List.mem_append_right _ (List.mem_append_left _ (List.mem_of_getElem? (i := 188) rfl)))))
theorem tw_344 : Cond.code yX10_set cX10_set 4 (some .int) ∈ lw_tbl := List.mem_append_right _ (List.mem_append_right _ (List.mem_append_right _ (List.mem_append_right _ (List.mem_append_left _ (List.mem_of_getElem? (i := 189) rfl)))))
theorem tw_345 : Cond.constantLong RX10 120 (2) ∈ lw_tbl := List.mem_append_right _ (List.mem_append_right _ (List.mem_append_right _ (List.mem_append_right _ (List.mem_append_left _ (List.mem_of_getElem? (i := 190) rfl)))))
theorem tw_346 : Cond.constantLong RX10 122 (9) ∈ lw_tbl := List.mem_append_right _ (List.mem_append_right _ (List.mem_append_right _ (List.mem_append_right _ (List.mem_append_left _ (List.mem_of_getElem? (i := 191) rfl)))))
theorem tw_347 : Cond.fieldLink RX10 124 "StoryNestModel" "law" "I" ∈ lw_tbl := List.mem_append_right _ (List.mem_append_right _ (List.mem_append_right _ (List.mem_append_right _ (List.mem_append_left _ (List.mem_of_getElem? (i := 43) rfl)))))
theorem tw_348 : Cond.fieldLink RX10 127 "StoryNestModel" "breath" "I" ∈ lw_tbl := List.mem_append_right _ (List.mem_append_right _ (List.mem_append_right _ (List.mem_append_right _ (List.mem_append_left _ (List.mem_of_getElem? (i := 44) rfl)))))
theorem tw_349 : Cond.methodLink RL 57 yX9_judge ∈ lw_tbl := List.mem_append_right _ (List.mem_append_right _ (List.mem_append_left _ (List.mem_of_getElem? (i := 192) rfl)))
theorem tw_350 : Cond.instanceMethod yX9_judge ∈ lw_tbl := List.mem_append_right _ (List.mem_append_right _ (List.mem_append_left _ (List.mem_of_getElem? (i := 193) rfl)))
theorem tw_351 : Cond.selects RX9 yX9_judge yX9_judge ∈ lw_tbl := List.mem_append_right _ (List.mem_append_right _ (List.mem_append_left _ (List.mem_of_getElem? (i := 194) rfl)))
theorem tw_352 : Cond.code yX9_judge cX9_judge 2 (some .int) ∈ lw_tbl := List.mem_append_right _ (List.mem_append_right _ (List.mem_append_left _ (List.mem_of_getElem? (i := 195) rfl)))
theorem tw_353 : Cond.methodLink RX9 155 yX1_isGood ∈ lw_tbl := List.mem_append_right _ (List.mem_append_right _ (List.mem_append_left _ (List.mem_of_getElem? (i := 196) rfl)))
theorem tw_354 : Cond.instanceMethod yX1_isGood ∈ lw_tbl := List.mem_append_right _ (List.mem_append_right _ (List.mem_append_left _ (List.mem_of_getElem? (i := 197) rfl)))
theorem tw_355 : Cond.selects RX1 yX1_isGood yX1_isGood ∈ lw_tbl := List.mem_append_right _ (List.mem_append_right _ (List.mem_append_left _ (List.mem_of_getElem? (i := 198) rfl)))
theorem tw_356 : Cond.code yX1_isGood cX1_isGood 4 (some .boolean) ∈ lw_tbl := List.mem_append_right _ (List.mem_append_right _ (List.mem_append_left _ (List.mem_of_getElem? (i := 199) rfl)))
theorem tw_357 : Cond.fieldLink RX1 28 "StoryNest$Evening" "place" "I" ∈ lw_tbl := List.mem_append_right _ (List.mem_append_left _ (List.mem_of_getElem? (i := 137) rfl))
theorem tw_358 : Cond.fieldLink RX1 32 "StoryNest$Evening" "why" "I" ∈ lw_tbl := List.mem_append_right _ (List.mem_append_left _ (List.mem_of_getElem? (i := 139) rfl))
theorem tw_359 : Cond.fieldLink RX1 35 "StoryNest$Evening" "deep" "I" ∈ lw_tbl := List.mem_append_right _ (List.mem_append_left _ (List.mem_of_getElem? (i := 143) rfl))
theorem lf_wsL_law_r15 : ∀ w ∈ wsL_law_r15, w ∈ lw_tbl := by
  intro w hw
  simp only [wsL_law_r15, List.mem_cons, List.not_mem_nil, or_false] at hw
  rcases hw with rfl | rfl | rfl | rfl | rfl | rfl | rfl | rfl | rfl | rfl | rfl | rfl | rfl | rfl | rfl | rfl | rfl | rfl | rfl | rfl | rfl | rfl | rfl | rfl
  · exact tw_336
  · exact tw_337
  · exact tw_338
  · exact tw_339
  · exact tw_340
  · exact tw_341
  · exact tw_342
  · exact tw_343
  · exact tw_344
  · exact tw_345
  · exact tw_346
  · exact tw_347
  · exact tw_348
  · exact tw_349
  · exact tw_350
  · exact tw_351
  · exact tw_352
  · exact tw_353
  · exact tw_354
  · exact tw_355
  · exact tw_356
  · exact tw_357
  · exact tw_358
  · exact tw_359
theorem tw_360 : Cond.fieldLink RX1 38 "StoryNest$Evening" "minutes" "I" ∈ lw_tbl := List.mem_append_right _ (List.mem_append_left _ (List.mem_of_getElem? (i := 145) rfl))
theorem tw_361 : Cond.fieldLink RX1 69 "StoryNest$Evening" "open" "I" ∈ lw_tbl := List.mem_append_right _ (List.mem_append_left _ (List.mem_of_getElem? (i := 141) rfl))
theorem tw_362 : Cond.methodLink RX1 41 yX3_look ∈ lw_tbl := List.mem_append_right _ (List.mem_append_right _ (List.mem_append_left _ (List.mem_of_getElem? (i := 200) rfl)))
theorem tw_363 : Cond.instanceMethod yX3_look ∈ lw_tbl := List.mem_append_right _ (List.mem_append_right _ (List.mem_append_left _ (List.mem_of_getElem? (i := 201) rfl)))
theorem tw_364 : Cond.selects RX3 yX3_look yX3_look ∈ lw_tbl := List.mem_append_right _ (List.mem_append_right _ (List.mem_append_left _ (List.mem_of_getElem? (i := 202) rfl)))
theorem tw_365 : Cond.code yX3_look cX3_look 5 none ∈ lw_tbl := List.mem_append_right _ (List.mem_append_right _ (List.mem_append_left _ (List.mem_of_getElem? (i := 203) rfl)))
theorem tw_366 : Cond.fieldLink RX3 19 "StoryNest$Moment" "night" "I" ∈ lw_tbl := List.mem_append_right _ (List.mem_append_left _ (List.mem_of_getElem? (i := 112) rfl))
theorem tw_367 : Cond.fieldLink RX3 23 "StoryNest$Moment" "open" "I" ∈ lw_tbl := List.mem_append_right _ (List.mem_append_left _ (List.mem_of_getElem? (i := 114) rfl))
theorem tw_368 : Cond.fieldLink RX3 26 "StoryNest$Moment" "out" "I" ∈ lw_tbl := List.mem_append_right _ (List.mem_append_left _ (List.mem_of_getElem? (i := 115) rfl))
theorem tw_369 : Cond.fieldLink RX3 29 "StoryNest$Moment" "busyTellers" "I" ∈ lw_tbl := List.mem_append_right _ (List.mem_append_left _ (List.mem_of_getElem? (i := 117) rfl))
theorem tw_370 : Cond.fieldLink RX3 51 "StoryNest$Moment" "mayGoOn" "I" ∈ lw_tbl := List.mem_append_right _ (List.mem_append_left _ (List.mem_of_getElem? (i := 116) rfl))
theorem tw_371 : Cond.fieldLink RX3 54 "StoryNest$Moment" "mayBegin" "Z" ∈ lw_tbl := List.mem_append_right _ (List.mem_append_left _ (List.mem_of_getElem? (i := 118) rfl))
theorem tw_372 : Cond.methodLink RX3 15 yX3_partsTold ∈ lw_tbl := List.mem_append_right _ (List.mem_append_right _ (List.mem_append_left _ (List.mem_of_getElem? (i := 204) rfl)))
theorem tw_373 : Cond.static yX3_partsTold ∈ lw_tbl := List.mem_append_right _ (List.mem_append_right _ (List.mem_append_left _ (List.mem_of_getElem? (i := 205) rfl)))
theorem tw_374 : Cond.code yX3_partsTold cX3_partsTold 2 (some .int) ∈ lw_tbl := List.mem_append_right _ (List.mem_append_right _ (List.mem_append_left _ (List.mem_of_getElem? (i := 206) rfl)))
theorem tw_375 : Cond.methodLink RX3 47 yX3_lowestOfRow ∈ lw_tbl := List.mem_append_right _ (List.mem_append_right _ (List.mem_append_left _ (List.mem_of_getElem? (i := 207) rfl)))
theorem tw_376 : Cond.instanceMethod yX3_lowestOfRow ∈ lw_tbl := List.mem_append_right _ (List.mem_append_right _ (List.mem_append_left _ (List.mem_of_getElem? (i := 209) rfl)))
theorem tw_377 : Cond.selects RX3 yX3_lowestOfRow yX3_lowestOfRow ∈ lw_tbl := List.mem_append_left _ (List.mem_of_getElem? (i := 4) rfl)
theorem tw_378 : Cond.code yX3_lowestOfRow cX3_lowestOfRow 2 (some .int) ∈ lw_tbl := List.mem_append_right _ (List.mem_append_right _ (List.mem_append_left _ (List.mem_of_getElem? (i := 210) rfl)))
theorem tw_379 : Cond.methodLink RX1 50 yX6_signAt ∈ lw_tbl := List.mem_append_right _ (List.mem_append_right _ (List.mem_append_left _ (List.mem_of_getElem? (i := 211) rfl)))
theorem tw_380 : Cond.methodLink RX1 58 yX3_whyNot ∈ lw_tbl := List.mem_append_right _ (List.mem_append_right _ (List.mem_append_left _ (List.mem_of_getElem? (i := 213) rfl)))
theorem tw_381 : Cond.instanceMethod yX3_whyNot ∈ lw_tbl := List.mem_append_right _ (List.mem_append_right _ (List.mem_append_left _ (List.mem_of_getElem? (i := 214) rfl)))
theorem tw_382 : Cond.selects RX3 yX3_whyNot yX3_whyNot ∈ lw_tbl := List.mem_append_right _ (List.mem_append_right _ (List.mem_append_left _ (List.mem_of_getElem? (i := 215) rfl)))
theorem tw_383 : Cond.code yX3_whyNot cX3_whyNot 4 (some .int) ∈ lw_tbl := List.mem_append_right _ (List.mem_append_right _ (List.mem_append_left _ (List.mem_of_getElem? (i := 216) rfl)))
theorem lf_wsL_law_r16 : ∀ w ∈ wsL_law_r16, w ∈ lw_tbl := by
  intro w hw
  simp only [wsL_law_r16, List.mem_cons, List.not_mem_nil, or_false] at hw
  rcases hw with rfl | rfl | rfl | rfl | rfl | rfl | rfl | rfl | rfl | rfl | rfl | rfl | rfl | rfl | rfl | rfl | rfl | rfl | rfl | rfl | rfl | rfl | rfl | rfl
  · exact tw_360
  · exact tw_361
  · exact tw_362
  · exact tw_363
  · exact tw_364
  · exact tw_365
  · exact tw_366
  · exact tw_367
  · exact tw_368
  · exact tw_369
  · exact tw_370
  · exact tw_371
  · exact tw_372
  · exact tw_373
  · exact tw_374
  · exact tw_375
  · exact tw_376
  · exact tw_377
  · exact tw_378
  · exact tw_379
  · exact tw_380
  · exact tw_381
  · exact tw_382
  · exact tw_383
theorem tw_384 : Cond.methodLink RX3 58 yX3_waitsFor ∈ lw_tbl := List.mem_append_right _ (List.mem_append_right _ (List.mem_append_left _ (List.mem_of_getElem? (i := 217) rfl)))
theorem tw_385 : Cond.instanceMethod yX3_waitsFor ∈ lw_tbl := List.mem_append_right _ (List.mem_append_right _ (List.mem_append_left _ (List.mem_of_getElem? (i := 219) rfl)))
theorem tw_386 : Cond.selects RX3 yX3_waitsFor yX3_waitsFor ∈ lw_tbl := List.mem_append_left _ (List.mem_of_getElem? (i := 5) rfl)
theorem tw_387 : Cond.code yX3_waitsFor cX3_waitsFor 4 (some .int) ∈ lw_tbl := List.mem_append_right _ (List.mem_append_right _ (List.mem_append_left _ (List.mem_of_getElem? (i := 220) rfl)))
theorem tw_388 : Cond.methodLink RX1 62 yX1_tellPart ∈ lw_tbl := List.mem_append_right _ (List.mem_append_right _ (List.mem_append_left _ (List.mem_of_getElem? (i := 221) rfl)))
theorem tw_389 : Cond.instanceMethod yX1_tellPart ∈ lw_tbl := List.mem_append_right _ (List.mem_append_right _ (List.mem_append_left _ (List.mem_of_getElem? (i := 223) rfl)))
theorem tw_390 : Cond.selects RX1 yX1_tellPart yX1_tellPart ∈ lw_tbl := List.mem_append_left _ (List.mem_of_getElem? (i := 6) rfl)
theorem tw_391 : Cond.code yX1_tellPart cX1_tellPart 3 none ∈ lw_tbl := List.mem_append_right _ (List.mem_append_right _ (List.mem_append_left _ (List.mem_of_getElem? (i := 224) rfl)))
theorem tw_392 : Cond.methodLink RX1 73 Lib.Math.max.name ∈ lw_tbl := List.mem_append_right _ (List.mem_append_right _ (List.mem_append_left _ (List.mem_of_getElem? (i := 235) rfl)))
theorem tw_393 : Cond.static Lib.Math.max.name ∈ lw_tbl := List.mem_append_right _ (List.mem_append_right _ (List.mem_append_left _ (List.mem_of_getElem? (i := 236) rfl)))
theorem tw_394 : Cond.initialized "java/lang/Math" ∈ lw_tbl := List.mem_append_right _ (List.mem_append_left _ (List.mem_of_getElem? (i := 13) rfl))
theorem tw_395 : Cond.code Lib.Math.max.name Lib.Math.max.code 2 (some .int) ∈ lw_tbl := List.mem_append_right _ (List.mem_append_right _ (List.mem_append_left _ (List.mem_of_getElem? (i := 237) rfl)))
theorem tw_396 : Cond.methodLink RX1 70 yX3_deepWith ∈ lw_tbl := List.mem_append_right _ (List.mem_append_right _ (List.mem_append_left _ (List.mem_of_getElem? (i := 225) rfl)))
theorem tw_397 : Cond.instanceMethod yX3_deepWith ∈ lw_tbl := List.mem_append_right _ (List.mem_append_right _ (List.mem_append_left _ (List.mem_of_getElem? (i := 226) rfl)))
theorem tw_398 : Cond.selects RX3 yX3_deepWith yX3_deepWith ∈ lw_tbl := List.mem_append_right _ (List.mem_append_right _ (List.mem_append_left _ (List.mem_of_getElem? (i := 227) rfl)))
theorem tw_399 : Cond.code yX3_deepWith cX3_deepWith 2 (some .int) ∈ lw_tbl := List.mem_append_right _ (List.mem_append_right _ (List.mem_append_left _ (List.mem_of_getElem? (i := 228) rfl)))
theorem tw_400 : Cond.methodLink RX3 64 yJ6_bitCount_0f7a4 ∈ lw_tbl := List.mem_append_right _ (List.mem_append_right _ (List.mem_append_left _ (List.mem_of_getElem? (i := 229) rfl)))
theorem tw_401 : Cond.static yJ6_bitCount_0f7a4 ∈ lw_tbl := List.mem_append_right _ (List.mem_append_right _ (List.mem_append_left _ (List.mem_of_getElem? (i := 230) rfl)))
theorem tw_402 : Cond.initialized RJ6 ∈ lw_tbl := List.mem_append_right _ (List.mem_append_left _ (List.mem_of_getElem? (i := 12) rfl))
theorem tw_403 : Cond.code yJ6_bitCount_0f7a4 cJ6_bitCount_0f7a4 1 (some .int) ∈ lw_tbl := List.mem_append_right _ (List.mem_append_right _ (List.mem_append_left _ (List.mem_of_getElem? (i := 231) rfl)))
theorem tw_404 : Cond.constant RJ6 265 (1431655765) ∈ lw_tbl := List.mem_append_right _ (List.mem_append_right _ (List.mem_append_left _ (List.mem_of_getElem? (i := 232) rfl)))
theorem tw_405 : Cond.constant RJ6 266 (858993459) ∈ lw_tbl := List.mem_append_right _ (List.mem_append_right _ (List.mem_append_left _ (List.mem_of_getElem? (i := 233) rfl)))
theorem tw_406 : Cond.constant RJ6 267 (252645135) ∈ lw_tbl := List.mem_append_right _ (List.mem_append_right _ (List.mem_append_left _ (List.mem_of_getElem? (i := 234) rfl)))
theorem tw_407 : Cond.methodLink RX1 81 yX3_partsTold ∈ lw_tbl := List.mem_append_right _ (List.mem_append_right _ (List.mem_append_left _ (List.mem_of_getElem? (i := 238) rfl)))
theorem lf_wsL_law_r17 : ∀ w ∈ wsL_law_r17, w ∈ lw_tbl := by
  intro w hw
  simp only [wsL_law_r17, List.mem_cons, List.not_mem_nil, or_false] at hw
  rcases hw with rfl | rfl | rfl | rfl | rfl | rfl | rfl | rfl | rfl | rfl | rfl | rfl | rfl | rfl | rfl | rfl | rfl | rfl | rfl | rfl | rfl | rfl | rfl | rfl
  · exact tw_384
  · exact tw_385
  · exact tw_386
  · exact tw_387
  · exact tw_388
  · exact tw_389
  · exact tw_390
  · exact tw_391
  · exact tw_392
  · exact tw_393
  · exact tw_394
  · exact tw_395
  · exact tw_396
  · exact tw_397
  · exact tw_398
  · exact tw_399
  · exact tw_400
  · exact tw_401
  · exact tw_402
  · exact tw_403
  · exact tw_404
  · exact tw_405
  · exact tw_406
  · exact tw_407
theorem tw_408 : Cond.methodLink RX1 84 yX0_minutesAt ∈ lw_tbl := List.mem_append_right _ (List.mem_append_right _ (List.mem_append_left _ (List.mem_of_getElem? (i := 239) rfl)))
theorem tw_409 : Cond.methodLink RX1 96 yX3_after ∈ lw_tbl := List.mem_append_right _ (List.mem_append_right _ (List.mem_append_right _ (List.mem_append_left _ (List.mem_of_getElem? (i := 0) rfl))))
theorem tw_410 : Cond.instanceMethod yX3_after ∈ lw_tbl := List.mem_append_right _ (List.mem_append_right _ (List.mem_append_right _ (List.mem_append_left _ (List.mem_of_getElem? (i := 1) rfl))))
theorem tw_411 : Cond.selects RX3 yX3_after yX3_after ∈ lw_tbl := List.mem_append_right _ (List.mem_append_right _ (List.mem_append_right _ (List.mem_append_left _ (List.mem_of_getElem? (i := 2) rfl))))
theorem tw_412 : Cond.code yX3_after cX3_after 4 (some .int) ∈ lw_tbl := List.mem_append_right _ (List.mem_append_right _ (List.mem_append_right _ (List.mem_append_left _ (List.mem_of_getElem? (i := 3) rfl))))
theorem tw_413 : Cond.methodLink RX3 70 yX3_rowAfter ∈ lw_tbl := List.mem_append_right _ (List.mem_append_right _ (List.mem_append_right _ (List.mem_append_left _ (List.mem_of_getElem? (i := 4) rfl))))
theorem tw_414 : Cond.instanceMethod yX3_rowAfter ∈ lw_tbl := List.mem_append_right _ (List.mem_append_right _ (List.mem_append_right _ (List.mem_append_left _ (List.mem_of_getElem? (i := 6) rfl))))
theorem tw_415 : Cond.selects RX3 yX3_rowAfter yX3_rowAfter ∈ lw_tbl := List.mem_append_left _ (List.mem_of_getElem? (i := 7) rfl)
theorem tw_416 : Cond.code yX3_rowAfter cX3_rowAfter 6 (some .int) ∈ lw_tbl := List.mem_append_right _ (List.mem_append_right _ (List.mem_append_right _ (List.mem_append_left _ (List.mem_of_getElem? (i := 7) rfl))))
theorem tw_417 : Cond.methodLink RL 60 yX10_judge ∈ lw_tbl := List.mem_append_right _ (List.mem_append_right _ (List.mem_append_right _ (List.mem_append_right _ (List.mem_append_left _ (List.mem_of_getElem? (i := 192) rfl)))))
theorem tw_418 : Cond.instanceMethod yX10_judge ∈ lw_tbl := List.mem_append_right _ (List.mem_append_right _ (List.mem_append_right _ (List.mem_append_right _ (List.mem_append_left _ (List.mem_of_getElem? (i := 193) rfl)))))
theorem tw_419 : Cond.selects RX10 yX10_judge yX10_judge ∈ lw_tbl := List.mem_append_right _ (List.mem_append_right _ (List.mem_append_right _ (List.mem_append_right _ (List.mem_append_left _ (List.mem_of_getElem? (i := 194) rfl)))))
theorem tw_420 : Cond.code yX10_judge cX10_judge 2 (some .int) ∈ lw_tbl := List.mem_append_right _ (List.mem_append_right _ (List.mem_append_right _ (List.mem_append_right _ (List.mem_append_left _ (List.mem_of_getElem? (i := 195) rfl)))))
theorem tw_421 : Cond.fieldLink RX10 175 "StoryNestModel" "badPlace" "I" ∈ lw_tbl := List.mem_append_right _ (List.mem_append_right _ (List.mem_append_right _ (List.mem_append_right _ (List.mem_append_left _ (List.mem_of_getElem? (i := 49) rfl)))))
theorem tw_422 : Cond.fieldLink RX10 178 "StoryNestModel" "badWhy" "I" ∈ lw_tbl := List.mem_append_right _ (List.mem_append_right _ (List.mem_append_right _ (List.mem_append_right _ (List.mem_append_left _ (List.mem_of_getElem? (i := 50) rfl)))))
theorem tw_423 : Cond.methodLink RX10 197 yX10_fault ∈ lw_tbl := List.mem_append_right _ (List.mem_append_right _ (List.mem_append_right _ (List.mem_append_right _ (List.mem_append_left _ (List.mem_of_getElem? (i := 196) rfl)))))
theorem tw_424 : Cond.methodLink RX10 200 yX10_goEvening ∈ lw_tbl := List.mem_append_right _ (List.mem_append_right _ (List.mem_append_right _ (List.mem_append_right _ (List.mem_append_left _ (List.mem_of_getElem? (i := 197) rfl)))))
theorem tw_425 : Cond.instanceMethod yX10_goEvening ∈ lw_tbl := List.mem_append_right _ (List.mem_append_right _ (List.mem_append_right _ (List.mem_append_right _ (List.mem_append_left _ (List.mem_of_getElem? (i := 199) rfl)))))
theorem tw_426 : Cond.selects RX10 yX10_goEvening yX10_goEvening ∈ lw_tbl := List.mem_append_left _ (List.mem_of_getElem? (i := 29) rfl)
theorem tw_427 : Cond.code yX10_goEvening cX10_goEvening 6 none ∈ lw_tbl := List.mem_append_right _ (List.mem_append_right _ (List.mem_append_right _ (List.mem_append_right _ (List.mem_append_left _ (List.mem_of_getElem? (i := 200) rfl)))))
theorem tw_428 : Cond.fieldLink RX10 181 "StoryNestModel" "deepest" "I" ∈ lw_tbl := List.mem_append_right _ (List.mem_append_right _ (List.mem_append_right _ (List.mem_append_right _ (List.mem_append_left _ (List.mem_of_getElem? (i := 51) rfl)))))
theorem tw_429 : Cond.fieldLink RX10 184 "StoryNestModel" "took" "I" ∈ lw_tbl := List.mem_append_right _ (List.mem_append_right _ (List.mem_append_right _ (List.mem_append_right _ (List.mem_append_left _ (List.mem_of_getElem? (i := 52) rfl)))))
theorem tw_430 : Cond.methodLink RX10 172 yX10_lay ∈ lw_tbl := List.mem_append_right _ (List.mem_append_right _ (List.mem_append_right _ (List.mem_append_right _ (List.mem_append_left _ (List.mem_of_getElem? (i := 201) rfl)))))
theorem tw_431 : Cond.instanceMethod yX10_lay ∈ lw_tbl := List.mem_append_right _ (List.mem_append_right _ (List.mem_append_right _ (List.mem_append_right _ (List.mem_append_left _ (List.mem_of_getElem? (i := 203) rfl)))))
theorem lf_wsL_law_r18 : ∀ w ∈ wsL_law_r18, w ∈ lw_tbl := by
  intro w hw
  simp only [wsL_law_r18, List.mem_cons, List.not_mem_nil, or_false] at hw
  rcases hw with rfl | rfl | rfl | rfl | rfl | rfl | rfl | rfl | rfl | rfl | rfl | rfl | rfl | rfl | rfl | rfl | rfl | rfl | rfl | rfl | rfl | rfl | rfl | rfl
  · exact tw_408
  · exact tw_409
  · exact tw_410
  · exact tw_411
  · exact tw_412
  · exact tw_413
  · exact tw_414
  · exact tw_415
  · exact tw_416
  · exact tw_417
  · exact tw_418
  · exact tw_419
  · exact tw_420
  · exact tw_421
  · exact tw_422
  · exact tw_423
  · exact tw_424
  · exact tw_425
  · exact tw_426
  · exact tw_427
  · exact tw_428
  · exact tw_429
  · exact tw_430
  · exact tw_431
theorem tw_432 : Cond.selects RX10 yX10_lay yX10_lay ∈ lw_tbl := List.mem_append_left _ (List.mem_of_getElem? (i := 30) rfl)
theorem tw_433 : Cond.code yX10_lay cX10_lay 2 none ∈ lw_tbl := List.mem_append_right _ (List.mem_append_right _ (List.mem_append_right _ (List.mem_append_right _ (List.mem_append_left _ (List.mem_of_getElem? (i := 204) rfl)))))
theorem tw_434 : Cond.fieldLink RX10 134 "StoryNestModel" "open" "I" ∈ lw_tbl := List.mem_append_right _ (List.mem_append_right _ (List.mem_append_right _ (List.mem_append_right _ (List.mem_append_left _ (List.mem_of_getElem? (i := 48) rfl)))))
theorem tw_435 : Cond.methodLink RX10 130 yX10_layTold ∈ lw_tbl := List.mem_append_right _ (List.mem_append_right _ (List.mem_append_right _ (List.mem_append_right _ (List.mem_append_left _ (List.mem_of_getElem? (i := 205) rfl)))))
theorem tw_436 : Cond.instanceMethod yX10_layTold ∈ lw_tbl := List.mem_append_right _ (List.mem_append_right _ (List.mem_append_right _ (List.mem_append_right _ (List.mem_append_left _ (List.mem_of_getElem? (i := 207) rfl)))))
theorem tw_437 : Cond.selects RX10 yX10_layTold yX10_layTold ∈ lw_tbl := List.mem_append_left _ (List.mem_of_getElem? (i := 31) rfl)
theorem tw_438 : Cond.code yX10_layTold cX10_layTold 4 none ∈ lw_tbl := List.mem_append_right _ (List.mem_append_right _ (List.mem_append_right _ (List.mem_append_right _ (List.mem_append_left _ (List.mem_of_getElem? (i := 208) rfl)))))
theorem tw_439 : Cond.methodLink RX10 187 yX10_why ∈ lw_tbl := List.mem_append_right _ (List.mem_append_right _ (List.mem_append_right _ (List.mem_append_right _ (List.mem_append_left _ (List.mem_of_getElem? (i := 209) rfl)))))
theorem tw_440 : Cond.instanceMethod yX10_why ∈ lw_tbl := List.mem_append_right _ (List.mem_append_right _ (List.mem_append_right _ (List.mem_append_right _ (List.mem_append_left _ (List.mem_of_getElem? (i := 211) rfl)))))
theorem tw_441 : Cond.selects RX10 yX10_why yX10_why ∈ lw_tbl := List.mem_append_left _ (List.mem_of_getElem? (i := 32) rfl)
theorem tw_442 : Cond.code yX10_why cX10_why 5 (some .int) ∈ lw_tbl := List.mem_append_right _ (List.mem_append_right _ (List.mem_append_right _ (List.mem_append_right _ (List.mem_append_left _ (List.mem_of_getElem? (i := 212) rfl)))))
theorem tw_443 : Cond.methodLink RX10 149 yX10_isOut ∈ lw_tbl := List.mem_append_right _ (List.mem_append_right _ (List.mem_append_right _ (List.mem_append_right _ (List.mem_append_left _ (List.mem_of_getElem? (i := 213) rfl)))))
theorem tw_444 : Cond.instanceMethod yX10_isOut ∈ lw_tbl := List.mem_append_right _ (List.mem_append_right _ (List.mem_append_right _ (List.mem_append_right _ (List.mem_append_left _ (List.mem_of_getElem? (i := 215) rfl)))))
theorem tw_445 : Cond.selects RX10 yX10_isOut yX10_isOut ∈ lw_tbl := List.mem_append_left _ (List.mem_of_getElem? (i := 33) rfl)
theorem tw_446 : Cond.code yX10_isOut cX10_isOut 2 (some .boolean) ∈ lw_tbl := List.mem_append_right _ (List.mem_append_right _ (List.mem_append_right _ (List.mem_append_right _ (List.mem_append_left _ (List.mem_of_getElem? (i := 216) rfl)))))
theorem tw_447 : Cond.methodLink RX10 140 yX10_lastOf ∈ lw_tbl := List.mem_append_right _ (List.mem_append_right _ (List.mem_append_right _ (List.mem_append_right _ (List.mem_append_left _ (List.mem_of_getElem? (i := 217) rfl)))))
theorem tw_448 : Cond.static yX10_lastOf ∈ lw_tbl := List.mem_append_right _ (List.mem_append_right _ (List.mem_append_right _ (List.mem_append_right _ (List.mem_append_left _ (List.mem_of_getElem? (i := 218) rfl)))))
theorem tw_449 : Cond.code yX10_lastOf cX10_lastOf 3 (some .int) ∈ lw_tbl := List.mem_append_right _ (List.mem_append_right _ (List.mem_append_right _ (List.mem_append_right _ (List.mem_append_left _ (List.mem_of_getElem? (i := 219) rfl)))))
theorem tw_450 : Cond.methodLink RX10 152 yX10_isWaiting ∈ lw_tbl := List.mem_append_right _ (List.mem_append_right _ (List.mem_append_right _ (List.mem_append_right _ (List.mem_append_left _ (List.mem_of_getElem? (i := 220) rfl)))))
theorem tw_451 : Cond.instanceMethod yX10_isWaiting ∈ lw_tbl := List.mem_append_right _ (List.mem_append_right _ (List.mem_append_right _ (List.mem_append_right _ (List.mem_append_left _ (List.mem_of_getElem? (i := 222) rfl)))))
theorem tw_452 : Cond.selects RX10 yX10_isWaiting yX10_isWaiting ∈ lw_tbl := List.mem_append_left _ (List.mem_of_getElem? (i := 34) rfl)
theorem tw_453 : Cond.code yX10_isWaiting cX10_isWaiting 7 (some .boolean) ∈ lw_tbl := List.mem_append_right _ (List.mem_append_right _ (List.mem_append_right _ (List.mem_append_right _ (List.mem_append_left _ (List.mem_of_getElem? (i := 223) rfl)))))
theorem tw_454 : Cond.methodLink RX10 156 yX10_mayBegin ∈ lw_tbl := List.mem_append_right _ (List.mem_append_right _ (List.mem_append_right _ (List.mem_append_right _ (List.mem_append_left _ (List.mem_of_getElem? (i := 224) rfl)))))
theorem tw_455 : Cond.instanceMethod yX10_mayBegin ∈ lw_tbl := List.mem_append_right _ (List.mem_append_right _ (List.mem_append_right _ (List.mem_append_right _ (List.mem_append_left _ (List.mem_of_getElem? (i := 226) rfl)))))
theorem lf_wsL_law_r19 : ∀ w ∈ wsL_law_r19, w ∈ lw_tbl := by
  intro w hw
  simp only [wsL_law_r19, List.mem_cons, List.not_mem_nil, or_false] at hw
  rcases hw with rfl | rfl | rfl | rfl | rfl | rfl | rfl | rfl | rfl | rfl | rfl | rfl | rfl | rfl | rfl | rfl | rfl | rfl | rfl | rfl | rfl | rfl | rfl | rfl
  · exact tw_432
  · exact tw_433
  · exact tw_434
  · exact tw_435
  · exact tw_436
  · exact tw_437
  · exact tw_438
  · exact tw_439
  · exact tw_440
  · exact tw_441
  · exact tw_442
  · exact tw_443
  · exact tw_444
  · exact tw_445
  · exact tw_446
  · exact tw_447
  · exact tw_448
  · exact tw_449
  · exact tw_450
  · exact tw_451
  · exact tw_452
  · exact tw_453
  · exact tw_454
  · exact tw_455
theorem tw_456 : Cond.selects RX10 yX10_mayBegin yX10_mayBegin ∈ lw_tbl := List.mem_append_left _ (List.mem_of_getElem? (i := 35) rfl)
theorem tw_457 : Cond.code yX10_mayBegin cX10_mayBegin 4 (some .boolean) ∈ lw_tbl := List.mem_append_right _ (List.mem_append_right _ (List.mem_append_right _ (List.mem_append_right _ (List.mem_append_left _ (List.mem_of_getElem? (i := 227) rfl)))))
theorem tw_458 : Cond.methodLink RX10 143 yX10_isAtGate ∈ lw_tbl := List.mem_append_right _ (List.mem_append_right _ (List.mem_append_right _ (List.mem_append_right _ (List.mem_append_left _ (List.mem_of_getElem? (i := 228) rfl)))))
theorem tw_459 : Cond.instanceMethod yX10_isAtGate ∈ lw_tbl := List.mem_append_right _ (List.mem_append_right _ (List.mem_append_right _ (List.mem_append_right _ (List.mem_append_left _ (List.mem_of_getElem? (i := 230) rfl)))))
theorem tw_460 : Cond.selects RX10 yX10_isAtGate yX10_isAtGate ∈ lw_tbl := List.mem_append_left _ (List.mem_of_getElem? (i := 36) rfl)
theorem tw_461 : Cond.code yX10_isAtGate cX10_isAtGate 2 (some .boolean) ∈ lw_tbl := List.mem_append_right _ (List.mem_append_right _ (List.mem_append_right _ (List.mem_append_right _ (List.mem_append_left _ (List.mem_of_getElem? (i := 231) rfl)))))
theorem tw_462 : Cond.methodLink RX10 146 yX10_setOf ∈ lw_tbl := List.mem_append_right _ (List.mem_append_right _ (List.mem_append_right _ (List.mem_append_right _ (List.mem_append_left _ (List.mem_of_getElem? (i := 232) rfl)))))
theorem tw_463 : Cond.static yX10_setOf ∈ lw_tbl := List.mem_append_right _ (List.mem_append_right _ (List.mem_append_right _ (List.mem_append_right _ (List.mem_append_left _ (List.mem_of_getElem? (i := 233) rfl)))))
theorem tw_464 : Cond.code yX10_setOf cX10_setOf 3 (some .int) ∈ lw_tbl := List.mem_append_right _ (List.mem_append_right _ (List.mem_append_right _ (List.mem_append_right _ (List.mem_append_left _ (List.mem_of_getElem? (i := 234) rfl)))))
theorem tw_465 : Cond.methodLink RX10 160 yX10_hasOpen ∈ lw_tbl := List.mem_append_right _ (List.mem_append_right _ (List.mem_append_right _ (List.mem_append_right _ (List.mem_append_left _ (List.mem_of_getElem? (i := 235) rfl)))))
theorem tw_466 : Cond.instanceMethod yX10_hasOpen ∈ lw_tbl := List.mem_append_right _ (List.mem_append_right _ (List.mem_append_right _ (List.mem_append_right _ (List.mem_append_left _ (List.mem_of_getElem? (i := 237) rfl)))))
theorem tw_467 : Cond.selects RX10 yX10_hasOpen yX10_hasOpen ∈ lw_tbl := List.mem_append_left _ (List.mem_of_getElem? (i := 37) rfl)
theorem tw_468 : Cond.code yX10_hasOpen cX10_hasOpen 5 (some .boolean) ∈ lw_tbl := List.mem_append_right _ (List.mem_append_right _ (List.mem_append_right _ (List.mem_append_right _ (List.mem_append_left _ (List.mem_of_getElem? (i := 238) rfl)))))
theorem tw_469 : Cond.methodLink RX10 191 yX10_partMinutes ∈ lw_tbl := List.mem_append_right _ (List.mem_append_right _ (List.mem_append_right _ (List.mem_append_right _ (List.mem_append_left _ (List.mem_of_getElem? (i := 239) rfl)))))
theorem tw_470 : Cond.instanceMethod yX10_partMinutes ∈ lw_tbl := List.mem_append_right _ (List.mem_append_right _ (List.mem_append_right _ (List.mem_append_right _ (List.mem_append_right _ (List.mem_of_getElem? (i := 1) rfl)))))
theorem tw_471 : Cond.selects RX10 yX10_partMinutes yX10_partMinutes ∈ lw_tbl := List.mem_append_left _ (List.mem_of_getElem? (i := 38) rfl)
theorem tw_472 : Cond.code yX10_partMinutes cX10_partMinutes 2 (some .int) ∈ lw_tbl := List.mem_append_right _ (List.mem_append_right _ (List.mem_append_right _ (List.mem_append_right _ (List.mem_append_right _ (List.mem_of_getElem? (i := 2) rfl)))))
theorem tw_473 : Cond.methodLink RX10 194 yX10_tell ∈ lw_tbl := List.mem_append_right _ (List.mem_append_right _ (List.mem_append_right _ (List.mem_append_right _ (List.mem_append_right _ (List.mem_of_getElem? (i := 3) rfl)))))
theorem tw_474 : Cond.instanceMethod yX10_tell ∈ lw_tbl := List.mem_append_right _ (List.mem_append_right _ (List.mem_append_right _ (List.mem_append_right _ (List.mem_append_right _ (List.mem_of_getElem? (i := 5) rfl)))))
theorem tw_475 : Cond.selects RX10 yX10_tell yX10_tell ∈ lw_tbl := List.mem_append_left _ (List.mem_of_getElem? (i := 39) rfl)
theorem tw_476 : Cond.code yX10_tell cX10_tell 3 (some .int) ∈ lw_tbl := List.mem_append_right _ (List.mem_append_right _ (List.mem_append_right _ (List.mem_append_right _ (List.mem_append_right _ (List.mem_of_getElem? (i := 6) rfl)))))
theorem tw_477 : Cond.methodLink RX10 163 yX10_more ∈ lw_tbl := List.mem_append_right _ (List.mem_append_right _ (List.mem_append_right _ (List.mem_append_right _ (List.mem_append_right _ (List.mem_of_getElem? (i := 7) rfl)))))
theorem tw_478 : Cond.static yX10_more ∈ lw_tbl := List.mem_append_right _ (List.mem_append_right _ (List.mem_append_right _ (List.mem_append_right _ (List.mem_append_right _ (List.mem_of_getElem? (i := 8) rfl)))))
theorem tw_479 : Cond.code yX10_more cX10_more 3 (some .int) ∈ lw_tbl := List.mem_append_right _ (List.mem_append_right _ (List.mem_append_right _ (List.mem_append_right _ (List.mem_append_right _ (List.mem_of_getElem? (i := 9) rfl)))))
theorem lf_wsL_law_r20 : ∀ w ∈ wsL_law_r20, w ∈ lw_tbl := by
  intro w hw
  simp only [wsL_law_r20, List.mem_cons, List.not_mem_nil, or_false] at hw
  rcases hw with rfl | rfl | rfl | rfl | rfl | rfl | rfl | rfl | rfl | rfl | rfl | rfl | rfl | rfl | rfl | rfl | rfl | rfl | rfl | rfl | rfl | rfl | rfl | rfl
  · exact tw_456
  · exact tw_457
  · exact tw_458
  · exact tw_459
  · exact tw_460
  · exact tw_461
  · exact tw_462
  · exact tw_463
  · exact tw_464
  · exact tw_465
  · exact tw_466
  · exact tw_467
  · exact tw_468
  · exact tw_469
  · exact tw_470
  · exact tw_471
  · exact tw_472
  · exact tw_473
  · exact tw_474
  · exact tw_475
  · exact tw_476
  · exact tw_477
  · exact tw_478
  · exact tw_479
theorem tw_480 : Cond.methodLink RX10 166 yX10_ones ∈ lw_tbl := List.mem_append_right _ (List.mem_append_right _ (List.mem_append_right _ (List.mem_append_right _ (List.mem_append_right _ (List.mem_of_getElem? (i := 10) rfl)))))
theorem tw_481 : Cond.static yX10_ones ∈ lw_tbl := List.mem_append_right _ (List.mem_append_right _ (List.mem_append_right _ (List.mem_append_right _ (List.mem_append_right _ (List.mem_of_getElem? (i := 11) rfl)))))
theorem tw_482 : Cond.code yX10_ones cX10_ones 3 (some .int) ∈ lw_tbl := List.mem_append_right _ (List.mem_append_right _ (List.mem_append_right _ (List.mem_append_right _ (List.mem_append_right _ (List.mem_of_getElem? (i := 12) rfl)))))
theorem tw_483 : Cond.methodLink RX10 169 yX10_without ∈ lw_tbl := List.mem_append_right _ (List.mem_append_right _ (List.mem_append_right _ (List.mem_append_right _ (List.mem_append_right _ (List.mem_of_getElem? (i := 13) rfl)))))
theorem tw_484 : Cond.static yX10_without ∈ lw_tbl := List.mem_append_right _ (List.mem_append_right _ (List.mem_append_right _ (List.mem_append_right _ (List.mem_append_right _ (List.mem_of_getElem? (i := 14) rfl)))))
theorem tw_485 : Cond.code yX10_without cX10_without 5 (some .int) ∈ lw_tbl := List.mem_append_right _ (List.mem_append_right _ (List.mem_append_right _ (List.mem_append_right _ (List.mem_append_right _ (List.mem_of_getElem? (i := 15) rfl)))))
theorem tw_486 : Cond.methodLink RL 61 yX9_evening ∈ lw_tbl := List.mem_append_right _ (List.mem_append_right _ (List.mem_append_right _ (List.mem_append_left _ (List.mem_of_getElem? (i := 8) rfl))))
theorem tw_487 : Cond.instanceMethod yX9_evening ∈ lw_tbl := List.mem_append_right _ (List.mem_append_right _ (List.mem_append_right _ (List.mem_append_left _ (List.mem_of_getElem? (i := 9) rfl))))
theorem tw_488 : Cond.selects RX9 yX9_evening yX9_evening ∈ lw_tbl := List.mem_append_right _ (List.mem_append_right _ (List.mem_append_right _ (List.mem_append_left _ (List.mem_of_getElem? (i := 10) rfl))))
theorem tw_489 : Cond.code yX9_evening cX9_evening 3 (some .int) ∈ lw_tbl := List.mem_append_right _ (List.mem_append_right _ (List.mem_append_right _ (List.mem_append_left _ (List.mem_of_getElem? (i := 11) rfl))))
theorem tw_490 : Cond.methodLink RX9 164 yX9_refusedEvening ∈ lw_tbl := List.mem_append_right _ (List.mem_append_right _ (List.mem_append_right _ (List.mem_append_left _ (List.mem_of_getElem? (i := 12) rfl))))
theorem tw_491 : Cond.instanceMethod yX9_refusedEvening ∈ lw_tbl := List.mem_append_right _ (List.mem_append_right _ (List.mem_append_right _ (List.mem_append_left _ (List.mem_of_getElem? (i := 14) rfl))))
theorem tw_492 : Cond.selects RX9 yX9_refusedEvening yX9_refusedEvening ∈ lw_tbl := List.mem_append_left _ (List.mem_of_getElem? (i := 8) rfl)
theorem tw_493 : Cond.code yX9_refusedEvening cX9_refusedEvening 1 (some .int) ∈ lw_tbl := List.mem_append_right _ (List.mem_append_right _ (List.mem_append_right _ (List.mem_append_left _ (List.mem_of_getElem? (i := 15) rfl))))
theorem tw_494 : Cond.methodLink RL 64 yX10_evening ∈ lw_tbl := List.mem_append_right _ (List.mem_append_right _ (List.mem_append_right _ (List.mem_append_right _ (List.mem_append_right _ (List.mem_of_getElem? (i := 16) rfl)))))
theorem tw_495 : Cond.instanceMethod yX10_evening ∈ lw_tbl := List.mem_append_right _ (List.mem_append_right _ (List.mem_append_right _ (List.mem_append_right _ (List.mem_append_right _ (List.mem_of_getElem? (i := 17) rfl)))))
theorem tw_496 : Cond.selects RX10 yX10_evening yX10_evening ∈ lw_tbl := List.mem_append_right _ (List.mem_append_right _ (List.mem_append_right _ (List.mem_append_right _ (List.mem_append_right _ (List.mem_of_getElem? (i := 18) rfl)))))
theorem tw_497 : Cond.code yX10_evening cX10_evening 2 (some .int) ∈ lw_tbl := List.mem_append_right _ (List.mem_append_right _ (List.mem_append_right _ (List.mem_append_right _ (List.mem_append_right _ (List.mem_of_getElem? (i := 19) rfl)))))
theorem tw_498 : Cond.methodLink RL 65 yX9_ways ∈ lw_tbl := List.mem_append_right _ (List.mem_append_right _ (List.mem_append_right _ (List.mem_append_left _ (List.mem_of_getElem? (i := 16) rfl))))
theorem tw_499 : Cond.instanceMethod yX9_ways ∈ lw_tbl := List.mem_append_right _ (List.mem_append_right _ (List.mem_append_right _ (List.mem_append_left _ (List.mem_of_getElem? (i := 17) rfl))))
theorem tw_500 : Cond.selects RX9 yX9_ways yX9_ways ∈ lw_tbl := List.mem_append_right _ (List.mem_append_right _ (List.mem_append_right _ (List.mem_append_left _ (List.mem_of_getElem? (i := 18) rfl))))
theorem tw_501 : Cond.code yX9_ways cX9_ways 3 (some .long) ∈ lw_tbl := List.mem_append_right _ (List.mem_append_right _ (List.mem_append_right _ (List.mem_append_left _ (List.mem_of_getElem? (i := 19) rfl))))
theorem tw_502 : Cond.constantLong RX9 182 (-2) ∈ lw_tbl := List.mem_append_right _ (List.mem_append_right _ (List.mem_append_right _ (List.mem_append_left _ (List.mem_of_getElem? (i := 26) rfl))))
theorem tw_503 : Cond.methodLink RX9 176 yX9_isSet ∈ lw_tbl := List.mem_append_right _ (List.mem_append_right _ (List.mem_append_right _ (List.mem_append_left _ (List.mem_of_getElem? (i := 20) rfl))))
theorem lf_wsL_law_r21 : ∀ w ∈ wsL_law_r21, w ∈ lw_tbl := by
  intro w hw
  simp only [wsL_law_r21, List.mem_cons, List.not_mem_nil, or_false] at hw
  rcases hw with rfl | rfl | rfl | rfl | rfl | rfl | rfl | rfl | rfl | rfl | rfl | rfl | rfl | rfl | rfl | rfl | rfl | rfl | rfl | rfl | rfl | rfl | rfl | rfl
  · exact tw_480
  · exact tw_481
  · exact tw_482
  · exact tw_483
  · exact tw_484
  · exact tw_485
  · exact tw_486
  · exact tw_487
  · exact tw_488
  · exact tw_489
  · exact tw_490
  · exact tw_491
  · exact tw_492
  · exact tw_493
  · exact tw_494
  · exact tw_495
  · exact tw_496
  · exact tw_497
  · exact tw_498
  · exact tw_499
  · exact tw_500
  · exact tw_501
  · exact tw_502
  · exact tw_503
theorem tw_504 : Cond.static yX9_isSet ∈ lw_tbl := List.mem_append_right _ (List.mem_append_right _ (List.mem_append_right _ (List.mem_append_left _ (List.mem_of_getElem? (i := 21) rfl))))
theorem tw_505 : Cond.code yX9_isSet cX9_isSet 1 (some .boolean) ∈ lw_tbl := List.mem_append_right _ (List.mem_append_right _ (List.mem_append_right _ (List.mem_append_left _ (List.mem_of_getElem? (i := 22) rfl))))
theorem tw_506 : Cond.methodLink RX9 179 yX9_isDeep ∈ lw_tbl := List.mem_append_right _ (List.mem_append_right _ (List.mem_append_right _ (List.mem_append_left _ (List.mem_of_getElem? (i := 23) rfl))))
theorem tw_507 : Cond.static yX9_isDeep ∈ lw_tbl := List.mem_append_right _ (List.mem_append_right _ (List.mem_append_right _ (List.mem_append_left _ (List.mem_of_getElem? (i := 24) rfl))))
theorem tw_508 : Cond.code yX9_isDeep cX9_isDeep 1 (some .boolean) ∈ lw_tbl := List.mem_append_right _ (List.mem_append_right _ (List.mem_append_right _ (List.mem_append_left _ (List.mem_of_getElem? (i := 25) rfl))))
theorem tw_509 : Cond.methodLink RX9 184 yX4_gather ∈ lw_tbl := List.mem_append_right _ (List.mem_append_right _ (List.mem_append_right _ (List.mem_append_left _ (List.mem_of_getElem? (i := 27) rfl))))
theorem tw_510 : Cond.instanceMethod yX4_gather ∈ lw_tbl := List.mem_append_right _ (List.mem_append_right _ (List.mem_append_right _ (List.mem_append_left _ (List.mem_of_getElem? (i := 28) rfl))))
theorem tw_511 : Cond.selects RX4 yX4_gather yX4_gather ∈ lw_tbl := List.mem_append_right _ (List.mem_append_right _ (List.mem_append_right _ (List.mem_append_left _ (List.mem_of_getElem? (i := 29) rfl))))
theorem tw_512 : Cond.code yX4_gather cX4_gather 4 none ∈ lw_tbl := List.mem_append_right _ (List.mem_append_right _ (List.mem_append_right _ (List.mem_append_left _ (List.mem_of_getElem? (i := 30) rfl))))
theorem tw_513 : Cond.fieldLink RX4 42 "StoryNest$Nights" "deep" "I" ∈ lw_tbl := List.mem_append_right _ (List.mem_append_left _ (List.mem_of_getElem? (i := 190) rfl))
theorem tw_514 : Cond.fieldLink RX4 52 "StoryNest$Nights" "size" "I" ∈ lw_tbl := List.mem_append_right _ (List.mem_append_left _ (List.mem_of_getElem? (i := 187) rfl))
theorem tw_515 : Cond.methodLink RX4 45 yX4_beginRound ∈ lw_tbl := List.mem_append_right _ (List.mem_append_right _ (List.mem_append_right _ (List.mem_append_left _ (List.mem_of_getElem? (i := 31) rfl))))
theorem tw_516 : Cond.instanceMethod yX4_beginRound ∈ lw_tbl := List.mem_append_right _ (List.mem_append_right _ (List.mem_append_right _ (List.mem_append_left _ (List.mem_of_getElem? (i := 33) rfl))))
theorem tw_517 : Cond.selects RX4 yX4_beginRound yX4_beginRound ∈ lw_tbl := List.mem_append_left _ (List.mem_of_getElem? (i := 9) rfl)
theorem tw_518 : Cond.code yX4_beginRound cX4_beginRound 2 none ∈ lw_tbl := List.mem_append_right _ (List.mem_append_right _ (List.mem_append_right _ (List.mem_append_left _ (List.mem_of_getElem? (i := 34) rfl))))
theorem tw_519 : Cond.fieldLink RX4 59 "StoryNest$Nights" "round" "I" ∈ lw_tbl := List.mem_append_right _ (List.mem_append_left _ (List.mem_of_getElem? (i := 183) rfl))
theorem tw_520 : Cond.constant RX4 62 (500000) ∈ lw_tbl := List.mem_append_right _ (List.mem_append_right _ (List.mem_append_right _ (List.mem_append_left _ (List.mem_of_getElem? (i := 35) rfl))))
theorem tw_521 : Cond.methodLink RX4 48 yX4_nodeOf ∈ lw_tbl := List.mem_append_right _ (List.mem_append_right _ (List.mem_append_right _ (List.mem_append_left _ (List.mem_of_getElem? (i := 36) rfl))))
theorem tw_522 : Cond.instanceMethod yX4_nodeOf ∈ lw_tbl := List.mem_append_right _ (List.mem_append_right _ (List.mem_append_right _ (List.mem_append_left _ (List.mem_of_getElem? (i := 38) rfl))))
theorem tw_523 : Cond.selects RX4 yX4_nodeOf yX4_nodeOf ∈ lw_tbl := List.mem_append_left _ (List.mem_of_getElem? (i := 10) rfl)
theorem tw_524 : Cond.code yX4_nodeOf cX4_nodeOf 6 (some .int) ∈ lw_tbl := List.mem_append_right _ (List.mem_append_right _ (List.mem_append_right _ (List.mem_append_left _ (List.mem_of_getElem? (i := 39) rfl))))
theorem tw_525 : Cond.constant RX4 80 (-1640531535) ∈ lw_tbl := List.mem_append_right _ (List.mem_append_right _ (List.mem_append_right _ (List.mem_append_left _ (List.mem_of_getElem? (i := 40) rfl))))
theorem tw_526 : Cond.methodLink RX4 81 yX4_addNode ∈ lw_tbl := List.mem_append_right _ (List.mem_append_right _ (List.mem_append_right _ (List.mem_append_left _ (List.mem_of_getElem? (i := 41) rfl))))
theorem tw_527 : Cond.instanceMethod yX4_addNode ∈ lw_tbl := List.mem_append_right _ (List.mem_append_right _ (List.mem_append_right _ (List.mem_append_left _ (List.mem_of_getElem? (i := 43) rfl))))
theorem lf_wsL_law_r22 : ∀ w ∈ wsL_law_r22, w ∈ lw_tbl := by
  intro w hw
  simp only [wsL_law_r22, List.mem_cons, List.not_mem_nil, or_false] at hw
  rcases hw with rfl | rfl | rfl | rfl | rfl | rfl | rfl | rfl | rfl | rfl | rfl | rfl | rfl | rfl | rfl | rfl | rfl | rfl | rfl | rfl | rfl | rfl | rfl | rfl
  · exact tw_504
  · exact tw_505
  · exact tw_506
  · exact tw_507
  · exact tw_508
  · exact tw_509
  · exact tw_510
  · exact tw_511
  · exact tw_512
  · exact tw_513
  · exact tw_514
  · exact tw_515
  · exact tw_516
  · exact tw_517
  · exact tw_518
  · exact tw_519
  · exact tw_520
  · exact tw_521
  · exact tw_522
  · exact tw_523
  · exact tw_524
  · exact tw_525
  · exact tw_526
  · exact tw_527
theorem tw_528 : Cond.selects RX4 yX4_addNode yX4_addNode ∈ lw_tbl := List.mem_append_left _ (List.mem_of_getElem? (i := 11) rfl)
theorem tw_529 : Cond.code yX4_addNode cX4_addNode 4 (some .int) ∈ lw_tbl := List.mem_append_right _ (List.mem_append_right _ (List.mem_append_right _ (List.mem_append_left _ (List.mem_of_getElem? (i := 44) rfl))))
theorem tw_530 : Cond.methodLink RX4 55 yX4_expand ∈ lw_tbl := List.mem_append_right _ (List.mem_append_right _ (List.mem_append_right _ (List.mem_append_left _ (List.mem_of_getElem? (i := 45) rfl))))
theorem tw_531 : Cond.instanceMethod yX4_expand ∈ lw_tbl := List.mem_append_right _ (List.mem_append_right _ (List.mem_append_right _ (List.mem_append_left _ (List.mem_of_getElem? (i := 47) rfl))))
theorem tw_532 : Cond.selects RX4 yX4_expand yX4_expand ∈ lw_tbl := List.mem_append_left _ (List.mem_of_getElem? (i := 12) rfl)
theorem tw_533 : Cond.code yX4_expand cX4_expand 3 none ∈ lw_tbl := List.mem_append_right _ (List.mem_append_right _ (List.mem_append_right _ (List.mem_append_left _ (List.mem_of_getElem? (i := 48) rfl))))
theorem tw_534 : Cond.methodLink RX4 63 yX3_look ∈ lw_tbl := List.mem_append_right _ (List.mem_append_right _ (List.mem_append_right _ (List.mem_append_left _ (List.mem_of_getElem? (i := 49) rfl))))
theorem tw_535 : Cond.methodLink RX4 66 yX4_canCome ∈ lw_tbl := List.mem_append_right _ (List.mem_append_right _ (List.mem_append_right _ (List.mem_append_left _ (List.mem_of_getElem? (i := 50) rfl))))
theorem tw_536 : Cond.instanceMethod yX4_canCome ∈ lw_tbl := List.mem_append_right _ (List.mem_append_right _ (List.mem_append_right _ (List.mem_append_left _ (List.mem_of_getElem? (i := 52) rfl))))
theorem tw_537 : Cond.selects RX4 yX4_canCome yX4_canCome ∈ lw_tbl := List.mem_append_left _ (List.mem_of_getElem? (i := 13) rfl)
theorem tw_538 : Cond.code yX4_canCome cX4_canCome 2 (some .boolean) ∈ lw_tbl := List.mem_append_right _ (List.mem_append_right _ (List.mem_append_right _ (List.mem_append_left _ (List.mem_of_getElem? (i := 53) rfl))))
theorem tw_539 : Cond.methodLink RX4 73 yX3_deepWith ∈ lw_tbl := List.mem_append_right _ (List.mem_append_right _ (List.mem_append_right _ (List.mem_append_left _ (List.mem_of_getElem? (i := 54) rfl))))
theorem tw_540 : Cond.methodLink RX4 76 yX3_whyNot ∈ lw_tbl := List.mem_append_right _ (List.mem_append_right _ (List.mem_append_right _ (List.mem_append_left _ (List.mem_of_getElem? (i := 55) rfl))))
theorem tw_541 : Cond.methodLink RX4 70 yX3_after ∈ lw_tbl := List.mem_append_right _ (List.mem_append_right _ (List.mem_append_right _ (List.mem_append_left _ (List.mem_of_getElem? (i := 56) rfl))))
theorem tw_542 : Cond.methodLink RX9 188 yX5_evenings ∈ lw_tbl := List.mem_append_right _ (List.mem_append_right _ (List.mem_append_right _ (List.mem_append_left _ (List.mem_of_getElem? (i := 57) rfl))))
theorem tw_543 : Cond.instanceMethod yX5_evenings ∈ lw_tbl := List.mem_append_right _ (List.mem_append_right _ (List.mem_append_right _ (List.mem_append_left _ (List.mem_of_getElem? (i := 58) rfl))))
theorem tw_544 : Cond.selects RX5 yX5_evenings yX5_evenings ∈ lw_tbl := List.mem_append_right _ (List.mem_append_right _ (List.mem_append_right _ (List.mem_append_left _ (List.mem_of_getElem? (i := 59) rfl))))
theorem tw_545 : Cond.code yX5_evenings cX5_evenings 6 (some .long) ∈ lw_tbl := List.mem_append_right _ (List.mem_append_right _ (List.mem_append_right _ (List.mem_append_left _ (List.mem_of_getElem? (i := 60) rfl))))
theorem tw_546 : Cond.methodLink RX5 33 yX4_isAllOut ∈ lw_tbl := List.mem_append_right _ (List.mem_append_right _ (List.mem_append_right _ (List.mem_append_left _ (List.mem_of_getElem? (i := 61) rfl))))
theorem tw_547 : Cond.instanceMethod yX4_isAllOut ∈ lw_tbl := List.mem_append_right _ (List.mem_append_right _ (List.mem_append_right _ (List.mem_append_left _ (List.mem_of_getElem? (i := 62) rfl))))
theorem tw_548 : Cond.selects RX4 yX4_isAllOut yX4_isAllOut ∈ lw_tbl := List.mem_append_right _ (List.mem_append_right _ (List.mem_append_right _ (List.mem_append_left _ (List.mem_of_getElem? (i := 63) rfl))))
theorem tw_549 : Cond.code yX4_isAllOut cX4_isAllOut 3 (some .boolean) ∈ lw_tbl := List.mem_append_right _ (List.mem_append_right _ (List.mem_append_right _ (List.mem_append_left _ (List.mem_of_getElem? (i := 64) rfl))))
theorem tw_550 : Cond.methodLink RX4 96 yX4_isOut ∈ lw_tbl := List.mem_append_right _ (List.mem_append_right _ (List.mem_append_right _ (List.mem_append_left _ (List.mem_of_getElem? (i := 65) rfl))))
theorem tw_551 : Cond.instanceMethod yX4_isOut ∈ lw_tbl := List.mem_append_right _ (List.mem_append_right _ (List.mem_append_right _ (List.mem_append_left _ (List.mem_of_getElem? (i := 66) rfl))))
theorem lf_wsL_law_r23 : ∀ w ∈ wsL_law_r23, w ∈ lw_tbl := by
  intro w hw
  simp only [wsL_law_r23, List.mem_cons, List.not_mem_nil, or_false] at hw
  rcases hw with rfl | rfl | rfl | rfl | rfl | rfl | rfl | rfl | rfl | rfl | rfl | rfl | rfl | rfl | rfl | rfl | rfl | rfl | rfl | rfl | rfl | rfl | rfl | rfl
  · exact tw_528
  · exact tw_529
  · exact tw_530
  · exact tw_531
  · exact tw_532
  · exact tw_533
  · exact tw_534
  · exact tw_535
  · exact tw_536
  · exact tw_537
  · exact tw_538
  · exact tw_539
  · exact tw_540
  · exact tw_541
  · exact tw_542
  · exact tw_543
  · exact tw_544
  · exact tw_545
  · exact tw_546
  · exact tw_547
  · exact tw_548
  · exact tw_549
  · exact tw_550
  · exact tw_551
theorem tw_552 : Cond.selects RX4 yX4_isOut yX4_isOut ∈ lw_tbl := List.mem_append_right _ (List.mem_append_right _ (List.mem_append_right _ (List.mem_append_left _ (List.mem_of_getElem? (i := 67) rfl))))
theorem tw_553 : Cond.code yX4_isOut cX4_isOut 3 (some .boolean) ∈ lw_tbl := List.mem_append_right _ (List.mem_append_right _ (List.mem_append_right _ (List.mem_append_left _ (List.mem_of_getElem? (i := 68) rfl))))
theorem tw_554 : Cond.methodLink RX4 88 yX3_partsTold ∈ lw_tbl := List.mem_append_right _ (List.mem_append_right _ (List.mem_append_right _ (List.mem_append_left _ (List.mem_of_getElem? (i := 69) rfl))))
theorem tw_555 : Cond.methodLink RX5 37 yX4_nodeAfter ∈ lw_tbl := List.mem_append_right _ (List.mem_append_right _ (List.mem_append_right _ (List.mem_append_left _ (List.mem_of_getElem? (i := 70) rfl))))
theorem tw_556 : Cond.instanceMethod yX4_nodeAfter ∈ lw_tbl := List.mem_append_right _ (List.mem_append_right _ (List.mem_append_right _ (List.mem_append_left _ (List.mem_of_getElem? (i := 71) rfl))))
theorem tw_557 : Cond.selects RX4 yX4_nodeAfter yX4_nodeAfter ∈ lw_tbl := List.mem_append_right _ (List.mem_append_right _ (List.mem_append_right _ (List.mem_append_left _ (List.mem_of_getElem? (i := 72) rfl))))
theorem tw_558 : Cond.code yX4_nodeAfter cX4_nodeAfter 4 (some .int) ∈ lw_tbl := List.mem_append_right _ (List.mem_append_right _ (List.mem_append_right _ (List.mem_append_left _ (List.mem_of_getElem? (i := 73) rfl))))
theorem tw_559 : Cond.methodLink RL 69 yX10_ways ∈ lw_tbl := List.mem_append_right _ (List.mem_append_right _ (List.mem_append_right _ (List.mem_append_right _ (List.mem_append_right _ (List.mem_of_getElem? (i := 20) rfl)))))
theorem tw_560 : Cond.instanceMethod yX10_ways ∈ lw_tbl := List.mem_append_right _ (List.mem_append_right _ (List.mem_append_right _ (List.mem_append_right _ (List.mem_append_right _ (List.mem_of_getElem? (i := 21) rfl)))))
theorem tw_561 : Cond.selects RX10 yX10_ways yX10_ways ∈ lw_tbl := List.mem_append_right _ (List.mem_append_right _ (List.mem_append_right _ (List.mem_append_right _ (List.mem_append_right _ (List.mem_of_getElem? (i := 22) rfl)))))
theorem tw_562 : Cond.code yX10_ways cX10_ways 3 (some .long) ∈ lw_tbl := List.mem_append_right _ (List.mem_append_right _ (List.mem_append_right _ (List.mem_append_right _ (List.mem_append_right _ (List.mem_of_getElem? (i := 23) rfl)))))
theorem tw_563 : Cond.constantLong RX10 226 (4) ∈ lw_tbl := List.mem_append_right _ (List.mem_append_right _ (List.mem_append_right _ (List.mem_append_right _ (List.mem_append_right _ (List.mem_of_getElem? (i := 27) rfl)))))
theorem tw_564 : Cond.constantLong RX10 228 (-2) ∈ lw_tbl := List.mem_append_right _ (List.mem_append_right _ (List.mem_append_right _ (List.mem_append_right _ (List.mem_append_right _ (List.mem_of_getElem? (i := 28) rfl)))))
theorem tw_565 : Cond.methodLink RX10 223 yX10_isSet ∈ lw_tbl := List.mem_append_right _ (List.mem_append_right _ (List.mem_append_right _ (List.mem_append_right _ (List.mem_append_right _ (List.mem_of_getElem? (i := 24) rfl)))))
theorem tw_566 : Cond.static yX10_isSet ∈ lw_tbl := List.mem_append_right _ (List.mem_append_right _ (List.mem_append_right _ (List.mem_append_right _ (List.mem_append_right _ (List.mem_of_getElem? (i := 25) rfl)))))
theorem tw_567 : Cond.code yX10_isSet cX10_isSet 1 (some .boolean) ∈ lw_tbl := List.mem_append_right _ (List.mem_append_right _ (List.mem_append_right _ (List.mem_append_right _ (List.mem_append_right _ (List.mem_of_getElem? (i := 26) rfl)))))
theorem tw_568 : Cond.methodLink RX10 230 yX10_findWays ∈ lw_tbl := List.mem_append_right _ (List.mem_append_right _ (List.mem_append_right _ (List.mem_append_right _ (List.mem_append_right _ (List.mem_of_getElem? (i := 29) rfl)))))
theorem tw_569 : Cond.instanceMethod yX10_findWays ∈ lw_tbl := List.mem_append_right _ (List.mem_append_right _ (List.mem_append_right _ (List.mem_append_right _ (List.mem_append_right _ (List.mem_of_getElem? (i := 31) rfl)))))
theorem tw_570 : Cond.selects RX10 yX10_findWays yX10_findWays ∈ lw_tbl := List.mem_append_left _ (List.mem_of_getElem? (i := 40) rfl)
theorem tw_571 : Cond.code yX10_findWays cX10_findWays 8 none ∈ lw_tbl := List.mem_append_right _ (List.mem_append_right _ (List.mem_append_right _ (List.mem_append_right _ (List.mem_append_right _ (List.mem_of_getElem? (i := 32) rfl)))))
theorem tw_572 : Cond.methodLink RX10 206 yX10_sumOf ∈ lw_tbl := List.mem_append_right _ (List.mem_append_right _ (List.mem_append_right _ (List.mem_append_right _ (List.mem_append_right _ (List.mem_of_getElem? (i := 33) rfl)))))
theorem tw_573 : Cond.static yX10_sumOf ∈ lw_tbl := List.mem_append_right _ (List.mem_append_right _ (List.mem_append_right _ (List.mem_append_right _ (List.mem_append_right _ (List.mem_of_getElem? (i := 34) rfl)))))
theorem tw_574 : Cond.code yX10_sumOf cX10_sumOf 1 (some .int) ∈ lw_tbl := List.mem_append_right _ (List.mem_append_right _ (List.mem_append_right _ (List.mem_append_right _ (List.mem_append_right _ (List.mem_of_getElem? (i := 35) rfl)))))
theorem tw_575 : Cond.methodLink RX10 209 yX10_waysOf ∈ lw_tbl := List.mem_append_right _ (List.mem_append_right _ (List.mem_append_right _ (List.mem_append_right _ (List.mem_append_right _ (List.mem_of_getElem? (i := 36) rfl)))))
theorem lf_wsL_law_r24 : ∀ w ∈ wsL_law_r24, w ∈ lw_tbl := by
  intro w hw
  simp only [wsL_law_r24, List.mem_cons, List.not_mem_nil, or_false] at hw
  rcases hw with rfl | rfl | rfl | rfl | rfl | rfl | rfl | rfl | rfl | rfl | rfl | rfl | rfl | rfl | rfl | rfl | rfl | rfl | rfl | rfl | rfl | rfl | rfl | rfl
  · exact tw_552
  · exact tw_553
  · exact tw_554
  · exact tw_555
  · exact tw_556
  · exact tw_557
  · exact tw_558
  · exact tw_559
  · exact tw_560
  · exact tw_561
  · exact tw_562
  · exact tw_563
  · exact tw_564
  · exact tw_565
  · exact tw_566
  · exact tw_567
  · exact tw_568
  · exact tw_569
  · exact tw_570
  · exact tw_571
  · exact tw_572
  · exact tw_573
  · exact tw_574
  · exact tw_575
theorem tw_576 : Cond.instanceMethod yX10_waysOf ∈ lw_tbl := List.mem_append_right _ (List.mem_append_right _ (List.mem_append_right _ (List.mem_append_right _ (List.mem_append_right _ (List.mem_of_getElem? (i := 38) rfl)))))
theorem tw_577 : Cond.selects RX10 yX10_waysOf yX10_waysOf ∈ lw_tbl := List.mem_append_left _ (List.mem_of_getElem? (i := 41) rfl)
theorem tw_578 : Cond.code yX10_waysOf cX10_waysOf 9 (some .long) ∈ lw_tbl := List.mem_append_right _ (List.mem_append_right _ (List.mem_append_right _ (List.mem_append_right _ (List.mem_append_right _ (List.mem_of_getElem? (i := 39) rfl)))))
theorem tw_579 : Cond.methodLink RX10 213 yX10_canBe ∈ lw_tbl := List.mem_append_right _ (List.mem_append_right _ (List.mem_append_right _ (List.mem_append_right _ (List.mem_append_right _ (List.mem_of_getElem? (i := 40) rfl)))))
theorem tw_580 : Cond.instanceMethod yX10_canBe ∈ lw_tbl := List.mem_append_right _ (List.mem_append_right _ (List.mem_append_right _ (List.mem_append_right _ (List.mem_append_right _ (List.mem_of_getElem? (i := 42) rfl)))))
theorem tw_581 : Cond.selects RX10 yX10_canBe yX10_canBe ∈ lw_tbl := List.mem_append_left _ (List.mem_of_getElem? (i := 42) rfl)
theorem tw_582 : Cond.code yX10_canBe cX10_canBe 5 (some .boolean) ∈ lw_tbl := List.mem_append_right _ (List.mem_append_right _ (List.mem_append_right _ (List.mem_append_right _ (List.mem_append_right _ (List.mem_of_getElem? (i := 43) rfl)))))
theorem tw_583 : Cond.methodLink RX10 216 yX10_isWhole ∈ lw_tbl := List.mem_append_right _ (List.mem_append_right _ (List.mem_append_right _ (List.mem_append_right _ (List.mem_append_right _ (List.mem_of_getElem? (i := 44) rfl)))))
theorem tw_584 : Cond.instanceMethod yX10_isWhole ∈ lw_tbl := List.mem_append_right _ (List.mem_append_right _ (List.mem_append_right _ (List.mem_append_right _ (List.mem_append_right _ (List.mem_of_getElem? (i := 46) rfl)))))
theorem tw_585 : Cond.selects RX10 yX10_isWhole yX10_isWhole ∈ lw_tbl := List.mem_append_left _ (List.mem_of_getElem? (i := 43) rfl)
theorem tw_586 : Cond.code yX10_isWhole cX10_isWhole 4 (some .boolean) ∈ lw_tbl := List.mem_append_right _ (List.mem_append_right _ (List.mem_append_right _ (List.mem_append_right _ (List.mem_append_right _ (List.mem_of_getElem? (i := 47) rfl)))))
theorem tw_587 : Cond.methodLink RX10 219 yX10_nextOf ∈ lw_tbl := List.mem_append_right _ (List.mem_append_right _ (List.mem_append_right _ (List.mem_append_right _ (List.mem_append_right _ (List.mem_of_getElem? (i := 48) rfl)))))
theorem tw_588 : Cond.instanceMethod yX10_nextOf ∈ lw_tbl := List.mem_append_right _ (List.mem_append_right _ (List.mem_append_right _ (List.mem_append_right _ (List.mem_append_right _ (List.mem_of_getElem? (i := 50) rfl)))))
theorem tw_589 : Cond.selects RX10 yX10_nextOf yX10_nextOf ∈ lw_tbl := List.mem_append_left _ (List.mem_of_getElem? (i := 44) rfl)
theorem tw_590 : Cond.code yX10_nextOf cX10_nextOf 6 (some .int) ∈ lw_tbl := List.mem_append_right _ (List.mem_append_right _ (List.mem_append_right _ (List.mem_append_right _ (List.mem_append_right _ (List.mem_of_getElem? (i := 51) rfl)))))
theorem tw_591 : Cond.methodLink RX10 203 yX10_standNow ∈ lw_tbl := List.mem_append_right _ (List.mem_append_right _ (List.mem_append_right _ (List.mem_append_right _ (List.mem_append_right _ (List.mem_of_getElem? (i := 52) rfl)))))
theorem tw_592 : Cond.instanceMethod yX10_standNow ∈ lw_tbl := List.mem_append_right _ (List.mem_append_right _ (List.mem_append_right _ (List.mem_append_right _ (List.mem_append_right _ (List.mem_of_getElem? (i := 54) rfl)))))
theorem tw_593 : Cond.selects RX10 yX10_standNow yX10_standNow ∈ lw_tbl := List.mem_append_left _ (List.mem_of_getElem? (i := 45) rfl)
theorem tw_594 : Cond.code yX10_standNow cX10_standNow 3 (some .int) ∈ lw_tbl := List.mem_append_right _ (List.mem_append_right _ (List.mem_append_right _ (List.mem_append_right _ (List.mem_append_right _ (List.mem_of_getElem? (i := 55) rfl)))))
theorem tw_595 : Cond.methodLink RX10 137 yX10_powerOf ∈ lw_tbl := List.mem_append_right _ (List.mem_append_right _ (List.mem_append_right _ (List.mem_append_right _ (List.mem_append_right _ (List.mem_of_getElem? (i := 56) rfl)))))
theorem tw_596 : Cond.static yX10_powerOf ∈ lw_tbl := List.mem_append_right _ (List.mem_append_right _ (List.mem_append_right _ (List.mem_append_right _ (List.mem_append_right _ (List.mem_of_getElem? (i := 57) rfl)))))
theorem tw_597 : Cond.code yX10_powerOf cX10_powerOf 1 (some .int) ∈ lw_tbl := List.mem_append_right _ (List.mem_append_right _ (List.mem_append_right _ (List.mem_append_right _ (List.mem_append_right _ (List.mem_of_getElem? (i := 58) rfl)))))
theorem tw_598 : Cond.methodLink RL 70 yX9_shortest ∈ lw_tbl := List.mem_append_right _ (List.mem_append_right _ (List.mem_append_right _ (List.mem_append_left _ (List.mem_of_getElem? (i := 75) rfl))))
theorem tw_599 : Cond.instanceMethod yX9_shortest ∈ lw_tbl := List.mem_append_right _ (List.mem_append_right _ (List.mem_append_right _ (List.mem_append_left _ (List.mem_of_getElem? (i := 76) rfl))))
theorem lf_wsL_law_r25 : ∀ w ∈ wsL_law_r25, w ∈ lw_tbl := by
  intro w hw
  simp only [wsL_law_r25, List.mem_cons, List.not_mem_nil, or_false] at hw
  rcases hw with rfl | rfl | rfl | rfl | rfl | rfl | rfl | rfl | rfl | rfl | rfl | rfl | rfl | rfl | rfl | rfl | rfl | rfl | rfl | rfl | rfl | rfl | rfl | rfl
  · exact tw_576
  · exact tw_577
  · exact tw_578
  · exact tw_579
  · exact tw_580
  · exact tw_581
  · exact tw_582
  · exact tw_583
  · exact tw_584
  · exact tw_585
  · exact tw_586
  · exact tw_587
  · exact tw_588
  · exact tw_589
  · exact tw_590
  · exact tw_591
  · exact tw_592
  · exact tw_593
  · exact tw_594
  · exact tw_595
  · exact tw_596
  · exact tw_597
  · exact tw_598
  · exact tw_599
theorem tw_600 : Cond.selects RX9 yX9_shortest yX9_shortest ∈ lw_tbl := List.mem_append_right _ (List.mem_append_right _ (List.mem_append_right _ (List.mem_append_left _ (List.mem_of_getElem? (i := 77) rfl))))
theorem tw_601 : Cond.code yX9_shortest cX9_shortest 4 (some .int) ∈ lw_tbl := List.mem_append_right _ (List.mem_append_right _ (List.mem_append_right _ (List.mem_append_left _ (List.mem_of_getElem? (i := 78) rfl))))
theorem tw_602 : Cond.methodLink RX9 192 yX5_leastMinutes ∈ lw_tbl := List.mem_append_right _ (List.mem_append_right _ (List.mem_append_right _ (List.mem_append_left _ (List.mem_of_getElem? (i := 79) rfl))))
theorem tw_603 : Cond.instanceMethod yX5_leastMinutes ∈ lw_tbl := List.mem_append_right _ (List.mem_append_right _ (List.mem_append_right _ (List.mem_append_left _ (List.mem_of_getElem? (i := 80) rfl))))
theorem tw_604 : Cond.selects RX5 yX5_leastMinutes yX5_leastMinutes ∈ lw_tbl := List.mem_append_right _ (List.mem_append_right _ (List.mem_append_right _ (List.mem_append_left _ (List.mem_of_getElem? (i := 81) rfl))))
theorem tw_605 : Cond.code yX5_leastMinutes cX5_leastMinutes 4 (some .int) ∈ lw_tbl := List.mem_append_right _ (List.mem_append_right _ (List.mem_append_right _ (List.mem_append_left _ (List.mem_of_getElem? (i := 82) rfl))))
theorem tw_606 : Cond.methodLink RX5 45 yX5_priceAll ∈ lw_tbl := List.mem_append_right _ (List.mem_append_right _ (List.mem_append_right _ (List.mem_append_left _ (List.mem_of_getElem? (i := 83) rfl))))
theorem tw_607 : Cond.instanceMethod yX5_priceAll ∈ lw_tbl := List.mem_append_right _ (List.mem_append_right _ (List.mem_append_right _ (List.mem_append_left _ (List.mem_of_getElem? (i := 85) rfl))))
theorem tw_608 : Cond.selects RX5 yX5_priceAll yX5_priceAll ∈ lw_tbl := List.mem_append_left _ (List.mem_of_getElem? (i := 14) rfl)
theorem tw_609 : Cond.code yX5_priceAll cX5_priceAll 2 none ∈ lw_tbl := List.mem_append_right _ (List.mem_append_right _ (List.mem_append_right _ (List.mem_append_left _ (List.mem_of_getElem? (i := 86) rfl))))
theorem tw_610 : Cond.methodLink RX5 68 yX5_packedPrices ∈ lw_tbl := List.mem_append_right _ (List.mem_append_right _ (List.mem_append_right _ (List.mem_append_left _ (List.mem_of_getElem? (i := 87) rfl))))
theorem tw_611 : Cond.instanceMethod yX5_packedPrices ∈ lw_tbl := List.mem_append_right _ (List.mem_append_right _ (List.mem_append_right _ (List.mem_append_left _ (List.mem_of_getElem? (i := 89) rfl))))
theorem tw_612 : Cond.selects RX5 yX5_packedPrices yX5_packedPrices ∈ lw_tbl := List.mem_append_left _ (List.mem_of_getElem? (i := 15) rfl)
theorem tw_613 : Cond.code yX5_packedPrices cX5_packedPrices 6 (some .long) ∈ lw_tbl := List.mem_append_right _ (List.mem_append_right _ (List.mem_append_right _ (List.mem_append_left _ (List.mem_of_getElem? (i := 90) rfl))))
theorem tw_614 : Cond.methodLink RX5 76 Lib.Math.min.name ∈ lw_tbl := List.mem_append_right _ (List.mem_append_right _ (List.mem_append_right _ (List.mem_append_left _ (List.mem_of_getElem? (i := 96) rfl))))
theorem tw_615 : Cond.static Lib.Math.min.name ∈ lw_tbl := List.mem_append_right _ (List.mem_append_right _ (List.mem_append_right _ (List.mem_append_left _ (List.mem_of_getElem? (i := 97) rfl))))
theorem tw_616 : Cond.code Lib.Math.min.name Lib.Math.min.code 2 (some .int) ∈ lw_tbl := List.mem_append_right _ (List.mem_append_right _ (List.mem_append_right _ (List.mem_append_left _ (List.mem_of_getElem? (i := 98) rfl))))
theorem tw_617 : Cond.methodLink RX5 72 yX5_priceOf ∈ lw_tbl := List.mem_append_right _ (List.mem_append_right _ (List.mem_append_right _ (List.mem_append_left _ (List.mem_of_getElem? (i := 91) rfl))))
theorem tw_618 : Cond.instanceMethod yX5_priceOf ∈ lw_tbl := List.mem_append_right _ (List.mem_append_right _ (List.mem_append_right _ (List.mem_append_left _ (List.mem_of_getElem? (i := 93) rfl))))
theorem tw_619 : Cond.selects RX5 yX5_priceOf yX5_priceOf ∈ lw_tbl := List.mem_append_left _ (List.mem_of_getElem? (i := 16) rfl)
theorem tw_620 : Cond.code yX5_priceOf cX5_priceOf 7 (some .int) ∈ lw_tbl := List.mem_append_right _ (List.mem_append_right _ (List.mem_append_right _ (List.mem_append_left _ (List.mem_of_getElem? (i := 94) rfl))))
theorem tw_621 : Cond.constant RX5 84 (65535) ∈ lw_tbl := List.mem_append_right _ (List.mem_append_right _ (List.mem_append_right _ (List.mem_append_left _ (List.mem_of_getElem? (i := 95) rfl))))
theorem tw_622 : Cond.methodLink RX5 48 yX5_leastPrice ∈ lw_tbl := List.mem_append_right _ (List.mem_append_right _ (List.mem_append_right _ (List.mem_append_left _ (List.mem_of_getElem? (i := 99) rfl))))
theorem tw_623 : Cond.instanceMethod yX5_leastPrice ∈ lw_tbl := List.mem_append_right _ (List.mem_append_right _ (List.mem_append_right _ (List.mem_append_left _ (List.mem_of_getElem? (i := 101) rfl))))
theorem lf_wsL_law_r26 : ∀ w ∈ wsL_law_r26, w ∈ lw_tbl := by
  intro w hw
  simp only [wsL_law_r26, List.mem_cons, List.not_mem_nil, or_false] at hw
  rcases hw with rfl | rfl | rfl | rfl | rfl | rfl | rfl | rfl | rfl | rfl | rfl | rfl | rfl | rfl | rfl | rfl | rfl | rfl | rfl | rfl | rfl | rfl | rfl | rfl
  · exact tw_600
  · exact tw_601
  · exact tw_602
  · exact tw_603
  · exact tw_604
  · exact tw_605
  · exact tw_606
  · exact tw_607
  · exact tw_608
  · exact tw_609
  · exact tw_610
  · exact tw_611
  · exact tw_612
  · exact tw_613
  · exact tw_614
  · exact tw_615
  · exact tw_616
  · exact tw_617
  · exact tw_618
  · exact tw_619
  · exact tw_620
  · exact tw_621
  · exact tw_622
  · exact tw_623
theorem tw_624 : Cond.selects RX5 yX5_leastPrice yX5_leastPrice ∈ lw_tbl := List.mem_append_left _ (List.mem_of_getElem? (i := 17) rfl)
theorem tw_625 : Cond.code yX5_leastPrice cX5_leastPrice 5 (some .int) ∈ lw_tbl := List.mem_append_right _ (List.mem_append_right _ (List.mem_append_right _ (List.mem_append_left _ (List.mem_of_getElem? (i := 102) rfl))))
theorem tw_626 : Cond.methodLink RX5 59 yX0_minutesOf ∈ lw_tbl := List.mem_append_right _ (List.mem_append_right _ (List.mem_append_right _ (List.mem_append_left _ (List.mem_of_getElem? (i := 103) rfl))))
theorem tw_627 : Cond.methodLink RX9 195 yX5_leastLetter ∈ lw_tbl := List.mem_append_right _ (List.mem_append_right _ (List.mem_append_right _ (List.mem_append_left _ (List.mem_of_getElem? (i := 104) rfl))))
theorem tw_628 : Cond.instanceMethod yX5_leastLetter ∈ lw_tbl := List.mem_append_right _ (List.mem_append_right _ (List.mem_append_right _ (List.mem_append_left _ (List.mem_of_getElem? (i := 105) rfl))))
theorem tw_629 : Cond.selects RX5 yX5_leastLetter yX5_leastLetter ∈ lw_tbl := List.mem_append_right _ (List.mem_append_right _ (List.mem_append_right _ (List.mem_append_left _ (List.mem_of_getElem? (i := 106) rfl))))
theorem tw_630 : Cond.code yX5_leastLetter cX5_leastLetter 6 (some .int) ∈ lw_tbl := List.mem_append_right _ (List.mem_append_right _ (List.mem_append_right _ (List.mem_append_left _ (List.mem_of_getElem? (i := 107) rfl))))
theorem tw_631 : Cond.methodLink RX5 62 yX5_cheapestStory ∈ lw_tbl := List.mem_append_right _ (List.mem_append_right _ (List.mem_append_right _ (List.mem_append_left _ (List.mem_of_getElem? (i := 108) rfl))))
theorem tw_632 : Cond.instanceMethod yX5_cheapestStory ∈ lw_tbl := List.mem_append_right _ (List.mem_append_right _ (List.mem_append_right _ (List.mem_append_left _ (List.mem_of_getElem? (i := 110) rfl))))
theorem tw_633 : Cond.selects RX5 yX5_cheapestStory yX5_cheapestStory ∈ lw_tbl := List.mem_append_left _ (List.mem_of_getElem? (i := 18) rfl)
theorem tw_634 : Cond.code yX5_cheapestStory cX5_cheapestStory 5 (some .int) ∈ lw_tbl := List.mem_append_right _ (List.mem_append_right _ (List.mem_append_right _ (List.mem_append_left _ (List.mem_of_getElem? (i := 111) rfl))))
theorem tw_635 : Cond.methodLink RL 73 yX10_shortest ∈ lw_tbl := List.mem_append_right _ (List.mem_append_right _ (List.mem_append_right _ (List.mem_append_right _ (List.mem_append_right _ (List.mem_of_getElem? (i := 59) rfl)))))
theorem tw_636 : Cond.instanceMethod yX10_shortest ∈ lw_tbl := List.mem_append_right _ (List.mem_append_right _ (List.mem_append_right _ (List.mem_append_right _ (List.mem_append_right _ (List.mem_of_getElem? (i := 60) rfl)))))
theorem tw_637 : Cond.selects RX10 yX10_shortest yX10_shortest ∈ lw_tbl := List.mem_append_right _ (List.mem_append_right _ (List.mem_append_right _ (List.mem_append_right _ (List.mem_append_right _ (List.mem_of_getElem? (i := 61) rfl)))))
theorem tw_638 : Cond.code yX10_shortest cX10_shortest 11 (some .int) ∈ lw_tbl := List.mem_append_right _ (List.mem_append_right _ (List.mem_append_right _ (List.mem_append_right _ (List.mem_append_right _ (List.mem_of_getElem? (i := 62) rfl)))))
theorem tw_639 : Cond.methodLink RX10 241 yX10_findChanges ∈ lw_tbl := List.mem_append_right _ (List.mem_append_right _ (List.mem_append_right _ (List.mem_append_right _ (List.mem_append_right _ (List.mem_of_getElem? (i := 63) rfl)))))
theorem tw_640 : Cond.instanceMethod yX10_findChanges ∈ lw_tbl := List.mem_append_right _ (List.mem_append_right _ (List.mem_append_right _ (List.mem_append_right _ (List.mem_append_right _ (List.mem_of_getElem? (i := 65) rfl)))))
theorem tw_641 : Cond.selects RX10 yX10_findChanges yX10_findChanges ∈ lw_tbl := List.mem_append_left _ (List.mem_of_getElem? (i := 46) rfl)
theorem tw_642 : Cond.code yX10_findChanges cX10_findChanges 8 none ∈ lw_tbl := List.mem_append_right _ (List.mem_append_right _ (List.mem_append_right _ (List.mem_append_right _ (List.mem_append_right _ (List.mem_of_getElem? (i := 66) rfl)))))
theorem tw_643 : Cond.methodLink RX10 234 yX10_changesOf ∈ lw_tbl := List.mem_append_right _ (List.mem_append_right _ (List.mem_append_right _ (List.mem_append_right _ (List.mem_append_right _ (List.mem_of_getElem? (i := 67) rfl)))))
theorem tw_644 : Cond.instanceMethod yX10_changesOf ∈ lw_tbl := List.mem_append_right _ (List.mem_append_right _ (List.mem_append_right _ (List.mem_append_right _ (List.mem_append_right _ (List.mem_of_getElem? (i := 69) rfl)))))
theorem tw_645 : Cond.selects RX10 yX10_changesOf yX10_changesOf ∈ lw_tbl := List.mem_append_left _ (List.mem_of_getElem? (i := 47) rfl)
theorem tw_646 : Cond.code yX10_changesOf cX10_changesOf 8 (some .int) ∈ lw_tbl := List.mem_append_right _ (List.mem_append_right _ (List.mem_append_right _ (List.mem_append_right _ (List.mem_append_right _ (List.mem_of_getElem? (i := 70) rfl)))))
theorem tw_647 : Cond.methodLink RX10 238 yX10_changesBy ∈ lw_tbl := List.mem_append_right _ (List.mem_append_right _ (List.mem_append_right _ (List.mem_append_right _ (List.mem_append_right _ (List.mem_of_getElem? (i := 71) rfl)))))
theorem lf_wsL_law_r27 : ∀ w ∈ wsL_law_r27, w ∈ lw_tbl := by
  intro w hw
  simp only [wsL_law_r27, List.mem_cons, List.not_mem_nil, or_false] at hw
  rcases hw with rfl | rfl | rfl | rfl | rfl | rfl | rfl | rfl | rfl | rfl | rfl | rfl | rfl | rfl | rfl | rfl | rfl | rfl | rfl | rfl | rfl | rfl | rfl | rfl
  · exact tw_624
  · exact tw_625
  · exact tw_626
  · exact tw_627
  · exact tw_628
  · exact tw_629
  · exact tw_630
  · exact tw_631
  · exact tw_632
  · exact tw_633
  · exact tw_634
  · exact tw_635
  · exact tw_636
  · exact tw_637
  · exact tw_638
  · exact tw_639
  · exact tw_640
  · exact tw_641
  · exact tw_642
  · exact tw_643
  · exact tw_644
  · exact tw_645
  · exact tw_646
  · exact tw_647
theorem tw_648 : Cond.instanceMethod yX10_changesBy ∈ lw_tbl := List.mem_append_right _ (List.mem_append_right _ (List.mem_append_right _ (List.mem_append_right _ (List.mem_append_right _ (List.mem_of_getElem? (i := 73) rfl)))))
theorem tw_649 : Cond.selects RX10 yX10_changesBy yX10_changesBy ∈ lw_tbl := List.mem_append_left _ (List.mem_of_getElem? (i := 48) rfl)
theorem tw_650 : Cond.code yX10_changesBy cX10_changesBy 7 (some .int) ∈ lw_tbl := List.mem_append_right _ (List.mem_append_right _ (List.mem_append_right _ (List.mem_append_right _ (List.mem_append_right _ (List.mem_of_getElem? (i := 74) rfl)))))
theorem tw_651 : Cond.methodLink RL 74 yX9_ends ∈ lw_tbl := List.mem_append_right _ (List.mem_append_right _ (List.mem_append_right _ (List.mem_append_left _ (List.mem_of_getElem? (i := 112) rfl))))
theorem tw_652 : Cond.instanceMethod yX9_ends ∈ lw_tbl := List.mem_append_right _ (List.mem_append_right _ (List.mem_append_right _ (List.mem_append_left _ (List.mem_of_getElem? (i := 113) rfl))))
theorem tw_653 : Cond.selects RX9 yX9_ends yX9_ends ∈ lw_tbl := List.mem_append_right _ (List.mem_append_right _ (List.mem_append_right _ (List.mem_append_left _ (List.mem_of_getElem? (i := 114) rfl))))
theorem tw_654 : Cond.code yX9_ends cX9_ends 5 (some .int) ∈ lw_tbl := List.mem_append_right _ (List.mem_append_right _ (List.mem_append_right _ (List.mem_append_left _ (List.mem_of_getElem? (i := 115) rfl))))
theorem tw_655 : Cond.methodLink RX9 198 yX9_isStoryOf ∈ lw_tbl := List.mem_append_right _ (List.mem_append_right _ (List.mem_append_right _ (List.mem_append_left _ (List.mem_of_getElem? (i := 116) rfl))))
theorem tw_656 : Cond.static yX9_isStoryOf ∈ lw_tbl := List.mem_append_right _ (List.mem_append_right _ (List.mem_append_right _ (List.mem_append_left _ (List.mem_of_getElem? (i := 117) rfl))))
theorem tw_657 : Cond.code yX9_isStoryOf cX9_isStoryOf 2 (some .boolean) ∈ lw_tbl := List.mem_append_right _ (List.mem_append_right _ (List.mem_append_right _ (List.mem_append_left _ (List.mem_of_getElem? (i := 118) rfl))))
theorem tw_658 : Cond.methodLink RX9 202 yX5_markEnds ∈ lw_tbl := List.mem_append_right _ (List.mem_append_right _ (List.mem_append_right _ (List.mem_append_left _ (List.mem_of_getElem? (i := 119) rfl))))
theorem tw_659 : Cond.instanceMethod yX5_markEnds ∈ lw_tbl := List.mem_append_right _ (List.mem_append_right _ (List.mem_append_right _ (List.mem_append_left _ (List.mem_of_getElem? (i := 120) rfl))))
theorem tw_660 : Cond.selects RX5 yX5_markEnds yX5_markEnds ∈ lw_tbl := List.mem_append_right _ (List.mem_append_right _ (List.mem_append_right _ (List.mem_append_left _ (List.mem_of_getElem? (i := 121) rfl))))
theorem tw_661 : Cond.code yX5_markEnds cX5_markEnds 4 none ∈ lw_tbl := List.mem_append_right _ (List.mem_append_right _ (List.mem_append_right _ (List.mem_append_left _ (List.mem_of_getElem? (i := 122) rfl))))
theorem tw_662 : Cond.methodLink RX5 85 yX5_evenings ∈ lw_tbl := List.mem_append_right _ (List.mem_append_right _ (List.mem_append_right _ (List.mem_append_left _ (List.mem_of_getElem? (i := 123) rfl))))
theorem tw_663 : Cond.methodLink RX5 89 yX4_isOut ∈ lw_tbl := List.mem_append_right _ (List.mem_append_right _ (List.mem_append_right _ (List.mem_append_left _ (List.mem_of_getElem? (i := 124) rfl))))
theorem tw_664 : Cond.methodLink RX5 93 yX4_minutesAt ∈ lw_tbl := List.mem_append_right _ (List.mem_append_right _ (List.mem_append_right _ (List.mem_append_left _ (List.mem_of_getElem? (i := 125) rfl))))
theorem tw_665 : Cond.instanceMethod yX4_minutesAt ∈ lw_tbl := List.mem_append_right _ (List.mem_append_right _ (List.mem_append_right _ (List.mem_append_left _ (List.mem_of_getElem? (i := 126) rfl))))
theorem tw_666 : Cond.selects RX4 yX4_minutesAt yX4_minutesAt ∈ lw_tbl := List.mem_append_right _ (List.mem_append_right _ (List.mem_append_right _ (List.mem_append_left _ (List.mem_of_getElem? (i := 127) rfl))))
theorem tw_667 : Cond.code yX4_minutesAt cX4_minutesAt 4 (some .int) ∈ lw_tbl := List.mem_append_right _ (List.mem_append_right _ (List.mem_append_right _ (List.mem_append_left _ (List.mem_of_getElem? (i := 128) rfl))))
theorem tw_668 : Cond.methodLink RX4 100 yX0_minutesOf ∈ lw_tbl := List.mem_append_right _ (List.mem_append_right _ (List.mem_append_right _ (List.mem_append_left _ (List.mem_of_getElem? (i := 129) rfl))))
theorem tw_669 : Cond.methodLink RX5 97 yX5_markMinute ∈ lw_tbl := List.mem_append_right _ (List.mem_append_right _ (List.mem_append_right _ (List.mem_append_left _ (List.mem_of_getElem? (i := 130) rfl))))
theorem tw_670 : Cond.instanceMethod yX5_markMinute ∈ lw_tbl := List.mem_append_right _ (List.mem_append_right _ (List.mem_append_right _ (List.mem_append_left _ (List.mem_of_getElem? (i := 132) rfl))))
theorem tw_671 : Cond.selects RX5 yX5_markMinute yX5_markMinute ∈ lw_tbl := List.mem_append_left _ (List.mem_of_getElem? (i := 19) rfl)
theorem lf_wsL_law_r28 : ∀ w ∈ wsL_law_r28, w ∈ lw_tbl := by
  intro w hw
  simp only [wsL_law_r28, List.mem_cons, List.not_mem_nil, or_false] at hw
  rcases hw with rfl | rfl | rfl | rfl | rfl | rfl | rfl | rfl | rfl | rfl | rfl | rfl | rfl | rfl | rfl | rfl | rfl | rfl | rfl | rfl | rfl | rfl | rfl | rfl
  · exact tw_648
  · exact tw_649
  · exact tw_650
  · exact tw_651
  · exact tw_652
  · exact tw_653
  · exact tw_654
  · exact tw_655
  · exact tw_656
  · exact tw_657
  · exact tw_658
  · exact tw_659
  · exact tw_660
  · exact tw_661
  · exact tw_662
  · exact tw_663
  · exact tw_664
  · exact tw_665
  · exact tw_666
  · exact tw_667
  · exact tw_668
  · exact tw_669
  · exact tw_670
  · exact tw_671
theorem tw_672 : Cond.code yX5_markMinute cX5_markMinute 2 none ∈ lw_tbl := List.mem_append_right _ (List.mem_append_right _ (List.mem_append_right _ (List.mem_append_left _ (List.mem_of_getElem? (i := 133) rfl))))
theorem tw_673 : Cond.methodLink RX9 206 yX5_marked ∈ lw_tbl := List.mem_append_right _ (List.mem_append_right _ (List.mem_append_right _ (List.mem_append_left _ (List.mem_of_getElem? (i := 135) rfl))))
theorem tw_674 : Cond.instanceMethod yX5_marked ∈ lw_tbl := List.mem_append_right _ (List.mem_append_right _ (List.mem_append_right _ (List.mem_append_left _ (List.mem_of_getElem? (i := 136) rfl))))
theorem tw_675 : Cond.selects RX5 yX5_marked yX5_marked ∈ lw_tbl := List.mem_append_right _ (List.mem_append_right _ (List.mem_append_right _ (List.mem_append_left _ (List.mem_of_getElem? (i := 137) rfl))))
theorem tw_676 : Cond.code yX5_marked cX5_marked 3 (some .int) ∈ lw_tbl := List.mem_append_right _ (List.mem_append_right _ (List.mem_append_right _ (List.mem_append_left _ (List.mem_of_getElem? (i := 138) rfl))))
theorem tw_677 : Cond.methodLink RX9 209 yX5_markedMinute ∈ lw_tbl := List.mem_append_right _ (List.mem_append_right _ (List.mem_append_right _ (List.mem_append_left _ (List.mem_of_getElem? (i := 139) rfl))))
theorem tw_678 : Cond.instanceMethod yX5_markedMinute ∈ lw_tbl := List.mem_append_right _ (List.mem_append_right _ (List.mem_append_right _ (List.mem_append_left _ (List.mem_of_getElem? (i := 140) rfl))))
theorem tw_679 : Cond.selects RX5 yX5_markedMinute yX5_markedMinute ∈ lw_tbl := List.mem_append_right _ (List.mem_append_right _ (List.mem_append_right _ (List.mem_append_left _ (List.mem_of_getElem? (i := 141) rfl))))
theorem tw_680 : Cond.code yX5_markedMinute cX5_markedMinute 4 (some .int) ∈ lw_tbl := List.mem_append_right _ (List.mem_append_right _ (List.mem_append_right _ (List.mem_append_left _ (List.mem_of_getElem? (i := 142) rfl))))
theorem tw_681 : Cond.methodLink RL 78 yX10_ends ∈ lw_tbl := List.mem_append_right _ (List.mem_append_right _ (List.mem_append_right _ (List.mem_append_right _ (List.mem_append_right _ (List.mem_of_getElem? (i := 75) rfl)))))
theorem tw_682 : Cond.instanceMethod yX10_ends ∈ lw_tbl := List.mem_append_right _ (List.mem_append_right _ (List.mem_append_right _ (List.mem_append_right _ (List.mem_append_right _ (List.mem_of_getElem? (i := 76) rfl)))))
theorem tw_683 : Cond.selects RX10 yX10_ends yX10_ends ∈ lw_tbl := List.mem_append_right _ (List.mem_append_right _ (List.mem_append_right _ (List.mem_append_right _ (List.mem_append_right _ (List.mem_of_getElem? (i := 77) rfl)))))
theorem tw_684 : Cond.code yX10_ends cX10_ends 7 (some .int) ∈ lw_tbl := List.mem_append_right _ (List.mem_append_right _ (List.mem_append_right _ (List.mem_append_right _ (List.mem_append_right _ (List.mem_of_getElem? (i := 78) rfl)))))
theorem tw_685 : Cond.methodLink RX10 245 yX10_isOf ∈ lw_tbl := List.mem_append_right _ (List.mem_append_right _ (List.mem_append_right _ (List.mem_append_right _ (List.mem_append_right _ (List.mem_of_getElem? (i := 79) rfl)))))
theorem tw_686 : Cond.instanceMethod yX10_isOf ∈ lw_tbl := List.mem_append_right _ (List.mem_append_right _ (List.mem_append_right _ (List.mem_append_right _ (List.mem_append_right _ (List.mem_of_getElem? (i := 81) rfl)))))
theorem tw_687 : Cond.selects RX10 yX10_isOf yX10_isOf ∈ lw_tbl := List.mem_append_left _ (List.mem_of_getElem? (i := 49) rfl)
theorem tw_688 : Cond.code yX10_isOf cX10_isOf 3 (some .boolean) ∈ lw_tbl := List.mem_append_right _ (List.mem_append_right _ (List.mem_append_right _ (List.mem_append_right _ (List.mem_append_right _ (List.mem_of_getElem? (i := 82) rfl)))))
theorem tw_689 : Cond.methodLink RX10 249 yX10_findReached ∈ lw_tbl := List.mem_append_right _ (List.mem_append_right _ (List.mem_append_right _ (List.mem_append_right _ (List.mem_append_right _ (List.mem_of_getElem? (i := 83) rfl)))))
theorem tw_690 : Cond.instanceMethod yX10_findReached ∈ lw_tbl := List.mem_append_right _ (List.mem_append_right _ (List.mem_append_right _ (List.mem_append_right _ (List.mem_append_right _ (List.mem_of_getElem? (i := 85) rfl)))))
theorem tw_691 : Cond.selects RX10 yX10_findReached yX10_findReached ∈ lw_tbl := List.mem_append_left _ (List.mem_of_getElem? (i := 50) rfl)
theorem tw_692 : Cond.code yX10_findReached cX10_findReached 9 none ∈ lw_tbl := List.mem_append_right _ (List.mem_append_right _ (List.mem_append_right _ (List.mem_append_right _ (List.mem_append_right _ (List.mem_of_getElem? (i := 86) rfl)))))
theorem tw_693 : Cond.methodLink RX10 252 yX10_minutesNow ∈ lw_tbl := List.mem_append_right _ (List.mem_append_right _ (List.mem_append_right _ (List.mem_append_right _ (List.mem_append_right _ (List.mem_of_getElem? (i := 87) rfl)))))
theorem tw_694 : Cond.instanceMethod yX10_minutesNow ∈ lw_tbl := List.mem_append_right _ (List.mem_append_right _ (List.mem_append_right _ (List.mem_append_right _ (List.mem_append_right _ (List.mem_of_getElem? (i := 89) rfl)))))
theorem tw_695 : Cond.selects RX10 yX10_minutesNow yX10_minutesNow ∈ lw_tbl := List.mem_append_left _ (List.mem_of_getElem? (i := 51) rfl)
theorem lf_wsL_law_r29 : ∀ w ∈ wsL_law_r29, w ∈ lw_tbl := by
  intro w hw
  simp only [wsL_law_r29, List.mem_cons, List.not_mem_nil, or_false] at hw
  rcases hw with rfl | rfl | rfl | rfl | rfl | rfl | rfl | rfl | rfl | rfl | rfl | rfl | rfl | rfl | rfl | rfl | rfl | rfl | rfl | rfl | rfl | rfl | rfl | rfl
  · exact tw_672
  · exact tw_673
  · exact tw_674
  · exact tw_675
  · exact tw_676
  · exact tw_677
  · exact tw_678
  · exact tw_679
  · exact tw_680
  · exact tw_681
  · exact tw_682
  · exact tw_683
  · exact tw_684
  · exact tw_685
  · exact tw_686
  · exact tw_687
  · exact tw_688
  · exact tw_689
  · exact tw_690
  · exact tw_691
  · exact tw_692
  · exact tw_693
  · exact tw_694
  · exact tw_695
theorem tw_696 : Cond.code yX10_minutesNow cX10_minutesNow 4 (some .int) ∈ lw_tbl := List.mem_append_right _ (List.mem_append_right _ (List.mem_append_right _ (List.mem_append_right _ (List.mem_append_right _ (List.mem_of_getElem? (i := 90) rfl)))))
theorem tw_697 : Cond.methodLink RL 79 yX9_turns ∈ lw_tbl := List.mem_append_right _ (List.mem_append_right _ (List.mem_append_right _ (List.mem_append_left _ (List.mem_of_getElem? (i := 143) rfl))))
theorem tw_698 : Cond.instanceMethod yX9_turns ∈ lw_tbl := List.mem_append_right _ (List.mem_append_right _ (List.mem_append_right _ (List.mem_append_left _ (List.mem_of_getElem? (i := 144) rfl))))
theorem tw_699 : Cond.selects RX9 yX9_turns yX9_turns ∈ lw_tbl := List.mem_append_right _ (List.mem_append_right _ (List.mem_append_right _ (List.mem_append_left _ (List.mem_of_getElem? (i := 145) rfl))))
theorem tw_700 : Cond.code yX9_turns cX9_turns 6 (some .int) ∈ lw_tbl := List.mem_append_right _ (List.mem_append_right _ (List.mem_append_right _ (List.mem_append_left _ (List.mem_of_getElem? (i := 146) rfl))))
theorem tw_701 : Cond.methodLink RX9 212 yX2_play ∈ lw_tbl := List.mem_append_right _ (List.mem_append_right _ (List.mem_append_right _ (List.mem_append_left _ (List.mem_of_getElem? (i := 147) rfl))))
theorem tw_702 : Cond.instanceMethod yX2_play ∈ lw_tbl := List.mem_append_right _ (List.mem_append_right _ (List.mem_append_right _ (List.mem_append_left _ (List.mem_of_getElem? (i := 148) rfl))))
theorem tw_703 : Cond.selects RX2 yX2_play yX2_play ∈ lw_tbl := List.mem_append_right _ (List.mem_append_right _ (List.mem_append_right _ (List.mem_append_left _ (List.mem_of_getElem? (i := 149) rfl))))
theorem tw_704 : Cond.code yX2_play cX2_play 5 none ∈ lw_tbl := List.mem_append_right _ (List.mem_append_right _ (List.mem_append_right _ (List.mem_append_left _ (List.mem_of_getElem? (i := 150) rfl))))
theorem tw_705 : Cond.methodLink RX2 21 yX4_isOut ∈ lw_tbl := List.mem_append_right _ (List.mem_append_right _ (List.mem_append_right _ (List.mem_append_left _ (List.mem_of_getElem? (i := 151) rfl))))
theorem tw_706 : Cond.methodLink RX2 25 yX4_minutesAt ∈ lw_tbl := List.mem_append_right _ (List.mem_append_right _ (List.mem_append_right _ (List.mem_append_left _ (List.mem_of_getElem? (i := 152) rfl))))
theorem tw_707 : Cond.methodLink RX2 29 yX2_canWin ∈ lw_tbl := List.mem_append_right _ (List.mem_append_right _ (List.mem_append_right _ (List.mem_append_left _ (List.mem_of_getElem? (i := 153) rfl))))
theorem tw_708 : Cond.instanceMethod yX2_canWin ∈ lw_tbl := List.mem_append_right _ (List.mem_append_right _ (List.mem_append_right _ (List.mem_append_left _ (List.mem_of_getElem? (i := 155) rfl))))
theorem tw_709 : Cond.selects RX2 yX2_canWin yX2_canWin ∈ lw_tbl := List.mem_append_left _ (List.mem_of_getElem? (i := 20) rfl)
theorem tw_710 : Cond.code yX2_canWin cX2_canWin 6 (some .boolean) ∈ lw_tbl := List.mem_append_right _ (List.mem_append_right _ (List.mem_append_right _ (List.mem_append_left _ (List.mem_of_getElem? (i := 156) rfl))))
theorem tw_711 : Cond.methodLink RX2 37 yX4_nodeAfter ∈ lw_tbl := List.mem_append_right _ (List.mem_append_right _ (List.mem_append_right _ (List.mem_append_left _ (List.mem_of_getElem? (i := 157) rfl))))
theorem tw_712 : Cond.methodLink RX2 44 yX3_allPartsTold ∈ lw_tbl := List.mem_append_right _ (List.mem_append_right _ (List.mem_append_right _ (List.mem_append_left _ (List.mem_of_getElem? (i := 158) rfl))))
theorem tw_713 : Cond.static yX3_allPartsTold ∈ lw_tbl := List.mem_append_right _ (List.mem_append_right _ (List.mem_append_right _ (List.mem_append_left _ (List.mem_of_getElem? (i := 159) rfl))))
theorem tw_714 : Cond.code yX3_allPartsTold cX3_allPartsTold 1 (some .int) ∈ lw_tbl := List.mem_append_right _ (List.mem_append_right _ (List.mem_append_right _ (List.mem_append_left _ (List.mem_of_getElem? (i := 160) rfl))))
theorem tw_715 : Cond.methodLink RX9 215 yX2_winningBegin ∈ lw_tbl := List.mem_append_right _ (List.mem_append_right _ (List.mem_append_right _ (List.mem_append_left _ (List.mem_of_getElem? (i := 161) rfl))))
theorem tw_716 : Cond.instanceMethod yX2_winningBegin ∈ lw_tbl := List.mem_append_right _ (List.mem_append_right _ (List.mem_append_right _ (List.mem_append_left _ (List.mem_of_getElem? (i := 162) rfl))))
theorem tw_717 : Cond.selects RX2 yX2_winningBegin yX2_winningBegin ∈ lw_tbl := List.mem_append_right _ (List.mem_append_right _ (List.mem_append_right _ (List.mem_append_left _ (List.mem_of_getElem? (i := 163) rfl))))
theorem tw_718 : Cond.code yX2_winningBegin cX2_winningBegin 3 (some .int) ∈ lw_tbl := List.mem_append_right _ (List.mem_append_right _ (List.mem_append_right _ (List.mem_append_left _ (List.mem_of_getElem? (i := 164) rfl))))
theorem tw_719 : Cond.methodLink RL 82 yX10_turns ∈ lw_tbl := List.mem_append_right _ (List.mem_append_right _ (List.mem_append_right _ (List.mem_append_right _ (List.mem_append_right _ (List.mem_of_getElem? (i := 91) rfl)))))
theorem lf_wsL_law_r30 : ∀ w ∈ wsL_law_r30, w ∈ lw_tbl := by
  intro w hw
  simp only [wsL_law_r30, List.mem_cons, List.not_mem_nil, or_false] at hw
  rcases hw with rfl | rfl | rfl | rfl | rfl | rfl | rfl | rfl | rfl | rfl | rfl | rfl | rfl | rfl | rfl | rfl | rfl | rfl | rfl | rfl | rfl | rfl | rfl | rfl
  · exact tw_696
  · exact tw_697
  · exact tw_698
  · exact tw_699
  · exact tw_700
  · exact tw_701
  · exact tw_702
  · exact tw_703
  · exact tw_704
  · exact tw_705
  · exact tw_706
  · exact tw_707
  · exact tw_708
  · exact tw_709
  · exact tw_710
  · exact tw_711
  · exact tw_712
  · exact tw_713
  · exact tw_714
  · exact tw_715
  · exact tw_716
  · exact tw_717
  · exact tw_718
  · exact tw_719
theorem tw_720 : Cond.instanceMethod yX10_turns ∈ lw_tbl := List.mem_append_right _ (List.mem_append_right _ (List.mem_append_right _ (List.mem_append_right _ (List.mem_append_right _ (List.mem_of_getElem? (i := 92) rfl)))))
theorem tw_721 : Cond.selects RX10 yX10_turns yX10_turns ∈ lw_tbl := List.mem_append_right _ (List.mem_append_right _ (List.mem_append_right _ (List.mem_append_right _ (List.mem_append_right _ (List.mem_of_getElem? (i := 93) rfl)))))
theorem tw_722 : Cond.code yX10_turns cX10_turns 9 (some .int) ∈ lw_tbl := List.mem_append_right _ (List.mem_append_right _ (List.mem_append_right _ (List.mem_append_right _ (List.mem_append_right _ (List.mem_of_getElem? (i := 94) rfl)))))
theorem tw_723 : Cond.constantLong RX10 261 (144) ∈ lw_tbl := List.mem_append_right _ (List.mem_append_right _ (List.mem_append_right _ (List.mem_append_right _ (List.mem_append_right _ (List.mem_of_getElem? (i := 95) rfl)))))
theorem tw_724 : Cond.methodLink RX10 263 yX10_hasIt ∈ lw_tbl := List.mem_append_right _ (List.mem_append_right _ (List.mem_append_right _ (List.mem_append_right _ (List.mem_append_right _ (List.mem_of_getElem? (i := 96) rfl)))))
theorem tw_725 : Cond.instanceMethod yX10_hasIt ∈ lw_tbl := List.mem_append_right _ (List.mem_append_right _ (List.mem_append_right _ (List.mem_append_right _ (List.mem_append_right _ (List.mem_of_getElem? (i := 98) rfl)))))
theorem tw_726 : Cond.selects RX10 yX10_hasIt yX10_hasIt ∈ lw_tbl := List.mem_append_left _ (List.mem_of_getElem? (i := 52) rfl)
theorem tw_727 : Cond.code yX10_hasIt cX10_hasIt 11 (some .boolean) ∈ lw_tbl := List.mem_append_right _ (List.mem_append_right _ (List.mem_append_right _ (List.mem_append_right _ (List.mem_append_right _ (List.mem_of_getElem? (i := 99) rfl)))))
theorem tw_728 : Cond.methodLink RX10 255 yX10_toldAll ∈ lw_tbl := List.mem_append_right _ (List.mem_append_right _ (List.mem_append_right _ (List.mem_append_right _ (List.mem_append_right _ (List.mem_of_getElem? (i := 100) rfl)))))
theorem tw_729 : Cond.instanceMethod yX10_toldAll ∈ lw_tbl := List.mem_append_right _ (List.mem_append_right _ (List.mem_append_right _ (List.mem_append_right _ (List.mem_append_right _ (List.mem_of_getElem? (i := 102) rfl)))))
theorem tw_730 : Cond.selects RX10 yX10_toldAll yX10_toldAll ∈ lw_tbl := List.mem_append_left _ (List.mem_of_getElem? (i := 53) rfl)
theorem tw_731 : Cond.code yX10_toldAll cX10_toldAll 1 (some .int) ∈ lw_tbl := List.mem_append_right _ (List.mem_append_right _ (List.mem_append_right _ (List.mem_append_right _ (List.mem_append_right _ (List.mem_of_getElem? (i := 103) rfl)))))
theorem tw_732 : Cond.methodLink RX10 258 yX10_hasBy ∈ lw_tbl := List.mem_append_right _ (List.mem_append_right _ (List.mem_append_right _ (List.mem_append_right _ (List.mem_append_right _ (List.mem_of_getElem? (i := 104) rfl)))))
theorem tw_733 : Cond.instanceMethod yX10_hasBy ∈ lw_tbl := List.mem_append_right _ (List.mem_append_right _ (List.mem_append_right _ (List.mem_append_right _ (List.mem_append_right _ (List.mem_of_getElem? (i := 106) rfl)))))
theorem tw_734 : Cond.selects RX10 yX10_hasBy yX10_hasBy ∈ lw_tbl := List.mem_append_left _ (List.mem_of_getElem? (i := 54) rfl)
theorem tw_735 : Cond.code yX10_hasBy cX10_hasBy 4 (some .boolean) ∈ lw_tbl := List.mem_append_right _ (List.mem_append_right _ (List.mem_append_right _ (List.mem_append_right _ (List.mem_append_right _ (List.mem_of_getElem? (i := 107) rfl)))))
theorem tw_736 : Cond.methodLink RL 83 yX9_rings ∈ lw_tbl := List.mem_append_right _ (List.mem_append_right _ (List.mem_append_right _ (List.mem_append_left _ (List.mem_of_getElem? (i := 165) rfl))))
theorem tw_737 : Cond.instanceMethod yX9_rings ∈ lw_tbl := List.mem_append_right _ (List.mem_append_right _ (List.mem_append_right _ (List.mem_append_left _ (List.mem_of_getElem? (i := 166) rfl))))
theorem tw_738 : Cond.selects RX9 yX9_rings yX9_rings ∈ lw_tbl := List.mem_append_right _ (List.mem_append_right _ (List.mem_append_right _ (List.mem_append_left _ (List.mem_of_getElem? (i := 167) rfl))))
theorem tw_739 : Cond.code yX9_rings cX9_rings 3 (some .int) ∈ lw_tbl := List.mem_append_right _ (List.mem_append_right _ (List.mem_append_right _ (List.mem_append_left _ (List.mem_of_getElem? (i := 168) rfl))))
theorem tw_740 : Cond.methodLink RX9 218 yX7_isRing ∈ lw_tbl := List.mem_append_right _ (List.mem_append_right _ (List.mem_append_right _ (List.mem_append_left _ (List.mem_of_getElem? (i := 169) rfl))))
theorem tw_741 : Cond.instanceMethod yX7_isRing ∈ lw_tbl := List.mem_append_right _ (List.mem_append_right _ (List.mem_append_right _ (List.mem_append_left _ (List.mem_of_getElem? (i := 170) rfl))))
theorem tw_742 : Cond.selects RX7 yX7_isRing yX7_isRing ∈ lw_tbl := List.mem_append_right _ (List.mem_append_right _ (List.mem_append_right _ (List.mem_append_left _ (List.mem_of_getElem? (i := 171) rfl))))
theorem tw_743 : Cond.code yX7_isRing cX7_isRing 5 (some .boolean) ∈ lw_tbl := List.mem_append_right _ (List.mem_append_right _ (List.mem_append_right _ (List.mem_append_left _ (List.mem_of_getElem? (i := 172) rfl))))
theorem lf_wsL_law_r31 : ∀ w ∈ wsL_law_r31, w ∈ lw_tbl := by
  intro w hw
  simp only [wsL_law_r31, List.mem_cons, List.not_mem_nil, or_false] at hw
  rcases hw with rfl | rfl | rfl | rfl | rfl | rfl | rfl | rfl | rfl | rfl | rfl | rfl | rfl | rfl | rfl | rfl | rfl | rfl | rfl | rfl | rfl | rfl | rfl | rfl
  · exact tw_720
  · exact tw_721
  · exact tw_722
  · exact tw_723
  · exact tw_724
  · exact tw_725
  · exact tw_726
  · exact tw_727
  · exact tw_728
  · exact tw_729
  · exact tw_730
  · exact tw_731
  · exact tw_732
  · exact tw_733
  · exact tw_734
  · exact tw_735
  · exact tw_736
  · exact tw_737
  · exact tw_738
  · exact tw_739
  · exact tw_740
  · exact tw_741
  · exact tw_742
  · exact tw_743
theorem tw_744 : Cond.methodLink RX7 15 yX7_waiting ∈ lw_tbl := List.mem_append_right _ (List.mem_append_right _ (List.mem_append_right _ (List.mem_append_left _ (List.mem_of_getElem? (i := 173) rfl))))
theorem tw_745 : Cond.instanceMethod yX7_waiting ∈ lw_tbl := List.mem_append_right _ (List.mem_append_right _ (List.mem_append_right _ (List.mem_append_left _ (List.mem_of_getElem? (i := 175) rfl))))
theorem tw_746 : Cond.selects RX7 yX7_waiting yX7_waiting ∈ lw_tbl := List.mem_append_left _ (List.mem_of_getElem? (i := 21) rfl)
theorem tw_747 : Cond.code yX7_waiting cX7_waiting 7 (some .int) ∈ lw_tbl := List.mem_append_right _ (List.mem_append_right _ (List.mem_append_right _ (List.mem_append_left _ (List.mem_of_getElem? (i := 176) rfl))))
theorem tw_748 : Cond.methodLink RX7 25 yX0_storyOf ∈ lw_tbl := List.mem_append_right _ (List.mem_append_right _ (List.mem_append_right _ (List.mem_append_left _ (List.mem_of_getElem? (i := 177) rfl))))
theorem tw_749 : Cond.methodLink RX7 29 yX0_otherOf ∈ lw_tbl := List.mem_append_right _ (List.mem_append_right _ (List.mem_append_right _ (List.mem_append_left _ (List.mem_of_getElem? (i := 178) rfl))))
theorem tw_750 : Cond.methodLink RL 86 yX10_rings ∈ lw_tbl := List.mem_append_right _ (List.mem_append_right _ (List.mem_append_right _ (List.mem_append_right _ (List.mem_append_right _ (List.mem_of_getElem? (i := 108) rfl)))))
theorem tw_751 : Cond.instanceMethod yX10_rings ∈ lw_tbl := List.mem_append_right _ (List.mem_append_right _ (List.mem_append_right _ (List.mem_append_right _ (List.mem_append_right _ (List.mem_of_getElem? (i := 109) rfl)))))
theorem tw_752 : Cond.selects RX10 yX10_rings yX10_rings ∈ lw_tbl := List.mem_append_right _ (List.mem_append_right _ (List.mem_append_right _ (List.mem_append_right _ (List.mem_append_right _ (List.mem_of_getElem? (i := 110) rfl)))))
theorem tw_753 : Cond.code yX10_rings cX10_rings 3 (some .int) ∈ lw_tbl := List.mem_append_right _ (List.mem_append_right _ (List.mem_append_right _ (List.mem_append_right _ (List.mem_append_right _ (List.mem_of_getElem? (i := 111) rfl)))))
theorem tw_754 : Cond.methodLink RL 87 yX9_dropped ∈ lw_tbl := List.mem_append_right _ (List.mem_append_right _ (List.mem_append_right _ (List.mem_append_left _ (List.mem_of_getElem? (i := 179) rfl))))
theorem tw_755 : Cond.instanceMethod yX9_dropped ∈ lw_tbl := List.mem_append_right _ (List.mem_append_right _ (List.mem_append_right _ (List.mem_append_left _ (List.mem_of_getElem? (i := 180) rfl))))
theorem tw_756 : Cond.selects RX9 yX9_dropped yX9_dropped ∈ lw_tbl := List.mem_append_right _ (List.mem_append_right _ (List.mem_append_right _ (List.mem_append_left _ (List.mem_of_getElem? (i := 181) rfl))))
theorem tw_757 : Cond.code yX9_dropped cX9_dropped 2 (some .int) ∈ lw_tbl := List.mem_append_right _ (List.mem_append_right _ (List.mem_append_right _ (List.mem_append_left _ (List.mem_of_getElem? (i := 182) rfl))))
theorem tw_758 : Cond.methodLink RX9 221 yX7_fewestToDrop ∈ lw_tbl := List.mem_append_right _ (List.mem_append_right _ (List.mem_append_right _ (List.mem_append_left _ (List.mem_of_getElem? (i := 183) rfl))))
theorem tw_759 : Cond.instanceMethod yX7_fewestToDrop ∈ lw_tbl := List.mem_append_right _ (List.mem_append_right _ (List.mem_append_right _ (List.mem_append_left _ (List.mem_of_getElem? (i := 184) rfl))))
theorem tw_760 : Cond.selects RX7 yX7_fewestToDrop yX7_fewestToDrop ∈ lw_tbl := List.mem_append_right _ (List.mem_append_right _ (List.mem_append_right _ (List.mem_append_left _ (List.mem_of_getElem? (i := 185) rfl))))
theorem tw_761 : Cond.code yX7_fewestToDrop cX7_fewestToDrop 5 (some .int) ∈ lw_tbl := List.mem_append_right _ (List.mem_append_right _ (List.mem_append_right _ (List.mem_append_left _ (List.mem_of_getElem? (i := 186) rfl))))
theorem tw_762 : Cond.methodLink RX7 32 yJ6_bitCount_0f7a4 ∈ lw_tbl := List.mem_append_right _ (List.mem_append_right _ (List.mem_append_right _ (List.mem_append_left _ (List.mem_of_getElem? (i := 187) rfl))))
theorem tw_763 : Cond.methodLink RX7 37 yX7_isRing ∈ lw_tbl := List.mem_append_right _ (List.mem_append_right _ (List.mem_append_right _ (List.mem_append_left _ (List.mem_of_getElem? (i := 188) rfl))))
theorem tw_764 : Cond.methodLink RL 90 yX10_dropped ∈ lw_tbl := List.mem_append_right _ (List.mem_append_right _ (List.mem_append_right _ (List.mem_append_right _ (List.mem_append_right _ (List.mem_of_getElem? (i := 112) rfl)))))
theorem tw_765 : Cond.instanceMethod yX10_dropped ∈ lw_tbl := List.mem_append_right _ (List.mem_append_right _ (List.mem_append_right _ (List.mem_append_right _ (List.mem_append_right _ (List.mem_of_getElem? (i := 113) rfl)))))
theorem tw_766 : Cond.selects RX10 yX10_dropped yX10_dropped ∈ lw_tbl := List.mem_append_right _ (List.mem_append_right _ (List.mem_append_right _ (List.mem_append_right _ (List.mem_append_right _ (List.mem_of_getElem? (i := 114) rfl)))))
theorem tw_767 : Cond.code yX10_dropped cX10_dropped 4 (some .int) ∈ lw_tbl := List.mem_append_right _ (List.mem_append_right _ (List.mem_append_right _ (List.mem_append_right _ (List.mem_append_right _ (List.mem_of_getElem? (i := 115) rfl)))))
theorem lf_wsL_law_r32 : ∀ w ∈ wsL_law_r32, w ∈ lw_tbl := by
  intro w hw
  simp only [wsL_law_r32, List.mem_cons, List.not_mem_nil, or_false] at hw
  rcases hw with rfl | rfl | rfl | rfl | rfl | rfl | rfl | rfl | rfl | rfl | rfl | rfl | rfl | rfl | rfl | rfl | rfl | rfl | rfl | rfl | rfl | rfl | rfl | rfl
  · exact tw_744
  · exact tw_745
  · exact tw_746
  · exact tw_747
  · exact tw_748
  · exact tw_749
  · exact tw_750
  · exact tw_751
  · exact tw_752
  · exact tw_753
  · exact tw_754
  · exact tw_755
  · exact tw_756
  · exact tw_757
  · exact tw_758
  · exact tw_759
  · exact tw_760
  · exact tw_761
  · exact tw_762
  · exact tw_763
  · exact tw_764
  · exact tw_765
  · exact tw_766
  · exact tw_767
theorem tw_768 : Cond.methodLink RL 91 yX9_heard ∈ lw_tbl := List.mem_append_right _ (List.mem_append_right _ (List.mem_append_right _ (List.mem_append_left _ (List.mem_of_getElem? (i := 189) rfl))))
theorem tw_769 : Cond.instanceMethod yX9_heard ∈ lw_tbl := List.mem_append_right _ (List.mem_append_right _ (List.mem_append_right _ (List.mem_append_left _ (List.mem_of_getElem? (i := 190) rfl))))
theorem tw_770 : Cond.selects RX9 yX9_heard yX9_heard ∈ lw_tbl := List.mem_append_right _ (List.mem_append_right _ (List.mem_append_right _ (List.mem_append_left _ (List.mem_of_getElem? (i := 191) rfl))))
theorem tw_771 : Cond.code yX9_heard cX9_heard 1 (some .long) ∈ lw_tbl := List.mem_append_right _ (List.mem_append_right _ (List.mem_append_right _ (List.mem_append_left _ (List.mem_of_getElem? (i := 192) rfl))))
theorem tw_772 : Cond.constantLong RX9 224 (-5) ∈ lw_tbl := List.mem_append_right _ (List.mem_append_right _ (List.mem_append_right _ (List.mem_append_left _ (List.mem_of_getElem? (i := 193) rfl))))
theorem tw_773 : Cond.methodLink RX9 226 yX8_evenings ∈ lw_tbl := List.mem_append_right _ (List.mem_append_right _ (List.mem_append_right _ (List.mem_append_left _ (List.mem_of_getElem? (i := 194) rfl))))
theorem tw_774 : Cond.instanceMethod yX8_evenings ∈ lw_tbl := List.mem_append_right _ (List.mem_append_right _ (List.mem_append_right _ (List.mem_append_left _ (List.mem_of_getElem? (i := 195) rfl))))
theorem tw_775 : Cond.selects RX8 yX8_evenings yX8_evenings ∈ lw_tbl := List.mem_append_right _ (List.mem_append_right _ (List.mem_append_right _ (List.mem_append_left _ (List.mem_of_getElem? (i := 196) rfl))))
theorem tw_776 : Cond.code yX8_evenings cX8_evenings 7 (some .long) ∈ lw_tbl := List.mem_append_right _ (List.mem_append_right _ (List.mem_append_right _ (List.mem_append_left _ (List.mem_of_getElem? (i := 197) rfl))))
theorem tw_777 : Cond.methodLink RX8 36 yX3_allPartsTold ∈ lw_tbl := List.mem_append_right _ (List.mem_append_right _ (List.mem_append_right _ (List.mem_append_left _ (List.mem_of_getElem? (i := 198) rfl))))
theorem tw_778 : Cond.methodLink RX8 45 yX8_soundsAfter ∈ lw_tbl := List.mem_append_right _ (List.mem_append_right _ (List.mem_append_right _ (List.mem_append_left _ (List.mem_of_getElem? (i := 199) rfl))))
theorem tw_779 : Cond.instanceMethod yX8_soundsAfter ∈ lw_tbl := List.mem_append_right _ (List.mem_append_right _ (List.mem_append_right _ (List.mem_append_left _ (List.mem_of_getElem? (i := 201) rfl))))
theorem tw_780 : Cond.selects RX8 yX8_soundsAfter yX8_soundsAfter ∈ lw_tbl := List.mem_append_left _ (List.mem_of_getElem? (i := 22) rfl)
theorem tw_781 : Cond.code yX8_soundsAfter cX8_soundsAfter 6 (some .int) ∈ lw_tbl := List.mem_append_right _ (List.mem_append_right _ (List.mem_append_right _ (List.mem_append_left _ (List.mem_of_getElem? (i := 202) rfl))))
theorem tw_782 : Cond.methodLink RX8 53 yX3_partsTold ∈ lw_tbl := List.mem_append_right _ (List.mem_append_right _ (List.mem_append_right _ (List.mem_append_left _ (List.mem_of_getElem? (i := 203) rfl))))
theorem tw_783 : Cond.methodLink RX8 57 yX0_minutesAt ∈ lw_tbl := List.mem_append_right _ (List.mem_append_right _ (List.mem_append_right _ (List.mem_append_left _ (List.mem_of_getElem? (i := 204) rfl))))
theorem tw_784 : Cond.methodLink RX8 62 yX6_signAt ∈ lw_tbl := List.mem_append_right _ (List.mem_append_right _ (List.mem_append_right _ (List.mem_append_left _ (List.mem_of_getElem? (i := 205) rfl))))
theorem tw_785 : Cond.methodLink RX8 65 yX4_nodeAfter ∈ lw_tbl := List.mem_append_right _ (List.mem_append_right _ (List.mem_append_right _ (List.mem_append_left _ (List.mem_of_getElem? (i := 206) rfl))))
theorem tw_786 : Cond.methodLink RL 95 yX10_heard ∈ lw_tbl := List.mem_append_right _ (List.mem_append_right _ (List.mem_append_right _ (List.mem_append_right _ (List.mem_append_right _ (List.mem_of_getElem? (i := 116) rfl)))))
theorem tw_787 : Cond.instanceMethod yX10_heard ∈ lw_tbl := List.mem_append_right _ (List.mem_append_right _ (List.mem_append_right _ (List.mem_append_right _ (List.mem_append_right _ (List.mem_of_getElem? (i := 117) rfl)))))
theorem tw_788 : Cond.selects RX10 yX10_heard yX10_heard ∈ lw_tbl := List.mem_append_right _ (List.mem_append_right _ (List.mem_append_right _ (List.mem_append_right _ (List.mem_append_right _ (List.mem_of_getElem? (i := 118) rfl)))))
theorem tw_789 : Cond.code yX10_heard cX10_heard 1 (some .long) ∈ lw_tbl := List.mem_append_right _ (List.mem_append_right _ (List.mem_append_right _ (List.mem_append_right _ (List.mem_append_right _ (List.mem_of_getElem? (i := 119) rfl)))))
theorem tw_790 : Cond.constantLong RX10 270 (-5) ∈ lw_tbl := List.mem_append_right _ (List.mem_append_right _ (List.mem_append_right _ (List.mem_append_right _ (List.mem_append_right _ (List.mem_of_getElem? (i := 120) rfl)))))
theorem tw_791 : Cond.methodLink RX10 272 yX10_findHeard ∈ lw_tbl := List.mem_append_right _ (List.mem_append_right _ (List.mem_append_right _ (List.mem_append_right _ (List.mem_append_right _ (List.mem_of_getElem? (i := 121) rfl)))))
theorem lf_wsL_law_r33 : ∀ w ∈ wsL_law_r33, w ∈ lw_tbl := by
  intro w hw
  simp only [wsL_law_r33, List.mem_cons, List.not_mem_nil, or_false] at hw
  rcases hw with rfl | rfl | rfl | rfl | rfl | rfl | rfl | rfl | rfl | rfl | rfl | rfl | rfl | rfl | rfl | rfl | rfl | rfl | rfl | rfl | rfl | rfl | rfl | rfl
  · exact tw_768
  · exact tw_769
  · exact tw_770
  · exact tw_771
  · exact tw_772
  · exact tw_773
  · exact tw_774
  · exact tw_775
  · exact tw_776
  · exact tw_777
  · exact tw_778
  · exact tw_779
  · exact tw_780
  · exact tw_781
  · exact tw_782
  · exact tw_783
  · exact tw_784
  · exact tw_785
  · exact tw_786
  · exact tw_787
  · exact tw_788
  · exact tw_789
  · exact tw_790
  · exact tw_791
theorem tw_792 : Cond.instanceMethod yX10_findHeard ∈ lw_tbl := List.mem_append_right _ (List.mem_append_right _ (List.mem_append_right _ (List.mem_append_right _ (List.mem_append_right _ (List.mem_of_getElem? (i := 123) rfl)))))
theorem tw_793 : Cond.selects RX10 yX10_findHeard yX10_findHeard ∈ lw_tbl := List.mem_append_left _ (List.mem_of_getElem? (i := 55) rfl)
theorem tw_794 : Cond.code yX10_findHeard cX10_findHeard 10 none ∈ lw_tbl := List.mem_append_right _ (List.mem_append_right _ (List.mem_append_right _ (List.mem_append_right _ (List.mem_append_right _ (List.mem_of_getElem? (i := 124) rfl)))))
theorem tw_795 : Cond.methodLink RX10 267 yX10_heardNext ∈ lw_tbl := List.mem_append_right _ (List.mem_append_right _ (List.mem_append_right _ (List.mem_append_right _ (List.mem_append_right _ (List.mem_of_getElem? (i := 125) rfl)))))
theorem tw_796 : Cond.instanceMethod yX10_heardNext ∈ lw_tbl := List.mem_append_right _ (List.mem_append_right _ (List.mem_append_right _ (List.mem_append_right _ (List.mem_append_right _ (List.mem_of_getElem? (i := 127) rfl)))))
theorem tw_797 : Cond.selects RX10 yX10_heardNext yX10_heardNext ∈ lw_tbl := List.mem_append_left _ (List.mem_of_getElem? (i := 56) rfl)
theorem tw_798 : Cond.code yX10_heardNext cX10_heardNext 4 (some .int) ∈ lw_tbl := List.mem_append_right _ (List.mem_append_right _ (List.mem_append_right _ (List.mem_append_right _ (List.mem_append_right _ (List.mem_of_getElem? (i := 128) rfl)))))
theorem tw_799 : Cond.methodLink RL 96 yX9_first ∈ lw_tbl := List.mem_append_right _ (List.mem_append_right _ (List.mem_append_right _ (List.mem_append_left _ (List.mem_of_getElem? (i := 207) rfl))))
theorem tw_800 : Cond.instanceMethod yX9_first ∈ lw_tbl := List.mem_append_right _ (List.mem_append_right _ (List.mem_append_right _ (List.mem_append_left _ (List.mem_of_getElem? (i := 208) rfl))))
theorem tw_801 : Cond.selects RX9 yX9_first yX9_first ∈ lw_tbl := List.mem_append_right _ (List.mem_append_right _ (List.mem_append_right _ (List.mem_append_left _ (List.mem_of_getElem? (i := 209) rfl))))
theorem tw_802 : Cond.code yX9_first cX9_first 2 (some .int) ∈ lw_tbl := List.mem_append_right _ (List.mem_append_right _ (List.mem_append_right _ (List.mem_append_left _ (List.mem_of_getElem? (i := 210) rfl))))
theorem tw_803 : Cond.methodLink RX9 227 yX8_firstLetter ∈ lw_tbl := List.mem_append_right _ (List.mem_append_right _ (List.mem_append_right _ (List.mem_append_left _ (List.mem_of_getElem? (i := 211) rfl))))
theorem tw_804 : Cond.instanceMethod yX8_firstLetter ∈ lw_tbl := List.mem_append_right _ (List.mem_append_right _ (List.mem_append_right _ (List.mem_append_left _ (List.mem_of_getElem? (i := 212) rfl))))
theorem tw_805 : Cond.selects RX8 yX8_firstLetter yX8_firstLetter ∈ lw_tbl := List.mem_append_right _ (List.mem_append_right _ (List.mem_append_right _ (List.mem_append_left _ (List.mem_of_getElem? (i := 213) rfl))))
theorem tw_806 : Cond.code yX8_firstLetter cX8_firstLetter 5 (some .int) ∈ lw_tbl := List.mem_append_right _ (List.mem_append_right _ (List.mem_append_right _ (List.mem_append_left _ (List.mem_of_getElem? (i := 214) rfl))))
theorem tw_807 : Cond.methodLink RX8 72 yX8_evenings ∈ lw_tbl := List.mem_append_right _ (List.mem_append_right _ (List.mem_append_right _ (List.mem_append_left _ (List.mem_of_getElem? (i := 216) rfl))))
theorem tw_808 : Cond.methodLink RX8 76 yX8_firstStory ∈ lw_tbl := List.mem_append_right _ (List.mem_append_right _ (List.mem_append_right _ (List.mem_append_left _ (List.mem_of_getElem? (i := 217) rfl))))
theorem tw_809 : Cond.instanceMethod yX8_firstStory ∈ lw_tbl := List.mem_append_right _ (List.mem_append_right _ (List.mem_append_right _ (List.mem_append_left _ (List.mem_of_getElem? (i := 219) rfl))))
theorem tw_810 : Cond.selects RX8 yX8_firstStory yX8_firstStory ∈ lw_tbl := List.mem_append_left _ (List.mem_of_getElem? (i := 23) rfl)
theorem tw_811 : Cond.code yX8_firstStory cX8_firstStory 5 (some .int) ∈ lw_tbl := List.mem_append_right _ (List.mem_append_right _ (List.mem_append_right _ (List.mem_append_left _ (List.mem_of_getElem? (i := 220) rfl))))
theorem tw_812 : Cond.methodLink RL 99 yX10_first ∈ lw_tbl := List.mem_append_right _ (List.mem_append_right _ (List.mem_append_right _ (List.mem_append_right _ (List.mem_append_right _ (List.mem_of_getElem? (i := 129) rfl)))))
theorem tw_813 : Cond.instanceMethod yX10_first ∈ lw_tbl := List.mem_append_right _ (List.mem_append_right _ (List.mem_append_right _ (List.mem_append_right _ (List.mem_append_right _ (List.mem_of_getElem? (i := 130) rfl)))))
theorem tw_814 : Cond.selects RX10 yX10_first yX10_first ∈ lw_tbl := List.mem_append_right _ (List.mem_append_right _ (List.mem_append_right _ (List.mem_append_right _ (List.mem_append_right _ (List.mem_of_getElem? (i := 131) rfl)))))
theorem tw_815 : Cond.code yX10_first cX10_first 6 (some .int) ∈ lw_tbl := List.mem_append_right _ (List.mem_append_right _ (List.mem_append_right _ (List.mem_append_right _ (List.mem_append_right _ (List.mem_of_getElem? (i := 132) rfl)))))
theorem lf_wsL_law_r34 : ∀ w ∈ wsL_law_r34, w ∈ lw_tbl := by
  intro w hw
  simp only [wsL_law_r34, List.mem_cons, List.not_mem_nil, or_false] at hw
  rcases hw with rfl | rfl | rfl | rfl | rfl | rfl | rfl | rfl | rfl | rfl | rfl | rfl | rfl | rfl | rfl | rfl | rfl | rfl | rfl | rfl | rfl | rfl | rfl | rfl
  · exact tw_792
  · exact tw_793
  · exact tw_794
  · exact tw_795
  · exact tw_796
  · exact tw_797
  · exact tw_798
  · exact tw_799
  · exact tw_800
  · exact tw_801
  · exact tw_802
  · exact tw_803
  · exact tw_804
  · exact tw_805
  · exact tw_806
  · exact tw_807
  · exact tw_808
  · exact tw_809
  · exact tw_810
  · exact tw_811
  · exact tw_812
  · exact tw_813
  · exact tw_814
  · exact tw_815
theorem tw_816 : Cond.methodLink RL 100 yX9_who ∈ lw_tbl := List.mem_append_right _ (List.mem_append_right _ (List.mem_append_right _ (List.mem_append_left _ (List.mem_of_getElem? (i := 221) rfl))))
theorem tw_817 : Cond.instanceMethod yX9_who ∈ lw_tbl := List.mem_append_right _ (List.mem_append_right _ (List.mem_append_right _ (List.mem_append_left _ (List.mem_of_getElem? (i := 222) rfl))))
theorem tw_818 : Cond.selects RX9 yX9_who yX9_who ∈ lw_tbl := List.mem_append_right _ (List.mem_append_right _ (List.mem_append_right _ (List.mem_append_left _ (List.mem_of_getElem? (i := 223) rfl))))
theorem tw_819 : Cond.code yX9_who cX9_who 2 (some .int) ∈ lw_tbl := List.mem_append_right _ (List.mem_append_right _ (List.mem_append_right _ (List.mem_append_left _ (List.mem_of_getElem? (i := 224) rfl))))
theorem tw_820 : Cond.methodLink RX9 233 yX8_storiesAt ∈ lw_tbl := List.mem_append_right _ (List.mem_append_right _ (List.mem_append_right _ (List.mem_append_left _ (List.mem_of_getElem? (i := 225) rfl))))
theorem tw_821 : Cond.instanceMethod yX8_storiesAt ∈ lw_tbl := List.mem_append_right _ (List.mem_append_right _ (List.mem_append_right _ (List.mem_append_left _ (List.mem_of_getElem? (i := 226) rfl))))
theorem tw_822 : Cond.selects RX8 yX8_storiesAt yX8_storiesAt ∈ lw_tbl := List.mem_append_right _ (List.mem_append_right _ (List.mem_append_right _ (List.mem_append_left _ (List.mem_of_getElem? (i := 227) rfl))))
theorem tw_823 : Cond.code yX8_storiesAt cX8_storiesAt 6 (some .int) ∈ lw_tbl := List.mem_append_right _ (List.mem_append_right _ (List.mem_append_right _ (List.mem_append_left _ (List.mem_of_getElem? (i := 228) rfl))))
theorem tw_824 : Cond.methodLink RX8 79 yX8_reachFrom ∈ lw_tbl := List.mem_append_right _ (List.mem_append_right _ (List.mem_append_right _ (List.mem_append_left _ (List.mem_of_getElem? (i := 229) rfl))))
theorem tw_825 : Cond.instanceMethod yX8_reachFrom ∈ lw_tbl := List.mem_append_right _ (List.mem_append_right _ (List.mem_append_right _ (List.mem_append_left _ (List.mem_of_getElem? (i := 231) rfl))))
theorem tw_826 : Cond.selects RX8 yX8_reachFrom yX8_reachFrom ∈ lw_tbl := List.mem_append_left _ (List.mem_of_getElem? (i := 24) rfl)
theorem tw_827 : Cond.code yX8_reachFrom cX8_reachFrom 6 (some .int) ∈ lw_tbl := List.mem_append_right _ (List.mem_append_right _ (List.mem_append_right _ (List.mem_append_left _ (List.mem_of_getElem? (i := 232) rfl))))
theorem tw_828 : Cond.methodLink RL 103 yX10_who ∈ lw_tbl := List.mem_append_right _ (List.mem_append_right _ (List.mem_append_right _ (List.mem_append_right _ (List.mem_append_right _ (List.mem_of_getElem? (i := 133) rfl)))))
theorem tw_829 : Cond.instanceMethod yX10_who ∈ lw_tbl := List.mem_append_right _ (List.mem_append_right _ (List.mem_append_right _ (List.mem_append_right _ (List.mem_append_right _ (List.mem_of_getElem? (i := 134) rfl)))))
theorem tw_830 : Cond.selects RX10 yX10_who yX10_who ∈ lw_tbl := List.mem_append_right _ (List.mem_append_right _ (List.mem_append_right _ (List.mem_append_right _ (List.mem_append_right _ (List.mem_of_getElem? (i := 135) rfl)))))
theorem tw_831 : Cond.code yX10_who cX10_who 9 (some .int) ∈ lw_tbl := List.mem_append_right _ (List.mem_append_right _ (List.mem_append_right _ (List.mem_append_right _ (List.mem_append_right _ (List.mem_of_getElem? (i := 136) rfl)))))
theorem tw_832 : Cond.methodLink RL 104 yX9_left ∈ lw_tbl := List.mem_append_right _ (List.mem_append_right _ (List.mem_append_right _ (List.mem_append_left _ (List.mem_of_getElem? (i := 233) rfl))))
theorem tw_833 : Cond.instanceMethod yX9_left ∈ lw_tbl := List.mem_append_right _ (List.mem_append_right _ (List.mem_append_right _ (List.mem_append_left _ (List.mem_of_getElem? (i := 234) rfl))))
theorem tw_834 : Cond.selects RX9 yX9_left yX9_left ∈ lw_tbl := List.mem_append_right _ (List.mem_append_right _ (List.mem_append_right _ (List.mem_append_left _ (List.mem_of_getElem? (i := 235) rfl))))
theorem tw_835 : Cond.code yX9_left cX9_left 5 (some .int) ∈ lw_tbl := List.mem_append_right _ (List.mem_append_right _ (List.mem_append_right _ (List.mem_append_left _ (List.mem_of_getElem? (i := 236) rfl))))
theorem tw_836 : Cond.methodLink RX9 236 yX0_toldBy ∈ lw_tbl := List.mem_append_right _ (List.mem_append_right _ (List.mem_append_right _ (List.mem_append_left _ (List.mem_of_getElem? (i := 237) rfl))))
theorem tw_837 : Cond.instanceMethod yX0_toldBy ∈ lw_tbl := List.mem_append_right _ (List.mem_append_right _ (List.mem_append_right _ (List.mem_append_left _ (List.mem_of_getElem? (i := 238) rfl))))
theorem tw_838 : Cond.selects RX0 yX0_toldBy yX0_toldBy ∈ lw_tbl := List.mem_append_right _ (List.mem_append_right _ (List.mem_append_right _ (List.mem_append_left _ (List.mem_of_getElem? (i := 239) rfl))))
theorem tw_839 : Cond.code yX0_toldBy cX0_toldBy 4 (some .int) ∈ lw_tbl := List.mem_append_right _ (List.mem_append_right _ (List.mem_append_right _ (List.mem_append_right _ (List.mem_append_left _ (List.mem_of_getElem? (i := 0) rfl)))))
theorem lf_wsL_law_r35 : ∀ w ∈ wsL_law_r35, w ∈ lw_tbl := by
  intro w hw
  simp only [wsL_law_r35, List.mem_cons, List.not_mem_nil, or_false] at hw
  rcases hw with rfl | rfl | rfl | rfl | rfl | rfl | rfl | rfl | rfl | rfl | rfl | rfl | rfl | rfl | rfl | rfl | rfl | rfl | rfl | rfl | rfl | rfl | rfl | rfl
  · exact tw_816
  · exact tw_817
  · exact tw_818
  · exact tw_819
  · exact tw_820
  · exact tw_821
  · exact tw_822
  · exact tw_823
  · exact tw_824
  · exact tw_825
  · exact tw_826
  · exact tw_827
  · exact tw_828
  · exact tw_829
  · exact tw_830
  · exact tw_831
  · exact tw_832
  · exact tw_833
  · exact tw_834
  · exact tw_835
  · exact tw_836
  · exact tw_837
  · exact tw_838
  · exact tw_839
theorem tw_840 : Cond.methodLink RX9 239 yX9_closers ∈ lw_tbl := List.mem_append_right _ (List.mem_append_right _ (List.mem_append_right _ (List.mem_append_right _ (List.mem_append_left _ (List.mem_of_getElem? (i := 1) rfl)))))
theorem tw_841 : Cond.instanceMethod yX9_closers ∈ lw_tbl := List.mem_append_right _ (List.mem_append_right _ (List.mem_append_right _ (List.mem_append_right _ (List.mem_append_left _ (List.mem_of_getElem? (i := 3) rfl)))))
theorem tw_842 : Cond.selects RX9 yX9_closers yX9_closers ∈ lw_tbl := List.mem_append_left _ (List.mem_of_getElem? (i := 25) rfl)
theorem tw_843 : Cond.code yX9_closers cX9_closers 7 (some .int) ∈ lw_tbl := List.mem_append_right _ (List.mem_append_right _ (List.mem_append_right _ (List.mem_append_right _ (List.mem_append_left _ (List.mem_of_getElem? (i := 4) rfl)))))
theorem tw_844 : Cond.methodLink RL 107 yX10_left ∈ lw_tbl := List.mem_append_right _ (List.mem_append_right _ (List.mem_append_right _ (List.mem_append_right _ (List.mem_append_right _ (List.mem_of_getElem? (i := 137) rfl)))))
theorem tw_845 : Cond.instanceMethod yX10_left ∈ lw_tbl := List.mem_append_right _ (List.mem_append_right _ (List.mem_append_right _ (List.mem_append_right _ (List.mem_append_right _ (List.mem_of_getElem? (i := 138) rfl)))))
theorem tw_846 : Cond.selects RX10 yX10_left yX10_left ∈ lw_tbl := List.mem_append_right _ (List.mem_append_right _ (List.mem_append_right _ (List.mem_append_right _ (List.mem_append_right _ (List.mem_of_getElem? (i := 139) rfl)))))
theorem tw_847 : Cond.code yX10_left cX10_left 8 (some .int) ∈ lw_tbl := List.mem_append_right _ (List.mem_append_right _ (List.mem_append_right _ (List.mem_append_right _ (List.mem_append_right _ (List.mem_of_getElem? (i := 140) rfl)))))
theorem tw_848 : Cond.methodLink RL 108 yX9_image ∈ lw_tbl := List.mem_append_right _ (List.mem_append_right _ (List.mem_append_right _ (List.mem_append_right _ (List.mem_append_left _ (List.mem_of_getElem? (i := 5) rfl)))))
theorem tw_849 : Cond.instanceMethod yX9_image ∈ lw_tbl := List.mem_append_right _ (List.mem_append_right _ (List.mem_append_right _ (List.mem_append_right _ (List.mem_append_left _ (List.mem_of_getElem? (i := 6) rfl)))))
theorem tw_850 : Cond.selects RX9 yX9_image yX9_image ∈ lw_tbl := List.mem_append_right _ (List.mem_append_right _ (List.mem_append_right _ (List.mem_append_right _ (List.mem_append_left _ (List.mem_of_getElem? (i := 7) rfl)))))
theorem tw_851 : Cond.code yX9_image cX9_image 2 (some .int) ∈ lw_tbl := List.mem_append_right _ (List.mem_append_right _ (List.mem_append_right _ (List.mem_append_right _ (List.mem_append_left _ (List.mem_of_getElem? (i := 8) rfl)))))
theorem tw_852 : Cond.methodLink RX9 242 yX0_copy ∈ lw_tbl := List.mem_append_right _ (List.mem_append_right _ (List.mem_append_right _ (List.mem_append_right _ (List.mem_append_left _ (List.mem_of_getElem? (i := 9) rfl)))))
theorem tw_853 : Cond.instanceMethod yX0_copy ∈ lw_tbl := List.mem_append_right _ (List.mem_append_right _ (List.mem_append_right _ (List.mem_append_right _ (List.mem_append_left _ (List.mem_of_getElem? (i := 10) rfl)))))
theorem tw_854 : Cond.selects RX0 yX0_copy yX0_copy ∈ lw_tbl := List.mem_append_right _ (List.mem_append_right _ (List.mem_append_right _ (List.mem_append_right _ (List.mem_append_left _ (List.mem_of_getElem? (i := 11) rfl)))))
theorem tw_855 : Cond.code yX0_copy cX0_copy 3 none ∈ lw_tbl := List.mem_append_right _ (List.mem_append_right _ (List.mem_append_right _ (List.mem_append_right _ (List.mem_append_left _ (List.mem_of_getElem? (i := 12) rfl)))))
theorem tw_856 : Cond.fieldLink RX0 40 "StoryNest$Book" "breath" "I" ∈ lw_tbl := List.mem_append_right _ (List.mem_append_left _ (List.mem_of_getElem? (i := 72) rfl))
theorem tw_857 : Cond.methodLink RL 111 yX10_image ∈ lw_tbl := List.mem_append_right _ (List.mem_append_right _ (List.mem_append_right _ (List.mem_append_right _ (List.mem_append_right _ (List.mem_of_getElem? (i := 141) rfl)))))
theorem tw_858 : Cond.instanceMethod yX10_image ∈ lw_tbl := List.mem_append_right _ (List.mem_append_right _ (List.mem_append_right _ (List.mem_append_right _ (List.mem_append_right _ (List.mem_of_getElem? (i := 142) rfl)))))
theorem tw_859 : Cond.selects RX10 yX10_image yX10_image ∈ lw_tbl := List.mem_append_right _ (List.mem_append_right _ (List.mem_append_right _ (List.mem_append_right _ (List.mem_append_right _ (List.mem_of_getElem? (i := 143) rfl)))))
theorem tw_860 : Cond.code yX10_image cX10_image 2 (some .int) ∈ lw_tbl := List.mem_append_right _ (List.mem_append_right _ (List.mem_append_right _ (List.mem_append_right _ (List.mem_append_right _ (List.mem_of_getElem? (i := 144) rfl)))))
theorem tw_861 : Cond.fieldLink RX10 279 "StoryNestModel" "keptAt" "I" ∈ lw_tbl := List.mem_append_right _ (List.mem_append_right _ (List.mem_append_right _ (List.mem_append_right _ (List.mem_append_left _ (List.mem_of_getElem? (i := 60) rfl)))))
theorem tw_862 : Cond.fieldLink RX10 275 "StoryNestModel" "isWriting" "Z" ∈ lw_tbl := List.mem_append_right _ (List.mem_append_right _ (List.mem_append_right _ (List.mem_append_right _ (List.mem_append_left _ (List.mem_of_getElem? (i := 61) rfl)))))
theorem tw_863 : Cond.methodLink RX10 285 yX10_passAll ∈ lw_tbl := List.mem_append_right _ (List.mem_append_right _ (List.mem_append_right _ (List.mem_append_right _ (List.mem_append_right _ (List.mem_of_getElem? (i := 145) rfl)))))
theorem lf_wsL_law_r36 : ∀ w ∈ wsL_law_r36, w ∈ lw_tbl := by
  intro w hw
  simp only [wsL_law_r36, List.mem_cons, List.not_mem_nil, or_false] at hw
  rcases hw with rfl | rfl | rfl | rfl | rfl | rfl | rfl | rfl | rfl | rfl | rfl | rfl | rfl | rfl | rfl | rfl | rfl | rfl | rfl | rfl | rfl | rfl | rfl | rfl
  · exact tw_840
  · exact tw_841
  · exact tw_842
  · exact tw_843
  · exact tw_844
  · exact tw_845
  · exact tw_846
  · exact tw_847
  · exact tw_848
  · exact tw_849
  · exact tw_850
  · exact tw_851
  · exact tw_852
  · exact tw_853
  · exact tw_854
  · exact tw_855
  · exact tw_856
  · exact tw_857
  · exact tw_858
  · exact tw_859
  · exact tw_860
  · exact tw_861
  · exact tw_862
  · exact tw_863
theorem tw_864 : Cond.instanceMethod yX10_passAll ∈ lw_tbl := List.mem_append_right _ (List.mem_append_right _ (List.mem_append_right _ (List.mem_append_right _ (List.mem_append_right _ (List.mem_of_getElem? (i := 147) rfl)))))
theorem tw_865 : Cond.selects RX10 yX10_passAll yX10_passAll ∈ lw_tbl := List.mem_append_left _ (List.mem_of_getElem? (i := 57) rfl)
theorem tw_866 : Cond.code yX10_passAll cX10_passAll 2 none ∈ lw_tbl := List.mem_append_right _ (List.mem_append_right _ (List.mem_append_right _ (List.mem_append_right _ (List.mem_append_right _ (List.mem_of_getElem? (i := 148) rfl)))))
theorem tw_867 : Cond.methodLink RX10 282 yX10_pass ∈ lw_tbl := List.mem_append_right _ (List.mem_append_right _ (List.mem_append_right _ (List.mem_append_right _ (List.mem_append_right _ (List.mem_of_getElem? (i := 149) rfl)))))
theorem tw_868 : Cond.instanceMethod yX10_pass ∈ lw_tbl := List.mem_append_right _ (List.mem_append_right _ (List.mem_append_right _ (List.mem_append_right _ (List.mem_append_right _ (List.mem_of_getElem? (i := 151) rfl)))))
theorem tw_869 : Cond.selects RX10 yX10_pass yX10_pass ∈ lw_tbl := List.mem_append_left _ (List.mem_of_getElem? (i := 58) rfl)
theorem tw_870 : Cond.code yX10_pass cX10_pass 3 (some .int) ∈ lw_tbl := List.mem_append_right _ (List.mem_append_right _ (List.mem_append_right _ (List.mem_append_right _ (List.mem_append_right _ (List.mem_of_getElem? (i := 152) rfl)))))
theorem tw_871 : Cond.methodLink RL 112 yX9_restore ∈ lw_tbl := List.mem_append_right _ (List.mem_append_right _ (List.mem_append_right _ (List.mem_append_right _ (List.mem_append_left _ (List.mem_of_getElem? (i := 13) rfl)))))
theorem tw_872 : Cond.instanceMethod yX9_restore ∈ lw_tbl := List.mem_append_right _ (List.mem_append_right _ (List.mem_append_right _ (List.mem_append_right _ (List.mem_append_left _ (List.mem_of_getElem? (i := 14) rfl)))))
theorem tw_873 : Cond.selects RX9 yX9_restore yX9_restore ∈ lw_tbl := List.mem_append_right _ (List.mem_append_right _ (List.mem_append_right _ (List.mem_append_right _ (List.mem_append_left _ (List.mem_of_getElem? (i := 15) rfl)))))
theorem tw_874 : Cond.code yX9_restore cX9_restore 2 (some .int) ∈ lw_tbl := List.mem_append_right _ (List.mem_append_right _ (List.mem_append_right _ (List.mem_append_right _ (List.mem_append_left _ (List.mem_of_getElem? (i := 16) rfl)))))
theorem tw_875 : Cond.methodLink RL 115 yX10_restore ∈ lw_tbl := List.mem_append_right _ (List.mem_append_right _ (List.mem_append_right _ (List.mem_append_right _ (List.mem_append_right _ (List.mem_of_getElem? (i := 153) rfl)))))
theorem tw_876 : Cond.instanceMethod yX10_restore ∈ lw_tbl := List.mem_append_right _ (List.mem_append_right _ (List.mem_append_right _ (List.mem_append_right _ (List.mem_append_right _ (List.mem_of_getElem? (i := 154) rfl)))))
theorem tw_877 : Cond.selects RX10 yX10_restore yX10_restore ∈ lw_tbl := List.mem_append_right _ (List.mem_append_right _ (List.mem_append_right _ (List.mem_append_right _ (List.mem_append_right _ (List.mem_of_getElem? (i := 155) rfl)))))
theorem tw_878 : Cond.code yX10_restore cX10_restore 2 (some .int) ∈ lw_tbl := List.mem_append_right _ (List.mem_append_right _ (List.mem_append_right _ (List.mem_append_right _ (List.mem_append_right _ (List.mem_of_getElem? (i := 156) rfl)))))
theorem tw_879 : Cond.methodLink RL 116 yX9_told ∈ lw_tbl := List.mem_append_right _ (List.mem_append_right _ (List.mem_append_right _ (List.mem_append_right _ (List.mem_append_left _ (List.mem_of_getElem? (i := 17) rfl)))))
theorem tw_880 : Cond.instanceMethod yX9_told ∈ lw_tbl := List.mem_append_right _ (List.mem_append_right _ (List.mem_append_right _ (List.mem_append_right _ (List.mem_append_left _ (List.mem_of_getElem? (i := 18) rfl)))))
theorem tw_881 : Cond.selects RX9 yX9_told yX9_told ∈ lw_tbl := List.mem_append_right _ (List.mem_append_right _ (List.mem_append_right _ (List.mem_append_right _ (List.mem_append_left _ (List.mem_of_getElem? (i := 19) rfl)))))
theorem tw_882 : Cond.code yX9_told cX9_told 3 (some .int) ∈ lw_tbl := List.mem_append_right _ (List.mem_append_right _ (List.mem_append_right _ (List.mem_append_right _ (List.mem_append_left _ (List.mem_of_getElem? (i := 20) rfl)))))
theorem tw_883 : Cond.methodLink RL 119 yX10_told ∈ lw_tbl := List.mem_append_right _ (List.mem_append_right _ (List.mem_append_right _ (List.mem_append_right _ (List.mem_append_right _ (List.mem_of_getElem? (i := 157) rfl)))))
theorem tw_884 : Cond.instanceMethod yX10_told ∈ lw_tbl := List.mem_append_right _ (List.mem_append_right _ (List.mem_append_right _ (List.mem_append_right _ (List.mem_append_right _ (List.mem_of_getElem? (i := 158) rfl)))))
theorem tw_885 : Cond.selects RX10 yX10_told yX10_told ∈ lw_tbl := List.mem_append_right _ (List.mem_append_right _ (List.mem_append_right _ (List.mem_append_right _ (List.mem_append_right _ (List.mem_of_getElem? (i := 159) rfl)))))
theorem tw_886 : Cond.code yX10_told cX10_told 3 (some .int) ∈ lw_tbl := List.mem_append_right _ (List.mem_append_right _ (List.mem_append_right _ (List.mem_append_right _ (List.mem_append_right _ (List.mem_of_getElem? (i := 160) rfl)))))
theorem tw_887 : Cond.constantLong RX10 288 (20) ∈ lw_tbl := List.mem_append_right _ (List.mem_append_right _ (List.mem_append_right _ (List.mem_append_right _ (List.mem_append_right _ (List.mem_of_getElem? (i := 161) rfl)))))
theorem lf_wsL_law_r37 : ∀ w ∈ wsL_law_r37, w ∈ lw_tbl := by
  intro w hw
  simp only [wsL_law_r37, List.mem_cons, List.not_mem_nil, or_false] at hw
  rcases hw with rfl | rfl | rfl | rfl | rfl | rfl | rfl | rfl | rfl | rfl | rfl | rfl | rfl | rfl | rfl | rfl | rfl | rfl | rfl | rfl | rfl | rfl | rfl | rfl
  · exact tw_864
  · exact tw_865
  · exact tw_866
  · exact tw_867
  · exact tw_868
  · exact tw_869
  · exact tw_870
  · exact tw_871
  · exact tw_872
  · exact tw_873
  · exact tw_874
  · exact tw_875
  · exact tw_876
  · exact tw_877
  · exact tw_878
  · exact tw_879
  · exact tw_880
  · exact tw_881
  · exact tw_882
  · exact tw_883
  · exact tw_884
  · exact tw_885
  · exact tw_886
  · exact tw_887
theorem tw_888 : Cond.constantLong RX10 290 (23) ∈ lw_tbl := List.mem_append_right _ (List.mem_append_right _ (List.mem_append_right _ (List.mem_append_right _ (List.mem_append_right _ (List.mem_of_getElem? (i := 162) rfl)))))
theorem tw_889 : Cond.constantLong RX10 292 (30) ∈ lw_tbl := List.mem_append_right _ (List.mem_append_right _ (List.mem_append_right _ (List.mem_append_right _ (List.mem_append_right _ (List.mem_of_getElem? (i := 163) rfl)))))
theorem tw_890 : Cond.constantLong RX10 294 (35) ∈ lw_tbl := List.mem_append_right _ (List.mem_append_right _ (List.mem_append_right _ (List.mem_append_right _ (List.mem_append_right _ (List.mem_of_getElem? (i := 164) rfl)))))
theorem lf_wsL_law_r38 : ∀ w ∈ wsL_law_r38, w ∈ lw_tbl := by
  intro w hw
  simp only [wsL_law_r38, List.mem_cons, List.not_mem_nil, or_false] at hw
  rcases hw with rfl | rfl | rfl
  · exact tw_888
  · exact tw_889
  · exact tw_890
theorem tw_891 : u_lay RX9 TX9 0 ∈ lw_tbl := List.mem_append_right _ (List.mem_append_right _ (List.mem_append_left _ (List.mem_of_getElem? (i := 42) rfl)))
theorem tw_892 : u_lay RX9 TX9 1 ∈ lw_tbl := List.mem_append_right _ (List.mem_append_right _ (List.mem_append_left _ (List.mem_of_getElem? (i := 44) rfl)))
theorem tw_893 : u_lay RX9 TX9 2 ∈ lw_tbl := List.mem_append_right _ (List.mem_append_right _ (List.mem_append_left _ (List.mem_of_getElem? (i := 46) rfl)))
theorem tw_894 : u_lay RX9 TX9 3 ∈ lw_tbl := List.mem_append_right _ (List.mem_append_right _ (List.mem_append_left _ (List.mem_of_getElem? (i := 48) rfl)))
theorem tw_895 : u_lay RX9 TX9 4 ∈ lw_tbl := List.mem_append_right _ (List.mem_append_right _ (List.mem_append_left _ (List.mem_of_getElem? (i := 50) rfl)))
theorem tw_896 : u_lay RX9 TX9 5 ∈ lw_tbl := List.mem_append_right _ (List.mem_append_right _ (List.mem_append_left _ (List.mem_of_getElem? (i := 52) rfl)))
theorem tw_897 : u_lay RX9 TX9 6 ∈ lw_tbl := List.mem_append_right _ (List.mem_append_right _ (List.mem_append_left _ (List.mem_of_getElem? (i := 54) rfl)))
theorem tw_898 : u_lay RX9 TX9 7 ∈ lw_tbl := List.mem_append_right _ (List.mem_append_right _ (List.mem_append_left _ (List.mem_of_getElem? (i := 56) rfl)))
theorem tw_899 : u_lay RX9 TX9 8 ∈ lw_tbl := List.mem_append_right _ (List.mem_append_right _ (List.mem_append_left _ (List.mem_of_getElem? (i := 58) rfl)))
theorem tw_900 : u_lay RX9 TX9 9 ∈ lw_tbl := List.mem_append_right _ (List.mem_append_right _ (List.mem_append_left _ (List.mem_of_getElem? (i := 60) rfl)))
theorem lf_wsX90 : ∀ w ∈ wsX90, w ∈ lw_tbl := by
  intro w hw
  obtain ⟨k, hk, rfl⟩ := List.mem_map.mp hw
  have hk := List.mem_range.mp hk
  rcases (show k = 0 ∨ k = 1 ∨ k = 2 ∨ k = 3 ∨ k = 4 ∨ k = 5 ∨ k = 6 ∨ k = 7 ∨ k = 8 ∨ k = 9 by omega) with rfl | rfl | rfl | rfl | rfl | rfl | rfl | rfl | rfl | rfl
  · exact tw_891
  · exact tw_892
  · exact tw_893
  · exact tw_894
  · exact tw_895
  · exact tw_896
  · exact tw_897
  · exact tw_898
  · exact tw_899
  · exact tw_900
theorem tw_901 : u_lay RX10 TX10 0 ∈ lw_tbl := List.mem_append_right _ (List.mem_append_right _ (List.mem_append_right _ (List.mem_append_right _ (List.mem_append_left _ (List.mem_of_getElem? (i := 62) rfl)))))
theorem tw_902 : u_lay RX10 TX10 1 ∈ lw_tbl := List.mem_append_right _ (List.mem_append_right _ (List.mem_append_right _ (List.mem_append_right _ (List.mem_append_left _ (List.mem_of_getElem? (i := 64) rfl)))))
theorem tw_903 : u_lay RX10 TX10 2 ∈ lw_tbl := List.mem_append_right _ (List.mem_append_right _ (List.mem_append_right _ (List.mem_append_right _ (List.mem_append_left _ (List.mem_of_getElem? (i := 66) rfl)))))
theorem tw_904 : u_lay RX10 TX10 3 ∈ lw_tbl := List.mem_append_right _ (List.mem_append_right _ (List.mem_append_right _ (List.mem_append_right _ (List.mem_append_left _ (List.mem_of_getElem? (i := 68) rfl)))))
theorem tw_905 : u_lay RX10 TX10 4 ∈ lw_tbl := List.mem_append_right _ (List.mem_append_right _ (List.mem_append_right _ (List.mem_append_right _ (List.mem_append_left _ (List.mem_of_getElem? (i := 70) rfl)))))
theorem tw_906 : u_lay RX10 TX10 5 ∈ lw_tbl := List.mem_append_right _ (List.mem_append_right _ (List.mem_append_right _ (List.mem_append_right _ (List.mem_append_left _ (List.mem_of_getElem? (i := 72) rfl)))))
theorem tw_907 : u_lay RX10 TX10 6 ∈ lw_tbl := List.mem_append_right _ (List.mem_append_right _ (List.mem_append_right _ (List.mem_append_right _ (List.mem_append_left _ (List.mem_of_getElem? (i := 74) rfl)))))
theorem tw_908 : u_lay RX10 TX10 7 ∈ lw_tbl := List.mem_append_right _ (List.mem_append_right _ (List.mem_append_right _ (List.mem_append_right _ (List.mem_append_left _ (List.mem_of_getElem? (i := 76) rfl)))))
theorem tw_909 : u_lay RX10 TX10 8 ∈ lw_tbl := List.mem_append_right _ (List.mem_append_right _ (List.mem_append_right _ (List.mem_append_right _ (List.mem_append_left _ (List.mem_of_getElem? (i := 78) rfl)))))
theorem tw_910 : u_lay RX10 TX10 9 ∈ lw_tbl := List.mem_append_right _ (List.mem_append_right _ (List.mem_append_right _ (List.mem_append_right _ (List.mem_append_left _ (List.mem_of_getElem? (i := 80) rfl)))))
theorem tw_911 : u_lay RX10 TX10 10 ∈ lw_tbl := List.mem_append_right _ (List.mem_append_right _ (List.mem_append_right _ (List.mem_append_right _ (List.mem_append_left _ (List.mem_of_getElem? (i := 82) rfl)))))
theorem tw_912 : u_lay RX10 TX10 11 ∈ lw_tbl := List.mem_append_right _ (List.mem_append_right _ (List.mem_append_right _ (List.mem_append_right _ (List.mem_append_left _ (List.mem_of_getElem? (i := 84) rfl)))))
theorem tw_913 : u_lay RX10 TX10 12 ∈ lw_tbl := List.mem_append_right _ (List.mem_append_right _ (List.mem_append_right _ (List.mem_append_right _ (List.mem_append_left _ (List.mem_of_getElem? (i := 86) rfl)))))
theorem tw_914 : u_lay RX10 TX10 13 ∈ lw_tbl := List.mem_append_right _ (List.mem_append_right _ (List.mem_append_right _ (List.mem_append_right _ (List.mem_append_left _ (List.mem_of_getElem? (i := 88) rfl)))))
theorem tw_915 : u_lay RX10 TX10 14 ∈ lw_tbl := List.mem_append_right _ (List.mem_append_right _ (List.mem_append_right _ (List.mem_append_right _ (List.mem_append_left _ (List.mem_of_getElem? (i := 90) rfl)))))
theorem tw_916 : u_lay RX10 TX10 15 ∈ lw_tbl := List.mem_append_right _ (List.mem_append_right _ (List.mem_append_right _ (List.mem_append_right _ (List.mem_append_left _ (List.mem_of_getElem? (i := 92) rfl)))))
theorem tw_917 : u_lay RX10 TX10 16 ∈ lw_tbl := List.mem_append_right _ (List.mem_append_right _ (List.mem_append_right _ (List.mem_append_right _ (List.mem_append_left _ (List.mem_of_getElem? (i := 94) rfl)))))
theorem tw_918 : u_lay RX10 TX10 17 ∈ lw_tbl := List.mem_append_right _ (List.mem_append_right _ (List.mem_append_right _ (List.mem_append_right _ (List.mem_append_left _ (List.mem_of_getElem? (i := 96) rfl)))))
theorem tw_919 : u_lay RX10 TX10 18 ∈ lw_tbl := List.mem_append_right _ (List.mem_append_right _ (List.mem_append_right _ (List.mem_append_right _ (List.mem_append_left _ (List.mem_of_getElem? (i := 98) rfl)))))
theorem tw_920 : u_lay RX10 TX10 19 ∈ lw_tbl := List.mem_append_right _ (List.mem_append_right _ (List.mem_append_right _ (List.mem_append_right _ (List.mem_append_left _ (List.mem_of_getElem? (i := 100) rfl)))))
theorem tw_921 : u_lay RX10 TX10 20 ∈ lw_tbl := List.mem_append_right _ (List.mem_append_right _ (List.mem_append_right _ (List.mem_append_right _ (List.mem_append_left _ (List.mem_of_getElem? (i := 102) rfl)))))
theorem tw_922 : u_lay RX10 TX10 21 ∈ lw_tbl := List.mem_append_right _ (List.mem_append_right _ (List.mem_append_right _ (List.mem_append_right _ (List.mem_append_left _ (List.mem_of_getElem? (i := 104) rfl)))))
theorem tw_923 : u_lay RX10 TX10 22 ∈ lw_tbl := List.mem_append_right _ (List.mem_append_right _ (List.mem_append_right _ (List.mem_append_right _ (List.mem_append_left _ (List.mem_of_getElem? (i := 106) rfl)))))
theorem tw_924 : u_lay RX10 TX10 23 ∈ lw_tbl := List.mem_append_right _ (List.mem_append_right _ (List.mem_append_right _ (List.mem_append_right _ (List.mem_append_left _ (List.mem_of_getElem? (i := 108) rfl)))))
theorem tw_925 : u_lay RX10 TX10 24 ∈ lw_tbl := List.mem_append_right _ (List.mem_append_right _ (List.mem_append_right _ (List.mem_append_right _ (List.mem_append_left _ (List.mem_of_getElem? (i := 110) rfl)))))
theorem tw_926 : u_lay RX10 TX10 25 ∈ lw_tbl := List.mem_append_right _ (List.mem_append_right _ (List.mem_append_right _ (List.mem_append_right _ (List.mem_append_left _ (List.mem_of_getElem? (i := 112) rfl)))))
theorem tw_927 : u_lay RX10 TX10 26 ∈ lw_tbl := List.mem_append_right _ (List.mem_append_right _ (List.mem_append_right _ (List.mem_append_right _ (List.mem_append_left _ (List.mem_of_getElem? (i := 114) rfl)))))
theorem tw_928 : u_lay RX10 TX10 27 ∈ lw_tbl := List.mem_append_right _ (List.mem_append_right _ (List.mem_append_right _ (List.mem_append_right _ (List.mem_append_left _ (List.mem_of_getElem? (i := 116) rfl)))))
theorem tw_929 : u_lay RX10 TX10 28 ∈ lw_tbl := List.mem_append_right _ (List.mem_append_right _ (List.mem_append_right _ (List.mem_append_right _ (List.mem_append_left _ (List.mem_of_getElem? (i := 118) rfl)))))
theorem tw_930 : u_lay RX10 TX10 29 ∈ lw_tbl := List.mem_append_right _ (List.mem_append_right _ (List.mem_append_right _ (List.mem_append_right _ (List.mem_append_left _ (List.mem_of_getElem? (i := 120) rfl)))))
theorem lf_wsX100 : ∀ w ∈ wsX100, w ∈ lw_tbl := by
  intro w hw
  obtain ⟨k, hk, rfl⟩ := List.mem_map.mp hw
  have hk := List.mem_range.mp hk
  rcases (show k = 0 ∨ k = 1 ∨ k = 2 ∨ k = 3 ∨ k = 4 ∨ k = 5 ∨ k = 6 ∨ k = 7 ∨ k = 8 ∨ k = 9 ∨ k = 10 ∨ k = 11 ∨ k = 12 ∨ k = 13 ∨ k = 14 ∨ k = 15 ∨ k = 16 ∨ k = 17 ∨ k = 18 ∨ k = 19 ∨ k = 20 ∨ k = 21 ∨ k = 22 ∨ k = 23 ∨ k = 24 ∨ k = 25 ∨ k = 26 ∨ k = 27 ∨ k = 28 ∨ k = 29 by omega) with rfl | rfl | rfl | rfl | rfl | rfl | rfl | rfl | rfl | rfl | rfl | rfl | rfl | rfl | rfl | rfl | rfl | rfl | rfl | rfl | rfl | rfl | rfl | rfl | rfl | rfl | rfl | rfl | rfl | rfl
  · exact tw_901
  · exact tw_902
  · exact tw_903
  · exact tw_904
  · exact tw_905
  · exact tw_906
  · exact tw_907
  · exact tw_908
  · exact tw_909
  · exact tw_910
  · exact tw_911
  · exact tw_912
  · exact tw_913
  · exact tw_914
  · exact tw_915
  · exact tw_916
  · exact tw_917
  · exact tw_918
  · exact tw_919
  · exact tw_920
  · exact tw_921
  · exact tw_922
  · exact tw_923
  · exact tw_924
  · exact tw_925
  · exact tw_926
  · exact tw_927
  · exact tw_928
  · exact tw_929
  · exact tw_930
theorem tw_931 : u_lay RX6 TX6 0 ∈ lw_tbl := List.mem_append_right _ (List.mem_append_left _ (List.mem_of_getElem? (i := 34) rfl))
theorem tw_932 : u_lay RX6 TX6 1 ∈ lw_tbl := List.mem_append_right _ (List.mem_append_left _ (List.mem_of_getElem? (i := 36) rfl))
theorem lf_wsX60 : ∀ w ∈ wsX60, w ∈ lw_tbl := by
  intro w hw
  obtain ⟨k, hk, rfl⟩ := List.mem_map.mp hw
  have hk := List.mem_range.mp hk
  rcases (show k = 0 ∨ k = 1 by omega) with rfl | rfl
  · exact tw_931
  · exact tw_932
theorem tw_933 : u_lay RX0 TX0 0 ∈ lw_tbl := List.mem_append_right _ (List.mem_append_left _ (List.mem_of_getElem? (i := 76) rfl))
theorem tw_934 : u_lay RX0 TX0 1 ∈ lw_tbl := List.mem_append_right _ (List.mem_append_left _ (List.mem_of_getElem? (i := 78) rfl))
theorem tw_935 : u_lay RX0 TX0 2 ∈ lw_tbl := List.mem_append_right _ (List.mem_append_left _ (List.mem_of_getElem? (i := 80) rfl))
theorem tw_936 : u_lay RX0 TX0 3 ∈ lw_tbl := List.mem_append_right _ (List.mem_append_left _ (List.mem_of_getElem? (i := 82) rfl))
theorem tw_937 : u_lay RX0 TX0 4 ∈ lw_tbl := List.mem_append_right _ (List.mem_append_left _ (List.mem_of_getElem? (i := 84) rfl))
theorem tw_938 : u_lay RX0 TX0 5 ∈ lw_tbl := List.mem_append_right _ (List.mem_append_left _ (List.mem_of_getElem? (i := 86) rfl))
theorem tw_939 : u_lay RX0 TX0 6 ∈ lw_tbl := List.mem_append_right _ (List.mem_append_left _ (List.mem_of_getElem? (i := 88) rfl))
theorem tw_940 : u_lay RX0 TX0 7 ∈ lw_tbl := List.mem_append_right _ (List.mem_append_left _ (List.mem_of_getElem? (i := 90) rfl))
theorem tw_941 : u_lay RX0 TX0 8 ∈ lw_tbl := List.mem_append_right _ (List.mem_append_left _ (List.mem_of_getElem? (i := 92) rfl))
theorem tw_942 : u_lay RX0 TX0 9 ∈ lw_tbl := List.mem_append_right _ (List.mem_append_left _ (List.mem_of_getElem? (i := 94) rfl))
theorem lf_wsX00 : ∀ w ∈ wsX00, w ∈ lw_tbl := by
  intro w hw
  obtain ⟨k, hk, rfl⟩ := List.mem_map.mp hw
  have hk := List.mem_range.mp hk
  rcases (show k = 0 ∨ k = 1 ∨ k = 2 ∨ k = 3 ∨ k = 4 ∨ k = 5 ∨ k = 6 ∨ k = 7 ∨ k = 8 ∨ k = 9 by omega) with rfl | rfl | rfl | rfl | rfl | rfl | rfl | rfl | rfl | rfl
  · exact tw_933
  · exact tw_934
  · exact tw_935
  · exact tw_936
  · exact tw_937
  · exact tw_938
  · exact tw_939
  · exact tw_940
  · exact tw_941
  · exact tw_942
theorem tw_943 : u_lay RX1 TX1 0 ∈ lw_tbl := List.mem_append_right _ (List.mem_append_left _ (List.mem_of_getElem? (i := 147) rfl))
theorem tw_944 : u_lay RX1 TX1 1 ∈ lw_tbl := List.mem_append_right _ (List.mem_append_left _ (List.mem_of_getElem? (i := 149) rfl))
theorem tw_945 : u_lay RX1 TX1 2 ∈ lw_tbl := List.mem_append_right _ (List.mem_append_left _ (List.mem_of_getElem? (i := 151) rfl))
theorem tw_946 : u_lay RX1 TX1 3 ∈ lw_tbl := List.mem_append_right _ (List.mem_append_left _ (List.mem_of_getElem? (i := 153) rfl))
theorem tw_947 : u_lay RX1 TX1 4 ∈ lw_tbl := List.mem_append_right _ (List.mem_append_left _ (List.mem_of_getElem? (i := 155) rfl))
theorem tw_948 : u_lay RX1 TX1 5 ∈ lw_tbl := List.mem_append_right _ (List.mem_append_left _ (List.mem_of_getElem? (i := 157) rfl))
theorem tw_949 : u_lay RX1 TX1 6 ∈ lw_tbl := List.mem_append_right _ (List.mem_append_left _ (List.mem_of_getElem? (i := 159) rfl))
theorem tw_950 : u_lay RX1 TX1 7 ∈ lw_tbl := List.mem_append_right _ (List.mem_append_left _ (List.mem_of_getElem? (i := 161) rfl))
theorem lf_wsX10 : ∀ w ∈ wsX10, w ∈ lw_tbl := by
  intro w hw
  obtain ⟨k, hk, rfl⟩ := List.mem_map.mp hw
  have hk := List.mem_range.mp hk
  rcases (show k = 0 ∨ k = 1 ∨ k = 2 ∨ k = 3 ∨ k = 4 ∨ k = 5 ∨ k = 6 ∨ k = 7 by omega) with rfl | rfl | rfl | rfl | rfl | rfl | rfl | rfl
  · exact tw_943
  · exact tw_944
  · exact tw_945
  · exact tw_946
  · exact tw_947
  · exact tw_948
  · exact tw_949
  · exact tw_950
theorem tw_951 : u_lay RX4 TX4 0 ∈ lw_tbl := List.mem_append_right _ (List.mem_append_left _ (List.mem_of_getElem? (i := 191) rfl))
theorem tw_952 : u_lay RX4 TX4 1 ∈ lw_tbl := List.mem_append_right _ (List.mem_append_left _ (List.mem_of_getElem? (i := 193) rfl))
theorem tw_953 : u_lay RX4 TX4 2 ∈ lw_tbl := List.mem_append_right _ (List.mem_append_left _ (List.mem_of_getElem? (i := 195) rfl))
theorem tw_954 : u_lay RX4 TX4 3 ∈ lw_tbl := List.mem_append_right _ (List.mem_append_left _ (List.mem_of_getElem? (i := 197) rfl))
theorem tw_955 : u_lay RX4 TX4 4 ∈ lw_tbl := List.mem_append_right _ (List.mem_append_left _ (List.mem_of_getElem? (i := 199) rfl))
theorem tw_956 : u_lay RX4 TX4 5 ∈ lw_tbl := List.mem_append_right _ (List.mem_append_left _ (List.mem_of_getElem? (i := 201) rfl))
theorem tw_957 : u_lay RX4 TX4 6 ∈ lw_tbl := List.mem_append_right _ (List.mem_append_left _ (List.mem_of_getElem? (i := 203) rfl))
theorem tw_958 : u_lay RX4 TX4 7 ∈ lw_tbl := List.mem_append_right _ (List.mem_append_left _ (List.mem_of_getElem? (i := 205) rfl))
theorem tw_959 : u_lay RX4 TX4 8 ∈ lw_tbl := List.mem_append_right _ (List.mem_append_left _ (List.mem_of_getElem? (i := 207) rfl))
theorem tw_960 : u_lay RX4 TX4 9 ∈ lw_tbl := List.mem_append_right _ (List.mem_append_left _ (List.mem_of_getElem? (i := 209) rfl))
theorem lf_wsX40 : ∀ w ∈ wsX40, w ∈ lw_tbl := by
  intro w hw
  obtain ⟨k, hk, rfl⟩ := List.mem_map.mp hw
  have hk := List.mem_range.mp hk
  rcases (show k = 0 ∨ k = 1 ∨ k = 2 ∨ k = 3 ∨ k = 4 ∨ k = 5 ∨ k = 6 ∨ k = 7 ∨ k = 8 ∨ k = 9 by omega) with rfl | rfl | rfl | rfl | rfl | rfl | rfl | rfl | rfl | rfl
  · exact tw_951
  · exact tw_952
  · exact tw_953
  · exact tw_954
  · exact tw_955
  · exact tw_956
  · exact tw_957
  · exact tw_958
  · exact tw_959
  · exact tw_960
theorem tw_961 : u_lay RX5 TX5 0 ∈ lw_tbl := List.mem_append_right _ (List.mem_append_left _ (List.mem_of_getElem? (i := 223) rfl))
theorem tw_962 : u_lay RX5 TX5 1 ∈ lw_tbl := List.mem_append_right _ (List.mem_append_left _ (List.mem_of_getElem? (i := 225) rfl))
theorem tw_963 : u_lay RX5 TX5 2 ∈ lw_tbl := List.mem_append_right _ (List.mem_append_left _ (List.mem_of_getElem? (i := 227) rfl))
theorem tw_964 : u_lay RX5 TX5 3 ∈ lw_tbl := List.mem_append_right _ (List.mem_append_left _ (List.mem_of_getElem? (i := 229) rfl))
theorem lf_wsX50 : ∀ w ∈ wsX50, w ∈ lw_tbl := by
  intro w hw
  obtain ⟨k, hk, rfl⟩ := List.mem_map.mp hw
  have hk := List.mem_range.mp hk
  rcases (show k = 0 ∨ k = 1 ∨ k = 2 ∨ k = 3 by omega) with rfl | rfl | rfl | rfl
  · exact tw_961
  · exact tw_962
  · exact tw_963
  · exact tw_964
theorem tw_965 : u_lay RX2 TX2 0 ∈ lw_tbl := List.mem_append_right _ (List.mem_append_right _ (List.mem_append_left _ (List.mem_of_getElem? (i := 0) rfl)))
theorem lf_wsX20 : ∀ w ∈ wsX20, w ∈ lw_tbl := by
  intro w hw
  obtain ⟨k, hk, rfl⟩ := List.mem_map.mp hw
  have hk := List.mem_range.mp hk
  rcases (show k = 0 by omega) with rfl
  · exact tw_965
theorem tw_966 : u_lay RX8 TX8 0 ∈ lw_tbl := List.mem_append_right _ (List.mem_append_right _ (List.mem_append_left _ (List.mem_of_getElem? (i := 13) rfl)))
theorem tw_967 : u_lay RX8 TX8 1 ∈ lw_tbl := List.mem_append_right _ (List.mem_append_right _ (List.mem_append_left _ (List.mem_of_getElem? (i := 15) rfl)))
theorem tw_968 : u_lay RX8 TX8 2 ∈ lw_tbl := List.mem_append_right _ (List.mem_append_right _ (List.mem_append_left _ (List.mem_of_getElem? (i := 17) rfl)))
theorem tw_969 : u_lay RX8 TX8 3 ∈ lw_tbl := List.mem_append_right _ (List.mem_append_right _ (List.mem_append_left _ (List.mem_of_getElem? (i := 19) rfl)))
theorem lf_wsX80 : ∀ w ∈ wsX80, w ∈ lw_tbl := by
  intro w hw
  obtain ⟨k, hk, rfl⟩ := List.mem_map.mp hw
  have hk := List.mem_range.mp hk
  rcases (show k = 0 ∨ k = 1 ∨ k = 2 ∨ k = 3 by omega) with rfl | rfl | rfl | rfl
  · exact tw_966
  · exact tw_967
  · exact tw_968
  · exact tw_969
theorem tw_970 : u_lay RX7 TX7 0 ∈ lw_tbl := List.mem_append_right _ (List.mem_append_right _ (List.mem_append_left _ (List.mem_of_getElem? (i := 29) rfl)))
theorem lf_wsX70 : ∀ w ∈ wsX70, w ∈ lw_tbl := by
  intro w hw
  obtain ⟨k, hk, rfl⟩ := List.mem_map.mp hw
  have hk := List.mem_range.mp hk
  rcases (show k = 0 by omega) with rfl
  · exact tw_970
theorem tw_971 : u_lay RX3 TX3 0 ∈ lw_tbl := List.mem_append_right _ (List.mem_append_left _ (List.mem_of_getElem? (i := 119) rfl))
theorem tw_972 : u_lay RX3 TX3 1 ∈ lw_tbl := List.mem_append_right _ (List.mem_append_left _ (List.mem_of_getElem? (i := 121) rfl))
theorem tw_973 : u_lay RX3 TX3 2 ∈ lw_tbl := List.mem_append_right _ (List.mem_append_left _ (List.mem_of_getElem? (i := 123) rfl))
theorem tw_974 : u_lay RX3 TX3 3 ∈ lw_tbl := List.mem_append_right _ (List.mem_append_left _ (List.mem_of_getElem? (i := 125) rfl))
theorem tw_975 : u_lay RX3 TX3 4 ∈ lw_tbl := List.mem_append_right _ (List.mem_append_left _ (List.mem_of_getElem? (i := 127) rfl))
theorem tw_976 : u_lay RX3 TX3 5 ∈ lw_tbl := List.mem_append_right _ (List.mem_append_left _ (List.mem_of_getElem? (i := 129) rfl))
theorem tw_977 : u_lay RX3 TX3 6 ∈ lw_tbl := List.mem_append_right _ (List.mem_append_left _ (List.mem_of_getElem? (i := 131) rfl))
theorem lf_wsX30 : ∀ w ∈ wsX30, w ∈ lw_tbl := by
  intro w hw
  obtain ⟨k, hk, rfl⟩ := List.mem_map.mp hw
  have hk := List.mem_range.mp hk
  rcases (show k = 0 ∨ k = 1 ∨ k = 2 ∨ k = 3 ∨ k = 4 ∨ k = 5 ∨ k = 6 by omega) with rfl | rfl | rfl | rfl | rfl | rfl | rfl
  · exact tw_971
  · exact tw_972
  · exact tw_973
  · exact tw_974
  · exact tw_975
  · exact tw_976
  · exact tw_977
set_option maxRecDepth 100000 in
theorem wsL_law_in : ∀ w ∈ wsL_law, w ∈ lw_tbl := by
  intro w h
  unfold wsL_law at h
  exact (List.mem_append.mp h).elim (fun h => (List.mem_append.mp h).elim (fun h => (List.mem_append.mp h).elim (fun h => (List.mem_append.mp h).elim (fun h => (List.mem_append.mp h).elim (fun h => (List.mem_append.mp h).elim (fun h => (List.mem_append.mp h).elim (fun h => (List.mem_append.mp h).elim (fun h => (List.mem_append.mp h).elim (fun h => (List.mem_append.mp h).elim (fun h => (List.mem_append.mp h).elim (fun h => (List.mem_append.mp h).elim (fun h => (List.mem_append.mp h).elim (fun h => lf_wsL_law_r1 w h) (fun h => (List.mem_append.mp h).elim (fun h => lf_wsL_law_r2 w h) (fun h => (List.mem_append.mp h).elim (fun h => lf_wsL_law_r3 w h) (fun h => (List.mem_append.mp h).elim (fun h => lf_wsL_law_r4 w h) (fun h => (List.mem_append.mp h).elim (fun h => lf_wsL_law_r5 w h) (fun h => (List.mem_append.mp h).elim (fun h => lf_wsL_law_r6 w h) (fun h => (List.mem_append.mp h).elim (fun h => lf_wsL_law_r7 w h) (fun h => (List.mem_append.mp h).elim (fun h => lf_wsL_law_r8 w h) (fun h => (List.mem_append.mp h).elim (fun h => lf_wsL_law_r9 w h) (fun h => (List.mem_append.mp h).elim (fun h => lf_wsL_law_r10 w h) (fun h => (List.mem_append.mp h).elim (fun h => lf_wsL_law_r11 w h) (fun h => (List.mem_append.mp h).elim (fun h => lf_wsL_law_r12 w h) (fun h => (List.mem_append.mp h).elim (fun h => lf_wsL_law_r13 w h) (fun h => (List.mem_append.mp h).elim (fun h => lf_wsL_law_r14 w h) (fun h => (List.mem_append.mp h).elim (fun h => lf_wsL_law_r15 w h) (fun h => (List.mem_append.mp h).elim (fun h => lf_wsL_law_r16 w h) (fun h => (List.mem_append.mp h).elim (fun h => lf_wsL_law_r17 w h) (fun h => (List.mem_append.mp h).elim (fun h => lf_wsL_law_r18 w h) (fun h => (List.mem_append.mp h).elim (fun h => lf_wsL_law_r19 w h) (fun h => (List.mem_append.mp h).elim (fun h => lf_wsL_law_r20 w h) (fun h => (List.mem_append.mp h).elim (fun h => lf_wsL_law_r21 w h) (fun h => (List.mem_append.mp h).elim (fun h => lf_wsL_law_r22 w h) (fun h => (List.mem_append.mp h).elim (fun h => lf_wsL_law_r23 w h) (fun h => (List.mem_append.mp h).elim (fun h => lf_wsL_law_r24 w h) (fun h => (List.mem_append.mp h).elim (fun h => lf_wsL_law_r25 w h) (fun h => (List.mem_append.mp h).elim (fun h => lf_wsL_law_r26 w h) (fun h => (List.mem_append.mp h).elim (fun h => lf_wsL_law_r27 w h) (fun h => (List.mem_append.mp h).elim (fun h => lf_wsL_law_r28 w h) (fun h => (List.mem_append.mp h).elim (fun h => lf_wsL_law_r29 w h) (fun h => (List.mem_append.mp h).elim (fun h => lf_wsL_law_r30 w h) (fun h => (List.mem_append.mp h).elim (fun h => lf_wsL_law_r31 w h) (fun h => (List.mem_append.mp h).elim (fun h => lf_wsL_law_r32 w h) (fun h => (List.mem_append.mp h).elim (fun h => lf_wsL_law_r33 w h) (fun h => (List.mem_append.mp h).elim (fun h => lf_wsL_law_r34 w h) (fun h => (List.mem_append.mp h).elim (fun h => lf_wsL_law_r35 w h) (fun h => (List.mem_append.mp h).elim (fun h => lf_wsL_law_r36 w h) (fun h => (List.mem_append.mp h).elim (fun h => lf_wsL_law_r37 w h) (fun h => lf_wsL_law_r38 w h)))))))))))))))))))))))))))))))))))))) (fun h => lf_wsX90 w h)) (fun h => lf_wsX100 w h)) (fun h => lf_wsX60 w h)) (fun h => lf_wsX00 w h)) (fun h => lf_wsX10 w h)) (fun h => lf_wsX40 w h)) (fun h => lf_wsX50 w h)) (fun h => lf_wsX20 w h)) (fun h => lf_wsX80 w h)) (fun h => lf_wsX70 w h)) (fun h => lf_wsX30 w h)) (fun h => absurd h List.not_mem_nil)
